def ztdX1_readsCondition_0 : List (Nat × Instr × Nat) := [(0, .aload_n 0, 1), (1, .iload_n 1, 1), (2, .invokevirtual 64, 3), (5, .ifCond .eq 23, 3), (8, .aload_n 0, 1), (9, .iload_n 1, 1), (10, .invokevirtual 55, 3), (13, .ifCond .eq 15, 3), (16, .aload_n 0, 1), (17, .iload_n 1, 1), (18, .invokevirtual 58, 3), (21, .ifCond .eq 7, 3), (24, .iconst 1, 1), (25, .goto 4, 3), (28, .iconst 0, 1), (29, .ireturn, 1)]
theorem zhdX1_readsCondition_0 : dzC ztdX1_readsCondition_0 0 (cX1_readsCondition.data.toList.drop 0) = true := by decide +kernel
theorem dX1_readsCondition_0 : decode cX1_readsCondition 0 = .ok (.aload_n 0, 1) := dzr zhdX1_readsCondition_0 0 rfl
theorem dX1_readsCondition_1 : decode cX1_readsCondition 1 = .ok (.iload_n 1, 1) := dzr zhdX1_readsCondition_0 1 rfl
theorem dX1_readsCondition_2 : decode cX1_readsCondition 2 = .ok (.invokevirtual 64, 3) := dzr zhdX1_readsCondition_0 2 rfl
theorem dX1_readsCondition_5 : decode cX1_readsCondition 5 = .ok (.ifCond .eq 23, 3) := dzr zhdX1_readsCondition_0 3 rfl
theorem dX1_readsCondition_8 : decode cX1_readsCondition 8 = .ok (.aload_n 0, 1) := dzr zhdX1_readsCondition_0 4 rfl
theorem dX1_readsCondition_9 : decode cX1_readsCondition 9 = .ok (.iload_n 1, 1) := dzr zhdX1_readsCondition_0 5 rfl
theorem dX1_readsCondition_10 : decode cX1_readsCondition 10 = .ok (.invokevirtual 55, 3) := dzr zhdX1_readsCondition_0 6 rfl
theorem dX1_readsCondition_13 : decode cX1_readsCondition 13 = .ok (.ifCond .eq 15, 3) := dzr zhdX1_readsCondition_0 7 rfl
theorem dX1_readsCondition_16 : decode cX1_readsCondition 16 = .ok (.aload_n 0, 1) := dzr zhdX1_readsCondition_0 8 rfl
theorem dX1_readsCondition_17 : decode cX1_readsCondition 17 = .ok (.iload_n 1, 1) := dzr zhdX1_readsCondition_0 9 rfl
theorem dX1_readsCondition_18 : decode cX1_readsCondition 18 = .ok (.invokevirtual 58, 3) := dzr zhdX1_readsCondition_0 10 rfl
theorem dX1_readsCondition_21 : decode cX1_readsCondition 21 = .ok (.ifCond .eq 7, 3) := dzr zhdX1_readsCondition_0 11 rfl
theorem dX1_readsCondition_24 : decode cX1_readsCondition 24 = .ok (.iconst 1, 1) := dzr zhdX1_readsCondition_0 12 rfl
theorem dX1_readsCondition_25 : decode cX1_readsCondition 25 = .ok (.goto 4, 3) := dzr zhdX1_readsCondition_0 13 rfl
theorem dX1_readsCondition_28 : decode cX1_readsCondition 28 = .ok (.iconst 0, 1) := dzr zhdX1_readsCondition_0 14 rfl
theorem dX1_readsCondition_29 : decode cX1_readsCondition 29 = .ok (.ireturn, 1) := dzr zhdX1_readsCondition_0 15 rfl
theorem ggX1_readsMoreTruths_X10_take : GoodIn wsX1_readsMoreTruths wsX10_take := (bg_up (bg_law (bi_wsL_law0_r12 _ (List.mem_of_getElem? (i := 12) rfl))))
theorem gX1_readsMoreTruths_X10_take : GoodIn wsX1_readsMoreTruths (wsV RX1 38 RX10 yX10_take wsX10_take) := goodIn_app (bg_up (bg_cons (bi_wsL_law0_r12 _ (List.mem_of_getElem? (i := 23) rfl)) (bg_cons (bi_wsL_law0_r12 _ (List.mem_of_getElem? (i := 10) rfl)) (bg_cons (bi_wsL_law0_r12 _ (List.mem_of_getElem? (i := 11) rfl)) (bg_cons (bi_wsL_law0_r1 _ (List.mem_of_getElem? (i := 16) rfl)) bg_nil))))) (bg_up (bg_law (bi_wsL_law0_r12 _ (List.mem_of_getElem? (i := 12) rfl))))
theorem ggX1_readsMoreTruths_X1_readsUnit : GoodIn wsX1_readsMoreTruths wsX1_readsUnit := (bg_up (bg_law (bi_wsL_law0_r13 _ (List.mem_of_getElem? (i := 20) rfl))))
theorem gX1_readsMoreTruths_X1_readsUnit : GoodIn wsX1_readsMoreTruths (wsV RX1 64 RX1 yX1_readsUnit wsX1_readsUnit) := goodIn_app (bg_up (bg_cons (bi_wsL_law0_r13 _ (List.mem_of_getElem? (i := 5) rfl)) (bg_cons (bi_wsL_law0_r13 _ (List.mem_of_getElem? (i := 6) rfl)) (bg_cons (bi_wsL_law0_r13 _ (List.mem_of_getElem? (i := 7) rfl)) (bg_cons (bi_wsL_law0_r2 _ (List.mem_of_getElem? (i := 0) rfl)) bg_nil))))) (bg_up (bg_law (bi_wsL_law0_r13 _ (List.mem_of_getElem? (i := 20) rfl))))
theorem ggX1_readsMoreTruths_X1_readsMoreUnits : GoodIn wsX1_readsMoreTruths wsX1_readsMoreUnits := (bg_up (bg_law (bi_wsL_law0_r13 _ (List.mem_of_getElem? (i := 19) rfl))))
theorem gX1_readsMoreTruths_X1_readsMoreUnits : GoodIn wsX1_readsMoreTruths (wsV RX1 55 RX1 yX1_readsMoreUnits wsX1_readsMoreUnits) := goodIn_app (bg_up (bg_cons (bi_wsL_law0_r13 _ (List.mem_of_getElem? (i := 8) rfl)) (bg_cons (bi_wsL_law0_r13 _ (List.mem_of_getElem? (i := 9) rfl)) (bg_cons (bi_wsL_law0_r13 _ (List.mem_of_getElem? (i := 10) rfl)) (bg_cons (bi_wsL_law0_r2 _ (List.mem_of_getElem? (i := 0) rfl)) bg_nil))))) (bg_up (bg_law (bi_wsL_law0_r13 _ (List.mem_of_getElem? (i := 19) rfl))))
theorem ggX1_readsMoreTruths_X1_put : GoodIn wsX1_readsMoreTruths wsX1_put := (bg_up (bg_law (bi_wsL_law0_r13 _ (List.mem_of_getElem? (i := 18) rfl))))
theorem gX1_readsMoreTruths_X1_put : GoodIn wsX1_readsMoreTruths (wsV RX1 61 RX1 yX1_put wsX1_put) := goodIn_app (bg_up (bg_cons (bi_wsL_law0_r13 _ (List.mem_of_getElem? (i := 15) rfl)) (bg_cons (bi_wsL_law0_r13 _ (List.mem_of_getElem? (i := 16) rfl)) (bg_cons (bi_wsL_law0_r13 _ (List.mem_of_getElem? (i := 17) rfl)) (bg_cons (bi_wsL_law0_r2 _ (List.mem_of_getElem? (i := 0) rfl)) bg_nil))))) (bg_up (bg_law (bi_wsL_law0_r13 _ (List.mem_of_getElem? (i := 18) rfl))))
def ztdX1_readsMoreTruths_0 : List (Nat × Instr × Nat) := [(0, .iconst 0, 1), (1, .istore_n 2, 1), (2, .iload_n 2, 1), (3, .sipush 240, 3), (6, .if_icmp .ge 48, 3), (9, .aload_n 0, 1), (10, .getfield 17, 3), (13, .bipush 124, 2), (15, .invokevirtual 38, 3), (18, .ifCond .eq 36, 3), (21, .aload_n 0, 1), (22, .iload_n 1, 1), (23, .invokevirtual 64, 3), (26, .ifCond .eq 20, 3), (29, .aload_n 0, 1), (30, .iload_n 1, 1), (31, .invokevirtual 55, 3), (34, .ifCond .eq 12, 3), (37, .aload_n 0, 1), (38, .bipush (-10), 2), (40, .invokevirtual 61, 3), (43, .ifCond .ne 5, 3), (46, .iconst 0, 1), (47, .ireturn, 1)]
theorem zhdX1_readsMoreTruths_0 : dzC ztdX1_readsMoreTruths_0 0 (cX1_readsMoreTruths.data.toList.drop 0) = true := by decide +kernel
theorem dX1_readsMoreTruths_0 : decode cX1_readsMoreTruths 0 = .ok (.iconst 0, 1) := dzr zhdX1_readsMoreTruths_0 0 rfl
theorem dX1_readsMoreTruths_1 : decode cX1_readsMoreTruths 1 = .ok (.istore_n 2, 1) := dzr zhdX1_readsMoreTruths_0 1 rfl
theorem dX1_readsMoreTruths_2 : decode cX1_readsMoreTruths 2 = .ok (.iload_n 2, 1) := dzr zhdX1_readsMoreTruths_0 2 rfl
theorem dX1_readsMoreTruths_3 : decode cX1_readsMoreTruths 3 = .ok (.sipush 240, 3) := dzr zhdX1_readsMoreTruths_0 3 rfl
theorem dX1_readsMoreTruths_6 : decode cX1_readsMoreTruths 6 = .ok (.if_icmp .ge 48, 3) := dzr zhdX1_readsMoreTruths_0 4 rfl
theorem dX1_readsMoreTruths_9 : decode cX1_readsMoreTruths 9 = .ok (.aload_n 0, 1) := dzr zhdX1_readsMoreTruths_0 5 rfl
theorem dX1_readsMoreTruths_10 : decode cX1_readsMoreTruths 10 = .ok (.getfield 17, 3) := dzr zhdX1_readsMoreTruths_0 6 rfl
theorem dX1_readsMoreTruths_13 : decode cX1_readsMoreTruths 13 = .ok (.bipush 124, 2) := dzr zhdX1_readsMoreTruths_0 7 rfl
theorem dX1_readsMoreTruths_15 : decode cX1_readsMoreTruths 15 = .ok (.invokevirtual 38, 3) := dzr zhdX1_readsMoreTruths_0 8 rfl
theorem dX1_readsMoreTruths_18 : decode cX1_readsMoreTruths 18 = .ok (.ifCond .eq 36, 3) := dzr zhdX1_readsMoreTruths_0 9 rfl
theorem dX1_readsMoreTruths_21 : decode cX1_readsMoreTruths 21 = .ok (.aload_n 0, 1) := dzr zhdX1_readsMoreTruths_0 10 rfl
theorem dX1_readsMoreTruths_22 : decode cX1_readsMoreTruths 22 = .ok (.iload_n 1, 1) := dzr zhdX1_readsMoreTruths_0 11 rfl
theorem dX1_readsMoreTruths_23 : decode cX1_readsMoreTruths 23 = .ok (.invokevirtual 64, 3) := dzr zhdX1_readsMoreTruths_0 12 rfl
theorem dX1_readsMoreTruths_26 : decode cX1_readsMoreTruths 26 = .ok (.ifCond .eq 20, 3) := dzr zhdX1_readsMoreTruths_0 13 rfl
theorem dX1_readsMoreTruths_29 : decode cX1_readsMoreTruths 29 = .ok (.aload_n 0, 1) := dzr zhdX1_readsMoreTruths_0 14 rfl
theorem dX1_readsMoreTruths_30 : decode cX1_readsMoreTruths 30 = .ok (.iload_n 1, 1) := dzr zhdX1_readsMoreTruths_0 15 rfl
theorem dX1_readsMoreTruths_31 : decode cX1_readsMoreTruths 31 = .ok (.invokevirtual 55, 3) := dzr zhdX1_readsMoreTruths_0 16 rfl
theorem dX1_readsMoreTruths_34 : decode cX1_readsMoreTruths 34 = .ok (.ifCond .eq 12, 3) := dzr zhdX1_readsMoreTruths_0 17 rfl
theorem dX1_readsMoreTruths_37 : decode cX1_readsMoreTruths 37 = .ok (.aload_n 0, 1) := dzr zhdX1_readsMoreTruths_0 18 rfl
theorem dX1_readsMoreTruths_38 : decode cX1_readsMoreTruths 38 = .ok (.bipush (-10), 2) := dzr zhdX1_readsMoreTruths_0 19 rfl
theorem dX1_readsMoreTruths_40 : decode cX1_readsMoreTruths 40 = .ok (.invokevirtual 61, 3) := dzr zhdX1_readsMoreTruths_0 20 rfl
theorem dX1_readsMoreTruths_43 : decode cX1_readsMoreTruths 43 = .ok (.ifCond .ne 5, 3) := dzr zhdX1_readsMoreTruths_0 21 rfl
theorem dX1_readsMoreTruths_46 : decode cX1_readsMoreTruths 46 = .ok (.iconst 0, 1) := dzr zhdX1_readsMoreTruths_0 22 rfl
theorem dX1_readsMoreTruths_47 : decode cX1_readsMoreTruths 47 = .ok (.ireturn, 1) := dzr zhdX1_readsMoreTruths_0 23 rfl
def ztdX1_readsMoreTruths_48 : List (Nat × Instr × Nat) := [(48, .iinc 2 1, 3), (51, .goto (-49), 3), (54, .iconst 1, 1), (55, .ireturn, 1)]
theorem zhdX1_readsMoreTruths_48 : dzC ztdX1_readsMoreTruths_48 48 (cX1_readsMoreTruths.data.toList.drop 48) = true := by decide +kernel
theorem dX1_readsMoreTruths_48 : decode cX1_readsMoreTruths 48 = .ok (.iinc 2 1, 3) := dzr zhdX1_readsMoreTruths_48 0 rfl
theorem dX1_readsMoreTruths_51 : decode cX1_readsMoreTruths 51 = .ok (.goto (-49), 3) := dzr zhdX1_readsMoreTruths_48 1 rfl
theorem dX1_readsMoreTruths_54 : decode cX1_readsMoreTruths 54 = .ok (.iconst 1, 1) := dzr zhdX1_readsMoreTruths_48 2 rfl
theorem dX1_readsMoreTruths_55 : decode cX1_readsMoreTruths 55 = .ok (.ireturn, 1) := dzr zhdX1_readsMoreTruths_48 3 rfl
theorem ggX1_readsMoreUnits_X10_take : GoodIn wsX1_readsMoreUnits wsX10_take := (bg_up (bg_law (bi_wsL_law0_r12 _ (List.mem_of_getElem? (i := 12) rfl))))
theorem gX1_readsMoreUnits_X10_take : GoodIn wsX1_readsMoreUnits (wsV RX1 38 RX10 yX10_take wsX10_take) := goodIn_app (bg_up (bg_cons (bi_wsL_law0_r12 _ (List.mem_of_getElem? (i := 23) rfl)) (bg_cons (bi_wsL_law0_r12 _ (List.mem_of_getElem? (i := 10) rfl)) (bg_cons (bi_wsL_law0_r12 _ (List.mem_of_getElem? (i := 11) rfl)) (bg_cons (bi_wsL_law0_r1 _ (List.mem_of_getElem? (i := 16) rfl)) bg_nil))))) (bg_up (bg_law (bi_wsL_law0_r12 _ (List.mem_of_getElem? (i := 12) rfl))))
theorem ggX1_readsMoreUnits_X1_readsUnit : GoodIn wsX1_readsMoreUnits wsX1_readsUnit := (bg_up (bg_law (bi_wsL_law0_r13 _ (List.mem_of_getElem? (i := 20) rfl))))
theorem gX1_readsMoreUnits_X1_readsUnit : GoodIn wsX1_readsMoreUnits (wsV RX1 64 RX1 yX1_readsUnit wsX1_readsUnit) := goodIn_app (bg_up (bg_cons (bi_wsL_law0_r13 _ (List.mem_of_getElem? (i := 5) rfl)) (bg_cons (bi_wsL_law0_r13 _ (List.mem_of_getElem? (i := 6) rfl)) (bg_cons (bi_wsL_law0_r13 _ (List.mem_of_getElem? (i := 7) rfl)) (bg_cons (bi_wsL_law0_r2 _ (List.mem_of_getElem? (i := 0) rfl)) bg_nil))))) (bg_up (bg_law (bi_wsL_law0_r13 _ (List.mem_of_getElem? (i := 20) rfl))))
theorem ggX1_readsMoreUnits_X1_put : GoodIn wsX1_readsMoreUnits wsX1_put := (bg_up (bg_law (bi_wsL_law0_r13 _ (List.mem_of_getElem? (i := 18) rfl))))
theorem gX1_readsMoreUnits_X1_put : GoodIn wsX1_readsMoreUnits (wsV RX1 61 RX1 yX1_put wsX1_put) := goodIn_app (bg_up (bg_cons (bi_wsL_law0_r13 _ (List.mem_of_getElem? (i := 15) rfl)) (bg_cons (bi_wsL_law0_r13 _ (List.mem_of_getElem? (i := 16) rfl)) (bg_cons (bi_wsL_law0_r13 _ (List.mem_of_getElem? (i := 17) rfl)) (bg_cons (bi_wsL_law0_r2 _ (List.mem_of_getElem? (i := 0) rfl)) bg_nil))))) (bg_up (bg_law (bi_wsL_law0_r13 _ (List.mem_of_getElem? (i := 18) rfl))))
def ztdX1_readsMoreUnits_0 : List (Nat × Instr × Nat) := [(0, .iconst 0, 1), (1, .istore_n 2, 1), (2, .iload_n 2, 1), (3, .sipush 240, 3), (6, .if_icmp .ge 40, 3), (9, .aload_n 0, 1), (10, .getfield 17, 3), (13, .bipush 38, 2), (15, .invokevirtual 38, 3), (18, .ifCond .eq 28, 3), (21, .aload_n 0, 1), (22, .iload_n 1, 1), (23, .invokevirtual 64, 3), (26, .ifCond .eq 12, 3), (29, .aload_n 0, 1), (30, .bipush (-9), 2), (32, .invokevirtual 61, 3), (35, .ifCond .ne 5, 3), (38, .iconst 0, 1), (39, .ireturn, 1), (40, .iinc 2 1, 3), (43, .goto (-41), 3), (46, .iconst 1, 1), (47, .ireturn, 1)]
theorem zhdX1_readsMoreUnits_0 : dzC ztdX1_readsMoreUnits_0 0 (cX1_readsMoreUnits.data.toList.drop 0) = true := by decide +kernel
theorem dX1_readsMoreUnits_0 : decode cX1_readsMoreUnits 0 = .ok (.iconst 0, 1) := dzr zhdX1_readsMoreUnits_0 0 rfl
theorem dX1_readsMoreUnits_1 : decode cX1_readsMoreUnits 1 = .ok (.istore_n 2, 1) := dzr zhdX1_readsMoreUnits_0 1 rfl
theorem dX1_readsMoreUnits_2 : decode cX1_readsMoreUnits 2 = .ok (.iload_n 2, 1) := dzr zhdX1_readsMoreUnits_0 2 rfl
theorem dX1_readsMoreUnits_3 : decode cX1_readsMoreUnits 3 = .ok (.sipush 240, 3) := dzr zhdX1_readsMoreUnits_0 3 rfl
theorem dX1_readsMoreUnits_6 : decode cX1_readsMoreUnits 6 = .ok (.if_icmp .ge 40, 3) := dzr zhdX1_readsMoreUnits_0 4 rfl
theorem dX1_readsMoreUnits_9 : decode cX1_readsMoreUnits 9 = .ok (.aload_n 0, 1) := dzr zhdX1_readsMoreUnits_0 5 rfl
theorem dX1_readsMoreUnits_10 : decode cX1_readsMoreUnits 10 = .ok (.getfield 17, 3) := dzr zhdX1_readsMoreUnits_0 6 rfl
theorem dX1_readsMoreUnits_13 : decode cX1_readsMoreUnits 13 = .ok (.bipush 38, 2) := dzr zhdX1_readsMoreUnits_0 7 rfl
theorem dX1_readsMoreUnits_15 : decode cX1_readsMoreUnits 15 = .ok (.invokevirtual 38, 3) := dzr zhdX1_readsMoreUnits_0 8 rfl
theorem dX1_readsMoreUnits_18 : decode cX1_readsMoreUnits 18 = .ok (.ifCond .eq 28, 3) := dzr zhdX1_readsMoreUnits_0 9 rfl
theorem dX1_readsMoreUnits_21 : decode cX1_readsMoreUnits 21 = .ok (.aload_n 0, 1) := dzr zhdX1_readsMoreUnits_0 10 rfl
theorem dX1_readsMoreUnits_22 : decode cX1_readsMoreUnits 22 = .ok (.iload_n 1, 1) := dzr zhdX1_readsMoreUnits_0 11 rfl
theorem dX1_readsMoreUnits_23 : decode cX1_readsMoreUnits 23 = .ok (.invokevirtual 64, 3) := dzr zhdX1_readsMoreUnits_0 12 rfl
theorem dX1_readsMoreUnits_26 : decode cX1_readsMoreUnits 26 = .ok (.ifCond .eq 12, 3) := dzr zhdX1_readsMoreUnits_0 13 rfl
theorem dX1_readsMoreUnits_29 : decode cX1_readsMoreUnits 29 = .ok (.aload_n 0, 1) := dzr zhdX1_readsMoreUnits_0 14 rfl
theorem dX1_readsMoreUnits_30 : decode cX1_readsMoreUnits 30 = .ok (.bipush (-9), 2) := dzr zhdX1_readsMoreUnits_0 15 rfl
theorem dX1_readsMoreUnits_32 : decode cX1_readsMoreUnits 32 = .ok (.invokevirtual 61, 3) := dzr zhdX1_readsMoreUnits_0 16 rfl
theorem dX1_readsMoreUnits_35 : decode cX1_readsMoreUnits 35 = .ok (.ifCond .ne 5, 3) := dzr zhdX1_readsMoreUnits_0 17 rfl
theorem dX1_readsMoreUnits_38 : decode cX1_readsMoreUnits 38 = .ok (.iconst 0, 1) := dzr zhdX1_readsMoreUnits_0 18 rfl
theorem dX1_readsMoreUnits_39 : decode cX1_readsMoreUnits 39 = .ok (.ireturn, 1) := dzr zhdX1_readsMoreUnits_0 19 rfl
theorem dX1_readsMoreUnits_40 : decode cX1_readsMoreUnits 40 = .ok (.iinc 2 1, 3) := dzr zhdX1_readsMoreUnits_0 20 rfl
theorem dX1_readsMoreUnits_43 : decode cX1_readsMoreUnits 43 = .ok (.goto (-41), 3) := dzr zhdX1_readsMoreUnits_0 21 rfl
theorem dX1_readsMoreUnits_46 : decode cX1_readsMoreUnits 46 = .ok (.iconst 1, 1) := dzr zhdX1_readsMoreUnits_0 22 rfl
theorem dX1_readsMoreUnits_47 : decode cX1_readsMoreUnits 47 = .ok (.ireturn, 1) := dzr zhdX1_readsMoreUnits_0 23 rfl
theorem ggX1_readsUnit_X10_sign : GoodIn wsX1_readsUnit wsX10_sign := (bg_up (bg_law (bi_wsL_law0_r10 _ (List.mem_of_getElem? (i := 7) rfl))))
theorem gX1_readsUnit_X10_sign : GoodIn wsX1_readsUnit (wsV RX1 34 RX10 yX10_sign wsX10_sign) := goodIn_app (bg_up (bg_cons (bi_wsL_law0_r13 _ (List.mem_of_getElem? (i := 0) rfl)) (bg_cons (bi_wsL_law0_r10 _ (List.mem_of_getElem? (i := 5) rfl)) (bg_cons (bi_wsL_law0_r10 _ (List.mem_of_getElem? (i := 6) rfl)) (bg_cons (bi_wsL_law0_r1 _ (List.mem_of_getElem? (i := 16) rfl)) bg_nil))))) (bg_up (bg_law (bi_wsL_law0_r10 _ (List.mem_of_getElem? (i := 7) rfl))))
theorem ggX1_readsUnit_X1_readsSum : GoodIn wsX1_readsUnit wsX1_readsSum := (bg_up (bg_law (bi_wsL_law0_r14 _ (List.mem_of_getElem? (i := 0) rfl))))
theorem gX1_readsUnit_X1_readsSum : GoodIn wsX1_readsUnit (wsV RX1 45 RX1 yX1_readsSum wsX1_readsSum) := goodIn_app (bg_up (bg_cons (bi_wsL_law0_r13 _ (List.mem_of_getElem? (i := 21) rfl)) (bg_cons (bi_wsL_law0_r13 _ (List.mem_of_getElem? (i := 22) rfl)) (bg_cons (bi_wsL_law0_r13 _ (List.mem_of_getElem? (i := 23) rfl)) (bg_cons (bi_wsL_law0_r2 _ (List.mem_of_getElem? (i := 0) rfl)) bg_nil))))) (bg_up (bg_law (bi_wsL_law0_r14 _ (List.mem_of_getElem? (i := 0) rfl))))
theorem ggX1_readsUnit_X1_readsComparison : GoodIn wsX1_readsUnit wsX1_readsComparison := (bg_up (bg_law (bi_wsL_law0_r14 _ (List.mem_of_getElem? (i := 16) rfl))))
theorem gX1_readsUnit_X1_readsComparison : GoodIn wsX1_readsUnit (wsV RX1 52 RX1 yX1_readsComparison wsX1_readsComparison) := goodIn_app (bg_up (bg_cons (bi_wsL_law0_r14 _ (List.mem_of_getElem? (i := 13) rfl)) (bg_cons (bi_wsL_law0_r14 _ (List.mem_of_getElem? (i := 14) rfl)) (bg_cons (bi_wsL_law0_r14 _ (List.mem_of_getElem? (i := 15) rfl)) (bg_cons (bi_wsL_law0_r2 _ (List.mem_of_getElem? (i := 0) rfl)) bg_nil))))) (bg_up (bg_law (bi_wsL_law0_r14 _ (List.mem_of_getElem? (i := 16) rfl))))
theorem ggX1_readsUnit_X1_readsUnit : GoodIn wsX1_readsUnit wsX1_readsUnit := (bg_up (bg_law (bi_wsL_law0_r13 _ (List.mem_of_getElem? (i := 20) rfl))))
theorem gX1_readsUnit_X1_readsUnit : GoodIn wsX1_readsUnit (wsV RX1 64 RX1 yX1_readsUnit wsX1_readsUnit) := goodIn_app (bg_up (bg_cons (bi_wsL_law0_r13 _ (List.mem_of_getElem? (i := 5) rfl)) (bg_cons (bi_wsL_law0_r13 _ (List.mem_of_getElem? (i := 6) rfl)) (bg_cons (bi_wsL_law0_r13 _ (List.mem_of_getElem? (i := 7) rfl)) (bg_cons (bi_wsL_law0_r2 _ (List.mem_of_getElem? (i := 0) rfl)) bg_nil))))) (bg_up (bg_law (bi_wsL_law0_r13 _ (List.mem_of_getElem? (i := 20) rfl))))
theorem ggX1_readsUnit_X1_put : GoodIn wsX1_readsUnit wsX1_put := (bg_up (bg_law (bi_wsL_law0_r13 _ (List.mem_of_getElem? (i := 18) rfl))))
theorem gX1_readsUnit_X1_put : GoodIn wsX1_readsUnit (wsV RX1 61 RX1 yX1_put wsX1_put) := goodIn_app (bg_up (bg_cons (bi_wsL_law0_r13 _ (List.mem_of_getElem? (i := 15) rfl)) (bg_cons (bi_wsL_law0_r13 _ (List.mem_of_getElem? (i := 16) rfl)) (bg_cons (bi_wsL_law0_r13 _ (List.mem_of_getElem? (i := 17) rfl)) (bg_cons (bi_wsL_law0_r2 _ (List.mem_of_getElem? (i := 0) rfl)) bg_nil))))) (bg_up (bg_law (bi_wsL_law0_r13 _ (List.mem_of_getElem? (i := 18) rfl))))
theorem ggX1_readsUnit_X1_readsCondition : GoodIn wsX1_readsUnit wsX1_readsCondition := (bg_up (bg_law (bi_wsL_law0_r13 _ (List.mem_of_getElem? (i := 4) rfl))))
theorem gX1_readsUnit_X1_readsCondition : GoodIn wsX1_readsUnit (wsV RX1 42 RX1 yX1_readsCondition wsX1_readsCondition) := goodIn_app (bg_up (bg_cons (bi_wsL_law0_r13 _ (List.mem_of_getElem? (i := 1) rfl)) (bg_cons (bi_wsL_law0_r13 _ (List.mem_of_getElem? (i := 2) rfl)) (bg_cons (bi_wsL_law0_r13 _ (List.mem_of_getElem? (i := 3) rfl)) (bg_cons (bi_wsL_law0_r2 _ (List.mem_of_getElem? (i := 0) rfl)) bg_nil))))) (bg_up (bg_law (bi_wsL_law0_r13 _ (List.mem_of_getElem? (i := 4) rfl))))
theorem ggX1_readsUnit_X10_take : GoodIn wsX1_readsUnit wsX10_take := (bg_up (bg_law (bi_wsL_law0_r12 _ (List.mem_of_getElem? (i := 12) rfl))))
theorem gX1_readsUnit_X10_take : GoodIn wsX1_readsUnit (wsV RX1 38 RX10 yX10_take wsX10_take) := goodIn_app (bg_up (bg_cons (bi_wsL_law0_r12 _ (List.mem_of_getElem? (i := 23) rfl)) (bg_cons (bi_wsL_law0_r12 _ (List.mem_of_getElem? (i := 10) rfl)) (bg_cons (bi_wsL_law0_r12 _ (List.mem_of_getElem? (i := 11) rfl)) (bg_cons (bi_wsL_law0_r1 _ (List.mem_of_getElem? (i := 16) rfl)) bg_nil))))) (bg_up (bg_law (bi_wsL_law0_r12 _ (List.mem_of_getElem? (i := 12) rfl))))
def ztdX1_readsUnit_0 : List (Nat × Instr × Nat) := [(0, .aload_n 0, 1), (1, .getfield 17, 3), (4, .invokevirtual 34, 3), (7, .istore_n 2, 1), (8, .iload_n 2, 1), (9, .bipush 33, 2), (11, .if_icmp .eq 31, 3), (14, .iload_n 2, 1), (15, .bipush 40, 2), (17, .if_icmp .eq 25, 3), (20, .aload_n 0, 1), (21, .iload_n 1, 1), (22, .invokevirtual 45, 3), (25, .ifCond .eq 15, 3), (28, .aload_n 0, 1), (29, .iload_n 1, 1), (30, .invokevirtual 52, 3), (33, .ifCond .eq 7, 3), (36, .iconst 1, 1), (37, .goto 4, 3), (40, .iconst 0, 1), (41, .ireturn, 1), (42, .iload_n 1, 1), (43, .bipush 6, 2)]
theorem zhdX1_readsUnit_0 : dzC ztdX1_readsUnit_0 0 (cX1_readsUnit.data.toList.drop 0) = true := by decide +kernel
theorem dX1_readsUnit_0 : decode cX1_readsUnit 0 = .ok (.aload_n 0, 1) := dzr zhdX1_readsUnit_0 0 rfl
theorem dX1_readsUnit_1 : decode cX1_readsUnit 1 = .ok (.getfield 17, 3) := dzr zhdX1_readsUnit_0 1 rfl
theorem dX1_readsUnit_4 : decode cX1_readsUnit 4 = .ok (.invokevirtual 34, 3) := dzr zhdX1_readsUnit_0 2 rfl
theorem dX1_readsUnit_7 : decode cX1_readsUnit 7 = .ok (.istore_n 2, 1) := dzr zhdX1_readsUnit_0 3 rfl
theorem dX1_readsUnit_8 : decode cX1_readsUnit 8 = .ok (.iload_n 2, 1) := dzr zhdX1_readsUnit_0 4 rfl
theorem dX1_readsUnit_9 : decode cX1_readsUnit 9 = .ok (.bipush 33, 2) := dzr zhdX1_readsUnit_0 5 rfl
theorem dX1_readsUnit_11 : decode cX1_readsUnit 11 = .ok (.if_icmp .eq 31, 3) := dzr zhdX1_readsUnit_0 6 rfl
theorem dX1_readsUnit_14 : decode cX1_readsUnit 14 = .ok (.iload_n 2, 1) := dzr zhdX1_readsUnit_0 7 rfl
theorem dX1_readsUnit_15 : decode cX1_readsUnit 15 = .ok (.bipush 40, 2) := dzr zhdX1_readsUnit_0 8 rfl
theorem dX1_readsUnit_17 : decode cX1_readsUnit 17 = .ok (.if_icmp .eq 25, 3) := dzr zhdX1_readsUnit_0 9 rfl
theorem dX1_readsUnit_20 : decode cX1_readsUnit 20 = .ok (.aload_n 0, 1) := dzr zhdX1_readsUnit_0 10 rfl
theorem dX1_readsUnit_21 : decode cX1_readsUnit 21 = .ok (.iload_n 1, 1) := dzr zhdX1_readsUnit_0 11 rfl
theorem dX1_readsUnit_22 : decode cX1_readsUnit 22 = .ok (.invokevirtual 45, 3) := dzr zhdX1_readsUnit_0 12 rfl
theorem dX1_readsUnit_25 : decode cX1_readsUnit 25 = .ok (.ifCond .eq 15, 3) := dzr zhdX1_readsUnit_0 13 rfl
theorem dX1_readsUnit_28 : decode cX1_readsUnit 28 = .ok (.aload_n 0, 1) := dzr zhdX1_readsUnit_0 14 rfl
theorem dX1_readsUnit_29 : decode cX1_readsUnit 29 = .ok (.iload_n 1, 1) := dzr zhdX1_readsUnit_0 15 rfl
theorem dX1_readsUnit_30 : decode cX1_readsUnit 30 = .ok (.invokevirtual 52, 3) := dzr zhdX1_readsUnit_0 16 rfl
theorem dX1_readsUnit_33 : decode cX1_readsUnit 33 = .ok (.ifCond .eq 7, 3) := dzr zhdX1_readsUnit_0 17 rfl
theorem dX1_readsUnit_36 : decode cX1_readsUnit 36 = .ok (.iconst 1, 1) := dzr zhdX1_readsUnit_0 18 rfl
theorem dX1_readsUnit_37 : decode cX1_readsUnit 37 = .ok (.goto 4, 3) := dzr zhdX1_readsUnit_0 19 rfl
theorem dX1_readsUnit_40 : decode cX1_readsUnit 40 = .ok (.iconst 0, 1) := dzr zhdX1_readsUnit_0 20 rfl
theorem dX1_readsUnit_41 : decode cX1_readsUnit 41 = .ok (.ireturn, 1) := dzr zhdX1_readsUnit_0 21 rfl
theorem dX1_readsUnit_42 : decode cX1_readsUnit 42 = .ok (.iload_n 1, 1) := dzr zhdX1_readsUnit_0 22 rfl
theorem dX1_readsUnit_43 : decode cX1_readsUnit 43 = .ok (.bipush 6, 2) := dzr zhdX1_readsUnit_0 23 rfl
def ztdX1_readsUnit_45 : List (Nat × Instr × Nat) := [(45, .if_icmp .lt 5, 3), (48, .iconst 0, 1), (49, .ireturn, 1), (50, .aload_n 0, 1), (51, .getfield 17, 3), (54, .dup, 1), (55, .getfield 21, 3), (58, .iconst 1, 1), (59, .iadd, 1), (60, .putfield 21, 3), (63, .iload_n 2, 1), (64, .bipush 33, 2), (66, .if_icmp .ne 28, 3), (69, .aload_n 0, 1), (70, .iload_n 1, 1), (71, .iconst 1, 1), (72, .iadd, 1), (73, .invokevirtual 64, 3), (76, .ifCond .eq 16, 3), (79, .aload_n 0, 1), (80, .bipush (-11), 2), (82, .invokevirtual 61, 3), (85, .ifCond .eq 7, 3), (88, .iconst 1, 1)]
theorem zhdX1_readsUnit_45 : dzC ztdX1_readsUnit_45 45 (cX1_readsUnit.data.toList.drop 45) = true := by decide +kernel
theorem dX1_readsUnit_45 : decode cX1_readsUnit 45 = .ok (.if_icmp .lt 5, 3) := dzr zhdX1_readsUnit_45 0 rfl
theorem dX1_readsUnit_48 : decode cX1_readsUnit 48 = .ok (.iconst 0, 1) := dzr zhdX1_readsUnit_45 1 rfl
theorem dX1_readsUnit_49 : decode cX1_readsUnit 49 = .ok (.ireturn, 1) := dzr zhdX1_readsUnit_45 2 rfl
theorem dX1_readsUnit_50 : decode cX1_readsUnit 50 = .ok (.aload_n 0, 1) := dzr zhdX1_readsUnit_45 3 rfl
theorem dX1_readsUnit_51 : decode cX1_readsUnit 51 = .ok (.getfield 17, 3) := dzr zhdX1_readsUnit_45 4 rfl
theorem dX1_readsUnit_54 : decode cX1_readsUnit 54 = .ok (.dup, 1) := dzr zhdX1_readsUnit_45 5 rfl
theorem dX1_readsUnit_55 : decode cX1_readsUnit 55 = .ok (.getfield 21, 3) := dzr zhdX1_readsUnit_45 6 rfl
theorem dX1_readsUnit_58 : decode cX1_readsUnit 58 = .ok (.iconst 1, 1) := dzr zhdX1_readsUnit_45 7 rfl
theorem dX1_readsUnit_59 : decode cX1_readsUnit 59 = .ok (.iadd, 1) := dzr zhdX1_readsUnit_45 8 rfl
theorem dX1_readsUnit_60 : decode cX1_readsUnit 60 = .ok (.putfield 21, 3) := dzr zhdX1_readsUnit_45 9 rfl
theorem dX1_readsUnit_63 : decode cX1_readsUnit 63 = .ok (.iload_n 2, 1) := dzr zhdX1_readsUnit_45 10 rfl
theorem dX1_readsUnit_64 : decode cX1_readsUnit 64 = .ok (.bipush 33, 2) := dzr zhdX1_readsUnit_45 11 rfl
theorem dX1_readsUnit_66 : decode cX1_readsUnit 66 = .ok (.if_icmp .ne 28, 3) := dzr zhdX1_readsUnit_45 12 rfl
theorem dX1_readsUnit_69 : decode cX1_readsUnit 69 = .ok (.aload_n 0, 1) := dzr zhdX1_readsUnit_45 13 rfl
theorem dX1_readsUnit_70 : decode cX1_readsUnit 70 = .ok (.iload_n 1, 1) := dzr zhdX1_readsUnit_45 14 rfl
theorem dX1_readsUnit_71 : decode cX1_readsUnit 71 = .ok (.iconst 1, 1) := dzr zhdX1_readsUnit_45 15 rfl
theorem dX1_readsUnit_72 : decode cX1_readsUnit 72 = .ok (.iadd, 1) := dzr zhdX1_readsUnit_45 16 rfl
theorem dX1_readsUnit_73 : decode cX1_readsUnit 73 = .ok (.invokevirtual 64, 3) := dzr zhdX1_readsUnit_45 17 rfl
theorem dX1_readsUnit_76 : decode cX1_readsUnit 76 = .ok (.ifCond .eq 16, 3) := dzr zhdX1_readsUnit_45 18 rfl
theorem dX1_readsUnit_79 : decode cX1_readsUnit 79 = .ok (.aload_n 0, 1) := dzr zhdX1_readsUnit_45 19 rfl
theorem dX1_readsUnit_80 : decode cX1_readsUnit 80 = .ok (.bipush (-11), 2) := dzr zhdX1_readsUnit_45 20 rfl
theorem dX1_readsUnit_82 : decode cX1_readsUnit 82 = .ok (.invokevirtual 61, 3) := dzr zhdX1_readsUnit_45 21 rfl
theorem dX1_readsUnit_85 : decode cX1_readsUnit 85 = .ok (.ifCond .eq 7, 3) := dzr zhdX1_readsUnit_45 22 rfl
theorem dX1_readsUnit_88 : decode cX1_readsUnit 88 = .ok (.iconst 1, 1) := dzr zhdX1_readsUnit_45 23 rfl
def ztdX1_readsUnit_89 : List (Nat × Instr × Nat) := [(89, .goto 4, 3), (92, .iconst 0, 1), (93, .ireturn, 1), (94, .aload_n 0, 1), (95, .iload_n 1, 1), (96, .iconst 1, 1), (97, .iadd, 1), (98, .invokevirtual 42, 3), (101, .ifCond .eq 19, 3), (104, .aload_n 0, 1), (105, .getfield 17, 3), (108, .bipush 41, 2), (110, .invokevirtual 38, 3), (113, .ifCond .eq 7, 3), (116, .iconst 1, 1), (117, .goto 4, 3), (120, .iconst 0, 1), (121, .ireturn, 1)]
theorem zhdX1_readsUnit_89 : dzC ztdX1_readsUnit_89 89 (cX1_readsUnit.data.toList.drop 89) = true := by decide +kernel
theorem dX1_readsUnit_89 : decode cX1_readsUnit 89 = .ok (.goto 4, 3) := dzr zhdX1_readsUnit_89 0 rfl
theorem dX1_readsUnit_92 : decode cX1_readsUnit 92 = .ok (.iconst 0, 1) := dzr zhdX1_readsUnit_89 1 rfl
theorem dX1_readsUnit_93 : decode cX1_readsUnit 93 = .ok (.ireturn, 1) := dzr zhdX1_readsUnit_89 2 rfl
theorem dX1_readsUnit_94 : decode cX1_readsUnit 94 = .ok (.aload_n 0, 1) := dzr zhdX1_readsUnit_89 3 rfl
theorem dX1_readsUnit_95 : decode cX1_readsUnit 95 = .ok (.iload_n 1, 1) := dzr zhdX1_readsUnit_89 4 rfl
theorem dX1_readsUnit_96 : decode cX1_readsUnit 96 = .ok (.iconst 1, 1) := dzr zhdX1_readsUnit_89 5 rfl
theorem dX1_readsUnit_97 : decode cX1_readsUnit 97 = .ok (.iadd, 1) := dzr zhdX1_readsUnit_89 6 rfl
theorem dX1_readsUnit_98 : decode cX1_readsUnit 98 = .ok (.invokevirtual 42, 3) := dzr zhdX1_readsUnit_89 7 rfl
theorem dX1_readsUnit_101 : decode cX1_readsUnit 101 = .ok (.ifCond .eq 19, 3) := dzr zhdX1_readsUnit_89 8 rfl
theorem dX1_readsUnit_104 : decode cX1_readsUnit 104 = .ok (.aload_n 0, 1) := dzr zhdX1_readsUnit_89 9 rfl
theorem dX1_readsUnit_105 : decode cX1_readsUnit 105 = .ok (.getfield 17, 3) := dzr zhdX1_readsUnit_89 10 rfl
theorem dX1_readsUnit_108 : decode cX1_readsUnit 108 = .ok (.bipush 41, 2) := dzr zhdX1_readsUnit_89 11 rfl
theorem dX1_readsUnit_110 : decode cX1_readsUnit 110 = .ok (.invokevirtual 38, 3) := dzr zhdX1_readsUnit_89 12 rfl
theorem dX1_readsUnit_113 : decode cX1_readsUnit 113 = .ok (.ifCond .eq 7, 3) := dzr zhdX1_readsUnit_89 13 rfl
theorem dX1_readsUnit_116 : decode cX1_readsUnit 116 = .ok (.iconst 1, 1) := dzr zhdX1_readsUnit_89 14 rfl
theorem dX1_readsUnit_117 : decode cX1_readsUnit 117 = .ok (.goto 4, 3) := dzr zhdX1_readsUnit_89 15 rfl
theorem dX1_readsUnit_120 : decode cX1_readsUnit 120 = .ok (.iconst 0, 1) := dzr zhdX1_readsUnit_89 16 rfl
theorem dX1_readsUnit_121 : decode cX1_readsUnit 121 = .ok (.ireturn, 1) := dzr zhdX1_readsUnit_89 17 rfl
def ztdX1_comparison_0 : List (Nat × Instr × Nat) := [(0, .iload_n 0, 1), (1, .bipush 61, 2), (3, .if_icmp .ne 6, 3), (6, .bipush (-6), 2), (8, .ireturn, 1), (9, .iload_n 0, 1), (10, .bipush 60, 2), (12, .if_icmp .ne 6, 3), (15, .bipush (-7), 2), (17, .ireturn, 1), (18, .iload_n 0, 1), (19, .bipush 62, 2), (21, .if_icmp .ne 8, 3), (24, .bipush (-8), 2), (26, .goto 4, 3), (29, .iconst (-1), 1), (30, .ireturn, 1)]
theorem zhdX1_comparison_0 : dzC ztdX1_comparison_0 0 (cX1_comparison.data.toList.drop 0) = true := by decide +kernel
theorem dX1_comparison_0 : decode cX1_comparison 0 = .ok (.iload_n 0, 1) := dzr zhdX1_comparison_0 0 rfl
theorem dX1_comparison_1 : decode cX1_comparison 1 = .ok (.bipush 61, 2) := dzr zhdX1_comparison_0 1 rfl
theorem dX1_comparison_3 : decode cX1_comparison 3 = .ok (.if_icmp .ne 6, 3) := dzr zhdX1_comparison_0 2 rfl
theorem dX1_comparison_6 : decode cX1_comparison 6 = .ok (.bipush (-6), 2) := dzr zhdX1_comparison_0 3 rfl
theorem dX1_comparison_8 : decode cX1_comparison 8 = .ok (.ireturn, 1) := dzr zhdX1_comparison_0 4 rfl
theorem dX1_comparison_9 : decode cX1_comparison 9 = .ok (.iload_n 0, 1) := dzr zhdX1_comparison_0 5 rfl
theorem dX1_comparison_10 : decode cX1_comparison 10 = .ok (.bipush 60, 2) := dzr zhdX1_comparison_0 6 rfl
theorem dX1_comparison_12 : decode cX1_comparison 12 = .ok (.if_icmp .ne 6, 3) := dzr zhdX1_comparison_0 7 rfl
theorem dX1_comparison_15 : decode cX1_comparison 15 = .ok (.bipush (-7), 2) := dzr zhdX1_comparison_0 8 rfl
theorem dX1_comparison_17 : decode cX1_comparison 17 = .ok (.ireturn, 1) := dzr zhdX1_comparison_0 9 rfl
theorem dX1_comparison_18 : decode cX1_comparison 18 = .ok (.iload_n 0, 1) := dzr zhdX1_comparison_0 10 rfl
theorem dX1_comparison_19 : decode cX1_comparison 19 = .ok (.bipush 62, 2) := dzr zhdX1_comparison_0 11 rfl
theorem dX1_comparison_21 : decode cX1_comparison 21 = .ok (.if_icmp .ne 8, 3) := dzr zhdX1_comparison_0 12 rfl
theorem dX1_comparison_24 : decode cX1_comparison 24 = .ok (.bipush (-8), 2) := dzr zhdX1_comparison_0 13 rfl
theorem dX1_comparison_26 : decode cX1_comparison 26 = .ok (.goto 4, 3) := dzr zhdX1_comparison_0 14 rfl
theorem dX1_comparison_29 : decode cX1_comparison 29 = .ok (.iconst (-1), 1) := dzr zhdX1_comparison_0 15 rfl
theorem dX1_comparison_30 : decode cX1_comparison 30 = .ok (.ireturn, 1) := dzr zhdX1_comparison_0 16 rfl
theorem ggX1_readsComparison_X10_sign : GoodIn wsX1_readsComparison wsX10_sign := (bg_up (bg_law (bi_wsL_law0_r10 _ (List.mem_of_getElem? (i := 7) rfl))))
theorem gX1_readsComparison_X10_sign : GoodIn wsX1_readsComparison (wsV RX1 34 RX10 yX10_sign wsX10_sign) := goodIn_app (bg_up (bg_cons (bi_wsL_law0_r13 _ (List.mem_of_getElem? (i := 0) rfl)) (bg_cons (bi_wsL_law0_r10 _ (List.mem_of_getElem? (i := 5) rfl)) (bg_cons (bi_wsL_law0_r10 _ (List.mem_of_getElem? (i := 6) rfl)) (bg_cons (bi_wsL_law0_r1 _ (List.mem_of_getElem? (i := 16) rfl)) bg_nil))))) (bg_up (bg_law (bi_wsL_law0_r10 _ (List.mem_of_getElem? (i := 7) rfl))))
theorem ggX1_readsComparison_X1_comparison : GoodIn wsX1_readsComparison wsX1_comparison := (bg_up (bg_law (bi_wsL_law0_r14 _ (List.mem_of_getElem? (i := 19) rfl))))
theorem gX1_readsComparison_X1_comparison : GoodIn wsX1_readsComparison (va_wsS RX1 48 yX1_comparison wsX1_comparison) := goodIn_app (bg_up (bg_cons (bi_wsL_law0_r14 _ (List.mem_of_getElem? (i := 17) rfl)) (bg_cons (bi_wsL_law0_r14 _ (List.mem_of_getElem? (i := 18) rfl)) (bg_cons (bi_wsL_law0_r2 _ (List.mem_of_getElem? (i := 0) rfl)) bg_nil)))) (bg_up (bg_law (bi_wsL_law0_r14 _ (List.mem_of_getElem? (i := 19) rfl))))
theorem ggX1_readsComparison_X1_readsSum : GoodIn wsX1_readsComparison wsX1_readsSum := (bg_up (bg_law (bi_wsL_law0_r14 _ (List.mem_of_getElem? (i := 0) rfl))))
theorem gX1_readsComparison_X1_readsSum : GoodIn wsX1_readsComparison (wsV RX1 45 RX1 yX1_readsSum wsX1_readsSum) := goodIn_app (bg_up (bg_cons (bi_wsL_law0_r13 _ (List.mem_of_getElem? (i := 21) rfl)) (bg_cons (bi_wsL_law0_r13 _ (List.mem_of_getElem? (i := 22) rfl)) (bg_cons (bi_wsL_law0_r13 _ (List.mem_of_getElem? (i := 23) rfl)) (bg_cons (bi_wsL_law0_r2 _ (List.mem_of_getElem? (i := 0) rfl)) bg_nil))))) (bg_up (bg_law (bi_wsL_law0_r14 _ (List.mem_of_getElem? (i := 0) rfl))))
theorem ggX1_readsComparison_X1_put : GoodIn wsX1_readsComparison wsX1_put := (bg_up (bg_law (bi_wsL_law0_r13 _ (List.mem_of_getElem? (i := 18) rfl))))
theorem gX1_readsComparison_X1_put : GoodIn wsX1_readsComparison (wsV RX1 61 RX1 yX1_put wsX1_put) := goodIn_app (bg_up (bg_cons (bi_wsL_law0_r13 _ (List.mem_of_getElem? (i := 15) rfl)) (bg_cons (bi_wsL_law0_r13 _ (List.mem_of_getElem? (i := 16) rfl)) (bg_cons (bi_wsL_law0_r13 _ (List.mem_of_getElem? (i := 17) rfl)) (bg_cons (bi_wsL_law0_r2 _ (List.mem_of_getElem? (i := 0) rfl)) bg_nil))))) (bg_up (bg_law (bi_wsL_law0_r13 _ (List.mem_of_getElem? (i := 18) rfl))))
def ztdX1_readsComparison_0 : List (Nat × Instr × Nat) := [(0, .aload_n 0, 1), (1, .getfield 17, 3), (4, .invokevirtual 34, 3), (7, .invokestatic 48, 3), (10, .istore_n 2, 1), (11, .iload_n 2, 1), (12, .iconst (-1), 1), (13, .if_icmp .ne 5, 3), (16, .iconst 0, 1), (17, .ireturn, 1), (18, .aload_n 0, 1), (19, .getfield 17, 3), (22, .dup, 1), (23, .getfield 21, 3), (26, .iconst 1, 1), (27, .iadd, 1), (28, .putfield 21, 3), (31, .aload_n 0, 1), (32, .iload_n 1, 1), (33, .invokevirtual 45, 3), (36, .ifCond .eq 15, 3), (39, .aload_n 0, 1), (40, .iload_n 2, 1), (41, .invokevirtual 61, 3)]
theorem zhdX1_readsComparison_0 : dzC ztdX1_readsComparison_0 0 (cX1_readsComparison.data.toList.drop 0) = true := by decide +kernel
theorem dX1_readsComparison_0 : decode cX1_readsComparison 0 = .ok (.aload_n 0, 1) := dzr zhdX1_readsComparison_0 0 rfl
theorem dX1_readsComparison_1 : decode cX1_readsComparison 1 = .ok (.getfield 17, 3) := dzr zhdX1_readsComparison_0 1 rfl
theorem dX1_readsComparison_4 : decode cX1_readsComparison 4 = .ok (.invokevirtual 34, 3) := dzr zhdX1_readsComparison_0 2 rfl
theorem dX1_readsComparison_7 : decode cX1_readsComparison 7 = .ok (.invokestatic 48, 3) := dzr zhdX1_readsComparison_0 3 rfl
theorem dX1_readsComparison_10 : decode cX1_readsComparison 10 = .ok (.istore_n 2, 1) := dzr zhdX1_readsComparison_0 4 rfl
theorem dX1_readsComparison_11 : decode cX1_readsComparison 11 = .ok (.iload_n 2, 1) := dzr zhdX1_readsComparison_0 5 rfl
theorem dX1_readsComparison_12 : decode cX1_readsComparison 12 = .ok (.iconst (-1), 1) := dzr zhdX1_readsComparison_0 6 rfl
theorem dX1_readsComparison_13 : decode cX1_readsComparison 13 = .ok (.if_icmp .ne 5, 3) := dzr zhdX1_readsComparison_0 7 rfl
theorem dX1_readsComparison_16 : decode cX1_readsComparison 16 = .ok (.iconst 0, 1) := dzr zhdX1_readsComparison_0 8 rfl
theorem dX1_readsComparison_17 : decode cX1_readsComparison 17 = .ok (.ireturn, 1) := dzr zhdX1_readsComparison_0 9 rfl
theorem dX1_readsComparison_18 : decode cX1_readsComparison 18 = .ok (.aload_n 0, 1) := dzr zhdX1_readsComparison_0 10 rfl
theorem dX1_readsComparison_19 : decode cX1_readsComparison 19 = .ok (.getfield 17, 3) := dzr zhdX1_readsComparison_0 11 rfl
theorem dX1_readsComparison_22 : decode cX1_readsComparison 22 = .ok (.dup, 1) := dzr zhdX1_readsComparison_0 12 rfl
theorem dX1_readsComparison_23 : decode cX1_readsComparison 23 = .ok (.getfield 21, 3) := dzr zhdX1_readsComparison_0 13 rfl
theorem dX1_readsComparison_26 : decode cX1_readsComparison 26 = .ok (.iconst 1, 1) := dzr zhdX1_readsComparison_0 14 rfl
theorem dX1_readsComparison_27 : decode cX1_readsComparison 27 = .ok (.iadd, 1) := dzr zhdX1_readsComparison_0 15 rfl
theorem dX1_readsComparison_28 : decode cX1_readsComparison 28 = .ok (.putfield 21, 3) := dzr zhdX1_readsComparison_0 16 rfl
theorem dX1_readsComparison_31 : decode cX1_readsComparison 31 = .ok (.aload_n 0, 1) := dzr zhdX1_readsComparison_0 17 rfl
theorem dX1_readsComparison_32 : decode cX1_readsComparison 32 = .ok (.iload_n 1, 1) := dzr zhdX1_readsComparison_0 18 rfl
theorem dX1_readsComparison_33 : decode cX1_readsComparison 33 = .ok (.invokevirtual 45, 3) := dzr zhdX1_readsComparison_0 19 rfl
theorem dX1_readsComparison_36 : decode cX1_readsComparison 36 = .ok (.ifCond .eq 15, 3) := dzr zhdX1_readsComparison_0 20 rfl
theorem dX1_readsComparison_39 : decode cX1_readsComparison 39 = .ok (.aload_n 0, 1) := dzr zhdX1_readsComparison_0 21 rfl
theorem dX1_readsComparison_40 : decode cX1_readsComparison 40 = .ok (.iload_n 2, 1) := dzr zhdX1_readsComparison_0 22 rfl
theorem dX1_readsComparison_41 : decode cX1_readsComparison 41 = .ok (.invokevirtual 61, 3) := dzr zhdX1_readsComparison_0 23 rfl
def ztdX1_readsComparison_44 : List (Nat × Instr × Nat) := [(44, .ifCond .eq 7, 3), (47, .iconst 1, 1), (48, .goto 4, 3), (51, .iconst 0, 1), (52, .ireturn, 1)]
theorem zhdX1_readsComparison_44 : dzC ztdX1_readsComparison_44 44 (cX1_readsComparison.data.toList.drop 44) = true := by decide +kernel
theorem dX1_readsComparison_44 : decode cX1_readsComparison 44 = .ok (.ifCond .eq 7, 3) := dzr zhdX1_readsComparison_44 0 rfl
theorem dX1_readsComparison_47 : decode cX1_readsComparison 47 = .ok (.iconst 1, 1) := dzr zhdX1_readsComparison_44 1 rfl
theorem dX1_readsComparison_48 : decode cX1_readsComparison 48 = .ok (.goto 4, 3) := dzr zhdX1_readsComparison_44 2 rfl
theorem dX1_readsComparison_51 : decode cX1_readsComparison 51 = .ok (.iconst 0, 1) := dzr zhdX1_readsComparison_44 3 rfl
theorem dX1_readsComparison_52 : decode cX1_readsComparison 52 = .ok (.ireturn, 1) := dzr zhdX1_readsComparison_44 4 rfl
theorem ggX1_readsSum_X1_readsTerm : GoodIn wsX1_readsSum wsX1_readsTerm := (bg_up (bg_law (bi_wsL_law0_r14 _ (List.mem_of_getElem? (i := 9) rfl))))
theorem gX1_readsSum_X1_readsTerm : GoodIn wsX1_readsSum (wsV RX1 67 RX1 yX1_readsTerm wsX1_readsTerm) := goodIn_app (bg_up (bg_cons (bi_wsL_law0_r14 _ (List.mem_of_getElem? (i := 1) rfl)) (bg_cons (bi_wsL_law0_r14 _ (List.mem_of_getElem? (i := 2) rfl)) (bg_cons (bi_wsL_law0_r14 _ (List.mem_of_getElem? (i := 3) rfl)) (bg_cons (bi_wsL_law0_r2 _ (List.mem_of_getElem? (i := 0) rfl)) bg_nil))))) (bg_up (bg_law (bi_wsL_law0_r14 _ (List.mem_of_getElem? (i := 9) rfl))))
theorem ggX1_readsSum_X10_sign : GoodIn wsX1_readsSum wsX10_sign := (bg_up (bg_law (bi_wsL_law0_r10 _ (List.mem_of_getElem? (i := 7) rfl))))
theorem gX1_readsSum_X10_sign : GoodIn wsX1_readsSum (wsV RX1 34 RX10 yX10_sign wsX10_sign) := goodIn_app (bg_up (bg_cons (bi_wsL_law0_r13 _ (List.mem_of_getElem? (i := 0) rfl)) (bg_cons (bi_wsL_law0_r10 _ (List.mem_of_getElem? (i := 5) rfl)) (bg_cons (bi_wsL_law0_r10 _ (List.mem_of_getElem? (i := 6) rfl)) (bg_cons (bi_wsL_law0_r1 _ (List.mem_of_getElem? (i := 16) rfl)) bg_nil))))) (bg_up (bg_law (bi_wsL_law0_r10 _ (List.mem_of_getElem? (i := 7) rfl))))
theorem ggX1_readsSum_X1_put : GoodIn wsX1_readsSum wsX1_put := (bg_up (bg_law (bi_wsL_law0_r13 _ (List.mem_of_getElem? (i := 18) rfl))))
theorem gX1_readsSum_X1_put : GoodIn wsX1_readsSum (wsV RX1 61 RX1 yX1_put wsX1_put) := goodIn_app (bg_up (bg_cons (bi_wsL_law0_r13 _ (List.mem_of_getElem? (i := 15) rfl)) (bg_cons (bi_wsL_law0_r13 _ (List.mem_of_getElem? (i := 16) rfl)) (bg_cons (bi_wsL_law0_r13 _ (List.mem_of_getElem? (i := 17) rfl)) (bg_cons (bi_wsL_law0_r2 _ (List.mem_of_getElem? (i := 0) rfl)) bg_nil))))) (bg_up (bg_law (bi_wsL_law0_r13 _ (List.mem_of_getElem? (i := 18) rfl))))
def ztdX1_readsSum_0 : List (Nat × Instr × Nat) := [(0, .aload_n 0, 1), (1, .iload_n 1, 1), (2, .invokevirtual 67, 3), (5, .ifCond .ne 5, 3), (8, .iconst 0, 1), (9, .ireturn, 1), (10, .iconst 0, 1), (11, .istore_n 2, 1), (12, .iload_n 2, 1), (13, .sipush 240, 3), (16, .if_icmp .ge 74, 3), (19, .aload_n 0, 1), (20, .getfield 17, 3), (23, .invokevirtual 34, 3), (26, .istore_n 3, 1), (27, .iload_n 3, 1), (28, .bipush 43, 2), (30, .if_icmp .eq 11, 3), (33, .iload_n 3, 1), (34, .bipush 45, 2), (36, .if_icmp .eq 5, 3), (39, .iconst 1, 1), (40, .ireturn, 1), (41, .aload_n 0, 1)]
theorem zhdX1_readsSum_0 : dzC ztdX1_readsSum_0 0 (cX1_readsSum.data.toList.drop 0) = true := by decide +kernel
theorem dX1_readsSum_0 : decode cX1_readsSum 0 = .ok (.aload_n 0, 1) := dzr zhdX1_readsSum_0 0 rfl
theorem dX1_readsSum_1 : decode cX1_readsSum 1 = .ok (.iload_n 1, 1) := dzr zhdX1_readsSum_0 1 rfl
theorem dX1_readsSum_2 : decode cX1_readsSum 2 = .ok (.invokevirtual 67, 3) := dzr zhdX1_readsSum_0 2 rfl
theorem dX1_readsSum_5 : decode cX1_readsSum 5 = .ok (.ifCond .ne 5, 3) := dzr zhdX1_readsSum_0 3 rfl
theorem dX1_readsSum_8 : decode cX1_readsSum 8 = .ok (.iconst 0, 1) := dzr zhdX1_readsSum_0 4 rfl
theorem dX1_readsSum_9 : decode cX1_readsSum 9 = .ok (.ireturn, 1) := dzr zhdX1_readsSum_0 5 rfl
theorem dX1_readsSum_10 : decode cX1_readsSum 10 = .ok (.iconst 0, 1) := dzr zhdX1_readsSum_0 6 rfl
theorem dX1_readsSum_11 : decode cX1_readsSum 11 = .ok (.istore_n 2, 1) := dzr zhdX1_readsSum_0 7 rfl
theorem dX1_readsSum_12 : decode cX1_readsSum 12 = .ok (.iload_n 2, 1) := dzr zhdX1_readsSum_0 8 rfl
theorem dX1_readsSum_13 : decode cX1_readsSum 13 = .ok (.sipush 240, 3) := dzr zhdX1_readsSum_0 9 rfl
theorem dX1_readsSum_16 : decode cX1_readsSum 16 = .ok (.if_icmp .ge 74, 3) := dzr zhdX1_readsSum_0 10 rfl
theorem dX1_readsSum_19 : decode cX1_readsSum 19 = .ok (.aload_n 0, 1) := dzr zhdX1_readsSum_0 11 rfl
theorem dX1_readsSum_20 : decode cX1_readsSum 20 = .ok (.getfield 17, 3) := dzr zhdX1_readsSum_0 12 rfl
theorem dX1_readsSum_23 : decode cX1_readsSum 23 = .ok (.invokevirtual 34, 3) := dzr zhdX1_readsSum_0 13 rfl
theorem dX1_readsSum_26 : decode cX1_readsSum 26 = .ok (.istore_n 3, 1) := dzr zhdX1_readsSum_0 14 rfl
theorem dX1_readsSum_27 : decode cX1_readsSum 27 = .ok (.iload_n 3, 1) := dzr zhdX1_readsSum_0 15 rfl
theorem dX1_readsSum_28 : decode cX1_readsSum 28 = .ok (.bipush 43, 2) := dzr zhdX1_readsSum_0 16 rfl
theorem dX1_readsSum_30 : decode cX1_readsSum 30 = .ok (.if_icmp .eq 11, 3) := dzr zhdX1_readsSum_0 17 rfl
theorem dX1_readsSum_33 : decode cX1_readsSum 33 = .ok (.iload_n 3, 1) := dzr zhdX1_readsSum_0 18 rfl
theorem dX1_readsSum_34 : decode cX1_readsSum 34 = .ok (.bipush 45, 2) := dzr zhdX1_readsSum_0 19 rfl
theorem dX1_readsSum_36 : decode cX1_readsSum 36 = .ok (.if_icmp .eq 5, 3) := dzr zhdX1_readsSum_0 20 rfl
theorem dX1_readsSum_39 : decode cX1_readsSum 39 = .ok (.iconst 1, 1) := dzr zhdX1_readsSum_0 21 rfl
theorem dX1_readsSum_40 : decode cX1_readsSum 40 = .ok (.ireturn, 1) := dzr zhdX1_readsSum_0 22 rfl
theorem dX1_readsSum_41 : decode cX1_readsSum 41 = .ok (.aload_n 0, 1) := dzr zhdX1_readsSum_0 23 rfl
def ztdX1_readsSum_42 : List (Nat × Instr × Nat) := [(42, .getfield 17, 3), (45, .dup, 1), (46, .getfield 21, 3), (49, .iconst 1, 1), (50, .iadd, 1), (51, .putfield 21, 3), (54, .aload_n 0, 1), (55, .iload_n 1, 1), (56, .invokevirtual 67, 3), (59, .ifCond .eq 23, 3), (62, .aload_n 0, 1), (63, .iload_n 3, 1), (64, .bipush 43, 2), (66, .if_icmp .ne 8, 3), (69, .bipush (-2), 2), (71, .goto 5, 3), (74, .bipush (-3), 2), (76, .invokevirtual 61, 3), (79, .ifCond .ne 5, 3), (82, .iconst 0, 1), (83, .ireturn, 1), (84, .iinc 2 1, 3), (87, .goto (-75), 3), (90, .iconst 0, 1)]
theorem zhdX1_readsSum_42 : dzC ztdX1_readsSum_42 42 (cX1_readsSum.data.toList.drop 42) = true := by decide +kernel
theorem dX1_readsSum_42 : decode cX1_readsSum 42 = .ok (.getfield 17, 3) := dzr zhdX1_readsSum_42 0 rfl
theorem dX1_readsSum_45 : decode cX1_readsSum 45 = .ok (.dup, 1) := dzr zhdX1_readsSum_42 1 rfl
theorem dX1_readsSum_46 : decode cX1_readsSum 46 = .ok (.getfield 21, 3) := dzr zhdX1_readsSum_42 2 rfl
theorem dX1_readsSum_49 : decode cX1_readsSum 49 = .ok (.iconst 1, 1) := dzr zhdX1_readsSum_42 3 rfl
theorem dX1_readsSum_50 : decode cX1_readsSum 50 = .ok (.iadd, 1) := dzr zhdX1_readsSum_42 4 rfl
theorem dX1_readsSum_51 : decode cX1_readsSum 51 = .ok (.putfield 21, 3) := dzr zhdX1_readsSum_42 5 rfl
theorem dX1_readsSum_54 : decode cX1_readsSum 54 = .ok (.aload_n 0, 1) := dzr zhdX1_readsSum_42 6 rfl
theorem dX1_readsSum_55 : decode cX1_readsSum 55 = .ok (.iload_n 1, 1) := dzr zhdX1_readsSum_42 7 rfl
theorem dX1_readsSum_56 : decode cX1_readsSum 56 = .ok (.invokevirtual 67, 3) := dzr zhdX1_readsSum_42 8 rfl
theorem dX1_readsSum_59 : decode cX1_readsSum 59 = .ok (.ifCond .eq 23, 3) := dzr zhdX1_readsSum_42 9 rfl
theorem dX1_readsSum_62 : decode cX1_readsSum 62 = .ok (.aload_n 0, 1) := dzr zhdX1_readsSum_42 10 rfl
theorem dX1_readsSum_63 : decode cX1_readsSum 63 = .ok (.iload_n 3, 1) := dzr zhdX1_readsSum_42 11 rfl
theorem dX1_readsSum_64 : decode cX1_readsSum 64 = .ok (.bipush 43, 2) := dzr zhdX1_readsSum_42 12 rfl
theorem dX1_readsSum_66 : decode cX1_readsSum 66 = .ok (.if_icmp .ne 8, 3) := dzr zhdX1_readsSum_42 13 rfl
theorem dX1_readsSum_69 : decode cX1_readsSum 69 = .ok (.bipush (-2), 2) := dzr zhdX1_readsSum_42 14 rfl
theorem dX1_readsSum_71 : decode cX1_readsSum 71 = .ok (.goto 5, 3) := dzr zhdX1_readsSum_42 15 rfl
theorem dX1_readsSum_74 : decode cX1_readsSum 74 = .ok (.bipush (-3), 2) := dzr zhdX1_readsSum_42 16 rfl
theorem dX1_readsSum_76 : decode cX1_readsSum 76 = .ok (.invokevirtual 61, 3) := dzr zhdX1_readsSum_42 17 rfl
theorem dX1_readsSum_79 : decode cX1_readsSum 79 = .ok (.ifCond .ne 5, 3) := dzr zhdX1_readsSum_42 18 rfl
theorem dX1_readsSum_82 : decode cX1_readsSum 82 = .ok (.iconst 0, 1) := dzr zhdX1_readsSum_42 19 rfl
theorem dX1_readsSum_83 : decode cX1_readsSum 83 = .ok (.ireturn, 1) := dzr zhdX1_readsSum_42 20 rfl
theorem dX1_readsSum_84 : decode cX1_readsSum 84 = .ok (.iinc 2 1, 3) := dzr zhdX1_readsSum_42 21 rfl
theorem dX1_readsSum_87 : decode cX1_readsSum 87 = .ok (.goto (-75), 3) := dzr zhdX1_readsSum_42 22 rfl
theorem dX1_readsSum_90 : decode cX1_readsSum 90 = .ok (.iconst 0, 1) := dzr zhdX1_readsSum_42 23 rfl
def ztdX1_readsSum_91 : List (Nat × Instr × Nat) := [(91, .ireturn, 1)]
theorem zhdX1_readsSum_91 : dzC ztdX1_readsSum_91 91 (cX1_readsSum.data.toList.drop 91) = true := by decide +kernel
theorem dX1_readsSum_91 : decode cX1_readsSum 91 = .ok (.ireturn, 1) := dzr zhdX1_readsSum_91 0 rfl
theorem ggX1_readsTerm_X1_readsAtom : GoodIn wsX1_readsTerm wsX1_readsAtom := (bg_up (bg_law (bi_wsL_law0_r14 _ (List.mem_of_getElem? (i := 4) rfl))))
theorem gX1_readsTerm_X1_readsAtom : GoodIn wsX1_readsTerm (wsV RX1 70 RX1 yX1_readsAtom wsX1_readsAtom) := goodIn_app (bg_up (bg_cons (bi_wsL_law0_r14 _ (List.mem_of_getElem? (i := 10) rfl)) (bg_cons (bi_wsL_law0_r14 _ (List.mem_of_getElem? (i := 11) rfl)) (bg_cons (bi_wsL_law0_r14 _ (List.mem_of_getElem? (i := 12) rfl)) (bg_cons (bi_wsL_law0_r2 _ (List.mem_of_getElem? (i := 0) rfl)) bg_nil))))) (bg_up (bg_law (bi_wsL_law0_r14 _ (List.mem_of_getElem? (i := 4) rfl))))
theorem ggX1_readsTerm_X10_sign : GoodIn wsX1_readsTerm wsX10_sign := (bg_up (bg_law (bi_wsL_law0_r10 _ (List.mem_of_getElem? (i := 7) rfl))))
theorem gX1_readsTerm_X10_sign : GoodIn wsX1_readsTerm (wsV RX1 34 RX10 yX10_sign wsX10_sign) := goodIn_app (bg_up (bg_cons (bi_wsL_law0_r13 _ (List.mem_of_getElem? (i := 0) rfl)) (bg_cons (bi_wsL_law0_r10 _ (List.mem_of_getElem? (i := 5) rfl)) (bg_cons (bi_wsL_law0_r10 _ (List.mem_of_getElem? (i := 6) rfl)) (bg_cons (bi_wsL_law0_r1 _ (List.mem_of_getElem? (i := 16) rfl)) bg_nil))))) (bg_up (bg_law (bi_wsL_law0_r10 _ (List.mem_of_getElem? (i := 7) rfl))))
theorem ggX1_readsTerm_X1_put : GoodIn wsX1_readsTerm wsX1_put := (bg_up (bg_law (bi_wsL_law0_r13 _ (List.mem_of_getElem? (i := 18) rfl))))
theorem gX1_readsTerm_X1_put : GoodIn wsX1_readsTerm (wsV RX1 61 RX1 yX1_put wsX1_put) := goodIn_app (bg_up (bg_cons (bi_wsL_law0_r13 _ (List.mem_of_getElem? (i := 15) rfl)) (bg_cons (bi_wsL_law0_r13 _ (List.mem_of_getElem? (i := 16) rfl)) (bg_cons (bi_wsL_law0_r13 _ (List.mem_of_getElem? (i := 17) rfl)) (bg_cons (bi_wsL_law0_r2 _ (List.mem_of_getElem? (i := 0) rfl)) bg_nil))))) (bg_up (bg_law (bi_wsL_law0_r13 _ (List.mem_of_getElem? (i := 18) rfl))))
def ztdX1_readsTerm_0 : List (Nat × Instr × Nat) := [(0, .aload_n 0, 1), (1, .iload_n 1, 1), (2, .invokevirtual 70, 3), (5, .ifCond .ne 5, 3), (8, .iconst 0, 1), (9, .ireturn, 1), (10, .iconst 0, 1), (11, .istore_n 2, 1), (12, .iload_n 2, 1), (13, .sipush 240, 3), (16, .if_icmp .ge 74, 3), (19, .aload_n 0, 1), (20, .getfield 17, 3), (23, .invokevirtual 34, 3), (26, .istore_n 3, 1), (27, .iload_n 3, 1), (28, .bipush 42, 2), (30, .if_icmp .eq 11, 3), (33, .iload_n 3, 1), (34, .bipush 47, 2), (36, .if_icmp .eq 5, 3), (39, .iconst 1, 1), (40, .ireturn, 1), (41, .aload_n 0, 1)]
theorem zhdX1_readsTerm_0 : dzC ztdX1_readsTerm_0 0 (cX1_readsTerm.data.toList.drop 0) = true := by decide +kernel
theorem dX1_readsTerm_0 : decode cX1_readsTerm 0 = .ok (.aload_n 0, 1) := dzr zhdX1_readsTerm_0 0 rfl
theorem dX1_readsTerm_1 : decode cX1_readsTerm 1 = .ok (.iload_n 1, 1) := dzr zhdX1_readsTerm_0 1 rfl
theorem dX1_readsTerm_2 : decode cX1_readsTerm 2 = .ok (.invokevirtual 70, 3) := dzr zhdX1_readsTerm_0 2 rfl
theorem dX1_readsTerm_5 : decode cX1_readsTerm 5 = .ok (.ifCond .ne 5, 3) := dzr zhdX1_readsTerm_0 3 rfl
theorem dX1_readsTerm_8 : decode cX1_readsTerm 8 = .ok (.iconst 0, 1) := dzr zhdX1_readsTerm_0 4 rfl
theorem dX1_readsTerm_9 : decode cX1_readsTerm 9 = .ok (.ireturn, 1) := dzr zhdX1_readsTerm_0 5 rfl
theorem dX1_readsTerm_10 : decode cX1_readsTerm 10 = .ok (.iconst 0, 1) := dzr zhdX1_readsTerm_0 6 rfl
theorem dX1_readsTerm_11 : decode cX1_readsTerm 11 = .ok (.istore_n 2, 1) := dzr zhdX1_readsTerm_0 7 rfl
theorem dX1_readsTerm_12 : decode cX1_readsTerm 12 = .ok (.iload_n 2, 1) := dzr zhdX1_readsTerm_0 8 rfl
theorem dX1_readsTerm_13 : decode cX1_readsTerm 13 = .ok (.sipush 240, 3) := dzr zhdX1_readsTerm_0 9 rfl
theorem dX1_readsTerm_16 : decode cX1_readsTerm 16 = .ok (.if_icmp .ge 74, 3) := dzr zhdX1_readsTerm_0 10 rfl
theorem dX1_readsTerm_19 : decode cX1_readsTerm 19 = .ok (.aload_n 0, 1) := dzr zhdX1_readsTerm_0 11 rfl
theorem dX1_readsTerm_20 : decode cX1_readsTerm 20 = .ok (.getfield 17, 3) := dzr zhdX1_readsTerm_0 12 rfl
theorem dX1_readsTerm_23 : decode cX1_readsTerm 23 = .ok (.invokevirtual 34, 3) := dzr zhdX1_readsTerm_0 13 rfl
theorem dX1_readsTerm_26 : decode cX1_readsTerm 26 = .ok (.istore_n 3, 1) := dzr zhdX1_readsTerm_0 14 rfl
theorem dX1_readsTerm_27 : decode cX1_readsTerm 27 = .ok (.iload_n 3, 1) := dzr zhdX1_readsTerm_0 15 rfl
theorem dX1_readsTerm_28 : decode cX1_readsTerm 28 = .ok (.bipush 42, 2) := dzr zhdX1_readsTerm_0 16 rfl
theorem dX1_readsTerm_30 : decode cX1_readsTerm 30 = .ok (.if_icmp .eq 11, 3) := dzr zhdX1_readsTerm_0 17 rfl
theorem dX1_readsTerm_33 : decode cX1_readsTerm 33 = .ok (.iload_n 3, 1) := dzr zhdX1_readsTerm_0 18 rfl
theorem dX1_readsTerm_34 : decode cX1_readsTerm 34 = .ok (.bipush 47, 2) := dzr zhdX1_readsTerm_0 19 rfl
theorem dX1_readsTerm_36 : decode cX1_readsTerm 36 = .ok (.if_icmp .eq 5, 3) := dzr zhdX1_readsTerm_0 20 rfl
theorem dX1_readsTerm_39 : decode cX1_readsTerm 39 = .ok (.iconst 1, 1) := dzr zhdX1_readsTerm_0 21 rfl
theorem dX1_readsTerm_40 : decode cX1_readsTerm 40 = .ok (.ireturn, 1) := dzr zhdX1_readsTerm_0 22 rfl
theorem dX1_readsTerm_41 : decode cX1_readsTerm 41 = .ok (.aload_n 0, 1) := dzr zhdX1_readsTerm_0 23 rfl
def ztdX1_readsTerm_42 : List (Nat × Instr × Nat) := [(42, .getfield 17, 3), (45, .dup, 1), (46, .getfield 21, 3), (49, .iconst 1, 1), (50, .iadd, 1), (51, .putfield 21, 3), (54, .aload_n 0, 1), (55, .iload_n 1, 1), (56, .invokevirtual 70, 3), (59, .ifCond .eq 23, 3), (62, .aload_n 0, 1), (63, .iload_n 3, 1), (64, .bipush 42, 2), (66, .if_icmp .ne 8, 3), (69, .bipush (-4), 2), (71, .goto 5, 3), (74, .bipush (-5), 2), (76, .invokevirtual 61, 3), (79, .ifCond .ne 5, 3), (82, .iconst 0, 1), (83, .ireturn, 1), (84, .iinc 2 1, 3), (87, .goto (-75), 3), (90, .iconst 0, 1)]
theorem zhdX1_readsTerm_42 : dzC ztdX1_readsTerm_42 42 (cX1_readsTerm.data.toList.drop 42) = true := by decide +kernel
theorem dX1_readsTerm_42 : decode cX1_readsTerm 42 = .ok (.getfield 17, 3) := dzr zhdX1_readsTerm_42 0 rfl
theorem dX1_readsTerm_45 : decode cX1_readsTerm 45 = .ok (.dup, 1) := dzr zhdX1_readsTerm_42 1 rfl
theorem dX1_readsTerm_46 : decode cX1_readsTerm 46 = .ok (.getfield 21, 3) := dzr zhdX1_readsTerm_42 2 rfl
theorem dX1_readsTerm_49 : decode cX1_readsTerm 49 = .ok (.iconst 1, 1) := dzr zhdX1_readsTerm_42 3 rfl
theorem dX1_readsTerm_50 : decode cX1_readsTerm 50 = .ok (.iadd, 1) := dzr zhdX1_readsTerm_42 4 rfl
theorem dX1_readsTerm_51 : decode cX1_readsTerm 51 = .ok (.putfield 21, 3) := dzr zhdX1_readsTerm_42 5 rfl
theorem dX1_readsTerm_54 : decode cX1_readsTerm 54 = .ok (.aload_n 0, 1) := dzr zhdX1_readsTerm_42 6 rfl
theorem dX1_readsTerm_55 : decode cX1_readsTerm 55 = .ok (.iload_n 1, 1) := dzr zhdX1_readsTerm_42 7 rfl
theorem dX1_readsTerm_56 : decode cX1_readsTerm 56 = .ok (.invokevirtual 70, 3) := dzr zhdX1_readsTerm_42 8 rfl
theorem dX1_readsTerm_59 : decode cX1_readsTerm 59 = .ok (.ifCond .eq 23, 3) := dzr zhdX1_readsTerm_42 9 rfl
theorem dX1_readsTerm_62 : decode cX1_readsTerm 62 = .ok (.aload_n 0, 1) := dzr zhdX1_readsTerm_42 10 rfl
theorem dX1_readsTerm_63 : decode cX1_readsTerm 63 = .ok (.iload_n 3, 1) := dzr zhdX1_readsTerm_42 11 rfl
theorem dX1_readsTerm_64 : decode cX1_readsTerm 64 = .ok (.bipush 42, 2) := dzr zhdX1_readsTerm_42 12 rfl
theorem dX1_readsTerm_66 : decode cX1_readsTerm 66 = .ok (.if_icmp .ne 8, 3) := dzr zhdX1_readsTerm_42 13 rfl
theorem dX1_readsTerm_69 : decode cX1_readsTerm 69 = .ok (.bipush (-4), 2) := dzr zhdX1_readsTerm_42 14 rfl
theorem dX1_readsTerm_71 : decode cX1_readsTerm 71 = .ok (.goto 5, 3) := dzr zhdX1_readsTerm_42 15 rfl
theorem dX1_readsTerm_74 : decode cX1_readsTerm 74 = .ok (.bipush (-5), 2) := dzr zhdX1_readsTerm_42 16 rfl
theorem dX1_readsTerm_76 : decode cX1_readsTerm 76 = .ok (.invokevirtual 61, 3) := dzr zhdX1_readsTerm_42 17 rfl
theorem dX1_readsTerm_79 : decode cX1_readsTerm 79 = .ok (.ifCond .ne 5, 3) := dzr zhdX1_readsTerm_42 18 rfl
theorem dX1_readsTerm_82 : decode cX1_readsTerm 82 = .ok (.iconst 0, 1) := dzr zhdX1_readsTerm_42 19 rfl
theorem dX1_readsTerm_83 : decode cX1_readsTerm 83 = .ok (.ireturn, 1) := dzr zhdX1_readsTerm_42 20 rfl
theorem dX1_readsTerm_84 : decode cX1_readsTerm 84 = .ok (.iinc 2 1, 3) := dzr zhdX1_readsTerm_42 21 rfl
theorem dX1_readsTerm_87 : decode cX1_readsTerm 87 = .ok (.goto (-75), 3) := dzr zhdX1_readsTerm_42 22 rfl
theorem dX1_readsTerm_90 : decode cX1_readsTerm 90 = .ok (.iconst 0, 1) := dzr zhdX1_readsTerm_42 23 rfl
def ztdX1_readsTerm_91 : List (Nat × Instr × Nat) := [(91, .ireturn, 1)]
theorem zhdX1_readsTerm_91 : dzC ztdX1_readsTerm_91 91 (cX1_readsTerm.data.toList.drop 91) = true := by decide +kernel
theorem dX1_readsTerm_91 : decode cX1_readsTerm 91 = .ok (.ireturn, 1) := dzr zhdX1_readsTerm_91 0 rfl
theorem ggX1_readsAtom_X10_sign : GoodIn wsX1_readsAtom wsX10_sign := (bg_up (bg_law (bi_wsL_law0_r10 _ (List.mem_of_getElem? (i := 7) rfl))))
theorem gX1_readsAtom_X10_sign : GoodIn wsX1_readsAtom (wsV RX1 34 RX10 yX10_sign wsX10_sign) := goodIn_app (bg_up (bg_cons (bi_wsL_law0_r13 _ (List.mem_of_getElem? (i := 0) rfl)) (bg_cons (bi_wsL_law0_r10 _ (List.mem_of_getElem? (i := 5) rfl)) (bg_cons (bi_wsL_law0_r10 _ (List.mem_of_getElem? (i := 6) rfl)) (bg_cons (bi_wsL_law0_r1 _ (List.mem_of_getElem? (i := 16) rfl)) bg_nil))))) (bg_up (bg_law (bi_wsL_law0_r10 _ (List.mem_of_getElem? (i := 7) rfl))))
theorem ggX1_readsAtom_X1_readsSum : GoodIn wsX1_readsAtom wsX1_readsSum := (bg_up (bg_law (bi_wsL_law0_r14 _ (List.mem_of_getElem? (i := 0) rfl))))
theorem gX1_readsAtom_X1_readsSum : GoodIn wsX1_readsAtom (wsV RX1 45 RX1 yX1_readsSum wsX1_readsSum) := goodIn_app (bg_up (bg_cons (bi_wsL_law0_r13 _ (List.mem_of_getElem? (i := 21) rfl)) (bg_cons (bi_wsL_law0_r13 _ (List.mem_of_getElem? (i := 22) rfl)) (bg_cons (bi_wsL_law0_r13 _ (List.mem_of_getElem? (i := 23) rfl)) (bg_cons (bi_wsL_law0_r2 _ (List.mem_of_getElem? (i := 0) rfl)) bg_nil))))) (bg_up (bg_law (bi_wsL_law0_r14 _ (List.mem_of_getElem? (i := 0) rfl))))
theorem ggX1_readsAtom_X10_take : GoodIn wsX1_readsAtom wsX10_take := (bg_up (bg_law (bi_wsL_law0_r12 _ (List.mem_of_getElem? (i := 12) rfl))))
theorem gX1_readsAtom_X10_take : GoodIn wsX1_readsAtom (wsV RX1 38 RX10 yX10_take wsX10_take) := goodIn_app (bg_up (bg_cons (bi_wsL_law0_r12 _ (List.mem_of_getElem? (i := 23) rfl)) (bg_cons (bi_wsL_law0_r12 _ (List.mem_of_getElem? (i := 10) rfl)) (bg_cons (bi_wsL_law0_r12 _ (List.mem_of_getElem? (i := 11) rfl)) (bg_cons (bi_wsL_law0_r1 _ (List.mem_of_getElem? (i := 16) rfl)) bg_nil))))) (bg_up (bg_law (bi_wsL_law0_r12 _ (List.mem_of_getElem? (i := 12) rfl))))
theorem ggX1_readsAtom_X2_letter : GoodIn wsX1_readsAtom wsX2_letter := (bg_up (bg_law (bi_wsL_law0_r14 _ (List.mem_of_getElem? (i := 7) rfl))))
theorem gX1_readsAtom_X2_letter : GoodIn wsX1_readsAtom (va_wsS RX1 73 yX2_letter wsX2_letter) := goodIn_app (bg_up (bg_cons (bi_wsL_law0_r14 _ (List.mem_of_getElem? (i := 5) rfl)) (bg_cons (bi_wsL_law0_r14 _ (List.mem_of_getElem? (i := 6) rfl)) (bg_cons (bi_wsL_law0_r2 _ (List.mem_of_getElem? (i := 8) rfl)) bg_nil)))) (bg_up (bg_law (bi_wsL_law0_r14 _ (List.mem_of_getElem? (i := 7) rfl))))
theorem ggX1_readsAtom_X1_put : GoodIn wsX1_readsAtom wsX1_put := (bg_up (bg_law (bi_wsL_law0_r13 _ (List.mem_of_getElem? (i := 18) rfl))))
theorem gX1_readsAtom_X1_put : GoodIn wsX1_readsAtom (wsV RX1 61 RX1 yX1_put wsX1_put) := goodIn_app (bg_up (bg_cons (bi_wsL_law0_r13 _ (List.mem_of_getElem? (i := 15) rfl)) (bg_cons (bi_wsL_law0_r13 _ (List.mem_of_getElem? (i := 16) rfl)) (bg_cons (bi_wsL_law0_r13 _ (List.mem_of_getElem? (i := 17) rfl)) (bg_cons (bi_wsL_law0_r2 _ (List.mem_of_getElem? (i := 0) rfl)) bg_nil))))) (bg_up (bg_law (bi_wsL_law0_r13 _ (List.mem_of_getElem? (i := 18) rfl))))
theorem ggX1_readsAtom_X10_number : GoodIn wsX1_readsAtom wsX10_number := (bg_up (bg_law (bi_wsL_law0_r11 _ (List.mem_of_getElem? (i := 12) rfl))))
theorem gX1_readsAtom_X10_number : GoodIn wsX1_readsAtom (wsV RX1 76 RX10 yX10_number wsX10_number) := goodIn_app (bg_up (bg_cons (bi_wsL_law0_r14 _ (List.mem_of_getElem? (i := 8) rfl)) (bg_cons (bi_wsL_law0_r11 _ (List.mem_of_getElem? (i := 10) rfl)) (bg_cons (bi_wsL_law0_r11 _ (List.mem_of_getElem? (i := 11) rfl)) (bg_cons (bi_wsL_law0_r1 _ (List.mem_of_getElem? (i := 16) rfl)) bg_nil))))) (bg_up (bg_law (bi_wsL_law0_r11 _ (List.mem_of_getElem? (i := 12) rfl))))
def ztdX1_readsAtom_0 : List (Nat × Instr × Nat) := [(0, .aload_n 0, 1), (1, .getfield 17, 3), (4, .invokevirtual 34, 3), (7, .istore_n 2, 1), (8, .iload_n 2, 1), (9, .bipush 91, 2), (11, .if_icmp .ne 52, 3), (14, .iload_n 1, 1), (15, .bipush 6, 2), (17, .if_icmp .lt 5, 3), (20, .iconst 0, 1), (21, .ireturn, 1), (22, .aload_n 0, 1), (23, .getfield 17, 3), (26, .dup, 1), (27, .getfield 21, 3), (30, .iconst 1, 1), (31, .iadd, 1), (32, .putfield 21, 3), (35, .aload_n 0, 1), (36, .iload_n 1, 1), (37, .iconst 1, 1), (38, .iadd, 1), (39, .invokevirtual 45, 3)]
theorem zhdX1_readsAtom_0 : dzC ztdX1_readsAtom_0 0 (cX1_readsAtom.data.toList.drop 0) = true := by decide +kernel
theorem dX1_readsAtom_0 : decode cX1_readsAtom 0 = .ok (.aload_n 0, 1) := dzr zhdX1_readsAtom_0 0 rfl
theorem dX1_readsAtom_1 : decode cX1_readsAtom 1 = .ok (.getfield 17, 3) := dzr zhdX1_readsAtom_0 1 rfl
theorem dX1_readsAtom_4 : decode cX1_readsAtom 4 = .ok (.invokevirtual 34, 3) := dzr zhdX1_readsAtom_0 2 rfl
theorem dX1_readsAtom_7 : decode cX1_readsAtom 7 = .ok (.istore_n 2, 1) := dzr zhdX1_readsAtom_0 3 rfl
theorem dX1_readsAtom_8 : decode cX1_readsAtom 8 = .ok (.iload_n 2, 1) := dzr zhdX1_readsAtom_0 4 rfl
theorem dX1_readsAtom_9 : decode cX1_readsAtom 9 = .ok (.bipush 91, 2) := dzr zhdX1_readsAtom_0 5 rfl
theorem dX1_readsAtom_11 : decode cX1_readsAtom 11 = .ok (.if_icmp .ne 52, 3) := dzr zhdX1_readsAtom_0 6 rfl
theorem dX1_readsAtom_14 : decode cX1_readsAtom 14 = .ok (.iload_n 1, 1) := dzr zhdX1_readsAtom_0 7 rfl
theorem dX1_readsAtom_15 : decode cX1_readsAtom 15 = .ok (.bipush 6, 2) := dzr zhdX1_readsAtom_0 8 rfl
theorem dX1_readsAtom_17 : decode cX1_readsAtom 17 = .ok (.if_icmp .lt 5, 3) := dzr zhdX1_readsAtom_0 9 rfl
theorem dX1_readsAtom_20 : decode cX1_readsAtom 20 = .ok (.iconst 0, 1) := dzr zhdX1_readsAtom_0 10 rfl
theorem dX1_readsAtom_21 : decode cX1_readsAtom 21 = .ok (.ireturn, 1) := dzr zhdX1_readsAtom_0 11 rfl
theorem dX1_readsAtom_22 : decode cX1_readsAtom 22 = .ok (.aload_n 0, 1) := dzr zhdX1_readsAtom_0 12 rfl
theorem dX1_readsAtom_23 : decode cX1_readsAtom 23 = .ok (.getfield 17, 3) := dzr zhdX1_readsAtom_0 13 rfl
theorem dX1_readsAtom_26 : decode cX1_readsAtom 26 = .ok (.dup, 1) := dzr zhdX1_readsAtom_0 14 rfl
theorem dX1_readsAtom_27 : decode cX1_readsAtom 27 = .ok (.getfield 21, 3) := dzr zhdX1_readsAtom_0 15 rfl
theorem dX1_readsAtom_30 : decode cX1_readsAtom 30 = .ok (.iconst 1, 1) := dzr zhdX1_readsAtom_0 16 rfl
theorem dX1_readsAtom_31 : decode cX1_readsAtom 31 = .ok (.iadd, 1) := dzr zhdX1_readsAtom_0 17 rfl
theorem dX1_readsAtom_32 : decode cX1_readsAtom 32 = .ok (.putfield 21, 3) := dzr zhdX1_readsAtom_0 18 rfl
theorem dX1_readsAtom_35 : decode cX1_readsAtom 35 = .ok (.aload_n 0, 1) := dzr zhdX1_readsAtom_0 19 rfl
theorem dX1_readsAtom_36 : decode cX1_readsAtom 36 = .ok (.iload_n 1, 1) := dzr zhdX1_readsAtom_0 20 rfl
theorem dX1_readsAtom_37 : decode cX1_readsAtom 37 = .ok (.iconst 1, 1) := dzr zhdX1_readsAtom_0 21 rfl
theorem dX1_readsAtom_38 : decode cX1_readsAtom 38 = .ok (.iadd, 1) := dzr zhdX1_readsAtom_0 22 rfl
theorem dX1_readsAtom_39 : decode cX1_readsAtom 39 = .ok (.invokevirtual 45, 3) := dzr zhdX1_readsAtom_0 23 rfl
def ztdX1_readsAtom_42 : List (Nat × Instr × Nat) := [(42, .ifCond .eq 19, 3), (45, .aload_n 0, 1), (46, .getfield 17, 3), (49, .bipush 93, 2), (51, .invokevirtual 38, 3), (54, .ifCond .eq 7, 3), (57, .iconst 1, 1), (58, .goto 4, 3), (61, .iconst 0, 1), (62, .ireturn, 1), (63, .iload_n 2, 1), (64, .invokestatic 73, 3), (67, .istore_n 3, 1), (68, .iload_n 3, 1), (69, .iconst (-1), 1), (70, .if_icmp .eq 25, 3), (73, .aload_n 0, 1), (74, .getfield 17, 3), (77, .dup, 1), (78, .getfield 21, 3), (81, .iconst 1, 1), (82, .iadd, 1), (83, .putfield 21, 3), (86, .aload_n 0, 1)]
theorem zhdX1_readsAtom_42 : dzC ztdX1_readsAtom_42 42 (cX1_readsAtom.data.toList.drop 42) = true := by decide +kernel
theorem dX1_readsAtom_42 : decode cX1_readsAtom 42 = .ok (.ifCond .eq 19, 3) := dzr zhdX1_readsAtom_42 0 rfl
theorem dX1_readsAtom_45 : decode cX1_readsAtom 45 = .ok (.aload_n 0, 1) := dzr zhdX1_readsAtom_42 1 rfl
theorem dX1_readsAtom_46 : decode cX1_readsAtom 46 = .ok (.getfield 17, 3) := dzr zhdX1_readsAtom_42 2 rfl
theorem dX1_readsAtom_49 : decode cX1_readsAtom 49 = .ok (.bipush 93, 2) := dzr zhdX1_readsAtom_42 3 rfl
theorem dX1_readsAtom_51 : decode cX1_readsAtom 51 = .ok (.invokevirtual 38, 3) := dzr zhdX1_readsAtom_42 4 rfl
theorem dX1_readsAtom_54 : decode cX1_readsAtom 54 = .ok (.ifCond .eq 7, 3) := dzr zhdX1_readsAtom_42 5 rfl
theorem dX1_readsAtom_57 : decode cX1_readsAtom 57 = .ok (.iconst 1, 1) := dzr zhdX1_readsAtom_42 6 rfl
theorem dX1_readsAtom_58 : decode cX1_readsAtom 58 = .ok (.goto 4, 3) := dzr zhdX1_readsAtom_42 7 rfl
theorem dX1_readsAtom_61 : decode cX1_readsAtom 61 = .ok (.iconst 0, 1) := dzr zhdX1_readsAtom_42 8 rfl
theorem dX1_readsAtom_62 : decode cX1_readsAtom 62 = .ok (.ireturn, 1) := dzr zhdX1_readsAtom_42 9 rfl
theorem dX1_readsAtom_63 : decode cX1_readsAtom 63 = .ok (.iload_n 2, 1) := dzr zhdX1_readsAtom_42 10 rfl
theorem dX1_readsAtom_64 : decode cX1_readsAtom 64 = .ok (.invokestatic 73, 3) := dzr zhdX1_readsAtom_42 11 rfl
theorem dX1_readsAtom_67 : decode cX1_readsAtom 67 = .ok (.istore_n 3, 1) := dzr zhdX1_readsAtom_42 12 rfl
theorem dX1_readsAtom_68 : decode cX1_readsAtom 68 = .ok (.iload_n 3, 1) := dzr zhdX1_readsAtom_42 13 rfl
theorem dX1_readsAtom_69 : decode cX1_readsAtom 69 = .ok (.iconst (-1), 1) := dzr zhdX1_readsAtom_42 14 rfl
theorem dX1_readsAtom_70 : decode cX1_readsAtom 70 = .ok (.if_icmp .eq 25, 3) := dzr zhdX1_readsAtom_42 15 rfl
theorem dX1_readsAtom_73 : decode cX1_readsAtom 73 = .ok (.aload_n 0, 1) := dzr zhdX1_readsAtom_42 16 rfl
theorem dX1_readsAtom_74 : decode cX1_readsAtom 74 = .ok (.getfield 17, 3) := dzr zhdX1_readsAtom_42 17 rfl
theorem dX1_readsAtom_77 : decode cX1_readsAtom 77 = .ok (.dup, 1) := dzr zhdX1_readsAtom_42 18 rfl
theorem dX1_readsAtom_78 : decode cX1_readsAtom 78 = .ok (.getfield 21, 3) := dzr zhdX1_readsAtom_42 19 rfl
theorem dX1_readsAtom_81 : decode cX1_readsAtom 81 = .ok (.iconst 1, 1) := dzr zhdX1_readsAtom_42 20 rfl
theorem dX1_readsAtom_82 : decode cX1_readsAtom 82 = .ok (.iadd, 1) := dzr zhdX1_readsAtom_42 21 rfl
theorem dX1_readsAtom_83 : decode cX1_readsAtom 83 = .ok (.putfield 21, 3) := dzr zhdX1_readsAtom_42 22 rfl
theorem dX1_readsAtom_86 : decode cX1_readsAtom 86 = .ok (.aload_n 0, 1) := dzr zhdX1_readsAtom_42 23 rfl
def ztdX1_readsAtom_87 : List (Nat × Instr × Nat) := [(87, .bipush (-14), 2), (89, .iload_n 3, 1), (90, .isub, 1), (91, .invokevirtual 61, 3), (94, .ireturn, 1), (95, .aload_n 0, 1), (96, .getfield 17, 3), (99, .iconst 4, 1), (100, .invokevirtual 76, 3), (103, .istore 4, 2), (105, .iload 4, 2), (107, .iconst (-1), 1), (108, .if_icmp .eq 16, 3), (111, .aload_n 0, 1), (112, .iload 4, 2), (114, .invokevirtual 61, 3), (117, .ifCond .eq 7, 3), (120, .iconst 1, 1), (121, .goto 4, 3), (124, .iconst 0, 1), (125, .ireturn, 1)]
theorem zhdX1_readsAtom_87 : dzC ztdX1_readsAtom_87 87 (cX1_readsAtom.data.toList.drop 87) = true := by decide +kernel
theorem dX1_readsAtom_87 : decode cX1_readsAtom 87 = .ok (.bipush (-14), 2) := dzr zhdX1_readsAtom_87 0 rfl
theorem dX1_readsAtom_89 : decode cX1_readsAtom 89 = .ok (.iload_n 3, 1) := dzr zhdX1_readsAtom_87 1 rfl
theorem dX1_readsAtom_90 : decode cX1_readsAtom 90 = .ok (.isub, 1) := dzr zhdX1_readsAtom_87 2 rfl
theorem dX1_readsAtom_91 : decode cX1_readsAtom 91 = .ok (.invokevirtual 61, 3) := dzr zhdX1_readsAtom_87 3 rfl
theorem dX1_readsAtom_94 : decode cX1_readsAtom 94 = .ok (.ireturn, 1) := dzr zhdX1_readsAtom_87 4 rfl
theorem dX1_readsAtom_95 : decode cX1_readsAtom 95 = .ok (.aload_n 0, 1) := dzr zhdX1_readsAtom_87 5 rfl
theorem dX1_readsAtom_96 : decode cX1_readsAtom 96 = .ok (.getfield 17, 3) := dzr zhdX1_readsAtom_87 6 rfl
theorem dX1_readsAtom_99 : decode cX1_readsAtom 99 = .ok (.iconst 4, 1) := dzr zhdX1_readsAtom_87 7 rfl
theorem dX1_readsAtom_100 : decode cX1_readsAtom 100 = .ok (.invokevirtual 76, 3) := dzr zhdX1_readsAtom_87 8 rfl
theorem dX1_readsAtom_103 : decode cX1_readsAtom 103 = .ok (.istore 4, 2) := dzr zhdX1_readsAtom_87 9 rfl
theorem dX1_readsAtom_105 : decode cX1_readsAtom 105 = .ok (.iload 4, 2) := dzr zhdX1_readsAtom_87 10 rfl
theorem dX1_readsAtom_107 : decode cX1_readsAtom 107 = .ok (.iconst (-1), 1) := dzr zhdX1_readsAtom_87 11 rfl
theorem dX1_readsAtom_108 : decode cX1_readsAtom 108 = .ok (.if_icmp .eq 16, 3) := dzr zhdX1_readsAtom_87 12 rfl
theorem dX1_readsAtom_111 : decode cX1_readsAtom 111 = .ok (.aload_n 0, 1) := dzr zhdX1_readsAtom_87 13 rfl
theorem dX1_readsAtom_112 : decode cX1_readsAtom 112 = .ok (.iload 4, 2) := dzr zhdX1_readsAtom_87 14 rfl
theorem dX1_readsAtom_114 : decode cX1_readsAtom 114 = .ok (.invokevirtual 61, 3) := dzr zhdX1_readsAtom_87 15 rfl
theorem dX1_readsAtom_117 : decode cX1_readsAtom 117 = .ok (.ifCond .eq 7, 3) := dzr zhdX1_readsAtom_87 16 rfl
theorem dX1_readsAtom_120 : decode cX1_readsAtom 120 = .ok (.iconst 1, 1) := dzr zhdX1_readsAtom_87 17 rfl
theorem dX1_readsAtom_121 : decode cX1_readsAtom 121 = .ok (.goto 4, 3) := dzr zhdX1_readsAtom_87 18 rfl
theorem dX1_readsAtom_124 : decode cX1_readsAtom 124 = .ok (.iconst 0, 1) := dzr zhdX1_readsAtom_87 19 rfl
theorem dX1_readsAtom_125 : decode cX1_readsAtom 125 = .ok (.ireturn, 1) := dzr zhdX1_readsAtom_87 20 rfl
def ztdX1_put_0 : List (Nat × Instr × Nat) := [(0, .aload_n 0, 1), (1, .getfield 27, 3), (4, .sipush 241, 3), (7, .if_icmp .lt 5, 3), (10, .iconst 0, 1), (11, .ireturn, 1), (12, .aload_n 0, 1), (13, .getfield 11, 3), (16, .aload_n 0, 1), (17, .getfield 27, 3), (20, .iload_n 1, 1), (21, .iastore, 1), (22, .aload_n 0, 1), (23, .dup, 1), (24, .getfield 27, 3), (27, .iconst 1, 1), (28, .iadd, 1), (29, .putfield 27, 3), (32, .iconst 1, 1), (33, .ireturn, 1)]
theorem zhdX1_put_0 : dzC ztdX1_put_0 0 (cX1_put.data.toList.drop 0) = true := by decide +kernel
theorem dX1_put_0 : decode cX1_put 0 = .ok (.aload_n 0, 1) := dzr zhdX1_put_0 0 rfl
theorem dX1_put_1 : decode cX1_put 1 = .ok (.getfield 27, 3) := dzr zhdX1_put_0 1 rfl
theorem dX1_put_4 : decode cX1_put 4 = .ok (.sipush 241, 3) := dzr zhdX1_put_0 2 rfl
theorem dX1_put_7 : decode cX1_put 7 = .ok (.if_icmp .lt 5, 3) := dzr zhdX1_put_0 3 rfl
theorem dX1_put_10 : decode cX1_put 10 = .ok (.iconst 0, 1) := dzr zhdX1_put_0 4 rfl
theorem dX1_put_11 : decode cX1_put 11 = .ok (.ireturn, 1) := dzr zhdX1_put_0 5 rfl
theorem dX1_put_12 : decode cX1_put 12 = .ok (.aload_n 0, 1) := dzr zhdX1_put_0 6 rfl
theorem dX1_put_13 : decode cX1_put 13 = .ok (.getfield 11, 3) := dzr zhdX1_put_0 7 rfl
theorem dX1_put_16 : decode cX1_put 16 = .ok (.aload_n 0, 1) := dzr zhdX1_put_0 8 rfl
theorem dX1_put_17 : decode cX1_put 17 = .ok (.getfield 27, 3) := dzr zhdX1_put_0 9 rfl
theorem dX1_put_20 : decode cX1_put 20 = .ok (.iload_n 1, 1) := dzr zhdX1_put_0 10 rfl
theorem dX1_put_21 : decode cX1_put 21 = .ok (.iastore, 1) := dzr zhdX1_put_0 11 rfl
theorem dX1_put_22 : decode cX1_put 22 = .ok (.aload_n 0, 1) := dzr zhdX1_put_0 12 rfl
theorem dX1_put_23 : decode cX1_put 23 = .ok (.dup, 1) := dzr zhdX1_put_0 13 rfl
theorem dX1_put_24 : decode cX1_put 24 = .ok (.getfield 27, 3) := dzr zhdX1_put_0 14 rfl
theorem dX1_put_27 : decode cX1_put 27 = .ok (.iconst 1, 1) := dzr zhdX1_put_0 15 rfl
theorem dX1_put_28 : decode cX1_put 28 = .ok (.iadd, 1) := dzr zhdX1_put_0 16 rfl
theorem dX1_put_29 : decode cX1_put 29 = .ok (.putfield 27, 3) := dzr zhdX1_put_0 17 rfl
theorem dX1_put_32 : decode cX1_put 32 = .ok (.iconst 1, 1) := dzr zhdX1_put_0 18 rfl
theorem dX1_put_33 : decode cX1_put 33 = .ok (.ireturn, 1) := dzr zhdX1_put_0 19 rfl
theorem dX2_init_14 : decode cX2_init 14 = .ok (.multianewarray 15 2, 4) := by decide +kernel
theorem dX2_init_23 : decode cX2_init 23 = .ok (.newarray .int, 2) := by decide +kernel
theorem dX2_init_33 : decode cX2_init 33 = .ok (.newarray .int, 2) := by decide +kernel
theorem dX2_init_42 : decode cX2_init 42 = .ok (.newarray .int, 2) := by decide +kernel
def ztdX2_init_0 : List (Nat × Instr × Nat) := [(0, .aload_n 0, 1), (1, .invokespecial 3, 3), (4, .aload_n 0, 1), (5, .iconst (-1), 1), (6, .putfield 9, 3), (9, .aload_n 0, 1), (10, .iconst 4, 1), (11, .sipush 241, 3), (18, .putfield 17, 3), (21, .aload_n 0, 1), (22, .iconst 4, 1), (25, .putfield 20, 3), (28, .aload_n 0, 1), (29, .getstatic 24, 3), (32, .arraylength, 1), (35, .putfield 28, 3), (38, .aload_n 0, 1), (39, .sipush 241, 3), (44, .putfield 31, 3), (47, .return_, 1)]
theorem zhdX2_init_0 : dzC ztdX2_init_0 0 (cX2_init.data.toList.drop 0) = true := by decide +kernel
theorem dX2_init_0 : decode cX2_init 0 = .ok (.aload_n 0, 1) := dzr zhdX2_init_0 0 rfl
theorem dX2_init_1 : decode cX2_init 1 = .ok (.invokespecial 3, 3) := dzr zhdX2_init_0 1 rfl
theorem dX2_init_4 : decode cX2_init 4 = .ok (.aload_n 0, 1) := dzr zhdX2_init_0 2 rfl
theorem dX2_init_5 : decode cX2_init 5 = .ok (.iconst (-1), 1) := dzr zhdX2_init_0 3 rfl
theorem dX2_init_6 : decode cX2_init 6 = .ok (.putfield 9, 3) := dzr zhdX2_init_0 4 rfl
theorem dX2_init_9 : decode cX2_init 9 = .ok (.aload_n 0, 1) := dzr zhdX2_init_0 5 rfl
theorem dX2_init_10 : decode cX2_init 10 = .ok (.iconst 4, 1) := dzr zhdX2_init_0 6 rfl
theorem dX2_init_11 : decode cX2_init 11 = .ok (.sipush 241, 3) := dzr zhdX2_init_0 7 rfl
theorem dX2_init_18 : decode cX2_init 18 = .ok (.putfield 17, 3) := dzr zhdX2_init_0 8 rfl
theorem dX2_init_21 : decode cX2_init 21 = .ok (.aload_n 0, 1) := dzr zhdX2_init_0 9 rfl
theorem dX2_init_22 : decode cX2_init 22 = .ok (.iconst 4, 1) := dzr zhdX2_init_0 10 rfl
theorem dX2_init_25 : decode cX2_init 25 = .ok (.putfield 20, 3) := dzr zhdX2_init_0 11 rfl
theorem dX2_init_28 : decode cX2_init 28 = .ok (.aload_n 0, 1) := dzr zhdX2_init_0 12 rfl
theorem dX2_init_29 : decode cX2_init 29 = .ok (.getstatic 24, 3) := dzr zhdX2_init_0 13 rfl
theorem dX2_init_32 : decode cX2_init 32 = .ok (.arraylength, 1) := dzr zhdX2_init_0 14 rfl
theorem dX2_init_35 : decode cX2_init 35 = .ok (.putfield 28, 3) := dzr zhdX2_init_0 15 rfl
theorem dX2_init_38 : decode cX2_init 38 = .ok (.aload_n 0, 1) := dzr zhdX2_init_0 16 rfl
theorem dX2_init_39 : decode cX2_init 39 = .ok (.sipush 241, 3) := dzr zhdX2_init_0 17 rfl
theorem dX2_init_44 : decode cX2_init 44 = .ok (.putfield 31, 3) := dzr zhdX2_init_0 18 rfl
theorem dX2_init_47 : decode cX2_init 47 = .ok (.return_, 1) := dzr zhdX2_init_0 19 rfl
def ztdX2_letter_0 : List (Nat × Instr × Nat) := [(0, .iconst 0, 1), (1, .istore_n 1, 1), (2, .iload_n 1, 1), (3, .getstatic 24, 3), (6, .arraylength, 1), (7, .if_icmp .ge 20, 3), (10, .getstatic 24, 3), (13, .iload_n 1, 1), (14, .caload, 1), (15, .iload_n 0, 1), (16, .if_icmp .ne 5, 3), (19, .iload_n 1, 1), (20, .ireturn, 1), (21, .iinc 1 1, 3), (24, .goto (-22), 3), (27, .iconst (-1), 1), (28, .ireturn, 1)]
theorem zhdX2_letter_0 : dzC ztdX2_letter_0 0 (cX2_letter.data.toList.drop 0) = true := by decide +kernel
theorem dX2_letter_0 : decode cX2_letter 0 = .ok (.iconst 0, 1) := dzr zhdX2_letter_0 0 rfl
theorem dX2_letter_1 : decode cX2_letter 1 = .ok (.istore_n 1, 1) := dzr zhdX2_letter_0 1 rfl
theorem dX2_letter_2 : decode cX2_letter 2 = .ok (.iload_n 1, 1) := dzr zhdX2_letter_0 2 rfl
theorem dX2_letter_3 : decode cX2_letter 3 = .ok (.getstatic 24, 3) := dzr zhdX2_letter_0 3 rfl
theorem dX2_letter_6 : decode cX2_letter 6 = .ok (.arraylength, 1) := dzr zhdX2_letter_0 4 rfl
theorem dX2_letter_7 : decode cX2_letter 7 = .ok (.if_icmp .ge 20, 3) := dzr zhdX2_letter_0 5 rfl
theorem dX2_letter_10 : decode cX2_letter 10 = .ok (.getstatic 24, 3) := dzr zhdX2_letter_0 6 rfl
theorem dX2_letter_13 : decode cX2_letter 13 = .ok (.iload_n 1, 1) := dzr zhdX2_letter_0 7 rfl
theorem dX2_letter_14 : decode cX2_letter 14 = .ok (.caload, 1) := dzr zhdX2_letter_0 8 rfl
theorem dX2_letter_15 : decode cX2_letter 15 = .ok (.iload_n 0, 1) := dzr zhdX2_letter_0 9 rfl
theorem dX2_letter_16 : decode cX2_letter 16 = .ok (.if_icmp .ne 5, 3) := dzr zhdX2_letter_0 10 rfl
theorem dX2_letter_19 : decode cX2_letter 19 = .ok (.iload_n 1, 1) := dzr zhdX2_letter_0 11 rfl
theorem dX2_letter_20 : decode cX2_letter 20 = .ok (.ireturn, 1) := dzr zhdX2_letter_0 12 rfl
theorem dX2_letter_21 : decode cX2_letter 21 = .ok (.iinc 1 1, 3) := dzr zhdX2_letter_0 13 rfl
theorem dX2_letter_24 : decode cX2_letter 24 = .ok (.goto (-22), 3) := dzr zhdX2_letter_0 14 rfl
theorem dX2_letter_27 : decode cX2_letter 27 = .ok (.iconst (-1), 1) := dzr zhdX2_letter_0 15 rfl
theorem dX2_letter_28 : decode cX2_letter 28 = .ok (.ireturn, 1) := dzr zhdX2_letter_0 16 rfl
def ztdX2_isFull_0 : List (Nat × Instr × Nat) := [(0, .aload_n 0, 1), (1, .getfield 34, 3), (4, .iconst 4, 1), (5, .if_icmp .lt 7, 3), (8, .iconst 1, 1), (9, .goto 4, 3), (12, .iconst 0, 1), (13, .ireturn, 1)]
theorem zhdX2_isFull_0 : dzC ztdX2_isFull_0 0 (cX2_isFull.data.toList.drop 0) = true := by decide +kernel
theorem dX2_isFull_0 : decode cX2_isFull 0 = .ok (.aload_n 0, 1) := dzr zhdX2_isFull_0 0 rfl
theorem dX2_isFull_1 : decode cX2_isFull 1 = .ok (.getfield 34, 3) := dzr zhdX2_isFull_0 1 rfl
theorem dX2_isFull_4 : decode cX2_isFull 4 = .ok (.iconst 4, 1) := dzr zhdX2_isFull_0 2 rfl
theorem dX2_isFull_5 : decode cX2_isFull 5 = .ok (.if_icmp .lt 7, 3) := dzr zhdX2_isFull_0 3 rfl
theorem dX2_isFull_8 : decode cX2_isFull 8 = .ok (.iconst 1, 1) := dzr zhdX2_isFull_0 4 rfl
theorem dX2_isFull_9 : decode cX2_isFull 9 = .ok (.goto 4, 3) := dzr zhdX2_isFull_0 5 rfl
theorem dX2_isFull_12 : decode cX2_isFull 12 = .ok (.iconst 0, 1) := dzr zhdX2_isFull_0 6 rfl
theorem dX2_isFull_13 : decode cX2_isFull 13 = .ok (.ireturn, 1) := dzr zhdX2_isFull_0 7 rfl
theorem ggX2_add_X2_isFull : GoodIn wsX2_add wsX2_isFull := (bg_up (bg_law (bi_wsL_law0_r21 _ (List.mem_of_getElem? (i := 13) rfl))))
theorem gX2_add_X2_isFull : GoodIn wsX2_add (wsV RX2 37 RX2 yX2_isFull wsX2_isFull) := goodIn_app (bg_up (bg_cons (bi_wsL_law0_r22 _ (List.mem_of_getElem? (i := 3) rfl)) (bg_cons (bi_wsL_law0_r21 _ (List.mem_of_getElem? (i := 11) rfl)) (bg_cons (bi_wsL_law0_r21 _ (List.mem_of_getElem? (i := 12) rfl)) (bg_cons (bi_wsL_law0_r2 _ (List.mem_of_getElem? (i := 8) rfl)) bg_nil))))) (bg_up (bg_law (bi_wsL_law0_r21 _ (List.mem_of_getElem? (i := 13) rfl))))
def ztdX2_add_0 : List (Nat × Instr × Nat) := [(0, .aload_n 0, 1), (1, .invokevirtual 37, 3), (4, .ifCond .ne 10, 3), (7, .iload_n 2, 1), (8, .sipush 241, 3), (11, .if_icmp .le 4, 3), (14, .return_, 1), (15, .aload_n 1, 1), (16, .iconst 0, 1), (17, .aload_n 0, 1), (18, .getfield 17, 3), (21, .aload_n 0, 1), (22, .getfield 34, 3), (25, .aaload, 1), (26, .iconst 0, 1), (27, .iload_n 2, 1), (28, .invokestatic 41, 3), (31, .aload_n 0, 1), (32, .getfield 20, 3), (35, .aload_n 0, 1), (36, .getfield 34, 3), (39, .iload_n 2, 1), (40, .iastore, 1), (41, .aload_n 0, 1)]
theorem zhdX2_add_0 : dzC ztdX2_add_0 0 (cX2_add.data.toList.drop 0) = true := by decide +kernel
theorem dX2_add_0 : decode cX2_add 0 = .ok (.aload_n 0, 1) := dzr zhdX2_add_0 0 rfl
theorem dX2_add_1 : decode cX2_add 1 = .ok (.invokevirtual 37, 3) := dzr zhdX2_add_0 1 rfl
theorem dX2_add_4 : decode cX2_add 4 = .ok (.ifCond .ne 10, 3) := dzr zhdX2_add_0 2 rfl
theorem dX2_add_7 : decode cX2_add 7 = .ok (.iload_n 2, 1) := dzr zhdX2_add_0 3 rfl
theorem dX2_add_8 : decode cX2_add 8 = .ok (.sipush 241, 3) := dzr zhdX2_add_0 4 rfl
theorem dX2_add_11 : decode cX2_add 11 = .ok (.if_icmp .le 4, 3) := dzr zhdX2_add_0 5 rfl
theorem dX2_add_14 : decode cX2_add 14 = .ok (.return_, 1) := dzr zhdX2_add_0 6 rfl
theorem dX2_add_15 : decode cX2_add 15 = .ok (.aload_n 1, 1) := dzr zhdX2_add_0 7 rfl
theorem dX2_add_16 : decode cX2_add 16 = .ok (.iconst 0, 1) := dzr zhdX2_add_0 8 rfl
theorem dX2_add_17 : decode cX2_add 17 = .ok (.aload_n 0, 1) := dzr zhdX2_add_0 9 rfl
theorem dX2_add_18 : decode cX2_add 18 = .ok (.getfield 17, 3) := dzr zhdX2_add_0 10 rfl
theorem dX2_add_21 : decode cX2_add 21 = .ok (.aload_n 0, 1) := dzr zhdX2_add_0 11 rfl
theorem dX2_add_22 : decode cX2_add 22 = .ok (.getfield 34, 3) := dzr zhdX2_add_0 12 rfl
theorem dX2_add_25 : decode cX2_add 25 = .ok (.aaload, 1) := dzr zhdX2_add_0 13 rfl
theorem dX2_add_26 : decode cX2_add 26 = .ok (.iconst 0, 1) := dzr zhdX2_add_0 14 rfl
theorem dX2_add_27 : decode cX2_add 27 = .ok (.iload_n 2, 1) := dzr zhdX2_add_0 15 rfl
theorem dX2_add_28 : decode cX2_add 28 = .ok (.invokestatic 41, 3) := dzr zhdX2_add_0 16 rfl
theorem dX2_add_31 : decode cX2_add 31 = .ok (.aload_n 0, 1) := dzr zhdX2_add_0 17 rfl
theorem dX2_add_32 : decode cX2_add 32 = .ok (.getfield 20, 3) := dzr zhdX2_add_0 18 rfl
theorem dX2_add_35 : decode cX2_add 35 = .ok (.aload_n 0, 1) := dzr zhdX2_add_0 19 rfl
theorem dX2_add_36 : decode cX2_add 36 = .ok (.getfield 34, 3) := dzr zhdX2_add_0 20 rfl
theorem dX2_add_39 : decode cX2_add 39 = .ok (.iload_n 2, 1) := dzr zhdX2_add_0 21 rfl
theorem dX2_add_40 : decode cX2_add 40 = .ok (.iastore, 1) := dzr zhdX2_add_0 22 rfl
theorem dX2_add_41 : decode cX2_add 41 = .ok (.aload_n 0, 1) := dzr zhdX2_add_0 23 rfl
def ztdX2_add_42 : List (Nat × Instr × Nat) := [(42, .dup, 1), (43, .getfield 34, 3), (46, .iconst 1, 1), (47, .iadd, 1), (48, .putfield 34, 3), (51, .return_, 1)]
theorem zhdX2_add_42 : dzC ztdX2_add_42 42 (cX2_add.data.toList.drop 42) = true := by decide +kernel
theorem dX2_add_42 : decode cX2_add 42 = .ok (.dup, 1) := dzr zhdX2_add_42 0 rfl
theorem dX2_add_43 : decode cX2_add 43 = .ok (.getfield 34, 3) := dzr zhdX2_add_42 1 rfl
theorem dX2_add_46 : decode cX2_add 46 = .ok (.iconst 1, 1) := dzr zhdX2_add_42 2 rfl
theorem dX2_add_47 : decode cX2_add 47 = .ok (.iadd, 1) := dzr zhdX2_add_42 3 rfl
theorem dX2_add_48 : decode cX2_add 48 = .ok (.putfield 34, 3) := dzr zhdX2_add_42 4 rfl
theorem dX2_add_51 : decode cX2_add 51 = .ok (.return_, 1) := dzr zhdX2_add_42 5 rfl
theorem ggX2_riseBy_X2_worth : GoodIn wsX2_riseBy wsX2_worth := (bg_up (bg_law (bi_wsL_law0_r30 _ (List.mem_of_getElem? (i := 16) rfl))))
theorem gX2_riseBy_X2_worth : GoodIn wsX2_riseBy (wsV RX2 47 RX2 yX2_worth wsX2_worth) := goodIn_app (bg_up (bg_cons (bi_wsL_law0_r30 _ (List.mem_of_getElem? (i := 13) rfl)) (bg_cons (bi_wsL_law0_r30 _ (List.mem_of_getElem? (i := 14) rfl)) (bg_cons (bi_wsL_law0_r30 _ (List.mem_of_getElem? (i := 15) rfl)) (bg_cons (bi_wsL_law0_r2 _ (List.mem_of_getElem? (i := 8) rfl)) bg_nil))))) (bg_up (bg_law (bi_wsL_law0_r30 _ (List.mem_of_getElem? (i := 16) rfl))))
def ztdX2_riseBy_0 : List (Nat × Instr × Nat) := [(0, .aload_n 0, 1), (1, .getfield 9, 3), (4, .iconst (-1), 1), (5, .if_icmp .ne 25, 3), (8, .iload_n 1, 1), (9, .iconst 2, 1), (10, .idiv, 1), (11, .iconst 2, 1), (12, .iload 4, 2), (14, .imul, 1), (15, .iadd, 1), (16, .iload 5, 2), (18, .iconst 3, 1), (19, .idiv, 1), (20, .isub, 1), (21, .iload_n 2, 1), (22, .iconst 4, 1), (23, .idiv, 1), (24, .isub, 1), (25, .istore 7, 2), (27, .goto 72, 3), (30, .aload_n 0, 1), (31, .getfield 28, 3), (34, .iconst 0, 1)]
theorem zhdX2_riseBy_0 : dzC ztdX2_riseBy_0 0 (cX2_riseBy.data.toList.drop 0) = true := by decide +kernel
theorem dX2_riseBy_0 : decode cX2_riseBy 0 = .ok (.aload_n 0, 1) := dzr zhdX2_riseBy_0 0 rfl
theorem dX2_riseBy_1 : decode cX2_riseBy 1 = .ok (.getfield 9, 3) := dzr zhdX2_riseBy_0 1 rfl
theorem dX2_riseBy_4 : decode cX2_riseBy 4 = .ok (.iconst (-1), 1) := dzr zhdX2_riseBy_0 2 rfl
theorem dX2_riseBy_5 : decode cX2_riseBy 5 = .ok (.if_icmp .ne 25, 3) := dzr zhdX2_riseBy_0 3 rfl
theorem dX2_riseBy_8 : decode cX2_riseBy 8 = .ok (.iload_n 1, 1) := dzr zhdX2_riseBy_0 4 rfl
theorem dX2_riseBy_9 : decode cX2_riseBy 9 = .ok (.iconst 2, 1) := dzr zhdX2_riseBy_0 5 rfl
theorem dX2_riseBy_10 : decode cX2_riseBy 10 = .ok (.idiv, 1) := dzr zhdX2_riseBy_0 6 rfl
theorem dX2_riseBy_11 : decode cX2_riseBy 11 = .ok (.iconst 2, 1) := dzr zhdX2_riseBy_0 7 rfl
theorem dX2_riseBy_12 : decode cX2_riseBy 12 = .ok (.iload 4, 2) := dzr zhdX2_riseBy_0 8 rfl
theorem dX2_riseBy_14 : decode cX2_riseBy 14 = .ok (.imul, 1) := dzr zhdX2_riseBy_0 9 rfl
theorem dX2_riseBy_15 : decode cX2_riseBy 15 = .ok (.iadd, 1) := dzr zhdX2_riseBy_0 10 rfl
theorem dX2_riseBy_16 : decode cX2_riseBy 16 = .ok (.iload 5, 2) := dzr zhdX2_riseBy_0 11 rfl
theorem dX2_riseBy_18 : decode cX2_riseBy 18 = .ok (.iconst 3, 1) := dzr zhdX2_riseBy_0 12 rfl
theorem dX2_riseBy_19 : decode cX2_riseBy 19 = .ok (.idiv, 1) := dzr zhdX2_riseBy_0 13 rfl
theorem dX2_riseBy_20 : decode cX2_riseBy 20 = .ok (.isub, 1) := dzr zhdX2_riseBy_0 14 rfl
theorem dX2_riseBy_21 : decode cX2_riseBy 21 = .ok (.iload_n 2, 1) := dzr zhdX2_riseBy_0 15 rfl
theorem dX2_riseBy_22 : decode cX2_riseBy 22 = .ok (.iconst 4, 1) := dzr zhdX2_riseBy_0 16 rfl
theorem dX2_riseBy_23 : decode cX2_riseBy 23 = .ok (.idiv, 1) := dzr zhdX2_riseBy_0 17 rfl
theorem dX2_riseBy_24 : decode cX2_riseBy 24 = .ok (.isub, 1) := dzr zhdX2_riseBy_0 18 rfl
theorem dX2_riseBy_25 : decode cX2_riseBy 25 = .ok (.istore 7, 2) := dzr zhdX2_riseBy_0 19 rfl
theorem dX2_riseBy_27 : decode cX2_riseBy 27 = .ok (.goto 72, 3) := dzr zhdX2_riseBy_0 20 rfl
theorem dX2_riseBy_30 : decode cX2_riseBy 30 = .ok (.aload_n 0, 1) := dzr zhdX2_riseBy_0 21 rfl
theorem dX2_riseBy_31 : decode cX2_riseBy 31 = .ok (.getfield 28, 3) := dzr zhdX2_riseBy_0 22 rfl
theorem dX2_riseBy_34 : decode cX2_riseBy 34 = .ok (.iconst 0, 1) := dzr zhdX2_riseBy_0 23 rfl
def ztdX2_riseBy_35 : List (Nat × Instr × Nat) := [(35, .iload_n 1, 1), (36, .iastore, 1), (37, .aload_n 0, 1), (38, .getfield 28, 3), (41, .iconst 1, 1), (42, .iload_n 2, 1), (43, .iastore, 1), (44, .aload_n 0, 1), (45, .getfield 28, 3), (48, .iconst 2, 1), (49, .iload_n 3, 1), (50, .iastore, 1), (51, .aload_n 0, 1), (52, .getfield 28, 3), (55, .iconst 3, 1), (56, .iload 4, 2), (58, .iastore, 1), (59, .aload_n 0, 1), (60, .getfield 28, 3), (63, .iconst 4, 1), (64, .iload 5, 2), (66, .iastore, 1), (67, .aload_n 0, 1), (68, .getfield 28, 3)]
theorem zhdX2_riseBy_35 : dzC ztdX2_riseBy_35 35 (cX2_riseBy.data.toList.drop 35) = true := by decide +kernel
theorem dX2_riseBy_35 : decode cX2_riseBy 35 = .ok (.iload_n 1, 1) := dzr zhdX2_riseBy_35 0 rfl
theorem dX2_riseBy_36 : decode cX2_riseBy 36 = .ok (.iastore, 1) := dzr zhdX2_riseBy_35 1 rfl
theorem dX2_riseBy_37 : decode cX2_riseBy 37 = .ok (.aload_n 0, 1) := dzr zhdX2_riseBy_35 2 rfl
theorem dX2_riseBy_38 : decode cX2_riseBy 38 = .ok (.getfield 28, 3) := dzr zhdX2_riseBy_35 3 rfl
theorem dX2_riseBy_41 : decode cX2_riseBy 41 = .ok (.iconst 1, 1) := dzr zhdX2_riseBy_35 4 rfl
theorem dX2_riseBy_42 : decode cX2_riseBy 42 = .ok (.iload_n 2, 1) := dzr zhdX2_riseBy_35 5 rfl
theorem dX2_riseBy_43 : decode cX2_riseBy 43 = .ok (.iastore, 1) := dzr zhdX2_riseBy_35 6 rfl
theorem dX2_riseBy_44 : decode cX2_riseBy 44 = .ok (.aload_n 0, 1) := dzr zhdX2_riseBy_35 7 rfl
theorem dX2_riseBy_45 : decode cX2_riseBy 45 = .ok (.getfield 28, 3) := dzr zhdX2_riseBy_35 8 rfl
theorem dX2_riseBy_48 : decode cX2_riseBy 48 = .ok (.iconst 2, 1) := dzr zhdX2_riseBy_35 9 rfl
theorem dX2_riseBy_49 : decode cX2_riseBy 49 = .ok (.iload_n 3, 1) := dzr zhdX2_riseBy_35 10 rfl
theorem dX2_riseBy_50 : decode cX2_riseBy 50 = .ok (.iastore, 1) := dzr zhdX2_riseBy_35 11 rfl
theorem dX2_riseBy_51 : decode cX2_riseBy 51 = .ok (.aload_n 0, 1) := dzr zhdX2_riseBy_35 12 rfl
theorem dX2_riseBy_52 : decode cX2_riseBy 52 = .ok (.getfield 28, 3) := dzr zhdX2_riseBy_35 13 rfl
theorem dX2_riseBy_55 : decode cX2_riseBy 55 = .ok (.iconst 3, 1) := dzr zhdX2_riseBy_35 14 rfl
theorem dX2_riseBy_56 : decode cX2_riseBy 56 = .ok (.iload 4, 2) := dzr zhdX2_riseBy_35 15 rfl
theorem dX2_riseBy_58 : decode cX2_riseBy 58 = .ok (.iastore, 1) := dzr zhdX2_riseBy_35 16 rfl
theorem dX2_riseBy_59 : decode cX2_riseBy 59 = .ok (.aload_n 0, 1) := dzr zhdX2_riseBy_35 17 rfl
theorem dX2_riseBy_60 : decode cX2_riseBy 60 = .ok (.getfield 28, 3) := dzr zhdX2_riseBy_35 18 rfl
theorem dX2_riseBy_63 : decode cX2_riseBy 63 = .ok (.iconst 4, 1) := dzr zhdX2_riseBy_35 19 rfl
theorem dX2_riseBy_64 : decode cX2_riseBy 64 = .ok (.iload 5, 2) := dzr zhdX2_riseBy_35 20 rfl
theorem dX2_riseBy_66 : decode cX2_riseBy 66 = .ok (.iastore, 1) := dzr zhdX2_riseBy_35 21 rfl
theorem dX2_riseBy_67 : decode cX2_riseBy 67 = .ok (.aload_n 0, 1) := dzr zhdX2_riseBy_35 22 rfl
theorem dX2_riseBy_68 : decode cX2_riseBy 68 = .ok (.getfield 28, 3) := dzr zhdX2_riseBy_35 23 rfl
def ztdX2_riseBy_71 : List (Nat × Instr × Nat) := [(71, .iconst 5, 1), (72, .iload 6, 2), (74, .iastore, 1), (75, .aload_n 0, 1), (76, .aload_n 0, 1), (77, .getfield 17, 3), (80, .aload_n 0, 1), (81, .getfield 9, 3), (84, .aaload, 1), (85, .aload_n 0, 1), (86, .getfield 20, 3), (89, .aload_n 0, 1), (90, .getfield 9, 3), (93, .iaload, 1), (94, .invokevirtual 47, 3), (97, .istore 7, 2), (99, .bipush (-9), 2), (101, .bipush 9, 2), (103, .iload 7, 2), (105, .invokestatic 51, 3), (108, .invokestatic 57, 3), (111, .ireturn, 1)]
theorem zhdX2_riseBy_71 : dzC ztdX2_riseBy_71 71 (cX2_riseBy.data.toList.drop 71) = true := by decide +kernel
theorem dX2_riseBy_71 : decode cX2_riseBy 71 = .ok (.iconst 5, 1) := dzr zhdX2_riseBy_71 0 rfl
theorem dX2_riseBy_72 : decode cX2_riseBy 72 = .ok (.iload 6, 2) := dzr zhdX2_riseBy_71 1 rfl
theorem dX2_riseBy_74 : decode cX2_riseBy 74 = .ok (.iastore, 1) := dzr zhdX2_riseBy_71 2 rfl
theorem dX2_riseBy_75 : decode cX2_riseBy 75 = .ok (.aload_n 0, 1) := dzr zhdX2_riseBy_71 3 rfl
theorem dX2_riseBy_76 : decode cX2_riseBy 76 = .ok (.aload_n 0, 1) := dzr zhdX2_riseBy_71 4 rfl
theorem dX2_riseBy_77 : decode cX2_riseBy 77 = .ok (.getfield 17, 3) := dzr zhdX2_riseBy_71 5 rfl
theorem dX2_riseBy_80 : decode cX2_riseBy 80 = .ok (.aload_n 0, 1) := dzr zhdX2_riseBy_71 6 rfl
theorem dX2_riseBy_81 : decode cX2_riseBy 81 = .ok (.getfield 9, 3) := dzr zhdX2_riseBy_71 7 rfl
theorem dX2_riseBy_84 : decode cX2_riseBy 84 = .ok (.aaload, 1) := dzr zhdX2_riseBy_71 8 rfl
theorem dX2_riseBy_85 : decode cX2_riseBy 85 = .ok (.aload_n 0, 1) := dzr zhdX2_riseBy_71 9 rfl
theorem dX2_riseBy_86 : decode cX2_riseBy 86 = .ok (.getfield 20, 3) := dzr zhdX2_riseBy_71 10 rfl
theorem dX2_riseBy_89 : decode cX2_riseBy 89 = .ok (.aload_n 0, 1) := dzr zhdX2_riseBy_71 11 rfl
theorem dX2_riseBy_90 : decode cX2_riseBy 90 = .ok (.getfield 9, 3) := dzr zhdX2_riseBy_71 12 rfl
theorem dX2_riseBy_93 : decode cX2_riseBy 93 = .ok (.iaload, 1) := dzr zhdX2_riseBy_71 13 rfl
theorem dX2_riseBy_94 : decode cX2_riseBy 94 = .ok (.invokevirtual 47, 3) := dzr zhdX2_riseBy_71 14 rfl
theorem dX2_riseBy_97 : decode cX2_riseBy 97 = .ok (.istore 7, 2) := dzr zhdX2_riseBy_71 15 rfl
theorem dX2_riseBy_99 : decode cX2_riseBy 99 = .ok (.bipush (-9), 2) := dzr zhdX2_riseBy_71 16 rfl
theorem dX2_riseBy_101 : decode cX2_riseBy 101 = .ok (.bipush 9, 2) := dzr zhdX2_riseBy_71 17 rfl
theorem dX2_riseBy_103 : decode cX2_riseBy 103 = .ok (.iload 7, 2) := dzr zhdX2_riseBy_71 18 rfl
theorem dX2_riseBy_105 : decode cX2_riseBy 105 = .ok (.invokestatic 51, 3) := dzr zhdX2_riseBy_71 19 rfl
theorem dX2_riseBy_108 : decode cX2_riseBy 108 = .ok (.invokestatic 57, 3) := dzr zhdX2_riseBy_71 20 rfl
theorem dX2_riseBy_111 : decode cX2_riseBy 111 = .ok (.ireturn, 1) := dzr zhdX2_riseBy_71 21 rfl
theorem ggX2_worth_X2_endOfClause : GoodIn wsX2_worth wsX2_endOfClause := (bg_up (bg_law (bi_wsL_law0_r30 _ (List.mem_of_getElem? (i := 19) rfl))))
theorem gX2_worth_X2_endOfClause : GoodIn wsX2_worth (va_wsS RX2 60 yX2_endOfClause wsX2_endOfClause) := goodIn_app (bg_up (bg_cons (bi_wsL_law0_r30 _ (List.mem_of_getElem? (i := 17) rfl)) (bg_cons (bi_wsL_law0_r30 _ (List.mem_of_getElem? (i := 18) rfl)) (bg_cons (bi_wsL_law0_r2 _ (List.mem_of_getElem? (i := 8) rfl)) bg_nil)))) (bg_up (bg_law (bi_wsL_law0_r30 _ (List.mem_of_getElem? (i := 19) rfl))))
theorem ggX2_worth_X2_combine : GoodIn wsX2_worth wsX2_combine := (bg_up (bg_law (bi_wsL_law0_r30 _ (List.mem_of_getElem? (i := 22) rfl))))
theorem gX2_worth_X2_combine : GoodIn wsX2_worth (va_wsS RX2 64 yX2_combine wsX2_combine) := goodIn_app (bg_up (bg_cons (bi_wsL_law0_r30 _ (List.mem_of_getElem? (i := 20) rfl)) (bg_cons (bi_wsL_law0_r30 _ (List.mem_of_getElem? (i := 21) rfl)) (bg_cons (bi_wsL_law0_r2 _ (List.mem_of_getElem? (i := 8) rfl)) bg_nil)))) (bg_up (bg_law (bi_wsL_law0_r30 _ (List.mem_of_getElem? (i := 22) rfl))))
def ztdX2_worth_0 : List (Nat × Instr × Nat) := [(0, .iconst (-1), 1), (1, .istore_n 3, 1), (2, .iconst 0, 1), (3, .istore 4, 2), (5, .iload 4, 2), (7, .iload_n 2, 1), (8, .if_icmp .ge 171, 3), (11, .aload_n 1, 1), (12, .iload 4, 2), (14, .iaload, 1), (15, .istore 5, 2), (17, .iload 5, 2), (19, .bipush (-13), 2), (21, .if_icmp .ne 10, 3), (24, .aload_n 0, 1), (25, .getfield 31, 3), (28, .iconst 0, 1), (29, .iaload, 1), (30, .ireturn, 1), (31, .iload 5, 2), (33, .bipush (-12), 2), (35, .if_icmp .ne 31, 3), (38, .iconst (-1), 1), (39, .istore_n 3, 1)]
theorem zhdX2_worth_0 : dzC ztdX2_worth_0 0 (cX2_worth.data.toList.drop 0) = true := by decide +kernel
theorem dX2_worth_0 : decode cX2_worth 0 = .ok (.iconst (-1), 1) := dzr zhdX2_worth_0 0 rfl
theorem dX2_worth_1 : decode cX2_worth 1 = .ok (.istore_n 3, 1) := dzr zhdX2_worth_0 1 rfl
theorem dX2_worth_2 : decode cX2_worth 2 = .ok (.iconst 0, 1) := dzr zhdX2_worth_0 2 rfl
theorem dX2_worth_3 : decode cX2_worth 3 = .ok (.istore 4, 2) := dzr zhdX2_worth_0 3 rfl
theorem dX2_worth_5 : decode cX2_worth 5 = .ok (.iload 4, 2) := dzr zhdX2_worth_0 4 rfl
theorem dX2_worth_7 : decode cX2_worth 7 = .ok (.iload_n 2, 1) := dzr zhdX2_worth_0 5 rfl
theorem dX2_worth_8 : decode cX2_worth 8 = .ok (.if_icmp .ge 171, 3) := dzr zhdX2_worth_0 6 rfl
theorem dX2_worth_11 : decode cX2_worth 11 = .ok (.aload_n 1, 1) := dzr zhdX2_worth_0 7 rfl
theorem dX2_worth_12 : decode cX2_worth 12 = .ok (.iload 4, 2) := dzr zhdX2_worth_0 8 rfl
theorem dX2_worth_14 : decode cX2_worth 14 = .ok (.iaload, 1) := dzr zhdX2_worth_0 9 rfl
theorem dX2_worth_15 : decode cX2_worth 15 = .ok (.istore 5, 2) := dzr zhdX2_worth_0 10 rfl
theorem dX2_worth_17 : decode cX2_worth 17 = .ok (.iload 5, 2) := dzr zhdX2_worth_0 11 rfl
theorem dX2_worth_19 : decode cX2_worth 19 = .ok (.bipush (-13), 2) := dzr zhdX2_worth_0 12 rfl
theorem dX2_worth_21 : decode cX2_worth 21 = .ok (.if_icmp .ne 10, 3) := dzr zhdX2_worth_0 13 rfl
theorem dX2_worth_24 : decode cX2_worth 24 = .ok (.aload_n 0, 1) := dzr zhdX2_worth_0 14 rfl
theorem dX2_worth_25 : decode cX2_worth 25 = .ok (.getfield 31, 3) := dzr zhdX2_worth_0 15 rfl
theorem dX2_worth_28 : decode cX2_worth 28 = .ok (.iconst 0, 1) := dzr zhdX2_worth_0 16 rfl
theorem dX2_worth_29 : decode cX2_worth 29 = .ok (.iaload, 1) := dzr zhdX2_worth_0 17 rfl
theorem dX2_worth_30 : decode cX2_worth 30 = .ok (.ireturn, 1) := dzr zhdX2_worth_0 18 rfl
theorem dX2_worth_31 : decode cX2_worth 31 = .ok (.iload 5, 2) := dzr zhdX2_worth_0 19 rfl
theorem dX2_worth_33 : decode cX2_worth 33 = .ok (.bipush (-12), 2) := dzr zhdX2_worth_0 20 rfl
theorem dX2_worth_35 : decode cX2_worth 35 = .ok (.if_icmp .ne 31, 3) := dzr zhdX2_worth_0 21 rfl
theorem dX2_worth_38 : decode cX2_worth 38 = .ok (.iconst (-1), 1) := dzr zhdX2_worth_0 22 rfl
theorem dX2_worth_39 : decode cX2_worth 39 = .ok (.istore_n 3, 1) := dzr zhdX2_worth_0 23 rfl
def ztdX2_worth_40 : List (Nat × Instr × Nat) := [(40, .aload_n 0, 1), (41, .getfield 31, 3), (44, .iconst 0, 1), (45, .iaload, 1), (46, .ifCond .ne 13, 3), (49, .aload_n 1, 1), (50, .iload_n 2, 1), (51, .iload 4, 2), (53, .invokestatic 60, 3), (56, .goto 5, 3), (59, .iload 4, 2), (61, .istore 4, 2), (63, .goto 110, 3), (66, .iload 5, 2), (68, .ifCond .ge 10, 3), (71, .iload 5, 2), (73, .bipush (-14), 2), (75, .if_icmp .gt 35, 3), (78, .iinc 3 1, 3), (81, .aload_n 0, 1), (82, .getfield 31, 3), (85, .iload_n 3, 1), (86, .iload 5, 2), (88, .ifCond .lt 8, 3)]
theorem zhdX2_worth_40 : dzC ztdX2_worth_40 40 (cX2_worth.data.toList.drop 40) = true := by decide +kernel
theorem dX2_worth_40 : decode cX2_worth 40 = .ok (.aload_n 0, 1) := dzr zhdX2_worth_40 0 rfl
theorem dX2_worth_41 : decode cX2_worth 41 = .ok (.getfield 31, 3) := dzr zhdX2_worth_40 1 rfl
theorem dX2_worth_44 : decode cX2_worth 44 = .ok (.iconst 0, 1) := dzr zhdX2_worth_40 2 rfl
theorem dX2_worth_45 : decode cX2_worth 45 = .ok (.iaload, 1) := dzr zhdX2_worth_40 3 rfl
theorem dX2_worth_46 : decode cX2_worth 46 = .ok (.ifCond .ne 13, 3) := dzr zhdX2_worth_40 4 rfl
theorem dX2_worth_49 : decode cX2_worth 49 = .ok (.aload_n 1, 1) := dzr zhdX2_worth_40 5 rfl
theorem dX2_worth_50 : decode cX2_worth 50 = .ok (.iload_n 2, 1) := dzr zhdX2_worth_40 6 rfl
theorem dX2_worth_51 : decode cX2_worth 51 = .ok (.iload 4, 2) := dzr zhdX2_worth_40 7 rfl
theorem dX2_worth_53 : decode cX2_worth 53 = .ok (.invokestatic 60, 3) := dzr zhdX2_worth_40 8 rfl
theorem dX2_worth_56 : decode cX2_worth 56 = .ok (.goto 5, 3) := dzr zhdX2_worth_40 9 rfl
theorem dX2_worth_59 : decode cX2_worth 59 = .ok (.iload 4, 2) := dzr zhdX2_worth_40 10 rfl
theorem dX2_worth_61 : decode cX2_worth 61 = .ok (.istore 4, 2) := dzr zhdX2_worth_40 11 rfl
theorem dX2_worth_63 : decode cX2_worth 63 = .ok (.goto 110, 3) := dzr zhdX2_worth_40 12 rfl
theorem dX2_worth_66 : decode cX2_worth 66 = .ok (.iload 5, 2) := dzr zhdX2_worth_40 13 rfl
theorem dX2_worth_68 : decode cX2_worth 68 = .ok (.ifCond .ge 10, 3) := dzr zhdX2_worth_40 14 rfl
theorem dX2_worth_71 : decode cX2_worth 71 = .ok (.iload 5, 2) := dzr zhdX2_worth_40 15 rfl
theorem dX2_worth_73 : decode cX2_worth 73 = .ok (.bipush (-14), 2) := dzr zhdX2_worth_40 16 rfl
theorem dX2_worth_75 : decode cX2_worth 75 = .ok (.if_icmp .gt 35, 3) := dzr zhdX2_worth_40 17 rfl
theorem dX2_worth_78 : decode cX2_worth 78 = .ok (.iinc 3 1, 3) := dzr zhdX2_worth_40 18 rfl
theorem dX2_worth_81 : decode cX2_worth 81 = .ok (.aload_n 0, 1) := dzr zhdX2_worth_40 19 rfl
theorem dX2_worth_82 : decode cX2_worth 82 = .ok (.getfield 31, 3) := dzr zhdX2_worth_40 20 rfl
theorem dX2_worth_85 : decode cX2_worth 85 = .ok (.iload_n 3, 1) := dzr zhdX2_worth_40 21 rfl
theorem dX2_worth_86 : decode cX2_worth 86 = .ok (.iload 5, 2) := dzr zhdX2_worth_40 22 rfl
theorem dX2_worth_88 : decode cX2_worth 88 = .ok (.ifCond .lt 8, 3) := dzr zhdX2_worth_40 23 rfl
def ztdX2_worth_91 : List (Nat × Instr × Nat) := [(91, .iload 5, 2), (93, .goto 13, 3), (96, .aload_n 0, 1), (97, .getfield 28, 3), (100, .bipush (-14), 2), (102, .iload 5, 2), (104, .isub, 1), (105, .iaload, 1), (106, .iastore, 1), (107, .goto 66, 3), (110, .iload 5, 2), (112, .bipush (-11), 2), (114, .if_icmp .ne 24, 3), (117, .iload_n 3, 1), (118, .ifCond .lt 20, 3), (121, .aload_n 0, 1), (122, .getfield 31, 3), (125, .iload_n 3, 1), (126, .iconst 1, 1), (127, .aload_n 0, 1), (128, .getfield 31, 3), (131, .iload_n 3, 1), (132, .iaload, 1), (133, .isub, 1)]
theorem zhdX2_worth_91 : dzC ztdX2_worth_91 91 (cX2_worth.data.toList.drop 91) = true := by decide +kernel
theorem dX2_worth_91 : decode cX2_worth 91 = .ok (.iload 5, 2) := dzr zhdX2_worth_91 0 rfl
theorem dX2_worth_93 : decode cX2_worth 93 = .ok (.goto 13, 3) := dzr zhdX2_worth_91 1 rfl
theorem dX2_worth_96 : decode cX2_worth 96 = .ok (.aload_n 0, 1) := dzr zhdX2_worth_91 2 rfl
theorem dX2_worth_97 : decode cX2_worth 97 = .ok (.getfield 28, 3) := dzr zhdX2_worth_91 3 rfl
theorem dX2_worth_100 : decode cX2_worth 100 = .ok (.bipush (-14), 2) := dzr zhdX2_worth_91 4 rfl
theorem dX2_worth_102 : decode cX2_worth 102 = .ok (.iload 5, 2) := dzr zhdX2_worth_91 5 rfl
theorem dX2_worth_104 : decode cX2_worth 104 = .ok (.isub, 1) := dzr zhdX2_worth_91 6 rfl
theorem dX2_worth_105 : decode cX2_worth 105 = .ok (.iaload, 1) := dzr zhdX2_worth_91 7 rfl
theorem dX2_worth_106 : decode cX2_worth 106 = .ok (.iastore, 1) := dzr zhdX2_worth_91 8 rfl
theorem dX2_worth_107 : decode cX2_worth 107 = .ok (.goto 66, 3) := dzr zhdX2_worth_91 9 rfl
theorem dX2_worth_110 : decode cX2_worth 110 = .ok (.iload 5, 2) := dzr zhdX2_worth_91 10 rfl
theorem dX2_worth_112 : decode cX2_worth 112 = .ok (.bipush (-11), 2) := dzr zhdX2_worth_91 11 rfl
theorem dX2_worth_114 : decode cX2_worth 114 = .ok (.if_icmp .ne 24, 3) := dzr zhdX2_worth_91 12 rfl
theorem dX2_worth_117 : decode cX2_worth 117 = .ok (.iload_n 3, 1) := dzr zhdX2_worth_91 13 rfl
theorem dX2_worth_118 : decode cX2_worth 118 = .ok (.ifCond .lt 20, 3) := dzr zhdX2_worth_91 14 rfl
theorem dX2_worth_121 : decode cX2_worth 121 = .ok (.aload_n 0, 1) := dzr zhdX2_worth_91 15 rfl
theorem dX2_worth_122 : decode cX2_worth 122 = .ok (.getfield 31, 3) := dzr zhdX2_worth_91 16 rfl
theorem dX2_worth_125 : decode cX2_worth 125 = .ok (.iload_n 3, 1) := dzr zhdX2_worth_91 17 rfl
theorem dX2_worth_126 : decode cX2_worth 126 = .ok (.iconst 1, 1) := dzr zhdX2_worth_91 18 rfl
theorem dX2_worth_127 : decode cX2_worth 127 = .ok (.aload_n 0, 1) := dzr zhdX2_worth_91 19 rfl
theorem dX2_worth_128 : decode cX2_worth 128 = .ok (.getfield 31, 3) := dzr zhdX2_worth_91 20 rfl
theorem dX2_worth_131 : decode cX2_worth 131 = .ok (.iload_n 3, 1) := dzr zhdX2_worth_91 21 rfl
theorem dX2_worth_132 : decode cX2_worth 132 = .ok (.iaload, 1) := dzr zhdX2_worth_91 22 rfl
theorem dX2_worth_133 : decode cX2_worth 133 = .ok (.isub, 1) := dzr zhdX2_worth_91 23 rfl
def ztdX2_worth_134 : List (Nat × Instr × Nat) := [(134, .iastore, 1), (135, .goto 38, 3), (138, .iload_n 3, 1), (139, .iconst 1, 1), (140, .if_icmp .lt 33, 3), (143, .iinc 3 (-1), 3), (146, .aload_n 0, 1), (147, .getfield 31, 3), (150, .iload_n 3, 1), (151, .iload 5, 2), (153, .aload_n 0, 1), (154, .getfield 31, 3), (157, .iload_n 3, 1), (158, .iaload, 1), (159, .i2l, 1), (160, .aload_n 0, 1), (161, .getfield 31, 3), (164, .iload_n 3, 1), (165, .iconst 1, 1), (166, .iadd, 1), (167, .iaload, 1), (168, .i2l, 1), (169, .invokestatic 64, 3), (172, .iastore, 1)]
theorem zhdX2_worth_134 : dzC ztdX2_worth_134 134 (cX2_worth.data.toList.drop 134) = true := by decide +kernel
theorem dX2_worth_134 : decode cX2_worth 134 = .ok (.iastore, 1) := dzr zhdX2_worth_134 0 rfl
theorem dX2_worth_135 : decode cX2_worth 135 = .ok (.goto 38, 3) := dzr zhdX2_worth_134 1 rfl
theorem dX2_worth_138 : decode cX2_worth 138 = .ok (.iload_n 3, 1) := dzr zhdX2_worth_134 2 rfl
theorem dX2_worth_139 : decode cX2_worth 139 = .ok (.iconst 1, 1) := dzr zhdX2_worth_134 3 rfl
theorem dX2_worth_140 : decode cX2_worth 140 = .ok (.if_icmp .lt 33, 3) := dzr zhdX2_worth_134 4 rfl
theorem dX2_worth_143 : decode cX2_worth 143 = .ok (.iinc 3 (-1), 3) := dzr zhdX2_worth_134 5 rfl
theorem dX2_worth_146 : decode cX2_worth 146 = .ok (.aload_n 0, 1) := dzr zhdX2_worth_134 6 rfl
theorem dX2_worth_147 : decode cX2_worth 147 = .ok (.getfield 31, 3) := dzr zhdX2_worth_134 7 rfl
theorem dX2_worth_150 : decode cX2_worth 150 = .ok (.iload_n 3, 1) := dzr zhdX2_worth_134 8 rfl
theorem dX2_worth_151 : decode cX2_worth 151 = .ok (.iload 5, 2) := dzr zhdX2_worth_134 9 rfl
theorem dX2_worth_153 : decode cX2_worth 153 = .ok (.aload_n 0, 1) := dzr zhdX2_worth_134 10 rfl
theorem dX2_worth_154 : decode cX2_worth 154 = .ok (.getfield 31, 3) := dzr zhdX2_worth_134 11 rfl
theorem dX2_worth_157 : decode cX2_worth 157 = .ok (.iload_n 3, 1) := dzr zhdX2_worth_134 12 rfl
theorem dX2_worth_158 : decode cX2_worth 158 = .ok (.iaload, 1) := dzr zhdX2_worth_134 13 rfl
theorem dX2_worth_159 : decode cX2_worth 159 = .ok (.i2l, 1) := dzr zhdX2_worth_134 14 rfl
theorem dX2_worth_160 : decode cX2_worth 160 = .ok (.aload_n 0, 1) := dzr zhdX2_worth_134 15 rfl
theorem dX2_worth_161 : decode cX2_worth 161 = .ok (.getfield 31, 3) := dzr zhdX2_worth_134 16 rfl
theorem dX2_worth_164 : decode cX2_worth 164 = .ok (.iload_n 3, 1) := dzr zhdX2_worth_134 17 rfl
theorem dX2_worth_165 : decode cX2_worth 165 = .ok (.iconst 1, 1) := dzr zhdX2_worth_134 18 rfl
theorem dX2_worth_166 : decode cX2_worth 166 = .ok (.iadd, 1) := dzr zhdX2_worth_134 19 rfl
theorem dX2_worth_167 : decode cX2_worth 167 = .ok (.iaload, 1) := dzr zhdX2_worth_134 20 rfl
theorem dX2_worth_168 : decode cX2_worth 168 = .ok (.i2l, 1) := dzr zhdX2_worth_134 21 rfl
theorem dX2_worth_169 : decode cX2_worth 169 = .ok (.invokestatic 64, 3) := dzr zhdX2_worth_134 22 rfl
theorem dX2_worth_172 : decode cX2_worth 172 = .ok (.iastore, 1) := dzr zhdX2_worth_134 23 rfl
def ztdX2_worth_173 : List (Nat × Instr × Nat) := [(173, .iinc 4 1, 3), (176, .goto (-171), 3), (179, .iconst 0, 1), (180, .ireturn, 1)]
theorem zhdX2_worth_173 : dzC ztdX2_worth_173 173 (cX2_worth.data.toList.drop 173) = true := by decide +kernel
theorem dX2_worth_173 : decode cX2_worth 173 = .ok (.iinc 4 1, 3) := dzr zhdX2_worth_173 0 rfl
theorem dX2_worth_176 : decode cX2_worth 176 = .ok (.goto (-171), 3) := dzr zhdX2_worth_173 1 rfl
theorem dX2_worth_179 : decode cX2_worth 179 = .ok (.iconst 0, 1) := dzr zhdX2_worth_173 2 rfl
theorem dX2_worth_180 : decode cX2_worth 180 = .ok (.ireturn, 1) := dzr zhdX2_worth_173 3 rfl
def ztdX2_endOfClause_0 : List (Nat × Instr × Nat) := [(0, .iload_n 2, 1), (1, .istore_n 3, 1), (2, .iload_n 3, 1), (3, .iload_n 1, 1), (4, .if_icmp .ge 19, 3), (7, .aload_n 0, 1), (8, .iload_n 3, 1), (9, .iaload, 1), (10, .bipush (-13), 2), (12, .if_icmp .ne 5, 3), (15, .iload_n 3, 1), (16, .ireturn, 1), (17, .iinc 3 1, 3), (20, .goto (-18), 3), (23, .iload_n 1, 1), (24, .ireturn, 1)]
theorem zhdX2_endOfClause_0 : dzC ztdX2_endOfClause_0 0 (cX2_endOfClause.data.toList.drop 0) = true := by decide +kernel
theorem dX2_endOfClause_0 : decode cX2_endOfClause 0 = .ok (.iload_n 2, 1) := dzr zhdX2_endOfClause_0 0 rfl
theorem dX2_endOfClause_1 : decode cX2_endOfClause 1 = .ok (.istore_n 3, 1) := dzr zhdX2_endOfClause_0 1 rfl
theorem dX2_endOfClause_2 : decode cX2_endOfClause 2 = .ok (.iload_n 3, 1) := dzr zhdX2_endOfClause_0 2 rfl
theorem dX2_endOfClause_3 : decode cX2_endOfClause 3 = .ok (.iload_n 1, 1) := dzr zhdX2_endOfClause_0 3 rfl
theorem dX2_endOfClause_4 : decode cX2_endOfClause 4 = .ok (.if_icmp .ge 19, 3) := dzr zhdX2_endOfClause_0 4 rfl
theorem dX2_endOfClause_7 : decode cX2_endOfClause 7 = .ok (.aload_n 0, 1) := dzr zhdX2_endOfClause_0 5 rfl
theorem dX2_endOfClause_8 : decode cX2_endOfClause 8 = .ok (.iload_n 3, 1) := dzr zhdX2_endOfClause_0 6 rfl
theorem dX2_endOfClause_9 : decode cX2_endOfClause 9 = .ok (.iaload, 1) := dzr zhdX2_endOfClause_0 7 rfl
theorem dX2_endOfClause_10 : decode cX2_endOfClause 10 = .ok (.bipush (-13), 2) := dzr zhdX2_endOfClause_0 8 rfl
theorem dX2_endOfClause_12 : decode cX2_endOfClause 12 = .ok (.if_icmp .ne 5, 3) := dzr zhdX2_endOfClause_0 9 rfl
theorem dX2_endOfClause_15 : decode cX2_endOfClause 15 = .ok (.iload_n 3, 1) := dzr zhdX2_endOfClause_0 10 rfl
theorem dX2_endOfClause_16 : decode cX2_endOfClause 16 = .ok (.ireturn, 1) := dzr zhdX2_endOfClause_0 11 rfl
theorem dX2_endOfClause_17 : decode cX2_endOfClause 17 = .ok (.iinc 3 1, 3) := dzr zhdX2_endOfClause_0 12 rfl
theorem dX2_endOfClause_20 : decode cX2_endOfClause 20 = .ok (.goto (-18), 3) := dzr zhdX2_endOfClause_0 13 rfl
theorem dX2_endOfClause_23 : decode cX2_endOfClause 23 = .ok (.iload_n 1, 1) := dzr zhdX2_endOfClause_0 14 rfl
theorem dX2_endOfClause_24 : decode cX2_endOfClause 24 = .ok (.ireturn, 1) := dzr zhdX2_endOfClause_0 15 rfl
theorem dX2_combine_1 : decode cX2_combine 1 = .ok (.tableswitch 143 (-9) (-2) #[125, 113, 101, 89, 71, 63, 55, 47], 47) := by decide +kernel
def ztdX2_combine_0 : List (Nat × Instr × Nat) := [(0, .iload_n 0, 1), (48, .lload_n 1, 1), (49, .lload_n 3, 1), (50, .ladd, 1), (51, .lstore 5, 2), (53, .goto 109, 3), (56, .lload_n 1, 1), (57, .lload_n 3, 1), (58, .lsub, 1), (59, .lstore 5, 2), (61, .goto 101, 3), (64, .lload_n 1, 1), (65, .lload_n 3, 1), (66, .lmul, 1), (67, .lstore 5, 2), (69, .goto 93, 3), (72, .lload_n 3, 1), (73, .lconst 0, 1), (74, .lcmp, 1), (75, .ifCond .ne 7, 3), (78, .lconst 0, 1), (79, .goto 6, 3), (82, .lload_n 1, 1), (83, .lload_n 3, 1)]
theorem zhdX2_combine_0 : dzC ztdX2_combine_0 0 (cX2_combine.data.toList.drop 0) = true := by decide +kernel
theorem dX2_combine_0 : decode cX2_combine 0 = .ok (.iload_n 0, 1) := dzr zhdX2_combine_0 0 rfl
theorem dX2_combine_48 : decode cX2_combine 48 = .ok (.lload_n 1, 1) := dzr zhdX2_combine_0 1 rfl
theorem dX2_combine_49 : decode cX2_combine 49 = .ok (.lload_n 3, 1) := dzr zhdX2_combine_0 2 rfl
theorem dX2_combine_50 : decode cX2_combine 50 = .ok (.ladd, 1) := dzr zhdX2_combine_0 3 rfl
theorem dX2_combine_51 : decode cX2_combine 51 = .ok (.lstore 5, 2) := dzr zhdX2_combine_0 4 rfl
theorem dX2_combine_53 : decode cX2_combine 53 = .ok (.goto 109, 3) := dzr zhdX2_combine_0 5 rfl
theorem dX2_combine_56 : decode cX2_combine 56 = .ok (.lload_n 1, 1) := dzr zhdX2_combine_0 6 rfl
theorem dX2_combine_57 : decode cX2_combine 57 = .ok (.lload_n 3, 1) := dzr zhdX2_combine_0 7 rfl
theorem dX2_combine_58 : decode cX2_combine 58 = .ok (.lsub, 1) := dzr zhdX2_combine_0 8 rfl
theorem dX2_combine_59 : decode cX2_combine 59 = .ok (.lstore 5, 2) := dzr zhdX2_combine_0 9 rfl
theorem dX2_combine_61 : decode cX2_combine 61 = .ok (.goto 101, 3) := dzr zhdX2_combine_0 10 rfl
theorem dX2_combine_64 : decode cX2_combine 64 = .ok (.lload_n 1, 1) := dzr zhdX2_combine_0 11 rfl
theorem dX2_combine_65 : decode cX2_combine 65 = .ok (.lload_n 3, 1) := dzr zhdX2_combine_0 12 rfl
theorem dX2_combine_66 : decode cX2_combine 66 = .ok (.lmul, 1) := dzr zhdX2_combine_0 13 rfl
theorem dX2_combine_67 : decode cX2_combine 67 = .ok (.lstore 5, 2) := dzr zhdX2_combine_0 14 rfl
theorem dX2_combine_69 : decode cX2_combine 69 = .ok (.goto 93, 3) := dzr zhdX2_combine_0 15 rfl
theorem dX2_combine_72 : decode cX2_combine 72 = .ok (.lload_n 3, 1) := dzr zhdX2_combine_0 16 rfl
theorem dX2_combine_73 : decode cX2_combine 73 = .ok (.lconst 0, 1) := dzr zhdX2_combine_0 17 rfl
theorem dX2_combine_74 : decode cX2_combine 74 = .ok (.lcmp, 1) := dzr zhdX2_combine_0 18 rfl
theorem dX2_combine_75 : decode cX2_combine 75 = .ok (.ifCond .ne 7, 3) := dzr zhdX2_combine_0 19 rfl
theorem dX2_combine_78 : decode cX2_combine 78 = .ok (.lconst 0, 1) := dzr zhdX2_combine_0 20 rfl
theorem dX2_combine_79 : decode cX2_combine 79 = .ok (.goto 6, 3) := dzr zhdX2_combine_0 21 rfl
theorem dX2_combine_82 : decode cX2_combine 82 = .ok (.lload_n 1, 1) := dzr zhdX2_combine_0 22 rfl
theorem dX2_combine_83 : decode cX2_combine 83 = .ok (.lload_n 3, 1) := dzr zhdX2_combine_0 23 rfl
def ztdX2_combine_84 : List (Nat × Instr × Nat) := [(84, .ldiv, 1), (85, .lstore 5, 2), (87, .goto 75, 3), (90, .lload_n 1, 1), (91, .lload_n 3, 1), (92, .lcmp, 1), (93, .ifCond .ne 7, 3), (96, .iconst 1, 1), (97, .goto 4, 3), (100, .iconst 0, 1), (101, .ireturn, 1), (102, .lload_n 1, 1), (103, .lload_n 3, 1), (104, .lcmp, 1), (105, .ifCond .ge 7, 3), (108, .iconst 1, 1), (109, .goto 4, 3), (112, .iconst 0, 1), (113, .ireturn, 1), (114, .lload_n 1, 1), (115, .lload_n 3, 1), (116, .lcmp, 1), (117, .ifCond .le 7, 3), (120, .iconst 1, 1)]
theorem zhdX2_combine_84 : dzC ztdX2_combine_84 84 (cX2_combine.data.toList.drop 84) = true := by decide +kernel
theorem dX2_combine_84 : decode cX2_combine 84 = .ok (.ldiv, 1) := dzr zhdX2_combine_84 0 rfl
theorem dX2_combine_85 : decode cX2_combine 85 = .ok (.lstore 5, 2) := dzr zhdX2_combine_84 1 rfl
theorem dX2_combine_87 : decode cX2_combine 87 = .ok (.goto 75, 3) := dzr zhdX2_combine_84 2 rfl
theorem dX2_combine_90 : decode cX2_combine 90 = .ok (.lload_n 1, 1) := dzr zhdX2_combine_84 3 rfl
theorem dX2_combine_91 : decode cX2_combine 91 = .ok (.lload_n 3, 1) := dzr zhdX2_combine_84 4 rfl
theorem dX2_combine_92 : decode cX2_combine 92 = .ok (.lcmp, 1) := dzr zhdX2_combine_84 5 rfl
theorem dX2_combine_93 : decode cX2_combine 93 = .ok (.ifCond .ne 7, 3) := dzr zhdX2_combine_84 6 rfl
theorem dX2_combine_96 : decode cX2_combine 96 = .ok (.iconst 1, 1) := dzr zhdX2_combine_84 7 rfl
theorem dX2_combine_97 : decode cX2_combine 97 = .ok (.goto 4, 3) := dzr zhdX2_combine_84 8 rfl
theorem dX2_combine_100 : decode cX2_combine 100 = .ok (.iconst 0, 1) := dzr zhdX2_combine_84 9 rfl
theorem dX2_combine_101 : decode cX2_combine 101 = .ok (.ireturn, 1) := dzr zhdX2_combine_84 10 rfl
theorem dX2_combine_102 : decode cX2_combine 102 = .ok (.lload_n 1, 1) := dzr zhdX2_combine_84 11 rfl
theorem dX2_combine_103 : decode cX2_combine 103 = .ok (.lload_n 3, 1) := dzr zhdX2_combine_84 12 rfl
theorem dX2_combine_104 : decode cX2_combine 104 = .ok (.lcmp, 1) := dzr zhdX2_combine_84 13 rfl
theorem dX2_combine_105 : decode cX2_combine 105 = .ok (.ifCond .ge 7, 3) := dzr zhdX2_combine_84 14 rfl
theorem dX2_combine_108 : decode cX2_combine 108 = .ok (.iconst 1, 1) := dzr zhdX2_combine_84 15 rfl
theorem dX2_combine_109 : decode cX2_combine 109 = .ok (.goto 4, 3) := dzr zhdX2_combine_84 16 rfl
theorem dX2_combine_112 : decode cX2_combine 112 = .ok (.iconst 0, 1) := dzr zhdX2_combine_84 17 rfl
theorem dX2_combine_113 : decode cX2_combine 113 = .ok (.ireturn, 1) := dzr zhdX2_combine_84 18 rfl
theorem dX2_combine_114 : decode cX2_combine 114 = .ok (.lload_n 1, 1) := dzr zhdX2_combine_84 19 rfl
theorem dX2_combine_115 : decode cX2_combine 115 = .ok (.lload_n 3, 1) := dzr zhdX2_combine_84 20 rfl
theorem dX2_combine_116 : decode cX2_combine 116 = .ok (.lcmp, 1) := dzr zhdX2_combine_84 21 rfl
theorem dX2_combine_117 : decode cX2_combine 117 = .ok (.ifCond .le 7, 3) := dzr zhdX2_combine_84 22 rfl
theorem dX2_combine_120 : decode cX2_combine 120 = .ok (.iconst 1, 1) := dzr zhdX2_combine_84 23 rfl
def ztdX2_combine_121 : List (Nat × Instr × Nat) := [(121, .goto 4, 3), (124, .iconst 0, 1), (125, .ireturn, 1), (126, .lload_n 1, 1), (127, .lconst 0, 1), (128, .lcmp, 1), (129, .ifCond .eq 13, 3), (132, .lload_n 3, 1), (133, .lconst 0, 1), (134, .lcmp, 1), (135, .ifCond .eq 7, 3), (138, .iconst 1, 1), (139, .goto 4, 3), (142, .iconst 0, 1), (143, .ireturn, 1), (144, .lload_n 1, 1), (145, .lconst 0, 1), (146, .lcmp, 1), (147, .ifCond .ne 9, 3), (150, .lload_n 3, 1), (151, .lconst 0, 1), (152, .lcmp, 1), (153, .ifCond .eq 7, 3), (156, .iconst 1, 1)]
theorem zhdX2_combine_121 : dzC ztdX2_combine_121 121 (cX2_combine.data.toList.drop 121) = true := by decide +kernel
theorem dX2_combine_121 : decode cX2_combine 121 = .ok (.goto 4, 3) := dzr zhdX2_combine_121 0 rfl
theorem dX2_combine_124 : decode cX2_combine 124 = .ok (.iconst 0, 1) := dzr zhdX2_combine_121 1 rfl
theorem dX2_combine_125 : decode cX2_combine 125 = .ok (.ireturn, 1) := dzr zhdX2_combine_121 2 rfl
theorem dX2_combine_126 : decode cX2_combine 126 = .ok (.lload_n 1, 1) := dzr zhdX2_combine_121 3 rfl
theorem dX2_combine_127 : decode cX2_combine 127 = .ok (.lconst 0, 1) := dzr zhdX2_combine_121 4 rfl
theorem dX2_combine_128 : decode cX2_combine 128 = .ok (.lcmp, 1) := dzr zhdX2_combine_121 5 rfl
theorem dX2_combine_129 : decode cX2_combine 129 = .ok (.ifCond .eq 13, 3) := dzr zhdX2_combine_121 6 rfl
theorem dX2_combine_132 : decode cX2_combine 132 = .ok (.lload_n 3, 1) := dzr zhdX2_combine_121 7 rfl
theorem dX2_combine_133 : decode cX2_combine 133 = .ok (.lconst 0, 1) := dzr zhdX2_combine_121 8 rfl
theorem dX2_combine_134 : decode cX2_combine 134 = .ok (.lcmp, 1) := dzr zhdX2_combine_121 9 rfl
theorem dX2_combine_135 : decode cX2_combine 135 = .ok (.ifCond .eq 7, 3) := dzr zhdX2_combine_121 10 rfl
theorem dX2_combine_138 : decode cX2_combine 138 = .ok (.iconst 1, 1) := dzr zhdX2_combine_121 11 rfl
theorem dX2_combine_139 : decode cX2_combine 139 = .ok (.goto 4, 3) := dzr zhdX2_combine_121 12 rfl
theorem dX2_combine_142 : decode cX2_combine 142 = .ok (.iconst 0, 1) := dzr zhdX2_combine_121 13 rfl
theorem dX2_combine_143 : decode cX2_combine 143 = .ok (.ireturn, 1) := dzr zhdX2_combine_121 14 rfl
theorem dX2_combine_144 : decode cX2_combine 144 = .ok (.lload_n 1, 1) := dzr zhdX2_combine_121 15 rfl
theorem dX2_combine_145 : decode cX2_combine 145 = .ok (.lconst 0, 1) := dzr zhdX2_combine_121 16 rfl
theorem dX2_combine_146 : decode cX2_combine 146 = .ok (.lcmp, 1) := dzr zhdX2_combine_121 17 rfl
theorem dX2_combine_147 : decode cX2_combine 147 = .ok (.ifCond .ne 9, 3) := dzr zhdX2_combine_121 18 rfl
theorem dX2_combine_150 : decode cX2_combine 150 = .ok (.lload_n 3, 1) := dzr zhdX2_combine_121 19 rfl
theorem dX2_combine_151 : decode cX2_combine 151 = .ok (.lconst 0, 1) := dzr zhdX2_combine_121 20 rfl
theorem dX2_combine_152 : decode cX2_combine 152 = .ok (.lcmp, 1) := dzr zhdX2_combine_121 21 rfl
theorem dX2_combine_153 : decode cX2_combine 153 = .ok (.ifCond .eq 7, 3) := dzr zhdX2_combine_121 22 rfl
theorem dX2_combine_156 : decode cX2_combine 156 = .ok (.iconst 1, 1) := dzr zhdX2_combine_121 23 rfl
def ztdX2_combine_157 : List (Nat × Instr × Nat) := [(157, .goto 4, 3), (160, .iconst 0, 1), (161, .ireturn, 1), (162, .lload 5, 2), (164, .ldc2_w 68, 3), (167, .lcmp, 1), (168, .ifCond .le 6, 3), (171, .ldc 70, 2), (173, .ireturn, 1), (174, .lload 5, 2), (176, .ldc2_w 71, 3), (179, .lcmp, 1), (180, .ifCond .ge 8, 3), (183, .ldc 73, 2), (185, .goto 6, 3), (188, .lload 5, 2), (190, .l2i, 1), (191, .ireturn, 1)]
theorem zhdX2_combine_157 : dzC ztdX2_combine_157 157 (cX2_combine.data.toList.drop 157) = true := by decide +kernel
theorem dX2_combine_157 : decode cX2_combine 157 = .ok (.goto 4, 3) := dzr zhdX2_combine_157 0 rfl
theorem dX2_combine_160 : decode cX2_combine 160 = .ok (.iconst 0, 1) := dzr zhdX2_combine_157 1 rfl
theorem dX2_combine_161 : decode cX2_combine 161 = .ok (.ireturn, 1) := dzr zhdX2_combine_157 2 rfl
theorem dX2_combine_162 : decode cX2_combine 162 = .ok (.lload 5, 2) := dzr zhdX2_combine_157 3 rfl
theorem dX2_combine_164 : decode cX2_combine 164 = .ok (.ldc2_w 68, 3) := dzr zhdX2_combine_157 4 rfl
theorem dX2_combine_167 : decode cX2_combine 167 = .ok (.lcmp, 1) := dzr zhdX2_combine_157 5 rfl
theorem dX2_combine_168 : decode cX2_combine 168 = .ok (.ifCond .le 6, 3) := dzr zhdX2_combine_157 6 rfl
theorem dX2_combine_171 : decode cX2_combine 171 = .ok (.ldc 70, 2) := dzr zhdX2_combine_157 7 rfl
theorem dX2_combine_173 : decode cX2_combine 173 = .ok (.ireturn, 1) := dzr zhdX2_combine_157 8 rfl
theorem dX2_combine_174 : decode cX2_combine 174 = .ok (.lload 5, 2) := dzr zhdX2_combine_157 9 rfl
theorem dX2_combine_176 : decode cX2_combine 176 = .ok (.ldc2_w 71, 3) := dzr zhdX2_combine_157 10 rfl
theorem dX2_combine_179 : decode cX2_combine 179 = .ok (.lcmp, 1) := dzr zhdX2_combine_157 11 rfl
theorem dX2_combine_180 : decode cX2_combine 180 = .ok (.ifCond .ge 8, 3) := dzr zhdX2_combine_157 12 rfl
theorem dX2_combine_183 : decode cX2_combine 183 = .ok (.ldc 73, 2) := dzr zhdX2_combine_157 13 rfl
theorem dX2_combine_185 : decode cX2_combine 185 = .ok (.goto 6, 3) := dzr zhdX2_combine_157 14 rfl
theorem dX2_combine_188 : decode cX2_combine 188 = .ok (.lload 5, 2) := dzr zhdX2_combine_157 15 rfl
theorem dX2_combine_190 : decode cX2_combine 190 = .ok (.l2i, 1) := dzr zhdX2_combine_157 16 rfl
theorem dX2_combine_191 : decode cX2_combine 191 = .ok (.ireturn, 1) := dzr zhdX2_combine_157 17 rfl
theorem dX3_init_8 : decode cX3_init 8 = .ok (.newarray .int, 2) := by decide +kernel
def ztdX3_init_0 : List (Nat × Instr × Nat) := [(0, .aload_n 0, 1), (1, .invokespecial 1, 3), (4, .aload_n 0, 1), (5, .sipush 384, 3), (10, .putfield 9, 3), (13, .return_, 1)]
theorem zhdX3_init_0 : dzC ztdX3_init_0 0 (cX3_init.data.toList.drop 0) = true := by decide +kernel
theorem dX3_init_0 : decode cX3_init 0 = .ok (.aload_n 0, 1) := dzr zhdX3_init_0 0 rfl
theorem dX3_init_1 : decode cX3_init 1 = .ok (.invokespecial 1, 3) := dzr zhdX3_init_0 1 rfl
theorem dX3_init_4 : decode cX3_init 4 = .ok (.aload_n 0, 1) := dzr zhdX3_init_0 2 rfl
theorem dX3_init_5 : decode cX3_init 5 = .ok (.sipush 384, 3) := dzr zhdX3_init_0 3 rfl
theorem dX3_init_10 : decode cX3_init 10 = .ok (.putfield 9, 3) := dzr zhdX3_init_0 4 rfl
theorem dX3_init_13 : decode cX3_init 13 = .ok (.return_, 1) := dzr zhdX3_init_0 5 rfl
def ztdX3_lengthOn_0 : List (Nat × Instr × Nat) := [(0, .bipush 60, 2), (2, .iload_n 0, 1), (3, .invokestatic 13, 3), (6, .ireturn, 1)]
theorem zhdX3_lengthOn_0 : dzC ztdX3_lengthOn_0 0 (cX3_lengthOn.data.toList.drop 0) = true := by decide +kernel
theorem dX3_lengthOn_0 : decode cX3_lengthOn 0 = .ok (.bipush 60, 2) := dzr zhdX3_lengthOn_0 0 rfl
theorem dX3_lengthOn_2 : decode cX3_lengthOn 2 = .ok (.iload_n 0, 1) := dzr zhdX3_lengthOn_0 1 rfl
theorem dX3_lengthOn_3 : decode cX3_lengthOn 3 = .ok (.invokestatic 13, 3) := dzr zhdX3_lengthOn_0 2 rfl
theorem dX3_lengthOn_6 : decode cX3_lengthOn 6 = .ok (.ireturn, 1) := dzr zhdX3_lengthOn_0 3 rfl
def ztdX3_write_0 : List (Nat × Instr × Nat) := [(0, .iload_n 1, 1), (1, .bipush 127, 2), (3, .iand, 1), (4, .iconst 3, 1), (5, .imul, 1), (6, .istore 5, 2), (8, .aload_n 0, 1), (9, .getfield 9, 3), (12, .iload 5, 2), (14, .iload_n 2, 1), (15, .iastore, 1), (16, .aload_n 0, 1), (17, .getfield 9, 3), (20, .iload 5, 2), (22, .iconst 1, 1), (23, .iadd, 1), (24, .iload_n 3, 1), (25, .iastore, 1), (26, .aload_n 0, 1), (27, .getfield 9, 3), (30, .iload 5, 2), (32, .iconst 2, 1), (33, .iadd, 1), (34, .iload 4, 2)]
theorem zhdX3_write_0 : dzC ztdX3_write_0 0 (cX3_write.data.toList.drop 0) = true := by decide +kernel
theorem dX3_write_0 : decode cX3_write 0 = .ok (.iload_n 1, 1) := dzr zhdX3_write_0 0 rfl
theorem dX3_write_1 : decode cX3_write 1 = .ok (.bipush 127, 2) := dzr zhdX3_write_0 1 rfl
theorem dX3_write_3 : decode cX3_write 3 = .ok (.iand, 1) := dzr zhdX3_write_0 2 rfl
theorem dX3_write_4 : decode cX3_write 4 = .ok (.iconst 3, 1) := dzr zhdX3_write_0 3 rfl
theorem dX3_write_5 : decode cX3_write 5 = .ok (.imul, 1) := dzr zhdX3_write_0 4 rfl
theorem dX3_write_6 : decode cX3_write 6 = .ok (.istore 5, 2) := dzr zhdX3_write_0 5 rfl
theorem dX3_write_8 : decode cX3_write 8 = .ok (.aload_n 0, 1) := dzr zhdX3_write_0 6 rfl
theorem dX3_write_9 : decode cX3_write 9 = .ok (.getfield 9, 3) := dzr zhdX3_write_0 7 rfl
theorem dX3_write_12 : decode cX3_write 12 = .ok (.iload 5, 2) := dzr zhdX3_write_0 8 rfl
theorem dX3_write_14 : decode cX3_write 14 = .ok (.iload_n 2, 1) := dzr zhdX3_write_0 9 rfl
theorem dX3_write_15 : decode cX3_write 15 = .ok (.iastore, 1) := dzr zhdX3_write_0 10 rfl
theorem dX3_write_16 : decode cX3_write 16 = .ok (.aload_n 0, 1) := dzr zhdX3_write_0 11 rfl
theorem dX3_write_17 : decode cX3_write 17 = .ok (.getfield 9, 3) := dzr zhdX3_write_0 12 rfl
theorem dX3_write_20 : decode cX3_write 20 = .ok (.iload 5, 2) := dzr zhdX3_write_0 13 rfl
theorem dX3_write_22 : decode cX3_write 22 = .ok (.iconst 1, 1) := dzr zhdX3_write_0 14 rfl
theorem dX3_write_23 : decode cX3_write 23 = .ok (.iadd, 1) := dzr zhdX3_write_0 15 rfl
theorem dX3_write_24 : decode cX3_write 24 = .ok (.iload_n 3, 1) := dzr zhdX3_write_0 16 rfl
theorem dX3_write_25 : decode cX3_write 25 = .ok (.iastore, 1) := dzr zhdX3_write_0 17 rfl
theorem dX3_write_26 : decode cX3_write 26 = .ok (.aload_n 0, 1) := dzr zhdX3_write_0 18 rfl
theorem dX3_write_27 : decode cX3_write 27 = .ok (.getfield 9, 3) := dzr zhdX3_write_0 19 rfl
theorem dX3_write_30 : decode cX3_write 30 = .ok (.iload 5, 2) := dzr zhdX3_write_0 20 rfl
theorem dX3_write_32 : decode cX3_write 32 = .ok (.iconst 2, 1) := dzr zhdX3_write_0 21 rfl
theorem dX3_write_33 : decode cX3_write 33 = .ok (.iadd, 1) := dzr zhdX3_write_0 22 rfl
theorem dX3_write_34 : decode cX3_write 34 = .ok (.iload 4, 2) := dzr zhdX3_write_0 23 rfl
def ztdX3_write_36 : List (Nat × Instr × Nat) := [(36, .iastore, 1), (37, .return_, 1)]
theorem zhdX3_write_36 : dzC ztdX3_write_36 36 (cX3_write.data.toList.drop 36) = true := by decide +kernel
theorem dX3_write_36 : decode cX3_write 36 = .ok (.iastore, 1) := dzr zhdX3_write_36 0 rfl
theorem dX3_write_37 : decode cX3_write 37 = .ok (.return_, 1) := dzr zhdX3_write_36 1 rfl
def ztdX3_read_0 : List (Nat × Instr × Nat) := [(0, .aload_n 0, 1), (1, .getfield 9, 3), (4, .iload_n 1, 1), (5, .bipush 127, 2), (7, .iand, 1), (8, .iconst 3, 1), (9, .imul, 1), (10, .iload_n 2, 1), (11, .iadd, 1), (12, .iaload, 1), (13, .ireturn, 1)]
theorem zhdX3_read_0 : dzC ztdX3_read_0 0 (cX3_read.data.toList.drop 0) = true := by decide +kernel
theorem dX3_read_0 : decode cX3_read 0 = .ok (.aload_n 0, 1) := dzr zhdX3_read_0 0 rfl
theorem dX3_read_1 : decode cX3_read 1 = .ok (.getfield 9, 3) := dzr zhdX3_read_0 1 rfl
theorem dX3_read_4 : decode cX3_read 4 = .ok (.iload_n 1, 1) := dzr zhdX3_read_0 2 rfl
theorem dX3_read_5 : decode cX3_read 5 = .ok (.bipush 127, 2) := dzr zhdX3_read_0 3 rfl
theorem dX3_read_7 : decode cX3_read 7 = .ok (.iand, 1) := dzr zhdX3_read_0 4 rfl
theorem dX3_read_8 : decode cX3_read 8 = .ok (.iconst 3, 1) := dzr zhdX3_read_0 5 rfl
theorem dX3_read_9 : decode cX3_read 9 = .ok (.imul, 1) := dzr zhdX3_read_0 6 rfl
theorem dX3_read_10 : decode cX3_read 10 = .ok (.iload_n 2, 1) := dzr zhdX3_read_0 7 rfl
theorem dX3_read_11 : decode cX3_read 11 = .ok (.iadd, 1) := dzr zhdX3_read_0 8 rfl
theorem dX3_read_12 : decode cX3_read 12 = .ok (.iaload, 1) := dzr zhdX3_read_0 9 rfl
theorem dX3_read_13 : decode cX3_read 13 = .ok (.ireturn, 1) := dzr zhdX3_read_0 10 rfl
def ztdX3_copyFrom_0 : List (Nat × Instr × Nat) := [(0, .aload_n 1, 1), (1, .getfield 9, 3), (4, .iconst 0, 1), (5, .aload_n 0, 1), (6, .getfield 9, 3), (9, .iconst 0, 1), (10, .sipush 384, 3), (13, .invokestatic 19, 3), (16, .return_, 1)]
theorem zhdX3_copyFrom_0 : dzC ztdX3_copyFrom_0 0 (cX3_copyFrom.data.toList.drop 0) = true := by decide +kernel
theorem dX3_copyFrom_0 : decode cX3_copyFrom 0 = .ok (.aload_n 1, 1) := dzr zhdX3_copyFrom_0 0 rfl
theorem dX3_copyFrom_1 : decode cX3_copyFrom 1 = .ok (.getfield 9, 3) := dzr zhdX3_copyFrom_0 1 rfl
theorem dX3_copyFrom_4 : decode cX3_copyFrom 4 = .ok (.iconst 0, 1) := dzr zhdX3_copyFrom_0 2 rfl
theorem dX3_copyFrom_5 : decode cX3_copyFrom 5 = .ok (.aload_n 0, 1) := dzr zhdX3_copyFrom_0 3 rfl
theorem dX3_copyFrom_6 : decode cX3_copyFrom 6 = .ok (.getfield 9, 3) := dzr zhdX3_copyFrom_0 4 rfl
theorem dX3_copyFrom_9 : decode cX3_copyFrom 9 = .ok (.iconst 0, 1) := dzr zhdX3_copyFrom_0 5 rfl
theorem dX3_copyFrom_10 : decode cX3_copyFrom 10 = .ok (.sipush 384, 3) := dzr zhdX3_copyFrom_0 6 rfl
theorem dX3_copyFrom_13 : decode cX3_copyFrom 13 = .ok (.invokestatic 19, 3) := dzr zhdX3_copyFrom_0 7 rfl
theorem dX3_copyFrom_16 : decode cX3_copyFrom 16 = .ok (.return_, 1) := dzr zhdX3_copyFrom_0 8 rfl
theorem dX4_init_7 : decode cX4_init 7 = .ok (.newarray .int, 2) := by decide +kernel
theorem dX4_init_15 : decode cX4_init 15 = .ok (.newarray .int, 2) := by decide +kernel
def ztdX4_init_0 : List (Nat × Instr × Nat) := [(0, .aload_n 0, 1), (1, .invokespecial 3, 3), (4, .aload_n 0, 1), (5, .bipush 6, 2), (9, .putfield 9, 3), (12, .aload_n 0, 1), (13, .bipush 36, 2), (17, .putfield 15, 3), (20, .aload_n 0, 1), (21, .aload_n 1, 1), (22, .putfield 18, 3), (25, .return_, 1)]
theorem zhdX4_init_0 : dzC ztdX4_init_0 0 (cX4_init.data.toList.drop 0) = true := by decide +kernel
theorem dX4_init_0 : decode cX4_init 0 = .ok (.aload_n 0, 1) := dzr zhdX4_init_0 0 rfl
theorem dX4_init_1 : decode cX4_init 1 = .ok (.invokespecial 3, 3) := dzr zhdX4_init_0 1 rfl
theorem dX4_init_4 : decode cX4_init 4 = .ok (.aload_n 0, 1) := dzr zhdX4_init_0 2 rfl
theorem dX4_init_5 : decode cX4_init 5 = .ok (.bipush 6, 2) := dzr zhdX4_init_0 3 rfl
theorem dX4_init_9 : decode cX4_init 9 = .ok (.putfield 9, 3) := dzr zhdX4_init_0 4 rfl
theorem dX4_init_12 : decode cX4_init 12 = .ok (.aload_n 0, 1) := dzr zhdX4_init_0 5 rfl
theorem dX4_init_13 : decode cX4_init 13 = .ok (.bipush 36, 2) := dzr zhdX4_init_0 6 rfl
theorem dX4_init_17 : decode cX4_init 17 = .ok (.putfield 15, 3) := dzr zhdX4_init_0 7 rfl
theorem dX4_init_20 : decode cX4_init 20 = .ok (.aload_n 0, 1) := dzr zhdX4_init_0 8 rfl
theorem dX4_init_21 : decode cX4_init 21 = .ok (.aload_n 1, 1) := dzr zhdX4_init_0 9 rfl
theorem dX4_init_22 : decode cX4_init 22 = .ok (.putfield 18, 3) := dzr zhdX4_init_0 10 rfl
theorem dX4_init_25 : decode cX4_init 25 = .ok (.return_, 1) := dzr zhdX4_init_0 11 rfl
theorem ggX4_solve_X9_hasMet : GoodIn wsX4_solve wsX9_hasMet := (bg_up (bg_law (bi_wsL_law0_r24 _ (List.mem_of_getElem? (i := 22) rfl))))
theorem gX4_solve_X9_hasMet : GoodIn wsX4_solve (wsV RX4 34 RX9 yX9_hasMet wsX9_hasMet) := goodIn_app (bg_up (bg_cons (bi_wsL_law0_r44 _ (List.mem_of_getElem? (i := 21) rfl)) (bg_cons (bi_wsL_law0_r24 _ (List.mem_of_getElem? (i := 20) rfl)) (bg_cons (bi_wsL_law0_r24 _ (List.mem_of_getElem? (i := 21) rfl)) (bg_cons (bi_wsL_law0_r2 _ (List.mem_of_getElem? (i := 12) rfl)) bg_nil))))) (bg_up (bg_law (bi_wsL_law0_r24 _ (List.mem_of_getElem? (i := 22) rfl))))
theorem ggX4_solve_X5_unlike : GoodIn wsX4_solve wsX5_unlike := (bg_up (bg_law (bi_wsL_law0_r26 _ (List.mem_of_getElem? (i := 21) rfl))))
theorem gX4_solve_X5_unlike : GoodIn wsX4_solve (wsV RX4 40 RX5 yX5_unlike wsX5_unlike) := goodIn_app (bg_up (bg_cons (bi_wsL_law0_r44 _ (List.mem_of_getElem? (i := 22) rfl)) (bg_cons (bi_wsL_law0_r26 _ (List.mem_of_getElem? (i := 19) rfl)) (bg_cons (bi_wsL_law0_r26 _ (List.mem_of_getElem? (i := 20) rfl)) (bg_cons (bi_wsL_law0_r2 _ (List.mem_of_getElem? (i := 4) rfl)) bg_nil))))) (bg_up (bg_law (bi_wsL_law0_r26 _ (List.mem_of_getElem? (i := 21) rfl))))
theorem ggX4_solve_X9_riseOf : GoodIn wsX4_solve wsX9_riseOf := (bg_up (bg_law (bi_wsL_law0_r42 _ (List.mem_of_getElem? (i := 23) rfl))))
theorem gX4_solve_X9_riseOf : GoodIn wsX4_solve (wsV RX4 44 RX9 yX9_riseOf wsX9_riseOf) := goodIn_app (bg_up (bg_cons (bi_wsL_law0_r44 _ (List.mem_of_getElem? (i := 23) rfl)) (bg_cons (bi_wsL_law0_r42 _ (List.mem_of_getElem? (i := 21) rfl)) (bg_cons (bi_wsL_law0_r42 _ (List.mem_of_getElem? (i := 22) rfl)) (bg_cons (bi_wsL_law0_r2 _ (List.mem_of_getElem? (i := 12) rfl)) bg_nil))))) (bg_up (bg_law (bi_wsL_law0_r42 _ (List.mem_of_getElem? (i := 23) rfl))))
theorem ggX4_solve_X9_metBits : GoodIn wsX4_solve wsX9_metBits := (bg_up (bg_law (bi_wsL_law0_r37 _ (List.mem_of_getElem? (i := 8) rfl))))
theorem gX4_solve_X9_metBits : GoodIn wsX4_solve (wsV RX4 52 RX9 yX9_metBits wsX9_metBits) := goodIn_app (bg_up (bg_cons (bi_wsL_law0_r45 _ (List.mem_of_getElem? (i := 0) rfl)) (bg_cons (bi_wsL_law0_r37 _ (List.mem_of_getElem? (i := 6) rfl)) (bg_cons (bi_wsL_law0_r37 _ (List.mem_of_getElem? (i := 7) rfl)) (bg_cons (bi_wsL_law0_r2 _ (List.mem_of_getElem? (i := 12) rfl)) bg_nil))))) (bg_up (bg_law (bi_wsL_law0_r37 _ (List.mem_of_getElem? (i := 8) rfl))))
theorem ggX4_solve_X4_search : GoodIn wsX4_solve wsX4_search := (bg_up (bg_law (bi_wsL_law0_r45 _ (List.mem_of_getElem? (i := 4) rfl))))
theorem gX4_solve_X4_search : GoodIn wsX4_solve (wsV RX4 56 RX4 yX4_search wsX4_search) := goodIn_app (bg_up (bg_cons (bi_wsL_law0_r45 _ (List.mem_of_getElem? (i := 1) rfl)) (bg_cons (bi_wsL_law0_r45 _ (List.mem_of_getElem? (i := 2) rfl)) (bg_cons (bi_wsL_law0_r45 _ (List.mem_of_getElem? (i := 3) rfl)) (bg_cons (bi_wsL_law0_r3 _ (List.mem_of_getElem? (i := 7) rfl)) bg_nil))))) (bg_up (bg_law (bi_wsL_law0_r45 _ (List.mem_of_getElem? (i := 4) rfl))))
def ztdX4_solve_0 : List (Nat × Instr × Nat) := [(0, .aload_n 0, 1), (1, .iconst 0, 1), (2, .putfield 22, 3), (5, .iconst 0, 1), (6, .istore_n 2, 1), (7, .iload_n 2, 1), (8, .aload_n 0, 1), (9, .getfield 18, 3), (12, .getfield 26, 3), (15, .if_icmp .ge 101, 3), (18, .aload_n 0, 1), (19, .getfield 18, 3), (22, .getfield 31, 3), (25, .iload_n 2, 1), (26, .iaload, 1), (27, .ifCond .ne 83, 3), (30, .aload_n 1, 1), (31, .iload_n 2, 1), (32, .invokevirtual 34, 3), (35, .ifCond .ne 75, 3), (38, .aload_n 0, 1), (39, .getfield 9, 3), (42, .aload_n 0, 1), (43, .getfield 22, 3)]
theorem zhdX4_solve_0 : dzC ztdX4_solve_0 0 (cX4_solve.data.toList.drop 0) = true := by decide +kernel
theorem dX4_solve_0 : decode cX4_solve 0 = .ok (.aload_n 0, 1) := dzr zhdX4_solve_0 0 rfl
theorem dX4_solve_1 : decode cX4_solve 1 = .ok (.iconst 0, 1) := dzr zhdX4_solve_0 1 rfl
theorem dX4_solve_2 : decode cX4_solve 2 = .ok (.putfield 22, 3) := dzr zhdX4_solve_0 2 rfl
theorem dX4_solve_5 : decode cX4_solve 5 = .ok (.iconst 0, 1) := dzr zhdX4_solve_0 3 rfl
theorem dX4_solve_6 : decode cX4_solve 6 = .ok (.istore_n 2, 1) := dzr zhdX4_solve_0 4 rfl
theorem dX4_solve_7 : decode cX4_solve 7 = .ok (.iload_n 2, 1) := dzr zhdX4_solve_0 5 rfl
theorem dX4_solve_8 : decode cX4_solve 8 = .ok (.aload_n 0, 1) := dzr zhdX4_solve_0 6 rfl
theorem dX4_solve_9 : decode cX4_solve 9 = .ok (.getfield 18, 3) := dzr zhdX4_solve_0 7 rfl
theorem dX4_solve_12 : decode cX4_solve 12 = .ok (.getfield 26, 3) := dzr zhdX4_solve_0 8 rfl
theorem dX4_solve_15 : decode cX4_solve 15 = .ok (.if_icmp .ge 101, 3) := dzr zhdX4_solve_0 9 rfl
theorem dX4_solve_18 : decode cX4_solve 18 = .ok (.aload_n 0, 1) := dzr zhdX4_solve_0 10 rfl
theorem dX4_solve_19 : decode cX4_solve 19 = .ok (.getfield 18, 3) := dzr zhdX4_solve_0 11 rfl
theorem dX4_solve_22 : decode cX4_solve 22 = .ok (.getfield 31, 3) := dzr zhdX4_solve_0 12 rfl
theorem dX4_solve_25 : decode cX4_solve 25 = .ok (.iload_n 2, 1) := dzr zhdX4_solve_0 13 rfl
theorem dX4_solve_26 : decode cX4_solve 26 = .ok (.iaload, 1) := dzr zhdX4_solve_0 14 rfl
theorem dX4_solve_27 : decode cX4_solve 27 = .ok (.ifCond .ne 83, 3) := dzr zhdX4_solve_0 15 rfl
theorem dX4_solve_30 : decode cX4_solve 30 = .ok (.aload_n 1, 1) := dzr zhdX4_solve_0 16 rfl
theorem dX4_solve_31 : decode cX4_solve 31 = .ok (.iload_n 2, 1) := dzr zhdX4_solve_0 17 rfl
theorem dX4_solve_32 : decode cX4_solve 32 = .ok (.invokevirtual 34, 3) := dzr zhdX4_solve_0 18 rfl
theorem dX4_solve_35 : decode cX4_solve 35 = .ok (.ifCond .ne 75, 3) := dzr zhdX4_solve_0 19 rfl
theorem dX4_solve_38 : decode cX4_solve 38 = .ok (.aload_n 0, 1) := dzr zhdX4_solve_0 20 rfl
theorem dX4_solve_39 : decode cX4_solve 39 = .ok (.getfield 9, 3) := dzr zhdX4_solve_0 21 rfl
theorem dX4_solve_42 : decode cX4_solve 42 = .ok (.aload_n 0, 1) := dzr zhdX4_solve_0 22 rfl
theorem dX4_solve_43 : decode cX4_solve 43 = .ok (.getfield 22, 3) := dzr zhdX4_solve_0 23 rfl
def ztdX4_solve_46 : List (Nat × Instr × Nat) := [(46, .iload_n 2, 1), (47, .iastore, 1), (48, .aload_n 0, 1), (49, .dup, 1), (50, .getfield 22, 3), (53, .iconst 1, 1), (54, .iadd, 1), (55, .putfield 22, 3), (58, .iconst 0, 1), (59, .istore_n 3, 1), (60, .iload_n 3, 1), (61, .aload_n 0, 1), (62, .getfield 18, 3), (65, .getfield 26, 3), (68, .if_icmp .ge 42, 3), (71, .aload_n 0, 1), (72, .getfield 15, 3), (75, .iload_n 2, 1), (76, .bipush 6, 2), (78, .imul, 1), (79, .iload_n 3, 1), (80, .iadd, 1), (81, .aload_n 0, 1), (82, .getfield 18, 3)]
theorem zhdX4_solve_46 : dzC ztdX4_solve_46 46 (cX4_solve.data.toList.drop 46) = true := by decide +kernel
theorem dX4_solve_46 : decode cX4_solve 46 = .ok (.iload_n 2, 1) := dzr zhdX4_solve_46 0 rfl
theorem dX4_solve_47 : decode cX4_solve 47 = .ok (.iastore, 1) := dzr zhdX4_solve_46 1 rfl
theorem dX4_solve_48 : decode cX4_solve 48 = .ok (.aload_n 0, 1) := dzr zhdX4_solve_46 2 rfl
theorem dX4_solve_49 : decode cX4_solve 49 = .ok (.dup, 1) := dzr zhdX4_solve_46 3 rfl
theorem dX4_solve_50 : decode cX4_solve 50 = .ok (.getfield 22, 3) := dzr zhdX4_solve_46 4 rfl
theorem dX4_solve_53 : decode cX4_solve 53 = .ok (.iconst 1, 1) := dzr zhdX4_solve_46 5 rfl
theorem dX4_solve_54 : decode cX4_solve 54 = .ok (.iadd, 1) := dzr zhdX4_solve_46 6 rfl
theorem dX4_solve_55 : decode cX4_solve 55 = .ok (.putfield 22, 3) := dzr zhdX4_solve_46 7 rfl
theorem dX4_solve_58 : decode cX4_solve 58 = .ok (.iconst 0, 1) := dzr zhdX4_solve_46 8 rfl
theorem dX4_solve_59 : decode cX4_solve 59 = .ok (.istore_n 3, 1) := dzr zhdX4_solve_46 9 rfl
theorem dX4_solve_60 : decode cX4_solve 60 = .ok (.iload_n 3, 1) := dzr zhdX4_solve_46 10 rfl
theorem dX4_solve_61 : decode cX4_solve 61 = .ok (.aload_n 0, 1) := dzr zhdX4_solve_46 11 rfl
theorem dX4_solve_62 : decode cX4_solve 62 = .ok (.getfield 18, 3) := dzr zhdX4_solve_46 12 rfl
theorem dX4_solve_65 : decode cX4_solve 65 = .ok (.getfield 26, 3) := dzr zhdX4_solve_46 13 rfl
theorem dX4_solve_68 : decode cX4_solve 68 = .ok (.if_icmp .ge 42, 3) := dzr zhdX4_solve_46 14 rfl
theorem dX4_solve_71 : decode cX4_solve 71 = .ok (.aload_n 0, 1) := dzr zhdX4_solve_46 15 rfl
theorem dX4_solve_72 : decode cX4_solve 72 = .ok (.getfield 15, 3) := dzr zhdX4_solve_46 16 rfl
theorem dX4_solve_75 : decode cX4_solve 75 = .ok (.iload_n 2, 1) := dzr zhdX4_solve_46 17 rfl
theorem dX4_solve_76 : decode cX4_solve 76 = .ok (.bipush 6, 2) := dzr zhdX4_solve_46 18 rfl
theorem dX4_solve_78 : decode cX4_solve 78 = .ok (.imul, 1) := dzr zhdX4_solve_46 19 rfl
theorem dX4_solve_79 : decode cX4_solve 79 = .ok (.iload_n 3, 1) := dzr zhdX4_solve_46 20 rfl
theorem dX4_solve_80 : decode cX4_solve 80 = .ok (.iadd, 1) := dzr zhdX4_solve_46 21 rfl
theorem dX4_solve_81 : decode cX4_solve 81 = .ok (.aload_n 0, 1) := dzr zhdX4_solve_46 22 rfl
theorem dX4_solve_82 : decode cX4_solve 82 = .ok (.getfield 18, 3) := dzr zhdX4_solve_46 23 rfl
def ztdX4_solve_85 : List (Nat × Instr × Nat) := [(85, .iload_n 2, 1), (86, .iload_n 3, 1), (87, .invokevirtual 40, 3), (90, .ifCond .eq 12, 3), (93, .aload_n 1, 1), (94, .iload_n 2, 1), (95, .iload_n 3, 1), (96, .invokevirtual 44, 3), (99, .goto 4, 3), (102, .iconst 0, 1), (103, .iastore, 1), (104, .iinc 3 1, 3), (107, .goto (-47), 3), (110, .iinc 2 1, 3), (113, .goto (-106), 3), (116, .aload_n 0, 1), (117, .iconst 0, 1), (118, .putfield 48, 3), (121, .aload_n 0, 1), (122, .iconst 0, 1), (123, .aload_n 1, 1), (124, .invokevirtual 52, 3), (127, .iconst 0, 1), (128, .iconst 0, 1)]
theorem zhdX4_solve_85 : dzC ztdX4_solve_85 85 (cX4_solve.data.toList.drop 85) = true := by decide +kernel
theorem dX4_solve_85 : decode cX4_solve 85 = .ok (.iload_n 2, 1) := dzr zhdX4_solve_85 0 rfl
theorem dX4_solve_86 : decode cX4_solve 86 = .ok (.iload_n 3, 1) := dzr zhdX4_solve_85 1 rfl
theorem dX4_solve_87 : decode cX4_solve 87 = .ok (.invokevirtual 40, 3) := dzr zhdX4_solve_85 2 rfl
theorem dX4_solve_90 : decode cX4_solve 90 = .ok (.ifCond .eq 12, 3) := dzr zhdX4_solve_85 3 rfl
theorem dX4_solve_93 : decode cX4_solve 93 = .ok (.aload_n 1, 1) := dzr zhdX4_solve_85 4 rfl
theorem dX4_solve_94 : decode cX4_solve 94 = .ok (.iload_n 2, 1) := dzr zhdX4_solve_85 5 rfl
theorem dX4_solve_95 : decode cX4_solve 95 = .ok (.iload_n 3, 1) := dzr zhdX4_solve_85 6 rfl
theorem dX4_solve_96 : decode cX4_solve 96 = .ok (.invokevirtual 44, 3) := dzr zhdX4_solve_85 7 rfl
theorem dX4_solve_99 : decode cX4_solve 99 = .ok (.goto 4, 3) := dzr zhdX4_solve_85 8 rfl
theorem dX4_solve_102 : decode cX4_solve 102 = .ok (.iconst 0, 1) := dzr zhdX4_solve_85 9 rfl
theorem dX4_solve_103 : decode cX4_solve 103 = .ok (.iastore, 1) := dzr zhdX4_solve_85 10 rfl
theorem dX4_solve_104 : decode cX4_solve 104 = .ok (.iinc 3 1, 3) := dzr zhdX4_solve_85 11 rfl
theorem dX4_solve_107 : decode cX4_solve 107 = .ok (.goto (-47), 3) := dzr zhdX4_solve_85 12 rfl
theorem dX4_solve_110 : decode cX4_solve 110 = .ok (.iinc 2 1, 3) := dzr zhdX4_solve_85 13 rfl
theorem dX4_solve_113 : decode cX4_solve 113 = .ok (.goto (-106), 3) := dzr zhdX4_solve_85 14 rfl
theorem dX4_solve_116 : decode cX4_solve 116 = .ok (.aload_n 0, 1) := dzr zhdX4_solve_85 15 rfl
theorem dX4_solve_117 : decode cX4_solve 117 = .ok (.iconst 0, 1) := dzr zhdX4_solve_85 16 rfl
theorem dX4_solve_118 : decode cX4_solve 118 = .ok (.putfield 48, 3) := dzr zhdX4_solve_85 17 rfl
theorem dX4_solve_121 : decode cX4_solve 121 = .ok (.aload_n 0, 1) := dzr zhdX4_solve_85 18 rfl
theorem dX4_solve_122 : decode cX4_solve 122 = .ok (.iconst 0, 1) := dzr zhdX4_solve_85 19 rfl
theorem dX4_solve_123 : decode cX4_solve 123 = .ok (.aload_n 1, 1) := dzr zhdX4_solve_85 20 rfl
theorem dX4_solve_124 : decode cX4_solve 124 = .ok (.invokevirtual 52, 3) := dzr zhdX4_solve_85 21 rfl
theorem dX4_solve_127 : decode cX4_solve 127 = .ok (.iconst 0, 1) := dzr zhdX4_solve_85 22 rfl
theorem dX4_solve_128 : decode cX4_solve 128 = .ok (.iconst 0, 1) := dzr zhdX4_solve_85 23 rfl
def ztdX4_solve_129 : List (Nat × Instr × Nat) := [(129, .invokevirtual 56, 3), (132, .return_, 1)]
theorem zhdX4_solve_129 : dzC ztdX4_solve_129 129 (cX4_solve.data.toList.drop 129) = true := by decide +kernel
theorem dX4_solve_129 : decode cX4_solve 129 = .ok (.invokevirtual 56, 3) := dzr zhdX4_solve_129 0 rfl
theorem dX4_solve_132 : decode cX4_solve 132 = .ok (.return_, 1) := dzr zhdX4_solve_129 1 rfl
theorem ggX4_search_X4_search : GoodIn wsX4_search wsX4_search := (bg_up (bg_law (bi_wsL_law0_r45 _ (List.mem_of_getElem? (i := 4) rfl))))
theorem gX4_search_X4_search : GoodIn wsX4_search (wsV RX4 56 RX4 yX4_search wsX4_search) := goodIn_app (bg_up (bg_cons (bi_wsL_law0_r45 _ (List.mem_of_getElem? (i := 1) rfl)) (bg_cons (bi_wsL_law0_r45 _ (List.mem_of_getElem? (i := 2) rfl)) (bg_cons (bi_wsL_law0_r45 _ (List.mem_of_getElem? (i := 3) rfl)) (bg_cons (bi_wsL_law0_r3 _ (List.mem_of_getElem? (i := 7) rfl)) bg_nil))))) (bg_up (bg_law (bi_wsL_law0_r45 _ (List.mem_of_getElem? (i := 4) rfl))))
def ztdX4_search_0 : List (Nat × Instr × Nat) := [(0, .iload_n 1, 1), (1, .aload_n 0, 1), (2, .getfield 22, 3), (5, .if_icmp .ge 9, 3), (8, .iload_n 1, 1), (9, .bipush 6, 2), (11, .if_icmp .lt 36, 3), (14, .aload_n 0, 1), (15, .getfield 48, 3), (18, .ifCond .eq 12, 3), (21, .iload 4, 2), (23, .aload_n 0, 1), (24, .getfield 60, 3), (27, .if_icmp .le 19, 3), (30, .aload_n 0, 1), (31, .iconst 1, 1), (32, .putfield 48, 3), (35, .aload_n 0, 1), (36, .iload 4, 2), (38, .putfield 60, 3), (41, .aload_n 0, 1), (42, .iload_n 3, 1), (43, .putfield 63, 3), (46, .return_, 1)]
theorem zhdX4_search_0 : dzC ztdX4_search_0 0 (cX4_search.data.toList.drop 0) = true := by decide +kernel
theorem dX4_search_0 : decode cX4_search 0 = .ok (.iload_n 1, 1) := dzr zhdX4_search_0 0 rfl
theorem dX4_search_1 : decode cX4_search 1 = .ok (.aload_n 0, 1) := dzr zhdX4_search_0 1 rfl
theorem dX4_search_2 : decode cX4_search 2 = .ok (.getfield 22, 3) := dzr zhdX4_search_0 2 rfl
theorem dX4_search_5 : decode cX4_search 5 = .ok (.if_icmp .ge 9, 3) := dzr zhdX4_search_0 3 rfl
theorem dX4_search_8 : decode cX4_search 8 = .ok (.iload_n 1, 1) := dzr zhdX4_search_0 4 rfl
theorem dX4_search_9 : decode cX4_search 9 = .ok (.bipush 6, 2) := dzr zhdX4_search_0 5 rfl
theorem dX4_search_11 : decode cX4_search 11 = .ok (.if_icmp .lt 36, 3) := dzr zhdX4_search_0 6 rfl
theorem dX4_search_14 : decode cX4_search 14 = .ok (.aload_n 0, 1) := dzr zhdX4_search_0 7 rfl
theorem dX4_search_15 : decode cX4_search 15 = .ok (.getfield 48, 3) := dzr zhdX4_search_0 8 rfl
theorem dX4_search_18 : decode cX4_search 18 = .ok (.ifCond .eq 12, 3) := dzr zhdX4_search_0 9 rfl
theorem dX4_search_21 : decode cX4_search 21 = .ok (.iload 4, 2) := dzr zhdX4_search_0 10 rfl
theorem dX4_search_23 : decode cX4_search 23 = .ok (.aload_n 0, 1) := dzr zhdX4_search_0 11 rfl
theorem dX4_search_24 : decode cX4_search 24 = .ok (.getfield 60, 3) := dzr zhdX4_search_0 12 rfl
theorem dX4_search_27 : decode cX4_search 27 = .ok (.if_icmp .le 19, 3) := dzr zhdX4_search_0 13 rfl
theorem dX4_search_30 : decode cX4_search 30 = .ok (.aload_n 0, 1) := dzr zhdX4_search_0 14 rfl
theorem dX4_search_31 : decode cX4_search 31 = .ok (.iconst 1, 1) := dzr zhdX4_search_0 15 rfl
theorem dX4_search_32 : decode cX4_search 32 = .ok (.putfield 48, 3) := dzr zhdX4_search_0 16 rfl
theorem dX4_search_35 : decode cX4_search 35 = .ok (.aload_n 0, 1) := dzr zhdX4_search_0 17 rfl
theorem dX4_search_36 : decode cX4_search 36 = .ok (.iload 4, 2) := dzr zhdX4_search_0 18 rfl
theorem dX4_search_38 : decode cX4_search 38 = .ok (.putfield 60, 3) := dzr zhdX4_search_0 19 rfl
theorem dX4_search_41 : decode cX4_search 41 = .ok (.aload_n 0, 1) := dzr zhdX4_search_0 20 rfl
theorem dX4_search_42 : decode cX4_search 42 = .ok (.iload_n 3, 1) := dzr zhdX4_search_0 21 rfl
theorem dX4_search_43 : decode cX4_search 43 = .ok (.putfield 63, 3) := dzr zhdX4_search_0 22 rfl
theorem dX4_search_46 : decode cX4_search 46 = .ok (.return_, 1) := dzr zhdX4_search_0 23 rfl
def ztdX4_search_47 : List (Nat × Instr × Nat) := [(47, .iconst 0, 1), (48, .istore 5, 2), (50, .iload 5, 2), (52, .aload_n 0, 1), (53, .getfield 18, 3), (56, .getfield 26, 3), (59, .if_icmp .ge 72, 3), (62, .aload_n 0, 1), (63, .getfield 18, 3), (66, .getfield 31, 3), (69, .iload 5, 2), (71, .iaload, 1), (72, .iconst 1, 1), (73, .if_icmp .ne 52, 3), (76, .iload_n 2, 1), (77, .iload 5, 2), (79, .ishr, 1), (80, .iconst 1, 1), (81, .iand, 1), (82, .ifCond .ne 43, 3), (85, .aload_n 0, 1), (86, .iload_n 1, 1), (87, .iconst 1, 1), (88, .iadd, 1)]
theorem zhdX4_search_47 : dzC ztdX4_search_47 47 (cX4_search.data.toList.drop 47) = true := by decide +kernel
theorem dX4_search_47 : decode cX4_search 47 = .ok (.iconst 0, 1) := dzr zhdX4_search_47 0 rfl
theorem dX4_search_48 : decode cX4_search 48 = .ok (.istore 5, 2) := dzr zhdX4_search_47 1 rfl
theorem dX4_search_50 : decode cX4_search 50 = .ok (.iload 5, 2) := dzr zhdX4_search_47 2 rfl
theorem dX4_search_52 : decode cX4_search 52 = .ok (.aload_n 0, 1) := dzr zhdX4_search_47 3 rfl
theorem dX4_search_53 : decode cX4_search 53 = .ok (.getfield 18, 3) := dzr zhdX4_search_47 4 rfl
theorem dX4_search_56 : decode cX4_search 56 = .ok (.getfield 26, 3) := dzr zhdX4_search_47 5 rfl
theorem dX4_search_59 : decode cX4_search 59 = .ok (.if_icmp .ge 72, 3) := dzr zhdX4_search_47 6 rfl
theorem dX4_search_62 : decode cX4_search 62 = .ok (.aload_n 0, 1) := dzr zhdX4_search_47 7 rfl
theorem dX4_search_63 : decode cX4_search 63 = .ok (.getfield 18, 3) := dzr zhdX4_search_47 8 rfl
theorem dX4_search_66 : decode cX4_search 66 = .ok (.getfield 31, 3) := dzr zhdX4_search_47 9 rfl
theorem dX4_search_69 : decode cX4_search 69 = .ok (.iload 5, 2) := dzr zhdX4_search_47 10 rfl
theorem dX4_search_71 : decode cX4_search 71 = .ok (.iaload, 1) := dzr zhdX4_search_47 11 rfl
theorem dX4_search_72 : decode cX4_search 72 = .ok (.iconst 1, 1) := dzr zhdX4_search_47 12 rfl
theorem dX4_search_73 : decode cX4_search 73 = .ok (.if_icmp .ne 52, 3) := dzr zhdX4_search_47 13 rfl
theorem dX4_search_76 : decode cX4_search 76 = .ok (.iload_n 2, 1) := dzr zhdX4_search_47 14 rfl
theorem dX4_search_77 : decode cX4_search 77 = .ok (.iload 5, 2) := dzr zhdX4_search_47 15 rfl
theorem dX4_search_79 : decode cX4_search 79 = .ok (.ishr, 1) := dzr zhdX4_search_47 16 rfl
theorem dX4_search_80 : decode cX4_search 80 = .ok (.iconst 1, 1) := dzr zhdX4_search_47 17 rfl
theorem dX4_search_81 : decode cX4_search 81 = .ok (.iand, 1) := dzr zhdX4_search_47 18 rfl
theorem dX4_search_82 : decode cX4_search 82 = .ok (.ifCond .ne 43, 3) := dzr zhdX4_search_47 19 rfl
theorem dX4_search_85 : decode cX4_search 85 = .ok (.aload_n 0, 1) := dzr zhdX4_search_47 20 rfl
theorem dX4_search_86 : decode cX4_search 86 = .ok (.iload_n 1, 1) := dzr zhdX4_search_47 21 rfl
theorem dX4_search_87 : decode cX4_search 87 = .ok (.iconst 1, 1) := dzr zhdX4_search_47 22 rfl
theorem dX4_search_88 : decode cX4_search 88 = .ok (.iadd, 1) := dzr zhdX4_search_47 23 rfl
def ztdX4_search_89 : List (Nat × Instr × Nat) := [(89, .iload_n 2, 1), (90, .iconst 1, 1), (91, .iload 5, 2), (93, .ishl, 1), (94, .ior, 1), (95, .iload_n 3, 1), (96, .bipush 10, 2), (98, .imul, 1), (99, .iload 5, 2), (101, .iadd, 1), (102, .iload 4, 2), (104, .aload_n 0, 1), (105, .getfield 15, 3), (108, .aload_n 0, 1), (109, .getfield 9, 3), (112, .iload_n 1, 1), (113, .iaload, 1), (114, .bipush 6, 2), (116, .imul, 1), (117, .iload 5, 2), (119, .iadd, 1), (120, .iaload, 1), (121, .iadd, 1), (122, .invokevirtual 56, 3)]
theorem zhdX4_search_89 : dzC ztdX4_search_89 89 (cX4_search.data.toList.drop 89) = true := by decide +kernel
theorem dX4_search_89 : decode cX4_search 89 = .ok (.iload_n 2, 1) := dzr zhdX4_search_89 0 rfl
theorem dX4_search_90 : decode cX4_search 90 = .ok (.iconst 1, 1) := dzr zhdX4_search_89 1 rfl
theorem dX4_search_91 : decode cX4_search 91 = .ok (.iload 5, 2) := dzr zhdX4_search_89 2 rfl
theorem dX4_search_93 : decode cX4_search 93 = .ok (.ishl, 1) := dzr zhdX4_search_89 3 rfl
theorem dX4_search_94 : decode cX4_search 94 = .ok (.ior, 1) := dzr zhdX4_search_89 4 rfl
theorem dX4_search_95 : decode cX4_search 95 = .ok (.iload_n 3, 1) := dzr zhdX4_search_89 5 rfl
theorem dX4_search_96 : decode cX4_search 96 = .ok (.bipush 10, 2) := dzr zhdX4_search_89 6 rfl
theorem dX4_search_98 : decode cX4_search 98 = .ok (.imul, 1) := dzr zhdX4_search_89 7 rfl
theorem dX4_search_99 : decode cX4_search 99 = .ok (.iload 5, 2) := dzr zhdX4_search_89 8 rfl
theorem dX4_search_101 : decode cX4_search 101 = .ok (.iadd, 1) := dzr zhdX4_search_89 9 rfl
theorem dX4_search_102 : decode cX4_search 102 = .ok (.iload 4, 2) := dzr zhdX4_search_89 10 rfl
theorem dX4_search_104 : decode cX4_search 104 = .ok (.aload_n 0, 1) := dzr zhdX4_search_89 11 rfl
theorem dX4_search_105 : decode cX4_search 105 = .ok (.getfield 15, 3) := dzr zhdX4_search_89 12 rfl
theorem dX4_search_108 : decode cX4_search 108 = .ok (.aload_n 0, 1) := dzr zhdX4_search_89 13 rfl
theorem dX4_search_109 : decode cX4_search 109 = .ok (.getfield 9, 3) := dzr zhdX4_search_89 14 rfl
theorem dX4_search_112 : decode cX4_search 112 = .ok (.iload_n 1, 1) := dzr zhdX4_search_89 15 rfl
theorem dX4_search_113 : decode cX4_search 113 = .ok (.iaload, 1) := dzr zhdX4_search_89 16 rfl
theorem dX4_search_114 : decode cX4_search 114 = .ok (.bipush 6, 2) := dzr zhdX4_search_89 17 rfl
theorem dX4_search_116 : decode cX4_search 116 = .ok (.imul, 1) := dzr zhdX4_search_89 18 rfl
theorem dX4_search_117 : decode cX4_search 117 = .ok (.iload 5, 2) := dzr zhdX4_search_89 19 rfl
theorem dX4_search_119 : decode cX4_search 119 = .ok (.iadd, 1) := dzr zhdX4_search_89 20 rfl
theorem dX4_search_120 : decode cX4_search 120 = .ok (.iaload, 1) := dzr zhdX4_search_89 21 rfl
theorem dX4_search_121 : decode cX4_search 121 = .ok (.iadd, 1) := dzr zhdX4_search_89 22 rfl
theorem dX4_search_122 : decode cX4_search 122 = .ok (.invokevirtual 56, 3) := dzr zhdX4_search_89 23 rfl
def ztdX4_search_125 : List (Nat × Instr × Nat) := [(125, .iinc 5 1, 3), (128, .goto (-78), 3), (131, .aload_n 0, 1), (132, .iload_n 1, 1), (133, .iconst 1, 1), (134, .iadd, 1), (135, .iload_n 2, 1), (136, .iload_n 3, 1), (137, .bipush 10, 2), (139, .imul, 1), (140, .bipush 9, 2), (142, .iadd, 1), (143, .iload 4, 2), (145, .invokevirtual 56, 3), (148, .return_, 1)]
theorem zhdX4_search_125 : dzC ztdX4_search_125 125 (cX4_search.data.toList.drop 125) = true := by decide +kernel
theorem dX4_search_125 : decode cX4_search 125 = .ok (.iinc 5 1, 3) := dzr zhdX4_search_125 0 rfl
theorem dX4_search_128 : decode cX4_search 128 = .ok (.goto (-78), 3) := dzr zhdX4_search_125 1 rfl
theorem dX4_search_131 : decode cX4_search 131 = .ok (.aload_n 0, 1) := dzr zhdX4_search_125 2 rfl
theorem dX4_search_132 : decode cX4_search 132 = .ok (.iload_n 1, 1) := dzr zhdX4_search_125 3 rfl
theorem dX4_search_133 : decode cX4_search 133 = .ok (.iconst 1, 1) := dzr zhdX4_search_125 4 rfl
theorem dX4_search_134 : decode cX4_search 134 = .ok (.iadd, 1) := dzr zhdX4_search_125 5 rfl
theorem dX4_search_135 : decode cX4_search 135 = .ok (.iload_n 2, 1) := dzr zhdX4_search_125 6 rfl
theorem dX4_search_136 : decode cX4_search 136 = .ok (.iload_n 3, 1) := dzr zhdX4_search_125 7 rfl
theorem dX4_search_137 : decode cX4_search 137 = .ok (.bipush 10, 2) := dzr zhdX4_search_125 8 rfl
theorem dX4_search_139 : decode cX4_search 139 = .ok (.imul, 1) := dzr zhdX4_search_125 9 rfl
theorem dX4_search_140 : decode cX4_search 140 = .ok (.bipush 9, 2) := dzr zhdX4_search_125 10 rfl
theorem dX4_search_142 : decode cX4_search 142 = .ok (.iadd, 1) := dzr zhdX4_search_125 11 rfl
theorem dX4_search_143 : decode cX4_search 143 = .ok (.iload 4, 2) := dzr zhdX4_search_125 12 rfl
theorem dX4_search_145 : decode cX4_search 145 = .ok (.invokevirtual 56, 3) := dzr zhdX4_search_125 13 rfl
theorem dX4_search_148 : decode cX4_search 148 = .ok (.return_, 1) := dzr zhdX4_search_125 14 rfl
theorem ggX4_perform_X5_unlike : GoodIn wsX4_perform wsX5_unlike := (bg_up (bg_law (bi_wsL_law0_r26 _ (List.mem_of_getElem? (i := 21) rfl))))
theorem gX4_perform_X5_unlike : GoodIn wsX4_perform (wsV RX4 40 RX5 yX5_unlike wsX5_unlike) := goodIn_app (bg_up (bg_cons (bi_wsL_law0_r44 _ (List.mem_of_getElem? (i := 22) rfl)) (bg_cons (bi_wsL_law0_r26 _ (List.mem_of_getElem? (i := 19) rfl)) (bg_cons (bi_wsL_law0_r26 _ (List.mem_of_getElem? (i := 20) rfl)) (bg_cons (bi_wsL_law0_r2 _ (List.mem_of_getElem? (i := 4) rfl)) bg_nil))))) (bg_up (bg_law (bi_wsL_law0_r26 _ (List.mem_of_getElem? (i := 21) rfl))))
theorem ggX4_perform_X9_meet : GoodIn wsX4_perform wsX9_meet := (bg_up (bg_law (bi_wsL_law0_r29 _ (List.mem_of_getElem? (i := 8) rfl))))
theorem gX4_perform_X9_meet : GoodIn wsX4_perform (wsV RX4 66 RX9 yX9_meet wsX9_meet) := goodIn_app (bg_up (bg_cons (bi_wsL_law0_r46 _ (List.mem_of_getElem? (i := 19) rfl)) (bg_cons (bi_wsL_law0_r29 _ (List.mem_of_getElem? (i := 6) rfl)) (bg_cons (bi_wsL_law0_r29 _ (List.mem_of_getElem? (i := 7) rfl)) (bg_cons (bi_wsL_law0_r2 _ (List.mem_of_getElem? (i := 12) rfl)) bg_nil))))) (bg_up (bg_law (bi_wsL_law0_r29 _ (List.mem_of_getElem? (i := 8) rfl))))
def ztdX4_perform_0 : List (Nat × Instr × Nat) := [(0, .aload_n 0, 1), (1, .getfield 63, 3), (4, .istore_n 2, 1), (5, .aload_n 0, 1), (6, .getfield 22, 3), (9, .iconst 1, 1), (10, .isub, 1), (11, .istore_n 3, 1), (12, .iload_n 3, 1), (13, .ifCond .lt 48, 3), (16, .aload_n 0, 1), (17, .getfield 18, 3), (20, .aload_n 0, 1), (21, .getfield 9, 3), (24, .iload_n 3, 1), (25, .iaload, 1), (26, .iload_n 2, 1), (27, .bipush 10, 2), (29, .irem, 1), (30, .invokevirtual 40, 3), (33, .ifCond .eq 17, 3), (36, .aload_n 1, 1), (37, .aload_n 0, 1), (38, .getfield 9, 3)]
theorem zhdX4_perform_0 : dzC ztdX4_perform_0 0 (cX4_perform.data.toList.drop 0) = true := by decide +kernel
theorem dX4_perform_0 : decode cX4_perform 0 = .ok (.aload_n 0, 1) := dzr zhdX4_perform_0 0 rfl
theorem dX4_perform_1 : decode cX4_perform 1 = .ok (.getfield 63, 3) := dzr zhdX4_perform_0 1 rfl
theorem dX4_perform_4 : decode cX4_perform 4 = .ok (.istore_n 2, 1) := dzr zhdX4_perform_0 2 rfl
theorem dX4_perform_5 : decode cX4_perform 5 = .ok (.aload_n 0, 1) := dzr zhdX4_perform_0 3 rfl
theorem dX4_perform_6 : decode cX4_perform 6 = .ok (.getfield 22, 3) := dzr zhdX4_perform_0 4 rfl
theorem dX4_perform_9 : decode cX4_perform 9 = .ok (.iconst 1, 1) := dzr zhdX4_perform_0 5 rfl
theorem dX4_perform_10 : decode cX4_perform 10 = .ok (.isub, 1) := dzr zhdX4_perform_0 6 rfl
theorem dX4_perform_11 : decode cX4_perform 11 = .ok (.istore_n 3, 1) := dzr zhdX4_perform_0 7 rfl
theorem dX4_perform_12 : decode cX4_perform 12 = .ok (.iload_n 3, 1) := dzr zhdX4_perform_0 8 rfl
theorem dX4_perform_13 : decode cX4_perform 13 = .ok (.ifCond .lt 48, 3) := dzr zhdX4_perform_0 9 rfl
theorem dX4_perform_16 : decode cX4_perform 16 = .ok (.aload_n 0, 1) := dzr zhdX4_perform_0 10 rfl
theorem dX4_perform_17 : decode cX4_perform 17 = .ok (.getfield 18, 3) := dzr zhdX4_perform_0 11 rfl
theorem dX4_perform_20 : decode cX4_perform 20 = .ok (.aload_n 0, 1) := dzr zhdX4_perform_0 12 rfl
theorem dX4_perform_21 : decode cX4_perform 21 = .ok (.getfield 9, 3) := dzr zhdX4_perform_0 13 rfl
theorem dX4_perform_24 : decode cX4_perform 24 = .ok (.iload_n 3, 1) := dzr zhdX4_perform_0 14 rfl
theorem dX4_perform_25 : decode cX4_perform 25 = .ok (.iaload, 1) := dzr zhdX4_perform_0 15 rfl
theorem dX4_perform_26 : decode cX4_perform 26 = .ok (.iload_n 2, 1) := dzr zhdX4_perform_0 16 rfl
theorem dX4_perform_27 : decode cX4_perform 27 = .ok (.bipush 10, 2) := dzr zhdX4_perform_0 17 rfl
theorem dX4_perform_29 : decode cX4_perform 29 = .ok (.irem, 1) := dzr zhdX4_perform_0 18 rfl
theorem dX4_perform_30 : decode cX4_perform 30 = .ok (.invokevirtual 40, 3) := dzr zhdX4_perform_0 19 rfl
theorem dX4_perform_33 : decode cX4_perform 33 = .ok (.ifCond .eq 17, 3) := dzr zhdX4_perform_0 20 rfl
theorem dX4_perform_36 : decode cX4_perform 36 = .ok (.aload_n 1, 1) := dzr zhdX4_perform_0 21 rfl
theorem dX4_perform_37 : decode cX4_perform 37 = .ok (.aload_n 0, 1) := dzr zhdX4_perform_0 22 rfl
theorem dX4_perform_38 : decode cX4_perform 38 = .ok (.getfield 9, 3) := dzr zhdX4_perform_0 23 rfl
def ztdX4_perform_41 : List (Nat × Instr × Nat) := [(41, .iload_n 3, 1), (42, .iaload, 1), (43, .iload_n 2, 1), (44, .bipush 10, 2), (46, .irem, 1), (47, .invokevirtual 66, 3), (50, .iload_n 2, 1), (51, .bipush 10, 2), (53, .idiv, 1), (54, .istore_n 2, 1), (55, .iinc 3 (-1), 3), (58, .goto (-46), 3), (61, .return_, 1)]
theorem zhdX4_perform_41 : dzC ztdX4_perform_41 41 (cX4_perform.data.toList.drop 41) = true := by decide +kernel
theorem dX4_perform_41 : decode cX4_perform 41 = .ok (.iload_n 3, 1) := dzr zhdX4_perform_41 0 rfl
theorem dX4_perform_42 : decode cX4_perform 42 = .ok (.iaload, 1) := dzr zhdX4_perform_41 1 rfl
theorem dX4_perform_43 : decode cX4_perform 43 = .ok (.iload_n 2, 1) := dzr zhdX4_perform_41 2 rfl
theorem dX4_perform_44 : decode cX4_perform 44 = .ok (.bipush 10, 2) := dzr zhdX4_perform_41 3 rfl
theorem dX4_perform_46 : decode cX4_perform 46 = .ok (.irem, 1) := dzr zhdX4_perform_41 4 rfl
theorem dX4_perform_47 : decode cX4_perform 47 = .ok (.invokevirtual 66, 3) := dzr zhdX4_perform_41 5 rfl
theorem dX4_perform_50 : decode cX4_perform 50 = .ok (.iload_n 2, 1) := dzr zhdX4_perform_41 6 rfl
theorem dX4_perform_51 : decode cX4_perform 51 = .ok (.bipush 10, 2) := dzr zhdX4_perform_41 7 rfl
theorem dX4_perform_53 : decode cX4_perform 53 = .ok (.idiv, 1) := dzr zhdX4_perform_41 8 rfl
theorem dX4_perform_54 : decode cX4_perform 54 = .ok (.istore_n 2, 1) := dzr zhdX4_perform_41 9 rfl
theorem dX4_perform_55 : decode cX4_perform 55 = .ok (.iinc 3 (-1), 3) := dzr zhdX4_perform_41 10 rfl
theorem dX4_perform_58 : decode cX4_perform 58 = .ok (.goto (-46), 3) := dzr zhdX4_perform_41 11 rfl
theorem dX4_perform_61 : decode cX4_perform 61 = .ok (.return_, 1) := dzr zhdX4_perform_41 12 rfl
theorem dX5_init_7 : decode cX5_init 7 = .ok (.newarray .int, 2) := by decide +kernel
theorem dX5_init_15 : decode cX5_init 15 = .ok (.newarray .int, 2) := by decide +kernel
theorem dX5_init_23 : decode cX5_init 23 = .ok (.newarray .int, 2) := by decide +kernel
theorem dX5_init_31 : decode cX5_init 31 = .ok (.newarray .int, 2) := by decide +kernel
theorem dX5_init_38 : decode cX5_init 38 = .ok (.newarray .int, 2) := by decide +kernel
theorem dX5_init_45 : decode cX5_init 45 = .ok (.newarray .int, 2) := by decide +kernel
def ztdX5_init_0 : List (Nat × Instr × Nat) := [(0, .aload_n 0, 1), (1, .invokespecial 3, 3), (4, .aload_n 0, 1), (5, .bipush 6, 2), (9, .putfield 9, 3), (12, .aload_n 0, 1), (13, .bipush 6, 2), (17, .putfield 15, 3), (20, .aload_n 0, 1), (21, .bipush 6, 2), (25, .putfield 18, 3), (28, .aload_n 0, 1), (29, .bipush 6, 2), (33, .putfield 21, 3), (36, .aload_n 0, 1), (37, .iconst 5, 1), (40, .putfield 24, 3), (43, .aload_n 0, 1), (44, .iconst 5, 1), (47, .putfield 27, 3), (50, .return_, 1)]
theorem zhdX5_init_0 : dzC ztdX5_init_0 0 (cX5_init.data.toList.drop 0) = true := by decide +kernel
theorem dX5_init_0 : decode cX5_init 0 = .ok (.aload_n 0, 1) := dzr zhdX5_init_0 0 rfl
theorem dX5_init_1 : decode cX5_init 1 = .ok (.invokespecial 3, 3) := dzr zhdX5_init_0 1 rfl
theorem dX5_init_4 : decode cX5_init 4 = .ok (.aload_n 0, 1) := dzr zhdX5_init_0 2 rfl
theorem dX5_init_5 : decode cX5_init 5 = .ok (.bipush 6, 2) := dzr zhdX5_init_0 3 rfl
theorem dX5_init_9 : decode cX5_init 9 = .ok (.putfield 9, 3) := dzr zhdX5_init_0 4 rfl
theorem dX5_init_12 : decode cX5_init 12 = .ok (.aload_n 0, 1) := dzr zhdX5_init_0 5 rfl
theorem dX5_init_13 : decode cX5_init 13 = .ok (.bipush 6, 2) := dzr zhdX5_init_0 6 rfl
theorem dX5_init_17 : decode cX5_init 17 = .ok (.putfield 15, 3) := dzr zhdX5_init_0 7 rfl
theorem dX5_init_20 : decode cX5_init 20 = .ok (.aload_n 0, 1) := dzr zhdX5_init_0 8 rfl
theorem dX5_init_21 : decode cX5_init 21 = .ok (.bipush 6, 2) := dzr zhdX5_init_0 9 rfl
theorem dX5_init_25 : decode cX5_init 25 = .ok (.putfield 18, 3) := dzr zhdX5_init_0 10 rfl
theorem dX5_init_28 : decode cX5_init 28 = .ok (.aload_n 0, 1) := dzr zhdX5_init_0 11 rfl
theorem dX5_init_29 : decode cX5_init 29 = .ok (.bipush 6, 2) := dzr zhdX5_init_0 12 rfl
theorem dX5_init_33 : decode cX5_init 33 = .ok (.putfield 21, 3) := dzr zhdX5_init_0 13 rfl
theorem dX5_init_36 : decode cX5_init 36 = .ok (.aload_n 0, 1) := dzr zhdX5_init_0 14 rfl
theorem dX5_init_37 : decode cX5_init 37 = .ok (.iconst 5, 1) := dzr zhdX5_init_0 15 rfl
theorem dX5_init_40 : decode cX5_init 40 = .ok (.putfield 24, 3) := dzr zhdX5_init_0 16 rfl
theorem dX5_init_43 : decode cX5_init 43 = .ok (.aload_n 0, 1) := dzr zhdX5_init_0 17 rfl
theorem dX5_init_44 : decode cX5_init 44 = .ok (.iconst 5, 1) := dzr zhdX5_init_0 18 rfl
theorem dX5_init_47 : decode cX5_init 47 = .ok (.putfield 27, 3) := dzr zhdX5_init_0 19 rfl
theorem dX5_init_50 : decode cX5_init 50 = .ok (.return_, 1) := dzr zhdX5_init_0 20 rfl
def ztdX5_copyFrom_0 : List (Nat × Instr × Nat) := [(0, .aload_n 0, 1), (1, .aload_n 1, 1), (2, .getfield 30, 3), (5, .putfield 30, 3), (8, .aload_n 0, 1), (9, .aload_n 1, 1), (10, .getfield 34, 3), (13, .putfield 34, 3), (16, .aload_n 0, 1), (17, .aload_n 1, 1), (18, .getfield 37, 3), (21, .putfield 37, 3), (24, .aload_n 0, 1), (25, .aload_n 1, 1), (26, .getfield 40, 3), (29, .putfield 40, 3), (32, .aload_n 1, 1), (33, .getfield 9, 3), (36, .iconst 0, 1), (37, .aload_n 0, 1), (38, .getfield 9, 3), (41, .iconst 0, 1), (42, .bipush 6, 2), (44, .invokestatic 43, 3)]
theorem zhdX5_copyFrom_0 : dzC ztdX5_copyFrom_0 0 (cX5_copyFrom.data.toList.drop 0) = true := by decide +kernel
theorem dX5_copyFrom_0 : decode cX5_copyFrom 0 = .ok (.aload_n 0, 1) := dzr zhdX5_copyFrom_0 0 rfl
theorem dX5_copyFrom_1 : decode cX5_copyFrom 1 = .ok (.aload_n 1, 1) := dzr zhdX5_copyFrom_0 1 rfl
theorem dX5_copyFrom_2 : decode cX5_copyFrom 2 = .ok (.getfield 30, 3) := dzr zhdX5_copyFrom_0 2 rfl
theorem dX5_copyFrom_5 : decode cX5_copyFrom 5 = .ok (.putfield 30, 3) := dzr zhdX5_copyFrom_0 3 rfl
theorem dX5_copyFrom_8 : decode cX5_copyFrom 8 = .ok (.aload_n 0, 1) := dzr zhdX5_copyFrom_0 4 rfl
theorem dX5_copyFrom_9 : decode cX5_copyFrom 9 = .ok (.aload_n 1, 1) := dzr zhdX5_copyFrom_0 5 rfl
theorem dX5_copyFrom_10 : decode cX5_copyFrom 10 = .ok (.getfield 34, 3) := dzr zhdX5_copyFrom_0 6 rfl
theorem dX5_copyFrom_13 : decode cX5_copyFrom 13 = .ok (.putfield 34, 3) := dzr zhdX5_copyFrom_0 7 rfl
theorem dX5_copyFrom_16 : decode cX5_copyFrom 16 = .ok (.aload_n 0, 1) := dzr zhdX5_copyFrom_0 8 rfl
theorem dX5_copyFrom_17 : decode cX5_copyFrom 17 = .ok (.aload_n 1, 1) := dzr zhdX5_copyFrom_0 9 rfl
theorem dX5_copyFrom_18 : decode cX5_copyFrom 18 = .ok (.getfield 37, 3) := dzr zhdX5_copyFrom_0 10 rfl
theorem dX5_copyFrom_21 : decode cX5_copyFrom 21 = .ok (.putfield 37, 3) := dzr zhdX5_copyFrom_0 11 rfl
theorem dX5_copyFrom_24 : decode cX5_copyFrom 24 = .ok (.aload_n 0, 1) := dzr zhdX5_copyFrom_0 12 rfl
theorem dX5_copyFrom_25 : decode cX5_copyFrom 25 = .ok (.aload_n 1, 1) := dzr zhdX5_copyFrom_0 13 rfl
theorem dX5_copyFrom_26 : decode cX5_copyFrom 26 = .ok (.getfield 40, 3) := dzr zhdX5_copyFrom_0 14 rfl
theorem dX5_copyFrom_29 : decode cX5_copyFrom 29 = .ok (.putfield 40, 3) := dzr zhdX5_copyFrom_0 15 rfl
theorem dX5_copyFrom_32 : decode cX5_copyFrom 32 = .ok (.aload_n 1, 1) := dzr zhdX5_copyFrom_0 16 rfl
theorem dX5_copyFrom_33 : decode cX5_copyFrom 33 = .ok (.getfield 9, 3) := dzr zhdX5_copyFrom_0 17 rfl
theorem dX5_copyFrom_36 : decode cX5_copyFrom 36 = .ok (.iconst 0, 1) := dzr zhdX5_copyFrom_0 18 rfl
theorem dX5_copyFrom_37 : decode cX5_copyFrom 37 = .ok (.aload_n 0, 1) := dzr zhdX5_copyFrom_0 19 rfl
theorem dX5_copyFrom_38 : decode cX5_copyFrom 38 = .ok (.getfield 9, 3) := dzr zhdX5_copyFrom_0 20 rfl
theorem dX5_copyFrom_41 : decode cX5_copyFrom 41 = .ok (.iconst 0, 1) := dzr zhdX5_copyFrom_0 21 rfl
theorem dX5_copyFrom_42 : decode cX5_copyFrom 42 = .ok (.bipush 6, 2) := dzr zhdX5_copyFrom_0 22 rfl
theorem dX5_copyFrom_44 : decode cX5_copyFrom 44 = .ok (.invokestatic 43, 3) := dzr zhdX5_copyFrom_0 23 rfl
def ztdX5_copyFrom_47 : List (Nat × Instr × Nat) := [(47, .aload_n 1, 1), (48, .getfield 15, 3), (51, .iconst 0, 1), (52, .aload_n 0, 1), (53, .getfield 15, 3), (56, .iconst 0, 1), (57, .bipush 6, 2), (59, .invokestatic 43, 3), (62, .aload_n 1, 1), (63, .getfield 18, 3), (66, .iconst 0, 1), (67, .aload_n 0, 1), (68, .getfield 18, 3), (71, .iconst 0, 1), (72, .bipush 6, 2), (74, .invokestatic 43, 3), (77, .aload_n 1, 1), (78, .getfield 21, 3), (81, .iconst 0, 1), (82, .aload_n 0, 1), (83, .getfield 21, 3), (86, .iconst 0, 1), (87, .bipush 6, 2), (89, .invokestatic 43, 3)]
theorem zhdX5_copyFrom_47 : dzC ztdX5_copyFrom_47 47 (cX5_copyFrom.data.toList.drop 47) = true := by decide +kernel
theorem dX5_copyFrom_47 : decode cX5_copyFrom 47 = .ok (.aload_n 1, 1) := dzr zhdX5_copyFrom_47 0 rfl
theorem dX5_copyFrom_48 : decode cX5_copyFrom 48 = .ok (.getfield 15, 3) := dzr zhdX5_copyFrom_47 1 rfl
theorem dX5_copyFrom_51 : decode cX5_copyFrom 51 = .ok (.iconst 0, 1) := dzr zhdX5_copyFrom_47 2 rfl
theorem dX5_copyFrom_52 : decode cX5_copyFrom 52 = .ok (.aload_n 0, 1) := dzr zhdX5_copyFrom_47 3 rfl
theorem dX5_copyFrom_53 : decode cX5_copyFrom 53 = .ok (.getfield 15, 3) := dzr zhdX5_copyFrom_47 4 rfl
theorem dX5_copyFrom_56 : decode cX5_copyFrom 56 = .ok (.iconst 0, 1) := dzr zhdX5_copyFrom_47 5 rfl
theorem dX5_copyFrom_57 : decode cX5_copyFrom 57 = .ok (.bipush 6, 2) := dzr zhdX5_copyFrom_47 6 rfl
theorem dX5_copyFrom_59 : decode cX5_copyFrom 59 = .ok (.invokestatic 43, 3) := dzr zhdX5_copyFrom_47 7 rfl
theorem dX5_copyFrom_62 : decode cX5_copyFrom 62 = .ok (.aload_n 1, 1) := dzr zhdX5_copyFrom_47 8 rfl
theorem dX5_copyFrom_63 : decode cX5_copyFrom 63 = .ok (.getfield 18, 3) := dzr zhdX5_copyFrom_47 9 rfl
theorem dX5_copyFrom_66 : decode cX5_copyFrom 66 = .ok (.iconst 0, 1) := dzr zhdX5_copyFrom_47 10 rfl
theorem dX5_copyFrom_67 : decode cX5_copyFrom 67 = .ok (.aload_n 0, 1) := dzr zhdX5_copyFrom_47 11 rfl
theorem dX5_copyFrom_68 : decode cX5_copyFrom 68 = .ok (.getfield 18, 3) := dzr zhdX5_copyFrom_47 12 rfl
theorem dX5_copyFrom_71 : decode cX5_copyFrom 71 = .ok (.iconst 0, 1) := dzr zhdX5_copyFrom_47 13 rfl
theorem dX5_copyFrom_72 : decode cX5_copyFrom 72 = .ok (.bipush 6, 2) := dzr zhdX5_copyFrom_47 14 rfl
theorem dX5_copyFrom_74 : decode cX5_copyFrom 74 = .ok (.invokestatic 43, 3) := dzr zhdX5_copyFrom_47 15 rfl
theorem dX5_copyFrom_77 : decode cX5_copyFrom 77 = .ok (.aload_n 1, 1) := dzr zhdX5_copyFrom_47 16 rfl
theorem dX5_copyFrom_78 : decode cX5_copyFrom 78 = .ok (.getfield 21, 3) := dzr zhdX5_copyFrom_47 17 rfl
theorem dX5_copyFrom_81 : decode cX5_copyFrom 81 = .ok (.iconst 0, 1) := dzr zhdX5_copyFrom_47 18 rfl
theorem dX5_copyFrom_82 : decode cX5_copyFrom 82 = .ok (.aload_n 0, 1) := dzr zhdX5_copyFrom_47 19 rfl
theorem dX5_copyFrom_83 : decode cX5_copyFrom 83 = .ok (.getfield 21, 3) := dzr zhdX5_copyFrom_47 20 rfl
theorem dX5_copyFrom_86 : decode cX5_copyFrom 86 = .ok (.iconst 0, 1) := dzr zhdX5_copyFrom_47 21 rfl
theorem dX5_copyFrom_87 : decode cX5_copyFrom 87 = .ok (.bipush 6, 2) := dzr zhdX5_copyFrom_47 22 rfl
theorem dX5_copyFrom_89 : decode cX5_copyFrom 89 = .ok (.invokestatic 43, 3) := dzr zhdX5_copyFrom_47 23 rfl
def ztdX5_copyFrom_92 : List (Nat × Instr × Nat) := [(92, .aload_n 1, 1), (93, .getfield 24, 3), (96, .iconst 0, 1), (97, .aload_n 0, 1), (98, .getfield 24, 3), (101, .iconst 0, 1), (102, .iconst 5, 1), (103, .invokestatic 43, 3), (106, .aload_n 1, 1), (107, .getfield 27, 3), (110, .iconst 0, 1), (111, .aload_n 0, 1), (112, .getfield 27, 3), (115, .iconst 0, 1), (116, .iconst 5, 1), (117, .invokestatic 43, 3), (120, .return_, 1)]
theorem zhdX5_copyFrom_92 : dzC ztdX5_copyFrom_92 92 (cX5_copyFrom.data.toList.drop 92) = true := by decide +kernel
theorem dX5_copyFrom_92 : decode cX5_copyFrom 92 = .ok (.aload_n 1, 1) := dzr zhdX5_copyFrom_92 0 rfl
theorem dX5_copyFrom_93 : decode cX5_copyFrom 93 = .ok (.getfield 24, 3) := dzr zhdX5_copyFrom_92 1 rfl
theorem dX5_copyFrom_96 : decode cX5_copyFrom 96 = .ok (.iconst 0, 1) := dzr zhdX5_copyFrom_92 2 rfl
theorem dX5_copyFrom_97 : decode cX5_copyFrom 97 = .ok (.aload_n 0, 1) := dzr zhdX5_copyFrom_92 3 rfl
theorem dX5_copyFrom_98 : decode cX5_copyFrom 98 = .ok (.getfield 24, 3) := dzr zhdX5_copyFrom_92 4 rfl
theorem dX5_copyFrom_101 : decode cX5_copyFrom 101 = .ok (.iconst 0, 1) := dzr zhdX5_copyFrom_92 5 rfl
theorem dX5_copyFrom_102 : decode cX5_copyFrom 102 = .ok (.iconst 5, 1) := dzr zhdX5_copyFrom_92 6 rfl
theorem dX5_copyFrom_103 : decode cX5_copyFrom 103 = .ok (.invokestatic 43, 3) := dzr zhdX5_copyFrom_92 7 rfl
theorem dX5_copyFrom_106 : decode cX5_copyFrom 106 = .ok (.aload_n 1, 1) := dzr zhdX5_copyFrom_92 8 rfl
theorem dX5_copyFrom_107 : decode cX5_copyFrom 107 = .ok (.getfield 27, 3) := dzr zhdX5_copyFrom_92 9 rfl
theorem dX5_copyFrom_110 : decode cX5_copyFrom 110 = .ok (.iconst 0, 1) := dzr zhdX5_copyFrom_92 10 rfl
theorem dX5_copyFrom_111 : decode cX5_copyFrom 111 = .ok (.aload_n 0, 1) := dzr zhdX5_copyFrom_92 11 rfl
theorem dX5_copyFrom_112 : decode cX5_copyFrom 112 = .ok (.getfield 27, 3) := dzr zhdX5_copyFrom_92 12 rfl
theorem dX5_copyFrom_115 : decode cX5_copyFrom 115 = .ok (.iconst 0, 1) := dzr zhdX5_copyFrom_92 13 rfl
theorem dX5_copyFrom_116 : decode cX5_copyFrom 116 = .ok (.iconst 5, 1) := dzr zhdX5_copyFrom_92 14 rfl
theorem dX5_copyFrom_117 : decode cX5_copyFrom 117 = .ok (.invokestatic 43, 3) := dzr zhdX5_copyFrom_92 15 rfl
theorem dX5_copyFrom_120 : decode cX5_copyFrom 120 = .ok (.return_, 1) := dzr zhdX5_copyFrom_92 16 rfl
def ztdX5_hasGlove_0 : List (Nat × Instr × Nat) := [(0, .iload_n 1, 1), (1, .ifCond .lt 15, 3), (4, .iload_n 1, 1), (5, .aload_n 0, 1), (6, .getfield 30, 3), (9, .if_icmp .ge 7, 3), (12, .iconst 1, 1), (13, .goto 4, 3), (16, .iconst 0, 1), (17, .ireturn, 1)]
theorem zhdX5_hasGlove_0 : dzC ztdX5_hasGlove_0 0 (cX5_hasGlove.data.toList.drop 0) = true := by decide +kernel
theorem dX5_hasGlove_0 : decode cX5_hasGlove 0 = .ok (.iload_n 1, 1) := dzr zhdX5_hasGlove_0 0 rfl
theorem dX5_hasGlove_1 : decode cX5_hasGlove 1 = .ok (.ifCond .lt 15, 3) := dzr zhdX5_hasGlove_0 1 rfl
theorem dX5_hasGlove_4 : decode cX5_hasGlove 4 = .ok (.iload_n 1, 1) := dzr zhdX5_hasGlove_0 2 rfl
theorem dX5_hasGlove_5 : decode cX5_hasGlove 5 = .ok (.aload_n 0, 1) := dzr zhdX5_hasGlove_0 3 rfl
theorem dX5_hasGlove_6 : decode cX5_hasGlove 6 = .ok (.getfield 30, 3) := dzr zhdX5_hasGlove_0 4 rfl
theorem dX5_hasGlove_9 : decode cX5_hasGlove 9 = .ok (.if_icmp .ge 7, 3) := dzr zhdX5_hasGlove_0 5 rfl
theorem dX5_hasGlove_12 : decode cX5_hasGlove 12 = .ok (.iconst 1, 1) := dzr zhdX5_hasGlove_0 6 rfl
theorem dX5_hasGlove_13 : decode cX5_hasGlove 13 = .ok (.goto 4, 3) := dzr zhdX5_hasGlove_0 7 rfl
theorem dX5_hasGlove_16 : decode cX5_hasGlove 16 = .ok (.iconst 0, 1) := dzr zhdX5_hasGlove_0 8 rfl
theorem dX5_hasGlove_17 : decode cX5_hasGlove 17 = .ok (.ireturn, 1) := dzr zhdX5_hasGlove_0 9 rfl
def ztdX5_hasMatter_0 : List (Nat × Instr × Nat) := [(0, .iload_n 1, 1), (1, .ifCond .lt 15, 3), (4, .iload_n 1, 1), (5, .aload_n 0, 1), (6, .getfield 34, 3), (9, .if_icmp .ge 7, 3), (12, .iconst 1, 1), (13, .goto 4, 3), (16, .iconst 0, 1), (17, .ireturn, 1)]
theorem zhdX5_hasMatter_0 : dzC ztdX5_hasMatter_0 0 (cX5_hasMatter.data.toList.drop 0) = true := by decide +kernel
theorem dX5_hasMatter_0 : decode cX5_hasMatter 0 = .ok (.iload_n 1, 1) := dzr zhdX5_hasMatter_0 0 rfl
theorem dX5_hasMatter_1 : decode cX5_hasMatter 1 = .ok (.ifCond .lt 15, 3) := dzr zhdX5_hasMatter_0 1 rfl
theorem dX5_hasMatter_4 : decode cX5_hasMatter 4 = .ok (.iload_n 1, 1) := dzr zhdX5_hasMatter_0 2 rfl
theorem dX5_hasMatter_5 : decode cX5_hasMatter 5 = .ok (.aload_n 0, 1) := dzr zhdX5_hasMatter_0 3 rfl
theorem dX5_hasMatter_6 : decode cX5_hasMatter 6 = .ok (.getfield 34, 3) := dzr zhdX5_hasMatter_0 4 rfl
theorem dX5_hasMatter_9 : decode cX5_hasMatter 9 = .ok (.if_icmp .ge 7, 3) := dzr zhdX5_hasMatter_0 5 rfl
theorem dX5_hasMatter_12 : decode cX5_hasMatter 12 = .ok (.iconst 1, 1) := dzr zhdX5_hasMatter_0 6 rfl
theorem dX5_hasMatter_13 : decode cX5_hasMatter 13 = .ok (.goto 4, 3) := dzr zhdX5_hasMatter_0 7 rfl
theorem dX5_hasMatter_16 : decode cX5_hasMatter 16 = .ok (.iconst 0, 1) := dzr zhdX5_hasMatter_0 8 rfl
theorem dX5_hasMatter_17 : decode cX5_hasMatter 17 = .ok (.ireturn, 1) := dzr zhdX5_hasMatter_0 9 rfl
theorem ggX5_unlike_X5_hasGlove : GoodIn wsX5_unlike wsX5_hasGlove := (bg_up (bg_law (bi_wsL_law0_r24 _ (List.mem_of_getElem? (i := 10) rfl))))
theorem gX5_unlike_X5_hasGlove : GoodIn wsX5_unlike (wsV RX5 49 RX5 yX5_hasGlove wsX5_hasGlove) := goodIn_app (bg_up (bg_cons (bi_wsL_law0_r26 _ (List.mem_of_getElem? (i := 22) rfl)) (bg_cons (bi_wsL_law0_r24 _ (List.mem_of_getElem? (i := 8) rfl)) (bg_cons (bi_wsL_law0_r24 _ (List.mem_of_getElem? (i := 9) rfl)) (bg_cons (bi_wsL_law0_r2 _ (List.mem_of_getElem? (i := 4) rfl)) bg_nil))))) (bg_up (bg_law (bi_wsL_law0_r24 _ (List.mem_of_getElem? (i := 10) rfl))))
def ztdX5_unlike_0 : List (Nat × Instr × Nat) := [(0, .aload_n 0, 1), (1, .iload_n 1, 1), (2, .invokevirtual 49, 3), (5, .ifCond .eq 30, 3), (8, .aload_n 0, 1), (9, .iload_n 2, 1), (10, .invokevirtual 49, 3), (13, .ifCond .eq 22, 3), (16, .aload_n 0, 1), (17, .getfield 9, 3), (20, .iload_n 1, 1), (21, .iaload, 1), (22, .aload_n 0, 1), (23, .getfield 9, 3), (26, .iload_n 2, 1), (27, .iaload, 1), (28, .if_icmp .eq 7, 3), (31, .iconst 1, 1), (32, .goto 4, 3), (35, .iconst 0, 1), (36, .ireturn, 1)]
theorem zhdX5_unlike_0 : dzC ztdX5_unlike_0 0 (cX5_unlike.data.toList.drop 0) = true := by decide +kernel
theorem dX5_unlike_0 : decode cX5_unlike 0 = .ok (.aload_n 0, 1) := dzr zhdX5_unlike_0 0 rfl
theorem dX5_unlike_1 : decode cX5_unlike 1 = .ok (.iload_n 1, 1) := dzr zhdX5_unlike_0 1 rfl
theorem dX5_unlike_2 : decode cX5_unlike 2 = .ok (.invokevirtual 49, 3) := dzr zhdX5_unlike_0 2 rfl
theorem dX5_unlike_5 : decode cX5_unlike 5 = .ok (.ifCond .eq 30, 3) := dzr zhdX5_unlike_0 3 rfl
theorem dX5_unlike_8 : decode cX5_unlike 8 = .ok (.aload_n 0, 1) := dzr zhdX5_unlike_0 4 rfl
theorem dX5_unlike_9 : decode cX5_unlike 9 = .ok (.iload_n 2, 1) := dzr zhdX5_unlike_0 5 rfl
theorem dX5_unlike_10 : decode cX5_unlike 10 = .ok (.invokevirtual 49, 3) := dzr zhdX5_unlike_0 6 rfl
theorem dX5_unlike_13 : decode cX5_unlike 13 = .ok (.ifCond .eq 22, 3) := dzr zhdX5_unlike_0 7 rfl
theorem dX5_unlike_16 : decode cX5_unlike 16 = .ok (.aload_n 0, 1) := dzr zhdX5_unlike_0 8 rfl
theorem dX5_unlike_17 : decode cX5_unlike 17 = .ok (.getfield 9, 3) := dzr zhdX5_unlike_0 9 rfl
theorem dX5_unlike_20 : decode cX5_unlike 20 = .ok (.iload_n 1, 1) := dzr zhdX5_unlike_0 10 rfl
theorem dX5_unlike_21 : decode cX5_unlike 21 = .ok (.iaload, 1) := dzr zhdX5_unlike_0 11 rfl
theorem dX5_unlike_22 : decode cX5_unlike 22 = .ok (.aload_n 0, 1) := dzr zhdX5_unlike_0 12 rfl
theorem dX5_unlike_23 : decode cX5_unlike 23 = .ok (.getfield 9, 3) := dzr zhdX5_unlike_0 13 rfl
theorem dX5_unlike_26 : decode cX5_unlike 26 = .ok (.iload_n 2, 1) := dzr zhdX5_unlike_0 14 rfl
theorem dX5_unlike_27 : decode cX5_unlike 27 = .ok (.iaload, 1) := dzr zhdX5_unlike_0 15 rfl
theorem dX5_unlike_28 : decode cX5_unlike 28 = .ok (.if_icmp .eq 7, 3) := dzr zhdX5_unlike_0 16 rfl
theorem dX5_unlike_31 : decode cX5_unlike 31 = .ok (.iconst 1, 1) := dzr zhdX5_unlike_0 17 rfl
theorem dX5_unlike_32 : decode cX5_unlike 32 = .ok (.goto 4, 3) := dzr zhdX5_unlike_0 18 rfl
theorem dX5_unlike_35 : decode cX5_unlike 35 = .ok (.iconst 0, 1) := dzr zhdX5_unlike_0 19 rfl
theorem dX5_unlike_36 : decode cX5_unlike 36 = .ok (.ireturn, 1) := dzr zhdX5_unlike_0 20 rfl
def ztdX5_sameAim_0 : List (Nat × Instr × Nat) := [(0, .aload_n 0, 1), (1, .getfield 21, 3), (4, .iload_n 1, 1), (5, .iaload, 1), (6, .aload_n 0, 1), (7, .getfield 21, 3), (10, .iload_n 2, 1), (11, .iaload, 1), (12, .if_icmp .ne 7, 3), (15, .iconst 1, 1), (16, .goto 4, 3), (19, .iconst 0, 1), (20, .ireturn, 1)]
theorem zhdX5_sameAim_0 : dzC ztdX5_sameAim_0 0 (cX5_sameAim.data.toList.drop 0) = true := by decide +kernel
theorem dX5_sameAim_0 : decode cX5_sameAim 0 = .ok (.aload_n 0, 1) := dzr zhdX5_sameAim_0 0 rfl
theorem dX5_sameAim_1 : decode cX5_sameAim 1 = .ok (.getfield 21, 3) := dzr zhdX5_sameAim_0 1 rfl
theorem dX5_sameAim_4 : decode cX5_sameAim 4 = .ok (.iload_n 1, 1) := dzr zhdX5_sameAim_0 2 rfl
theorem dX5_sameAim_5 : decode cX5_sameAim 5 = .ok (.iaload, 1) := dzr zhdX5_sameAim_0 3 rfl
theorem dX5_sameAim_6 : decode cX5_sameAim 6 = .ok (.aload_n 0, 1) := dzr zhdX5_sameAim_0 4 rfl
theorem dX5_sameAim_7 : decode cX5_sameAim 7 = .ok (.getfield 21, 3) := dzr zhdX5_sameAim_0 5 rfl
theorem dX5_sameAim_10 : decode cX5_sameAim 10 = .ok (.iload_n 2, 1) := dzr zhdX5_sameAim_0 6 rfl
theorem dX5_sameAim_11 : decode cX5_sameAim 11 = .ok (.iaload, 1) := dzr zhdX5_sameAim_0 7 rfl
theorem dX5_sameAim_12 : decode cX5_sameAim 12 = .ok (.if_icmp .ne 7, 3) := dzr zhdX5_sameAim_0 8 rfl
theorem dX5_sameAim_15 : decode cX5_sameAim 15 = .ok (.iconst 1, 1) := dzr zhdX5_sameAim_0 9 rfl
theorem dX5_sameAim_16 : decode cX5_sameAim 16 = .ok (.goto 4, 3) := dzr zhdX5_sameAim_0 10 rfl
theorem dX5_sameAim_19 : decode cX5_sameAim 19 = .ok (.iconst 0, 1) := dzr zhdX5_sameAim_0 11 rfl
theorem dX5_sameAim_20 : decode cX5_sameAim 20 = .ok (.ireturn, 1) := dzr zhdX5_sameAim_0 12 rfl
def ztdX5_sizeOf_0 : List (Nat × Instr × Nat) := [(0, .iconst 0, 1), (1, .istore_n 2, 1), (2, .iconst 0, 1), (3, .istore_n 3, 1), (4, .iload_n 3, 1), (5, .aload_n 0, 1), (6, .getfield 30, 3), (9, .if_icmp .ge 22, 3), (12, .aload_n 0, 1), (13, .getfield 9, 3), (16, .iload_n 3, 1), (17, .iaload, 1), (18, .iload_n 1, 1), (19, .if_icmp .ne 6, 3), (22, .iinc 2 1, 3), (25, .iinc 3 1, 3), (28, .goto (-24), 3), (31, .iload_n 2, 1), (32, .ireturn, 1)]
theorem zhdX5_sizeOf_0 : dzC ztdX5_sizeOf_0 0 (cX5_sizeOf.data.toList.drop 0) = true := by decide +kernel
theorem dX5_sizeOf_0 : decode cX5_sizeOf 0 = .ok (.iconst 0, 1) := dzr zhdX5_sizeOf_0 0 rfl
theorem dX5_sizeOf_1 : decode cX5_sizeOf 1 = .ok (.istore_n 2, 1) := dzr zhdX5_sizeOf_0 1 rfl
theorem dX5_sizeOf_2 : decode cX5_sizeOf 2 = .ok (.iconst 0, 1) := dzr zhdX5_sizeOf_0 2 rfl
theorem dX5_sizeOf_3 : decode cX5_sizeOf 3 = .ok (.istore_n 3, 1) := dzr zhdX5_sizeOf_0 3 rfl
theorem dX5_sizeOf_4 : decode cX5_sizeOf 4 = .ok (.iload_n 3, 1) := dzr zhdX5_sizeOf_0 4 rfl
theorem dX5_sizeOf_5 : decode cX5_sizeOf 5 = .ok (.aload_n 0, 1) := dzr zhdX5_sizeOf_0 5 rfl
theorem dX5_sizeOf_6 : decode cX5_sizeOf 6 = .ok (.getfield 30, 3) := dzr zhdX5_sizeOf_0 6 rfl
theorem dX5_sizeOf_9 : decode cX5_sizeOf 9 = .ok (.if_icmp .ge 22, 3) := dzr zhdX5_sizeOf_0 7 rfl
theorem dX5_sizeOf_12 : decode cX5_sizeOf 12 = .ok (.aload_n 0, 1) := dzr zhdX5_sizeOf_0 8 rfl
theorem dX5_sizeOf_13 : decode cX5_sizeOf 13 = .ok (.getfield 9, 3) := dzr zhdX5_sizeOf_0 9 rfl
theorem dX5_sizeOf_16 : decode cX5_sizeOf 16 = .ok (.iload_n 3, 1) := dzr zhdX5_sizeOf_0 10 rfl
theorem dX5_sizeOf_17 : decode cX5_sizeOf 17 = .ok (.iaload, 1) := dzr zhdX5_sizeOf_0 11 rfl
theorem dX5_sizeOf_18 : decode cX5_sizeOf 18 = .ok (.iload_n 1, 1) := dzr zhdX5_sizeOf_0 12 rfl
theorem dX5_sizeOf_19 : decode cX5_sizeOf 19 = .ok (.if_icmp .ne 6, 3) := dzr zhdX5_sizeOf_0 13 rfl
theorem dX5_sizeOf_22 : decode cX5_sizeOf 22 = .ok (.iinc 2 1, 3) := dzr zhdX5_sizeOf_0 14 rfl
theorem dX5_sizeOf_25 : decode cX5_sizeOf 25 = .ok (.iinc 3 1, 3) := dzr zhdX5_sizeOf_0 15 rfl
theorem dX5_sizeOf_28 : decode cX5_sizeOf 28 = .ok (.goto (-24), 3) := dzr zhdX5_sizeOf_0 16 rfl
theorem dX5_sizeOf_31 : decode cX5_sizeOf 31 = .ok (.iload_n 2, 1) := dzr zhdX5_sizeOf_0 17 rfl
theorem dX5_sizeOf_32 : decode cX5_sizeOf 32 = .ok (.ireturn, 1) := dzr zhdX5_sizeOf_0 18 rfl
def ztdX5_nth_0 : List (Nat × Instr × Nat) := [(0, .iconst 0, 1), (1, .istore_n 3, 1), (2, .iconst 0, 1), (3, .istore 4, 2), (5, .iload 4, 2), (7, .aload_n 0, 1), (8, .getfield 30, 3), (11, .if_icmp .ge 31, 3), (14, .aload_n 0, 1), (15, .getfield 9, 3), (18, .iload 4, 2), (20, .iaload, 1), (21, .iload_n 1, 1), (22, .if_icmp .ne 14, 3), (25, .iload_n 3, 1), (26, .iload_n 2, 1), (27, .if_icmp .ne 6, 3), (30, .iload 4, 2), (32, .ireturn, 1), (33, .iinc 3 1, 3), (36, .iinc 4 1, 3), (39, .goto (-34), 3), (42, .iconst (-1), 1), (43, .ireturn, 1)]
theorem zhdX5_nth_0 : dzC ztdX5_nth_0 0 (cX5_nth.data.toList.drop 0) = true := by decide +kernel
theorem dX5_nth_0 : decode cX5_nth 0 = .ok (.iconst 0, 1) := dzr zhdX5_nth_0 0 rfl
theorem dX5_nth_1 : decode cX5_nth 1 = .ok (.istore_n 3, 1) := dzr zhdX5_nth_0 1 rfl
theorem dX5_nth_2 : decode cX5_nth 2 = .ok (.iconst 0, 1) := dzr zhdX5_nth_0 2 rfl
theorem dX5_nth_3 : decode cX5_nth 3 = .ok (.istore 4, 2) := dzr zhdX5_nth_0 3 rfl
theorem dX5_nth_5 : decode cX5_nth 5 = .ok (.iload 4, 2) := dzr zhdX5_nth_0 4 rfl
theorem dX5_nth_7 : decode cX5_nth 7 = .ok (.aload_n 0, 1) := dzr zhdX5_nth_0 5 rfl
theorem dX5_nth_8 : decode cX5_nth 8 = .ok (.getfield 30, 3) := dzr zhdX5_nth_0 6 rfl
theorem dX5_nth_11 : decode cX5_nth 11 = .ok (.if_icmp .ge 31, 3) := dzr zhdX5_nth_0 7 rfl
theorem dX5_nth_14 : decode cX5_nth 14 = .ok (.aload_n 0, 1) := dzr zhdX5_nth_0 8 rfl
theorem dX5_nth_15 : decode cX5_nth 15 = .ok (.getfield 9, 3) := dzr zhdX5_nth_0 9 rfl
theorem dX5_nth_18 : decode cX5_nth 18 = .ok (.iload 4, 2) := dzr zhdX5_nth_0 10 rfl
theorem dX5_nth_20 : decode cX5_nth 20 = .ok (.iaload, 1) := dzr zhdX5_nth_0 11 rfl
theorem dX5_nth_21 : decode cX5_nth 21 = .ok (.iload_n 1, 1) := dzr zhdX5_nth_0 12 rfl
theorem dX5_nth_22 : decode cX5_nth 22 = .ok (.if_icmp .ne 14, 3) := dzr zhdX5_nth_0 13 rfl
theorem dX5_nth_25 : decode cX5_nth 25 = .ok (.iload_n 3, 1) := dzr zhdX5_nth_0 14 rfl
theorem dX5_nth_26 : decode cX5_nth 26 = .ok (.iload_n 2, 1) := dzr zhdX5_nth_0 15 rfl
theorem dX5_nth_27 : decode cX5_nth 27 = .ok (.if_icmp .ne 6, 3) := dzr zhdX5_nth_0 16 rfl
theorem dX5_nth_30 : decode cX5_nth 30 = .ok (.iload 4, 2) := dzr zhdX5_nth_0 17 rfl
theorem dX5_nth_32 : decode cX5_nth 32 = .ok (.ireturn, 1) := dzr zhdX5_nth_0 18 rfl
theorem dX5_nth_33 : decode cX5_nth 33 = .ok (.iinc 3 1, 3) := dzr zhdX5_nth_0 19 rfl
theorem dX5_nth_36 : decode cX5_nth 36 = .ok (.iinc 4 1, 3) := dzr zhdX5_nth_0 20 rfl
theorem dX5_nth_39 : decode cX5_nth 39 = .ok (.goto (-34), 3) := dzr zhdX5_nth_0 21 rfl
theorem dX5_nth_42 : decode cX5_nth 42 = .ok (.iconst (-1), 1) := dzr zhdX5_nth_0 22 rfl
theorem dX5_nth_43 : decode cX5_nth 43 = .ok (.ireturn, 1) := dzr zhdX5_nth_0 23 rfl
def ztdX5_heaviest_0 : List (Nat × Instr × Nat) := [(0, .iconst (-1), 1), (1, .istore_n 1, 1), (2, .iconst (-1), 1), (3, .istore_n 2, 1), (4, .iconst 0, 1), (5, .istore_n 3, 1), (6, .iload_n 3, 1), (7, .aload_n 0, 1), (8, .getfield 34, 3), (11, .if_icmp .ge 28, 3), (14, .aload_n 0, 1), (15, .getfield 24, 3), (18, .iload_n 3, 1), (19, .iaload, 1), (20, .iload_n 2, 1), (21, .if_icmp .le 12, 3), (24, .aload_n 0, 1), (25, .getfield 24, 3), (28, .iload_n 3, 1), (29, .iaload, 1), (30, .istore_n 2, 1), (31, .iload_n 3, 1), (32, .istore_n 1, 1), (33, .iinc 3 1, 3)]
theorem zhdX5_heaviest_0 : dzC ztdX5_heaviest_0 0 (cX5_heaviest.data.toList.drop 0) = true := by decide +kernel
theorem dX5_heaviest_0 : decode cX5_heaviest 0 = .ok (.iconst (-1), 1) := dzr zhdX5_heaviest_0 0 rfl
theorem dX5_heaviest_1 : decode cX5_heaviest 1 = .ok (.istore_n 1, 1) := dzr zhdX5_heaviest_0 1 rfl
theorem dX5_heaviest_2 : decode cX5_heaviest 2 = .ok (.iconst (-1), 1) := dzr zhdX5_heaviest_0 2 rfl
theorem dX5_heaviest_3 : decode cX5_heaviest 3 = .ok (.istore_n 2, 1) := dzr zhdX5_heaviest_0 3 rfl
theorem dX5_heaviest_4 : decode cX5_heaviest 4 = .ok (.iconst 0, 1) := dzr zhdX5_heaviest_0 4 rfl
theorem dX5_heaviest_5 : decode cX5_heaviest 5 = .ok (.istore_n 3, 1) := dzr zhdX5_heaviest_0 5 rfl
theorem dX5_heaviest_6 : decode cX5_heaviest 6 = .ok (.iload_n 3, 1) := dzr zhdX5_heaviest_0 6 rfl
theorem dX5_heaviest_7 : decode cX5_heaviest 7 = .ok (.aload_n 0, 1) := dzr zhdX5_heaviest_0 7 rfl
theorem dX5_heaviest_8 : decode cX5_heaviest 8 = .ok (.getfield 34, 3) := dzr zhdX5_heaviest_0 8 rfl
theorem dX5_heaviest_11 : decode cX5_heaviest 11 = .ok (.if_icmp .ge 28, 3) := dzr zhdX5_heaviest_0 9 rfl
theorem dX5_heaviest_14 : decode cX5_heaviest 14 = .ok (.aload_n 0, 1) := dzr zhdX5_heaviest_0 10 rfl
theorem dX5_heaviest_15 : decode cX5_heaviest 15 = .ok (.getfield 24, 3) := dzr zhdX5_heaviest_0 11 rfl
theorem dX5_heaviest_18 : decode cX5_heaviest 18 = .ok (.iload_n 3, 1) := dzr zhdX5_heaviest_0 12 rfl
theorem dX5_heaviest_19 : decode cX5_heaviest 19 = .ok (.iaload, 1) := dzr zhdX5_heaviest_0 13 rfl
theorem dX5_heaviest_20 : decode cX5_heaviest 20 = .ok (.iload_n 2, 1) := dzr zhdX5_heaviest_0 14 rfl
theorem dX5_heaviest_21 : decode cX5_heaviest 21 = .ok (.if_icmp .le 12, 3) := dzr zhdX5_heaviest_0 15 rfl
theorem dX5_heaviest_24 : decode cX5_heaviest 24 = .ok (.aload_n 0, 1) := dzr zhdX5_heaviest_0 16 rfl
theorem dX5_heaviest_25 : decode cX5_heaviest 25 = .ok (.getfield 24, 3) := dzr zhdX5_heaviest_0 17 rfl
theorem dX5_heaviest_28 : decode cX5_heaviest 28 = .ok (.iload_n 3, 1) := dzr zhdX5_heaviest_0 18 rfl
theorem dX5_heaviest_29 : decode cX5_heaviest 29 = .ok (.iaload, 1) := dzr zhdX5_heaviest_0 19 rfl
theorem dX5_heaviest_30 : decode cX5_heaviest 30 = .ok (.istore_n 2, 1) := dzr zhdX5_heaviest_0 20 rfl
theorem dX5_heaviest_31 : decode cX5_heaviest 31 = .ok (.iload_n 3, 1) := dzr zhdX5_heaviest_0 21 rfl
theorem dX5_heaviest_32 : decode cX5_heaviest 32 = .ok (.istore_n 1, 1) := dzr zhdX5_heaviest_0 22 rfl
theorem dX5_heaviest_33 : decode cX5_heaviest 33 = .ok (.iinc 3 1, 3) := dzr zhdX5_heaviest_0 23 rfl
def ztdX5_heaviest_36 : List (Nat × Instr × Nat) := [(36, .goto (-30), 3), (39, .iload_n 1, 1), (40, .ireturn, 1)]
theorem zhdX5_heaviest_36 : dzC ztdX5_heaviest_36 36 (cX5_heaviest.data.toList.drop 36) = true := by decide +kernel
theorem dX5_heaviest_36 : decode cX5_heaviest 36 = .ok (.goto (-30), 3) := dzr zhdX5_heaviest_36 0 rfl
theorem dX5_heaviest_39 : decode cX5_heaviest 39 = .ok (.iload_n 1, 1) := dzr zhdX5_heaviest_36 1 rfl
theorem dX5_heaviest_40 : decode cX5_heaviest 40 = .ok (.ireturn, 1) := dzr zhdX5_heaviest_36 2 rfl
theorem ggX6_init_X5_init : GoodIn wsX6_init wsX5_init := (bg_up (bg_law (bi_wsL_law0_r4 _ (List.mem_of_getElem? (i := 7) rfl))))
theorem gX6_init_X5_init_n11 : GoodIn wsX6_init (wsX5_init) := (bg_up (bg_law (bi_wsL_law0_r4 _ (List.mem_of_getElem? (i := 7) rfl))))
theorem dX6_init_17 : decode cX6_init 17 = .ok (.newarray .int, 2) := by decide +kernel
def ztdX6_init_0 : List (Nat × Instr × Nat) := [(0, .aload_n 0, 1), (1, .invokespecial 3, 3), (4, .aload_n 0, 1), (5, .new 9, 3), (8, .dup, 1), (9, .invokespecial 11, 3), (12, .putfield 12, 3), (15, .aload_n 0, 1), (16, .iconst 4, 1), (19, .putfield 18, 3), (22, .aload_n 0, 1), (23, .aload_n 1, 1), (24, .putfield 22, 3), (27, .return_, 1)]
theorem zhdX6_init_0 : dzC ztdX6_init_0 0 (cX6_init.data.toList.drop 0) = true := by decide +kernel
theorem dX6_init_0 : decode cX6_init 0 = .ok (.aload_n 0, 1) := dzr zhdX6_init_0 0 rfl
theorem dX6_init_1 : decode cX6_init 1 = .ok (.invokespecial 3, 3) := dzr zhdX6_init_0 1 rfl
theorem dX6_init_4 : decode cX6_init 4 = .ok (.aload_n 0, 1) := dzr zhdX6_init_0 2 rfl
theorem dX6_init_5 : decode cX6_init 5 = .ok (.new 9, 3) := dzr zhdX6_init_0 3 rfl
theorem dX6_init_8 : decode cX6_init 8 = .ok (.dup, 1) := dzr zhdX6_init_0 4 rfl
theorem dX6_init_9 : decode cX6_init 9 = .ok (.invokespecial 11, 3) := dzr zhdX6_init_0 5 rfl
theorem dX6_init_12 : decode cX6_init 12 = .ok (.putfield 12, 3) := dzr zhdX6_init_0 6 rfl
theorem dX6_init_15 : decode cX6_init 15 = .ok (.aload_n 0, 1) := dzr zhdX6_init_0 7 rfl
theorem dX6_init_16 : decode cX6_init 16 = .ok (.iconst 4, 1) := dzr zhdX6_init_0 8 rfl
theorem dX6_init_19 : decode cX6_init 19 = .ok (.putfield 18, 3) := dzr zhdX6_init_0 9 rfl
theorem dX6_init_22 : decode cX6_init 22 = .ok (.aload_n 0, 1) := dzr zhdX6_init_0 10 rfl
theorem dX6_init_23 : decode cX6_init 23 = .ok (.aload_n 1, 1) := dzr zhdX6_init_0 11 rfl
theorem dX6_init_24 : decode cX6_init 24 = .ok (.putfield 22, 3) := dzr zhdX6_init_0 12 rfl
theorem dX6_init_27 : decode cX6_init 27 = .ok (.return_, 1) := dzr zhdX6_init_0 13 rfl
theorem ggX6_readsAll_X6_readsClause : GoodIn wsX6_readsAll wsX6_readsClause := (bg_up (bg_law (bi_wsL_law0_r10 _ (List.mem_of_getElem? (i := 3) rfl))))
theorem gX6_readsAll_X6_readsClause : GoodIn wsX6_readsAll (wsV RX6 51 RX6 yX6_readsClause wsX6_readsClause) := goodIn_app (bg_up (bg_cons (bi_wsL_law0_r10 _ (List.mem_of_getElem? (i := 0) rfl)) (bg_cons (bi_wsL_law0_r10 _ (List.mem_of_getElem? (i := 1) rfl)) (bg_cons (bi_wsL_law0_r10 _ (List.mem_of_getElem? (i := 2) rfl)) (bg_cons (bi_wsL_law0_r1 _ (List.mem_of_getElem? (i := 20) rfl)) bg_nil))))) (bg_up (bg_law (bi_wsL_law0_r10 _ (List.mem_of_getElem? (i := 3) rfl))))
theorem ggX6_readsAll_X10_sign : GoodIn wsX6_readsAll wsX10_sign := (bg_up (bg_law (bi_wsL_law0_r10 _ (List.mem_of_getElem? (i := 7) rfl))))
theorem gX6_readsAll_X10_sign : GoodIn wsX6_readsAll (wsV RX6 55 RX10 yX10_sign wsX10_sign) := goodIn_app (bg_up (bg_cons (bi_wsL_law0_r10 _ (List.mem_of_getElem? (i := 4) rfl)) (bg_cons (bi_wsL_law0_r10 _ (List.mem_of_getElem? (i := 5) rfl)) (bg_cons (bi_wsL_law0_r10 _ (List.mem_of_getElem? (i := 6) rfl)) (bg_cons (bi_wsL_law0_r1 _ (List.mem_of_getElem? (i := 16) rfl)) bg_nil))))) (bg_up (bg_law (bi_wsL_law0_r10 _ (List.mem_of_getElem? (i := 7) rfl))))
theorem ggX6_readsAll_X5_sizeOf : GoodIn wsX6_readsAll wsX5_sizeOf := (bg_up (bg_law (bi_wsL_law0_r12 _ (List.mem_of_getElem? (i := 7) rfl))))
theorem gX6_readsAll_X5_sizeOf : GoodIn wsX6_readsAll (wsV RX6 59 RX5 yX5_sizeOf wsX5_sizeOf) := goodIn_app (bg_up (bg_cons (bi_wsL_law0_r12 _ (List.mem_of_getElem? (i := 4) rfl)) (bg_cons (bi_wsL_law0_r12 _ (List.mem_of_getElem? (i := 5) rfl)) (bg_cons (bi_wsL_law0_r12 _ (List.mem_of_getElem? (i := 6) rfl)) (bg_cons (bi_wsL_law0_r2 _ (List.mem_of_getElem? (i := 4) rfl)) bg_nil))))) (bg_up (bg_law (bi_wsL_law0_r12 _ (List.mem_of_getElem? (i := 7) rfl))))
theorem ggX6_readsAll_X10_take : GoodIn wsX6_readsAll wsX10_take := (bg_up (bg_law (bi_wsL_law0_r12 _ (List.mem_of_getElem? (i := 12) rfl))))
theorem gX6_readsAll_X10_take : GoodIn wsX6_readsAll (wsV RX6 63 RX10 yX10_take wsX10_take) := goodIn_app (bg_up (bg_cons (bi_wsL_law0_r12 _ (List.mem_of_getElem? (i := 9) rfl)) (bg_cons (bi_wsL_law0_r12 _ (List.mem_of_getElem? (i := 10) rfl)) (bg_cons (bi_wsL_law0_r12 _ (List.mem_of_getElem? (i := 11) rfl)) (bg_cons (bi_wsL_law0_r1 _ (List.mem_of_getElem? (i := 16) rfl)) bg_nil))))) (bg_up (bg_law (bi_wsL_law0_r12 _ (List.mem_of_getElem? (i := 12) rfl))))
def ztdX6_readsAll_0 : List (Nat × Instr × Nat) := [(0, .aload_n 0, 1), (1, .getfield 22, 3), (4, .iconst 0, 1), (5, .putfield 26, 3), (8, .aload_n 0, 1), (9, .iconst 0, 1), (10, .putfield 32, 3), (13, .aload_n 0, 1), (14, .getfield 12, 3), (17, .iconst 0, 1), (18, .putfield 36, 3), (21, .aload_n 0, 1), (22, .getfield 12, 3), (25, .iconst 0, 1), (26, .putfield 39, 3), (29, .aload_n 0, 1), (30, .getfield 12, 3), (33, .getstatic 42, 3), (36, .iconst 0, 1), (37, .iaload, 1), (38, .putfield 45, 3), (41, .aload_n 0, 1), (42, .getfield 12, 3), (45, .getstatic 42, 3)]
theorem zhdX6_readsAll_0 : dzC ztdX6_readsAll_0 0 (cX6_readsAll.data.toList.drop 0) = true := by decide +kernel
theorem dX6_readsAll_0 : decode cX6_readsAll 0 = .ok (.aload_n 0, 1) := dzr zhdX6_readsAll_0 0 rfl
theorem dX6_readsAll_1 : decode cX6_readsAll 1 = .ok (.getfield 22, 3) := dzr zhdX6_readsAll_0 1 rfl
theorem dX6_readsAll_4 : decode cX6_readsAll 4 = .ok (.iconst 0, 1) := dzr zhdX6_readsAll_0 2 rfl
theorem dX6_readsAll_5 : decode cX6_readsAll 5 = .ok (.putfield 26, 3) := dzr zhdX6_readsAll_0 3 rfl
theorem dX6_readsAll_8 : decode cX6_readsAll 8 = .ok (.aload_n 0, 1) := dzr zhdX6_readsAll_0 4 rfl
theorem dX6_readsAll_9 : decode cX6_readsAll 9 = .ok (.iconst 0, 1) := dzr zhdX6_readsAll_0 5 rfl
theorem dX6_readsAll_10 : decode cX6_readsAll 10 = .ok (.putfield 32, 3) := dzr zhdX6_readsAll_0 6 rfl
theorem dX6_readsAll_13 : decode cX6_readsAll 13 = .ok (.aload_n 0, 1) := dzr zhdX6_readsAll_0 7 rfl
theorem dX6_readsAll_14 : decode cX6_readsAll 14 = .ok (.getfield 12, 3) := dzr zhdX6_readsAll_0 8 rfl
theorem dX6_readsAll_17 : decode cX6_readsAll 17 = .ok (.iconst 0, 1) := dzr zhdX6_readsAll_0 9 rfl
theorem dX6_readsAll_18 : decode cX6_readsAll 18 = .ok (.putfield 36, 3) := dzr zhdX6_readsAll_0 10 rfl
theorem dX6_readsAll_21 : decode cX6_readsAll 21 = .ok (.aload_n 0, 1) := dzr zhdX6_readsAll_0 11 rfl
theorem dX6_readsAll_22 : decode cX6_readsAll 22 = .ok (.getfield 12, 3) := dzr zhdX6_readsAll_0 12 rfl
theorem dX6_readsAll_25 : decode cX6_readsAll 25 = .ok (.iconst 0, 1) := dzr zhdX6_readsAll_0 13 rfl
theorem dX6_readsAll_26 : decode cX6_readsAll 26 = .ok (.putfield 39, 3) := dzr zhdX6_readsAll_0 14 rfl
theorem dX6_readsAll_29 : decode cX6_readsAll 29 = .ok (.aload_n 0, 1) := dzr zhdX6_readsAll_0 15 rfl
theorem dX6_readsAll_30 : decode cX6_readsAll 30 = .ok (.getfield 12, 3) := dzr zhdX6_readsAll_0 16 rfl
theorem dX6_readsAll_33 : decode cX6_readsAll 33 = .ok (.getstatic 42, 3) := dzr zhdX6_readsAll_0 17 rfl
theorem dX6_readsAll_36 : decode cX6_readsAll 36 = .ok (.iconst 0, 1) := dzr zhdX6_readsAll_0 18 rfl
theorem dX6_readsAll_37 : decode cX6_readsAll 37 = .ok (.iaload, 1) := dzr zhdX6_readsAll_0 19 rfl
theorem dX6_readsAll_38 : decode cX6_readsAll 38 = .ok (.putfield 45, 3) := dzr zhdX6_readsAll_0 20 rfl
theorem dX6_readsAll_41 : decode cX6_readsAll 41 = .ok (.aload_n 0, 1) := dzr zhdX6_readsAll_0 21 rfl
theorem dX6_readsAll_42 : decode cX6_readsAll 42 = .ok (.getfield 12, 3) := dzr zhdX6_readsAll_0 22 rfl
theorem dX6_readsAll_45 : decode cX6_readsAll 45 = .ok (.getstatic 42, 3) := dzr zhdX6_readsAll_0 23 rfl
def ztdX6_readsAll_48 : List (Nat × Instr × Nat) := [(48, .iconst 1, 1), (49, .iaload, 1), (50, .putfield 48, 3), (53, .iconst 0, 1), (54, .istore_n 1, 1), (55, .iload_n 1, 1), (56, .sipush 240, 3), (59, .if_icmp .gt 71, 3), (62, .aload_n 0, 1), (63, .invokevirtual 51, 3), (66, .ifCond .ne 5, 3), (69, .iconst 0, 1), (70, .ireturn, 1), (71, .aload_n 0, 1), (72, .getfield 22, 3), (75, .invokevirtual 55, 3), (78, .iconst (-1), 1), (79, .if_icmp .ne 31, 3), (82, .aload_n 0, 1), (83, .getfield 12, 3), (86, .iconst 0, 1), (87, .invokevirtual 59, 3), (90, .ifCond .le 18, 3), (93, .aload_n 0, 1)]
theorem zhdX6_readsAll_48 : dzC ztdX6_readsAll_48 48 (cX6_readsAll.data.toList.drop 48) = true := by decide +kernel
theorem dX6_readsAll_48 : decode cX6_readsAll 48 = .ok (.iconst 1, 1) := dzr zhdX6_readsAll_48 0 rfl
theorem dX6_readsAll_49 : decode cX6_readsAll 49 = .ok (.iaload, 1) := dzr zhdX6_readsAll_48 1 rfl
theorem dX6_readsAll_50 : decode cX6_readsAll 50 = .ok (.putfield 48, 3) := dzr zhdX6_readsAll_48 2 rfl
theorem dX6_readsAll_53 : decode cX6_readsAll 53 = .ok (.iconst 0, 1) := dzr zhdX6_readsAll_48 3 rfl
theorem dX6_readsAll_54 : decode cX6_readsAll 54 = .ok (.istore_n 1, 1) := dzr zhdX6_readsAll_48 4 rfl
theorem dX6_readsAll_55 : decode cX6_readsAll 55 = .ok (.iload_n 1, 1) := dzr zhdX6_readsAll_48 5 rfl
theorem dX6_readsAll_56 : decode cX6_readsAll 56 = .ok (.sipush 240, 3) := dzr zhdX6_readsAll_48 6 rfl
theorem dX6_readsAll_59 : decode cX6_readsAll 59 = .ok (.if_icmp .gt 71, 3) := dzr zhdX6_readsAll_48 7 rfl
theorem dX6_readsAll_62 : decode cX6_readsAll 62 = .ok (.aload_n 0, 1) := dzr zhdX6_readsAll_48 8 rfl
theorem dX6_readsAll_63 : decode cX6_readsAll 63 = .ok (.invokevirtual 51, 3) := dzr zhdX6_readsAll_48 9 rfl
theorem dX6_readsAll_66 : decode cX6_readsAll 66 = .ok (.ifCond .ne 5, 3) := dzr zhdX6_readsAll_48 10 rfl
theorem dX6_readsAll_69 : decode cX6_readsAll 69 = .ok (.iconst 0, 1) := dzr zhdX6_readsAll_48 11 rfl
theorem dX6_readsAll_70 : decode cX6_readsAll 70 = .ok (.ireturn, 1) := dzr zhdX6_readsAll_48 12 rfl
theorem dX6_readsAll_71 : decode cX6_readsAll 71 = .ok (.aload_n 0, 1) := dzr zhdX6_readsAll_48 13 rfl
theorem dX6_readsAll_72 : decode cX6_readsAll 72 = .ok (.getfield 22, 3) := dzr zhdX6_readsAll_48 14 rfl
theorem dX6_readsAll_75 : decode cX6_readsAll 75 = .ok (.invokevirtual 55, 3) := dzr zhdX6_readsAll_48 15 rfl
theorem dX6_readsAll_78 : decode cX6_readsAll 78 = .ok (.iconst (-1), 1) := dzr zhdX6_readsAll_48 16 rfl
theorem dX6_readsAll_79 : decode cX6_readsAll 79 = .ok (.if_icmp .ne 31, 3) := dzr zhdX6_readsAll_48 17 rfl
theorem dX6_readsAll_82 : decode cX6_readsAll 82 = .ok (.aload_n 0, 1) := dzr zhdX6_readsAll_48 18 rfl
theorem dX6_readsAll_83 : decode cX6_readsAll 83 = .ok (.getfield 12, 3) := dzr zhdX6_readsAll_48 19 rfl
theorem dX6_readsAll_86 : decode cX6_readsAll 86 = .ok (.iconst 0, 1) := dzr zhdX6_readsAll_48 20 rfl
theorem dX6_readsAll_87 : decode cX6_readsAll 87 = .ok (.invokevirtual 59, 3) := dzr zhdX6_readsAll_48 21 rfl
theorem dX6_readsAll_90 : decode cX6_readsAll 90 = .ok (.ifCond .le 18, 3) := dzr zhdX6_readsAll_48 22 rfl
theorem dX6_readsAll_93 : decode cX6_readsAll 93 = .ok (.aload_n 0, 1) := dzr zhdX6_readsAll_48 23 rfl
def ztdX6_readsAll_94 : List (Nat × Instr × Nat) := [(94, .getfield 12, 3), (97, .iconst 1, 1), (98, .invokevirtual 59, 3), (101, .ifCond .le 7, 3), (104, .iconst 1, 1), (105, .goto 4, 3), (108, .iconst 0, 1), (109, .ireturn, 1), (110, .aload_n 0, 1), (111, .getfield 22, 3), (114, .bipush 59, 2), (116, .invokevirtual 63, 3), (119, .ifCond .ne 5, 3), (122, .iconst 0, 1), (123, .ireturn, 1), (124, .iinc 1 1, 3), (127, .goto (-72), 3), (130, .iconst 0, 1), (131, .ireturn, 1)]
theorem zhdX6_readsAll_94 : dzC ztdX6_readsAll_94 94 (cX6_readsAll.data.toList.drop 94) = true := by decide +kernel
theorem dX6_readsAll_94 : decode cX6_readsAll 94 = .ok (.getfield 12, 3) := dzr zhdX6_readsAll_94 0 rfl
theorem dX6_readsAll_97 : decode cX6_readsAll 97 = .ok (.iconst 1, 1) := dzr zhdX6_readsAll_94 1 rfl
theorem dX6_readsAll_98 : decode cX6_readsAll 98 = .ok (.invokevirtual 59, 3) := dzr zhdX6_readsAll_94 2 rfl
theorem dX6_readsAll_101 : decode cX6_readsAll 101 = .ok (.ifCond .le 7, 3) := dzr zhdX6_readsAll_94 3 rfl
theorem dX6_readsAll_104 : decode cX6_readsAll 104 = .ok (.iconst 1, 1) := dzr zhdX6_readsAll_94 4 rfl
theorem dX6_readsAll_105 : decode cX6_readsAll 105 = .ok (.goto 4, 3) := dzr zhdX6_readsAll_94 5 rfl
theorem dX6_readsAll_108 : decode cX6_readsAll 108 = .ok (.iconst 0, 1) := dzr zhdX6_readsAll_94 6 rfl
theorem dX6_readsAll_109 : decode cX6_readsAll 109 = .ok (.ireturn, 1) := dzr zhdX6_readsAll_94 7 rfl
theorem dX6_readsAll_110 : decode cX6_readsAll 110 = .ok (.aload_n 0, 1) := dzr zhdX6_readsAll_94 8 rfl
theorem dX6_readsAll_111 : decode cX6_readsAll 111 = .ok (.getfield 22, 3) := dzr zhdX6_readsAll_94 9 rfl
theorem dX6_readsAll_114 : decode cX6_readsAll 114 = .ok (.bipush 59, 2) := dzr zhdX6_readsAll_94 10 rfl
theorem dX6_readsAll_116 : decode cX6_readsAll 116 = .ok (.invokevirtual 63, 3) := dzr zhdX6_readsAll_94 11 rfl
theorem dX6_readsAll_119 : decode cX6_readsAll 119 = .ok (.ifCond .ne 5, 3) := dzr zhdX6_readsAll_94 12 rfl
theorem dX6_readsAll_122 : decode cX6_readsAll 122 = .ok (.iconst 0, 1) := dzr zhdX6_readsAll_94 13 rfl
theorem dX6_readsAll_123 : decode cX6_readsAll 123 = .ok (.ireturn, 1) := dzr zhdX6_readsAll_94 14 rfl
theorem dX6_readsAll_124 : decode cX6_readsAll 124 = .ok (.iinc 1 1, 3) := dzr zhdX6_readsAll_94 15 rfl
theorem dX6_readsAll_127 : decode cX6_readsAll 127 = .ok (.goto (-72), 3) := dzr zhdX6_readsAll_94 16 rfl
theorem dX6_readsAll_130 : decode cX6_readsAll 130 = .ok (.iconst 0, 1) := dzr zhdX6_readsAll_94 17 rfl
theorem dX6_readsAll_131 : decode cX6_readsAll 131 = .ok (.ireturn, 1) := dzr zhdX6_readsAll_94 18 rfl
theorem ggX6_readsClause_X10_sign : GoodIn wsX6_readsClause wsX10_sign := (bg_up (bg_law (bi_wsL_law0_r10 _ (List.mem_of_getElem? (i := 7) rfl))))
theorem gX6_readsClause_X10_sign : GoodIn wsX6_readsClause (wsV RX6 55 RX10 yX10_sign wsX10_sign) := goodIn_app (bg_up (bg_cons (bi_wsL_law0_r10 _ (List.mem_of_getElem? (i := 4) rfl)) (bg_cons (bi_wsL_law0_r10 _ (List.mem_of_getElem? (i := 5) rfl)) (bg_cons (bi_wsL_law0_r10 _ (List.mem_of_getElem? (i := 6) rfl)) (bg_cons (bi_wsL_law0_r1 _ (List.mem_of_getElem? (i := 16) rfl)) bg_nil))))) (bg_up (bg_law (bi_wsL_law0_r10 _ (List.mem_of_getElem? (i := 7) rfl))))
theorem ggX6_readsClause_X6_kindOf : GoodIn wsX6_readsClause wsX6_kindOf := (bg_up (bg_law (bi_wsL_law0_r10 _ (List.mem_of_getElem? (i := 11) rfl))))
theorem gX6_readsClause_X6_kindOf : GoodIn wsX6_readsClause (va_wsS RX6 67 yX6_kindOf wsX6_kindOf) := goodIn_app (bg_up (bg_cons (bi_wsL_law0_r10 _ (List.mem_of_getElem? (i := 9) rfl)) (bg_cons (bi_wsL_law0_r10 _ (List.mem_of_getElem? (i := 10) rfl)) (bg_cons (bi_wsL_law0_r1 _ (List.mem_of_getElem? (i := 20) rfl)) bg_nil)))) (bg_up (bg_law (bi_wsL_law0_r10 _ (List.mem_of_getElem? (i := 11) rfl))))
theorem ggX6_readsClause_X6_isTooMany : GoodIn wsX6_readsClause wsX6_isTooMany := (bg_up (bg_law (bi_wsL_law0_r10 _ (List.mem_of_getElem? (i := 15) rfl))))
theorem gX6_readsClause_X6_isTooMany : GoodIn wsX6_readsClause (wsV RX6 70 RX6 yX6_isTooMany wsX6_isTooMany) := goodIn_app (bg_up (bg_cons (bi_wsL_law0_r10 _ (List.mem_of_getElem? (i := 12) rfl)) (bg_cons (bi_wsL_law0_r10 _ (List.mem_of_getElem? (i := 13) rfl)) (bg_cons (bi_wsL_law0_r10 _ (List.mem_of_getElem? (i := 14) rfl)) (bg_cons (bi_wsL_law0_r1 _ (List.mem_of_getElem? (i := 20) rfl)) bg_nil))))) (bg_up (bg_law (bi_wsL_law0_r10 _ (List.mem_of_getElem? (i := 15) rfl))))
theorem ggX6_readsClause_X6_readsItems : GoodIn wsX6_readsClause wsX6_readsItems := (bg_up (bg_law (bi_wsL_law0_r10 _ (List.mem_of_getElem? (i := 19) rfl))))
theorem gX6_readsClause_X6_readsItems : GoodIn wsX6_readsClause (wsV RX6 73 RX6 yX6_readsItems wsX6_readsItems) := goodIn_app (bg_up (bg_cons (bi_wsL_law0_r10 _ (List.mem_of_getElem? (i := 16) rfl)) (bg_cons (bi_wsL_law0_r10 _ (List.mem_of_getElem? (i := 17) rfl)) (bg_cons (bi_wsL_law0_r10 _ (List.mem_of_getElem? (i := 18) rfl)) (bg_cons (bi_wsL_law0_r1 _ (List.mem_of_getElem? (i := 20) rfl)) bg_nil))))) (bg_up (bg_law (bi_wsL_law0_r10 _ (List.mem_of_getElem? (i := 19) rfl))))
theorem ggX6_readsClause_X6_keep : GoodIn wsX6_readsClause wsX6_keep := (bg_up (bg_law (bi_wsL_law0_r11 _ (List.mem_of_getElem? (i := 21) rfl))))
theorem gX6_readsClause_X6_keep : GoodIn wsX6_readsClause (wsV RX6 76 RX6 yX6_keep wsX6_keep) := goodIn_app (bg_up (bg_cons (bi_wsL_law0_r11 _ (List.mem_of_getElem? (i := 18) rfl)) (bg_cons (bi_wsL_law0_r11 _ (List.mem_of_getElem? (i := 19) rfl)) (bg_cons (bi_wsL_law0_r11 _ (List.mem_of_getElem? (i := 20) rfl)) (bg_cons (bi_wsL_law0_r1 _ (List.mem_of_getElem? (i := 20) rfl)) bg_nil))))) (bg_up (bg_law (bi_wsL_law0_r11 _ (List.mem_of_getElem? (i := 21) rfl))))
def ztdX6_readsClause_0 : List (Nat × Instr × Nat) := [(0, .aload_n 0, 1), (1, .getfield 22, 3), (4, .invokevirtual 55, 3), (7, .invokestatic 67, 3), (10, .istore_n 1, 1), (11, .iload_n 1, 1), (12, .iconst (-1), 1), (13, .if_icmp .eq 11, 3), (16, .aload_n 0, 1), (17, .iload_n 1, 1), (18, .invokevirtual 70, 3), (21, .ifCond .eq 5, 3), (24, .iconst 0, 1), (25, .ireturn, 1), (26, .aload_n 0, 1), (27, .getfield 22, 3), (30, .dup, 1), (31, .getfield 26, 3), (34, .iconst 1, 1), (35, .iadd, 1), (36, .putfield 26, 3), (39, .aload_n 0, 1), (40, .iload_n 1, 1), (41, .invokevirtual 73, 3)]
theorem zhdX6_readsClause_0 : dzC ztdX6_readsClause_0 0 (cX6_readsClause.data.toList.drop 0) = true := by decide +kernel
theorem dX6_readsClause_0 : decode cX6_readsClause 0 = .ok (.aload_n 0, 1) := dzr zhdX6_readsClause_0 0 rfl
theorem dX6_readsClause_1 : decode cX6_readsClause 1 = .ok (.getfield 22, 3) := dzr zhdX6_readsClause_0 1 rfl
theorem dX6_readsClause_4 : decode cX6_readsClause 4 = .ok (.invokevirtual 55, 3) := dzr zhdX6_readsClause_0 2 rfl
theorem dX6_readsClause_7 : decode cX6_readsClause 7 = .ok (.invokestatic 67, 3) := dzr zhdX6_readsClause_0 3 rfl
theorem dX6_readsClause_10 : decode cX6_readsClause 10 = .ok (.istore_n 1, 1) := dzr zhdX6_readsClause_0 4 rfl
theorem dX6_readsClause_11 : decode cX6_readsClause 11 = .ok (.iload_n 1, 1) := dzr zhdX6_readsClause_0 5 rfl
theorem dX6_readsClause_12 : decode cX6_readsClause 12 = .ok (.iconst (-1), 1) := dzr zhdX6_readsClause_0 6 rfl
theorem dX6_readsClause_13 : decode cX6_readsClause 13 = .ok (.if_icmp .eq 11, 3) := dzr zhdX6_readsClause_0 7 rfl
theorem dX6_readsClause_16 : decode cX6_readsClause 16 = .ok (.aload_n 0, 1) := dzr zhdX6_readsClause_0 8 rfl
theorem dX6_readsClause_17 : decode cX6_readsClause 17 = .ok (.iload_n 1, 1) := dzr zhdX6_readsClause_0 9 rfl
theorem dX6_readsClause_18 : decode cX6_readsClause 18 = .ok (.invokevirtual 70, 3) := dzr zhdX6_readsClause_0 10 rfl
theorem dX6_readsClause_21 : decode cX6_readsClause 21 = .ok (.ifCond .eq 5, 3) := dzr zhdX6_readsClause_0 11 rfl
theorem dX6_readsClause_24 : decode cX6_readsClause 24 = .ok (.iconst 0, 1) := dzr zhdX6_readsClause_0 12 rfl
theorem dX6_readsClause_25 : decode cX6_readsClause 25 = .ok (.ireturn, 1) := dzr zhdX6_readsClause_0 13 rfl
theorem dX6_readsClause_26 : decode cX6_readsClause 26 = .ok (.aload_n 0, 1) := dzr zhdX6_readsClause_0 14 rfl
theorem dX6_readsClause_27 : decode cX6_readsClause 27 = .ok (.getfield 22, 3) := dzr zhdX6_readsClause_0 15 rfl
theorem dX6_readsClause_30 : decode cX6_readsClause 30 = .ok (.dup, 1) := dzr zhdX6_readsClause_0 16 rfl
theorem dX6_readsClause_31 : decode cX6_readsClause 31 = .ok (.getfield 26, 3) := dzr zhdX6_readsClause_0 17 rfl
theorem dX6_readsClause_34 : decode cX6_readsClause 34 = .ok (.iconst 1, 1) := dzr zhdX6_readsClause_0 18 rfl
theorem dX6_readsClause_35 : decode cX6_readsClause 35 = .ok (.iadd, 1) := dzr zhdX6_readsClause_0 19 rfl
theorem dX6_readsClause_36 : decode cX6_readsClause 36 = .ok (.putfield 26, 3) := dzr zhdX6_readsClause_0 20 rfl
theorem dX6_readsClause_39 : decode cX6_readsClause 39 = .ok (.aload_n 0, 1) := dzr zhdX6_readsClause_0 21 rfl
theorem dX6_readsClause_40 : decode cX6_readsClause 40 = .ok (.iload_n 1, 1) := dzr zhdX6_readsClause_0 22 rfl
theorem dX6_readsClause_41 : decode cX6_readsClause 41 = .ok (.invokevirtual 73, 3) := dzr zhdX6_readsClause_0 23 rfl
def ztdX6_readsClause_44 : List (Nat × Instr × Nat) := [(44, .ifCond .ne 5, 3), (47, .iconst 0, 1), (48, .ireturn, 1), (49, .aload_n 0, 1), (50, .iload_n 1, 1), (51, .invokevirtual 76, 3), (54, .iconst 1, 1), (55, .ireturn, 1)]
theorem zhdX6_readsClause_44 : dzC ztdX6_readsClause_44 44 (cX6_readsClause.data.toList.drop 44) = true := by decide +kernel
theorem dX6_readsClause_44 : decode cX6_readsClause 44 = .ok (.ifCond .ne 5, 3) := dzr zhdX6_readsClause_44 0 rfl
theorem dX6_readsClause_47 : decode cX6_readsClause 47 = .ok (.iconst 0, 1) := dzr zhdX6_readsClause_44 1 rfl
theorem dX6_readsClause_48 : decode cX6_readsClause 48 = .ok (.ireturn, 1) := dzr zhdX6_readsClause_44 2 rfl
theorem dX6_readsClause_49 : decode cX6_readsClause 49 = .ok (.aload_n 0, 1) := dzr zhdX6_readsClause_44 3 rfl
theorem dX6_readsClause_50 : decode cX6_readsClause 50 = .ok (.iload_n 1, 1) := dzr zhdX6_readsClause_44 4 rfl
theorem dX6_readsClause_51 : decode cX6_readsClause 51 = .ok (.invokevirtual 76, 3) := dzr zhdX6_readsClause_44 5 rfl
theorem dX6_readsClause_54 : decode cX6_readsClause 54 = .ok (.iconst 1, 1) := dzr zhdX6_readsClause_44 6 rfl
theorem dX6_readsClause_55 : decode cX6_readsClause 55 = .ok (.ireturn, 1) := dzr zhdX6_readsClause_44 7 rfl
def ztdX6_kindOf_0 : List (Nat × Instr × Nat) := [(0, .iload_n 0, 1), (1, .bipush 115, 2), (3, .if_icmp .ne 5, 3), (6, .iconst 0, 1), (7, .ireturn, 1), (8, .iload_n 0, 1), (9, .bipush 103, 2), (11, .if_icmp .ne 5, 3), (14, .iconst 1, 1), (15, .ireturn, 1), (16, .iload_n 0, 1), (17, .bipush 109, 2), (19, .if_icmp .ne 7, 3), (22, .iconst 2, 1), (23, .goto 4, 3), (26, .iconst (-1), 1), (27, .ireturn, 1)]
theorem zhdX6_kindOf_0 : dzC ztdX6_kindOf_0 0 (cX6_kindOf.data.toList.drop 0) = true := by decide +kernel
theorem dX6_kindOf_0 : decode cX6_kindOf 0 = .ok (.iload_n 0, 1) := dzr zhdX6_kindOf_0 0 rfl
theorem dX6_kindOf_1 : decode cX6_kindOf 1 = .ok (.bipush 115, 2) := dzr zhdX6_kindOf_0 1 rfl
theorem dX6_kindOf_3 : decode cX6_kindOf 3 = .ok (.if_icmp .ne 5, 3) := dzr zhdX6_kindOf_0 2 rfl
theorem dX6_kindOf_6 : decode cX6_kindOf 6 = .ok (.iconst 0, 1) := dzr zhdX6_kindOf_0 3 rfl
theorem dX6_kindOf_7 : decode cX6_kindOf 7 = .ok (.ireturn, 1) := dzr zhdX6_kindOf_0 4 rfl
theorem dX6_kindOf_8 : decode cX6_kindOf 8 = .ok (.iload_n 0, 1) := dzr zhdX6_kindOf_0 5 rfl
theorem dX6_kindOf_9 : decode cX6_kindOf 9 = .ok (.bipush 103, 2) := dzr zhdX6_kindOf_0 6 rfl
theorem dX6_kindOf_11 : decode cX6_kindOf 11 = .ok (.if_icmp .ne 5, 3) := dzr zhdX6_kindOf_0 7 rfl
theorem dX6_kindOf_14 : decode cX6_kindOf 14 = .ok (.iconst 1, 1) := dzr zhdX6_kindOf_0 8 rfl
theorem dX6_kindOf_15 : decode cX6_kindOf 15 = .ok (.ireturn, 1) := dzr zhdX6_kindOf_0 9 rfl
theorem dX6_kindOf_16 : decode cX6_kindOf 16 = .ok (.iload_n 0, 1) := dzr zhdX6_kindOf_0 10 rfl
theorem dX6_kindOf_17 : decode cX6_kindOf 17 = .ok (.bipush 109, 2) := dzr zhdX6_kindOf_0 11 rfl
theorem dX6_kindOf_19 : decode cX6_kindOf 19 = .ok (.if_icmp .ne 7, 3) := dzr zhdX6_kindOf_0 12 rfl
theorem dX6_kindOf_22 : decode cX6_kindOf 22 = .ok (.iconst 2, 1) := dzr zhdX6_kindOf_0 13 rfl
theorem dX6_kindOf_23 : decode cX6_kindOf 23 = .ok (.goto 4, 3) := dzr zhdX6_kindOf_0 14 rfl
theorem dX6_kindOf_26 : decode cX6_kindOf 26 = .ok (.iconst (-1), 1) := dzr zhdX6_kindOf_0 15 rfl
theorem dX6_kindOf_27 : decode cX6_kindOf 27 = .ok (.ireturn, 1) := dzr zhdX6_kindOf_0 16 rfl
def ztdX6_isTooMany_0 : List (Nat × Instr × Nat) := [(0, .iload_n 1, 1), (1, .ifCond .ne 8, 3), (4, .aload_n 0, 1), (5, .getfield 32, 3), (8, .ireturn, 1), (9, .iload_n 1, 1), (10, .iconst 1, 1), (11, .if_icmp .ne 23, 3), (14, .aload_n 0, 1), (15, .getfield 12, 3), (18, .getfield 36, 3), (21, .bipush 6, 2), (23, .if_icmp .lt 7, 3), (26, .iconst 1, 1), (27, .goto 23, 3), (30, .iconst 0, 1), (31, .goto 19, 3), (34, .aload_n 0, 1), (35, .getfield 12, 3), (38, .getfield 39, 3), (41, .iconst 5, 1), (42, .if_icmp .lt 7, 3), (45, .iconst 1, 1), (46, .goto 4, 3)]
theorem zhdX6_isTooMany_0 : dzC ztdX6_isTooMany_0 0 (cX6_isTooMany.data.toList.drop 0) = true := by decide +kernel
theorem dX6_isTooMany_0 : decode cX6_isTooMany 0 = .ok (.iload_n 1, 1) := dzr zhdX6_isTooMany_0 0 rfl
theorem dX6_isTooMany_1 : decode cX6_isTooMany 1 = .ok (.ifCond .ne 8, 3) := dzr zhdX6_isTooMany_0 1 rfl
theorem dX6_isTooMany_4 : decode cX6_isTooMany 4 = .ok (.aload_n 0, 1) := dzr zhdX6_isTooMany_0 2 rfl
theorem dX6_isTooMany_5 : decode cX6_isTooMany 5 = .ok (.getfield 32, 3) := dzr zhdX6_isTooMany_0 3 rfl
theorem dX6_isTooMany_8 : decode cX6_isTooMany 8 = .ok (.ireturn, 1) := dzr zhdX6_isTooMany_0 4 rfl
theorem dX6_isTooMany_9 : decode cX6_isTooMany 9 = .ok (.iload_n 1, 1) := dzr zhdX6_isTooMany_0 5 rfl
theorem dX6_isTooMany_10 : decode cX6_isTooMany 10 = .ok (.iconst 1, 1) := dzr zhdX6_isTooMany_0 6 rfl
theorem dX6_isTooMany_11 : decode cX6_isTooMany 11 = .ok (.if_icmp .ne 23, 3) := dzr zhdX6_isTooMany_0 7 rfl
theorem dX6_isTooMany_14 : decode cX6_isTooMany 14 = .ok (.aload_n 0, 1) := dzr zhdX6_isTooMany_0 8 rfl
theorem dX6_isTooMany_15 : decode cX6_isTooMany 15 = .ok (.getfield 12, 3) := dzr zhdX6_isTooMany_0 9 rfl
theorem dX6_isTooMany_18 : decode cX6_isTooMany 18 = .ok (.getfield 36, 3) := dzr zhdX6_isTooMany_0 10 rfl
theorem dX6_isTooMany_21 : decode cX6_isTooMany 21 = .ok (.bipush 6, 2) := dzr zhdX6_isTooMany_0 11 rfl
theorem dX6_isTooMany_23 : decode cX6_isTooMany 23 = .ok (.if_icmp .lt 7, 3) := dzr zhdX6_isTooMany_0 12 rfl
theorem dX6_isTooMany_26 : decode cX6_isTooMany 26 = .ok (.iconst 1, 1) := dzr zhdX6_isTooMany_0 13 rfl
theorem dX6_isTooMany_27 : decode cX6_isTooMany 27 = .ok (.goto 23, 3) := dzr zhdX6_isTooMany_0 14 rfl
theorem dX6_isTooMany_30 : decode cX6_isTooMany 30 = .ok (.iconst 0, 1) := dzr zhdX6_isTooMany_0 15 rfl
theorem dX6_isTooMany_31 : decode cX6_isTooMany 31 = .ok (.goto 19, 3) := dzr zhdX6_isTooMany_0 16 rfl
theorem dX6_isTooMany_34 : decode cX6_isTooMany 34 = .ok (.aload_n 0, 1) := dzr zhdX6_isTooMany_0 17 rfl
theorem dX6_isTooMany_35 : decode cX6_isTooMany 35 = .ok (.getfield 12, 3) := dzr zhdX6_isTooMany_0 18 rfl
theorem dX6_isTooMany_38 : decode cX6_isTooMany 38 = .ok (.getfield 39, 3) := dzr zhdX6_isTooMany_0 19 rfl
theorem dX6_isTooMany_41 : decode cX6_isTooMany 41 = .ok (.iconst 5, 1) := dzr zhdX6_isTooMany_0 20 rfl
theorem dX6_isTooMany_42 : decode cX6_isTooMany 42 = .ok (.if_icmp .lt 7, 3) := dzr zhdX6_isTooMany_0 21 rfl
theorem dX6_isTooMany_45 : decode cX6_isTooMany 45 = .ok (.iconst 1, 1) := dzr zhdX6_isTooMany_0 22 rfl
theorem dX6_isTooMany_46 : decode cX6_isTooMany 46 = .ok (.goto 4, 3) := dzr zhdX6_isTooMany_0 23 rfl
def ztdX6_isTooMany_49 : List (Nat × Instr × Nat) := [(49, .iconst 0, 1), (50, .ireturn, 1)]
theorem zhdX6_isTooMany_49 : dzC ztdX6_isTooMany_49 49 (cX6_isTooMany.data.toList.drop 49) = true := by decide +kernel
theorem dX6_isTooMany_49 : decode cX6_isTooMany 49 = .ok (.iconst 0, 1) := dzr zhdX6_isTooMany_49 0 rfl
theorem dX6_isTooMany_50 : decode cX6_isTooMany 50 = .ok (.ireturn, 1) := dzr zhdX6_isTooMany_49 1 rfl
theorem ggX6_readsItems_X10_sign : GoodIn wsX6_readsItems wsX10_sign := (bg_up (bg_law (bi_wsL_law0_r10 _ (List.mem_of_getElem? (i := 7) rfl))))
theorem gX6_readsItems_X10_sign : GoodIn wsX6_readsItems (wsV RX6 55 RX10 yX10_sign wsX10_sign) := goodIn_app (bg_up (bg_cons (bi_wsL_law0_r10 _ (List.mem_of_getElem? (i := 4) rfl)) (bg_cons (bi_wsL_law0_r10 _ (List.mem_of_getElem? (i := 5) rfl)) (bg_cons (bi_wsL_law0_r10 _ (List.mem_of_getElem? (i := 6) rfl)) (bg_cons (bi_wsL_law0_r1 _ (List.mem_of_getElem? (i := 16) rfl)) bg_nil))))) (bg_up (bg_law (bi_wsL_law0_r10 _ (List.mem_of_getElem? (i := 7) rfl))))
theorem ggX6_readsItems_X6_itemOf : GoodIn wsX6_readsItems wsX6_itemOf := (bg_up (bg_law (bi_wsL_law0_r11 _ (List.mem_of_getElem? (i := 2) rfl))))
theorem gX6_readsItems_X6_itemOf : GoodIn wsX6_readsItems (va_wsS RX6 86 yX6_itemOf wsX6_itemOf) := goodIn_app (bg_up (bg_cons (bi_wsL_law0_r11 _ (List.mem_of_getElem? (i := 0) rfl)) (bg_cons (bi_wsL_law0_r11 _ (List.mem_of_getElem? (i := 1) rfl)) (bg_cons (bi_wsL_law0_r1 _ (List.mem_of_getElem? (i := 20) rfl)) bg_nil)))) (bg_up (bg_law (bi_wsL_law0_r11 _ (List.mem_of_getElem? (i := 2) rfl))))
theorem ggX6_readsItems_X6_readsValue : GoodIn wsX6_readsItems wsX6_readsValue := (bg_up (bg_law (bi_wsL_law0_r11 _ (List.mem_of_getElem? (i := 7) rfl))))
theorem gX6_readsItems_X6_readsValue : GoodIn wsX6_readsItems (wsV RX6 90 RX6 yX6_readsValue wsX6_readsValue) := goodIn_app (bg_up (bg_cons (bi_wsL_law0_r11 _ (List.mem_of_getElem? (i := 4) rfl)) (bg_cons (bi_wsL_law0_r11 _ (List.mem_of_getElem? (i := 5) rfl)) (bg_cons (bi_wsL_law0_r11 _ (List.mem_of_getElem? (i := 6) rfl)) (bg_cons (bi_wsL_law0_r1 _ (List.mem_of_getElem? (i := 20) rfl)) bg_nil))))) (bg_up (bg_law (bi_wsL_law0_r11 _ (List.mem_of_getElem? (i := 7) rfl))))
def ztdX6_readsItems_0 : List (Nat × Instr × Nat) := [(0, .getstatic 42, 3), (3, .iload_n 1, 1), (4, .iconst 4, 1), (5, .imul, 1), (6, .aload_n 0, 1), (7, .getfield 18, 3), (10, .iconst 0, 1), (11, .iconst 4, 1), (12, .invokestatic 80, 3), (15, .iconst 0, 1), (16, .istore_n 2, 1), (17, .iconst 0, 1), (18, .istore_n 3, 1), (19, .iload_n 3, 1), (20, .iconst 4, 1), (21, .if_icmp .gt 91, 3), (24, .aload_n 0, 1), (25, .getfield 22, 3), (28, .invokevirtual 55, 3), (31, .istore 4, 2), (33, .iload 4, 2), (35, .bipush 59, 2), (37, .if_icmp .eq 9, 3), (40, .iload 4, 2)]
theorem zhdX6_readsItems_0 : dzC ztdX6_readsItems_0 0 (cX6_readsItems.data.toList.drop 0) = true := by decide +kernel
theorem dX6_readsItems_0 : decode cX6_readsItems 0 = .ok (.getstatic 42, 3) := dzr zhdX6_readsItems_0 0 rfl
theorem dX6_readsItems_3 : decode cX6_readsItems 3 = .ok (.iload_n 1, 1) := dzr zhdX6_readsItems_0 1 rfl
theorem dX6_readsItems_4 : decode cX6_readsItems 4 = .ok (.iconst 4, 1) := dzr zhdX6_readsItems_0 2 rfl
theorem dX6_readsItems_5 : decode cX6_readsItems 5 = .ok (.imul, 1) := dzr zhdX6_readsItems_0 3 rfl
theorem dX6_readsItems_6 : decode cX6_readsItems 6 = .ok (.aload_n 0, 1) := dzr zhdX6_readsItems_0 4 rfl
theorem dX6_readsItems_7 : decode cX6_readsItems 7 = .ok (.getfield 18, 3) := dzr zhdX6_readsItems_0 5 rfl
theorem dX6_readsItems_10 : decode cX6_readsItems 10 = .ok (.iconst 0, 1) := dzr zhdX6_readsItems_0 6 rfl
theorem dX6_readsItems_11 : decode cX6_readsItems 11 = .ok (.iconst 4, 1) := dzr zhdX6_readsItems_0 7 rfl
theorem dX6_readsItems_12 : decode cX6_readsItems 12 = .ok (.invokestatic 80, 3) := dzr zhdX6_readsItems_0 8 rfl
theorem dX6_readsItems_15 : decode cX6_readsItems 15 = .ok (.iconst 0, 1) := dzr zhdX6_readsItems_0 9 rfl
theorem dX6_readsItems_16 : decode cX6_readsItems 16 = .ok (.istore_n 2, 1) := dzr zhdX6_readsItems_0 10 rfl
theorem dX6_readsItems_17 : decode cX6_readsItems 17 = .ok (.iconst 0, 1) := dzr zhdX6_readsItems_0 11 rfl
theorem dX6_readsItems_18 : decode cX6_readsItems 18 = .ok (.istore_n 3, 1) := dzr zhdX6_readsItems_0 12 rfl
theorem dX6_readsItems_19 : decode cX6_readsItems 19 = .ok (.iload_n 3, 1) := dzr zhdX6_readsItems_0 13 rfl
theorem dX6_readsItems_20 : decode cX6_readsItems 20 = .ok (.iconst 4, 1) := dzr zhdX6_readsItems_0 14 rfl
theorem dX6_readsItems_21 : decode cX6_readsItems 21 = .ok (.if_icmp .gt 91, 3) := dzr zhdX6_readsItems_0 15 rfl
theorem dX6_readsItems_24 : decode cX6_readsItems 24 = .ok (.aload_n 0, 1) := dzr zhdX6_readsItems_0 16 rfl
theorem dX6_readsItems_25 : decode cX6_readsItems 25 = .ok (.getfield 22, 3) := dzr zhdX6_readsItems_0 17 rfl
theorem dX6_readsItems_28 : decode cX6_readsItems 28 = .ok (.invokevirtual 55, 3) := dzr zhdX6_readsItems_0 18 rfl
theorem dX6_readsItems_31 : decode cX6_readsItems 31 = .ok (.istore 4, 2) := dzr zhdX6_readsItems_0 19 rfl
theorem dX6_readsItems_33 : decode cX6_readsItems 33 = .ok (.iload 4, 2) := dzr zhdX6_readsItems_0 20 rfl
theorem dX6_readsItems_35 : decode cX6_readsItems 35 = .ok (.bipush 59, 2) := dzr zhdX6_readsItems_0 21 rfl
theorem dX6_readsItems_37 : decode cX6_readsItems 37 = .ok (.if_icmp .eq 9, 3) := dzr zhdX6_readsItems_0 22 rfl
theorem dX6_readsItems_40 : decode cX6_readsItems 40 = .ok (.iload 4, 2) := dzr zhdX6_readsItems_0 23 rfl
def ztdX6_readsItems_42 : List (Nat × Instr × Nat) := [(42, .iconst (-1), 1), (43, .if_icmp .ne 5, 3), (46, .iconst 1, 1), (47, .ireturn, 1), (48, .iload_n 1, 1), (49, .iload 4, 2), (51, .invokestatic 86, 3), (54, .istore 5, 2), (56, .iload 5, 2), (58, .iconst (-1), 1), (59, .if_icmp .eq 13, 3), (62, .iload_n 2, 1), (63, .iload 5, 2), (65, .ishr, 1), (66, .iconst 1, 1), (67, .iand, 1), (68, .iconst 1, 1), (69, .if_icmp .ne 5, 3), (72, .iconst 0, 1), (73, .ireturn, 1), (74, .iload_n 2, 1), (75, .iconst 1, 1), (76, .iload 5, 2), (78, .ishl, 1)]
theorem zhdX6_readsItems_42 : dzC ztdX6_readsItems_42 42 (cX6_readsItems.data.toList.drop 42) = true := by decide +kernel
theorem dX6_readsItems_42 : decode cX6_readsItems 42 = .ok (.iconst (-1), 1) := dzr zhdX6_readsItems_42 0 rfl
theorem dX6_readsItems_43 : decode cX6_readsItems 43 = .ok (.if_icmp .ne 5, 3) := dzr zhdX6_readsItems_42 1 rfl
theorem dX6_readsItems_46 : decode cX6_readsItems 46 = .ok (.iconst 1, 1) := dzr zhdX6_readsItems_42 2 rfl
theorem dX6_readsItems_47 : decode cX6_readsItems 47 = .ok (.ireturn, 1) := dzr zhdX6_readsItems_42 3 rfl
theorem dX6_readsItems_48 : decode cX6_readsItems 48 = .ok (.iload_n 1, 1) := dzr zhdX6_readsItems_42 4 rfl
theorem dX6_readsItems_49 : decode cX6_readsItems 49 = .ok (.iload 4, 2) := dzr zhdX6_readsItems_42 5 rfl
theorem dX6_readsItems_51 : decode cX6_readsItems 51 = .ok (.invokestatic 86, 3) := dzr zhdX6_readsItems_42 6 rfl
theorem dX6_readsItems_54 : decode cX6_readsItems 54 = .ok (.istore 5, 2) := dzr zhdX6_readsItems_42 7 rfl
theorem dX6_readsItems_56 : decode cX6_readsItems 56 = .ok (.iload 5, 2) := dzr zhdX6_readsItems_42 8 rfl
theorem dX6_readsItems_58 : decode cX6_readsItems 58 = .ok (.iconst (-1), 1) := dzr zhdX6_readsItems_42 9 rfl
theorem dX6_readsItems_59 : decode cX6_readsItems 59 = .ok (.if_icmp .eq 13, 3) := dzr zhdX6_readsItems_42 10 rfl
theorem dX6_readsItems_62 : decode cX6_readsItems 62 = .ok (.iload_n 2, 1) := dzr zhdX6_readsItems_42 11 rfl
theorem dX6_readsItems_63 : decode cX6_readsItems 63 = .ok (.iload 5, 2) := dzr zhdX6_readsItems_42 12 rfl
theorem dX6_readsItems_65 : decode cX6_readsItems 65 = .ok (.ishr, 1) := dzr zhdX6_readsItems_42 13 rfl
theorem dX6_readsItems_66 : decode cX6_readsItems 66 = .ok (.iconst 1, 1) := dzr zhdX6_readsItems_42 14 rfl
theorem dX6_readsItems_67 : decode cX6_readsItems 67 = .ok (.iand, 1) := dzr zhdX6_readsItems_42 15 rfl
theorem dX6_readsItems_68 : decode cX6_readsItems 68 = .ok (.iconst 1, 1) := dzr zhdX6_readsItems_42 16 rfl
theorem dX6_readsItems_69 : decode cX6_readsItems 69 = .ok (.if_icmp .ne 5, 3) := dzr zhdX6_readsItems_42 17 rfl
theorem dX6_readsItems_72 : decode cX6_readsItems 72 = .ok (.iconst 0, 1) := dzr zhdX6_readsItems_42 18 rfl
theorem dX6_readsItems_73 : decode cX6_readsItems 73 = .ok (.ireturn, 1) := dzr zhdX6_readsItems_42 19 rfl
theorem dX6_readsItems_74 : decode cX6_readsItems 74 = .ok (.iload_n 2, 1) := dzr zhdX6_readsItems_42 20 rfl
theorem dX6_readsItems_75 : decode cX6_readsItems 75 = .ok (.iconst 1, 1) := dzr zhdX6_readsItems_42 21 rfl
theorem dX6_readsItems_76 : decode cX6_readsItems 76 = .ok (.iload 5, 2) := dzr zhdX6_readsItems_42 22 rfl
theorem dX6_readsItems_78 : decode cX6_readsItems 78 = .ok (.ishl, 1) := dzr zhdX6_readsItems_42 23 rfl
def ztdX6_readsItems_79 : List (Nat × Instr × Nat) := [(79, .ior, 1), (80, .istore_n 2, 1), (81, .aload_n 0, 1), (82, .getfield 22, 3), (85, .dup, 1), (86, .getfield 26, 3), (89, .iconst 1, 1), (90, .iadd, 1), (91, .putfield 26, 3), (94, .aload_n 0, 1), (95, .iload_n 1, 1), (96, .iload 5, 2), (98, .invokevirtual 90, 3), (101, .ifCond .ne 5, 3), (104, .iconst 0, 1), (105, .ireturn, 1), (106, .iinc 3 1, 3), (109, .goto (-90), 3), (112, .iconst 0, 1), (113, .ireturn, 1)]
theorem zhdX6_readsItems_79 : dzC ztdX6_readsItems_79 79 (cX6_readsItems.data.toList.drop 79) = true := by decide +kernel
theorem dX6_readsItems_79 : decode cX6_readsItems 79 = .ok (.ior, 1) := dzr zhdX6_readsItems_79 0 rfl
theorem dX6_readsItems_80 : decode cX6_readsItems 80 = .ok (.istore_n 2, 1) := dzr zhdX6_readsItems_79 1 rfl
theorem dX6_readsItems_81 : decode cX6_readsItems 81 = .ok (.aload_n 0, 1) := dzr zhdX6_readsItems_79 2 rfl
theorem dX6_readsItems_82 : decode cX6_readsItems 82 = .ok (.getfield 22, 3) := dzr zhdX6_readsItems_79 3 rfl
theorem dX6_readsItems_85 : decode cX6_readsItems 85 = .ok (.dup, 1) := dzr zhdX6_readsItems_79 4 rfl
theorem dX6_readsItems_86 : decode cX6_readsItems 86 = .ok (.getfield 26, 3) := dzr zhdX6_readsItems_79 5 rfl
theorem dX6_readsItems_89 : decode cX6_readsItems 89 = .ok (.iconst 1, 1) := dzr zhdX6_readsItems_79 6 rfl
theorem dX6_readsItems_90 : decode cX6_readsItems 90 = .ok (.iadd, 1) := dzr zhdX6_readsItems_79 7 rfl
theorem dX6_readsItems_91 : decode cX6_readsItems 91 = .ok (.putfield 26, 3) := dzr zhdX6_readsItems_79 8 rfl
theorem dX6_readsItems_94 : decode cX6_readsItems 94 = .ok (.aload_n 0, 1) := dzr zhdX6_readsItems_79 9 rfl
theorem dX6_readsItems_95 : decode cX6_readsItems 95 = .ok (.iload_n 1, 1) := dzr zhdX6_readsItems_79 10 rfl
theorem dX6_readsItems_96 : decode cX6_readsItems 96 = .ok (.iload 5, 2) := dzr zhdX6_readsItems_79 11 rfl
theorem dX6_readsItems_98 : decode cX6_readsItems 98 = .ok (.invokevirtual 90, 3) := dzr zhdX6_readsItems_79 12 rfl
theorem dX6_readsItems_101 : decode cX6_readsItems 101 = .ok (.ifCond .ne 5, 3) := dzr zhdX6_readsItems_79 13 rfl
theorem dX6_readsItems_104 : decode cX6_readsItems 104 = .ok (.iconst 0, 1) := dzr zhdX6_readsItems_79 14 rfl
theorem dX6_readsItems_105 : decode cX6_readsItems 105 = .ok (.ireturn, 1) := dzr zhdX6_readsItems_79 15 rfl
theorem dX6_readsItems_106 : decode cX6_readsItems 106 = .ok (.iinc 3 1, 3) := dzr zhdX6_readsItems_79 16 rfl
theorem dX6_readsItems_109 : decode cX6_readsItems 109 = .ok (.goto (-90), 3) := dzr zhdX6_readsItems_79 17 rfl
theorem dX6_readsItems_112 : decode cX6_readsItems 112 = .ok (.iconst 0, 1) := dzr zhdX6_readsItems_79 18 rfl
theorem dX6_readsItems_113 : decode cX6_readsItems 113 = .ok (.ireturn, 1) := dzr zhdX6_readsItems_79 19 rfl
def ztdX6_itemOf_0 : List (Nat × Instr × Nat) := [(0, .iconst 0, 1), (1, .istore_n 2, 1), (2, .iload_n 2, 1), (3, .iconst 4, 1), (4, .if_icmp .ge 24, 3), (7, .getstatic 94, 3), (10, .iload_n 0, 1), (11, .iconst 4, 1), (12, .imul, 1), (13, .iload_n 2, 1), (14, .iadd, 1), (15, .caload, 1), (16, .iload_n 1, 1), (17, .if_icmp .ne 5, 3), (20, .iload_n 2, 1), (21, .ireturn, 1), (22, .iinc 2 1, 3), (25, .goto (-23), 3), (28, .iconst (-1), 1), (29, .ireturn, 1)]
theorem zhdX6_itemOf_0 : dzC ztdX6_itemOf_0 0 (cX6_itemOf.data.toList.drop 0) = true := by decide +kernel
theorem dX6_itemOf_0 : decode cX6_itemOf 0 = .ok (.iconst 0, 1) := dzr zhdX6_itemOf_0 0 rfl
theorem dX6_itemOf_1 : decode cX6_itemOf 1 = .ok (.istore_n 2, 1) := dzr zhdX6_itemOf_0 1 rfl
theorem dX6_itemOf_2 : decode cX6_itemOf 2 = .ok (.iload_n 2, 1) := dzr zhdX6_itemOf_0 2 rfl
theorem dX6_itemOf_3 : decode cX6_itemOf 3 = .ok (.iconst 4, 1) := dzr zhdX6_itemOf_0 3 rfl
theorem dX6_itemOf_4 : decode cX6_itemOf 4 = .ok (.if_icmp .ge 24, 3) := dzr zhdX6_itemOf_0 4 rfl
theorem dX6_itemOf_7 : decode cX6_itemOf 7 = .ok (.getstatic 94, 3) := dzr zhdX6_itemOf_0 5 rfl
theorem dX6_itemOf_10 : decode cX6_itemOf 10 = .ok (.iload_n 0, 1) := dzr zhdX6_itemOf_0 6 rfl
theorem dX6_itemOf_11 : decode cX6_itemOf 11 = .ok (.iconst 4, 1) := dzr zhdX6_itemOf_0 7 rfl
theorem dX6_itemOf_12 : decode cX6_itemOf 12 = .ok (.imul, 1) := dzr zhdX6_itemOf_0 8 rfl
theorem dX6_itemOf_13 : decode cX6_itemOf 13 = .ok (.iload_n 2, 1) := dzr zhdX6_itemOf_0 9 rfl
theorem dX6_itemOf_14 : decode cX6_itemOf 14 = .ok (.iadd, 1) := dzr zhdX6_itemOf_0 10 rfl
theorem dX6_itemOf_15 : decode cX6_itemOf 15 = .ok (.caload, 1) := dzr zhdX6_itemOf_0 11 rfl
theorem dX6_itemOf_16 : decode cX6_itemOf 16 = .ok (.iload_n 1, 1) := dzr zhdX6_itemOf_0 12 rfl
theorem dX6_itemOf_17 : decode cX6_itemOf 17 = .ok (.if_icmp .ne 5, 3) := dzr zhdX6_itemOf_0 13 rfl
theorem dX6_itemOf_20 : decode cX6_itemOf 20 = .ok (.iload_n 2, 1) := dzr zhdX6_itemOf_0 14 rfl
theorem dX6_itemOf_21 : decode cX6_itemOf 21 = .ok (.ireturn, 1) := dzr zhdX6_itemOf_0 15 rfl
theorem dX6_itemOf_22 : decode cX6_itemOf 22 = .ok (.iinc 2 1, 3) := dzr zhdX6_itemOf_0 16 rfl
theorem dX6_itemOf_25 : decode cX6_itemOf 25 = .ok (.goto (-23), 3) := dzr zhdX6_itemOf_0 17 rfl
theorem dX6_itemOf_28 : decode cX6_itemOf 28 = .ok (.iconst (-1), 1) := dzr zhdX6_itemOf_0 18 rfl
theorem dX6_itemOf_29 : decode cX6_itemOf 29 = .ok (.ireturn, 1) := dzr zhdX6_itemOf_0 19 rfl
theorem ggX6_readsValue_X10_number : GoodIn wsX6_readsValue wsX10_number := (bg_up (bg_law (bi_wsL_law0_r11 _ (List.mem_of_getElem? (i := 12) rfl))))
theorem gX6_readsValue_X10_number : GoodIn wsX6_readsValue (wsV RX6 98 RX10 yX10_number wsX10_number) := goodIn_app (bg_up (bg_cons (bi_wsL_law0_r11 _ (List.mem_of_getElem? (i := 9) rfl)) (bg_cons (bi_wsL_law0_r11 _ (List.mem_of_getElem? (i := 10) rfl)) (bg_cons (bi_wsL_law0_r11 _ (List.mem_of_getElem? (i := 11) rfl)) (bg_cons (bi_wsL_law0_r1 _ (List.mem_of_getElem? (i := 16) rfl)) bg_nil))))) (bg_up (bg_law (bi_wsL_law0_r11 _ (List.mem_of_getElem? (i := 12) rfl))))
def ztdX6_readsValue_0 : List (Nat × Instr × Nat) := [(0, .aload_n 0, 1), (1, .getfield 22, 3), (4, .iconst 2, 1), (5, .invokevirtual 98, 3), (8, .istore_n 3, 1), (9, .iload_n 3, 1), (10, .iconst (-1), 1), (11, .if_icmp .ne 5, 3), (14, .iconst 0, 1), (15, .ireturn, 1), (16, .iload_n 3, 1), (17, .getstatic 101, 3), (20, .iload_n 1, 1), (21, .iconst 4, 1), (22, .imul, 1), (23, .iload_n 2, 1), (24, .iadd, 1), (25, .iaload, 1), (26, .if_icmp .le 18, 3), (29, .aload_n 0, 1), (30, .getfield 22, 3), (33, .dup, 1), (34, .getfield 26, 3), (37, .iconst 1, 1)]
theorem zhdX6_readsValue_0 : dzC ztdX6_readsValue_0 0 (cX6_readsValue.data.toList.drop 0) = true := by decide +kernel
theorem dX6_readsValue_0 : decode cX6_readsValue 0 = .ok (.aload_n 0, 1) := dzr zhdX6_readsValue_0 0 rfl
theorem dX6_readsValue_1 : decode cX6_readsValue 1 = .ok (.getfield 22, 3) := dzr zhdX6_readsValue_0 1 rfl
theorem dX6_readsValue_4 : decode cX6_readsValue 4 = .ok (.iconst 2, 1) := dzr zhdX6_readsValue_0 2 rfl
theorem dX6_readsValue_5 : decode cX6_readsValue 5 = .ok (.invokevirtual 98, 3) := dzr zhdX6_readsValue_0 3 rfl
theorem dX6_readsValue_8 : decode cX6_readsValue 8 = .ok (.istore_n 3, 1) := dzr zhdX6_readsValue_0 4 rfl
theorem dX6_readsValue_9 : decode cX6_readsValue 9 = .ok (.iload_n 3, 1) := dzr zhdX6_readsValue_0 5 rfl
theorem dX6_readsValue_10 : decode cX6_readsValue 10 = .ok (.iconst (-1), 1) := dzr zhdX6_readsValue_0 6 rfl
theorem dX6_readsValue_11 : decode cX6_readsValue 11 = .ok (.if_icmp .ne 5, 3) := dzr zhdX6_readsValue_0 7 rfl
theorem dX6_readsValue_14 : decode cX6_readsValue 14 = .ok (.iconst 0, 1) := dzr zhdX6_readsValue_0 8 rfl
theorem dX6_readsValue_15 : decode cX6_readsValue 15 = .ok (.ireturn, 1) := dzr zhdX6_readsValue_0 9 rfl
theorem dX6_readsValue_16 : decode cX6_readsValue 16 = .ok (.iload_n 3, 1) := dzr zhdX6_readsValue_0 10 rfl
theorem dX6_readsValue_17 : decode cX6_readsValue 17 = .ok (.getstatic 101, 3) := dzr zhdX6_readsValue_0 11 rfl
theorem dX6_readsValue_20 : decode cX6_readsValue 20 = .ok (.iload_n 1, 1) := dzr zhdX6_readsValue_0 12 rfl
theorem dX6_readsValue_21 : decode cX6_readsValue 21 = .ok (.iconst 4, 1) := dzr zhdX6_readsValue_0 13 rfl
theorem dX6_readsValue_22 : decode cX6_readsValue 22 = .ok (.imul, 1) := dzr zhdX6_readsValue_0 14 rfl
theorem dX6_readsValue_23 : decode cX6_readsValue 23 = .ok (.iload_n 2, 1) := dzr zhdX6_readsValue_0 15 rfl
theorem dX6_readsValue_24 : decode cX6_readsValue 24 = .ok (.iadd, 1) := dzr zhdX6_readsValue_0 16 rfl
theorem dX6_readsValue_25 : decode cX6_readsValue 25 = .ok (.iaload, 1) := dzr zhdX6_readsValue_0 17 rfl
theorem dX6_readsValue_26 : decode cX6_readsValue 26 = .ok (.if_icmp .le 18, 3) := dzr zhdX6_readsValue_0 18 rfl
theorem dX6_readsValue_29 : decode cX6_readsValue 29 = .ok (.aload_n 0, 1) := dzr zhdX6_readsValue_0 19 rfl
theorem dX6_readsValue_30 : decode cX6_readsValue 30 = .ok (.getfield 22, 3) := dzr zhdX6_readsValue_0 20 rfl
theorem dX6_readsValue_33 : decode cX6_readsValue 33 = .ok (.dup, 1) := dzr zhdX6_readsValue_0 21 rfl
theorem dX6_readsValue_34 : decode cX6_readsValue 34 = .ok (.getfield 26, 3) := dzr zhdX6_readsValue_0 22 rfl
theorem dX6_readsValue_37 : decode cX6_readsValue 37 = .ok (.iconst 1, 1) := dzr zhdX6_readsValue_0 23 rfl
def ztdX6_readsValue_38 : List (Nat × Instr × Nat) := [(38, .isub, 1), (39, .putfield 26, 3), (42, .iconst 0, 1), (43, .ireturn, 1), (44, .aload_n 0, 1), (45, .getfield 18, 3), (48, .iload_n 2, 1), (49, .iload_n 3, 1), (50, .iastore, 1), (51, .iconst 1, 1), (52, .ireturn, 1)]
theorem zhdX6_readsValue_38 : dzC ztdX6_readsValue_38 38 (cX6_readsValue.data.toList.drop 38) = true := by decide +kernel
theorem dX6_readsValue_38 : decode cX6_readsValue 38 = .ok (.isub, 1) := dzr zhdX6_readsValue_38 0 rfl
theorem dX6_readsValue_39 : decode cX6_readsValue 39 = .ok (.putfield 26, 3) := dzr zhdX6_readsValue_38 1 rfl
theorem dX6_readsValue_42 : decode cX6_readsValue 42 = .ok (.iconst 0, 1) := dzr zhdX6_readsValue_38 2 rfl
theorem dX6_readsValue_43 : decode cX6_readsValue 43 = .ok (.ireturn, 1) := dzr zhdX6_readsValue_38 3 rfl
theorem dX6_readsValue_44 : decode cX6_readsValue 44 = .ok (.aload_n 0, 1) := dzr zhdX6_readsValue_38 4 rfl
theorem dX6_readsValue_45 : decode cX6_readsValue 45 = .ok (.getfield 18, 3) := dzr zhdX6_readsValue_38 5 rfl
theorem dX6_readsValue_48 : decode cX6_readsValue 48 = .ok (.iload_n 2, 1) := dzr zhdX6_readsValue_38 6 rfl
theorem dX6_readsValue_49 : decode cX6_readsValue 49 = .ok (.iload_n 3, 1) := dzr zhdX6_readsValue_38 7 rfl
theorem dX6_readsValue_50 : decode cX6_readsValue 50 = .ok (.iastore, 1) := dzr zhdX6_readsValue_38 8 rfl
theorem dX6_readsValue_51 : decode cX6_readsValue 51 = .ok (.iconst 1, 1) := dzr zhdX6_readsValue_38 9 rfl
theorem dX6_readsValue_52 : decode cX6_readsValue 52 = .ok (.ireturn, 1) := dzr zhdX6_readsValue_38 10 rfl
def ztdX6_keep_0 : List (Nat × Instr × Nat) := [(0, .iload_n 1, 1), (1, .ifCond .ne 37, 3), (4, .aload_n 0, 1), (5, .iconst 1, 1), (6, .putfield 32, 3), (9, .aload_n 0, 1), (10, .getfield 12, 3), (13, .aload_n 0, 1), (14, .getfield 18, 3), (17, .iconst 0, 1), (18, .iaload, 1), (19, .putfield 45, 3), (22, .aload_n 0, 1), (23, .getfield 12, 3), (26, .aload_n 0, 1), (27, .getfield 18, 3), (30, .iconst 1, 1), (31, .iaload, 1), (32, .putfield 48, 3), (35, .goto 163, 3), (38, .iload_n 1, 1), (39, .iconst 1, 1), (40, .if_icmp .ne 103, 3), (43, .aload_n 0, 1)]
theorem zhdX6_keep_0 : dzC ztdX6_keep_0 0 (cX6_keep.data.toList.drop 0) = true := by decide +kernel
theorem dX6_keep_0 : decode cX6_keep 0 = .ok (.iload_n 1, 1) := dzr zhdX6_keep_0 0 rfl
theorem dX6_keep_1 : decode cX6_keep 1 = .ok (.ifCond .ne 37, 3) := dzr zhdX6_keep_0 1 rfl
theorem dX6_keep_4 : decode cX6_keep 4 = .ok (.aload_n 0, 1) := dzr zhdX6_keep_0 2 rfl
theorem dX6_keep_5 : decode cX6_keep 5 = .ok (.iconst 1, 1) := dzr zhdX6_keep_0 3 rfl
theorem dX6_keep_6 : decode cX6_keep 6 = .ok (.putfield 32, 3) := dzr zhdX6_keep_0 4 rfl
theorem dX6_keep_9 : decode cX6_keep 9 = .ok (.aload_n 0, 1) := dzr zhdX6_keep_0 5 rfl
theorem dX6_keep_10 : decode cX6_keep 10 = .ok (.getfield 12, 3) := dzr zhdX6_keep_0 6 rfl
theorem dX6_keep_13 : decode cX6_keep 13 = .ok (.aload_n 0, 1) := dzr zhdX6_keep_0 7 rfl
theorem dX6_keep_14 : decode cX6_keep 14 = .ok (.getfield 18, 3) := dzr zhdX6_keep_0 8 rfl
theorem dX6_keep_17 : decode cX6_keep 17 = .ok (.iconst 0, 1) := dzr zhdX6_keep_0 9 rfl
theorem dX6_keep_18 : decode cX6_keep 18 = .ok (.iaload, 1) := dzr zhdX6_keep_0 10 rfl
theorem dX6_keep_19 : decode cX6_keep 19 = .ok (.putfield 45, 3) := dzr zhdX6_keep_0 11 rfl
theorem dX6_keep_22 : decode cX6_keep 22 = .ok (.aload_n 0, 1) := dzr zhdX6_keep_0 12 rfl
theorem dX6_keep_23 : decode cX6_keep 23 = .ok (.getfield 12, 3) := dzr zhdX6_keep_0 13 rfl
theorem dX6_keep_26 : decode cX6_keep 26 = .ok (.aload_n 0, 1) := dzr zhdX6_keep_0 14 rfl
theorem dX6_keep_27 : decode cX6_keep 27 = .ok (.getfield 18, 3) := dzr zhdX6_keep_0 15 rfl
theorem dX6_keep_30 : decode cX6_keep 30 = .ok (.iconst 1, 1) := dzr zhdX6_keep_0 16 rfl
theorem dX6_keep_31 : decode cX6_keep 31 = .ok (.iaload, 1) := dzr zhdX6_keep_0 17 rfl
theorem dX6_keep_32 : decode cX6_keep 32 = .ok (.putfield 48, 3) := dzr zhdX6_keep_0 18 rfl
theorem dX6_keep_35 : decode cX6_keep 35 = .ok (.goto 163, 3) := dzr zhdX6_keep_0 19 rfl
theorem dX6_keep_38 : decode cX6_keep 38 = .ok (.iload_n 1, 1) := dzr zhdX6_keep_0 20 rfl
theorem dX6_keep_39 : decode cX6_keep 39 = .ok (.iconst 1, 1) := dzr zhdX6_keep_0 21 rfl
theorem dX6_keep_40 : decode cX6_keep 40 = .ok (.if_icmp .ne 103, 3) := dzr zhdX6_keep_0 22 rfl
theorem dX6_keep_43 : decode cX6_keep 43 = .ok (.aload_n 0, 1) := dzr zhdX6_keep_0 23 rfl
def ztdX6_keep_44 : List (Nat × Instr × Nat) := [(44, .getfield 12, 3), (47, .getfield 104, 3), (50, .aload_n 0, 1), (51, .getfield 12, 3), (54, .getfield 36, 3), (57, .aload_n 0, 1), (58, .getfield 18, 3), (61, .iconst 0, 1), (62, .iaload, 1), (63, .iastore, 1), (64, .aload_n 0, 1), (65, .getfield 12, 3), (68, .getfield 107, 3), (71, .aload_n 0, 1), (72, .getfield 12, 3), (75, .getfield 36, 3), (78, .aload_n 0, 1), (79, .getfield 18, 3), (82, .iconst 1, 1), (83, .iaload, 1), (84, .iastore, 1), (85, .aload_n 0, 1), (86, .getfield 12, 3), (89, .getfield 110, 3)]
theorem zhdX6_keep_44 : dzC ztdX6_keep_44 44 (cX6_keep.data.toList.drop 44) = true := by decide +kernel
theorem dX6_keep_44 : decode cX6_keep 44 = .ok (.getfield 12, 3) := dzr zhdX6_keep_44 0 rfl
theorem dX6_keep_47 : decode cX6_keep 47 = .ok (.getfield 104, 3) := dzr zhdX6_keep_44 1 rfl
theorem dX6_keep_50 : decode cX6_keep 50 = .ok (.aload_n 0, 1) := dzr zhdX6_keep_44 2 rfl
theorem dX6_keep_51 : decode cX6_keep 51 = .ok (.getfield 12, 3) := dzr zhdX6_keep_44 3 rfl
theorem dX6_keep_54 : decode cX6_keep 54 = .ok (.getfield 36, 3) := dzr zhdX6_keep_44 4 rfl
theorem dX6_keep_57 : decode cX6_keep 57 = .ok (.aload_n 0, 1) := dzr zhdX6_keep_44 5 rfl
theorem dX6_keep_58 : decode cX6_keep 58 = .ok (.getfield 18, 3) := dzr zhdX6_keep_44 6 rfl
theorem dX6_keep_61 : decode cX6_keep 61 = .ok (.iconst 0, 1) := dzr zhdX6_keep_44 7 rfl
theorem dX6_keep_62 : decode cX6_keep 62 = .ok (.iaload, 1) := dzr zhdX6_keep_44 8 rfl
theorem dX6_keep_63 : decode cX6_keep 63 = .ok (.iastore, 1) := dzr zhdX6_keep_44 9 rfl
theorem dX6_keep_64 : decode cX6_keep 64 = .ok (.aload_n 0, 1) := dzr zhdX6_keep_44 10 rfl
theorem dX6_keep_65 : decode cX6_keep 65 = .ok (.getfield 12, 3) := dzr zhdX6_keep_44 11 rfl
theorem dX6_keep_68 : decode cX6_keep 68 = .ok (.getfield 107, 3) := dzr zhdX6_keep_44 12 rfl
theorem dX6_keep_71 : decode cX6_keep 71 = .ok (.aload_n 0, 1) := dzr zhdX6_keep_44 13 rfl
theorem dX6_keep_72 : decode cX6_keep 72 = .ok (.getfield 12, 3) := dzr zhdX6_keep_44 14 rfl
theorem dX6_keep_75 : decode cX6_keep 75 = .ok (.getfield 36, 3) := dzr zhdX6_keep_44 15 rfl
theorem dX6_keep_78 : decode cX6_keep 78 = .ok (.aload_n 0, 1) := dzr zhdX6_keep_44 16 rfl
theorem dX6_keep_79 : decode cX6_keep 79 = .ok (.getfield 18, 3) := dzr zhdX6_keep_44 17 rfl
theorem dX6_keep_82 : decode cX6_keep 82 = .ok (.iconst 1, 1) := dzr zhdX6_keep_44 18 rfl
theorem dX6_keep_83 : decode cX6_keep 83 = .ok (.iaload, 1) := dzr zhdX6_keep_44 19 rfl
theorem dX6_keep_84 : decode cX6_keep 84 = .ok (.iastore, 1) := dzr zhdX6_keep_44 20 rfl
theorem dX6_keep_85 : decode cX6_keep 85 = .ok (.aload_n 0, 1) := dzr zhdX6_keep_44 21 rfl
theorem dX6_keep_86 : decode cX6_keep 86 = .ok (.getfield 12, 3) := dzr zhdX6_keep_44 22 rfl
theorem dX6_keep_89 : decode cX6_keep 89 = .ok (.getfield 110, 3) := dzr zhdX6_keep_44 23 rfl
def ztdX6_keep_92 : List (Nat × Instr × Nat) := [(92, .aload_n 0, 1), (93, .getfield 12, 3), (96, .getfield 36, 3), (99, .aload_n 0, 1), (100, .getfield 18, 3), (103, .iconst 2, 1), (104, .iaload, 1), (105, .iastore, 1), (106, .aload_n 0, 1), (107, .getfield 12, 3), (110, .getfield 113, 3), (113, .aload_n 0, 1), (114, .getfield 12, 3), (117, .getfield 36, 3), (120, .aload_n 0, 1), (121, .getfield 18, 3), (124, .iconst 3, 1), (125, .iaload, 1), (126, .iastore, 1), (127, .aload_n 0, 1), (128, .getfield 12, 3), (131, .dup, 1), (132, .getfield 36, 3), (135, .iconst 1, 1)]
theorem zhdX6_keep_92 : dzC ztdX6_keep_92 92 (cX6_keep.data.toList.drop 92) = true := by decide +kernel
theorem dX6_keep_92 : decode cX6_keep 92 = .ok (.aload_n 0, 1) := dzr zhdX6_keep_92 0 rfl
theorem dX6_keep_93 : decode cX6_keep 93 = .ok (.getfield 12, 3) := dzr zhdX6_keep_92 1 rfl
theorem dX6_keep_96 : decode cX6_keep 96 = .ok (.getfield 36, 3) := dzr zhdX6_keep_92 2 rfl
theorem dX6_keep_99 : decode cX6_keep 99 = .ok (.aload_n 0, 1) := dzr zhdX6_keep_92 3 rfl
theorem dX6_keep_100 : decode cX6_keep 100 = .ok (.getfield 18, 3) := dzr zhdX6_keep_92 4 rfl
theorem dX6_keep_103 : decode cX6_keep 103 = .ok (.iconst 2, 1) := dzr zhdX6_keep_92 5 rfl
theorem dX6_keep_104 : decode cX6_keep 104 = .ok (.iaload, 1) := dzr zhdX6_keep_92 6 rfl
theorem dX6_keep_105 : decode cX6_keep 105 = .ok (.iastore, 1) := dzr zhdX6_keep_92 7 rfl
theorem dX6_keep_106 : decode cX6_keep 106 = .ok (.aload_n 0, 1) := dzr zhdX6_keep_92 8 rfl
theorem dX6_keep_107 : decode cX6_keep 107 = .ok (.getfield 12, 3) := dzr zhdX6_keep_92 9 rfl
theorem dX6_keep_110 : decode cX6_keep 110 = .ok (.getfield 113, 3) := dzr zhdX6_keep_92 10 rfl
theorem dX6_keep_113 : decode cX6_keep 113 = .ok (.aload_n 0, 1) := dzr zhdX6_keep_92 11 rfl
theorem dX6_keep_114 : decode cX6_keep 114 = .ok (.getfield 12, 3) := dzr zhdX6_keep_92 12 rfl
theorem dX6_keep_117 : decode cX6_keep 117 = .ok (.getfield 36, 3) := dzr zhdX6_keep_92 13 rfl
theorem dX6_keep_120 : decode cX6_keep 120 = .ok (.aload_n 0, 1) := dzr zhdX6_keep_92 14 rfl
theorem dX6_keep_121 : decode cX6_keep 121 = .ok (.getfield 18, 3) := dzr zhdX6_keep_92 15 rfl
theorem dX6_keep_124 : decode cX6_keep 124 = .ok (.iconst 3, 1) := dzr zhdX6_keep_92 16 rfl
theorem dX6_keep_125 : decode cX6_keep 125 = .ok (.iaload, 1) := dzr zhdX6_keep_92 17 rfl
theorem dX6_keep_126 : decode cX6_keep 126 = .ok (.iastore, 1) := dzr zhdX6_keep_92 18 rfl
theorem dX6_keep_127 : decode cX6_keep 127 = .ok (.aload_n 0, 1) := dzr zhdX6_keep_92 19 rfl
theorem dX6_keep_128 : decode cX6_keep 128 = .ok (.getfield 12, 3) := dzr zhdX6_keep_92 20 rfl
theorem dX6_keep_131 : decode cX6_keep 131 = .ok (.dup, 1) := dzr zhdX6_keep_92 21 rfl
theorem dX6_keep_132 : decode cX6_keep 132 = .ok (.getfield 36, 3) := dzr zhdX6_keep_92 22 rfl
theorem dX6_keep_135 : decode cX6_keep 135 = .ok (.iconst 1, 1) := dzr zhdX6_keep_92 23 rfl
def ztdX6_keep_136 : List (Nat × Instr × Nat) := [(136, .iadd, 1), (137, .putfield 36, 3), (140, .goto 58, 3), (143, .aload_n 0, 1), (144, .getfield 12, 3), (147, .getfield 116, 3), (150, .aload_n 0, 1), (151, .getfield 12, 3), (154, .getfield 39, 3), (157, .aload_n 0, 1), (158, .getfield 18, 3), (161, .iconst 0, 1), (162, .iaload, 1), (163, .iastore, 1), (164, .aload_n 0, 1), (165, .getfield 12, 3), (168, .getfield 119, 3), (171, .aload_n 0, 1), (172, .getfield 12, 3), (175, .getfield 39, 3), (178, .aload_n 0, 1), (179, .getfield 18, 3), (182, .iconst 1, 1), (183, .iaload, 1)]
theorem zhdX6_keep_136 : dzC ztdX6_keep_136 136 (cX6_keep.data.toList.drop 136) = true := by decide +kernel
theorem dX6_keep_136 : decode cX6_keep 136 = .ok (.iadd, 1) := dzr zhdX6_keep_136 0 rfl
theorem dX6_keep_137 : decode cX6_keep 137 = .ok (.putfield 36, 3) := dzr zhdX6_keep_136 1 rfl
theorem dX6_keep_140 : decode cX6_keep 140 = .ok (.goto 58, 3) := dzr zhdX6_keep_136 2 rfl
theorem dX6_keep_143 : decode cX6_keep 143 = .ok (.aload_n 0, 1) := dzr zhdX6_keep_136 3 rfl
theorem dX6_keep_144 : decode cX6_keep 144 = .ok (.getfield 12, 3) := dzr zhdX6_keep_136 4 rfl
theorem dX6_keep_147 : decode cX6_keep 147 = .ok (.getfield 116, 3) := dzr zhdX6_keep_136 5 rfl
theorem dX6_keep_150 : decode cX6_keep 150 = .ok (.aload_n 0, 1) := dzr zhdX6_keep_136 6 rfl
theorem dX6_keep_151 : decode cX6_keep 151 = .ok (.getfield 12, 3) := dzr zhdX6_keep_136 7 rfl
theorem dX6_keep_154 : decode cX6_keep 154 = .ok (.getfield 39, 3) := dzr zhdX6_keep_136 8 rfl
theorem dX6_keep_157 : decode cX6_keep 157 = .ok (.aload_n 0, 1) := dzr zhdX6_keep_136 9 rfl
theorem dX6_keep_158 : decode cX6_keep 158 = .ok (.getfield 18, 3) := dzr zhdX6_keep_136 10 rfl
theorem dX6_keep_161 : decode cX6_keep 161 = .ok (.iconst 0, 1) := dzr zhdX6_keep_136 11 rfl
theorem dX6_keep_162 : decode cX6_keep 162 = .ok (.iaload, 1) := dzr zhdX6_keep_136 12 rfl
theorem dX6_keep_163 : decode cX6_keep 163 = .ok (.iastore, 1) := dzr zhdX6_keep_136 13 rfl
theorem dX6_keep_164 : decode cX6_keep 164 = .ok (.aload_n 0, 1) := dzr zhdX6_keep_136 14 rfl
theorem dX6_keep_165 : decode cX6_keep 165 = .ok (.getfield 12, 3) := dzr zhdX6_keep_136 15 rfl
theorem dX6_keep_168 : decode cX6_keep 168 = .ok (.getfield 119, 3) := dzr zhdX6_keep_136 16 rfl
theorem dX6_keep_171 : decode cX6_keep 171 = .ok (.aload_n 0, 1) := dzr zhdX6_keep_136 17 rfl
theorem dX6_keep_172 : decode cX6_keep 172 = .ok (.getfield 12, 3) := dzr zhdX6_keep_136 18 rfl
theorem dX6_keep_175 : decode cX6_keep 175 = .ok (.getfield 39, 3) := dzr zhdX6_keep_136 19 rfl
theorem dX6_keep_178 : decode cX6_keep 178 = .ok (.aload_n 0, 1) := dzr zhdX6_keep_136 20 rfl
theorem dX6_keep_179 : decode cX6_keep 179 = .ok (.getfield 18, 3) := dzr zhdX6_keep_136 21 rfl
theorem dX6_keep_182 : decode cX6_keep 182 = .ok (.iconst 1, 1) := dzr zhdX6_keep_136 22 rfl
theorem dX6_keep_183 : decode cX6_keep 183 = .ok (.iaload, 1) := dzr zhdX6_keep_136 23 rfl
def ztdX6_keep_184 : List (Nat × Instr × Nat) := [(184, .iastore, 1), (185, .aload_n 0, 1), (186, .getfield 12, 3), (189, .dup, 1), (190, .getfield 39, 3), (193, .iconst 1, 1), (194, .iadd, 1), (195, .putfield 39, 3), (198, .return_, 1)]
theorem zhdX6_keep_184 : dzC ztdX6_keep_184 184 (cX6_keep.data.toList.drop 184) = true := by decide +kernel
theorem dX6_keep_184 : decode cX6_keep 184 = .ok (.iastore, 1) := dzr zhdX6_keep_184 0 rfl
theorem dX6_keep_185 : decode cX6_keep 185 = .ok (.aload_n 0, 1) := dzr zhdX6_keep_184 1 rfl
theorem dX6_keep_186 : decode cX6_keep 186 = .ok (.getfield 12, 3) := dzr zhdX6_keep_184 2 rfl
theorem dX6_keep_189 : decode cX6_keep 189 = .ok (.dup, 1) := dzr zhdX6_keep_184 3 rfl
theorem dX6_keep_190 : decode cX6_keep 190 = .ok (.getfield 39, 3) := dzr zhdX6_keep_184 4 rfl
theorem dX6_keep_193 : decode cX6_keep 193 = .ok (.iconst 1, 1) := dzr zhdX6_keep_184 5 rfl
theorem dX6_keep_194 : decode cX6_keep 194 = .ok (.iadd, 1) := dzr zhdX6_keep_184 6 rfl
theorem dX6_keep_195 : decode cX6_keep 195 = .ok (.putfield 39, 3) := dzr zhdX6_keep_184 7 rfl
theorem dX6_keep_198 : decode cX6_keep 198 = .ok (.return_, 1) := dzr zhdX6_keep_184 8 rfl
def ztdX7_init_0 : List (Nat × Instr × Nat) := [(0, .aload_n 0, 1), (1, .invokespecial 3, 3), (4, .return_, 1)]
theorem zhdX7_init_0 : dzC ztdX7_init_0 0 (cX7_init.data.toList.drop 0) = true := by decide +kernel
theorem dX7_init_0 : decode cX7_init 0 = .ok (.aload_n 0, 1) := dzr zhdX7_init_0 0 rfl
theorem dX7_init_1 : decode cX7_init 1 = .ok (.invokespecial 3, 3) := dzr zhdX7_init_0 1 rfl
theorem dX7_init_4 : decode cX7_init 4 = .ok (.return_, 1) := dzr zhdX7_init_0 2 rfl
theorem ggX7_partsWarm_X9_warmthOf : GoodIn wsX7_partsWarm wsX9_warmthOf := (bg_up (bg_law (bi_wsL_law0_r27 _ (List.mem_of_getElem? (i := 2) rfl))))
theorem gX7_partsWarm_X9_warmthOf : GoodIn wsX7_partsWarm (wsV RX7 29 RX9 yX9_warmthOf wsX9_warmthOf) := goodIn_app (bg_up (bg_cons (bi_wsL_law0_r53 _ (List.mem_of_getElem? (i := 14) rfl)) (bg_cons (bi_wsL_law0_r27 _ (List.mem_of_getElem? (i := 0) rfl)) (bg_cons (bi_wsL_law0_r27 _ (List.mem_of_getElem? (i := 1) rfl)) (bg_cons (bi_wsL_law0_r2 _ (List.mem_of_getElem? (i := 12) rfl)) bg_nil))))) (bg_up (bg_law (bi_wsL_law0_r27 _ (List.mem_of_getElem? (i := 2) rfl))))
theorem ggX7_partsWarm_X7_split : GoodIn wsX7_partsWarm wsX7_split := (bg_up (bg_law (bi_wsL_law0_r53 _ (List.mem_of_getElem? (i := 18) rfl))))
theorem gX7_partsWarm_X7_split : GoodIn wsX7_partsWarm (wsV RX7 35 RX7 yX7_split wsX7_split) := goodIn_app (bg_up (bg_cons (bi_wsL_law0_r53 _ (List.mem_of_getElem? (i := 15) rfl)) (bg_cons (bi_wsL_law0_r53 _ (List.mem_of_getElem? (i := 16) rfl)) (bg_cons (bi_wsL_law0_r53 _ (List.mem_of_getElem? (i := 17) rfl)) (bg_cons (bi_wsL_law0_r3 _ (List.mem_of_getElem? (i := 11) rfl)) bg_nil))))) (bg_up (bg_law (bi_wsL_law0_r53 _ (List.mem_of_getElem? (i := 18) rfl))))
def ztdX7_partsWarm_0 : List (Nat × Instr × Nat) := [(0, .aload_n 0, 1), (1, .aload_n 1, 1), (2, .putfield 9, 3), (5, .aload_n 0, 1), (6, .iload_n 2, 1), (7, .putfield 15, 3), (10, .aload_n 0, 1), (11, .iload_n 3, 1), (12, .putfield 19, 3), (15, .aload_n 0, 1), (16, .iload 4, 2), (18, .putfield 22, 3), (21, .aload_n 0, 1), (22, .iload 5, 2), (24, .putfield 25, 3), (27, .aload_n 0, 1), (28, .ldc 28, 2), (30, .aload_n 1, 1), (31, .iload_n 2, 1), (32, .bipush 10, 2), (34, .idiv, 1), (35, .iload_n 2, 1), (36, .bipush 10, 2), (38, .irem, 1)]
theorem zhdX7_partsWarm_0 : dzC ztdX7_partsWarm_0 0 (cX7_partsWarm.data.toList.drop 0) = true := by decide +kernel
theorem dX7_partsWarm_0 : decode cX7_partsWarm 0 = .ok (.aload_n 0, 1) := dzr zhdX7_partsWarm_0 0 rfl
theorem dX7_partsWarm_1 : decode cX7_partsWarm 1 = .ok (.aload_n 1, 1) := dzr zhdX7_partsWarm_0 1 rfl
theorem dX7_partsWarm_2 : decode cX7_partsWarm 2 = .ok (.putfield 9, 3) := dzr zhdX7_partsWarm_0 2 rfl
theorem dX7_partsWarm_5 : decode cX7_partsWarm 5 = .ok (.aload_n 0, 1) := dzr zhdX7_partsWarm_0 3 rfl
theorem dX7_partsWarm_6 : decode cX7_partsWarm 6 = .ok (.iload_n 2, 1) := dzr zhdX7_partsWarm_0 4 rfl
theorem dX7_partsWarm_7 : decode cX7_partsWarm 7 = .ok (.putfield 15, 3) := dzr zhdX7_partsWarm_0 5 rfl
theorem dX7_partsWarm_10 : decode cX7_partsWarm 10 = .ok (.aload_n 0, 1) := dzr zhdX7_partsWarm_0 6 rfl
theorem dX7_partsWarm_11 : decode cX7_partsWarm 11 = .ok (.iload_n 3, 1) := dzr zhdX7_partsWarm_0 7 rfl
theorem dX7_partsWarm_12 : decode cX7_partsWarm 12 = .ok (.putfield 19, 3) := dzr zhdX7_partsWarm_0 8 rfl
theorem dX7_partsWarm_15 : decode cX7_partsWarm 15 = .ok (.aload_n 0, 1) := dzr zhdX7_partsWarm_0 9 rfl
theorem dX7_partsWarm_16 : decode cX7_partsWarm 16 = .ok (.iload 4, 2) := dzr zhdX7_partsWarm_0 10 rfl
theorem dX7_partsWarm_18 : decode cX7_partsWarm 18 = .ok (.putfield 22, 3) := dzr zhdX7_partsWarm_0 11 rfl
theorem dX7_partsWarm_21 : decode cX7_partsWarm 21 = .ok (.aload_n 0, 1) := dzr zhdX7_partsWarm_0 12 rfl
theorem dX7_partsWarm_22 : decode cX7_partsWarm 22 = .ok (.iload 5, 2) := dzr zhdX7_partsWarm_0 13 rfl
theorem dX7_partsWarm_24 : decode cX7_partsWarm 24 = .ok (.putfield 25, 3) := dzr zhdX7_partsWarm_0 14 rfl
theorem dX7_partsWarm_27 : decode cX7_partsWarm 27 = .ok (.aload_n 0, 1) := dzr zhdX7_partsWarm_0 15 rfl
theorem dX7_partsWarm_28 : decode cX7_partsWarm 28 = .ok (.ldc 28, 2) := dzr zhdX7_partsWarm_0 16 rfl
theorem dX7_partsWarm_30 : decode cX7_partsWarm 30 = .ok (.aload_n 1, 1) := dzr zhdX7_partsWarm_0 17 rfl
theorem dX7_partsWarm_31 : decode cX7_partsWarm 31 = .ok (.iload_n 2, 1) := dzr zhdX7_partsWarm_0 18 rfl
theorem dX7_partsWarm_32 : decode cX7_partsWarm 32 = .ok (.bipush 10, 2) := dzr zhdX7_partsWarm_0 19 rfl
theorem dX7_partsWarm_34 : decode cX7_partsWarm 34 = .ok (.idiv, 1) := dzr zhdX7_partsWarm_0 20 rfl
theorem dX7_partsWarm_35 : decode cX7_partsWarm 35 = .ok (.iload_n 2, 1) := dzr zhdX7_partsWarm_0 21 rfl
theorem dX7_partsWarm_36 : decode cX7_partsWarm 36 = .ok (.bipush 10, 2) := dzr zhdX7_partsWarm_0 22 rfl
theorem dX7_partsWarm_38 : decode cX7_partsWarm 38 = .ok (.irem, 1) := dzr zhdX7_partsWarm_0 23 rfl
def ztdX7_partsWarm_39 : List (Nat × Instr × Nat) := [(39, .invokevirtual 29, 3), (42, .iconst 0, 1), (43, .invokevirtual 35, 3), (46, .ireturn, 1)]
theorem zhdX7_partsWarm_39 : dzC ztdX7_partsWarm_39 39 (cX7_partsWarm.data.toList.drop 39) = true := by decide +kernel
theorem dX7_partsWarm_39 : decode cX7_partsWarm 39 = .ok (.invokevirtual 29, 3) := dzr zhdX7_partsWarm_39 0 rfl
theorem dX7_partsWarm_42 : decode cX7_partsWarm 42 = .ok (.iconst 0, 1) := dzr zhdX7_partsWarm_39 1 rfl
theorem dX7_partsWarm_43 : decode cX7_partsWarm 43 = .ok (.invokevirtual 35, 3) := dzr zhdX7_partsWarm_39 2 rfl
theorem dX7_partsWarm_46 : decode cX7_partsWarm 46 = .ok (.ireturn, 1) := dzr zhdX7_partsWarm_39 3 rfl
theorem ggX7_split_X9_warmer : GoodIn wsX7_split wsX9_warmer := (bg_up (bg_law (bi_wsL_law0_r29 _ (List.mem_of_getElem? (i := 13) rfl))))
theorem gX7_split_X9_warmer : GoodIn wsX7_split (wsV RX7 41 RX9 yX9_warmer wsX9_warmer) := goodIn_app (bg_up (bg_cons (bi_wsL_law0_r53 _ (List.mem_of_getElem? (i := 20) rfl)) (bg_cons (bi_wsL_law0_r29 _ (List.mem_of_getElem? (i := 11) rfl)) (bg_cons (bi_wsL_law0_r29 _ (List.mem_of_getElem? (i := 12) rfl)) (bg_cons (bi_wsL_law0_r2 _ (List.mem_of_getElem? (i := 12) rfl)) bg_nil))))) (bg_up (bg_law (bi_wsL_law0_r29 _ (List.mem_of_getElem? (i := 13) rfl))))
theorem ggX7_split_X7_behind : GoodIn wsX7_split wsX7_behind := (bg_up (bg_law (bi_wsL_law0_r54 _ (List.mem_of_getElem? (i := 0) rfl))))
theorem gX7_split_X7_behind : GoodIn wsX7_split (wsV RX7 45 RX7 yX7_behind wsX7_behind) := goodIn_app (bg_up (bg_cons (bi_wsL_law0_r53 _ (List.mem_of_getElem? (i := 21) rfl)) (bg_cons (bi_wsL_law0_r53 _ (List.mem_of_getElem? (i := 22) rfl)) (bg_cons (bi_wsL_law0_r53 _ (List.mem_of_getElem? (i := 23) rfl)) (bg_cons (bi_wsL_law0_r3 _ (List.mem_of_getElem? (i := 11) rfl)) bg_nil))))) (bg_up (bg_law (bi_wsL_law0_r54 _ (List.mem_of_getElem? (i := 0) rfl))))
def ztdX7_split_0 : List (Nat × Instr × Nat) := [(0, .iload_n 3, 1), (1, .aload_n 0, 1), (2, .getfield 22, 3), (5, .if_icmp .ge 13, 3), (8, .iload_n 3, 1), (9, .bipush 8, 2), (11, .if_icmp .ge 7, 3), (14, .iload_n 1, 1), (15, .ifCond .ne 5, 3), (18, .iconst 0, 1), (19, .ireturn, 1), (20, .iload_n 1, 1), (21, .i2l, 1), (22, .aload_n 0, 1), (23, .getfield 25, 3), (26, .i2l, 1), (27, .lmul, 1), (28, .ldc2_w 39, 3), (31, .ldiv, 1), (32, .l2i, 1), (33, .istore 4, 2), (35, .aload_n 0, 1), (36, .getfield 9, 3), (39, .aload_n 0, 1)]
theorem zhdX7_split_0 : dzC ztdX7_split_0 0 (cX7_split.data.toList.drop 0) = true := by decide +kernel
theorem dX7_split_0 : decode cX7_split 0 = .ok (.iload_n 3, 1) := dzr zhdX7_split_0 0 rfl
theorem dX7_split_1 : decode cX7_split 1 = .ok (.aload_n 0, 1) := dzr zhdX7_split_0 1 rfl
theorem dX7_split_2 : decode cX7_split 2 = .ok (.getfield 22, 3) := dzr zhdX7_split_0 2 rfl
theorem dX7_split_5 : decode cX7_split 5 = .ok (.if_icmp .ge 13, 3) := dzr zhdX7_split_0 3 rfl
theorem dX7_split_8 : decode cX7_split 8 = .ok (.iload_n 3, 1) := dzr zhdX7_split_0 4 rfl
theorem dX7_split_9 : decode cX7_split 9 = .ok (.bipush 8, 2) := dzr zhdX7_split_0 5 rfl
theorem dX7_split_11 : decode cX7_split 11 = .ok (.if_icmp .ge 7, 3) := dzr zhdX7_split_0 6 rfl
theorem dX7_split_14 : decode cX7_split 14 = .ok (.iload_n 1, 1) := dzr zhdX7_split_0 7 rfl
theorem dX7_split_15 : decode cX7_split 15 = .ok (.ifCond .ne 5, 3) := dzr zhdX7_split_0 8 rfl
theorem dX7_split_18 : decode cX7_split 18 = .ok (.iconst 0, 1) := dzr zhdX7_split_0 9 rfl
theorem dX7_split_19 : decode cX7_split 19 = .ok (.ireturn, 1) := dzr zhdX7_split_0 10 rfl
theorem dX7_split_20 : decode cX7_split 20 = .ok (.iload_n 1, 1) := dzr zhdX7_split_0 11 rfl
theorem dX7_split_21 : decode cX7_split 21 = .ok (.i2l, 1) := dzr zhdX7_split_0 12 rfl
theorem dX7_split_22 : decode cX7_split 22 = .ok (.aload_n 0, 1) := dzr zhdX7_split_0 13 rfl
theorem dX7_split_23 : decode cX7_split 23 = .ok (.getfield 25, 3) := dzr zhdX7_split_0 14 rfl
theorem dX7_split_26 : decode cX7_split 26 = .ok (.i2l, 1) := dzr zhdX7_split_0 15 rfl
theorem dX7_split_27 : decode cX7_split 27 = .ok (.lmul, 1) := dzr zhdX7_split_0 16 rfl
theorem dX7_split_28 : decode cX7_split 28 = .ok (.ldc2_w 39, 3) := dzr zhdX7_split_0 17 rfl
theorem dX7_split_31 : decode cX7_split 31 = .ok (.ldiv, 1) := dzr zhdX7_split_0 18 rfl
theorem dX7_split_32 : decode cX7_split 32 = .ok (.l2i, 1) := dzr zhdX7_split_0 19 rfl
theorem dX7_split_33 : decode cX7_split 33 = .ok (.istore 4, 2) := dzr zhdX7_split_0 20 rfl
theorem dX7_split_35 : decode cX7_split 35 = .ok (.aload_n 0, 1) := dzr zhdX7_split_0 21 rfl
theorem dX7_split_36 : decode cX7_split 36 = .ok (.getfield 9, 3) := dzr zhdX7_split_0 22 rfl
theorem dX7_split_39 : decode cX7_split 39 = .ok (.aload_n 0, 1) := dzr zhdX7_split_0 23 rfl
def ztdX7_split_40 : List (Nat × Instr × Nat) := [(40, .getfield 15, 3), (43, .bipush 10, 2), (45, .idiv, 1), (46, .aload_n 0, 1), (47, .getfield 15, 3), (50, .bipush 10, 2), (52, .irem, 1), (53, .iload_n 2, 1), (54, .iload_n 3, 1), (55, .invokevirtual 41, 3), (58, .istore 5, 2), (60, .aload_n 0, 1), (61, .iload 4, 2), (63, .iload_n 2, 1), (64, .iconst 2, 1), (65, .idiv, 1), (66, .iload_n 3, 1), (67, .iconst 1, 1), (68, .iadd, 1), (69, .invokevirtual 45, 3), (72, .aload_n 0, 1), (73, .iload_n 1, 1), (74, .iload 4, 2), (76, .isub, 1)]
theorem zhdX7_split_40 : dzC ztdX7_split_40 40 (cX7_split.data.toList.drop 40) = true := by decide +kernel
theorem dX7_split_40 : decode cX7_split 40 = .ok (.getfield 15, 3) := dzr zhdX7_split_40 0 rfl
theorem dX7_split_43 : decode cX7_split 43 = .ok (.bipush 10, 2) := dzr zhdX7_split_40 1 rfl
theorem dX7_split_45 : decode cX7_split 45 = .ok (.idiv, 1) := dzr zhdX7_split_40 2 rfl
theorem dX7_split_46 : decode cX7_split 46 = .ok (.aload_n 0, 1) := dzr zhdX7_split_40 3 rfl
theorem dX7_split_47 : decode cX7_split 47 = .ok (.getfield 15, 3) := dzr zhdX7_split_40 4 rfl
theorem dX7_split_50 : decode cX7_split 50 = .ok (.bipush 10, 2) := dzr zhdX7_split_40 5 rfl
theorem dX7_split_52 : decode cX7_split 52 = .ok (.irem, 1) := dzr zhdX7_split_40 6 rfl
theorem dX7_split_53 : decode cX7_split 53 = .ok (.iload_n 2, 1) := dzr zhdX7_split_40 7 rfl
theorem dX7_split_54 : decode cX7_split 54 = .ok (.iload_n 3, 1) := dzr zhdX7_split_40 8 rfl
theorem dX7_split_55 : decode cX7_split 55 = .ok (.invokevirtual 41, 3) := dzr zhdX7_split_40 9 rfl
theorem dX7_split_58 : decode cX7_split 58 = .ok (.istore 5, 2) := dzr zhdX7_split_40 10 rfl
theorem dX7_split_60 : decode cX7_split 60 = .ok (.aload_n 0, 1) := dzr zhdX7_split_40 11 rfl
theorem dX7_split_61 : decode cX7_split 61 = .ok (.iload 4, 2) := dzr zhdX7_split_40 12 rfl
theorem dX7_split_63 : decode cX7_split 63 = .ok (.iload_n 2, 1) := dzr zhdX7_split_40 13 rfl
theorem dX7_split_64 : decode cX7_split 64 = .ok (.iconst 2, 1) := dzr zhdX7_split_40 14 rfl
theorem dX7_split_65 : decode cX7_split 65 = .ok (.idiv, 1) := dzr zhdX7_split_40 15 rfl
theorem dX7_split_66 : decode cX7_split 66 = .ok (.iload_n 3, 1) := dzr zhdX7_split_40 16 rfl
theorem dX7_split_67 : decode cX7_split 67 = .ok (.iconst 1, 1) := dzr zhdX7_split_40 17 rfl
theorem dX7_split_68 : decode cX7_split 68 = .ok (.iadd, 1) := dzr zhdX7_split_40 18 rfl
theorem dX7_split_69 : decode cX7_split 69 = .ok (.invokevirtual 45, 3) := dzr zhdX7_split_40 19 rfl
theorem dX7_split_72 : decode cX7_split 72 = .ok (.aload_n 0, 1) := dzr zhdX7_split_40 20 rfl
theorem dX7_split_73 : decode cX7_split 73 = .ok (.iload_n 1, 1) := dzr zhdX7_split_40 21 rfl
theorem dX7_split_74 : decode cX7_split 74 = .ok (.iload 4, 2) := dzr zhdX7_split_40 22 rfl
theorem dX7_split_76 : decode cX7_split 76 = .ok (.isub, 1) := dzr zhdX7_split_40 23 rfl
def ztdX7_split_77 : List (Nat × Instr × Nat) := [(77, .iload 5, 2), (79, .iload_n 3, 1), (80, .iconst 1, 1), (81, .iadd, 1), (82, .invokevirtual 45, 3), (85, .iadd, 1), (86, .ireturn, 1)]
theorem zhdX7_split_77 : dzC ztdX7_split_77 77 (cX7_split.data.toList.drop 77) = true := by decide +kernel
theorem dX7_split_77 : decode cX7_split 77 = .ok (.iload 5, 2) := dzr zhdX7_split_77 0 rfl
theorem dX7_split_79 : decode cX7_split 79 = .ok (.iload_n 3, 1) := dzr zhdX7_split_77 1 rfl
theorem dX7_split_80 : decode cX7_split 80 = .ok (.iconst 1, 1) := dzr zhdX7_split_77 2 rfl
theorem dX7_split_81 : decode cX7_split 81 = .ok (.iadd, 1) := dzr zhdX7_split_77 3 rfl
theorem dX7_split_82 : decode cX7_split 82 = .ok (.invokevirtual 45, 3) := dzr zhdX7_split_77 4 rfl
theorem dX7_split_85 : decode cX7_split 85 = .ok (.iadd, 1) := dzr zhdX7_split_77 5 rfl
theorem dX7_split_86 : decode cX7_split 86 = .ok (.ireturn, 1) := dzr zhdX7_split_77 6 rfl
theorem ggX7_behind_X7_split : GoodIn wsX7_behind wsX7_split := (bg_up (bg_law (bi_wsL_law0_r53 _ (List.mem_of_getElem? (i := 18) rfl))))
theorem gX7_behind_X7_split : GoodIn wsX7_behind (wsV RX7 35 RX7 yX7_split wsX7_split) := goodIn_app (bg_up (bg_cons (bi_wsL_law0_r53 _ (List.mem_of_getElem? (i := 15) rfl)) (bg_cons (bi_wsL_law0_r53 _ (List.mem_of_getElem? (i := 16) rfl)) (bg_cons (bi_wsL_law0_r53 _ (List.mem_of_getElem? (i := 17) rfl)) (bg_cons (bi_wsL_law0_r3 _ (List.mem_of_getElem? (i := 11) rfl)) bg_nil))))) (bg_up (bg_law (bi_wsL_law0_r53 _ (List.mem_of_getElem? (i := 18) rfl))))
def ztdX7_behind_0 : List (Nat × Instr × Nat) := [(0, .iload_n 2, 1), (1, .aload_n 0, 1), (2, .getfield 19, 3), (5, .if_icmp .lt 7, 3), (8, .iload_n 1, 1), (9, .goto 10, 3), (12, .aload_n 0, 1), (13, .iload_n 1, 1), (14, .iload_n 2, 1), (15, .iload_n 3, 1), (16, .invokevirtual 35, 3), (19, .ireturn, 1)]
theorem zhdX7_behind_0 : dzC ztdX7_behind_0 0 (cX7_behind.data.toList.drop 0) = true := by decide +kernel
theorem dX7_behind_0 : decode cX7_behind 0 = .ok (.iload_n 2, 1) := dzr zhdX7_behind_0 0 rfl
theorem dX7_behind_1 : decode cX7_behind 1 = .ok (.aload_n 0, 1) := dzr zhdX7_behind_0 1 rfl
theorem dX7_behind_2 : decode cX7_behind 2 = .ok (.getfield 19, 3) := dzr zhdX7_behind_0 2 rfl
theorem dX7_behind_5 : decode cX7_behind 5 = .ok (.if_icmp .lt 7, 3) := dzr zhdX7_behind_0 3 rfl
theorem dX7_behind_8 : decode cX7_behind 8 = .ok (.iload_n 1, 1) := dzr zhdX7_behind_0 4 rfl
theorem dX7_behind_9 : decode cX7_behind 9 = .ok (.goto 10, 3) := dzr zhdX7_behind_0 5 rfl
theorem dX7_behind_12 : decode cX7_behind 12 = .ok (.aload_n 0, 1) := dzr zhdX7_behind_0 6 rfl
theorem dX7_behind_13 : decode cX7_behind 13 = .ok (.iload_n 1, 1) := dzr zhdX7_behind_0 7 rfl
theorem dX7_behind_14 : decode cX7_behind 14 = .ok (.iload_n 2, 1) := dzr zhdX7_behind_0 8 rfl
theorem dX7_behind_15 : decode cX7_behind 15 = .ok (.iload_n 3, 1) := dzr zhdX7_behind_0 9 rfl
theorem dX7_behind_16 : decode cX7_behind 16 = .ok (.invokevirtual 35, 3) := dzr zhdX7_behind_0 10 rfl
theorem dX7_behind_19 : decode cX7_behind 19 = .ok (.ireturn, 1) := dzr zhdX7_behind_0 11 rfl
theorem dX8_init_7 : decode cX8_init 7 = .ok (.newarray .int, 2) := by decide +kernel
theorem dX8_init_15 : decode cX8_init 15 = .ok (.newarray .int, 2) := by decide +kernel
theorem dX8_init_23 : decode cX8_init 23 = .ok (.newarray .int, 2) := by decide +kernel
theorem dX8_init_31 : decode cX8_init 31 = .ok (.newarray .boolean, 2) := by decide +kernel
def ztdX8_init_0 : List (Nat × Instr × Nat) := [(0, .aload_n 0, 1), (1, .invokespecial 3, 3), (4, .aload_n 0, 1), (5, .bipush 10, 2), (9, .putfield 11, 3), (12, .aload_n 0, 1), (13, .bipush 10, 2), (17, .putfield 15, 3), (20, .aload_n 0, 1), (21, .bipush 10, 2), (25, .putfield 18, 3), (28, .aload_n 0, 1), (29, .bipush 10, 2), (33, .putfield 21, 3), (36, .aload_n 0, 1), (37, .aload_n 1, 1), (38, .putfield 25, 3), (41, .aload_n 0, 1), (42, .aload_n 2, 1), (43, .putfield 29, 3), (46, .return_, 1)]
theorem zhdX8_init_0 : dzC ztdX8_init_0 0 (cX8_init.data.toList.drop 0) = true := by decide +kernel
theorem dX8_init_0 : decode cX8_init 0 = .ok (.aload_n 0, 1) := dzr zhdX8_init_0 0 rfl
theorem dX8_init_1 : decode cX8_init 1 = .ok (.invokespecial 3, 3) := dzr zhdX8_init_0 1 rfl
theorem dX8_init_4 : decode cX8_init 4 = .ok (.aload_n 0, 1) := dzr zhdX8_init_0 2 rfl
theorem dX8_init_5 : decode cX8_init 5 = .ok (.bipush 10, 2) := dzr zhdX8_init_0 3 rfl
theorem dX8_init_9 : decode cX8_init 9 = .ok (.putfield 11, 3) := dzr zhdX8_init_0 4 rfl
theorem dX8_init_12 : decode cX8_init 12 = .ok (.aload_n 0, 1) := dzr zhdX8_init_0 5 rfl
theorem dX8_init_13 : decode cX8_init 13 = .ok (.bipush 10, 2) := dzr zhdX8_init_0 6 rfl
theorem dX8_init_17 : decode cX8_init 17 = .ok (.putfield 15, 3) := dzr zhdX8_init_0 7 rfl
theorem dX8_init_20 : decode cX8_init 20 = .ok (.aload_n 0, 1) := dzr zhdX8_init_0 8 rfl
theorem dX8_init_21 : decode cX8_init 21 = .ok (.bipush 10, 2) := dzr zhdX8_init_0 9 rfl
theorem dX8_init_25 : decode cX8_init 25 = .ok (.putfield 18, 3) := dzr zhdX8_init_0 10 rfl
theorem dX8_init_28 : decode cX8_init 28 = .ok (.aload_n 0, 1) := dzr zhdX8_init_0 11 rfl
theorem dX8_init_29 : decode cX8_init 29 = .ok (.bipush 10, 2) := dzr zhdX8_init_0 12 rfl
theorem dX8_init_33 : decode cX8_init 33 = .ok (.putfield 21, 3) := dzr zhdX8_init_0 13 rfl
theorem dX8_init_36 : decode cX8_init 36 = .ok (.aload_n 0, 1) := dzr zhdX8_init_0 14 rfl
theorem dX8_init_37 : decode cX8_init 37 = .ok (.aload_n 1, 1) := dzr zhdX8_init_0 15 rfl
theorem dX8_init_38 : decode cX8_init 38 = .ok (.putfield 25, 3) := dzr zhdX8_init_0 16 rfl
theorem dX8_init_41 : decode cX8_init 41 = .ok (.aload_n 0, 1) := dzr zhdX8_init_0 17 rfl
theorem dX8_init_42 : decode cX8_init 42 = .ok (.aload_n 2, 1) := dzr zhdX8_init_0 18 rfl
theorem dX8_init_43 : decode cX8_init 43 = .ok (.putfield 29, 3) := dzr zhdX8_init_0 19 rfl
theorem dX8_init_46 : decode cX8_init 46 = .ok (.return_, 1) := dzr zhdX8_init_0 20 rfl
def ztdX8_isFull_0 : List (Nat × Instr × Nat) := [(0, .aload_n 0, 1), (1, .getfield 33, 3), (4, .bipush 10, 2), (6, .if_icmp .lt 7, 3), (9, .iconst 1, 1), (10, .goto 4, 3), (13, .iconst 0, 1), (14, .ireturn, 1)]
theorem zhdX8_isFull_0 : dzC ztdX8_isFull_0 0 (cX8_isFull.data.toList.drop 0) = true := by decide +kernel
theorem dX8_isFull_0 : decode cX8_isFull 0 = .ok (.aload_n 0, 1) := dzr zhdX8_isFull_0 0 rfl
theorem dX8_isFull_1 : decode cX8_isFull 1 = .ok (.getfield 33, 3) := dzr zhdX8_isFull_0 1 rfl
theorem dX8_isFull_4 : decode cX8_isFull 4 = .ok (.bipush 10, 2) := dzr zhdX8_isFull_0 2 rfl
theorem dX8_isFull_6 : decode cX8_isFull 6 = .ok (.if_icmp .lt 7, 3) := dzr zhdX8_isFull_0 3 rfl
theorem dX8_isFull_9 : decode cX8_isFull 9 = .ok (.iconst 1, 1) := dzr zhdX8_isFull_0 4 rfl
theorem dX8_isFull_10 : decode cX8_isFull 10 = .ok (.goto 4, 3) := dzr zhdX8_isFull_0 5 rfl
theorem dX8_isFull_13 : decode cX8_isFull 13 = .ok (.iconst 0, 1) := dzr zhdX8_isFull_0 6 rfl
theorem dX8_isFull_14 : decode cX8_isFull 14 = .ok (.ireturn, 1) := dzr zhdX8_isFull_0 7 rfl
def ztdX8_add_0 : List (Nat × Instr × Nat) := [(0, .aload_n 0, 1), (1, .getfield 11, 3), (4, .aload_n 0, 1), (5, .getfield 33, 3), (8, .iload_n 1, 1), (9, .iastore, 1), (10, .aload_n 0, 1), (11, .getfield 15, 3), (14, .aload_n 0, 1), (15, .getfield 33, 3), (18, .iload_n 2, 1), (19, .iastore, 1), (20, .aload_n 0, 1), (21, .getfield 18, 3), (24, .aload_n 0, 1), (25, .getfield 33, 3), (28, .iload_n 3, 1), (29, .iastore, 1), (30, .aload_n 0, 1), (31, .getfield 21, 3), (34, .aload_n 0, 1), (35, .getfield 33, 3), (38, .iload 4, 2), (40, .bastore, 1)]
theorem zhdX8_add_0 : dzC ztdX8_add_0 0 (cX8_add.data.toList.drop 0) = true := by decide +kernel
theorem dX8_add_0 : decode cX8_add 0 = .ok (.aload_n 0, 1) := dzr zhdX8_add_0 0 rfl
theorem dX8_add_1 : decode cX8_add 1 = .ok (.getfield 11, 3) := dzr zhdX8_add_0 1 rfl
theorem dX8_add_4 : decode cX8_add 4 = .ok (.aload_n 0, 1) := dzr zhdX8_add_0 2 rfl
theorem dX8_add_5 : decode cX8_add 5 = .ok (.getfield 33, 3) := dzr zhdX8_add_0 3 rfl
theorem dX8_add_8 : decode cX8_add 8 = .ok (.iload_n 1, 1) := dzr zhdX8_add_0 4 rfl
theorem dX8_add_9 : decode cX8_add 9 = .ok (.iastore, 1) := dzr zhdX8_add_0 5 rfl
theorem dX8_add_10 : decode cX8_add 10 = .ok (.aload_n 0, 1) := dzr zhdX8_add_0 6 rfl
theorem dX8_add_11 : decode cX8_add 11 = .ok (.getfield 15, 3) := dzr zhdX8_add_0 7 rfl
theorem dX8_add_14 : decode cX8_add 14 = .ok (.aload_n 0, 1) := dzr zhdX8_add_0 8 rfl
theorem dX8_add_15 : decode cX8_add 15 = .ok (.getfield 33, 3) := dzr zhdX8_add_0 9 rfl
theorem dX8_add_18 : decode cX8_add 18 = .ok (.iload_n 2, 1) := dzr zhdX8_add_0 10 rfl
theorem dX8_add_19 : decode cX8_add 19 = .ok (.iastore, 1) := dzr zhdX8_add_0 11 rfl
theorem dX8_add_20 : decode cX8_add 20 = .ok (.aload_n 0, 1) := dzr zhdX8_add_0 12 rfl
theorem dX8_add_21 : decode cX8_add 21 = .ok (.getfield 18, 3) := dzr zhdX8_add_0 13 rfl
theorem dX8_add_24 : decode cX8_add 24 = .ok (.aload_n 0, 1) := dzr zhdX8_add_0 14 rfl
theorem dX8_add_25 : decode cX8_add 25 = .ok (.getfield 33, 3) := dzr zhdX8_add_0 15 rfl
theorem dX8_add_28 : decode cX8_add 28 = .ok (.iload_n 3, 1) := dzr zhdX8_add_0 16 rfl
theorem dX8_add_29 : decode cX8_add 29 = .ok (.iastore, 1) := dzr zhdX8_add_0 17 rfl
theorem dX8_add_30 : decode cX8_add 30 = .ok (.aload_n 0, 1) := dzr zhdX8_add_0 18 rfl
theorem dX8_add_31 : decode cX8_add 31 = .ok (.getfield 21, 3) := dzr zhdX8_add_0 19 rfl
theorem dX8_add_34 : decode cX8_add 34 = .ok (.aload_n 0, 1) := dzr zhdX8_add_0 20 rfl
theorem dX8_add_35 : decode cX8_add 35 = .ok (.getfield 33, 3) := dzr zhdX8_add_0 21 rfl
theorem dX8_add_38 : decode cX8_add 38 = .ok (.iload 4, 2) := dzr zhdX8_add_0 22 rfl
theorem dX8_add_40 : decode cX8_add 40 = .ok (.bastore, 1) := dzr zhdX8_add_0 23 rfl
def ztdX8_add_41 : List (Nat × Instr × Nat) := [(41, .aload_n 0, 1), (42, .dup, 1), (43, .getfield 33, 3), (46, .iconst 1, 1), (47, .iadd, 1), (48, .putfield 33, 3), (51, .return_, 1)]
theorem zhdX8_add_41 : dzC ztdX8_add_41 41 (cX8_add.data.toList.drop 41) = true := by decide +kernel
theorem dX8_add_41 : decode cX8_add 41 = .ok (.aload_n 0, 1) := dzr zhdX8_add_41 0 rfl
theorem dX8_add_42 : decode cX8_add 42 = .ok (.dup, 1) := dzr zhdX8_add_41 1 rfl
theorem dX8_add_43 : decode cX8_add 43 = .ok (.getfield 33, 3) := dzr zhdX8_add_41 2 rfl
theorem dX8_add_46 : decode cX8_add 46 = .ok (.iconst 1, 1) := dzr zhdX8_add_41 3 rfl
theorem dX8_add_47 : decode cX8_add 47 = .ok (.iadd, 1) := dzr zhdX8_add_41 4 rfl
theorem dX8_add_48 : decode cX8_add 48 = .ok (.putfield 33, 3) := dzr zhdX8_add_41 5 rfl
theorem dX8_add_51 : decode cX8_add 51 = .ok (.return_, 1) := dzr zhdX8_add_41 6 rfl
theorem ggX8_reaches_X5_sameAim : GoodIn wsX8_reaches wsX5_sameAim := (bg_up (bg_law (bi_wsL_law0_r30 _ (List.mem_of_getElem? (i := 5) rfl))))
theorem gX8_reaches_X5_sameAim : GoodIn wsX8_reaches (wsV RX8 45 RX5 yX5_sameAim wsX5_sameAim) := goodIn_app (bg_up (bg_cons (bi_wsL_law0_r48 _ (List.mem_of_getElem? (i := 19) rfl)) (bg_cons (bi_wsL_law0_r30 _ (List.mem_of_getElem? (i := 3) rfl)) (bg_cons (bi_wsL_law0_r30 _ (List.mem_of_getElem? (i := 4) rfl)) (bg_cons (bi_wsL_law0_r2 _ (List.mem_of_getElem? (i := 4) rfl)) bg_nil))))) (bg_up (bg_law (bi_wsL_law0_r30 _ (List.mem_of_getElem? (i := 5) rfl))))
theorem ggX8_reaches_X2_riseBy : GoodIn wsX8_reaches wsX2_riseBy := (bg_up (bg_law (bi_wsL_law0_r30 _ (List.mem_of_getElem? (i := 10) rfl))))
theorem gX8_reaches_X2_riseBy : GoodIn wsX8_reaches (wsV RX8 52 RX2 yX2_riseBy wsX2_riseBy) := goodIn_app (bg_up (bg_cons (bi_wsL_law0_r48 _ (List.mem_of_getElem? (i := 20) rfl)) (bg_cons (bi_wsL_law0_r30 _ (List.mem_of_getElem? (i := 8) rfl)) (bg_cons (bi_wsL_law0_r30 _ (List.mem_of_getElem? (i := 9) rfl)) (bg_cons (bi_wsL_law0_r2 _ (List.mem_of_getElem? (i := 8) rfl)) bg_nil))))) (bg_up (bg_law (bi_wsL_law0_r30 _ (List.mem_of_getElem? (i := 10) rfl))))
def ztdX8_reaches_0 : List (Nat × Instr × Nat) := [(0, .iload 4, 2), (2, .aload_n 0, 1), (3, .getfield 29, 3), (6, .iload_n 2, 1), (7, .aload_n 0, 1), (8, .getfield 25, 3), (11, .getfield 37, 3), (14, .iload_n 3, 1), (15, .iaload, 1), (16, .iadd, 1), (17, .aload_n 0, 1), (18, .getfield 25, 3), (21, .getfield 42, 3), (24, .iload_n 1, 1), (25, .iaload, 1), (26, .aload_n 0, 1), (27, .getfield 25, 3), (30, .getfield 42, 3), (33, .iload_n 3, 1), (34, .iaload, 1), (35, .iadd, 1), (36, .iconst 0, 1), (37, .aload_n 0, 1), (38, .getfield 25, 3)]
theorem zhdX8_reaches_0 : dzC ztdX8_reaches_0 0 (cX8_reaches.data.toList.drop 0) = true := by decide +kernel
theorem dX8_reaches_0 : decode cX8_reaches 0 = .ok (.iload 4, 2) := dzr zhdX8_reaches_0 0 rfl
theorem dX8_reaches_2 : decode cX8_reaches 2 = .ok (.aload_n 0, 1) := dzr zhdX8_reaches_0 1 rfl
theorem dX8_reaches_3 : decode cX8_reaches 3 = .ok (.getfield 29, 3) := dzr zhdX8_reaches_0 2 rfl
theorem dX8_reaches_6 : decode cX8_reaches 6 = .ok (.iload_n 2, 1) := dzr zhdX8_reaches_0 3 rfl
theorem dX8_reaches_7 : decode cX8_reaches 7 = .ok (.aload_n 0, 1) := dzr zhdX8_reaches_0 4 rfl
theorem dX8_reaches_8 : decode cX8_reaches 8 = .ok (.getfield 25, 3) := dzr zhdX8_reaches_0 5 rfl
theorem dX8_reaches_11 : decode cX8_reaches 11 = .ok (.getfield 37, 3) := dzr zhdX8_reaches_0 6 rfl
theorem dX8_reaches_14 : decode cX8_reaches 14 = .ok (.iload_n 3, 1) := dzr zhdX8_reaches_0 7 rfl
theorem dX8_reaches_15 : decode cX8_reaches 15 = .ok (.iaload, 1) := dzr zhdX8_reaches_0 8 rfl
theorem dX8_reaches_16 : decode cX8_reaches 16 = .ok (.iadd, 1) := dzr zhdX8_reaches_0 9 rfl
theorem dX8_reaches_17 : decode cX8_reaches 17 = .ok (.aload_n 0, 1) := dzr zhdX8_reaches_0 10 rfl
theorem dX8_reaches_18 : decode cX8_reaches 18 = .ok (.getfield 25, 3) := dzr zhdX8_reaches_0 11 rfl
theorem dX8_reaches_21 : decode cX8_reaches 21 = .ok (.getfield 42, 3) := dzr zhdX8_reaches_0 12 rfl
theorem dX8_reaches_24 : decode cX8_reaches 24 = .ok (.iload_n 1, 1) := dzr zhdX8_reaches_0 13 rfl
theorem dX8_reaches_25 : decode cX8_reaches 25 = .ok (.iaload, 1) := dzr zhdX8_reaches_0 14 rfl
theorem dX8_reaches_26 : decode cX8_reaches 26 = .ok (.aload_n 0, 1) := dzr zhdX8_reaches_0 15 rfl
theorem dX8_reaches_27 : decode cX8_reaches 27 = .ok (.getfield 25, 3) := dzr zhdX8_reaches_0 16 rfl
theorem dX8_reaches_30 : decode cX8_reaches 30 = .ok (.getfield 42, 3) := dzr zhdX8_reaches_0 17 rfl
theorem dX8_reaches_33 : decode cX8_reaches 33 = .ok (.iload_n 3, 1) := dzr zhdX8_reaches_0 18 rfl
theorem dX8_reaches_34 : decode cX8_reaches 34 = .ok (.iaload, 1) := dzr zhdX8_reaches_0 19 rfl
theorem dX8_reaches_35 : decode cX8_reaches 35 = .ok (.iadd, 1) := dzr zhdX8_reaches_0 20 rfl
theorem dX8_reaches_36 : decode cX8_reaches 36 = .ok (.iconst 0, 1) := dzr zhdX8_reaches_0 21 rfl
theorem dX8_reaches_37 : decode cX8_reaches 37 = .ok (.aload_n 0, 1) := dzr zhdX8_reaches_0 22 rfl
theorem dX8_reaches_38 : decode cX8_reaches 38 = .ok (.getfield 25, 3) := dzr zhdX8_reaches_0 23 rfl
def ztdX8_reaches_41 : List (Nat × Instr × Nat) := [(41, .iload_n 1, 1), (42, .iload_n 3, 1), (43, .invokevirtual 45, 3), (46, .aload_n 0, 1), (47, .getfield 25, 3), (50, .getfield 49, 3), (53, .iconst 0, 1), (54, .invokevirtual 52, 3), (57, .if_icmp .gt 7, 3), (60, .iconst 1, 1), (61, .goto 4, 3), (64, .iconst 0, 1), (65, .ireturn, 1)]
theorem zhdX8_reaches_41 : dzC ztdX8_reaches_41 41 (cX8_reaches.data.toList.drop 41) = true := by decide +kernel
theorem dX8_reaches_41 : decode cX8_reaches 41 = .ok (.iload_n 1, 1) := dzr zhdX8_reaches_41 0 rfl
theorem dX8_reaches_42 : decode cX8_reaches 42 = .ok (.iload_n 3, 1) := dzr zhdX8_reaches_41 1 rfl
theorem dX8_reaches_43 : decode cX8_reaches 43 = .ok (.invokevirtual 45, 3) := dzr zhdX8_reaches_41 2 rfl
theorem dX8_reaches_46 : decode cX8_reaches 46 = .ok (.aload_n 0, 1) := dzr zhdX8_reaches_41 3 rfl
theorem dX8_reaches_47 : decode cX8_reaches 47 = .ok (.getfield 25, 3) := dzr zhdX8_reaches_41 4 rfl
theorem dX8_reaches_50 : decode cX8_reaches 50 = .ok (.getfield 49, 3) := dzr zhdX8_reaches_41 5 rfl
theorem dX8_reaches_53 : decode cX8_reaches 53 = .ok (.iconst 0, 1) := dzr zhdX8_reaches_41 6 rfl
theorem dX8_reaches_54 : decode cX8_reaches 54 = .ok (.invokevirtual 52, 3) := dzr zhdX8_reaches_41 7 rfl
theorem dX8_reaches_57 : decode cX8_reaches 57 = .ok (.if_icmp .gt 7, 3) := dzr zhdX8_reaches_41 8 rfl
theorem dX8_reaches_60 : decode cX8_reaches 60 = .ok (.iconst 1, 1) := dzr zhdX8_reaches_41 9 rfl
theorem dX8_reaches_61 : decode cX8_reaches 61 = .ok (.goto 4, 3) := dzr zhdX8_reaches_41 10 rfl
theorem dX8_reaches_64 : decode cX8_reaches 64 = .ok (.iconst 0, 1) := dzr zhdX8_reaches_41 11 rfl
theorem dX8_reaches_65 : decode cX8_reaches 65 = .ok (.ireturn, 1) := dzr zhdX8_reaches_41 12 rfl
theorem ggX8_allow_X8_reaches : GoodIn wsX8_allow wsX8_reaches := (bg_up (bg_law (bi_wsL_law0_r48 _ (List.mem_of_getElem? (i := 15) rfl))))
theorem gX8_allow_X8_reaches : GoodIn wsX8_allow (wsV RX8 58 RX8 yX8_reaches wsX8_reaches) := goodIn_app (bg_up (bg_cons (bi_wsL_law0_r48 _ (List.mem_of_getElem? (i := 12) rfl)) (bg_cons (bi_wsL_law0_r48 _ (List.mem_of_getElem? (i := 13) rfl)) (bg_cons (bi_wsL_law0_r48 _ (List.mem_of_getElem? (i := 14) rfl)) (bg_cons (bi_wsL_law0_r3 _ (List.mem_of_getElem? (i := 3) rfl)) bg_nil))))) (bg_up (bg_law (bi_wsL_law0_r48 _ (List.mem_of_getElem? (i := 15) rfl))))
def ztdX8_allow_0 : List (Nat × Instr × Nat) := [(0, .iconst 0, 1), (1, .istore_n 3, 1), (2, .iload_n 3, 1), (3, .aload_n 0, 1), (4, .getfield 33, 3), (7, .if_icmp .ge 81, 3), (10, .aload_n 0, 1), (11, .getfield 11, 3), (14, .iload_n 3, 1), (15, .iaload, 1), (16, .iload_n 1, 1), (17, .if_icmp .eq 13, 3), (20, .aload_n 0, 1), (21, .getfield 15, 3), (24, .iload_n 3, 1), (25, .iaload, 1), (26, .iload_n 1, 1), (27, .if_icmp .ne 55, 3), (30, .aload_n 0, 1), (31, .getfield 11, 3), (34, .iload_n 3, 1), (35, .iaload, 1), (36, .iload_n 1, 1), (37, .if_icmp .ne 12, 3)]
theorem zhdX8_allow_0 : dzC ztdX8_allow_0 0 (cX8_allow.data.toList.drop 0) = true := by decide +kernel
theorem dX8_allow_0 : decode cX8_allow 0 = .ok (.iconst 0, 1) := dzr zhdX8_allow_0 0 rfl
theorem dX8_allow_1 : decode cX8_allow 1 = .ok (.istore_n 3, 1) := dzr zhdX8_allow_0 1 rfl
theorem dX8_allow_2 : decode cX8_allow 2 = .ok (.iload_n 3, 1) := dzr zhdX8_allow_0 2 rfl
theorem dX8_allow_3 : decode cX8_allow 3 = .ok (.aload_n 0, 1) := dzr zhdX8_allow_0 3 rfl
theorem dX8_allow_4 : decode cX8_allow 4 = .ok (.getfield 33, 3) := dzr zhdX8_allow_0 4 rfl
theorem dX8_allow_7 : decode cX8_allow 7 = .ok (.if_icmp .ge 81, 3) := dzr zhdX8_allow_0 5 rfl
theorem dX8_allow_10 : decode cX8_allow 10 = .ok (.aload_n 0, 1) := dzr zhdX8_allow_0 6 rfl
theorem dX8_allow_11 : decode cX8_allow 11 = .ok (.getfield 11, 3) := dzr zhdX8_allow_0 7 rfl
theorem dX8_allow_14 : decode cX8_allow 14 = .ok (.iload_n 3, 1) := dzr zhdX8_allow_0 8 rfl
theorem dX8_allow_15 : decode cX8_allow 15 = .ok (.iaload, 1) := dzr zhdX8_allow_0 9 rfl
theorem dX8_allow_16 : decode cX8_allow 16 = .ok (.iload_n 1, 1) := dzr zhdX8_allow_0 10 rfl
theorem dX8_allow_17 : decode cX8_allow 17 = .ok (.if_icmp .eq 13, 3) := dzr zhdX8_allow_0 11 rfl
theorem dX8_allow_20 : decode cX8_allow 20 = .ok (.aload_n 0, 1) := dzr zhdX8_allow_0 12 rfl
theorem dX8_allow_21 : decode cX8_allow 21 = .ok (.getfield 15, 3) := dzr zhdX8_allow_0 13 rfl
theorem dX8_allow_24 : decode cX8_allow 24 = .ok (.iload_n 3, 1) := dzr zhdX8_allow_0 14 rfl
theorem dX8_allow_25 : decode cX8_allow 25 = .ok (.iaload, 1) := dzr zhdX8_allow_0 15 rfl
theorem dX8_allow_26 : decode cX8_allow 26 = .ok (.iload_n 1, 1) := dzr zhdX8_allow_0 16 rfl
theorem dX8_allow_27 : decode cX8_allow 27 = .ok (.if_icmp .ne 55, 3) := dzr zhdX8_allow_0 17 rfl
theorem dX8_allow_30 : decode cX8_allow 30 = .ok (.aload_n 0, 1) := dzr zhdX8_allow_0 18 rfl
theorem dX8_allow_31 : decode cX8_allow 31 = .ok (.getfield 11, 3) := dzr zhdX8_allow_0 19 rfl
theorem dX8_allow_34 : decode cX8_allow 34 = .ok (.iload_n 3, 1) := dzr zhdX8_allow_0 20 rfl
theorem dX8_allow_35 : decode cX8_allow 35 = .ok (.iaload, 1) := dzr zhdX8_allow_0 21 rfl
theorem dX8_allow_36 : decode cX8_allow 36 = .ok (.iload_n 1, 1) := dzr zhdX8_allow_0 22 rfl
theorem dX8_allow_37 : decode cX8_allow 37 = .ok (.if_icmp .ne 12, 3) := dzr zhdX8_allow_0 23 rfl
def ztdX8_allow_40 : List (Nat × Instr × Nat) := [(40, .aload_n 0, 1), (41, .getfield 15, 3), (44, .iload_n 3, 1), (45, .iaload, 1), (46, .goto 9, 3), (49, .aload_n 0, 1), (50, .getfield 11, 3), (53, .iload_n 3, 1), (54, .iaload, 1), (55, .istore 4, 2), (57, .aload_n 0, 1), (58, .iload_n 1, 1), (59, .iload_n 2, 1), (60, .iload 4, 2), (62, .aload_n 0, 1), (63, .getfield 18, 3), (66, .iload_n 3, 1), (67, .iaload, 1), (68, .invokevirtual 58, 3), (71, .aload_n 0, 1), (72, .getfield 21, 3), (75, .iload_n 3, 1), (76, .baload, 1), (77, .if_icmp .eq 5, 3)]
theorem zhdX8_allow_40 : dzC ztdX8_allow_40 40 (cX8_allow.data.toList.drop 40) = true := by decide +kernel
theorem dX8_allow_40 : decode cX8_allow 40 = .ok (.aload_n 0, 1) := dzr zhdX8_allow_40 0 rfl
theorem dX8_allow_41 : decode cX8_allow 41 = .ok (.getfield 15, 3) := dzr zhdX8_allow_40 1 rfl
theorem dX8_allow_44 : decode cX8_allow 44 = .ok (.iload_n 3, 1) := dzr zhdX8_allow_40 2 rfl
theorem dX8_allow_45 : decode cX8_allow 45 = .ok (.iaload, 1) := dzr zhdX8_allow_40 3 rfl
theorem dX8_allow_46 : decode cX8_allow 46 = .ok (.goto 9, 3) := dzr zhdX8_allow_40 4 rfl
theorem dX8_allow_49 : decode cX8_allow 49 = .ok (.aload_n 0, 1) := dzr zhdX8_allow_40 5 rfl
theorem dX8_allow_50 : decode cX8_allow 50 = .ok (.getfield 11, 3) := dzr zhdX8_allow_40 6 rfl
theorem dX8_allow_53 : decode cX8_allow 53 = .ok (.iload_n 3, 1) := dzr zhdX8_allow_40 7 rfl
theorem dX8_allow_54 : decode cX8_allow 54 = .ok (.iaload, 1) := dzr zhdX8_allow_40 8 rfl
theorem dX8_allow_55 : decode cX8_allow 55 = .ok (.istore 4, 2) := dzr zhdX8_allow_40 9 rfl
theorem dX8_allow_57 : decode cX8_allow 57 = .ok (.aload_n 0, 1) := dzr zhdX8_allow_40 10 rfl
theorem dX8_allow_58 : decode cX8_allow 58 = .ok (.iload_n 1, 1) := dzr zhdX8_allow_40 11 rfl
theorem dX8_allow_59 : decode cX8_allow 59 = .ok (.iload_n 2, 1) := dzr zhdX8_allow_40 12 rfl
theorem dX8_allow_60 : decode cX8_allow 60 = .ok (.iload 4, 2) := dzr zhdX8_allow_40 13 rfl
theorem dX8_allow_62 : decode cX8_allow 62 = .ok (.aload_n 0, 1) := dzr zhdX8_allow_40 14 rfl
theorem dX8_allow_63 : decode cX8_allow 63 = .ok (.getfield 18, 3) := dzr zhdX8_allow_40 15 rfl
theorem dX8_allow_66 : decode cX8_allow 66 = .ok (.iload_n 3, 1) := dzr zhdX8_allow_40 16 rfl
theorem dX8_allow_67 : decode cX8_allow 67 = .ok (.iaload, 1) := dzr zhdX8_allow_40 17 rfl
theorem dX8_allow_68 : decode cX8_allow 68 = .ok (.invokevirtual 58, 3) := dzr zhdX8_allow_40 18 rfl
theorem dX8_allow_71 : decode cX8_allow 71 = .ok (.aload_n 0, 1) := dzr zhdX8_allow_40 19 rfl
theorem dX8_allow_72 : decode cX8_allow 72 = .ok (.getfield 21, 3) := dzr zhdX8_allow_40 20 rfl
theorem dX8_allow_75 : decode cX8_allow 75 = .ok (.iload_n 3, 1) := dzr zhdX8_allow_40 21 rfl
theorem dX8_allow_76 : decode cX8_allow 76 = .ok (.baload, 1) := dzr zhdX8_allow_40 22 rfl
theorem dX8_allow_77 : decode cX8_allow 77 = .ok (.if_icmp .eq 5, 3) := dzr zhdX8_allow_40 23 rfl
def ztdX8_allow_80 : List (Nat × Instr × Nat) := [(80, .iconst 0, 1), (81, .ireturn, 1), (82, .iinc 3 1, 3), (85, .goto (-83), 3), (88, .iconst 1, 1), (89, .ireturn, 1)]
theorem zhdX8_allow_80 : dzC ztdX8_allow_80 80 (cX8_allow.data.toList.drop 80) = true := by decide +kernel
theorem dX8_allow_80 : decode cX8_allow 80 = .ok (.iconst 0, 1) := dzr zhdX8_allow_80 0 rfl
theorem dX8_allow_81 : decode cX8_allow 81 = .ok (.ireturn, 1) := dzr zhdX8_allow_80 1 rfl
theorem dX8_allow_82 : decode cX8_allow 82 = .ok (.iinc 3 1, 3) := dzr zhdX8_allow_80 2 rfl
theorem dX8_allow_85 : decode cX8_allow 85 = .ok (.goto (-83), 3) := dzr zhdX8_allow_80 3 rfl
theorem dX8_allow_88 : decode cX8_allow 88 = .ok (.iconst 1, 1) := dzr zhdX8_allow_80 4 rfl
theorem dX8_allow_89 : decode cX8_allow 89 = .ok (.ireturn, 1) := dzr zhdX8_allow_80 5 rfl
theorem ggX8_fitting_X8_allow : GoodIn wsX8_fitting wsX8_allow := (bg_up (bg_law (bi_wsL_law0_r48 _ (List.mem_of_getElem? (i := 11) rfl))))
theorem gX8_fitting_X8_allow : GoodIn wsX8_fitting (wsV RX8 62 RX8 yX8_allow wsX8_allow) := goodIn_app (bg_up (bg_cons (bi_wsL_law0_r49 _ (List.mem_of_getElem? (i := 17) rfl)) (bg_cons (bi_wsL_law0_r48 _ (List.mem_of_getElem? (i := 9) rfl)) (bg_cons (bi_wsL_law0_r48 _ (List.mem_of_getElem? (i := 10) rfl)) (bg_cons (bi_wsL_law0_r3 _ (List.mem_of_getElem? (i := 3) rfl)) bg_nil))))) (bg_up (bg_law (bi_wsL_law0_r48 _ (List.mem_of_getElem? (i := 11) rfl))))
def ztdX8_fitting_0 : List (Nat × Instr × Nat) := [(0, .iconst 0, 1), (1, .istore_n 2, 1), (2, .iconst 0, 1), (3, .istore_n 3, 1), (4, .iload_n 3, 1), (5, .bipush 9, 2), (7, .if_icmp .gt 24, 3), (10, .aload_n 0, 1), (11, .iload_n 1, 1), (12, .iload_n 3, 1), (13, .invokevirtual 62, 3), (16, .ifCond .eq 9, 3), (19, .iload_n 2, 1), (20, .iconst 1, 1), (21, .iload_n 3, 1), (22, .ishl, 1), (23, .ior, 1), (24, .istore_n 2, 1), (25, .iinc 3 1, 3), (28, .goto (-24), 3), (31, .iload_n 2, 1), (32, .ireturn, 1)]
theorem zhdX8_fitting_0 : dzC ztdX8_fitting_0 0 (cX8_fitting.data.toList.drop 0) = true := by decide +kernel
theorem dX8_fitting_0 : decode cX8_fitting 0 = .ok (.iconst 0, 1) := dzr zhdX8_fitting_0 0 rfl
theorem dX8_fitting_1 : decode cX8_fitting 1 = .ok (.istore_n 2, 1) := dzr zhdX8_fitting_0 1 rfl
theorem dX8_fitting_2 : decode cX8_fitting 2 = .ok (.iconst 0, 1) := dzr zhdX8_fitting_0 2 rfl
theorem dX8_fitting_3 : decode cX8_fitting 3 = .ok (.istore_n 3, 1) := dzr zhdX8_fitting_0 3 rfl
theorem dX8_fitting_4 : decode cX8_fitting 4 = .ok (.iload_n 3, 1) := dzr zhdX8_fitting_0 4 rfl
theorem dX8_fitting_5 : decode cX8_fitting 5 = .ok (.bipush 9, 2) := dzr zhdX8_fitting_0 5 rfl
theorem dX8_fitting_7 : decode cX8_fitting 7 = .ok (.if_icmp .gt 24, 3) := dzr zhdX8_fitting_0 6 rfl
theorem dX8_fitting_10 : decode cX8_fitting 10 = .ok (.aload_n 0, 1) := dzr zhdX8_fitting_0 7 rfl
theorem dX8_fitting_11 : decode cX8_fitting 11 = .ok (.iload_n 1, 1) := dzr zhdX8_fitting_0 8 rfl
theorem dX8_fitting_12 : decode cX8_fitting 12 = .ok (.iload_n 3, 1) := dzr zhdX8_fitting_0 9 rfl
theorem dX8_fitting_13 : decode cX8_fitting 13 = .ok (.invokevirtual 62, 3) := dzr zhdX8_fitting_0 10 rfl
theorem dX8_fitting_16 : decode cX8_fitting 16 = .ok (.ifCond .eq 9, 3) := dzr zhdX8_fitting_0 11 rfl
theorem dX8_fitting_19 : decode cX8_fitting 19 = .ok (.iload_n 2, 1) := dzr zhdX8_fitting_0 12 rfl
theorem dX8_fitting_20 : decode cX8_fitting 20 = .ok (.iconst 1, 1) := dzr zhdX8_fitting_0 13 rfl
theorem dX8_fitting_21 : decode cX8_fitting 21 = .ok (.iload_n 3, 1) := dzr zhdX8_fitting_0 14 rfl
theorem dX8_fitting_22 : decode cX8_fitting 22 = .ok (.ishl, 1) := dzr zhdX8_fitting_0 15 rfl
theorem dX8_fitting_23 : decode cX8_fitting 23 = .ok (.ior, 1) := dzr zhdX8_fitting_0 16 rfl
theorem dX8_fitting_24 : decode cX8_fitting 24 = .ok (.istore_n 2, 1) := dzr zhdX8_fitting_0 17 rfl
theorem dX8_fitting_25 : decode cX8_fitting 25 = .ok (.iinc 3 1, 3) := dzr zhdX8_fitting_0 18 rfl
theorem dX8_fitting_28 : decode cX8_fitting 28 = .ok (.goto (-24), 3) := dzr zhdX8_fitting_0 19 rfl
theorem dX8_fitting_31 : decode cX8_fitting 31 = .ok (.iload_n 2, 1) := dzr zhdX8_fitting_0 20 rfl
theorem dX8_fitting_32 : decode cX8_fitting 32 = .ok (.ireturn, 1) := dzr zhdX8_fitting_0 21 rfl
theorem ggX8_gap_X8_reaches : GoodIn wsX8_gap wsX8_reaches := (bg_up (bg_law (bi_wsL_law0_r48 _ (List.mem_of_getElem? (i := 15) rfl))))
theorem gX8_gap_X8_reaches : GoodIn wsX8_gap (wsV RX8 58 RX8 yX8_reaches wsX8_reaches) := goodIn_app (bg_up (bg_cons (bi_wsL_law0_r48 _ (List.mem_of_getElem? (i := 12) rfl)) (bg_cons (bi_wsL_law0_r48 _ (List.mem_of_getElem? (i := 13) rfl)) (bg_cons (bi_wsL_law0_r48 _ (List.mem_of_getElem? (i := 14) rfl)) (bg_cons (bi_wsL_law0_r3 _ (List.mem_of_getElem? (i := 3) rfl)) bg_nil))))) (bg_up (bg_law (bi_wsL_law0_r48 _ (List.mem_of_getElem? (i := 15) rfl))))
def ztdX8_gap_0 : List (Nat × Instr × Nat) := [(0, .iconst 0, 1), (1, .istore 5, 2), (3, .iconst 0, 1), (4, .istore 6, 2), (6, .iload 6, 2), (8, .bipush 9, 2), (10, .if_icmp .gt 42, 3), (13, .iload 4, 2), (15, .iload 6, 2), (17, .ishr, 1), (18, .iconst 1, 1), (19, .iand, 1), (20, .iconst 1, 1), (21, .if_icmp .ne 25, 3), (24, .iload 5, 2), (26, .aload_n 0, 1), (27, .iload_n 1, 1), (28, .iload 6, 2), (30, .iload_n 2, 1), (31, .iload_n 3, 1), (32, .invokevirtual 58, 3), (35, .ifCond .eq 7, 3), (38, .iconst 1, 1), (39, .goto 4, 3)]
theorem zhdX8_gap_0 : dzC ztdX8_gap_0 0 (cX8_gap.data.toList.drop 0) = true := by decide +kernel
theorem dX8_gap_0 : decode cX8_gap 0 = .ok (.iconst 0, 1) := dzr zhdX8_gap_0 0 rfl
theorem dX8_gap_1 : decode cX8_gap 1 = .ok (.istore 5, 2) := dzr zhdX8_gap_0 1 rfl
theorem dX8_gap_3 : decode cX8_gap 3 = .ok (.iconst 0, 1) := dzr zhdX8_gap_0 2 rfl
theorem dX8_gap_4 : decode cX8_gap 4 = .ok (.istore 6, 2) := dzr zhdX8_gap_0 3 rfl
theorem dX8_gap_6 : decode cX8_gap 6 = .ok (.iload 6, 2) := dzr zhdX8_gap_0 4 rfl
theorem dX8_gap_8 : decode cX8_gap 8 = .ok (.bipush 9, 2) := dzr zhdX8_gap_0 5 rfl
theorem dX8_gap_10 : decode cX8_gap 10 = .ok (.if_icmp .gt 42, 3) := dzr zhdX8_gap_0 6 rfl
theorem dX8_gap_13 : decode cX8_gap 13 = .ok (.iload 4, 2) := dzr zhdX8_gap_0 7 rfl
theorem dX8_gap_15 : decode cX8_gap 15 = .ok (.iload 6, 2) := dzr zhdX8_gap_0 8 rfl
theorem dX8_gap_17 : decode cX8_gap 17 = .ok (.ishr, 1) := dzr zhdX8_gap_0 9 rfl
theorem dX8_gap_18 : decode cX8_gap 18 = .ok (.iconst 1, 1) := dzr zhdX8_gap_0 10 rfl
theorem dX8_gap_19 : decode cX8_gap 19 = .ok (.iand, 1) := dzr zhdX8_gap_0 11 rfl
theorem dX8_gap_20 : decode cX8_gap 20 = .ok (.iconst 1, 1) := dzr zhdX8_gap_0 12 rfl
theorem dX8_gap_21 : decode cX8_gap 21 = .ok (.if_icmp .ne 25, 3) := dzr zhdX8_gap_0 13 rfl
theorem dX8_gap_24 : decode cX8_gap 24 = .ok (.iload 5, 2) := dzr zhdX8_gap_0 14 rfl
theorem dX8_gap_26 : decode cX8_gap 26 = .ok (.aload_n 0, 1) := dzr zhdX8_gap_0 15 rfl
theorem dX8_gap_27 : decode cX8_gap 27 = .ok (.iload_n 1, 1) := dzr zhdX8_gap_0 16 rfl
theorem dX8_gap_28 : decode cX8_gap 28 = .ok (.iload 6, 2) := dzr zhdX8_gap_0 17 rfl
theorem dX8_gap_30 : decode cX8_gap 30 = .ok (.iload_n 2, 1) := dzr zhdX8_gap_0 18 rfl
theorem dX8_gap_31 : decode cX8_gap 31 = .ok (.iload_n 3, 1) := dzr zhdX8_gap_0 19 rfl
theorem dX8_gap_32 : decode cX8_gap 32 = .ok (.invokevirtual 58, 3) := dzr zhdX8_gap_0 20 rfl
theorem dX8_gap_35 : decode cX8_gap 35 = .ok (.ifCond .eq 7, 3) := dzr zhdX8_gap_0 21 rfl
theorem dX8_gap_38 : decode cX8_gap 38 = .ok (.iconst 1, 1) := dzr zhdX8_gap_0 22 rfl
theorem dX8_gap_39 : decode cX8_gap 39 = .ok (.goto 4, 3) := dzr zhdX8_gap_0 23 rfl
def ztdX8_gap_42 : List (Nat × Instr × Nat) := [(42, .iconst (-1), 1), (43, .iadd, 1), (44, .istore 5, 2), (46, .iinc 6 1, 3), (49, .goto (-43), 3), (52, .iload 5, 2), (54, .invokestatic 66, 3), (57, .ireturn, 1)]
theorem zhdX8_gap_42 : dzC ztdX8_gap_42 42 (cX8_gap.data.toList.drop 42) = true := by decide +kernel
theorem dX8_gap_42 : decode cX8_gap 42 = .ok (.iconst (-1), 1) := dzr zhdX8_gap_42 0 rfl
theorem dX8_gap_43 : decode cX8_gap 43 = .ok (.iadd, 1) := dzr zhdX8_gap_42 1 rfl
theorem dX8_gap_44 : decode cX8_gap 44 = .ok (.istore 5, 2) := dzr zhdX8_gap_42 2 rfl
theorem dX8_gap_46 : decode cX8_gap 46 = .ok (.iinc 6 1, 3) := dzr zhdX8_gap_42 3 rfl
theorem dX8_gap_49 : decode cX8_gap 49 = .ok (.goto (-43), 3) := dzr zhdX8_gap_42 4 rfl
theorem dX8_gap_52 : decode cX8_gap 52 = .ok (.iload 5, 2) := dzr zhdX8_gap_42 5 rfl
theorem dX8_gap_54 : decode cX8_gap 54 = .ok (.invokestatic 66, 3) := dzr zhdX8_gap_42 6 rfl
theorem dX8_gap_57 : decode cX8_gap 57 = .ok (.ireturn, 1) := dzr zhdX8_gap_42 7 rfl
theorem dX9_init_7 : decode cX9_init 7 = .ok (.newarray .int, 2) := by decide +kernel
def ztdX9_init_0 : List (Nat × Instr × Nat) := [(0, .aload_n 0, 1), (1, .invokespecial 3, 3), (4, .aload_n 0, 1), (5, .bipush 69, 2), (9, .putfield 11, 3), (12, .aload_n 0, 1), (13, .aload_n 1, 1), (14, .putfield 15, 3), (17, .aload_n 0, 1), (18, .aload_n 2, 1), (19, .putfield 19, 3), (22, .return_, 1)]
theorem zhdX9_init_0 : dzC ztdX9_init_0 0 (cX9_init.data.toList.drop 0) = true := by decide +kernel
theorem dX9_init_0 : decode cX9_init 0 = .ok (.aload_n 0, 1) := dzr zhdX9_init_0 0 rfl
theorem dX9_init_1 : decode cX9_init 1 = .ok (.invokespecial 3, 3) := dzr zhdX9_init_0 1 rfl
theorem dX9_init_4 : decode cX9_init 4 = .ok (.aload_n 0, 1) := dzr zhdX9_init_0 2 rfl
theorem dX9_init_5 : decode cX9_init 5 = .ok (.bipush 69, 2) := dzr zhdX9_init_0 3 rfl
theorem dX9_init_9 : decode cX9_init 9 = .ok (.putfield 11, 3) := dzr zhdX9_init_0 4 rfl
theorem dX9_init_12 : decode cX9_init 12 = .ok (.aload_n 0, 1) := dzr zhdX9_init_0 5 rfl
theorem dX9_init_13 : decode cX9_init 13 = .ok (.aload_n 1, 1) := dzr zhdX9_init_0 6 rfl
theorem dX9_init_14 : decode cX9_init 14 = .ok (.putfield 15, 3) := dzr zhdX9_init_0 7 rfl
theorem dX9_init_17 : decode cX9_init 17 = .ok (.aload_n 0, 1) := dzr zhdX9_init_0 8 rfl
theorem dX9_init_18 : decode cX9_init 18 = .ok (.aload_n 2, 1) := dzr zhdX9_init_0 9 rfl
theorem dX9_init_19 : decode cX9_init 19 = .ok (.putfield 19, 3) := dzr zhdX9_init_0 10 rfl
theorem dX9_init_22 : decode cX9_init 22 = .ok (.return_, 1) := dzr zhdX9_init_0 11 rfl
def ztdX9_copyFrom_0 : List (Nat × Instr × Nat) := [(0, .aload_n 1, 1), (1, .getfield 11, 3), (4, .iconst 0, 1), (5, .aload_n 0, 1), (6, .getfield 11, 3), (9, .iconst 0, 1), (10, .bipush 69, 2), (12, .invokestatic 23, 3), (15, .return_, 1)]
theorem zhdX9_copyFrom_0 : dzC ztdX9_copyFrom_0 0 (cX9_copyFrom.data.toList.drop 0) = true := by decide +kernel
theorem dX9_copyFrom_0 : decode cX9_copyFrom 0 = .ok (.aload_n 1, 1) := dzr zhdX9_copyFrom_0 0 rfl
theorem dX9_copyFrom_1 : decode cX9_copyFrom 1 = .ok (.getfield 11, 3) := dzr zhdX9_copyFrom_0 1 rfl
theorem dX9_copyFrom_4 : decode cX9_copyFrom 4 = .ok (.iconst 0, 1) := dzr zhdX9_copyFrom_0 2 rfl
theorem dX9_copyFrom_5 : decode cX9_copyFrom 5 = .ok (.aload_n 0, 1) := dzr zhdX9_copyFrom_0 3 rfl
theorem dX9_copyFrom_6 : decode cX9_copyFrom 6 = .ok (.getfield 11, 3) := dzr zhdX9_copyFrom_0 4 rfl
theorem dX9_copyFrom_9 : decode cX9_copyFrom 9 = .ok (.iconst 0, 1) := dzr zhdX9_copyFrom_0 5 rfl
theorem dX9_copyFrom_10 : decode cX9_copyFrom 10 = .ok (.bipush 69, 2) := dzr zhdX9_copyFrom_0 6 rfl
theorem dX9_copyFrom_12 : decode cX9_copyFrom 12 = .ok (.invokestatic 23, 3) := dzr zhdX9_copyFrom_0 7 rfl
theorem dX9_copyFrom_15 : decode cX9_copyFrom 15 = .ok (.return_, 1) := dzr zhdX9_copyFrom_0 8 rfl
def ztdX9_begin_0 : List (Nat × Instr × Nat) := [(0, .iconst 0, 1), (1, .istore_n 1, 1), (2, .iload_n 1, 1), (3, .bipush 36, 2), (5, .if_icmp .ge 16, 3), (8, .aload_n 0, 1), (9, .getfield 11, 3), (12, .iload_n 1, 1), (13, .iconst 0, 1), (14, .iastore, 1), (15, .iinc 1 1, 3), (18, .goto (-16), 3), (21, .iconst 0, 1), (22, .istore_n 1, 1), (23, .iload_n 1, 1), (24, .bipush 6, 2), (26, .if_icmp .ge 67, 3), (29, .aload_n 0, 1), (30, .getfield 11, 3), (33, .bipush 36, 2), (35, .iload_n 1, 1), (36, .iadd, 1), (37, .aload_n 0, 1), (38, .getfield 15, 3)]
theorem zhdX9_begin_0 : dzC ztdX9_begin_0 0 (cX9_begin.data.toList.drop 0) = true := by decide +kernel
theorem dX9_begin_0 : decode cX9_begin 0 = .ok (.iconst 0, 1) := dzr zhdX9_begin_0 0 rfl
theorem dX9_begin_1 : decode cX9_begin 1 = .ok (.istore_n 1, 1) := dzr zhdX9_begin_0 1 rfl
theorem dX9_begin_2 : decode cX9_begin 2 = .ok (.iload_n 1, 1) := dzr zhdX9_begin_0 2 rfl
theorem dX9_begin_3 : decode cX9_begin 3 = .ok (.bipush 36, 2) := dzr zhdX9_begin_0 3 rfl
theorem dX9_begin_5 : decode cX9_begin 5 = .ok (.if_icmp .ge 16, 3) := dzr zhdX9_begin_0 4 rfl
theorem dX9_begin_8 : decode cX9_begin 8 = .ok (.aload_n 0, 1) := dzr zhdX9_begin_0 5 rfl
theorem dX9_begin_9 : decode cX9_begin 9 = .ok (.getfield 11, 3) := dzr zhdX9_begin_0 6 rfl
theorem dX9_begin_12 : decode cX9_begin 12 = .ok (.iload_n 1, 1) := dzr zhdX9_begin_0 7 rfl
theorem dX9_begin_13 : decode cX9_begin 13 = .ok (.iconst 0, 1) := dzr zhdX9_begin_0 8 rfl
theorem dX9_begin_14 : decode cX9_begin 14 = .ok (.iastore, 1) := dzr zhdX9_begin_0 9 rfl
theorem dX9_begin_15 : decode cX9_begin 15 = .ok (.iinc 1 1, 3) := dzr zhdX9_begin_0 10 rfl
theorem dX9_begin_18 : decode cX9_begin 18 = .ok (.goto (-16), 3) := dzr zhdX9_begin_0 11 rfl
theorem dX9_begin_21 : decode cX9_begin 21 = .ok (.iconst 0, 1) := dzr zhdX9_begin_0 12 rfl
theorem dX9_begin_22 : decode cX9_begin 22 = .ok (.istore_n 1, 1) := dzr zhdX9_begin_0 13 rfl
theorem dX9_begin_23 : decode cX9_begin 23 = .ok (.iload_n 1, 1) := dzr zhdX9_begin_0 14 rfl
theorem dX9_begin_24 : decode cX9_begin 24 = .ok (.bipush 6, 2) := dzr zhdX9_begin_0 15 rfl
theorem dX9_begin_26 : decode cX9_begin 26 = .ok (.if_icmp .ge 67, 3) := dzr zhdX9_begin_0 16 rfl
theorem dX9_begin_29 : decode cX9_begin 29 = .ok (.aload_n 0, 1) := dzr zhdX9_begin_0 17 rfl
theorem dX9_begin_30 : decode cX9_begin 30 = .ok (.getfield 11, 3) := dzr zhdX9_begin_0 18 rfl
theorem dX9_begin_33 : decode cX9_begin 33 = .ok (.bipush 36, 2) := dzr zhdX9_begin_0 19 rfl
theorem dX9_begin_35 : decode cX9_begin 35 = .ok (.iload_n 1, 1) := dzr zhdX9_begin_0 20 rfl
theorem dX9_begin_36 : decode cX9_begin 36 = .ok (.iadd, 1) := dzr zhdX9_begin_0 21 rfl
theorem dX9_begin_37 : decode cX9_begin 37 = .ok (.aload_n 0, 1) := dzr zhdX9_begin_0 22 rfl
theorem dX9_begin_38 : decode cX9_begin 38 = .ok (.getfield 15, 3) := dzr zhdX9_begin_0 23 rfl
def ztdX9_begin_41 : List (Nat × Instr × Nat) := [(41, .getfield 29, 3), (44, .iload_n 1, 1), (45, .iaload, 1), (46, .iastore, 1), (47, .aload_n 0, 1), (48, .getfield 11, 3), (51, .bipush 42, 2), (53, .iload_n 1, 1), (54, .iadd, 1), (55, .aload_n 0, 1), (56, .getfield 15, 3), (59, .getfield 34, 3), (62, .iload_n 1, 1), (63, .iaload, 1), (64, .iastore, 1), (65, .aload_n 0, 1), (66, .getfield 11, 3), (69, .bipush 48, 2), (71, .iload_n 1, 1), (72, .iadd, 1), (73, .iconst 1, 1), (74, .iload_n 1, 1), (75, .ishl, 1), (76, .iastore, 1)]
theorem zhdX9_begin_41 : dzC ztdX9_begin_41 41 (cX9_begin.data.toList.drop 41) = true := by decide +kernel
theorem dX9_begin_41 : decode cX9_begin 41 = .ok (.getfield 29, 3) := dzr zhdX9_begin_41 0 rfl
theorem dX9_begin_44 : decode cX9_begin 44 = .ok (.iload_n 1, 1) := dzr zhdX9_begin_41 1 rfl
theorem dX9_begin_45 : decode cX9_begin 45 = .ok (.iaload, 1) := dzr zhdX9_begin_41 2 rfl
theorem dX9_begin_46 : decode cX9_begin 46 = .ok (.iastore, 1) := dzr zhdX9_begin_41 3 rfl
theorem dX9_begin_47 : decode cX9_begin 47 = .ok (.aload_n 0, 1) := dzr zhdX9_begin_41 4 rfl
theorem dX9_begin_48 : decode cX9_begin 48 = .ok (.getfield 11, 3) := dzr zhdX9_begin_41 5 rfl
theorem dX9_begin_51 : decode cX9_begin 51 = .ok (.bipush 42, 2) := dzr zhdX9_begin_41 6 rfl
theorem dX9_begin_53 : decode cX9_begin 53 = .ok (.iload_n 1, 1) := dzr zhdX9_begin_41 7 rfl
theorem dX9_begin_54 : decode cX9_begin 54 = .ok (.iadd, 1) := dzr zhdX9_begin_41 8 rfl
theorem dX9_begin_55 : decode cX9_begin 55 = .ok (.aload_n 0, 1) := dzr zhdX9_begin_41 9 rfl
theorem dX9_begin_56 : decode cX9_begin 56 = .ok (.getfield 15, 3) := dzr zhdX9_begin_41 10 rfl
theorem dX9_begin_59 : decode cX9_begin 59 = .ok (.getfield 34, 3) := dzr zhdX9_begin_41 11 rfl
theorem dX9_begin_62 : decode cX9_begin 62 = .ok (.iload_n 1, 1) := dzr zhdX9_begin_41 12 rfl
theorem dX9_begin_63 : decode cX9_begin 63 = .ok (.iaload, 1) := dzr zhdX9_begin_41 13 rfl
theorem dX9_begin_64 : decode cX9_begin 64 = .ok (.iastore, 1) := dzr zhdX9_begin_41 14 rfl
theorem dX9_begin_65 : decode cX9_begin 65 = .ok (.aload_n 0, 1) := dzr zhdX9_begin_41 15 rfl
theorem dX9_begin_66 : decode cX9_begin 66 = .ok (.getfield 11, 3) := dzr zhdX9_begin_41 16 rfl
theorem dX9_begin_69 : decode cX9_begin 69 = .ok (.bipush 48, 2) := dzr zhdX9_begin_41 17 rfl
theorem dX9_begin_71 : decode cX9_begin 71 = .ok (.iload_n 1, 1) := dzr zhdX9_begin_41 18 rfl
theorem dX9_begin_72 : decode cX9_begin 72 = .ok (.iadd, 1) := dzr zhdX9_begin_41 19 rfl
theorem dX9_begin_73 : decode cX9_begin 73 = .ok (.iconst 1, 1) := dzr zhdX9_begin_41 20 rfl
theorem dX9_begin_74 : decode cX9_begin 74 = .ok (.iload_n 1, 1) := dzr zhdX9_begin_41 21 rfl
theorem dX9_begin_75 : decode cX9_begin 75 = .ok (.ishl, 1) := dzr zhdX9_begin_41 22 rfl
theorem dX9_begin_76 : decode cX9_begin 76 = .ok (.iastore, 1) := dzr zhdX9_begin_41 23 rfl
def ztdX9_begin_77 : List (Nat × Instr × Nat) := [(77, .aload_n 0, 1), (78, .getfield 11, 3), (81, .bipush 54, 2), (83, .iload_n 1, 1), (84, .iadd, 1), (85, .iconst (-1), 1), (86, .iastore, 1), (87, .iinc 1 1, 3), (90, .goto (-67), 3), (93, .iconst 0, 1), (94, .istore_n 1, 1), (95, .iload_n 1, 1), (96, .iconst 5, 1), (97, .if_icmp .ge 19, 3), (100, .aload_n 0, 1), (101, .getfield 11, 3), (104, .bipush 60, 2), (106, .iload_n 1, 1), (107, .iadd, 1), (108, .iconst (-1), 1), (109, .iastore, 1), (110, .iinc 1 1, 3), (113, .goto (-18), 3), (116, .aload_n 0, 1)]
theorem zhdX9_begin_77 : dzC ztdX9_begin_77 77 (cX9_begin.data.toList.drop 77) = true := by decide +kernel
theorem dX9_begin_77 : decode cX9_begin 77 = .ok (.aload_n 0, 1) := dzr zhdX9_begin_77 0 rfl
theorem dX9_begin_78 : decode cX9_begin 78 = .ok (.getfield 11, 3) := dzr zhdX9_begin_77 1 rfl
theorem dX9_begin_81 : decode cX9_begin 81 = .ok (.bipush 54, 2) := dzr zhdX9_begin_77 2 rfl
theorem dX9_begin_83 : decode cX9_begin 83 = .ok (.iload_n 1, 1) := dzr zhdX9_begin_77 3 rfl
theorem dX9_begin_84 : decode cX9_begin 84 = .ok (.iadd, 1) := dzr zhdX9_begin_77 4 rfl
theorem dX9_begin_85 : decode cX9_begin 85 = .ok (.iconst (-1), 1) := dzr zhdX9_begin_77 5 rfl
theorem dX9_begin_86 : decode cX9_begin 86 = .ok (.iastore, 1) := dzr zhdX9_begin_77 6 rfl
theorem dX9_begin_87 : decode cX9_begin 87 = .ok (.iinc 1 1, 3) := dzr zhdX9_begin_77 7 rfl
theorem dX9_begin_90 : decode cX9_begin 90 = .ok (.goto (-67), 3) := dzr zhdX9_begin_77 8 rfl
theorem dX9_begin_93 : decode cX9_begin 93 = .ok (.iconst 0, 1) := dzr zhdX9_begin_77 9 rfl
theorem dX9_begin_94 : decode cX9_begin 94 = .ok (.istore_n 1, 1) := dzr zhdX9_begin_77 10 rfl
theorem dX9_begin_95 : decode cX9_begin 95 = .ok (.iload_n 1, 1) := dzr zhdX9_begin_77 11 rfl
theorem dX9_begin_96 : decode cX9_begin 96 = .ok (.iconst 5, 1) := dzr zhdX9_begin_77 12 rfl
theorem dX9_begin_97 : decode cX9_begin 97 = .ok (.if_icmp .ge 19, 3) := dzr zhdX9_begin_77 13 rfl
theorem dX9_begin_100 : decode cX9_begin 100 = .ok (.aload_n 0, 1) := dzr zhdX9_begin_77 14 rfl
theorem dX9_begin_101 : decode cX9_begin 101 = .ok (.getfield 11, 3) := dzr zhdX9_begin_77 15 rfl
theorem dX9_begin_104 : decode cX9_begin 104 = .ok (.bipush 60, 2) := dzr zhdX9_begin_77 16 rfl
theorem dX9_begin_106 : decode cX9_begin 106 = .ok (.iload_n 1, 1) := dzr zhdX9_begin_77 17 rfl
theorem dX9_begin_107 : decode cX9_begin 107 = .ok (.iadd, 1) := dzr zhdX9_begin_77 18 rfl
theorem dX9_begin_108 : decode cX9_begin 108 = .ok (.iconst (-1), 1) := dzr zhdX9_begin_77 19 rfl
theorem dX9_begin_109 : decode cX9_begin 109 = .ok (.iastore, 1) := dzr zhdX9_begin_77 20 rfl
theorem dX9_begin_110 : decode cX9_begin 110 = .ok (.iinc 1 1, 3) := dzr zhdX9_begin_77 21 rfl
theorem dX9_begin_113 : decode cX9_begin 113 = .ok (.goto (-18), 3) := dzr zhdX9_begin_77 22 rfl
theorem dX9_begin_116 : decode cX9_begin 116 = .ok (.aload_n 0, 1) := dzr zhdX9_begin_77 23 rfl
def ztdX9_begin_117 : List (Nat × Instr × Nat) := [(117, .getfield 11, 3), (120, .bipush 65, 2), (122, .iconst 0, 1), (123, .iastore, 1), (124, .aload_n 0, 1), (125, .getfield 11, 3), (128, .bipush 66, 2), (130, .aload_n 0, 1), (131, .getfield 15, 3), (134, .getfield 37, 3), (137, .iastore, 1), (138, .aload_n 0, 1), (139, .getfield 11, 3), (142, .bipush 67, 2), (144, .aload_n 0, 1), (145, .getfield 15, 3), (148, .getfield 41, 3), (151, .iastore, 1), (152, .aload_n 0, 1), (153, .getfield 11, 3), (156, .bipush 68, 2), (158, .iconst 0, 1), (159, .iastore, 1), (160, .return_, 1)]
theorem zhdX9_begin_117 : dzC ztdX9_begin_117 117 (cX9_begin.data.toList.drop 117) = true := by decide +kernel
theorem dX9_begin_117 : decode cX9_begin 117 = .ok (.getfield 11, 3) := dzr zhdX9_begin_117 0 rfl
theorem dX9_begin_120 : decode cX9_begin 120 = .ok (.bipush 65, 2) := dzr zhdX9_begin_117 1 rfl
theorem dX9_begin_122 : decode cX9_begin 122 = .ok (.iconst 0, 1) := dzr zhdX9_begin_117 2 rfl
theorem dX9_begin_123 : decode cX9_begin 123 = .ok (.iastore, 1) := dzr zhdX9_begin_117 3 rfl
theorem dX9_begin_124 : decode cX9_begin 124 = .ok (.aload_n 0, 1) := dzr zhdX9_begin_117 4 rfl
theorem dX9_begin_125 : decode cX9_begin 125 = .ok (.getfield 11, 3) := dzr zhdX9_begin_117 5 rfl
theorem dX9_begin_128 : decode cX9_begin 128 = .ok (.bipush 66, 2) := dzr zhdX9_begin_117 6 rfl
theorem dX9_begin_130 : decode cX9_begin 130 = .ok (.aload_n 0, 1) := dzr zhdX9_begin_117 7 rfl
theorem dX9_begin_131 : decode cX9_begin 131 = .ok (.getfield 15, 3) := dzr zhdX9_begin_117 8 rfl
theorem dX9_begin_134 : decode cX9_begin 134 = .ok (.getfield 37, 3) := dzr zhdX9_begin_117 9 rfl
theorem dX9_begin_137 : decode cX9_begin 137 = .ok (.iastore, 1) := dzr zhdX9_begin_117 10 rfl
theorem dX9_begin_138 : decode cX9_begin 138 = .ok (.aload_n 0, 1) := dzr zhdX9_begin_117 11 rfl
theorem dX9_begin_139 : decode cX9_begin 139 = .ok (.getfield 11, 3) := dzr zhdX9_begin_117 12 rfl
theorem dX9_begin_142 : decode cX9_begin 142 = .ok (.bipush 67, 2) := dzr zhdX9_begin_117 13 rfl
theorem dX9_begin_144 : decode cX9_begin 144 = .ok (.aload_n 0, 1) := dzr zhdX9_begin_117 14 rfl
theorem dX9_begin_145 : decode cX9_begin 145 = .ok (.getfield 15, 3) := dzr zhdX9_begin_117 15 rfl
theorem dX9_begin_148 : decode cX9_begin 148 = .ok (.getfield 41, 3) := dzr zhdX9_begin_117 16 rfl
theorem dX9_begin_151 : decode cX9_begin 151 = .ok (.iastore, 1) := dzr zhdX9_begin_117 17 rfl
theorem dX9_begin_152 : decode cX9_begin 152 = .ok (.aload_n 0, 1) := dzr zhdX9_begin_117 18 rfl
theorem dX9_begin_153 : decode cX9_begin 153 = .ok (.getfield 11, 3) := dzr zhdX9_begin_117 19 rfl
theorem dX9_begin_156 : decode cX9_begin 156 = .ok (.bipush 68, 2) := dzr zhdX9_begin_117 20 rfl
theorem dX9_begin_158 : decode cX9_begin 158 = .ok (.iconst 0, 1) := dzr zhdX9_begin_117 21 rfl
theorem dX9_begin_159 : decode cX9_begin 159 = .ok (.iastore, 1) := dzr zhdX9_begin_117 22 rfl
theorem dX9_begin_160 : decode cX9_begin 160 = .ok (.return_, 1) := dzr zhdX9_begin_117 23 rfl
def ztdX9_free_0 : List (Nat × Instr × Nat) := [(0, .aload_n 0, 1), (1, .getfield 11, 3), (4, .bipush 36, 2), (6, .iload_n 1, 1), (7, .iadd, 1), (8, .iaload, 1), (9, .ireturn, 1)]
theorem zhdX9_free_0 : dzC ztdX9_free_0 0 (cX9_free.data.toList.drop 0) = true := by decide +kernel
theorem dX9_free_0 : decode cX9_free 0 = .ok (.aload_n 0, 1) := dzr zhdX9_free_0 0 rfl
theorem dX9_free_1 : decode cX9_free 1 = .ok (.getfield 11, 3) := dzr zhdX9_free_0 1 rfl
theorem dX9_free_4 : decode cX9_free 4 = .ok (.bipush 36, 2) := dzr zhdX9_free_0 2 rfl
theorem dX9_free_6 : decode cX9_free 6 = .ok (.iload_n 1, 1) := dzr zhdX9_free_0 3 rfl
theorem dX9_free_7 : decode cX9_free 7 = .ok (.iadd, 1) := dzr zhdX9_free_0 4 rfl
theorem dX9_free_8 : decode cX9_free 8 = .ok (.iaload, 1) := dzr zhdX9_free_0 5 rfl
theorem dX9_free_9 : decode cX9_free 9 = .ok (.ireturn, 1) := dzr zhdX9_free_0 6 rfl
def ztdX9_setFree_0 : List (Nat × Instr × Nat) := [(0, .aload_n 0, 1), (1, .getfield 11, 3), (4, .bipush 36, 2), (6, .iload_n 1, 1), (7, .iadd, 1), (8, .iload_n 2, 1), (9, .iastore, 1), (10, .return_, 1)]
theorem zhdX9_setFree_0 : dzC ztdX9_setFree_0 0 (cX9_setFree.data.toList.drop 0) = true := by decide +kernel
theorem dX9_setFree_0 : decode cX9_setFree 0 = .ok (.aload_n 0, 1) := dzr zhdX9_setFree_0 0 rfl
theorem dX9_setFree_1 : decode cX9_setFree 1 = .ok (.getfield 11, 3) := dzr zhdX9_setFree_0 1 rfl
theorem dX9_setFree_4 : decode cX9_setFree 4 = .ok (.bipush 36, 2) := dzr zhdX9_setFree_0 2 rfl
theorem dX9_setFree_6 : decode cX9_setFree 6 = .ok (.iload_n 1, 1) := dzr zhdX9_setFree_0 3 rfl
theorem dX9_setFree_7 : decode cX9_setFree 7 = .ok (.iadd, 1) := dzr zhdX9_setFree_0 4 rfl
theorem dX9_setFree_8 : decode cX9_setFree 8 = .ok (.iload_n 2, 1) := dzr zhdX9_setFree_0 5 rfl
theorem dX9_setFree_9 : decode cX9_setFree 9 = .ok (.iastore, 1) := dzr zhdX9_setFree_0 6 rfl
theorem dX9_setFree_10 : decode cX9_setFree 10 = .ok (.return_, 1) := dzr zhdX9_setFree_0 7 rfl
def ztdX9_stuffed_0 : List (Nat × Instr × Nat) := [(0, .aload_n 0, 1), (1, .getfield 11, 3), (4, .bipush 42, 2), (6, .iload_n 1, 1), (7, .iadd, 1), (8, .iaload, 1), (9, .ireturn, 1)]
theorem zhdX9_stuffed_0 : dzC ztdX9_stuffed_0 0 (cX9_stuffed.data.toList.drop 0) = true := by decide +kernel
theorem dX9_stuffed_0 : decode cX9_stuffed 0 = .ok (.aload_n 0, 1) := dzr zhdX9_stuffed_0 0 rfl
theorem dX9_stuffed_1 : decode cX9_stuffed 1 = .ok (.getfield 11, 3) := dzr zhdX9_stuffed_0 1 rfl
theorem dX9_stuffed_4 : decode cX9_stuffed 4 = .ok (.bipush 42, 2) := dzr zhdX9_stuffed_0 2 rfl
theorem dX9_stuffed_6 : decode cX9_stuffed 6 = .ok (.iload_n 1, 1) := dzr zhdX9_stuffed_0 3 rfl
theorem dX9_stuffed_7 : decode cX9_stuffed 7 = .ok (.iadd, 1) := dzr zhdX9_stuffed_0 4 rfl
theorem dX9_stuffed_8 : decode cX9_stuffed 8 = .ok (.iaload, 1) := dzr zhdX9_stuffed_0 5 rfl
theorem dX9_stuffed_9 : decode cX9_stuffed 9 = .ok (.ireturn, 1) := dzr zhdX9_stuffed_0 6 rfl
def ztdX9_setStuffed_0 : List (Nat × Instr × Nat) := [(0, .aload_n 0, 1), (1, .getfield 11, 3), (4, .bipush 42, 2), (6, .iload_n 1, 1), (7, .iadd, 1), (8, .iload_n 2, 1), (9, .iastore, 1), (10, .return_, 1)]
theorem zhdX9_setStuffed_0 : dzC ztdX9_setStuffed_0 0 (cX9_setStuffed.data.toList.drop 0) = true := by decide +kernel
theorem dX9_setStuffed_0 : decode cX9_setStuffed 0 = .ok (.aload_n 0, 1) := dzr zhdX9_setStuffed_0 0 rfl
theorem dX9_setStuffed_1 : decode cX9_setStuffed 1 = .ok (.getfield 11, 3) := dzr zhdX9_setStuffed_0 1 rfl
theorem dX9_setStuffed_4 : decode cX9_setStuffed 4 = .ok (.bipush 42, 2) := dzr zhdX9_setStuffed_0 2 rfl
theorem dX9_setStuffed_6 : decode cX9_setStuffed 6 = .ok (.iload_n 1, 1) := dzr zhdX9_setStuffed_0 3 rfl
theorem dX9_setStuffed_7 : decode cX9_setStuffed 7 = .ok (.iadd, 1) := dzr zhdX9_setStuffed_0 4 rfl
theorem dX9_setStuffed_8 : decode cX9_setStuffed 8 = .ok (.iload_n 2, 1) := dzr zhdX9_setStuffed_0 5 rfl
theorem dX9_setStuffed_9 : decode cX9_setStuffed 9 = .ok (.iastore, 1) := dzr zhdX9_setStuffed_0 6 rfl
theorem dX9_setStuffed_10 : decode cX9_setStuffed 10 = .ok (.return_, 1) := dzr zhdX9_setStuffed_0 7 rfl
def ztdX9_knows_0 : List (Nat × Instr × Nat) := [(0, .aload_n 0, 1), (1, .getfield 11, 3), (4, .bipush 48, 2), (6, .iload_n 1, 1), (7, .iadd, 1), (8, .iaload, 1), (9, .ireturn, 1)]
theorem zhdX9_knows_0 : dzC ztdX9_knows_0 0 (cX9_knows.data.toList.drop 0) = true := by decide +kernel
theorem dX9_knows_0 : decode cX9_knows 0 = .ok (.aload_n 0, 1) := dzr zhdX9_knows_0 0 rfl
theorem dX9_knows_1 : decode cX9_knows 1 = .ok (.getfield 11, 3) := dzr zhdX9_knows_0 1 rfl
theorem dX9_knows_4 : decode cX9_knows 4 = .ok (.bipush 48, 2) := dzr zhdX9_knows_0 2 rfl
theorem dX9_knows_6 : decode cX9_knows 6 = .ok (.iload_n 1, 1) := dzr zhdX9_knows_0 3 rfl
theorem dX9_knows_7 : decode cX9_knows 7 = .ok (.iadd, 1) := dzr zhdX9_knows_0 4 rfl
theorem dX9_knows_8 : decode cX9_knows 8 = .ok (.iaload, 1) := dzr zhdX9_knows_0 5 rfl
theorem dX9_knows_9 : decode cX9_knows 9 = .ok (.ireturn, 1) := dzr zhdX9_knows_0 6 rfl
def ztdX9_hasMet_0 : List (Nat × Instr × Nat) := [(0, .aload_n 0, 1), (1, .getfield 11, 3), (4, .bipush 54, 2), (6, .iload_n 1, 1), (7, .iadd, 1), (8, .iaload, 1), (9, .iconst (-1), 1), (10, .if_icmp .eq 7, 3), (13, .iconst 1, 1), (14, .goto 4, 3), (17, .iconst 0, 1), (18, .ireturn, 1)]
theorem zhdX9_hasMet_0 : dzC ztdX9_hasMet_0 0 (cX9_hasMet.data.toList.drop 0) = true := by decide +kernel
theorem dX9_hasMet_0 : decode cX9_hasMet 0 = .ok (.aload_n 0, 1) := dzr zhdX9_hasMet_0 0 rfl
theorem dX9_hasMet_1 : decode cX9_hasMet 1 = .ok (.getfield 11, 3) := dzr zhdX9_hasMet_0 1 rfl
theorem dX9_hasMet_4 : decode cX9_hasMet 4 = .ok (.bipush 54, 2) := dzr zhdX9_hasMet_0 2 rfl
theorem dX9_hasMet_6 : decode cX9_hasMet 6 = .ok (.iload_n 1, 1) := dzr zhdX9_hasMet_0 3 rfl
theorem dX9_hasMet_7 : decode cX9_hasMet 7 = .ok (.iadd, 1) := dzr zhdX9_hasMet_0 4 rfl
theorem dX9_hasMet_8 : decode cX9_hasMet 8 = .ok (.iaload, 1) := dzr zhdX9_hasMet_0 5 rfl
theorem dX9_hasMet_9 : decode cX9_hasMet 9 = .ok (.iconst (-1), 1) := dzr zhdX9_hasMet_0 6 rfl
theorem dX9_hasMet_10 : decode cX9_hasMet 10 = .ok (.if_icmp .eq 7, 3) := dzr zhdX9_hasMet_0 7 rfl
theorem dX9_hasMet_13 : decode cX9_hasMet 13 = .ok (.iconst 1, 1) := dzr zhdX9_hasMet_0 8 rfl
theorem dX9_hasMet_14 : decode cX9_hasMet 14 = .ok (.goto 4, 3) := dzr zhdX9_hasMet_0 9 rfl
theorem dX9_hasMet_17 : decode cX9_hasMet 17 = .ok (.iconst 0, 1) := dzr zhdX9_hasMet_0 10 rfl
theorem dX9_hasMet_18 : decode cX9_hasMet 18 = .ok (.ireturn, 1) := dzr zhdX9_hasMet_0 11 rfl
def ztdX9_signers_0 : List (Nat × Instr × Nat) := [(0, .aload_n 0, 1), (1, .getfield 11, 3), (4, .bipush 60, 2), (6, .iload_n 1, 1), (7, .iadd, 1), (8, .iaload, 1), (9, .ireturn, 1)]
theorem zhdX9_signers_0 : dzC ztdX9_signers_0 0 (cX9_signers.data.toList.drop 0) = true := by decide +kernel
theorem dX9_signers_0 : decode cX9_signers 0 = .ok (.aload_n 0, 1) := dzr zhdX9_signers_0 0 rfl
theorem dX9_signers_1 : decode cX9_signers 1 = .ok (.getfield 11, 3) := dzr zhdX9_signers_0 1 rfl
theorem dX9_signers_4 : decode cX9_signers 4 = .ok (.bipush 60, 2) := dzr zhdX9_signers_0 2 rfl
theorem dX9_signers_6 : decode cX9_signers 6 = .ok (.iload_n 1, 1) := dzr zhdX9_signers_0 3 rfl
theorem dX9_signers_7 : decode cX9_signers 7 = .ok (.iadd, 1) := dzr zhdX9_signers_0 4 rfl
theorem dX9_signers_8 : decode cX9_signers 8 = .ok (.iaload, 1) := dzr zhdX9_signers_0 5 rfl
theorem dX9_signers_9 : decode cX9_signers 9 = .ok (.ireturn, 1) := dzr zhdX9_signers_0 6 rfl
def ztdX9_tearUp_0 : List (Nat × Instr × Nat) := [(0, .aload_n 0, 1), (1, .getfield 11, 3), (4, .bipush 60, 2), (6, .iload_n 1, 1), (7, .iadd, 1), (8, .iconst (-1), 1), (9, .iastore, 1), (10, .return_, 1)]
theorem zhdX9_tearUp_0 : dzC ztdX9_tearUp_0 0 (cX9_tearUp.data.toList.drop 0) = true := by decide +kernel
theorem dX9_tearUp_0 : decode cX9_tearUp 0 = .ok (.aload_n 0, 1) := dzr zhdX9_tearUp_0 0 rfl
theorem dX9_tearUp_1 : decode cX9_tearUp 1 = .ok (.getfield 11, 3) := dzr zhdX9_tearUp_0 1 rfl
theorem dX9_tearUp_4 : decode cX9_tearUp 4 = .ok (.bipush 60, 2) := dzr zhdX9_tearUp_0 2 rfl
theorem dX9_tearUp_6 : decode cX9_tearUp 6 = .ok (.iload_n 1, 1) := dzr zhdX9_tearUp_0 3 rfl
theorem dX9_tearUp_7 : decode cX9_tearUp 7 = .ok (.iadd, 1) := dzr zhdX9_tearUp_0 4 rfl
theorem dX9_tearUp_8 : decode cX9_tearUp 8 = .ok (.iconst (-1), 1) := dzr zhdX9_tearUp_0 5 rfl
theorem dX9_tearUp_9 : decode cX9_tearUp 9 = .ok (.iastore, 1) := dzr zhdX9_tearUp_0 6 rfl
theorem dX9_tearUp_10 : decode cX9_tearUp 10 = .ok (.return_, 1) := dzr zhdX9_tearUp_0 7 rfl
def ztdX9_signedToday_0 : List (Nat × Instr × Nat) := [(0, .aload_n 0, 1), (1, .getfield 11, 3), (4, .bipush 65, 2), (6, .iaload, 1), (7, .ireturn, 1)]
theorem zhdX9_signedToday_0 : dzC ztdX9_signedToday_0 0 (cX9_signedToday.data.toList.drop 0) = true := by decide +kernel
theorem dX9_signedToday_0 : decode cX9_signedToday 0 = .ok (.aload_n 0, 1) := dzr zhdX9_signedToday_0 0 rfl
theorem dX9_signedToday_1 : decode cX9_signedToday 1 = .ok (.getfield 11, 3) := dzr zhdX9_signedToday_0 1 rfl
theorem dX9_signedToday_4 : decode cX9_signedToday 4 = .ok (.bipush 65, 2) := dzr zhdX9_signedToday_0 2 rfl
theorem dX9_signedToday_6 : decode cX9_signedToday 6 = .ok (.iaload, 1) := dzr zhdX9_signedToday_0 3 rfl
theorem dX9_signedToday_7 : decode cX9_signedToday 7 = .ok (.ireturn, 1) := dzr zhdX9_signedToday_0 4 rfl
def ztdX9_pride_0 : List (Nat × Instr × Nat) := [(0, .aload_n 0, 1), (1, .getfield 11, 3), (4, .bipush 66, 2), (6, .iaload, 1), (7, .ireturn, 1)]
theorem zhdX9_pride_0 : dzC ztdX9_pride_0 0 (cX9_pride.data.toList.drop 0) = true := by decide +kernel
theorem dX9_pride_0 : decode cX9_pride 0 = .ok (.aload_n 0, 1) := dzr zhdX9_pride_0 0 rfl
theorem dX9_pride_1 : decode cX9_pride 1 = .ok (.getfield 11, 3) := dzr zhdX9_pride_0 1 rfl
theorem dX9_pride_4 : decode cX9_pride 4 = .ok (.bipush 66, 2) := dzr zhdX9_pride_0 2 rfl
theorem dX9_pride_6 : decode cX9_pride 6 = .ok (.iaload, 1) := dzr zhdX9_pride_0 3 rfl
theorem dX9_pride_7 : decode cX9_pride 7 = .ok (.ireturn, 1) := dzr zhdX9_pride_0 4 rfl
def ztdX9_setPride_0 : List (Nat × Instr × Nat) := [(0, .aload_n 0, 1), (1, .getfield 11, 3), (4, .bipush 66, 2), (6, .iload_n 1, 1), (7, .iastore, 1), (8, .return_, 1)]
theorem zhdX9_setPride_0 : dzC ztdX9_setPride_0 0 (cX9_setPride.data.toList.drop 0) = true := by decide +kernel
theorem dX9_setPride_0 : decode cX9_setPride 0 = .ok (.aload_n 0, 1) := dzr zhdX9_setPride_0 0 rfl
theorem dX9_setPride_1 : decode cX9_setPride 1 = .ok (.getfield 11, 3) := dzr zhdX9_setPride_0 1 rfl
theorem dX9_setPride_4 : decode cX9_setPride 4 = .ok (.bipush 66, 2) := dzr zhdX9_setPride_0 2 rfl
theorem dX9_setPride_6 : decode cX9_setPride 6 = .ok (.iload_n 1, 1) := dzr zhdX9_setPride_0 3 rfl
theorem dX9_setPride_7 : decode cX9_setPride 7 = .ok (.iastore, 1) := dzr zhdX9_setPride_0 4 rfl
theorem dX9_setPride_8 : decode cX9_setPride 8 = .ok (.return_, 1) := dzr zhdX9_setPride_0 5 rfl
def ztdX9_growProud_0 : List (Nat × Instr × Nat) := [(0, .aload_n 0, 1), (1, .getfield 11, 3), (4, .bipush 66, 2), (6, .bipush 9, 2), (8, .aload_n 0, 1), (9, .getfield 11, 3), (12, .bipush 66, 2), (14, .iaload, 1), (15, .iconst 1, 1), (16, .iadd, 1), (17, .invokestatic 44, 3), (20, .iastore, 1), (21, .return_, 1)]
theorem zhdX9_growProud_0 : dzC ztdX9_growProud_0 0 (cX9_growProud.data.toList.drop 0) = true := by decide +kernel
theorem dX9_growProud_0 : decode cX9_growProud 0 = .ok (.aload_n 0, 1) := dzr zhdX9_growProud_0 0 rfl
theorem dX9_growProud_1 : decode cX9_growProud 1 = .ok (.getfield 11, 3) := dzr zhdX9_growProud_0 1 rfl
theorem dX9_growProud_4 : decode cX9_growProud 4 = .ok (.bipush 66, 2) := dzr zhdX9_growProud_0 2 rfl
theorem dX9_growProud_6 : decode cX9_growProud 6 = .ok (.bipush 9, 2) := dzr zhdX9_growProud_0 3 rfl
theorem dX9_growProud_8 : decode cX9_growProud 8 = .ok (.aload_n 0, 1) := dzr zhdX9_growProud_0 4 rfl
theorem dX9_growProud_9 : decode cX9_growProud 9 = .ok (.getfield 11, 3) := dzr zhdX9_growProud_0 5 rfl
theorem dX9_growProud_12 : decode cX9_growProud 12 = .ok (.bipush 66, 2) := dzr zhdX9_growProud_0 6 rfl
theorem dX9_growProud_14 : decode cX9_growProud 14 = .ok (.iaload, 1) := dzr zhdX9_growProud_0 7 rfl
theorem dX9_growProud_15 : decode cX9_growProud 15 = .ok (.iconst 1, 1) := dzr zhdX9_growProud_0 8 rfl
theorem dX9_growProud_16 : decode cX9_growProud 16 = .ok (.iadd, 1) := dzr zhdX9_growProud_0 9 rfl
theorem dX9_growProud_17 : decode cX9_growProud 17 = .ok (.invokestatic 44, 3) := dzr zhdX9_growProud_0 10 rfl
theorem dX9_growProud_20 : decode cX9_growProud 20 = .ok (.iastore, 1) := dzr zhdX9_growProud_0 11 rfl
theorem dX9_growProud_21 : decode cX9_growProud 21 = .ok (.return_, 1) := dzr zhdX9_growProud_0 12 rfl
def ztdX9_coins_0 : List (Nat × Instr × Nat) := [(0, .aload_n 0, 1), (1, .getfield 11, 3), (4, .bipush 67, 2), (6, .iaload, 1), (7, .ireturn, 1)]
theorem zhdX9_coins_0 : dzC ztdX9_coins_0 0 (cX9_coins.data.toList.drop 0) = true := by decide +kernel
theorem dX9_coins_0 : decode cX9_coins 0 = .ok (.aload_n 0, 1) := dzr zhdX9_coins_0 0 rfl
theorem dX9_coins_1 : decode cX9_coins 1 = .ok (.getfield 11, 3) := dzr zhdX9_coins_0 1 rfl
theorem dX9_coins_4 : decode cX9_coins 4 = .ok (.bipush 67, 2) := dzr zhdX9_coins_0 2 rfl
theorem dX9_coins_6 : decode cX9_coins 6 = .ok (.iaload, 1) := dzr zhdX9_coins_0 3 rfl
theorem dX9_coins_7 : decode cX9_coins 7 = .ok (.ireturn, 1) := dzr zhdX9_coins_0 4 rfl
def ztdX9_pay_0 : List (Nat × Instr × Nat) := [(0, .aload_n 0, 1), (1, .getfield 11, 3), (4, .bipush 67, 2), (6, .dup2, 1), (7, .iaload, 1), (8, .iload_n 1, 1), (9, .isub, 1), (10, .iastore, 1), (11, .return_, 1)]
theorem zhdX9_pay_0 : dzC ztdX9_pay_0 0 (cX9_pay.data.toList.drop 0) = true := by decide +kernel
theorem dX9_pay_0 : decode cX9_pay 0 = .ok (.aload_n 0, 1) := dzr zhdX9_pay_0 0 rfl
theorem dX9_pay_1 : decode cX9_pay 1 = .ok (.getfield 11, 3) := dzr zhdX9_pay_0 1 rfl
theorem dX9_pay_4 : decode cX9_pay 4 = .ok (.bipush 67, 2) := dzr zhdX9_pay_0 2 rfl
theorem dX9_pay_6 : decode cX9_pay 6 = .ok (.dup2, 1) := dzr zhdX9_pay_0 3 rfl
theorem dX9_pay_7 : decode cX9_pay 7 = .ok (.iaload, 1) := dzr zhdX9_pay_0 4 rfl
theorem dX9_pay_8 : decode cX9_pay 8 = .ok (.iload_n 1, 1) := dzr zhdX9_pay_0 5 rfl
theorem dX9_pay_9 : decode cX9_pay 9 = .ok (.isub, 1) := dzr zhdX9_pay_0 6 rfl
theorem dX9_pay_10 : decode cX9_pay 10 = .ok (.iastore, 1) := dzr zhdX9_pay_0 7 rfl
theorem dX9_pay_11 : decode cX9_pay 11 = .ok (.return_, 1) := dzr zhdX9_pay_0 8 rfl
def ztdX9_day_0 : List (Nat × Instr × Nat) := [(0, .aload_n 0, 1), (1, .getfield 11, 3), (4, .bipush 68, 2), (6, .iaload, 1), (7, .ireturn, 1)]
theorem zhdX9_day_0 : dzC ztdX9_day_0 0 (cX9_day.data.toList.drop 0) = true := by decide +kernel
theorem dX9_day_0 : decode cX9_day 0 = .ok (.aload_n 0, 1) := dzr zhdX9_day_0 0 rfl
theorem dX9_day_1 : decode cX9_day 1 = .ok (.getfield 11, 3) := dzr zhdX9_day_0 1 rfl
theorem dX9_day_4 : decode cX9_day 4 = .ok (.bipush 68, 2) := dzr zhdX9_day_0 2 rfl
theorem dX9_day_6 : decode cX9_day 6 = .ok (.iaload, 1) := dzr zhdX9_day_0 3 rfl
theorem dX9_day_7 : decode cX9_day 7 = .ok (.ireturn, 1) := dzr zhdX9_day_0 4 rfl
def ztdX9_placeOf_0 : List (Nat × Instr × Nat) := [(0, .iload_n 0, 1), (1, .iload_n 1, 1), (2, .if_icmp .ge 12, 3), (5, .iload_n 0, 1), (6, .bipush 6, 2), (8, .imul, 1), (9, .iload_n 1, 1), (10, .iadd, 1), (11, .goto 9, 3), (14, .iload_n 1, 1), (15, .bipush 6, 2), (17, .imul, 1), (18, .iload_n 0, 1), (19, .iadd, 1), (20, .ireturn, 1)]
theorem zhdX9_placeOf_0 : dzC ztdX9_placeOf_0 0 (cX9_placeOf.data.toList.drop 0) = true := by decide +kernel
theorem dX9_placeOf_0 : decode cX9_placeOf 0 = .ok (.iload_n 0, 1) := dzr zhdX9_placeOf_0 0 rfl
theorem dX9_placeOf_1 : decode cX9_placeOf 1 = .ok (.iload_n 1, 1) := dzr zhdX9_placeOf_0 1 rfl
theorem dX9_placeOf_2 : decode cX9_placeOf 2 = .ok (.if_icmp .ge 12, 3) := dzr zhdX9_placeOf_0 2 rfl
theorem dX9_placeOf_5 : decode cX9_placeOf 5 = .ok (.iload_n 0, 1) := dzr zhdX9_placeOf_0 3 rfl
theorem dX9_placeOf_6 : decode cX9_placeOf 6 = .ok (.bipush 6, 2) := dzr zhdX9_placeOf_0 4 rfl
theorem dX9_placeOf_8 : decode cX9_placeOf 8 = .ok (.imul, 1) := dzr zhdX9_placeOf_0 5 rfl
theorem dX9_placeOf_9 : decode cX9_placeOf 9 = .ok (.iload_n 1, 1) := dzr zhdX9_placeOf_0 6 rfl
theorem dX9_placeOf_10 : decode cX9_placeOf 10 = .ok (.iadd, 1) := dzr zhdX9_placeOf_0 7 rfl
theorem dX9_placeOf_11 : decode cX9_placeOf 11 = .ok (.goto 9, 3) := dzr zhdX9_placeOf_0 8 rfl
theorem dX9_placeOf_14 : decode cX9_placeOf 14 = .ok (.iload_n 1, 1) := dzr zhdX9_placeOf_0 9 rfl
theorem dX9_placeOf_15 : decode cX9_placeOf 15 = .ok (.bipush 6, 2) := dzr zhdX9_placeOf_0 10 rfl
theorem dX9_placeOf_17 : decode cX9_placeOf 17 = .ok (.imul, 1) := dzr zhdX9_placeOf_0 11 rfl
theorem dX9_placeOf_18 : decode cX9_placeOf 18 = .ok (.iload_n 0, 1) := dzr zhdX9_placeOf_0 12 rfl
theorem dX9_placeOf_19 : decode cX9_placeOf 19 = .ok (.iadd, 1) := dzr zhdX9_placeOf_0 13 rfl
theorem dX9_placeOf_20 : decode cX9_placeOf 20 = .ok (.ireturn, 1) := dzr zhdX9_placeOf_0 14 rfl
theorem ggX9_warmthOf_X9_placeOf : GoodIn wsX9_warmthOf wsX9_placeOf := (bg_up (bg_law (bi_wsL_law0_r27 _ (List.mem_of_getElem? (i := 5) rfl))))
theorem gX9_warmthOf_X9_placeOf : GoodIn wsX9_warmthOf (va_wsS RX9 50 yX9_placeOf wsX9_placeOf) := goodIn_app (bg_up (bg_cons (bi_wsL_law0_r27 _ (List.mem_of_getElem? (i := 3) rfl)) (bg_cons (bi_wsL_law0_r27 _ (List.mem_of_getElem? (i := 4) rfl)) (bg_cons (bi_wsL_law0_r2 _ (List.mem_of_getElem? (i := 12) rfl)) bg_nil)))) (bg_up (bg_law (bi_wsL_law0_r27 _ (List.mem_of_getElem? (i := 5) rfl))))
def ztdX9_warmthOf_0 : List (Nat × Instr × Nat) := [(0, .aload_n 0, 1), (1, .getfield 11, 3), (4, .iload_n 1, 1), (5, .iload_n 2, 1), (6, .invokestatic 50, 3), (9, .iaload, 1), (10, .ireturn, 1)]
theorem zhdX9_warmthOf_0 : dzC ztdX9_warmthOf_0 0 (cX9_warmthOf.data.toList.drop 0) = true := by decide +kernel
theorem dX9_warmthOf_0 : decode cX9_warmthOf 0 = .ok (.aload_n 0, 1) := dzr zhdX9_warmthOf_0 0 rfl
theorem dX9_warmthOf_1 : decode cX9_warmthOf 1 = .ok (.getfield 11, 3) := dzr zhdX9_warmthOf_0 1 rfl
theorem dX9_warmthOf_4 : decode cX9_warmthOf 4 = .ok (.iload_n 1, 1) := dzr zhdX9_warmthOf_0 2 rfl
theorem dX9_warmthOf_5 : decode cX9_warmthOf 5 = .ok (.iload_n 2, 1) := dzr zhdX9_warmthOf_0 3 rfl
theorem dX9_warmthOf_6 : decode cX9_warmthOf 6 = .ok (.invokestatic 50, 3) := dzr zhdX9_warmthOf_0 4 rfl
theorem dX9_warmthOf_9 : decode cX9_warmthOf 9 = .ok (.iaload, 1) := dzr zhdX9_warmthOf_0 5 rfl
theorem dX9_warmthOf_10 : decode cX9_warmthOf 10 = .ok (.ireturn, 1) := dzr zhdX9_warmthOf_0 6 rfl
theorem ggX9_riseOf_X9_warmthOf : GoodIn wsX9_riseOf wsX9_warmthOf := (bg_up (bg_law (bi_wsL_law0_r27 _ (List.mem_of_getElem? (i := 2) rfl))))
theorem gX9_riseOf_X9_warmthOf : GoodIn wsX9_riseOf (wsV RX9 53 RX9 yX9_warmthOf wsX9_warmthOf) := goodIn_app (bg_up (bg_cons (bi_wsL_law0_r29 _ (List.mem_of_getElem? (i := 9) rfl)) (bg_cons (bi_wsL_law0_r27 _ (List.mem_of_getElem? (i := 0) rfl)) (bg_cons (bi_wsL_law0_r27 _ (List.mem_of_getElem? (i := 1) rfl)) (bg_cons (bi_wsL_law0_r2 _ (List.mem_of_getElem? (i := 12) rfl)) bg_nil))))) (bg_up (bg_law (bi_wsL_law0_r27 _ (List.mem_of_getElem? (i := 2) rfl))))
theorem ggX9_riseOf_X9_day : GoodIn wsX9_riseOf wsX9_day := (bg_up (bg_law (bi_wsL_law0_r29 _ (List.mem_of_getElem? (i := 19) rfl))))
theorem gX9_riseOf_X9_day : GoodIn wsX9_riseOf (wsV RX9 56 RX9 yX9_day wsX9_day) := goodIn_app (bg_up (bg_cons (bi_wsL_law0_r29 _ (List.mem_of_getElem? (i := 16) rfl)) (bg_cons (bi_wsL_law0_r29 _ (List.mem_of_getElem? (i := 17) rfl)) (bg_cons (bi_wsL_law0_r29 _ (List.mem_of_getElem? (i := 18) rfl)) (bg_cons (bi_wsL_law0_r2 _ (List.mem_of_getElem? (i := 12) rfl)) bg_nil))))) (bg_up (bg_law (bi_wsL_law0_r29 _ (List.mem_of_getElem? (i := 19) rfl))))
theorem ggX9_riseOf_X9_riseAt : GoodIn wsX9_riseOf wsX9_riseAt := (bg_up (bg_law (bi_wsL_law0_r29 _ (List.mem_of_getElem? (i := 23) rfl))))
theorem gX9_riseOf_X9_riseAt : GoodIn wsX9_riseOf (wsV RX9 60 RX9 yX9_riseAt wsX9_riseAt) := goodIn_app (bg_up (bg_cons (bi_wsL_law0_r29 _ (List.mem_of_getElem? (i := 20) rfl)) (bg_cons (bi_wsL_law0_r29 _ (List.mem_of_getElem? (i := 21) rfl)) (bg_cons (bi_wsL_law0_r29 _ (List.mem_of_getElem? (i := 22) rfl)) (bg_cons (bi_wsL_law0_r2 _ (List.mem_of_getElem? (i := 12) rfl)) bg_nil))))) (bg_up (bg_law (bi_wsL_law0_r29 _ (List.mem_of_getElem? (i := 23) rfl))))
def ztdX9_riseOf_0 : List (Nat × Instr × Nat) := [(0, .aload_n 0, 1), (1, .iload_n 1, 1), (2, .iload_n 2, 1), (3, .aload_n 0, 1), (4, .iload_n 1, 1), (5, .iload_n 2, 1), (6, .invokevirtual 53, 3), (9, .aload_n 0, 1), (10, .invokevirtual 56, 3), (13, .invokevirtual 60, 3), (16, .ireturn, 1)]
theorem zhdX9_riseOf_0 : dzC ztdX9_riseOf_0 0 (cX9_riseOf.data.toList.drop 0) = true := by decide +kernel
theorem dX9_riseOf_0 : decode cX9_riseOf 0 = .ok (.aload_n 0, 1) := dzr zhdX9_riseOf_0 0 rfl
theorem dX9_riseOf_1 : decode cX9_riseOf 1 = .ok (.iload_n 1, 1) := dzr zhdX9_riseOf_0 1 rfl
theorem dX9_riseOf_2 : decode cX9_riseOf 2 = .ok (.iload_n 2, 1) := dzr zhdX9_riseOf_0 2 rfl
theorem dX9_riseOf_3 : decode cX9_riseOf 3 = .ok (.aload_n 0, 1) := dzr zhdX9_riseOf_0 3 rfl
theorem dX9_riseOf_4 : decode cX9_riseOf 4 = .ok (.iload_n 1, 1) := dzr zhdX9_riseOf_0 4 rfl
theorem dX9_riseOf_5 : decode cX9_riseOf 5 = .ok (.iload_n 2, 1) := dzr zhdX9_riseOf_0 5 rfl
theorem dX9_riseOf_6 : decode cX9_riseOf 6 = .ok (.invokevirtual 53, 3) := dzr zhdX9_riseOf_0 6 rfl
theorem dX9_riseOf_9 : decode cX9_riseOf 9 = .ok (.aload_n 0, 1) := dzr zhdX9_riseOf_0 7 rfl
theorem dX9_riseOf_10 : decode cX9_riseOf 10 = .ok (.invokevirtual 56, 3) := dzr zhdX9_riseOf_0 8 rfl
theorem dX9_riseOf_13 : decode cX9_riseOf 13 = .ok (.invokevirtual 60, 3) := dzr zhdX9_riseOf_0 9 rfl
theorem dX9_riseOf_16 : decode cX9_riseOf 16 = .ok (.ireturn, 1) := dzr zhdX9_riseOf_0 10 rfl
theorem ggX9_riseAt_X9_free : GoodIn wsX9_riseAt wsX9_free := (bg_up (bg_law (bi_wsL_law0_r24 _ (List.mem_of_getElem? (i := 14) rfl))))
theorem gX9_riseAt_X9_free : GoodIn wsX9_riseAt (wsV RX9 64 RX9 yX9_free wsX9_free) := goodIn_app (bg_up (bg_cons (bi_wsL_law0_r30 _ (List.mem_of_getElem? (i := 0) rfl)) (bg_cons (bi_wsL_law0_r24 _ (List.mem_of_getElem? (i := 12) rfl)) (bg_cons (bi_wsL_law0_r24 _ (List.mem_of_getElem? (i := 13) rfl)) (bg_cons (bi_wsL_law0_r2 _ (List.mem_of_getElem? (i := 12) rfl)) bg_nil))))) (bg_up (bg_law (bi_wsL_law0_r24 _ (List.mem_of_getElem? (i := 14) rfl))))
theorem ggX9_riseAt_X9_stuffed : GoodIn wsX9_riseAt wsX9_stuffed := (bg_up (bg_law (bi_wsL_law0_r24 _ (List.mem_of_getElem? (i := 18) rfl))))
theorem gX9_riseAt_X9_stuffed : GoodIn wsX9_riseAt (wsV RX9 67 RX9 yX9_stuffed wsX9_stuffed) := goodIn_app (bg_up (bg_cons (bi_wsL_law0_r30 _ (List.mem_of_getElem? (i := 1) rfl)) (bg_cons (bi_wsL_law0_r24 _ (List.mem_of_getElem? (i := 16) rfl)) (bg_cons (bi_wsL_law0_r24 _ (List.mem_of_getElem? (i := 17) rfl)) (bg_cons (bi_wsL_law0_r2 _ (List.mem_of_getElem? (i := 12) rfl)) bg_nil))))) (bg_up (bg_law (bi_wsL_law0_r24 _ (List.mem_of_getElem? (i := 18) rfl))))
theorem ggX9_riseAt_X5_sameAim : GoodIn wsX9_riseAt wsX5_sameAim := (bg_up (bg_law (bi_wsL_law0_r30 _ (List.mem_of_getElem? (i := 5) rfl))))
theorem gX9_riseAt_X5_sameAim : GoodIn wsX9_riseAt (wsV RX9 69 RX5 yX5_sameAim wsX5_sameAim) := goodIn_app (bg_up (bg_cons (bi_wsL_law0_r30 _ (List.mem_of_getElem? (i := 2) rfl)) (bg_cons (bi_wsL_law0_r30 _ (List.mem_of_getElem? (i := 3) rfl)) (bg_cons (bi_wsL_law0_r30 _ (List.mem_of_getElem? (i := 4) rfl)) (bg_cons (bi_wsL_law0_r2 _ (List.mem_of_getElem? (i := 4) rfl)) bg_nil))))) (bg_up (bg_law (bi_wsL_law0_r30 _ (List.mem_of_getElem? (i := 5) rfl))))
theorem ggX9_riseAt_X9_pride : GoodIn wsX9_riseAt wsX9_pride := (bg_up (bg_law (bi_wsL_law0_r23 _ (List.mem_of_getElem? (i := 9) rfl))))
theorem gX9_riseAt_X9_pride : GoodIn wsX9_riseAt (wsV RX9 72 RX9 yX9_pride wsX9_pride) := goodIn_app (bg_up (bg_cons (bi_wsL_law0_r30 _ (List.mem_of_getElem? (i := 6) rfl)) (bg_cons (bi_wsL_law0_r23 _ (List.mem_of_getElem? (i := 7) rfl)) (bg_cons (bi_wsL_law0_r23 _ (List.mem_of_getElem? (i := 8) rfl)) (bg_cons (bi_wsL_law0_r2 _ (List.mem_of_getElem? (i := 12) rfl)) bg_nil))))) (bg_up (bg_law (bi_wsL_law0_r23 _ (List.mem_of_getElem? (i := 9) rfl))))
theorem ggX9_riseAt_X2_riseBy : GoodIn wsX9_riseAt wsX2_riseBy := (bg_up (bg_law (bi_wsL_law0_r30 _ (List.mem_of_getElem? (i := 10) rfl))))
theorem gX9_riseAt_X2_riseBy : GoodIn wsX9_riseAt (wsV RX9 74 RX2 yX2_riseBy wsX2_riseBy) := goodIn_app (bg_up (bg_cons (bi_wsL_law0_r30 _ (List.mem_of_getElem? (i := 7) rfl)) (bg_cons (bi_wsL_law0_r30 _ (List.mem_of_getElem? (i := 8) rfl)) (bg_cons (bi_wsL_law0_r30 _ (List.mem_of_getElem? (i := 9) rfl)) (bg_cons (bi_wsL_law0_r2 _ (List.mem_of_getElem? (i := 8) rfl)) bg_nil))))) (bg_up (bg_law (bi_wsL_law0_r30 _ (List.mem_of_getElem? (i := 10) rfl))))
def ztdX9_riseAt_0 : List (Nat × Instr × Nat) := [(0, .aload_n 0, 1), (1, .getfield 19, 3), (4, .aload_n 0, 1), (5, .iload_n 1, 1), (6, .invokevirtual 64, 3), (9, .aload_n 0, 1), (10, .iload_n 2, 1), (11, .invokevirtual 64, 3), (14, .iadd, 1), (15, .aload_n 0, 1), (16, .iload_n 1, 1), (17, .invokevirtual 67, 3), (20, .aload_n 0, 1), (21, .iload_n 2, 1), (22, .invokevirtual 67, 3), (25, .iadd, 1), (26, .iload_n 3, 1), (27, .aload_n 0, 1), (28, .getfield 15, 3), (31, .iload_n 1, 1), (32, .iload_n 2, 1), (33, .invokevirtual 69, 3), (36, .aload_n 0, 1), (37, .invokevirtual 72, 3)]
theorem zhdX9_riseAt_0 : dzC ztdX9_riseAt_0 0 (cX9_riseAt.data.toList.drop 0) = true := by decide +kernel
theorem dX9_riseAt_0 : decode cX9_riseAt 0 = .ok (.aload_n 0, 1) := dzr zhdX9_riseAt_0 0 rfl
theorem dX9_riseAt_1 : decode cX9_riseAt 1 = .ok (.getfield 19, 3) := dzr zhdX9_riseAt_0 1 rfl
theorem dX9_riseAt_4 : decode cX9_riseAt 4 = .ok (.aload_n 0, 1) := dzr zhdX9_riseAt_0 2 rfl
theorem dX9_riseAt_5 : decode cX9_riseAt 5 = .ok (.iload_n 1, 1) := dzr zhdX9_riseAt_0 3 rfl
theorem dX9_riseAt_6 : decode cX9_riseAt 6 = .ok (.invokevirtual 64, 3) := dzr zhdX9_riseAt_0 4 rfl
theorem dX9_riseAt_9 : decode cX9_riseAt 9 = .ok (.aload_n 0, 1) := dzr zhdX9_riseAt_0 5 rfl
theorem dX9_riseAt_10 : decode cX9_riseAt 10 = .ok (.iload_n 2, 1) := dzr zhdX9_riseAt_0 6 rfl
theorem dX9_riseAt_11 : decode cX9_riseAt 11 = .ok (.invokevirtual 64, 3) := dzr zhdX9_riseAt_0 7 rfl
theorem dX9_riseAt_14 : decode cX9_riseAt 14 = .ok (.iadd, 1) := dzr zhdX9_riseAt_0 8 rfl
theorem dX9_riseAt_15 : decode cX9_riseAt 15 = .ok (.aload_n 0, 1) := dzr zhdX9_riseAt_0 9 rfl
theorem dX9_riseAt_16 : decode cX9_riseAt 16 = .ok (.iload_n 1, 1) := dzr zhdX9_riseAt_0 10 rfl
theorem dX9_riseAt_17 : decode cX9_riseAt 17 = .ok (.invokevirtual 67, 3) := dzr zhdX9_riseAt_0 11 rfl
theorem dX9_riseAt_20 : decode cX9_riseAt 20 = .ok (.aload_n 0, 1) := dzr zhdX9_riseAt_0 12 rfl
theorem dX9_riseAt_21 : decode cX9_riseAt 21 = .ok (.iload_n 2, 1) := dzr zhdX9_riseAt_0 13 rfl
theorem dX9_riseAt_22 : decode cX9_riseAt 22 = .ok (.invokevirtual 67, 3) := dzr zhdX9_riseAt_0 14 rfl
theorem dX9_riseAt_25 : decode cX9_riseAt 25 = .ok (.iadd, 1) := dzr zhdX9_riseAt_0 15 rfl
theorem dX9_riseAt_26 : decode cX9_riseAt 26 = .ok (.iload_n 3, 1) := dzr zhdX9_riseAt_0 16 rfl
theorem dX9_riseAt_27 : decode cX9_riseAt 27 = .ok (.aload_n 0, 1) := dzr zhdX9_riseAt_0 17 rfl
theorem dX9_riseAt_28 : decode cX9_riseAt 28 = .ok (.getfield 15, 3) := dzr zhdX9_riseAt_0 18 rfl
theorem dX9_riseAt_31 : decode cX9_riseAt 31 = .ok (.iload_n 1, 1) := dzr zhdX9_riseAt_0 19 rfl
theorem dX9_riseAt_32 : decode cX9_riseAt 32 = .ok (.iload_n 2, 1) := dzr zhdX9_riseAt_0 20 rfl
theorem dX9_riseAt_33 : decode cX9_riseAt 33 = .ok (.invokevirtual 69, 3) := dzr zhdX9_riseAt_0 21 rfl
theorem dX9_riseAt_36 : decode cX9_riseAt 36 = .ok (.aload_n 0, 1) := dzr zhdX9_riseAt_0 22 rfl
theorem dX9_riseAt_37 : decode cX9_riseAt 37 = .ok (.invokevirtual 72, 3) := dzr zhdX9_riseAt_0 23 rfl
def ztdX9_riseAt_40 : List (Nat × Instr × Nat) := [(40, .iload 4, 2), (42, .invokevirtual 74, 3), (45, .ireturn, 1)]
theorem zhdX9_riseAt_40 : dzC ztdX9_riseAt_40 40 (cX9_riseAt.data.toList.drop 40) = true := by decide +kernel
theorem dX9_riseAt_40 : decode cX9_riseAt 40 = .ok (.iload 4, 2) := dzr zhdX9_riseAt_40 0 rfl
theorem dX9_riseAt_42 : decode cX9_riseAt 42 = .ok (.invokevirtual 74, 3) := dzr zhdX9_riseAt_40 1 rfl
theorem dX9_riseAt_45 : decode cX9_riseAt 45 = .ok (.ireturn, 1) := dzr zhdX9_riseAt_40 2 rfl
theorem ggX9_warmer_X9_day : GoodIn wsX9_warmer wsX9_day := (bg_up (bg_law (bi_wsL_law0_r29 _ (List.mem_of_getElem? (i := 19) rfl))))
theorem gX9_warmer_X9_day : GoodIn wsX9_warmer (wsV RX9 56 RX9 yX9_day wsX9_day) := goodIn_app (bg_up (bg_cons (bi_wsL_law0_r29 _ (List.mem_of_getElem? (i := 16) rfl)) (bg_cons (bi_wsL_law0_r29 _ (List.mem_of_getElem? (i := 17) rfl)) (bg_cons (bi_wsL_law0_r29 _ (List.mem_of_getElem? (i := 18) rfl)) (bg_cons (bi_wsL_law0_r2 _ (List.mem_of_getElem? (i := 12) rfl)) bg_nil))))) (bg_up (bg_law (bi_wsL_law0_r29 _ (List.mem_of_getElem? (i := 19) rfl))))
theorem ggX9_warmer_X9_riseAt : GoodIn wsX9_warmer wsX9_riseAt := (bg_up (bg_law (bi_wsL_law0_r29 _ (List.mem_of_getElem? (i := 23) rfl))))
theorem gX9_warmer_X9_riseAt : GoodIn wsX9_warmer (wsV RX9 60 RX9 yX9_riseAt wsX9_riseAt) := goodIn_app (bg_up (bg_cons (bi_wsL_law0_r29 _ (List.mem_of_getElem? (i := 20) rfl)) (bg_cons (bi_wsL_law0_r29 _ (List.mem_of_getElem? (i := 21) rfl)) (bg_cons (bi_wsL_law0_r29 _ (List.mem_of_getElem? (i := 22) rfl)) (bg_cons (bi_wsL_law0_r2 _ (List.mem_of_getElem? (i := 12) rfl)) bg_nil))))) (bg_up (bg_law (bi_wsL_law0_r29 _ (List.mem_of_getElem? (i := 23) rfl))))
def ztdX9_warmer_0 : List (Nat × Instr × Nat) := [(0, .aload_n 0, 1), (1, .iload_n 1, 1), (2, .iload_n 2, 1), (3, .iload_n 3, 1), (4, .sipush 999, 3), (7, .aload_n 0, 1), (8, .invokevirtual 56, 3), (11, .iload 4, 2), (13, .iadd, 1), (14, .invokestatic 44, 3), (17, .invokevirtual 60, 3), (20, .istore 5, 2), (22, .iconst 0, 1), (23, .bipush 99, 2), (25, .iload_n 3, 1), (26, .iload 5, 2), (28, .iadd, 1), (29, .invokestatic 44, 3), (32, .invokestatic 80, 3), (35, .ireturn, 1)]
theorem zhdX9_warmer_0 : dzC ztdX9_warmer_0 0 (cX9_warmer.data.toList.drop 0) = true := by decide +kernel
theorem dX9_warmer_0 : decode cX9_warmer 0 = .ok (.aload_n 0, 1) := dzr zhdX9_warmer_0 0 rfl
theorem dX9_warmer_1 : decode cX9_warmer 1 = .ok (.iload_n 1, 1) := dzr zhdX9_warmer_0 1 rfl
theorem dX9_warmer_2 : decode cX9_warmer 2 = .ok (.iload_n 2, 1) := dzr zhdX9_warmer_0 2 rfl
theorem dX9_warmer_3 : decode cX9_warmer 3 = .ok (.iload_n 3, 1) := dzr zhdX9_warmer_0 3 rfl
theorem dX9_warmer_4 : decode cX9_warmer 4 = .ok (.sipush 999, 3) := dzr zhdX9_warmer_0 4 rfl
theorem dX9_warmer_7 : decode cX9_warmer 7 = .ok (.aload_n 0, 1) := dzr zhdX9_warmer_0 5 rfl
theorem dX9_warmer_8 : decode cX9_warmer 8 = .ok (.invokevirtual 56, 3) := dzr zhdX9_warmer_0 6 rfl
theorem dX9_warmer_11 : decode cX9_warmer 11 = .ok (.iload 4, 2) := dzr zhdX9_warmer_0 7 rfl
theorem dX9_warmer_13 : decode cX9_warmer 13 = .ok (.iadd, 1) := dzr zhdX9_warmer_0 8 rfl
theorem dX9_warmer_14 : decode cX9_warmer 14 = .ok (.invokestatic 44, 3) := dzr zhdX9_warmer_0 9 rfl
theorem dX9_warmer_17 : decode cX9_warmer 17 = .ok (.invokevirtual 60, 3) := dzr zhdX9_warmer_0 10 rfl
theorem dX9_warmer_20 : decode cX9_warmer 20 = .ok (.istore 5, 2) := dzr zhdX9_warmer_0 11 rfl
theorem dX9_warmer_22 : decode cX9_warmer 22 = .ok (.iconst 0, 1) := dzr zhdX9_warmer_0 12 rfl
theorem dX9_warmer_23 : decode cX9_warmer 23 = .ok (.bipush 99, 2) := dzr zhdX9_warmer_0 13 rfl
theorem dX9_warmer_25 : decode cX9_warmer 25 = .ok (.iload_n 3, 1) := dzr zhdX9_warmer_0 14 rfl
theorem dX9_warmer_26 : decode cX9_warmer 26 = .ok (.iload 5, 2) := dzr zhdX9_warmer_0 15 rfl
theorem dX9_warmer_28 : decode cX9_warmer 28 = .ok (.iadd, 1) := dzr zhdX9_warmer_0 16 rfl
theorem dX9_warmer_29 : decode cX9_warmer 29 = .ok (.invokestatic 44, 3) := dzr zhdX9_warmer_0 17 rfl
theorem dX9_warmer_32 : decode cX9_warmer 32 = .ok (.invokestatic 80, 3) := dzr zhdX9_warmer_0 18 rfl
theorem dX9_warmer_35 : decode cX9_warmer 35 = .ok (.ireturn, 1) := dzr zhdX9_warmer_0 19 rfl
theorem ggX9_meet_X9_placeOf : GoodIn wsX9_meet wsX9_placeOf := (bg_up (bg_law (bi_wsL_law0_r27 _ (List.mem_of_getElem? (i := 5) rfl))))
theorem gX9_meet_X9_placeOf : GoodIn wsX9_meet (va_wsS RX9 50 yX9_placeOf wsX9_placeOf) := goodIn_app (bg_up (bg_cons (bi_wsL_law0_r27 _ (List.mem_of_getElem? (i := 3) rfl)) (bg_cons (bi_wsL_law0_r27 _ (List.mem_of_getElem? (i := 4) rfl)) (bg_cons (bi_wsL_law0_r2 _ (List.mem_of_getElem? (i := 12) rfl)) bg_nil)))) (bg_up (bg_law (bi_wsL_law0_r27 _ (List.mem_of_getElem? (i := 5) rfl))))
theorem ggX9_meet_X9_warmthOf : GoodIn wsX9_meet wsX9_warmthOf := (bg_up (bg_law (bi_wsL_law0_r27 _ (List.mem_of_getElem? (i := 2) rfl))))
theorem gX9_meet_X9_warmthOf : GoodIn wsX9_meet (wsV RX9 53 RX9 yX9_warmthOf wsX9_warmthOf) := goodIn_app (bg_up (bg_cons (bi_wsL_law0_r29 _ (List.mem_of_getElem? (i := 9) rfl)) (bg_cons (bi_wsL_law0_r27 _ (List.mem_of_getElem? (i := 0) rfl)) (bg_cons (bi_wsL_law0_r27 _ (List.mem_of_getElem? (i := 1) rfl)) (bg_cons (bi_wsL_law0_r2 _ (List.mem_of_getElem? (i := 12) rfl)) bg_nil))))) (bg_up (bg_law (bi_wsL_law0_r27 _ (List.mem_of_getElem? (i := 2) rfl))))
theorem ggX9_meet_X9_warmer : GoodIn wsX9_meet wsX9_warmer := (bg_up (bg_law (bi_wsL_law0_r29 _ (List.mem_of_getElem? (i := 13) rfl))))
theorem gX9_meet_X9_warmer : GoodIn wsX9_meet (wsV RX9 83 RX9 yX9_warmer wsX9_warmer) := goodIn_app (bg_up (bg_cons (bi_wsL_law0_r29 _ (List.mem_of_getElem? (i := 10) rfl)) (bg_cons (bi_wsL_law0_r29 _ (List.mem_of_getElem? (i := 11) rfl)) (bg_cons (bi_wsL_law0_r29 _ (List.mem_of_getElem? (i := 12) rfl)) (bg_cons (bi_wsL_law0_r2 _ (List.mem_of_getElem? (i := 12) rfl)) bg_nil))))) (bg_up (bg_law (bi_wsL_law0_r29 _ (List.mem_of_getElem? (i := 13) rfl))))
theorem ggX9_meet_X9_knows : GoodIn wsX9_meet wsX9_knows := (bg_up (bg_law (bi_wsL_law0_r25 _ (List.mem_of_getElem? (i := 2) rfl))))
theorem gX9_meet_X9_knows : GoodIn wsX9_meet (wsV RX9 86 RX9 yX9_knows wsX9_knows) := goodIn_app (bg_up (bg_cons (bi_wsL_law0_r31 _ (List.mem_of_getElem? (i := 3) rfl)) (bg_cons (bi_wsL_law0_r25 _ (List.mem_of_getElem? (i := 0) rfl)) (bg_cons (bi_wsL_law0_r25 _ (List.mem_of_getElem? (i := 1) rfl)) (bg_cons (bi_wsL_law0_r2 _ (List.mem_of_getElem? (i := 12) rfl)) bg_nil))))) (bg_up (bg_law (bi_wsL_law0_r25 _ (List.mem_of_getElem? (i := 2) rfl))))
theorem ggX9_meet_X9_signLowest : GoodIn wsX9_meet wsX9_signLowest := (bg_up (bg_law (bi_wsL_law0_r31 _ (List.mem_of_getElem? (i := 7) rfl))))
theorem gX9_meet_X9_signLowest : GoodIn wsX9_meet (wsV RX9 89 RX9 yX9_signLowest wsX9_signLowest) := goodIn_app (bg_up (bg_cons (bi_wsL_law0_r31 _ (List.mem_of_getElem? (i := 4) rfl)) (bg_cons (bi_wsL_law0_r31 _ (List.mem_of_getElem? (i := 5) rfl)) (bg_cons (bi_wsL_law0_r31 _ (List.mem_of_getElem? (i := 6) rfl)) (bg_cons (bi_wsL_law0_r2 _ (List.mem_of_getElem? (i := 12) rfl)) bg_nil))))) (bg_up (bg_law (bi_wsL_law0_r31 _ (List.mem_of_getElem? (i := 7) rfl))))
def ztdX9_meet_0 : List (Nat × Instr × Nat) := [(0, .aload_n 0, 1), (1, .getfield 11, 3), (4, .iload_n 1, 1), (5, .iload_n 2, 1), (6, .invokestatic 50, 3), (9, .aload_n 0, 1), (10, .iload_n 1, 1), (11, .iload_n 2, 1), (12, .aload_n 0, 1), (13, .iload_n 1, 1), (14, .iload_n 2, 1), (15, .invokevirtual 53, 3), (18, .iconst 0, 1), (19, .invokevirtual 83, 3), (22, .iastore, 1), (23, .aload_n 0, 1), (24, .iload_n 1, 1), (25, .invokevirtual 86, 3), (28, .aload_n 0, 1), (29, .iload_n 2, 1), (30, .invokevirtual 86, 3), (33, .ior, 1), (34, .istore_n 3, 1), (35, .aload_n 0, 1)]
theorem zhdX9_meet_0 : dzC ztdX9_meet_0 0 (cX9_meet.data.toList.drop 0) = true := by decide +kernel
theorem dX9_meet_0 : decode cX9_meet 0 = .ok (.aload_n 0, 1) := dzr zhdX9_meet_0 0 rfl
theorem dX9_meet_1 : decode cX9_meet 1 = .ok (.getfield 11, 3) := dzr zhdX9_meet_0 1 rfl
theorem dX9_meet_4 : decode cX9_meet 4 = .ok (.iload_n 1, 1) := dzr zhdX9_meet_0 2 rfl
theorem dX9_meet_5 : decode cX9_meet 5 = .ok (.iload_n 2, 1) := dzr zhdX9_meet_0 3 rfl
theorem dX9_meet_6 : decode cX9_meet 6 = .ok (.invokestatic 50, 3) := dzr zhdX9_meet_0 4 rfl
theorem dX9_meet_9 : decode cX9_meet 9 = .ok (.aload_n 0, 1) := dzr zhdX9_meet_0 5 rfl
theorem dX9_meet_10 : decode cX9_meet 10 = .ok (.iload_n 1, 1) := dzr zhdX9_meet_0 6 rfl
theorem dX9_meet_11 : decode cX9_meet 11 = .ok (.iload_n 2, 1) := dzr zhdX9_meet_0 7 rfl
theorem dX9_meet_12 : decode cX9_meet 12 = .ok (.aload_n 0, 1) := dzr zhdX9_meet_0 8 rfl
theorem dX9_meet_13 : decode cX9_meet 13 = .ok (.iload_n 1, 1) := dzr zhdX9_meet_0 9 rfl
theorem dX9_meet_14 : decode cX9_meet 14 = .ok (.iload_n 2, 1) := dzr zhdX9_meet_0 10 rfl
theorem dX9_meet_15 : decode cX9_meet 15 = .ok (.invokevirtual 53, 3) := dzr zhdX9_meet_0 11 rfl
theorem dX9_meet_18 : decode cX9_meet 18 = .ok (.iconst 0, 1) := dzr zhdX9_meet_0 12 rfl
theorem dX9_meet_19 : decode cX9_meet 19 = .ok (.invokevirtual 83, 3) := dzr zhdX9_meet_0 13 rfl
theorem dX9_meet_22 : decode cX9_meet 22 = .ok (.iastore, 1) := dzr zhdX9_meet_0 14 rfl
theorem dX9_meet_23 : decode cX9_meet 23 = .ok (.aload_n 0, 1) := dzr zhdX9_meet_0 15 rfl
theorem dX9_meet_24 : decode cX9_meet 24 = .ok (.iload_n 1, 1) := dzr zhdX9_meet_0 16 rfl
theorem dX9_meet_25 : decode cX9_meet 25 = .ok (.invokevirtual 86, 3) := dzr zhdX9_meet_0 17 rfl
theorem dX9_meet_28 : decode cX9_meet 28 = .ok (.aload_n 0, 1) := dzr zhdX9_meet_0 18 rfl
theorem dX9_meet_29 : decode cX9_meet 29 = .ok (.iload_n 2, 1) := dzr zhdX9_meet_0 19 rfl
theorem dX9_meet_30 : decode cX9_meet 30 = .ok (.invokevirtual 86, 3) := dzr zhdX9_meet_0 20 rfl
theorem dX9_meet_33 : decode cX9_meet 33 = .ok (.ior, 1) := dzr zhdX9_meet_0 21 rfl
theorem dX9_meet_34 : decode cX9_meet 34 = .ok (.istore_n 3, 1) := dzr zhdX9_meet_0 22 rfl
theorem dX9_meet_35 : decode cX9_meet 35 = .ok (.aload_n 0, 1) := dzr zhdX9_meet_0 23 rfl
def ztdX9_meet_36 : List (Nat × Instr × Nat) := [(36, .getfield 11, 3), (39, .bipush 48, 2), (41, .iload_n 1, 1), (42, .iadd, 1), (43, .iload_n 3, 1), (44, .iastore, 1), (45, .aload_n 0, 1), (46, .getfield 11, 3), (49, .bipush 48, 2), (51, .iload_n 2, 1), (52, .iadd, 1), (53, .iload_n 3, 1), (54, .iastore, 1), (55, .aload_n 0, 1), (56, .getfield 11, 3), (59, .bipush 54, 2), (61, .iload_n 1, 1), (62, .iadd, 1), (63, .iload_n 2, 1), (64, .iastore, 1), (65, .aload_n 0, 1), (66, .getfield 11, 3), (69, .bipush 54, 2), (71, .iload_n 2, 1)]
theorem zhdX9_meet_36 : dzC ztdX9_meet_36 36 (cX9_meet.data.toList.drop 36) = true := by decide +kernel
theorem dX9_meet_36 : decode cX9_meet 36 = .ok (.getfield 11, 3) := dzr zhdX9_meet_36 0 rfl
theorem dX9_meet_39 : decode cX9_meet 39 = .ok (.bipush 48, 2) := dzr zhdX9_meet_36 1 rfl
theorem dX9_meet_41 : decode cX9_meet 41 = .ok (.iload_n 1, 1) := dzr zhdX9_meet_36 2 rfl
theorem dX9_meet_42 : decode cX9_meet 42 = .ok (.iadd, 1) := dzr zhdX9_meet_36 3 rfl
theorem dX9_meet_43 : decode cX9_meet 43 = .ok (.iload_n 3, 1) := dzr zhdX9_meet_36 4 rfl
theorem dX9_meet_44 : decode cX9_meet 44 = .ok (.iastore, 1) := dzr zhdX9_meet_36 5 rfl
theorem dX9_meet_45 : decode cX9_meet 45 = .ok (.aload_n 0, 1) := dzr zhdX9_meet_36 6 rfl
theorem dX9_meet_46 : decode cX9_meet 46 = .ok (.getfield 11, 3) := dzr zhdX9_meet_36 7 rfl
theorem dX9_meet_49 : decode cX9_meet 49 = .ok (.bipush 48, 2) := dzr zhdX9_meet_36 8 rfl
theorem dX9_meet_51 : decode cX9_meet 51 = .ok (.iload_n 2, 1) := dzr zhdX9_meet_36 9 rfl
theorem dX9_meet_52 : decode cX9_meet 52 = .ok (.iadd, 1) := dzr zhdX9_meet_36 10 rfl
theorem dX9_meet_53 : decode cX9_meet 53 = .ok (.iload_n 3, 1) := dzr zhdX9_meet_36 11 rfl
theorem dX9_meet_54 : decode cX9_meet 54 = .ok (.iastore, 1) := dzr zhdX9_meet_36 12 rfl
theorem dX9_meet_55 : decode cX9_meet 55 = .ok (.aload_n 0, 1) := dzr zhdX9_meet_36 13 rfl
theorem dX9_meet_56 : decode cX9_meet 56 = .ok (.getfield 11, 3) := dzr zhdX9_meet_36 14 rfl
theorem dX9_meet_59 : decode cX9_meet 59 = .ok (.bipush 54, 2) := dzr zhdX9_meet_36 15 rfl
theorem dX9_meet_61 : decode cX9_meet 61 = .ok (.iload_n 1, 1) := dzr zhdX9_meet_36 16 rfl
theorem dX9_meet_62 : decode cX9_meet 62 = .ok (.iadd, 1) := dzr zhdX9_meet_36 17 rfl
theorem dX9_meet_63 : decode cX9_meet 63 = .ok (.iload_n 2, 1) := dzr zhdX9_meet_36 18 rfl
theorem dX9_meet_64 : decode cX9_meet 64 = .ok (.iastore, 1) := dzr zhdX9_meet_36 19 rfl
theorem dX9_meet_65 : decode cX9_meet 65 = .ok (.aload_n 0, 1) := dzr zhdX9_meet_36 20 rfl
theorem dX9_meet_66 : decode cX9_meet 66 = .ok (.getfield 11, 3) := dzr zhdX9_meet_36 21 rfl
theorem dX9_meet_69 : decode cX9_meet 69 = .ok (.bipush 54, 2) := dzr zhdX9_meet_36 22 rfl
theorem dX9_meet_71 : decode cX9_meet 71 = .ok (.iload_n 2, 1) := dzr zhdX9_meet_36 23 rfl
def ztdX9_meet_72 : List (Nat × Instr × Nat) := [(72, .iadd, 1), (73, .iload_n 1, 1), (74, .iastore, 1), (75, .aload_n 0, 1), (76, .iload_n 1, 1), (77, .iload_n 2, 1), (78, .invokevirtual 89, 3), (81, .return_, 1)]
theorem zhdX9_meet_72 : dzC ztdX9_meet_72 72 (cX9_meet.data.toList.drop 72) = true := by decide +kernel
theorem dX9_meet_72 : decode cX9_meet 72 = .ok (.iadd, 1) := dzr zhdX9_meet_72 0 rfl
theorem dX9_meet_73 : decode cX9_meet 73 = .ok (.iload_n 1, 1) := dzr zhdX9_meet_72 1 rfl
theorem dX9_meet_74 : decode cX9_meet 74 = .ok (.iastore, 1) := dzr zhdX9_meet_72 2 rfl
theorem dX9_meet_75 : decode cX9_meet 75 = .ok (.aload_n 0, 1) := dzr zhdX9_meet_72 3 rfl
theorem dX9_meet_76 : decode cX9_meet 76 = .ok (.iload_n 1, 1) := dzr zhdX9_meet_72 4 rfl
theorem dX9_meet_77 : decode cX9_meet 77 = .ok (.iload_n 2, 1) := dzr zhdX9_meet_72 5 rfl
theorem dX9_meet_78 : decode cX9_meet 78 = .ok (.invokevirtual 89, 3) := dzr zhdX9_meet_72 6 rfl
theorem dX9_meet_81 : decode cX9_meet 81 = .ok (.return_, 1) := dzr zhdX9_meet_72 7 rfl
theorem ggX9_signLowest_X9_signers : GoodIn wsX9_signLowest wsX9_signers := (bg_up (bg_law (bi_wsL_law0_r26 _ (List.mem_of_getElem? (i := 5) rfl))))
theorem gX9_signLowest_X9_signers : GoodIn wsX9_signLowest (wsV RX9 96 RX9 yX9_signers wsX9_signers) := goodIn_app (bg_up (bg_cons (bi_wsL_law0_r31 _ (List.mem_of_getElem? (i := 10) rfl)) (bg_cons (bi_wsL_law0_r26 _ (List.mem_of_getElem? (i := 3) rfl)) (bg_cons (bi_wsL_law0_r26 _ (List.mem_of_getElem? (i := 4) rfl)) (bg_cons (bi_wsL_law0_r2 _ (List.mem_of_getElem? (i := 12) rfl)) bg_nil))))) (bg_up (bg_law (bi_wsL_law0_r26 _ (List.mem_of_getElem? (i := 5) rfl))))
theorem ggX9_signLowest_X9_warmthOf : GoodIn wsX9_signLowest wsX9_warmthOf := (bg_up (bg_law (bi_wsL_law0_r27 _ (List.mem_of_getElem? (i := 2) rfl))))
theorem gX9_signLowest_X9_warmthOf : GoodIn wsX9_signLowest (wsV RX9 53 RX9 yX9_warmthOf wsX9_warmthOf) := goodIn_app (bg_up (bg_cons (bi_wsL_law0_r29 _ (List.mem_of_getElem? (i := 9) rfl)) (bg_cons (bi_wsL_law0_r27 _ (List.mem_of_getElem? (i := 0) rfl)) (bg_cons (bi_wsL_law0_r27 _ (List.mem_of_getElem? (i := 1) rfl)) (bg_cons (bi_wsL_law0_r2 _ (List.mem_of_getElem? (i := 12) rfl)) bg_nil))))) (bg_up (bg_law (bi_wsL_law0_r27 _ (List.mem_of_getElem? (i := 2) rfl))))
def ztdX9_signLowest_0 : List (Nat × Instr × Nat) := [(0, .iconst 0, 1), (1, .istore_n 3, 1), (2, .iload_n 3, 1), (3, .aload_n 0, 1), (4, .getfield 15, 3), (7, .getfield 93, 3), (10, .if_icmp .ge 73, 3), (13, .aload_n 0, 1), (14, .iload_n 3, 1), (15, .invokevirtual 96, 3), (18, .iconst (-1), 1), (19, .if_icmp .ne 58, 3), (22, .aload_n 0, 1), (23, .iload_n 1, 1), (24, .iload_n 2, 1), (25, .invokevirtual 53, 3), (28, .aload_n 0, 1), (29, .getfield 15, 3), (32, .getfield 99, 3), (35, .iload_n 3, 1), (36, .iaload, 1), (37, .if_icmp .lt 40, 3), (40, .aload_n 0, 1), (41, .getfield 11, 3)]
theorem zhdX9_signLowest_0 : dzC ztdX9_signLowest_0 0 (cX9_signLowest.data.toList.drop 0) = true := by decide +kernel
theorem dX9_signLowest_0 : decode cX9_signLowest 0 = .ok (.iconst 0, 1) := dzr zhdX9_signLowest_0 0 rfl
theorem dX9_signLowest_1 : decode cX9_signLowest 1 = .ok (.istore_n 3, 1) := dzr zhdX9_signLowest_0 1 rfl
theorem dX9_signLowest_2 : decode cX9_signLowest 2 = .ok (.iload_n 3, 1) := dzr zhdX9_signLowest_0 2 rfl
theorem dX9_signLowest_3 : decode cX9_signLowest 3 = .ok (.aload_n 0, 1) := dzr zhdX9_signLowest_0 3 rfl
theorem dX9_signLowest_4 : decode cX9_signLowest 4 = .ok (.getfield 15, 3) := dzr zhdX9_signLowest_0 4 rfl
theorem dX9_signLowest_7 : decode cX9_signLowest 7 = .ok (.getfield 93, 3) := dzr zhdX9_signLowest_0 5 rfl
theorem dX9_signLowest_10 : decode cX9_signLowest 10 = .ok (.if_icmp .ge 73, 3) := dzr zhdX9_signLowest_0 6 rfl
theorem dX9_signLowest_13 : decode cX9_signLowest 13 = .ok (.aload_n 0, 1) := dzr zhdX9_signLowest_0 7 rfl
theorem dX9_signLowest_14 : decode cX9_signLowest 14 = .ok (.iload_n 3, 1) := dzr zhdX9_signLowest_0 8 rfl
theorem dX9_signLowest_15 : decode cX9_signLowest 15 = .ok (.invokevirtual 96, 3) := dzr zhdX9_signLowest_0 9 rfl
theorem dX9_signLowest_18 : decode cX9_signLowest 18 = .ok (.iconst (-1), 1) := dzr zhdX9_signLowest_0 10 rfl
theorem dX9_signLowest_19 : decode cX9_signLowest 19 = .ok (.if_icmp .ne 58, 3) := dzr zhdX9_signLowest_0 11 rfl
theorem dX9_signLowest_22 : decode cX9_signLowest 22 = .ok (.aload_n 0, 1) := dzr zhdX9_signLowest_0 12 rfl
theorem dX9_signLowest_23 : decode cX9_signLowest 23 = .ok (.iload_n 1, 1) := dzr zhdX9_signLowest_0 13 rfl
theorem dX9_signLowest_24 : decode cX9_signLowest 24 = .ok (.iload_n 2, 1) := dzr zhdX9_signLowest_0 14 rfl
theorem dX9_signLowest_25 : decode cX9_signLowest 25 = .ok (.invokevirtual 53, 3) := dzr zhdX9_signLowest_0 15 rfl
theorem dX9_signLowest_28 : decode cX9_signLowest 28 = .ok (.aload_n 0, 1) := dzr zhdX9_signLowest_0 16 rfl
theorem dX9_signLowest_29 : decode cX9_signLowest 29 = .ok (.getfield 15, 3) := dzr zhdX9_signLowest_0 17 rfl
theorem dX9_signLowest_32 : decode cX9_signLowest 32 = .ok (.getfield 99, 3) := dzr zhdX9_signLowest_0 18 rfl
theorem dX9_signLowest_35 : decode cX9_signLowest 35 = .ok (.iload_n 3, 1) := dzr zhdX9_signLowest_0 19 rfl
theorem dX9_signLowest_36 : decode cX9_signLowest 36 = .ok (.iaload, 1) := dzr zhdX9_signLowest_0 20 rfl
theorem dX9_signLowest_37 : decode cX9_signLowest 37 = .ok (.if_icmp .lt 40, 3) := dzr zhdX9_signLowest_0 21 rfl
theorem dX9_signLowest_40 : decode cX9_signLowest 40 = .ok (.aload_n 0, 1) := dzr zhdX9_signLowest_0 22 rfl
theorem dX9_signLowest_41 : decode cX9_signLowest 41 = .ok (.getfield 11, 3) := dzr zhdX9_signLowest_0 23 rfl
def ztdX9_signLowest_44 : List (Nat × Instr × Nat) := [(44, .bipush 60, 2), (46, .iload_n 3, 1), (47, .iadd, 1), (48, .bipush 10, 2), (50, .iload_n 1, 1), (51, .iload_n 2, 1), (52, .invokestatic 44, 3), (55, .imul, 1), (56, .iload_n 1, 1), (57, .iload_n 2, 1), (58, .invokestatic 80, 3), (61, .iadd, 1), (62, .iastore, 1), (63, .aload_n 0, 1), (64, .getfield 11, 3), (67, .bipush 65, 2), (69, .dup2, 1), (70, .iaload, 1), (71, .iconst 1, 1), (72, .iload_n 3, 1), (73, .ishl, 1), (74, .ior, 1), (75, .iastore, 1), (76, .return_, 1)]
theorem zhdX9_signLowest_44 : dzC ztdX9_signLowest_44 44 (cX9_signLowest.data.toList.drop 44) = true := by decide +kernel
theorem dX9_signLowest_44 : decode cX9_signLowest 44 = .ok (.bipush 60, 2) := dzr zhdX9_signLowest_44 0 rfl
theorem dX9_signLowest_46 : decode cX9_signLowest 46 = .ok (.iload_n 3, 1) := dzr zhdX9_signLowest_44 1 rfl
theorem dX9_signLowest_47 : decode cX9_signLowest 47 = .ok (.iadd, 1) := dzr zhdX9_signLowest_44 2 rfl
theorem dX9_signLowest_48 : decode cX9_signLowest 48 = .ok (.bipush 10, 2) := dzr zhdX9_signLowest_44 3 rfl
theorem dX9_signLowest_50 : decode cX9_signLowest 50 = .ok (.iload_n 1, 1) := dzr zhdX9_signLowest_44 4 rfl
theorem dX9_signLowest_51 : decode cX9_signLowest 51 = .ok (.iload_n 2, 1) := dzr zhdX9_signLowest_44 5 rfl
theorem dX9_signLowest_52 : decode cX9_signLowest 52 = .ok (.invokestatic 44, 3) := dzr zhdX9_signLowest_44 6 rfl
theorem dX9_signLowest_55 : decode cX9_signLowest 55 = .ok (.imul, 1) := dzr zhdX9_signLowest_44 7 rfl
theorem dX9_signLowest_56 : decode cX9_signLowest 56 = .ok (.iload_n 1, 1) := dzr zhdX9_signLowest_44 8 rfl
theorem dX9_signLowest_57 : decode cX9_signLowest 57 = .ok (.iload_n 2, 1) := dzr zhdX9_signLowest_44 9 rfl
theorem dX9_signLowest_58 : decode cX9_signLowest 58 = .ok (.invokestatic 80, 3) := dzr zhdX9_signLowest_44 10 rfl
theorem dX9_signLowest_61 : decode cX9_signLowest 61 = .ok (.iadd, 1) := dzr zhdX9_signLowest_44 11 rfl
theorem dX9_signLowest_62 : decode cX9_signLowest 62 = .ok (.iastore, 1) := dzr zhdX9_signLowest_44 12 rfl
theorem dX9_signLowest_63 : decode cX9_signLowest 63 = .ok (.aload_n 0, 1) := dzr zhdX9_signLowest_44 13 rfl
theorem dX9_signLowest_64 : decode cX9_signLowest 64 = .ok (.getfield 11, 3) := dzr zhdX9_signLowest_44 14 rfl
theorem dX9_signLowest_67 : decode cX9_signLowest 67 = .ok (.bipush 65, 2) := dzr zhdX9_signLowest_44 15 rfl
theorem dX9_signLowest_69 : decode cX9_signLowest 69 = .ok (.dup2, 1) := dzr zhdX9_signLowest_44 16 rfl
theorem dX9_signLowest_70 : decode cX9_signLowest 70 = .ok (.iaload, 1) := dzr zhdX9_signLowest_44 17 rfl
theorem dX9_signLowest_71 : decode cX9_signLowest 71 = .ok (.iconst 1, 1) := dzr zhdX9_signLowest_44 18 rfl
theorem dX9_signLowest_72 : decode cX9_signLowest 72 = .ok (.iload_n 3, 1) := dzr zhdX9_signLowest_44 19 rfl
theorem dX9_signLowest_73 : decode cX9_signLowest 73 = .ok (.ishl, 1) := dzr zhdX9_signLowest_44 20 rfl
theorem dX9_signLowest_74 : decode cX9_signLowest 74 = .ok (.ior, 1) := dzr zhdX9_signLowest_44 21 rfl
theorem dX9_signLowest_75 : decode cX9_signLowest 75 = .ok (.iastore, 1) := dzr zhdX9_signLowest_44 22 rfl
theorem dX9_signLowest_76 : decode cX9_signLowest 76 = .ok (.return_, 1) := dzr zhdX9_signLowest_44 23 rfl
def ztdX9_signLowest_77 : List (Nat × Instr × Nat) := [(77, .iinc 3 1, 3), (80, .goto (-78), 3), (83, .return_, 1)]
theorem zhdX9_signLowest_77 : dzC ztdX9_signLowest_77 77 (cX9_signLowest.data.toList.drop 77) = true := by decide +kernel
theorem dX9_signLowest_77 : decode cX9_signLowest 77 = .ok (.iinc 3 1, 3) := dzr zhdX9_signLowest_77 0 rfl
theorem dX9_signLowest_80 : decode cX9_signLowest 80 = .ok (.goto (-78), 3) := dzr zhdX9_signLowest_77 1 rfl
theorem dX9_signLowest_83 : decode cX9_signLowest 83 = .ok (.return_, 1) := dzr zhdX9_signLowest_77 2 rfl
theorem ggX9_cool_X9_placeOf : GoodIn wsX9_cool wsX9_placeOf := (bg_up (bg_law (bi_wsL_law0_r27 _ (List.mem_of_getElem? (i := 5) rfl))))
theorem gX9_cool_X9_placeOf : GoodIn wsX9_cool (va_wsS RX9 50 yX9_placeOf wsX9_placeOf) := goodIn_app (bg_up (bg_cons (bi_wsL_law0_r27 _ (List.mem_of_getElem? (i := 3) rfl)) (bg_cons (bi_wsL_law0_r27 _ (List.mem_of_getElem? (i := 4) rfl)) (bg_cons (bi_wsL_law0_r2 _ (List.mem_of_getElem? (i := 12) rfl)) bg_nil)))) (bg_up (bg_law (bi_wsL_law0_r27 _ (List.mem_of_getElem? (i := 5) rfl))))
def ztdX9_cool_0 : List (Nat × Instr × Nat) := [(0, .iconst 0, 1), (1, .istore_n 1, 1), (2, .iload_n 1, 1), (3, .aload_n 0, 1), (4, .getfield 15, 3), (7, .getfield 102, 3), (10, .if_icmp .ge 68, 3), (13, .iload_n 1, 1), (14, .iconst 1, 1), (15, .iadd, 1), (16, .istore_n 2, 1), (17, .iload_n 2, 1), (18, .aload_n 0, 1), (19, .getfield 15, 3), (22, .getfield 102, 3), (25, .if_icmp .ge 47, 3), (28, .iload_n 1, 1), (29, .iload_n 2, 1), (30, .invokestatic 50, 3), (33, .istore_n 3, 1), (34, .aload_n 0, 1), (35, .getfield 11, 3), (38, .bipush 54, 2), (40, .iload_n 1, 1)]
theorem zhdX9_cool_0 : dzC ztdX9_cool_0 0 (cX9_cool.data.toList.drop 0) = true := by decide +kernel
theorem dX9_cool_0 : decode cX9_cool 0 = .ok (.iconst 0, 1) := dzr zhdX9_cool_0 0 rfl
theorem dX9_cool_1 : decode cX9_cool 1 = .ok (.istore_n 1, 1) := dzr zhdX9_cool_0 1 rfl
theorem dX9_cool_2 : decode cX9_cool 2 = .ok (.iload_n 1, 1) := dzr zhdX9_cool_0 2 rfl
theorem dX9_cool_3 : decode cX9_cool 3 = .ok (.aload_n 0, 1) := dzr zhdX9_cool_0 3 rfl
theorem dX9_cool_4 : decode cX9_cool 4 = .ok (.getfield 15, 3) := dzr zhdX9_cool_0 4 rfl
theorem dX9_cool_7 : decode cX9_cool 7 = .ok (.getfield 102, 3) := dzr zhdX9_cool_0 5 rfl
theorem dX9_cool_10 : decode cX9_cool 10 = .ok (.if_icmp .ge 68, 3) := dzr zhdX9_cool_0 6 rfl
theorem dX9_cool_13 : decode cX9_cool 13 = .ok (.iload_n 1, 1) := dzr zhdX9_cool_0 7 rfl
theorem dX9_cool_14 : decode cX9_cool 14 = .ok (.iconst 1, 1) := dzr zhdX9_cool_0 8 rfl
theorem dX9_cool_15 : decode cX9_cool 15 = .ok (.iadd, 1) := dzr zhdX9_cool_0 9 rfl
theorem dX9_cool_16 : decode cX9_cool 16 = .ok (.istore_n 2, 1) := dzr zhdX9_cool_0 10 rfl
theorem dX9_cool_17 : decode cX9_cool 17 = .ok (.iload_n 2, 1) := dzr zhdX9_cool_0 11 rfl
theorem dX9_cool_18 : decode cX9_cool 18 = .ok (.aload_n 0, 1) := dzr zhdX9_cool_0 12 rfl
theorem dX9_cool_19 : decode cX9_cool 19 = .ok (.getfield 15, 3) := dzr zhdX9_cool_0 13 rfl
theorem dX9_cool_22 : decode cX9_cool 22 = .ok (.getfield 102, 3) := dzr zhdX9_cool_0 14 rfl
theorem dX9_cool_25 : decode cX9_cool 25 = .ok (.if_icmp .ge 47, 3) := dzr zhdX9_cool_0 15 rfl
theorem dX9_cool_28 : decode cX9_cool 28 = .ok (.iload_n 1, 1) := dzr zhdX9_cool_0 16 rfl
theorem dX9_cool_29 : decode cX9_cool 29 = .ok (.iload_n 2, 1) := dzr zhdX9_cool_0 17 rfl
theorem dX9_cool_30 : decode cX9_cool 30 = .ok (.invokestatic 50, 3) := dzr zhdX9_cool_0 18 rfl
theorem dX9_cool_33 : decode cX9_cool 33 = .ok (.istore_n 3, 1) := dzr zhdX9_cool_0 19 rfl
theorem dX9_cool_34 : decode cX9_cool 34 = .ok (.aload_n 0, 1) := dzr zhdX9_cool_0 20 rfl
theorem dX9_cool_35 : decode cX9_cool 35 = .ok (.getfield 11, 3) := dzr zhdX9_cool_0 21 rfl
theorem dX9_cool_38 : decode cX9_cool 38 = .ok (.bipush 54, 2) := dzr zhdX9_cool_0 22 rfl
theorem dX9_cool_40 : decode cX9_cool 40 = .ok (.iload_n 1, 1) := dzr zhdX9_cool_0 23 rfl
def ztdX9_cool_41 : List (Nat × Instr × Nat) := [(41, .iadd, 1), (42, .iaload, 1), (43, .iload_n 2, 1), (44, .if_icmp .eq 22, 3), (47, .aload_n 0, 1), (48, .getfield 11, 3), (51, .iload_n 3, 1), (52, .iaload, 1), (53, .ifCond .le 13, 3), (56, .aload_n 0, 1), (57, .getfield 11, 3), (60, .iload_n 3, 1), (61, .dup2, 1), (62, .iaload, 1), (63, .iconst 1, 1), (64, .isub, 1), (65, .iastore, 1), (66, .iinc 2 1, 3), (69, .goto (-52), 3), (72, .iinc 1 1, 3), (75, .goto (-73), 3), (78, .aload_n 0, 1), (79, .getfield 11, 3), (82, .bipush 67, 2)]
theorem zhdX9_cool_41 : dzC ztdX9_cool_41 41 (cX9_cool.data.toList.drop 41) = true := by decide +kernel
theorem dX9_cool_41 : decode cX9_cool 41 = .ok (.iadd, 1) := dzr zhdX9_cool_41 0 rfl
theorem dX9_cool_42 : decode cX9_cool 42 = .ok (.iaload, 1) := dzr zhdX9_cool_41 1 rfl
theorem dX9_cool_43 : decode cX9_cool 43 = .ok (.iload_n 2, 1) := dzr zhdX9_cool_41 2 rfl
theorem dX9_cool_44 : decode cX9_cool 44 = .ok (.if_icmp .eq 22, 3) := dzr zhdX9_cool_41 3 rfl
theorem dX9_cool_47 : decode cX9_cool 47 = .ok (.aload_n 0, 1) := dzr zhdX9_cool_41 4 rfl
theorem dX9_cool_48 : decode cX9_cool 48 = .ok (.getfield 11, 3) := dzr zhdX9_cool_41 5 rfl
theorem dX9_cool_51 : decode cX9_cool 51 = .ok (.iload_n 3, 1) := dzr zhdX9_cool_41 6 rfl
theorem dX9_cool_52 : decode cX9_cool 52 = .ok (.iaload, 1) := dzr zhdX9_cool_41 7 rfl
theorem dX9_cool_53 : decode cX9_cool 53 = .ok (.ifCond .le 13, 3) := dzr zhdX9_cool_41 8 rfl
theorem dX9_cool_56 : decode cX9_cool 56 = .ok (.aload_n 0, 1) := dzr zhdX9_cool_41 9 rfl
theorem dX9_cool_57 : decode cX9_cool 57 = .ok (.getfield 11, 3) := dzr zhdX9_cool_41 10 rfl
theorem dX9_cool_60 : decode cX9_cool 60 = .ok (.iload_n 3, 1) := dzr zhdX9_cool_41 11 rfl
theorem dX9_cool_61 : decode cX9_cool 61 = .ok (.dup2, 1) := dzr zhdX9_cool_41 12 rfl
theorem dX9_cool_62 : decode cX9_cool 62 = .ok (.iaload, 1) := dzr zhdX9_cool_41 13 rfl
theorem dX9_cool_63 : decode cX9_cool 63 = .ok (.iconst 1, 1) := dzr zhdX9_cool_41 14 rfl
theorem dX9_cool_64 : decode cX9_cool 64 = .ok (.isub, 1) := dzr zhdX9_cool_41 15 rfl
theorem dX9_cool_65 : decode cX9_cool 65 = .ok (.iastore, 1) := dzr zhdX9_cool_41 16 rfl
theorem dX9_cool_66 : decode cX9_cool 66 = .ok (.iinc 2 1, 3) := dzr zhdX9_cool_41 17 rfl
theorem dX9_cool_69 : decode cX9_cool 69 = .ok (.goto (-52), 3) := dzr zhdX9_cool_41 18 rfl
theorem dX9_cool_72 : decode cX9_cool 72 = .ok (.iinc 1 1, 3) := dzr zhdX9_cool_41 19 rfl
theorem dX9_cool_75 : decode cX9_cool 75 = .ok (.goto (-73), 3) := dzr zhdX9_cool_41 20 rfl
theorem dX9_cool_78 : decode cX9_cool 78 = .ok (.aload_n 0, 1) := dzr zhdX9_cool_41 21 rfl
theorem dX9_cool_79 : decode cX9_cool 79 = .ok (.getfield 11, 3) := dzr zhdX9_cool_41 22 rfl
theorem dX9_cool_82 : decode cX9_cool 82 = .ok (.bipush 67, 2) := dzr zhdX9_cool_41 23 rfl
def ztdX9_cool_84 : List (Nat × Instr × Nat) := [(84, .sipush 999, 3), (87, .aload_n 0, 1), (88, .getfield 11, 3), (91, .bipush 67, 2), (93, .iaload, 1), (94, .iconst 2, 1), (95, .iadd, 1), (96, .invokestatic 44, 3), (99, .iastore, 1), (100, .return_, 1)]
theorem zhdX9_cool_84 : dzC ztdX9_cool_84 84 (cX9_cool.data.toList.drop 84) = true := by decide +kernel
theorem dX9_cool_84 : decode cX9_cool 84 = .ok (.sipush 999, 3) := dzr zhdX9_cool_84 0 rfl
theorem dX9_cool_87 : decode cX9_cool 87 = .ok (.aload_n 0, 1) := dzr zhdX9_cool_84 1 rfl
theorem dX9_cool_88 : decode cX9_cool 88 = .ok (.getfield 11, 3) := dzr zhdX9_cool_84 2 rfl
theorem dX9_cool_91 : decode cX9_cool 91 = .ok (.bipush 67, 2) := dzr zhdX9_cool_84 3 rfl
theorem dX9_cool_93 : decode cX9_cool 93 = .ok (.iaload, 1) := dzr zhdX9_cool_84 4 rfl
theorem dX9_cool_94 : decode cX9_cool 94 = .ok (.iconst 2, 1) := dzr zhdX9_cool_84 5 rfl
theorem dX9_cool_95 : decode cX9_cool 95 = .ok (.iadd, 1) := dzr zhdX9_cool_84 6 rfl
theorem dX9_cool_96 : decode cX9_cool 96 = .ok (.invokestatic 44, 3) := dzr zhdX9_cool_84 7 rfl
theorem dX9_cool_99 : decode cX9_cool 99 = .ok (.iastore, 1) := dzr zhdX9_cool_84 8 rfl
theorem dX9_cool_100 : decode cX9_cool 100 = .ok (.return_, 1) := dzr zhdX9_cool_84 9 rfl
def ztdX9_dawn_0 : List (Nat × Instr × Nat) := [(0, .iconst 0, 1), (1, .istore_n 1, 1), (2, .iload_n 1, 1), (3, .bipush 6, 2), (5, .if_icmp .ge 19, 3), (8, .aload_n 0, 1), (9, .getfield 11, 3), (12, .bipush 54, 2), (14, .iload_n 1, 1), (15, .iadd, 1), (16, .iconst (-1), 1), (17, .iastore, 1), (18, .iinc 1 1, 3), (21, .goto (-19), 3), (24, .aload_n 0, 1), (25, .getfield 11, 3), (28, .bipush 65, 2), (30, .iconst 0, 1), (31, .iastore, 1), (32, .aload_n 0, 1), (33, .getfield 11, 3), (36, .bipush 68, 2), (38, .dup2, 1), (39, .iaload, 1)]
theorem zhdX9_dawn_0 : dzC ztdX9_dawn_0 0 (cX9_dawn.data.toList.drop 0) = true := by decide +kernel
theorem dX9_dawn_0 : decode cX9_dawn 0 = .ok (.iconst 0, 1) := dzr zhdX9_dawn_0 0 rfl
theorem dX9_dawn_1 : decode cX9_dawn 1 = .ok (.istore_n 1, 1) := dzr zhdX9_dawn_0 1 rfl
theorem dX9_dawn_2 : decode cX9_dawn 2 = .ok (.iload_n 1, 1) := dzr zhdX9_dawn_0 2 rfl
theorem dX9_dawn_3 : decode cX9_dawn 3 = .ok (.bipush 6, 2) := dzr zhdX9_dawn_0 3 rfl
theorem dX9_dawn_5 : decode cX9_dawn 5 = .ok (.if_icmp .ge 19, 3) := dzr zhdX9_dawn_0 4 rfl
theorem dX9_dawn_8 : decode cX9_dawn 8 = .ok (.aload_n 0, 1) := dzr zhdX9_dawn_0 5 rfl
theorem dX9_dawn_9 : decode cX9_dawn 9 = .ok (.getfield 11, 3) := dzr zhdX9_dawn_0 6 rfl
theorem dX9_dawn_12 : decode cX9_dawn 12 = .ok (.bipush 54, 2) := dzr zhdX9_dawn_0 7 rfl
theorem dX9_dawn_14 : decode cX9_dawn 14 = .ok (.iload_n 1, 1) := dzr zhdX9_dawn_0 8 rfl
theorem dX9_dawn_15 : decode cX9_dawn 15 = .ok (.iadd, 1) := dzr zhdX9_dawn_0 9 rfl
theorem dX9_dawn_16 : decode cX9_dawn 16 = .ok (.iconst (-1), 1) := dzr zhdX9_dawn_0 10 rfl
theorem dX9_dawn_17 : decode cX9_dawn 17 = .ok (.iastore, 1) := dzr zhdX9_dawn_0 11 rfl
theorem dX9_dawn_18 : decode cX9_dawn 18 = .ok (.iinc 1 1, 3) := dzr zhdX9_dawn_0 12 rfl
theorem dX9_dawn_21 : decode cX9_dawn 21 = .ok (.goto (-19), 3) := dzr zhdX9_dawn_0 13 rfl
theorem dX9_dawn_24 : decode cX9_dawn 24 = .ok (.aload_n 0, 1) := dzr zhdX9_dawn_0 14 rfl
theorem dX9_dawn_25 : decode cX9_dawn 25 = .ok (.getfield 11, 3) := dzr zhdX9_dawn_0 15 rfl
theorem dX9_dawn_28 : decode cX9_dawn 28 = .ok (.bipush 65, 2) := dzr zhdX9_dawn_0 16 rfl
theorem dX9_dawn_30 : decode cX9_dawn 30 = .ok (.iconst 0, 1) := dzr zhdX9_dawn_0 17 rfl
theorem dX9_dawn_31 : decode cX9_dawn 31 = .ok (.iastore, 1) := dzr zhdX9_dawn_0 18 rfl
theorem dX9_dawn_32 : decode cX9_dawn 32 = .ok (.aload_n 0, 1) := dzr zhdX9_dawn_0 19 rfl
theorem dX9_dawn_33 : decode cX9_dawn 33 = .ok (.getfield 11, 3) := dzr zhdX9_dawn_0 20 rfl
theorem dX9_dawn_36 : decode cX9_dawn 36 = .ok (.bipush 68, 2) := dzr zhdX9_dawn_0 21 rfl
theorem dX9_dawn_38 : decode cX9_dawn 38 = .ok (.dup2, 1) := dzr zhdX9_dawn_0 22 rfl
theorem dX9_dawn_39 : decode cX9_dawn 39 = .ok (.iaload, 1) := dzr zhdX9_dawn_0 23 rfl
def ztdX9_dawn_40 : List (Nat × Instr × Nat) := [(40, .iconst 1, 1), (41, .iadd, 1), (42, .iastore, 1), (43, .return_, 1)]
theorem zhdX9_dawn_40 : dzC ztdX9_dawn_40 40 (cX9_dawn.data.toList.drop 40) = true := by decide +kernel
theorem dX9_dawn_40 : decode cX9_dawn 40 = .ok (.iconst 1, 1) := dzr zhdX9_dawn_40 0 rfl
theorem dX9_dawn_41 : decode cX9_dawn 41 = .ok (.iadd, 1) := dzr zhdX9_dawn_40 1 rfl
theorem dX9_dawn_42 : decode cX9_dawn 42 = .ok (.iastore, 1) := dzr zhdX9_dawn_40 2 rfl
theorem dX9_dawn_43 : decode cX9_dawn 43 = .ok (.return_, 1) := dzr zhdX9_dawn_40 3 rfl
theorem ggX9_allKnown_X9_knows : GoodIn wsX9_allKnown wsX9_knows := (bg_up (bg_law (bi_wsL_law0_r25 _ (List.mem_of_getElem? (i := 2) rfl))))
theorem gX9_allKnown_X9_knows : GoodIn wsX9_allKnown (wsV RX9 86 RX9 yX9_knows wsX9_knows) := goodIn_app (bg_up (bg_cons (bi_wsL_law0_r31 _ (List.mem_of_getElem? (i := 3) rfl)) (bg_cons (bi_wsL_law0_r25 _ (List.mem_of_getElem? (i := 0) rfl)) (bg_cons (bi_wsL_law0_r25 _ (List.mem_of_getElem? (i := 1) rfl)) (bg_cons (bi_wsL_law0_r2 _ (List.mem_of_getElem? (i := 12) rfl)) bg_nil))))) (bg_up (bg_law (bi_wsL_law0_r25 _ (List.mem_of_getElem? (i := 2) rfl))))
def ztdX9_allKnown_0 : List (Nat × Instr × Nat) := [(0, .iconst 0, 1), (1, .istore_n 1, 1), (2, .iload_n 1, 1), (3, .aload_n 0, 1), (4, .getfield 15, 3), (7, .getfield 102, 3), (10, .if_icmp .ge 30, 3), (13, .aload_n 0, 1), (14, .iload_n 1, 1), (15, .invokevirtual 86, 3), (18, .iconst 1, 1), (19, .aload_n 0, 1), (20, .getfield 15, 3), (23, .getfield 102, 3), (26, .ishl, 1), (27, .iconst 1, 1), (28, .isub, 1), (29, .if_icmp .eq 5, 3), (32, .iconst 0, 1), (33, .ireturn, 1), (34, .iinc 1 1, 3), (37, .goto (-35), 3), (40, .iconst 1, 1), (41, .ireturn, 1)]
theorem zhdX9_allKnown_0 : dzC ztdX9_allKnown_0 0 (cX9_allKnown.data.toList.drop 0) = true := by decide +kernel
theorem dX9_allKnown_0 : decode cX9_allKnown 0 = .ok (.iconst 0, 1) := dzr zhdX9_allKnown_0 0 rfl
theorem dX9_allKnown_1 : decode cX9_allKnown 1 = .ok (.istore_n 1, 1) := dzr zhdX9_allKnown_0 1 rfl
theorem dX9_allKnown_2 : decode cX9_allKnown 2 = .ok (.iload_n 1, 1) := dzr zhdX9_allKnown_0 2 rfl
theorem dX9_allKnown_3 : decode cX9_allKnown 3 = .ok (.aload_n 0, 1) := dzr zhdX9_allKnown_0 3 rfl
theorem dX9_allKnown_4 : decode cX9_allKnown 4 = .ok (.getfield 15, 3) := dzr zhdX9_allKnown_0 4 rfl
theorem dX9_allKnown_7 : decode cX9_allKnown 7 = .ok (.getfield 102, 3) := dzr zhdX9_allKnown_0 5 rfl
theorem dX9_allKnown_10 : decode cX9_allKnown 10 = .ok (.if_icmp .ge 30, 3) := dzr zhdX9_allKnown_0 6 rfl
theorem dX9_allKnown_13 : decode cX9_allKnown 13 = .ok (.aload_n 0, 1) := dzr zhdX9_allKnown_0 7 rfl
theorem dX9_allKnown_14 : decode cX9_allKnown 14 = .ok (.iload_n 1, 1) := dzr zhdX9_allKnown_0 8 rfl
theorem dX9_allKnown_15 : decode cX9_allKnown 15 = .ok (.invokevirtual 86, 3) := dzr zhdX9_allKnown_0 9 rfl
theorem dX9_allKnown_18 : decode cX9_allKnown 18 = .ok (.iconst 1, 1) := dzr zhdX9_allKnown_0 10 rfl
theorem dX9_allKnown_19 : decode cX9_allKnown 19 = .ok (.aload_n 0, 1) := dzr zhdX9_allKnown_0 11 rfl
theorem dX9_allKnown_20 : decode cX9_allKnown 20 = .ok (.getfield 15, 3) := dzr zhdX9_allKnown_0 12 rfl
theorem dX9_allKnown_23 : decode cX9_allKnown 23 = .ok (.getfield 102, 3) := dzr zhdX9_allKnown_0 13 rfl
theorem dX9_allKnown_26 : decode cX9_allKnown 26 = .ok (.ishl, 1) := dzr zhdX9_allKnown_0 14 rfl
theorem dX9_allKnown_27 : decode cX9_allKnown 27 = .ok (.iconst 1, 1) := dzr zhdX9_allKnown_0 15 rfl
theorem dX9_allKnown_28 : decode cX9_allKnown 28 = .ok (.isub, 1) := dzr zhdX9_allKnown_0 16 rfl
theorem dX9_allKnown_29 : decode cX9_allKnown 29 = .ok (.if_icmp .eq 5, 3) := dzr zhdX9_allKnown_0 17 rfl
theorem dX9_allKnown_32 : decode cX9_allKnown 32 = .ok (.iconst 0, 1) := dzr zhdX9_allKnown_0 18 rfl
theorem dX9_allKnown_33 : decode cX9_allKnown 33 = .ok (.ireturn, 1) := dzr zhdX9_allKnown_0 19 rfl
theorem dX9_allKnown_34 : decode cX9_allKnown 34 = .ok (.iinc 1 1, 3) := dzr zhdX9_allKnown_0 20 rfl
theorem dX9_allKnown_37 : decode cX9_allKnown 37 = .ok (.goto (-35), 3) := dzr zhdX9_allKnown_0 21 rfl
theorem dX9_allKnown_40 : decode cX9_allKnown 40 = .ok (.iconst 1, 1) := dzr zhdX9_allKnown_0 22 rfl
theorem dX9_allKnown_41 : decode cX9_allKnown 41 = .ok (.ireturn, 1) := dzr zhdX9_allKnown_0 23 rfl
theorem ggX9_gains_X5_hasGlove : GoodIn wsX9_gains wsX5_hasGlove := (bg_up (bg_law (bi_wsL_law0_r24 _ (List.mem_of_getElem? (i := 10) rfl))))
theorem gX9_gains_X5_hasGlove : GoodIn wsX9_gains (wsV RX9 105 RX5 yX5_hasGlove wsX5_hasGlove) := goodIn_app (bg_up (bg_cons (bi_wsL_law0_r50 _ (List.mem_of_getElem? (i := 19) rfl)) (bg_cons (bi_wsL_law0_r24 _ (List.mem_of_getElem? (i := 8) rfl)) (bg_cons (bi_wsL_law0_r24 _ (List.mem_of_getElem? (i := 9) rfl)) (bg_cons (bi_wsL_law0_r2 _ (List.mem_of_getElem? (i := 4) rfl)) bg_nil))))) (bg_up (bg_law (bi_wsL_law0_r24 _ (List.mem_of_getElem? (i := 10) rfl))))
theorem ggX9_gains_X9_riseOf : GoodIn wsX9_gains wsX9_riseOf := (bg_up (bg_law (bi_wsL_law0_r42 _ (List.mem_of_getElem? (i := 23) rfl))))
theorem gX9_gains_X9_riseOf : GoodIn wsX9_gains (wsV RX9 109 RX9 yX9_riseOf wsX9_riseOf) := goodIn_app (bg_up (bg_cons (bi_wsL_law0_r50 _ (List.mem_of_getElem? (i := 20) rfl)) (bg_cons (bi_wsL_law0_r42 _ (List.mem_of_getElem? (i := 21) rfl)) (bg_cons (bi_wsL_law0_r42 _ (List.mem_of_getElem? (i := 22) rfl)) (bg_cons (bi_wsL_law0_r2 _ (List.mem_of_getElem? (i := 12) rfl)) bg_nil))))) (bg_up (bg_law (bi_wsL_law0_r42 _ (List.mem_of_getElem? (i := 23) rfl))))
theorem ggX9_gains_X9_free : GoodIn wsX9_gains wsX9_free := (bg_up (bg_law (bi_wsL_law0_r24 _ (List.mem_of_getElem? (i := 14) rfl))))
theorem gX9_gains_X9_free : GoodIn wsX9_gains (wsV RX9 64 RX9 yX9_free wsX9_free) := goodIn_app (bg_up (bg_cons (bi_wsL_law0_r30 _ (List.mem_of_getElem? (i := 0) rfl)) (bg_cons (bi_wsL_law0_r24 _ (List.mem_of_getElem? (i := 12) rfl)) (bg_cons (bi_wsL_law0_r24 _ (List.mem_of_getElem? (i := 13) rfl)) (bg_cons (bi_wsL_law0_r2 _ (List.mem_of_getElem? (i := 12) rfl)) bg_nil))))) (bg_up (bg_law (bi_wsL_law0_r24 _ (List.mem_of_getElem? (i := 14) rfl))))
def ztdX9_gains_0 : List (Nat × Instr × Nat) := [(0, .aload_n 0, 1), (1, .getfield 15, 3), (4, .iload_n 1, 1), (5, .invokevirtual 105, 3), (8, .ifCond .ne 6, 3), (11, .bipush (-20), 2), (13, .ireturn, 1), (14, .aload_n 0, 1), (15, .getfield 15, 3), (18, .iload_n 2, 1), (19, .invokevirtual 105, 3), (22, .ifCond .eq 20, 3), (25, .aload_n 0, 1), (26, .iload_n 1, 1), (27, .iload_n 2, 1), (28, .invokevirtual 109, 3), (31, .aload_n 0, 1), (32, .iload_n 1, 1), (33, .invokevirtual 64, 3), (36, .iconst 3, 1), (37, .idiv, 1), (38, .isub, 1), (39, .goto 4, 3), (42, .iconst 0, 1)]
theorem zhdX9_gains_0 : dzC ztdX9_gains_0 0 (cX9_gains.data.toList.drop 0) = true := by decide +kernel
theorem dX9_gains_0 : decode cX9_gains 0 = .ok (.aload_n 0, 1) := dzr zhdX9_gains_0 0 rfl
theorem dX9_gains_1 : decode cX9_gains 1 = .ok (.getfield 15, 3) := dzr zhdX9_gains_0 1 rfl
theorem dX9_gains_4 : decode cX9_gains 4 = .ok (.iload_n 1, 1) := dzr zhdX9_gains_0 2 rfl
theorem dX9_gains_5 : decode cX9_gains 5 = .ok (.invokevirtual 105, 3) := dzr zhdX9_gains_0 3 rfl
theorem dX9_gains_8 : decode cX9_gains 8 = .ok (.ifCond .ne 6, 3) := dzr zhdX9_gains_0 4 rfl
theorem dX9_gains_11 : decode cX9_gains 11 = .ok (.bipush (-20), 2) := dzr zhdX9_gains_0 5 rfl
theorem dX9_gains_13 : decode cX9_gains 13 = .ok (.ireturn, 1) := dzr zhdX9_gains_0 6 rfl
theorem dX9_gains_14 : decode cX9_gains 14 = .ok (.aload_n 0, 1) := dzr zhdX9_gains_0 7 rfl
theorem dX9_gains_15 : decode cX9_gains 15 = .ok (.getfield 15, 3) := dzr zhdX9_gains_0 8 rfl
theorem dX9_gains_18 : decode cX9_gains 18 = .ok (.iload_n 2, 1) := dzr zhdX9_gains_0 9 rfl
theorem dX9_gains_19 : decode cX9_gains 19 = .ok (.invokevirtual 105, 3) := dzr zhdX9_gains_0 10 rfl
theorem dX9_gains_22 : decode cX9_gains 22 = .ok (.ifCond .eq 20, 3) := dzr zhdX9_gains_0 11 rfl
theorem dX9_gains_25 : decode cX9_gains 25 = .ok (.aload_n 0, 1) := dzr zhdX9_gains_0 12 rfl
theorem dX9_gains_26 : decode cX9_gains 26 = .ok (.iload_n 1, 1) := dzr zhdX9_gains_0 13 rfl
theorem dX9_gains_27 : decode cX9_gains 27 = .ok (.iload_n 2, 1) := dzr zhdX9_gains_0 14 rfl
theorem dX9_gains_28 : decode cX9_gains 28 = .ok (.invokevirtual 109, 3) := dzr zhdX9_gains_0 15 rfl
theorem dX9_gains_31 : decode cX9_gains 31 = .ok (.aload_n 0, 1) := dzr zhdX9_gains_0 16 rfl
theorem dX9_gains_32 : decode cX9_gains 32 = .ok (.iload_n 1, 1) := dzr zhdX9_gains_0 17 rfl
theorem dX9_gains_33 : decode cX9_gains 33 = .ok (.invokevirtual 64, 3) := dzr zhdX9_gains_0 18 rfl
theorem dX9_gains_36 : decode cX9_gains 36 = .ok (.iconst 3, 1) := dzr zhdX9_gains_0 19 rfl
theorem dX9_gains_37 : decode cX9_gains 37 = .ok (.idiv, 1) := dzr zhdX9_gains_0 20 rfl
theorem dX9_gains_38 : decode cX9_gains 38 = .ok (.isub, 1) := dzr zhdX9_gains_0 21 rfl
theorem dX9_gains_39 : decode cX9_gains 39 = .ok (.goto 4, 3) := dzr zhdX9_gains_0 22 rfl
theorem dX9_gains_42 : decode cX9_gains 42 = .ok (.iconst 0, 1) := dzr zhdX9_gains_0 23 rfl
def ztdX9_gains_43 : List (Nat × Instr × Nat) := [(43, .ireturn, 1)]
theorem zhdX9_gains_43 : dzC ztdX9_gains_43 43 (cX9_gains.data.toList.drop 43) = true := by decide +kernel
theorem dX9_gains_43 : decode cX9_gains 43 = .ok (.ireturn, 1) := dzr zhdX9_gains_43 0 rfl
theorem ggX9_freeOf_X9_free : GoodIn wsX9_freeOf wsX9_free := (bg_up (bg_law (bi_wsL_law0_r24 _ (List.mem_of_getElem? (i := 14) rfl))))
theorem gX9_freeOf_X9_free : GoodIn wsX9_freeOf (wsV RX9 64 RX9 yX9_free wsX9_free) := goodIn_app (bg_up (bg_cons (bi_wsL_law0_r30 _ (List.mem_of_getElem? (i := 0) rfl)) (bg_cons (bi_wsL_law0_r24 _ (List.mem_of_getElem? (i := 12) rfl)) (bg_cons (bi_wsL_law0_r24 _ (List.mem_of_getElem? (i := 13) rfl)) (bg_cons (bi_wsL_law0_r2 _ (List.mem_of_getElem? (i := 12) rfl)) bg_nil))))) (bg_up (bg_law (bi_wsL_law0_r24 _ (List.mem_of_getElem? (i := 14) rfl))))
def ztdX9_freeOf_0 : List (Nat × Instr × Nat) := [(0, .iconst 0, 1), (1, .istore_n 2, 1), (2, .iconst 0, 1), (3, .istore_n 3, 1), (4, .iload_n 3, 1), (5, .aload_n 0, 1), (6, .getfield 15, 3), (9, .getfield 102, 3), (12, .if_icmp .ge 30, 3), (15, .aload_n 0, 1), (16, .getfield 15, 3), (19, .getfield 112, 3), (22, .iload_n 3, 1), (23, .iaload, 1), (24, .iload_n 1, 1), (25, .if_icmp .ne 11, 3), (28, .iload_n 2, 1), (29, .aload_n 0, 1), (30, .iload_n 3, 1), (31, .invokevirtual 64, 3), (34, .iadd, 1), (35, .istore_n 2, 1), (36, .iinc 3 1, 3), (39, .goto (-35), 3)]
theorem zhdX9_freeOf_0 : dzC ztdX9_freeOf_0 0 (cX9_freeOf.data.toList.drop 0) = true := by decide +kernel
theorem dX9_freeOf_0 : decode cX9_freeOf 0 = .ok (.iconst 0, 1) := dzr zhdX9_freeOf_0 0 rfl
theorem dX9_freeOf_1 : decode cX9_freeOf 1 = .ok (.istore_n 2, 1) := dzr zhdX9_freeOf_0 1 rfl
theorem dX9_freeOf_2 : decode cX9_freeOf 2 = .ok (.iconst 0, 1) := dzr zhdX9_freeOf_0 2 rfl
theorem dX9_freeOf_3 : decode cX9_freeOf 3 = .ok (.istore_n 3, 1) := dzr zhdX9_freeOf_0 3 rfl
theorem dX9_freeOf_4 : decode cX9_freeOf 4 = .ok (.iload_n 3, 1) := dzr zhdX9_freeOf_0 4 rfl
theorem dX9_freeOf_5 : decode cX9_freeOf 5 = .ok (.aload_n 0, 1) := dzr zhdX9_freeOf_0 5 rfl
theorem dX9_freeOf_6 : decode cX9_freeOf 6 = .ok (.getfield 15, 3) := dzr zhdX9_freeOf_0 6 rfl
theorem dX9_freeOf_9 : decode cX9_freeOf 9 = .ok (.getfield 102, 3) := dzr zhdX9_freeOf_0 7 rfl
theorem dX9_freeOf_12 : decode cX9_freeOf 12 = .ok (.if_icmp .ge 30, 3) := dzr zhdX9_freeOf_0 8 rfl
theorem dX9_freeOf_15 : decode cX9_freeOf 15 = .ok (.aload_n 0, 1) := dzr zhdX9_freeOf_0 9 rfl
theorem dX9_freeOf_16 : decode cX9_freeOf 16 = .ok (.getfield 15, 3) := dzr zhdX9_freeOf_0 10 rfl
theorem dX9_freeOf_19 : decode cX9_freeOf 19 = .ok (.getfield 112, 3) := dzr zhdX9_freeOf_0 11 rfl
theorem dX9_freeOf_22 : decode cX9_freeOf 22 = .ok (.iload_n 3, 1) := dzr zhdX9_freeOf_0 12 rfl
theorem dX9_freeOf_23 : decode cX9_freeOf 23 = .ok (.iaload, 1) := dzr zhdX9_freeOf_0 13 rfl
theorem dX9_freeOf_24 : decode cX9_freeOf 24 = .ok (.iload_n 1, 1) := dzr zhdX9_freeOf_0 14 rfl
theorem dX9_freeOf_25 : decode cX9_freeOf 25 = .ok (.if_icmp .ne 11, 3) := dzr zhdX9_freeOf_0 15 rfl
theorem dX9_freeOf_28 : decode cX9_freeOf 28 = .ok (.iload_n 2, 1) := dzr zhdX9_freeOf_0 16 rfl
theorem dX9_freeOf_29 : decode cX9_freeOf 29 = .ok (.aload_n 0, 1) := dzr zhdX9_freeOf_0 17 rfl
theorem dX9_freeOf_30 : decode cX9_freeOf 30 = .ok (.iload_n 3, 1) := dzr zhdX9_freeOf_0 18 rfl
theorem dX9_freeOf_31 : decode cX9_freeOf 31 = .ok (.invokevirtual 64, 3) := dzr zhdX9_freeOf_0 19 rfl
theorem dX9_freeOf_34 : decode cX9_freeOf 34 = .ok (.iadd, 1) := dzr zhdX9_freeOf_0 20 rfl
theorem dX9_freeOf_35 : decode cX9_freeOf 35 = .ok (.istore_n 2, 1) := dzr zhdX9_freeOf_0 21 rfl
theorem dX9_freeOf_36 : decode cX9_freeOf 36 = .ok (.iinc 3 1, 3) := dzr zhdX9_freeOf_0 22 rfl
theorem dX9_freeOf_39 : decode cX9_freeOf 39 = .ok (.goto (-35), 3) := dzr zhdX9_freeOf_0 23 rfl
def ztdX9_freeOf_42 : List (Nat × Instr × Nat) := [(42, .iload_n 2, 1), (43, .ireturn, 1)]
theorem zhdX9_freeOf_42 : dzC ztdX9_freeOf_42 42 (cX9_freeOf.data.toList.drop 42) = true := by decide +kernel
theorem dX9_freeOf_42 : decode cX9_freeOf 42 = .ok (.iload_n 2, 1) := dzr zhdX9_freeOf_42 0 rfl
theorem dX9_freeOf_43 : decode cX9_freeOf 43 = .ok (.ireturn, 1) := dzr zhdX9_freeOf_42 1 rfl
def ztdX9_warmthOfAll_0 : List (Nat × Instr × Nat) := [(0, .iconst 0, 1), (1, .istore_n 1, 1), (2, .iconst 0, 1), (3, .istore_n 2, 1), (4, .iload_n 2, 1), (5, .bipush 36, 2), (7, .if_icmp .ge 18, 3), (10, .iload_n 1, 1), (11, .aload_n 0, 1), (12, .getfield 11, 3), (15, .iload_n 2, 1), (16, .iaload, 1), (17, .iadd, 1), (18, .istore_n 1, 1), (19, .iinc 2 1, 3), (22, .goto (-18), 3), (25, .iload_n 1, 1), (26, .ireturn, 1)]
theorem zhdX9_warmthOfAll_0 : dzC ztdX9_warmthOfAll_0 0 (cX9_warmthOfAll.data.toList.drop 0) = true := by decide +kernel
theorem dX9_warmthOfAll_0 : decode cX9_warmthOfAll 0 = .ok (.iconst 0, 1) := dzr zhdX9_warmthOfAll_0 0 rfl
theorem dX9_warmthOfAll_1 : decode cX9_warmthOfAll 1 = .ok (.istore_n 1, 1) := dzr zhdX9_warmthOfAll_0 1 rfl
theorem dX9_warmthOfAll_2 : decode cX9_warmthOfAll 2 = .ok (.iconst 0, 1) := dzr zhdX9_warmthOfAll_0 2 rfl
theorem dX9_warmthOfAll_3 : decode cX9_warmthOfAll 3 = .ok (.istore_n 2, 1) := dzr zhdX9_warmthOfAll_0 3 rfl
theorem dX9_warmthOfAll_4 : decode cX9_warmthOfAll 4 = .ok (.iload_n 2, 1) := dzr zhdX9_warmthOfAll_0 4 rfl
theorem dX9_warmthOfAll_5 : decode cX9_warmthOfAll 5 = .ok (.bipush 36, 2) := dzr zhdX9_warmthOfAll_0 5 rfl
theorem dX9_warmthOfAll_7 : decode cX9_warmthOfAll 7 = .ok (.if_icmp .ge 18, 3) := dzr zhdX9_warmthOfAll_0 6 rfl
theorem dX9_warmthOfAll_10 : decode cX9_warmthOfAll 10 = .ok (.iload_n 1, 1) := dzr zhdX9_warmthOfAll_0 7 rfl
theorem dX9_warmthOfAll_11 : decode cX9_warmthOfAll 11 = .ok (.aload_n 0, 1) := dzr zhdX9_warmthOfAll_0 8 rfl
theorem dX9_warmthOfAll_12 : decode cX9_warmthOfAll 12 = .ok (.getfield 11, 3) := dzr zhdX9_warmthOfAll_0 9 rfl
theorem dX9_warmthOfAll_15 : decode cX9_warmthOfAll 15 = .ok (.iload_n 2, 1) := dzr zhdX9_warmthOfAll_0 10 rfl
theorem dX9_warmthOfAll_16 : decode cX9_warmthOfAll 16 = .ok (.iaload, 1) := dzr zhdX9_warmthOfAll_0 11 rfl
theorem dX9_warmthOfAll_17 : decode cX9_warmthOfAll 17 = .ok (.iadd, 1) := dzr zhdX9_warmthOfAll_0 12 rfl
theorem dX9_warmthOfAll_18 : decode cX9_warmthOfAll 18 = .ok (.istore_n 1, 1) := dzr zhdX9_warmthOfAll_0 13 rfl
theorem dX9_warmthOfAll_19 : decode cX9_warmthOfAll 19 = .ok (.iinc 2 1, 3) := dzr zhdX9_warmthOfAll_0 14 rfl
theorem dX9_warmthOfAll_22 : decode cX9_warmthOfAll 22 = .ok (.goto (-18), 3) := dzr zhdX9_warmthOfAll_0 15 rfl
theorem dX9_warmthOfAll_25 : decode cX9_warmthOfAll 25 = .ok (.iload_n 1, 1) := dzr zhdX9_warmthOfAll_0 16 rfl
theorem dX9_warmthOfAll_26 : decode cX9_warmthOfAll 26 = .ok (.ireturn, 1) := dzr zhdX9_warmthOfAll_0 17 rfl
theorem ggX9_metBits_X9_hasMet : GoodIn wsX9_metBits wsX9_hasMet := (bg_up (bg_law (bi_wsL_law0_r24 _ (List.mem_of_getElem? (i := 22) rfl))))
theorem gX9_metBits_X9_hasMet : GoodIn wsX9_metBits (wsV RX9 115 RX9 yX9_hasMet wsX9_hasMet) := goodIn_app (bg_up (bg_cons (bi_wsL_law0_r37 _ (List.mem_of_getElem? (i := 9) rfl)) (bg_cons (bi_wsL_law0_r24 _ (List.mem_of_getElem? (i := 20) rfl)) (bg_cons (bi_wsL_law0_r24 _ (List.mem_of_getElem? (i := 21) rfl)) (bg_cons (bi_wsL_law0_r2 _ (List.mem_of_getElem? (i := 12) rfl)) bg_nil))))) (bg_up (bg_law (bi_wsL_law0_r24 _ (List.mem_of_getElem? (i := 22) rfl))))
def ztdX9_metBits_0 : List (Nat × Instr × Nat) := [(0, .iconst 0, 1), (1, .istore_n 1, 1), (2, .iconst 0, 1), (3, .istore_n 2, 1), (4, .iload_n 2, 1), (5, .aload_n 0, 1), (6, .getfield 15, 3), (9, .getfield 102, 3), (12, .if_icmp .ge 23, 3), (15, .aload_n 0, 1), (16, .iload_n 2, 1), (17, .invokevirtual 115, 3), (20, .ifCond .eq 9, 3), (23, .iload_n 1, 1), (24, .iconst 1, 1), (25, .iload_n 2, 1), (26, .ishl, 1), (27, .ior, 1), (28, .istore_n 1, 1), (29, .iinc 2 1, 3), (32, .goto (-28), 3), (35, .iload_n 1, 1), (36, .ireturn, 1)]
theorem zhdX9_metBits_0 : dzC ztdX9_metBits_0 0 (cX9_metBits.data.toList.drop 0) = true := by decide +kernel
theorem dX9_metBits_0 : decode cX9_metBits 0 = .ok (.iconst 0, 1) := dzr zhdX9_metBits_0 0 rfl
theorem dX9_metBits_1 : decode cX9_metBits 1 = .ok (.istore_n 1, 1) := dzr zhdX9_metBits_0 1 rfl
theorem dX9_metBits_2 : decode cX9_metBits 2 = .ok (.iconst 0, 1) := dzr zhdX9_metBits_0 2 rfl
theorem dX9_metBits_3 : decode cX9_metBits 3 = .ok (.istore_n 2, 1) := dzr zhdX9_metBits_0 3 rfl
theorem dX9_metBits_4 : decode cX9_metBits 4 = .ok (.iload_n 2, 1) := dzr zhdX9_metBits_0 4 rfl
theorem dX9_metBits_5 : decode cX9_metBits 5 = .ok (.aload_n 0, 1) := dzr zhdX9_metBits_0 5 rfl
theorem dX9_metBits_6 : decode cX9_metBits 6 = .ok (.getfield 15, 3) := dzr zhdX9_metBits_0 6 rfl
theorem dX9_metBits_9 : decode cX9_metBits 9 = .ok (.getfield 102, 3) := dzr zhdX9_metBits_0 7 rfl
theorem dX9_metBits_12 : decode cX9_metBits 12 = .ok (.if_icmp .ge 23, 3) := dzr zhdX9_metBits_0 8 rfl
theorem dX9_metBits_15 : decode cX9_metBits 15 = .ok (.aload_n 0, 1) := dzr zhdX9_metBits_0 9 rfl
theorem dX9_metBits_16 : decode cX9_metBits 16 = .ok (.iload_n 2, 1) := dzr zhdX9_metBits_0 10 rfl
theorem dX9_metBits_17 : decode cX9_metBits 17 = .ok (.invokevirtual 115, 3) := dzr zhdX9_metBits_0 11 rfl
theorem dX9_metBits_20 : decode cX9_metBits 20 = .ok (.ifCond .eq 9, 3) := dzr zhdX9_metBits_0 12 rfl
theorem dX9_metBits_23 : decode cX9_metBits 23 = .ok (.iload_n 1, 1) := dzr zhdX9_metBits_0 13 rfl
theorem dX9_metBits_24 : decode cX9_metBits 24 = .ok (.iconst 1, 1) := dzr zhdX9_metBits_0 14 rfl
theorem dX9_metBits_25 : decode cX9_metBits 25 = .ok (.iload_n 2, 1) := dzr zhdX9_metBits_0 15 rfl
theorem dX9_metBits_26 : decode cX9_metBits 26 = .ok (.ishl, 1) := dzr zhdX9_metBits_0 16 rfl
theorem dX9_metBits_27 : decode cX9_metBits 27 = .ok (.ior, 1) := dzr zhdX9_metBits_0 17 rfl
theorem dX9_metBits_28 : decode cX9_metBits 28 = .ok (.istore_n 1, 1) := dzr zhdX9_metBits_0 18 rfl
theorem dX9_metBits_29 : decode cX9_metBits 29 = .ok (.iinc 2 1, 3) := dzr zhdX9_metBits_0 19 rfl
theorem dX9_metBits_32 : decode cX9_metBits 32 = .ok (.goto (-28), 3) := dzr zhdX9_metBits_0 20 rfl
theorem dX9_metBits_35 : decode cX9_metBits 35 = .ok (.iload_n 1, 1) := dzr zhdX9_metBits_0 21 rfl
theorem dX9_metBits_36 : decode cX9_metBits 36 = .ok (.ireturn, 1) := dzr zhdX9_metBits_0 22 rfl
theorem ggX9_signedBits_X9_signers : GoodIn wsX9_signedBits wsX9_signers := (bg_up (bg_law (bi_wsL_law0_r26 _ (List.mem_of_getElem? (i := 5) rfl))))
theorem gX9_signedBits_X9_signers : GoodIn wsX9_signedBits (wsV RX9 96 RX9 yX9_signers wsX9_signers) := goodIn_app (bg_up (bg_cons (bi_wsL_law0_r31 _ (List.mem_of_getElem? (i := 10) rfl)) (bg_cons (bi_wsL_law0_r26 _ (List.mem_of_getElem? (i := 3) rfl)) (bg_cons (bi_wsL_law0_r26 _ (List.mem_of_getElem? (i := 4) rfl)) (bg_cons (bi_wsL_law0_r2 _ (List.mem_of_getElem? (i := 12) rfl)) bg_nil))))) (bg_up (bg_law (bi_wsL_law0_r26 _ (List.mem_of_getElem? (i := 5) rfl))))
def ztdX9_signedBits_0 : List (Nat × Instr × Nat) := [(0, .iconst 0, 1), (1, .istore_n 1, 1), (2, .iconst 0, 1), (3, .istore_n 2, 1), (4, .iload_n 2, 1), (5, .aload_n 0, 1), (6, .getfield 15, 3), (9, .getfield 93, 3), (12, .if_icmp .ge 24, 3), (15, .aload_n 0, 1), (16, .iload_n 2, 1), (17, .invokevirtual 96, 3), (20, .iconst (-1), 1), (21, .if_icmp .eq 9, 3), (24, .iload_n 1, 1), (25, .iconst 1, 1), (26, .iload_n 2, 1), (27, .ishl, 1), (28, .ior, 1), (29, .istore_n 1, 1), (30, .iinc 2 1, 3), (33, .goto (-29), 3), (36, .iload_n 1, 1), (37, .ireturn, 1)]
theorem zhdX9_signedBits_0 : dzC ztdX9_signedBits_0 0 (cX9_signedBits.data.toList.drop 0) = true := by decide +kernel
theorem dX9_signedBits_0 : decode cX9_signedBits 0 = .ok (.iconst 0, 1) := dzr zhdX9_signedBits_0 0 rfl
theorem dX9_signedBits_1 : decode cX9_signedBits 1 = .ok (.istore_n 1, 1) := dzr zhdX9_signedBits_0 1 rfl
theorem dX9_signedBits_2 : decode cX9_signedBits 2 = .ok (.iconst 0, 1) := dzr zhdX9_signedBits_0 2 rfl
theorem dX9_signedBits_3 : decode cX9_signedBits 3 = .ok (.istore_n 2, 1) := dzr zhdX9_signedBits_0 3 rfl
theorem dX9_signedBits_4 : decode cX9_signedBits 4 = .ok (.iload_n 2, 1) := dzr zhdX9_signedBits_0 4 rfl
theorem dX9_signedBits_5 : decode cX9_signedBits 5 = .ok (.aload_n 0, 1) := dzr zhdX9_signedBits_0 5 rfl
theorem dX9_signedBits_6 : decode cX9_signedBits 6 = .ok (.getfield 15, 3) := dzr zhdX9_signedBits_0 6 rfl
theorem dX9_signedBits_9 : decode cX9_signedBits 9 = .ok (.getfield 93, 3) := dzr zhdX9_signedBits_0 7 rfl
theorem dX9_signedBits_12 : decode cX9_signedBits 12 = .ok (.if_icmp .ge 24, 3) := dzr zhdX9_signedBits_0 8 rfl
theorem dX9_signedBits_15 : decode cX9_signedBits 15 = .ok (.aload_n 0, 1) := dzr zhdX9_signedBits_0 9 rfl
theorem dX9_signedBits_16 : decode cX9_signedBits 16 = .ok (.iload_n 2, 1) := dzr zhdX9_signedBits_0 10 rfl
theorem dX9_signedBits_17 : decode cX9_signedBits 17 = .ok (.invokevirtual 96, 3) := dzr zhdX9_signedBits_0 11 rfl
theorem dX9_signedBits_20 : decode cX9_signedBits 20 = .ok (.iconst (-1), 1) := dzr zhdX9_signedBits_0 12 rfl
theorem dX9_signedBits_21 : decode cX9_signedBits 21 = .ok (.if_icmp .eq 9, 3) := dzr zhdX9_signedBits_0 13 rfl
theorem dX9_signedBits_24 : decode cX9_signedBits 24 = .ok (.iload_n 1, 1) := dzr zhdX9_signedBits_0 14 rfl
theorem dX9_signedBits_25 : decode cX9_signedBits 25 = .ok (.iconst 1, 1) := dzr zhdX9_signedBits_0 15 rfl
theorem dX9_signedBits_26 : decode cX9_signedBits 26 = .ok (.iload_n 2, 1) := dzr zhdX9_signedBits_0 16 rfl
theorem dX9_signedBits_27 : decode cX9_signedBits 27 = .ok (.ishl, 1) := dzr zhdX9_signedBits_0 17 rfl
theorem dX9_signedBits_28 : decode cX9_signedBits 28 = .ok (.ior, 1) := dzr zhdX9_signedBits_0 18 rfl
theorem dX9_signedBits_29 : decode cX9_signedBits 29 = .ok (.istore_n 1, 1) := dzr zhdX9_signedBits_0 19 rfl
theorem dX9_signedBits_30 : decode cX9_signedBits 30 = .ok (.iinc 2 1, 3) := dzr zhdX9_signedBits_0 20 rfl
theorem dX9_signedBits_33 : decode cX9_signedBits 33 = .ok (.goto (-29), 3) := dzr zhdX9_signedBits_0 21 rfl
theorem dX9_signedBits_36 : decode cX9_signedBits 36 = .ok (.iload_n 1, 1) := dzr zhdX9_signedBits_0 22 rfl
theorem dX9_signedBits_37 : decode cX9_signedBits 37 = .ok (.ireturn, 1) := dzr zhdX9_signedBits_0 23 rfl
theorem ggX9_warmestPair_X9_pairMost : GoodIn wsX9_warmestPair wsX9_pairMost := (bg_up (bg_law (bi_wsL_law0_r55 _ (List.mem_of_getElem? (i := 15) rfl))))
theorem gX9_warmestPair_X9_pairMost : GoodIn wsX9_warmestPair (wsV RX9 118 RX9 yX9_pairMost wsX9_pairMost) := goodIn_app (bg_up (bg_cons (bi_wsL_law0_r55 _ (List.mem_of_getElem? (i := 12) rfl)) (bg_cons (bi_wsL_law0_r55 _ (List.mem_of_getElem? (i := 13) rfl)) (bg_cons (bi_wsL_law0_r55 _ (List.mem_of_getElem? (i := 14) rfl)) (bg_cons (bi_wsL_law0_r2 _ (List.mem_of_getElem? (i := 12) rfl)) bg_nil))))) (bg_up (bg_law (bi_wsL_law0_r55 _ (List.mem_of_getElem? (i := 15) rfl))))
def ztdX9_warmestPair_0 : List (Nat × Instr × Nat) := [(0, .aload_n 0, 1), (1, .iconst 1, 1), (2, .invokevirtual 118, 3), (5, .ireturn, 1)]
theorem zhdX9_warmestPair_0 : dzC ztdX9_warmestPair_0 0 (cX9_warmestPair.data.toList.drop 0) = true := by decide +kernel
theorem dX9_warmestPair_0 : decode cX9_warmestPair 0 = .ok (.aload_n 0, 1) := dzr zhdX9_warmestPair_0 0 rfl
theorem dX9_warmestPair_1 : decode cX9_warmestPair 1 = .ok (.iconst 1, 1) := dzr zhdX9_warmestPair_0 1 rfl
theorem dX9_warmestPair_2 : decode cX9_warmestPair 2 = .ok (.invokevirtual 118, 3) := dzr zhdX9_warmestPair_0 2 rfl
theorem dX9_warmestPair_5 : decode cX9_warmestPair 5 = .ok (.ireturn, 1) := dzr zhdX9_warmestPair_0 3 rfl
theorem ggX9_coldestPair_X9_pairMost : GoodIn wsX9_coldestPair wsX9_pairMost := (bg_up (bg_law (bi_wsL_law0_r55 _ (List.mem_of_getElem? (i := 15) rfl))))
theorem gX9_coldestPair_X9_pairMost : GoodIn wsX9_coldestPair (wsV RX9 118 RX9 yX9_pairMost wsX9_pairMost) := goodIn_app (bg_up (bg_cons (bi_wsL_law0_r55 _ (List.mem_of_getElem? (i := 12) rfl)) (bg_cons (bi_wsL_law0_r55 _ (List.mem_of_getElem? (i := 13) rfl)) (bg_cons (bi_wsL_law0_r55 _ (List.mem_of_getElem? (i := 14) rfl)) (bg_cons (bi_wsL_law0_r2 _ (List.mem_of_getElem? (i := 12) rfl)) bg_nil))))) (bg_up (bg_law (bi_wsL_law0_r55 _ (List.mem_of_getElem? (i := 15) rfl))))
def ztdX9_coldestPair_0 : List (Nat × Instr × Nat) := [(0, .aload_n 0, 1), (1, .iconst (-1), 1), (2, .invokevirtual 118, 3), (5, .ireturn, 1)]
theorem zhdX9_coldestPair_0 : dzC ztdX9_coldestPair_0 0 (cX9_coldestPair.data.toList.drop 0) = true := by decide +kernel
theorem dX9_coldestPair_0 : decode cX9_coldestPair 0 = .ok (.aload_n 0, 1) := dzr zhdX9_coldestPair_0 0 rfl
theorem dX9_coldestPair_1 : decode cX9_coldestPair 1 = .ok (.iconst (-1), 1) := dzr zhdX9_coldestPair_0 1 rfl
theorem dX9_coldestPair_2 : decode cX9_coldestPair 2 = .ok (.invokevirtual 118, 3) := dzr zhdX9_coldestPair_0 2 rfl
theorem dX9_coldestPair_5 : decode cX9_coldestPair 5 = .ok (.ireturn, 1) := dzr zhdX9_coldestPair_0 3 rfl
theorem ggX9_pairMost_X5_unlike : GoodIn wsX9_pairMost wsX5_unlike := (bg_up (bg_law (bi_wsL_law0_r26 _ (List.mem_of_getElem? (i := 21) rfl))))
theorem gX9_pairMost_X5_unlike : GoodIn wsX9_pairMost (wsV RX9 121 RX5 yX5_unlike wsX5_unlike) := goodIn_app (bg_up (bg_cons (bi_wsL_law0_r55 _ (List.mem_of_getElem? (i := 16) rfl)) (bg_cons (bi_wsL_law0_r26 _ (List.mem_of_getElem? (i := 19) rfl)) (bg_cons (bi_wsL_law0_r26 _ (List.mem_of_getElem? (i := 20) rfl)) (bg_cons (bi_wsL_law0_r2 _ (List.mem_of_getElem? (i := 4) rfl)) bg_nil))))) (bg_up (bg_law (bi_wsL_law0_r26 _ (List.mem_of_getElem? (i := 21) rfl))))
theorem ggX9_pairMost_X9_warmthOf : GoodIn wsX9_pairMost wsX9_warmthOf := (bg_up (bg_law (bi_wsL_law0_r27 _ (List.mem_of_getElem? (i := 2) rfl))))
theorem gX9_pairMost_X9_warmthOf : GoodIn wsX9_pairMost (wsV RX9 53 RX9 yX9_warmthOf wsX9_warmthOf) := goodIn_app (bg_up (bg_cons (bi_wsL_law0_r29 _ (List.mem_of_getElem? (i := 9) rfl)) (bg_cons (bi_wsL_law0_r27 _ (List.mem_of_getElem? (i := 0) rfl)) (bg_cons (bi_wsL_law0_r27 _ (List.mem_of_getElem? (i := 1) rfl)) (bg_cons (bi_wsL_law0_r2 _ (List.mem_of_getElem? (i := 12) rfl)) bg_nil))))) (bg_up (bg_law (bi_wsL_law0_r27 _ (List.mem_of_getElem? (i := 2) rfl))))
def ztdX9_pairMost_0 : List (Nat × Instr × Nat) := [(0, .iconst (-1), 1), (1, .istore_n 2, 1), (2, .iconst 0, 1), (3, .istore_n 3, 1), (4, .iload_n 3, 1), (5, .aload_n 0, 1), (6, .getfield 15, 3), (9, .getfield 102, 3), (12, .if_icmp .ge 83, 3), (15, .iload_n 3, 1), (16, .iconst 1, 1), (17, .iadd, 1), (18, .istore 4, 2), (20, .iload 4, 2), (22, .aload_n 0, 1), (23, .getfield 15, 3), (26, .getfield 102, 3), (29, .if_icmp .ge 60, 3), (32, .aload_n 0, 1), (33, .getfield 15, 3), (36, .iload_n 3, 1), (37, .iload 4, 2), (39, .invokevirtual 121, 3), (42, .ifCond .eq 41, 3)]
theorem zhdX9_pairMost_0 : dzC ztdX9_pairMost_0 0 (cX9_pairMost.data.toList.drop 0) = true := by decide +kernel
theorem dX9_pairMost_0 : decode cX9_pairMost 0 = .ok (.iconst (-1), 1) := dzr zhdX9_pairMost_0 0 rfl
theorem dX9_pairMost_1 : decode cX9_pairMost 1 = .ok (.istore_n 2, 1) := dzr zhdX9_pairMost_0 1 rfl
theorem dX9_pairMost_2 : decode cX9_pairMost 2 = .ok (.iconst 0, 1) := dzr zhdX9_pairMost_0 2 rfl
theorem dX9_pairMost_3 : decode cX9_pairMost 3 = .ok (.istore_n 3, 1) := dzr zhdX9_pairMost_0 3 rfl
theorem dX9_pairMost_4 : decode cX9_pairMost 4 = .ok (.iload_n 3, 1) := dzr zhdX9_pairMost_0 4 rfl
theorem dX9_pairMost_5 : decode cX9_pairMost 5 = .ok (.aload_n 0, 1) := dzr zhdX9_pairMost_0 5 rfl
theorem dX9_pairMost_6 : decode cX9_pairMost 6 = .ok (.getfield 15, 3) := dzr zhdX9_pairMost_0 6 rfl
theorem dX9_pairMost_9 : decode cX9_pairMost 9 = .ok (.getfield 102, 3) := dzr zhdX9_pairMost_0 7 rfl
theorem dX9_pairMost_12 : decode cX9_pairMost 12 = .ok (.if_icmp .ge 83, 3) := dzr zhdX9_pairMost_0 8 rfl
theorem dX9_pairMost_15 : decode cX9_pairMost 15 = .ok (.iload_n 3, 1) := dzr zhdX9_pairMost_0 9 rfl
theorem dX9_pairMost_16 : decode cX9_pairMost 16 = .ok (.iconst 1, 1) := dzr zhdX9_pairMost_0 10 rfl
theorem dX9_pairMost_17 : decode cX9_pairMost 17 = .ok (.iadd, 1) := dzr zhdX9_pairMost_0 11 rfl
theorem dX9_pairMost_18 : decode cX9_pairMost 18 = .ok (.istore 4, 2) := dzr zhdX9_pairMost_0 12 rfl
theorem dX9_pairMost_20 : decode cX9_pairMost 20 = .ok (.iload 4, 2) := dzr zhdX9_pairMost_0 13 rfl
theorem dX9_pairMost_22 : decode cX9_pairMost 22 = .ok (.aload_n 0, 1) := dzr zhdX9_pairMost_0 14 rfl
theorem dX9_pairMost_23 : decode cX9_pairMost 23 = .ok (.getfield 15, 3) := dzr zhdX9_pairMost_0 15 rfl
theorem dX9_pairMost_26 : decode cX9_pairMost 26 = .ok (.getfield 102, 3) := dzr zhdX9_pairMost_0 16 rfl
theorem dX9_pairMost_29 : decode cX9_pairMost 29 = .ok (.if_icmp .ge 60, 3) := dzr zhdX9_pairMost_0 17 rfl
theorem dX9_pairMost_32 : decode cX9_pairMost 32 = .ok (.aload_n 0, 1) := dzr zhdX9_pairMost_0 18 rfl
theorem dX9_pairMost_33 : decode cX9_pairMost 33 = .ok (.getfield 15, 3) := dzr zhdX9_pairMost_0 19 rfl
theorem dX9_pairMost_36 : decode cX9_pairMost 36 = .ok (.iload_n 3, 1) := dzr zhdX9_pairMost_0 20 rfl
theorem dX9_pairMost_37 : decode cX9_pairMost 37 = .ok (.iload 4, 2) := dzr zhdX9_pairMost_0 21 rfl
theorem dX9_pairMost_39 : decode cX9_pairMost 39 = .ok (.invokevirtual 121, 3) := dzr zhdX9_pairMost_0 22 rfl
theorem dX9_pairMost_42 : decode cX9_pairMost 42 = .ok (.ifCond .eq 41, 3) := dzr zhdX9_pairMost_0 23 rfl
def ztdX9_pairMost_45 : List (Nat × Instr × Nat) := [(45, .iload_n 2, 1), (46, .iconst (-1), 1), (47, .if_icmp .eq 28, 3), (50, .iload_n 1, 1), (51, .aload_n 0, 1), (52, .iload_n 3, 1), (53, .iload 4, 2), (55, .invokevirtual 53, 3), (58, .aload_n 0, 1), (59, .iload_n 2, 1), (60, .bipush 10, 2), (62, .idiv, 1), (63, .iload_n 2, 1), (64, .bipush 10, 2), (66, .irem, 1), (67, .invokevirtual 53, 3), (70, .isub, 1), (71, .imul, 1), (72, .ifCond .le 11, 3), (75, .bipush 10, 2), (77, .iload_n 3, 1), (78, .imul, 1), (79, .iload 4, 2), (81, .iadd, 1)]
theorem zhdX9_pairMost_45 : dzC ztdX9_pairMost_45 45 (cX9_pairMost.data.toList.drop 45) = true := by decide +kernel
theorem dX9_pairMost_45 : decode cX9_pairMost 45 = .ok (.iload_n 2, 1) := dzr zhdX9_pairMost_45 0 rfl
theorem dX9_pairMost_46 : decode cX9_pairMost 46 = .ok (.iconst (-1), 1) := dzr zhdX9_pairMost_45 1 rfl
theorem dX9_pairMost_47 : decode cX9_pairMost 47 = .ok (.if_icmp .eq 28, 3) := dzr zhdX9_pairMost_45 2 rfl
theorem dX9_pairMost_50 : decode cX9_pairMost 50 = .ok (.iload_n 1, 1) := dzr zhdX9_pairMost_45 3 rfl
theorem dX9_pairMost_51 : decode cX9_pairMost 51 = .ok (.aload_n 0, 1) := dzr zhdX9_pairMost_45 4 rfl
theorem dX9_pairMost_52 : decode cX9_pairMost 52 = .ok (.iload_n 3, 1) := dzr zhdX9_pairMost_45 5 rfl
theorem dX9_pairMost_53 : decode cX9_pairMost 53 = .ok (.iload 4, 2) := dzr zhdX9_pairMost_45 6 rfl
theorem dX9_pairMost_55 : decode cX9_pairMost 55 = .ok (.invokevirtual 53, 3) := dzr zhdX9_pairMost_45 7 rfl
theorem dX9_pairMost_58 : decode cX9_pairMost 58 = .ok (.aload_n 0, 1) := dzr zhdX9_pairMost_45 8 rfl
theorem dX9_pairMost_59 : decode cX9_pairMost 59 = .ok (.iload_n 2, 1) := dzr zhdX9_pairMost_45 9 rfl
theorem dX9_pairMost_60 : decode cX9_pairMost 60 = .ok (.bipush 10, 2) := dzr zhdX9_pairMost_45 10 rfl
theorem dX9_pairMost_62 : decode cX9_pairMost 62 = .ok (.idiv, 1) := dzr zhdX9_pairMost_45 11 rfl
theorem dX9_pairMost_63 : decode cX9_pairMost 63 = .ok (.iload_n 2, 1) := dzr zhdX9_pairMost_45 12 rfl
theorem dX9_pairMost_64 : decode cX9_pairMost 64 = .ok (.bipush 10, 2) := dzr zhdX9_pairMost_45 13 rfl
theorem dX9_pairMost_66 : decode cX9_pairMost 66 = .ok (.irem, 1) := dzr zhdX9_pairMost_45 14 rfl
theorem dX9_pairMost_67 : decode cX9_pairMost 67 = .ok (.invokevirtual 53, 3) := dzr zhdX9_pairMost_45 15 rfl
theorem dX9_pairMost_70 : decode cX9_pairMost 70 = .ok (.isub, 1) := dzr zhdX9_pairMost_45 16 rfl
theorem dX9_pairMost_71 : decode cX9_pairMost 71 = .ok (.imul, 1) := dzr zhdX9_pairMost_45 17 rfl
theorem dX9_pairMost_72 : decode cX9_pairMost 72 = .ok (.ifCond .le 11, 3) := dzr zhdX9_pairMost_45 18 rfl
theorem dX9_pairMost_75 : decode cX9_pairMost 75 = .ok (.bipush 10, 2) := dzr zhdX9_pairMost_45 19 rfl
theorem dX9_pairMost_77 : decode cX9_pairMost 77 = .ok (.iload_n 3, 1) := dzr zhdX9_pairMost_45 20 rfl
theorem dX9_pairMost_78 : decode cX9_pairMost 78 = .ok (.imul, 1) := dzr zhdX9_pairMost_45 21 rfl
theorem dX9_pairMost_79 : decode cX9_pairMost 79 = .ok (.iload 4, 2) := dzr zhdX9_pairMost_45 22 rfl
theorem dX9_pairMost_81 : decode cX9_pairMost 81 = .ok (.iadd, 1) := dzr zhdX9_pairMost_45 23 rfl
def ztdX9_pairMost_82 : List (Nat × Instr × Nat) := [(82, .istore_n 2, 1), (83, .iinc 4 1, 3), (86, .goto (-66), 3), (89, .iinc 3 1, 3), (92, .goto (-88), 3), (95, .iload_n 2, 1), (96, .ireturn, 1)]
theorem zhdX9_pairMost_82 : dzC ztdX9_pairMost_82 82 (cX9_pairMost.data.toList.drop 82) = true := by decide +kernel
theorem dX9_pairMost_82 : decode cX9_pairMost 82 = .ok (.istore_n 2, 1) := dzr zhdX9_pairMost_82 0 rfl
theorem dX9_pairMost_83 : decode cX9_pairMost 83 = .ok (.iinc 4 1, 3) := dzr zhdX9_pairMost_82 1 rfl
theorem dX9_pairMost_86 : decode cX9_pairMost 86 = .ok (.goto (-66), 3) := dzr zhdX9_pairMost_82 2 rfl
theorem dX9_pairMost_89 : decode cX9_pairMost 89 = .ok (.iinc 3 1, 3) := dzr zhdX9_pairMost_82 3 rfl
theorem dX9_pairMost_92 : decode cX9_pairMost 92 = .ok (.goto (-88), 3) := dzr zhdX9_pairMost_82 4 rfl
theorem dX9_pairMost_95 : decode cX9_pairMost 95 = .ok (.iload_n 2, 1) := dzr zhdX9_pairMost_82 5 rfl
theorem dX9_pairMost_96 : decode cX9_pairMost 96 = .ok (.ireturn, 1) := dzr zhdX9_pairMost_82 6 rfl
theorem ggX9_freest_X9_gloveMost : GoodIn wsX9_freest wsX9_gloveMost := (bg_up (bg_law (bi_wsL_law0_r56 _ (List.mem_of_getElem? (i := 4) rfl))))
theorem gX9_freest_X9_gloveMost : GoodIn wsX9_freest (wsV RX9 125 RX9 yX9_gloveMost wsX9_gloveMost) := goodIn_app (bg_up (bg_cons (bi_wsL_law0_r56 _ (List.mem_of_getElem? (i := 1) rfl)) (bg_cons (bi_wsL_law0_r56 _ (List.mem_of_getElem? (i := 2) rfl)) (bg_cons (bi_wsL_law0_r56 _ (List.mem_of_getElem? (i := 3) rfl)) (bg_cons (bi_wsL_law0_r2 _ (List.mem_of_getElem? (i := 12) rfl)) bg_nil))))) (bg_up (bg_law (bi_wsL_law0_r56 _ (List.mem_of_getElem? (i := 4) rfl))))
def ztdX9_freest_0 : List (Nat × Instr × Nat) := [(0, .aload_n 0, 1), (1, .bipush 36, 2), (3, .invokevirtual 125, 3), (6, .ireturn, 1)]
theorem zhdX9_freest_0 : dzC ztdX9_freest_0 0 (cX9_freest.data.toList.drop 0) = true := by decide +kernel
theorem dX9_freest_0 : decode cX9_freest 0 = .ok (.aload_n 0, 1) := dzr zhdX9_freest_0 0 rfl
theorem dX9_freest_1 : decode cX9_freest 1 = .ok (.bipush 36, 2) := dzr zhdX9_freest_0 1 rfl
theorem dX9_freest_3 : decode cX9_freest 3 = .ok (.invokevirtual 125, 3) := dzr zhdX9_freest_0 2 rfl
theorem dX9_freest_6 : decode cX9_freest 6 = .ok (.ireturn, 1) := dzr zhdX9_freest_0 3 rfl
theorem ggX9_stiffest_X9_gloveMost : GoodIn wsX9_stiffest wsX9_gloveMost := (bg_up (bg_law (bi_wsL_law0_r56 _ (List.mem_of_getElem? (i := 4) rfl))))
theorem gX9_stiffest_X9_gloveMost : GoodIn wsX9_stiffest (wsV RX9 125 RX9 yX9_gloveMost wsX9_gloveMost) := goodIn_app (bg_up (bg_cons (bi_wsL_law0_r56 _ (List.mem_of_getElem? (i := 1) rfl)) (bg_cons (bi_wsL_law0_r56 _ (List.mem_of_getElem? (i := 2) rfl)) (bg_cons (bi_wsL_law0_r56 _ (List.mem_of_getElem? (i := 3) rfl)) (bg_cons (bi_wsL_law0_r2 _ (List.mem_of_getElem? (i := 12) rfl)) bg_nil))))) (bg_up (bg_law (bi_wsL_law0_r56 _ (List.mem_of_getElem? (i := 4) rfl))))
def ztdX9_stiffest_0 : List (Nat × Instr × Nat) := [(0, .aload_n 0, 1), (1, .bipush 42, 2), (3, .invokevirtual 125, 3), (6, .ireturn, 1)]
theorem zhdX9_stiffest_0 : dzC ztdX9_stiffest_0 0 (cX9_stiffest.data.toList.drop 0) = true := by decide +kernel
theorem dX9_stiffest_0 : decode cX9_stiffest 0 = .ok (.aload_n 0, 1) := dzr zhdX9_stiffest_0 0 rfl
theorem dX9_stiffest_1 : decode cX9_stiffest 1 = .ok (.bipush 42, 2) := dzr zhdX9_stiffest_0 1 rfl
theorem dX9_stiffest_3 : decode cX9_stiffest 3 = .ok (.invokevirtual 125, 3) := dzr zhdX9_stiffest_0 2 rfl
theorem dX9_stiffest_6 : decode cX9_stiffest 6 = .ok (.ireturn, 1) := dzr zhdX9_stiffest_0 3 rfl
def ztdX9_gloveMost_0 : List (Nat × Instr × Nat) := [(0, .iconst 0, 1), (1, .istore_n 2, 1), (2, .iconst 1, 1), (3, .istore_n 3, 1), (4, .iload_n 3, 1), (5, .aload_n 0, 1), (6, .getfield 15, 3), (9, .getfield 102, 3), (12, .if_icmp .ge 30, 3), (15, .aload_n 0, 1), (16, .getfield 11, 3), (19, .iload_n 1, 1), (20, .iload_n 3, 1), (21, .iadd, 1), (22, .iaload, 1), (23, .aload_n 0, 1), (24, .getfield 11, 3), (27, .iload_n 1, 1), (28, .iload_n 2, 1), (29, .iadd, 1), (30, .iaload, 1), (31, .if_icmp .le 5, 3), (34, .iload_n 3, 1), (35, .istore_n 2, 1)]
theorem zhdX9_gloveMost_0 : dzC ztdX9_gloveMost_0 0 (cX9_gloveMost.data.toList.drop 0) = true := by decide +kernel
theorem dX9_gloveMost_0 : decode cX9_gloveMost 0 = .ok (.iconst 0, 1) := dzr zhdX9_gloveMost_0 0 rfl
theorem dX9_gloveMost_1 : decode cX9_gloveMost 1 = .ok (.istore_n 2, 1) := dzr zhdX9_gloveMost_0 1 rfl
theorem dX9_gloveMost_2 : decode cX9_gloveMost 2 = .ok (.iconst 1, 1) := dzr zhdX9_gloveMost_0 2 rfl
theorem dX9_gloveMost_3 : decode cX9_gloveMost 3 = .ok (.istore_n 3, 1) := dzr zhdX9_gloveMost_0 3 rfl
theorem dX9_gloveMost_4 : decode cX9_gloveMost 4 = .ok (.iload_n 3, 1) := dzr zhdX9_gloveMost_0 4 rfl
theorem dX9_gloveMost_5 : decode cX9_gloveMost 5 = .ok (.aload_n 0, 1) := dzr zhdX9_gloveMost_0 5 rfl
theorem dX9_gloveMost_6 : decode cX9_gloveMost 6 = .ok (.getfield 15, 3) := dzr zhdX9_gloveMost_0 6 rfl
theorem dX9_gloveMost_9 : decode cX9_gloveMost 9 = .ok (.getfield 102, 3) := dzr zhdX9_gloveMost_0 7 rfl
theorem dX9_gloveMost_12 : decode cX9_gloveMost 12 = .ok (.if_icmp .ge 30, 3) := dzr zhdX9_gloveMost_0 8 rfl
theorem dX9_gloveMost_15 : decode cX9_gloveMost 15 = .ok (.aload_n 0, 1) := dzr zhdX9_gloveMost_0 9 rfl
theorem dX9_gloveMost_16 : decode cX9_gloveMost 16 = .ok (.getfield 11, 3) := dzr zhdX9_gloveMost_0 10 rfl
theorem dX9_gloveMost_19 : decode cX9_gloveMost 19 = .ok (.iload_n 1, 1) := dzr zhdX9_gloveMost_0 11 rfl
theorem dX9_gloveMost_20 : decode cX9_gloveMost 20 = .ok (.iload_n 3, 1) := dzr zhdX9_gloveMost_0 12 rfl
theorem dX9_gloveMost_21 : decode cX9_gloveMost 21 = .ok (.iadd, 1) := dzr zhdX9_gloveMost_0 13 rfl
theorem dX9_gloveMost_22 : decode cX9_gloveMost 22 = .ok (.iaload, 1) := dzr zhdX9_gloveMost_0 14 rfl
theorem dX9_gloveMost_23 : decode cX9_gloveMost 23 = .ok (.aload_n 0, 1) := dzr zhdX9_gloveMost_0 15 rfl
theorem dX9_gloveMost_24 : decode cX9_gloveMost 24 = .ok (.getfield 11, 3) := dzr zhdX9_gloveMost_0 16 rfl
theorem dX9_gloveMost_27 : decode cX9_gloveMost 27 = .ok (.iload_n 1, 1) := dzr zhdX9_gloveMost_0 17 rfl
theorem dX9_gloveMost_28 : decode cX9_gloveMost 28 = .ok (.iload_n 2, 1) := dzr zhdX9_gloveMost_0 18 rfl
theorem dX9_gloveMost_29 : decode cX9_gloveMost 29 = .ok (.iadd, 1) := dzr zhdX9_gloveMost_0 19 rfl
theorem dX9_gloveMost_30 : decode cX9_gloveMost 30 = .ok (.iaload, 1) := dzr zhdX9_gloveMost_0 20 rfl
theorem dX9_gloveMost_31 : decode cX9_gloveMost 31 = .ok (.if_icmp .le 5, 3) := dzr zhdX9_gloveMost_0 21 rfl
theorem dX9_gloveMost_34 : decode cX9_gloveMost 34 = .ok (.iload_n 3, 1) := dzr zhdX9_gloveMost_0 22 rfl
theorem dX9_gloveMost_35 : decode cX9_gloveMost 35 = .ok (.istore_n 2, 1) := dzr zhdX9_gloveMost_0 23 rfl
def ztdX9_gloveMost_36 : List (Nat × Instr × Nat) := [(36, .iinc 3 1, 3), (39, .goto (-35), 3), (42, .iload_n 2, 1), (43, .ireturn, 1)]
theorem zhdX9_gloveMost_36 : dzC ztdX9_gloveMost_36 36 (cX9_gloveMost.data.toList.drop 36) = true := by decide +kernel
theorem dX9_gloveMost_36 : decode cX9_gloveMost 36 = .ok (.iinc 3 1, 3) := dzr zhdX9_gloveMost_36 0 rfl
theorem dX9_gloveMost_39 : decode cX9_gloveMost 39 = .ok (.goto (-35), 3) := dzr zhdX9_gloveMost_36 1 rfl
theorem dX9_gloveMost_42 : decode cX9_gloveMost 42 = .ok (.iload_n 2, 1) := dzr zhdX9_gloveMost_36 2 rfl
theorem dX9_gloveMost_43 : decode cX9_gloveMost 43 = .ok (.ireturn, 1) := dzr zhdX9_gloveMost_36 3 rfl
theorem ggX9_bound_X9_signers : GoodIn wsX9_bound wsX9_signers := (bg_up (bg_law (bi_wsL_law0_r26 _ (List.mem_of_getElem? (i := 5) rfl))))
theorem gX9_bound_X9_signers : GoodIn wsX9_bound (wsV RX9 96 RX9 yX9_signers wsX9_signers) := goodIn_app (bg_up (bg_cons (bi_wsL_law0_r31 _ (List.mem_of_getElem? (i := 10) rfl)) (bg_cons (bi_wsL_law0_r26 _ (List.mem_of_getElem? (i := 3) rfl)) (bg_cons (bi_wsL_law0_r26 _ (List.mem_of_getElem? (i := 4) rfl)) (bg_cons (bi_wsL_law0_r2 _ (List.mem_of_getElem? (i := 12) rfl)) bg_nil))))) (bg_up (bg_law (bi_wsL_law0_r26 _ (List.mem_of_getElem? (i := 5) rfl))))
def ztdX9_bound_0 : List (Nat × Instr × Nat) := [(0, .iconst 0, 1), (1, .istore_n 1, 1), (2, .iconst 0, 1), (3, .istore_n 2, 1), (4, .iload_n 2, 1), (5, .aload_n 0, 1), (6, .getfield 15, 3), (9, .getfield 93, 3), (12, .if_icmp .ge 30, 3), (15, .aload_n 0, 1), (16, .iload_n 2, 1), (17, .invokevirtual 96, 3), (20, .iconst (-1), 1), (21, .if_icmp .eq 15, 3), (24, .iload_n 1, 1), (25, .aload_n 0, 1), (26, .getfield 15, 3), (29, .getfield 128, 3), (32, .iload_n 2, 1), (33, .iaload, 1), (34, .iadd, 1), (35, .istore_n 1, 1), (36, .iinc 2 1, 3), (39, .goto (-35), 3)]
theorem zhdX9_bound_0 : dzC ztdX9_bound_0 0 (cX9_bound.data.toList.drop 0) = true := by decide +kernel
theorem dX9_bound_0 : decode cX9_bound 0 = .ok (.iconst 0, 1) := dzr zhdX9_bound_0 0 rfl
theorem dX9_bound_1 : decode cX9_bound 1 = .ok (.istore_n 1, 1) := dzr zhdX9_bound_0 1 rfl
theorem dX9_bound_2 : decode cX9_bound 2 = .ok (.iconst 0, 1) := dzr zhdX9_bound_0 2 rfl
theorem dX9_bound_3 : decode cX9_bound 3 = .ok (.istore_n 2, 1) := dzr zhdX9_bound_0 3 rfl
theorem dX9_bound_4 : decode cX9_bound 4 = .ok (.iload_n 2, 1) := dzr zhdX9_bound_0 4 rfl
theorem dX9_bound_5 : decode cX9_bound 5 = .ok (.aload_n 0, 1) := dzr zhdX9_bound_0 5 rfl
theorem dX9_bound_6 : decode cX9_bound 6 = .ok (.getfield 15, 3) := dzr zhdX9_bound_0 6 rfl
theorem dX9_bound_9 : decode cX9_bound 9 = .ok (.getfield 93, 3) := dzr zhdX9_bound_0 7 rfl
theorem dX9_bound_12 : decode cX9_bound 12 = .ok (.if_icmp .ge 30, 3) := dzr zhdX9_bound_0 8 rfl
theorem dX9_bound_15 : decode cX9_bound 15 = .ok (.aload_n 0, 1) := dzr zhdX9_bound_0 9 rfl
theorem dX9_bound_16 : decode cX9_bound 16 = .ok (.iload_n 2, 1) := dzr zhdX9_bound_0 10 rfl
theorem dX9_bound_17 : decode cX9_bound 17 = .ok (.invokevirtual 96, 3) := dzr zhdX9_bound_0 11 rfl
theorem dX9_bound_20 : decode cX9_bound 20 = .ok (.iconst (-1), 1) := dzr zhdX9_bound_0 12 rfl
theorem dX9_bound_21 : decode cX9_bound 21 = .ok (.if_icmp .eq 15, 3) := dzr zhdX9_bound_0 13 rfl
theorem dX9_bound_24 : decode cX9_bound 24 = .ok (.iload_n 1, 1) := dzr zhdX9_bound_0 14 rfl
theorem dX9_bound_25 : decode cX9_bound 25 = .ok (.aload_n 0, 1) := dzr zhdX9_bound_0 15 rfl
theorem dX9_bound_26 : decode cX9_bound 26 = .ok (.getfield 15, 3) := dzr zhdX9_bound_0 16 rfl
theorem dX9_bound_29 : decode cX9_bound 29 = .ok (.getfield 128, 3) := dzr zhdX9_bound_0 17 rfl
theorem dX9_bound_32 : decode cX9_bound 32 = .ok (.iload_n 2, 1) := dzr zhdX9_bound_0 18 rfl
theorem dX9_bound_33 : decode cX9_bound 33 = .ok (.iaload, 1) := dzr zhdX9_bound_0 19 rfl
theorem dX9_bound_34 : decode cX9_bound 34 = .ok (.iadd, 1) := dzr zhdX9_bound_0 20 rfl
theorem dX9_bound_35 : decode cX9_bound 35 = .ok (.istore_n 1, 1) := dzr zhdX9_bound_0 21 rfl
theorem dX9_bound_36 : decode cX9_bound 36 = .ok (.iinc 2 1, 3) := dzr zhdX9_bound_0 22 rfl
theorem dX9_bound_39 : decode cX9_bound 39 = .ok (.goto (-35), 3) := dzr zhdX9_bound_0 23 rfl
def ztdX9_bound_42 : List (Nat × Instr × Nat) := [(42, .iload_n 1, 1), (43, .ireturn, 1)]
theorem zhdX9_bound_42 : dzC ztdX9_bound_42 42 (cX9_bound.data.toList.drop 42) = true := by decide +kernel
theorem dX9_bound_42 : decode cX9_bound 42 = .ok (.iload_n 1, 1) := dzr zhdX9_bound_42 0 rfl
theorem dX9_bound_43 : decode cX9_bound 43 = .ok (.ireturn, 1) := dzr zhdX9_bound_42 1 rfl
theorem ggX9_dueBits_X9_warmestPair : GoodIn wsX9_dueBits wsX9_warmestPair := (bg_up (bg_law (bi_wsL_law0_r55 _ (List.mem_of_getElem? (i := 11) rfl))))
theorem gX9_dueBits_X9_warmestPair : GoodIn wsX9_dueBits (wsV RX9 131 RX9 yX9_warmestPair wsX9_warmestPair) := goodIn_app (bg_up (bg_cons (bi_wsL_law0_r56 _ (List.mem_of_getElem? (i := 22) rfl)) (bg_cons (bi_wsL_law0_r55 _ (List.mem_of_getElem? (i := 9) rfl)) (bg_cons (bi_wsL_law0_r55 _ (List.mem_of_getElem? (i := 10) rfl)) (bg_cons (bi_wsL_law0_r2 _ (List.mem_of_getElem? (i := 12) rfl)) bg_nil))))) (bg_up (bg_law (bi_wsL_law0_r55 _ (List.mem_of_getElem? (i := 11) rfl))))
theorem ggX9_dueBits_X9_warmthOf : GoodIn wsX9_dueBits wsX9_warmthOf := (bg_up (bg_law (bi_wsL_law0_r27 _ (List.mem_of_getElem? (i := 2) rfl))))
theorem gX9_dueBits_X9_warmthOf : GoodIn wsX9_dueBits (wsV RX9 53 RX9 yX9_warmthOf wsX9_warmthOf) := goodIn_app (bg_up (bg_cons (bi_wsL_law0_r29 _ (List.mem_of_getElem? (i := 9) rfl)) (bg_cons (bi_wsL_law0_r27 _ (List.mem_of_getElem? (i := 0) rfl)) (bg_cons (bi_wsL_law0_r27 _ (List.mem_of_getElem? (i := 1) rfl)) (bg_cons (bi_wsL_law0_r2 _ (List.mem_of_getElem? (i := 12) rfl)) bg_nil))))) (bg_up (bg_law (bi_wsL_law0_r27 _ (List.mem_of_getElem? (i := 2) rfl))))
theorem ggX9_dueBits_X9_signers : GoodIn wsX9_dueBits wsX9_signers := (bg_up (bg_law (bi_wsL_law0_r26 _ (List.mem_of_getElem? (i := 5) rfl))))
theorem gX9_dueBits_X9_signers : GoodIn wsX9_dueBits (wsV RX9 96 RX9 yX9_signers wsX9_signers) := goodIn_app (bg_up (bg_cons (bi_wsL_law0_r31 _ (List.mem_of_getElem? (i := 10) rfl)) (bg_cons (bi_wsL_law0_r26 _ (List.mem_of_getElem? (i := 3) rfl)) (bg_cons (bi_wsL_law0_r26 _ (List.mem_of_getElem? (i := 4) rfl)) (bg_cons (bi_wsL_law0_r2 _ (List.mem_of_getElem? (i := 12) rfl)) bg_nil))))) (bg_up (bg_law (bi_wsL_law0_r26 _ (List.mem_of_getElem? (i := 5) rfl))))
def ztdX9_dueBits_0 : List (Nat × Instr × Nat) := [(0, .aload_n 0, 1), (1, .invokevirtual 131, 3), (4, .istore_n 1, 1), (5, .iload_n 1, 1), (6, .iconst (-1), 1), (7, .if_icmp .ne 7, 3), (10, .iconst (-1), 1), (11, .goto 15, 3), (14, .aload_n 0, 1), (15, .iload_n 1, 1), (16, .bipush 10, 2), (18, .idiv, 1), (19, .iload_n 1, 1), (20, .bipush 10, 2), (22, .irem, 1), (23, .invokevirtual 53, 3), (26, .istore_n 2, 1), (27, .iconst 0, 1), (28, .istore_n 3, 1), (29, .iconst 0, 1), (30, .istore 4, 2), (32, .iload 4, 2), (34, .aload_n 0, 1), (35, .getfield 15, 3)]
theorem zhdX9_dueBits_0 : dzC ztdX9_dueBits_0 0 (cX9_dueBits.data.toList.drop 0) = true := by decide +kernel
theorem dX9_dueBits_0 : decode cX9_dueBits 0 = .ok (.aload_n 0, 1) := dzr zhdX9_dueBits_0 0 rfl
theorem dX9_dueBits_1 : decode cX9_dueBits 1 = .ok (.invokevirtual 131, 3) := dzr zhdX9_dueBits_0 1 rfl
theorem dX9_dueBits_4 : decode cX9_dueBits 4 = .ok (.istore_n 1, 1) := dzr zhdX9_dueBits_0 2 rfl
theorem dX9_dueBits_5 : decode cX9_dueBits 5 = .ok (.iload_n 1, 1) := dzr zhdX9_dueBits_0 3 rfl
theorem dX9_dueBits_6 : decode cX9_dueBits 6 = .ok (.iconst (-1), 1) := dzr zhdX9_dueBits_0 4 rfl
theorem dX9_dueBits_7 : decode cX9_dueBits 7 = .ok (.if_icmp .ne 7, 3) := dzr zhdX9_dueBits_0 5 rfl
theorem dX9_dueBits_10 : decode cX9_dueBits 10 = .ok (.iconst (-1), 1) := dzr zhdX9_dueBits_0 6 rfl
theorem dX9_dueBits_11 : decode cX9_dueBits 11 = .ok (.goto 15, 3) := dzr zhdX9_dueBits_0 7 rfl
theorem dX9_dueBits_14 : decode cX9_dueBits 14 = .ok (.aload_n 0, 1) := dzr zhdX9_dueBits_0 8 rfl
theorem dX9_dueBits_15 : decode cX9_dueBits 15 = .ok (.iload_n 1, 1) := dzr zhdX9_dueBits_0 9 rfl
theorem dX9_dueBits_16 : decode cX9_dueBits 16 = .ok (.bipush 10, 2) := dzr zhdX9_dueBits_0 10 rfl
theorem dX9_dueBits_18 : decode cX9_dueBits 18 = .ok (.idiv, 1) := dzr zhdX9_dueBits_0 11 rfl
theorem dX9_dueBits_19 : decode cX9_dueBits 19 = .ok (.iload_n 1, 1) := dzr zhdX9_dueBits_0 12 rfl
theorem dX9_dueBits_20 : decode cX9_dueBits 20 = .ok (.bipush 10, 2) := dzr zhdX9_dueBits_0 13 rfl
theorem dX9_dueBits_22 : decode cX9_dueBits 22 = .ok (.irem, 1) := dzr zhdX9_dueBits_0 14 rfl
theorem dX9_dueBits_23 : decode cX9_dueBits 23 = .ok (.invokevirtual 53, 3) := dzr zhdX9_dueBits_0 15 rfl
theorem dX9_dueBits_26 : decode cX9_dueBits 26 = .ok (.istore_n 2, 1) := dzr zhdX9_dueBits_0 16 rfl
theorem dX9_dueBits_27 : decode cX9_dueBits 27 = .ok (.iconst 0, 1) := dzr zhdX9_dueBits_0 17 rfl
theorem dX9_dueBits_28 : decode cX9_dueBits 28 = .ok (.istore_n 3, 1) := dzr zhdX9_dueBits_0 18 rfl
theorem dX9_dueBits_29 : decode cX9_dueBits 29 = .ok (.iconst 0, 1) := dzr zhdX9_dueBits_0 19 rfl
theorem dX9_dueBits_30 : decode cX9_dueBits 30 = .ok (.istore 4, 2) := dzr zhdX9_dueBits_0 20 rfl
theorem dX9_dueBits_32 : decode cX9_dueBits 32 = .ok (.iload 4, 2) := dzr zhdX9_dueBits_0 21 rfl
theorem dX9_dueBits_34 : decode cX9_dueBits 34 = .ok (.aload_n 0, 1) := dzr zhdX9_dueBits_0 22 rfl
theorem dX9_dueBits_35 : decode cX9_dueBits 35 = .ok (.getfield 15, 3) := dzr zhdX9_dueBits_0 23 rfl
def ztdX9_dueBits_38 : List (Nat × Instr × Nat) := [(38, .getfield 93, 3), (41, .if_icmp .ge 40, 3), (44, .aload_n 0, 1), (45, .iload 4, 2), (47, .invokevirtual 96, 3), (50, .iconst (-1), 1), (51, .if_icmp .ne 24, 3), (54, .iload_n 2, 1), (55, .aload_n 0, 1), (56, .getfield 15, 3), (59, .getfield 99, 3), (62, .iload 4, 2), (64, .iaload, 1), (65, .if_icmp .lt 10, 3), (68, .iload_n 3, 1), (69, .iconst 1, 1), (70, .iload 4, 2), (72, .ishl, 1), (73, .ior, 1), (74, .istore_n 3, 1), (75, .iinc 4 1, 3), (78, .goto (-46), 3), (81, .iload_n 3, 1), (82, .ireturn, 1)]
theorem zhdX9_dueBits_38 : dzC ztdX9_dueBits_38 38 (cX9_dueBits.data.toList.drop 38) = true := by decide +kernel
theorem dX9_dueBits_38 : decode cX9_dueBits 38 = .ok (.getfield 93, 3) := dzr zhdX9_dueBits_38 0 rfl
theorem dX9_dueBits_41 : decode cX9_dueBits 41 = .ok (.if_icmp .ge 40, 3) := dzr zhdX9_dueBits_38 1 rfl
theorem dX9_dueBits_44 : decode cX9_dueBits 44 = .ok (.aload_n 0, 1) := dzr zhdX9_dueBits_38 2 rfl
theorem dX9_dueBits_45 : decode cX9_dueBits 45 = .ok (.iload 4, 2) := dzr zhdX9_dueBits_38 3 rfl
theorem dX9_dueBits_47 : decode cX9_dueBits 47 = .ok (.invokevirtual 96, 3) := dzr zhdX9_dueBits_38 4 rfl
theorem dX9_dueBits_50 : decode cX9_dueBits 50 = .ok (.iconst (-1), 1) := dzr zhdX9_dueBits_38 5 rfl
theorem dX9_dueBits_51 : decode cX9_dueBits 51 = .ok (.if_icmp .ne 24, 3) := dzr zhdX9_dueBits_38 6 rfl
theorem dX9_dueBits_54 : decode cX9_dueBits 54 = .ok (.iload_n 2, 1) := dzr zhdX9_dueBits_38 7 rfl
theorem dX9_dueBits_55 : decode cX9_dueBits 55 = .ok (.aload_n 0, 1) := dzr zhdX9_dueBits_38 8 rfl
theorem dX9_dueBits_56 : decode cX9_dueBits 56 = .ok (.getfield 15, 3) := dzr zhdX9_dueBits_38 9 rfl
theorem dX9_dueBits_59 : decode cX9_dueBits 59 = .ok (.getfield 99, 3) := dzr zhdX9_dueBits_38 10 rfl
theorem dX9_dueBits_62 : decode cX9_dueBits 62 = .ok (.iload 4, 2) := dzr zhdX9_dueBits_38 11 rfl
theorem dX9_dueBits_64 : decode cX9_dueBits 64 = .ok (.iaload, 1) := dzr zhdX9_dueBits_38 12 rfl
theorem dX9_dueBits_65 : decode cX9_dueBits 65 = .ok (.if_icmp .lt 10, 3) := dzr zhdX9_dueBits_38 13 rfl
theorem dX9_dueBits_68 : decode cX9_dueBits 68 = .ok (.iload_n 3, 1) := dzr zhdX9_dueBits_38 14 rfl
theorem dX9_dueBits_69 : decode cX9_dueBits 69 = .ok (.iconst 1, 1) := dzr zhdX9_dueBits_38 15 rfl
theorem dX9_dueBits_70 : decode cX9_dueBits 70 = .ok (.iload 4, 2) := dzr zhdX9_dueBits_38 16 rfl
theorem dX9_dueBits_72 : decode cX9_dueBits 72 = .ok (.ishl, 1) := dzr zhdX9_dueBits_38 17 rfl
theorem dX9_dueBits_73 : decode cX9_dueBits 73 = .ok (.ior, 1) := dzr zhdX9_dueBits_38 18 rfl
theorem dX9_dueBits_74 : decode cX9_dueBits 74 = .ok (.istore_n 3, 1) := dzr zhdX9_dueBits_38 19 rfl
theorem dX9_dueBits_75 : decode cX9_dueBits 75 = .ok (.iinc 4 1, 3) := dzr zhdX9_dueBits_38 20 rfl
theorem dX9_dueBits_78 : decode cX9_dueBits 78 = .ok (.goto (-46), 3) := dzr zhdX9_dueBits_38 21 rfl
theorem dX9_dueBits_81 : decode cX9_dueBits 81 = .ok (.iload_n 3, 1) := dzr zhdX9_dueBits_38 22 rfl
theorem dX9_dueBits_82 : decode cX9_dueBits 82 = .ok (.ireturn, 1) := dzr zhdX9_dueBits_38 23 rfl
theorem dX10_init_8 : decode cX10_init 8 = .ok (.newarray .int, 2) := by decide +kernel
def ztdX10_init_0 : List (Nat × Instr × Nat) := [(0, .aload_n 0, 1), (1, .invokespecial 3, 3), (4, .aload_n 0, 1), (5, .sipush 240, 3), (10, .putfield 9, 3), (13, .return_, 1)]
theorem zhdX10_init_0 : dzC ztdX10_init_0 0 (cX10_init.data.toList.drop 0) = true := by decide +kernel
theorem dX10_init_0 : decode cX10_init 0 = .ok (.aload_n 0, 1) := dzr zhdX10_init_0 0 rfl
theorem dX10_init_1 : decode cX10_init 1 = .ok (.invokespecial 3, 3) := dzr zhdX10_init_0 1 rfl
theorem dX10_init_4 : decode cX10_init 4 = .ok (.aload_n 0, 1) := dzr zhdX10_init_0 2 rfl
theorem dX10_init_5 : decode cX10_init 5 = .ok (.sipush 240, 3) := dzr zhdX10_init_0 3 rfl
theorem dX10_init_10 : decode cX10_init 10 = .ok (.putfield 9, 3) := dzr zhdX10_init_0 4 rfl
theorem dX10_init_13 : decode cX10_init 13 = .ok (.return_, 1) := dzr zhdX10_init_0 5 rfl
def ztdX10_bytesOf_0 : List (Nat × Instr × Nat) := [(0, .iconst 0, 1), (1, .istore_n 1, 1), (2, .bipush 24, 2), (4, .istore_n 2, 1), (5, .iload_n 2, 1), (6, .ifCond .lt 22, 3), (9, .iload_n 0, 1), (10, .iload_n 2, 1), (11, .iushr, 1), (12, .sipush 255, 3), (15, .iand, 1), (16, .ifCond .eq 6, 3), (19, .iinc 1 1, 3), (22, .iinc 2 (-8), 3), (25, .goto (-20), 3), (28, .iload_n 1, 1), (29, .ireturn, 1)]
theorem zhdX10_bytesOf_0 : dzC ztdX10_bytesOf_0 0 (cX10_bytesOf.data.toList.drop 0) = true := by decide +kernel
theorem dX10_bytesOf_0 : decode cX10_bytesOf 0 = .ok (.iconst 0, 1) := dzr zhdX10_bytesOf_0 0 rfl
theorem dX10_bytesOf_1 : decode cX10_bytesOf 1 = .ok (.istore_n 1, 1) := dzr zhdX10_bytesOf_0 1 rfl
theorem dX10_bytesOf_2 : decode cX10_bytesOf 2 = .ok (.bipush 24, 2) := dzr zhdX10_bytesOf_0 2 rfl
theorem dX10_bytesOf_4 : decode cX10_bytesOf 4 = .ok (.istore_n 2, 1) := dzr zhdX10_bytesOf_0 3 rfl
theorem dX10_bytesOf_5 : decode cX10_bytesOf 5 = .ok (.iload_n 2, 1) := dzr zhdX10_bytesOf_0 4 rfl
theorem dX10_bytesOf_6 : decode cX10_bytesOf 6 = .ok (.ifCond .lt 22, 3) := dzr zhdX10_bytesOf_0 5 rfl
theorem dX10_bytesOf_9 : decode cX10_bytesOf 9 = .ok (.iload_n 0, 1) := dzr zhdX10_bytesOf_0 6 rfl
theorem dX10_bytesOf_10 : decode cX10_bytesOf 10 = .ok (.iload_n 2, 1) := dzr zhdX10_bytesOf_0 7 rfl
theorem dX10_bytesOf_11 : decode cX10_bytesOf 11 = .ok (.iushr, 1) := dzr zhdX10_bytesOf_0 8 rfl
theorem dX10_bytesOf_12 : decode cX10_bytesOf 12 = .ok (.sipush 255, 3) := dzr zhdX10_bytesOf_0 9 rfl
theorem dX10_bytesOf_15 : decode cX10_bytesOf 15 = .ok (.iand, 1) := dzr zhdX10_bytesOf_0 10 rfl
theorem dX10_bytesOf_16 : decode cX10_bytesOf 16 = .ok (.ifCond .eq 6, 3) := dzr zhdX10_bytesOf_0 11 rfl
theorem dX10_bytesOf_19 : decode cX10_bytesOf 19 = .ok (.iinc 1 1, 3) := dzr zhdX10_bytesOf_0 12 rfl
theorem dX10_bytesOf_22 : decode cX10_bytesOf 22 = .ok (.iinc 2 (-8), 3) := dzr zhdX10_bytesOf_0 13 rfl
theorem dX10_bytesOf_25 : decode cX10_bytesOf 25 = .ok (.goto (-20), 3) := dzr zhdX10_bytesOf_0 14 rfl
theorem dX10_bytesOf_28 : decode cX10_bytesOf 28 = .ok (.iload_n 1, 1) := dzr zhdX10_bytesOf_0 15 rfl
theorem dX10_bytesOf_29 : decode cX10_bytesOf 29 = .ok (.ireturn, 1) := dzr zhdX10_bytesOf_0 16 rfl
def ztdX10_put_0 : List (Nat × Instr × Nat) := [(0, .bipush 24, 2), (2, .istore_n 2, 1), (3, .iload_n 2, 1), (4, .ifCond .lt 51, 3), (7, .iload_n 1, 1), (8, .iload_n 2, 1), (9, .iushr, 1), (10, .sipush 255, 3), (13, .iand, 1), (14, .istore_n 3, 1), (15, .iload_n 3, 1), (16, .ifCond .eq 33, 3), (19, .aload_n 0, 1), (20, .getfield 15, 3), (23, .sipush 240, 3), (26, .if_icmp .ge 23, 3), (29, .aload_n 0, 1), (30, .getfield 9, 3), (33, .aload_n 0, 1), (34, .getfield 15, 3), (37, .iload_n 3, 1), (38, .iastore, 1), (39, .aload_n 0, 1), (40, .dup, 1)]
theorem zhdX10_put_0 : dzC ztdX10_put_0 0 (cX10_put.data.toList.drop 0) = true := by decide +kernel
theorem dX10_put_0 : decode cX10_put 0 = .ok (.bipush 24, 2) := dzr zhdX10_put_0 0 rfl
theorem dX10_put_2 : decode cX10_put 2 = .ok (.istore_n 2, 1) := dzr zhdX10_put_0 1 rfl
theorem dX10_put_3 : decode cX10_put 3 = .ok (.iload_n 2, 1) := dzr zhdX10_put_0 2 rfl
theorem dX10_put_4 : decode cX10_put 4 = .ok (.ifCond .lt 51, 3) := dzr zhdX10_put_0 3 rfl
theorem dX10_put_7 : decode cX10_put 7 = .ok (.iload_n 1, 1) := dzr zhdX10_put_0 4 rfl
theorem dX10_put_8 : decode cX10_put 8 = .ok (.iload_n 2, 1) := dzr zhdX10_put_0 5 rfl
theorem dX10_put_9 : decode cX10_put 9 = .ok (.iushr, 1) := dzr zhdX10_put_0 6 rfl
theorem dX10_put_10 : decode cX10_put 10 = .ok (.sipush 255, 3) := dzr zhdX10_put_0 7 rfl
theorem dX10_put_13 : decode cX10_put 13 = .ok (.iand, 1) := dzr zhdX10_put_0 8 rfl
theorem dX10_put_14 : decode cX10_put 14 = .ok (.istore_n 3, 1) := dzr zhdX10_put_0 9 rfl
theorem dX10_put_15 : decode cX10_put 15 = .ok (.iload_n 3, 1) := dzr zhdX10_put_0 10 rfl
theorem dX10_put_16 : decode cX10_put 16 = .ok (.ifCond .eq 33, 3) := dzr zhdX10_put_0 11 rfl
theorem dX10_put_19 : decode cX10_put 19 = .ok (.aload_n 0, 1) := dzr zhdX10_put_0 12 rfl
theorem dX10_put_20 : decode cX10_put 20 = .ok (.getfield 15, 3) := dzr zhdX10_put_0 13 rfl
theorem dX10_put_23 : decode cX10_put 23 = .ok (.sipush 240, 3) := dzr zhdX10_put_0 14 rfl
theorem dX10_put_26 : decode cX10_put 26 = .ok (.if_icmp .ge 23, 3) := dzr zhdX10_put_0 15 rfl
theorem dX10_put_29 : decode cX10_put 29 = .ok (.aload_n 0, 1) := dzr zhdX10_put_0 16 rfl
theorem dX10_put_30 : decode cX10_put 30 = .ok (.getfield 9, 3) := dzr zhdX10_put_0 17 rfl
theorem dX10_put_33 : decode cX10_put 33 = .ok (.aload_n 0, 1) := dzr zhdX10_put_0 18 rfl
theorem dX10_put_34 : decode cX10_put 34 = .ok (.getfield 15, 3) := dzr zhdX10_put_0 19 rfl
theorem dX10_put_37 : decode cX10_put 37 = .ok (.iload_n 3, 1) := dzr zhdX10_put_0 20 rfl
theorem dX10_put_38 : decode cX10_put 38 = .ok (.iastore, 1) := dzr zhdX10_put_0 21 rfl
theorem dX10_put_39 : decode cX10_put 39 = .ok (.aload_n 0, 1) := dzr zhdX10_put_0 22 rfl
theorem dX10_put_40 : decode cX10_put 40 = .ok (.dup, 1) := dzr zhdX10_put_0 23 rfl
def ztdX10_put_41 : List (Nat × Instr × Nat) := [(41, .getfield 15, 3), (44, .iconst 1, 1), (45, .iadd, 1), (46, .putfield 15, 3), (49, .iinc 2 (-8), 3), (52, .goto (-49), 3), (55, .return_, 1)]
theorem zhdX10_put_41 : dzC ztdX10_put_41 41 (cX10_put.data.toList.drop 41) = true := by decide +kernel
theorem dX10_put_41 : decode cX10_put 41 = .ok (.getfield 15, 3) := dzr zhdX10_put_41 0 rfl
theorem dX10_put_44 : decode cX10_put 44 = .ok (.iconst 1, 1) := dzr zhdX10_put_41 1 rfl
theorem dX10_put_45 : decode cX10_put 45 = .ok (.iadd, 1) := dzr zhdX10_put_41 2 rfl
theorem dX10_put_46 : decode cX10_put 46 = .ok (.putfield 15, 3) := dzr zhdX10_put_41 3 rfl
theorem dX10_put_49 : decode cX10_put 49 = .ok (.iinc 2 (-8), 3) := dzr zhdX10_put_41 4 rfl
theorem dX10_put_52 : decode cX10_put 52 = .ok (.goto (-49), 3) := dzr zhdX10_put_41 5 rfl
theorem dX10_put_55 : decode cX10_put 55 = .ok (.return_, 1) := dzr zhdX10_put_41 6 rfl
def ztdX10_sign_0 : List (Nat × Instr × Nat) := [(0, .aload_n 0, 1), (1, .getfield 19, 3), (4, .aload_n 0, 1), (5, .getfield 15, 3), (8, .if_icmp .ge 40, 3), (11, .aload_n 0, 1), (12, .getfield 9, 3), (15, .aload_n 0, 1), (16, .getfield 19, 3), (19, .iaload, 1), (20, .bipush 32, 2), (22, .if_icmp .eq 13, 3), (25, .aload_n 0, 1), (26, .getfield 9, 3), (29, .aload_n 0, 1), (30, .getfield 19, 3), (33, .iaload, 1), (34, .ireturn, 1), (35, .aload_n 0, 1), (36, .dup, 1), (37, .getfield 19, 3), (40, .iconst 1, 1), (41, .iadd, 1), (42, .putfield 19, 3)]
theorem zhdX10_sign_0 : dzC ztdX10_sign_0 0 (cX10_sign.data.toList.drop 0) = true := by decide +kernel
theorem dX10_sign_0 : decode cX10_sign 0 = .ok (.aload_n 0, 1) := dzr zhdX10_sign_0 0 rfl
theorem dX10_sign_1 : decode cX10_sign 1 = .ok (.getfield 19, 3) := dzr zhdX10_sign_0 1 rfl
theorem dX10_sign_4 : decode cX10_sign 4 = .ok (.aload_n 0, 1) := dzr zhdX10_sign_0 2 rfl
theorem dX10_sign_5 : decode cX10_sign 5 = .ok (.getfield 15, 3) := dzr zhdX10_sign_0 3 rfl
theorem dX10_sign_8 : decode cX10_sign 8 = .ok (.if_icmp .ge 40, 3) := dzr zhdX10_sign_0 4 rfl
theorem dX10_sign_11 : decode cX10_sign 11 = .ok (.aload_n 0, 1) := dzr zhdX10_sign_0 5 rfl
theorem dX10_sign_12 : decode cX10_sign 12 = .ok (.getfield 9, 3) := dzr zhdX10_sign_0 6 rfl
theorem dX10_sign_15 : decode cX10_sign 15 = .ok (.aload_n 0, 1) := dzr zhdX10_sign_0 7 rfl
theorem dX10_sign_16 : decode cX10_sign 16 = .ok (.getfield 19, 3) := dzr zhdX10_sign_0 8 rfl
theorem dX10_sign_19 : decode cX10_sign 19 = .ok (.iaload, 1) := dzr zhdX10_sign_0 9 rfl
theorem dX10_sign_20 : decode cX10_sign 20 = .ok (.bipush 32, 2) := dzr zhdX10_sign_0 10 rfl
theorem dX10_sign_22 : decode cX10_sign 22 = .ok (.if_icmp .eq 13, 3) := dzr zhdX10_sign_0 11 rfl
theorem dX10_sign_25 : decode cX10_sign 25 = .ok (.aload_n 0, 1) := dzr zhdX10_sign_0 12 rfl
theorem dX10_sign_26 : decode cX10_sign 26 = .ok (.getfield 9, 3) := dzr zhdX10_sign_0 13 rfl
theorem dX10_sign_29 : decode cX10_sign 29 = .ok (.aload_n 0, 1) := dzr zhdX10_sign_0 14 rfl
theorem dX10_sign_30 : decode cX10_sign 30 = .ok (.getfield 19, 3) := dzr zhdX10_sign_0 15 rfl
theorem dX10_sign_33 : decode cX10_sign 33 = .ok (.iaload, 1) := dzr zhdX10_sign_0 16 rfl
theorem dX10_sign_34 : decode cX10_sign 34 = .ok (.ireturn, 1) := dzr zhdX10_sign_0 17 rfl
theorem dX10_sign_35 : decode cX10_sign 35 = .ok (.aload_n 0, 1) := dzr zhdX10_sign_0 18 rfl
theorem dX10_sign_36 : decode cX10_sign 36 = .ok (.dup, 1) := dzr zhdX10_sign_0 19 rfl
theorem dX10_sign_37 : decode cX10_sign 37 = .ok (.getfield 19, 3) := dzr zhdX10_sign_0 20 rfl
theorem dX10_sign_40 : decode cX10_sign 40 = .ok (.iconst 1, 1) := dzr zhdX10_sign_0 21 rfl
theorem dX10_sign_41 : decode cX10_sign 41 = .ok (.iadd, 1) := dzr zhdX10_sign_0 22 rfl
theorem dX10_sign_42 : decode cX10_sign 42 = .ok (.putfield 19, 3) := dzr zhdX10_sign_0 23 rfl
def ztdX10_sign_45 : List (Nat × Instr × Nat) := [(45, .goto (-45), 3), (48, .iconst (-1), 1), (49, .ireturn, 1)]
theorem zhdX10_sign_45 : dzC ztdX10_sign_45 45 (cX10_sign.data.toList.drop 45) = true := by decide +kernel
theorem dX10_sign_45 : decode cX10_sign 45 = .ok (.goto (-45), 3) := dzr zhdX10_sign_45 0 rfl
theorem dX10_sign_48 : decode cX10_sign 48 = .ok (.iconst (-1), 1) := dzr zhdX10_sign_45 1 rfl
theorem dX10_sign_49 : decode cX10_sign 49 = .ok (.ireturn, 1) := dzr zhdX10_sign_45 2 rfl
theorem ggX10_take_X10_sign : GoodIn wsX10_take wsX10_sign := (bg_up (bg_law (bi_wsL_law0_r10 _ (List.mem_of_getElem? (i := 7) rfl))))
theorem gX10_take_X10_sign : GoodIn wsX10_take (wsV RX10 22 RX10 yX10_sign wsX10_sign) := goodIn_app (bg_up (bg_cons (bi_wsL_law0_r11 _ (List.mem_of_getElem? (i := 13) rfl)) (bg_cons (bi_wsL_law0_r10 _ (List.mem_of_getElem? (i := 5) rfl)) (bg_cons (bi_wsL_law0_r10 _ (List.mem_of_getElem? (i := 6) rfl)) (bg_cons (bi_wsL_law0_r1 _ (List.mem_of_getElem? (i := 16) rfl)) bg_nil))))) (bg_up (bg_law (bi_wsL_law0_r10 _ (List.mem_of_getElem? (i := 7) rfl))))
def ztdX10_take_0 : List (Nat × Instr × Nat) := [(0, .aload_n 0, 1), (1, .invokevirtual 22, 3), (4, .iload_n 1, 1), (5, .if_icmp .eq 5, 3), (8, .iconst 0, 1), (9, .ireturn, 1), (10, .aload_n 0, 1), (11, .dup, 1), (12, .getfield 19, 3), (15, .iconst 1, 1), (16, .iadd, 1), (17, .putfield 19, 3), (20, .iconst 1, 1), (21, .ireturn, 1)]
theorem zhdX10_take_0 : dzC ztdX10_take_0 0 (cX10_take.data.toList.drop 0) = true := by decide +kernel
theorem dX10_take_0 : decode cX10_take 0 = .ok (.aload_n 0, 1) := dzr zhdX10_take_0 0 rfl
theorem dX10_take_1 : decode cX10_take 1 = .ok (.invokevirtual 22, 3) := dzr zhdX10_take_0 1 rfl
theorem dX10_take_4 : decode cX10_take 4 = .ok (.iload_n 1, 1) := dzr zhdX10_take_0 2 rfl
theorem dX10_take_5 : decode cX10_take 5 = .ok (.if_icmp .eq 5, 3) := dzr zhdX10_take_0 3 rfl
theorem dX10_take_8 : decode cX10_take 8 = .ok (.iconst 0, 1) := dzr zhdX10_take_0 4 rfl
theorem dX10_take_9 : decode cX10_take 9 = .ok (.ireturn, 1) := dzr zhdX10_take_0 5 rfl
theorem dX10_take_10 : decode cX10_take 10 = .ok (.aload_n 0, 1) := dzr zhdX10_take_0 6 rfl
theorem dX10_take_11 : decode cX10_take 11 = .ok (.dup, 1) := dzr zhdX10_take_0 7 rfl
theorem dX10_take_12 : decode cX10_take 12 = .ok (.getfield 19, 3) := dzr zhdX10_take_0 8 rfl
theorem dX10_take_15 : decode cX10_take 15 = .ok (.iconst 1, 1) := dzr zhdX10_take_0 9 rfl
theorem dX10_take_16 : decode cX10_take 16 = .ok (.iadd, 1) := dzr zhdX10_take_0 10 rfl
theorem dX10_take_17 : decode cX10_take 17 = .ok (.putfield 19, 3) := dzr zhdX10_take_0 11 rfl
theorem dX10_take_20 : decode cX10_take 20 = .ok (.iconst 1, 1) := dzr zhdX10_take_0 12 rfl
theorem dX10_take_21 : decode cX10_take 21 = .ok (.ireturn, 1) := dzr zhdX10_take_0 13 rfl
def ztdX10_isAtDigit_0 : List (Nat × Instr × Nat) := [(0, .aload_n 0, 1), (1, .getfield 19, 3), (4, .aload_n 0, 1), (5, .getfield 15, 3), (8, .if_icmp .ge 35, 3), (11, .aload_n 0, 1), (12, .getfield 9, 3), (15, .aload_n 0, 1), (16, .getfield 19, 3), (19, .iaload, 1), (20, .bipush 48, 2), (22, .if_icmp .lt 21, 3), (25, .aload_n 0, 1), (26, .getfield 9, 3), (29, .aload_n 0, 1), (30, .getfield 19, 3), (33, .iaload, 1), (34, .bipush 57, 2), (36, .if_icmp .gt 7, 3), (39, .iconst 1, 1), (40, .goto 4, 3), (43, .iconst 0, 1), (44, .ireturn, 1)]
theorem zhdX10_isAtDigit_0 : dzC ztdX10_isAtDigit_0 0 (cX10_isAtDigit.data.toList.drop 0) = true := by decide +kernel
theorem dX10_isAtDigit_0 : decode cX10_isAtDigit 0 = .ok (.aload_n 0, 1) := dzr zhdX10_isAtDigit_0 0 rfl
theorem dX10_isAtDigit_1 : decode cX10_isAtDigit 1 = .ok (.getfield 19, 3) := dzr zhdX10_isAtDigit_0 1 rfl
theorem dX10_isAtDigit_4 : decode cX10_isAtDigit 4 = .ok (.aload_n 0, 1) := dzr zhdX10_isAtDigit_0 2 rfl
theorem dX10_isAtDigit_5 : decode cX10_isAtDigit 5 = .ok (.getfield 15, 3) := dzr zhdX10_isAtDigit_0 3 rfl
theorem dX10_isAtDigit_8 : decode cX10_isAtDigit 8 = .ok (.if_icmp .ge 35, 3) := dzr zhdX10_isAtDigit_0 4 rfl
theorem dX10_isAtDigit_11 : decode cX10_isAtDigit 11 = .ok (.aload_n 0, 1) := dzr zhdX10_isAtDigit_0 5 rfl
theorem dX10_isAtDigit_12 : decode cX10_isAtDigit 12 = .ok (.getfield 9, 3) := dzr zhdX10_isAtDigit_0 6 rfl
theorem dX10_isAtDigit_15 : decode cX10_isAtDigit 15 = .ok (.aload_n 0, 1) := dzr zhdX10_isAtDigit_0 7 rfl
theorem dX10_isAtDigit_16 : decode cX10_isAtDigit 16 = .ok (.getfield 19, 3) := dzr zhdX10_isAtDigit_0 8 rfl
theorem dX10_isAtDigit_19 : decode cX10_isAtDigit 19 = .ok (.iaload, 1) := dzr zhdX10_isAtDigit_0 9 rfl
theorem dX10_isAtDigit_20 : decode cX10_isAtDigit 20 = .ok (.bipush 48, 2) := dzr zhdX10_isAtDigit_0 10 rfl
theorem dX10_isAtDigit_22 : decode cX10_isAtDigit 22 = .ok (.if_icmp .lt 21, 3) := dzr zhdX10_isAtDigit_0 11 rfl
theorem dX10_isAtDigit_25 : decode cX10_isAtDigit 25 = .ok (.aload_n 0, 1) := dzr zhdX10_isAtDigit_0 12 rfl
theorem dX10_isAtDigit_26 : decode cX10_isAtDigit 26 = .ok (.getfield 9, 3) := dzr zhdX10_isAtDigit_0 13 rfl
theorem dX10_isAtDigit_29 : decode cX10_isAtDigit 29 = .ok (.aload_n 0, 1) := dzr zhdX10_isAtDigit_0 14 rfl
theorem dX10_isAtDigit_30 : decode cX10_isAtDigit 30 = .ok (.getfield 19, 3) := dzr zhdX10_isAtDigit_0 15 rfl
theorem dX10_isAtDigit_33 : decode cX10_isAtDigit 33 = .ok (.iaload, 1) := dzr zhdX10_isAtDigit_0 16 rfl
theorem dX10_isAtDigit_34 : decode cX10_isAtDigit 34 = .ok (.bipush 57, 2) := dzr zhdX10_isAtDigit_0 17 rfl
theorem dX10_isAtDigit_36 : decode cX10_isAtDigit 36 = .ok (.if_icmp .gt 7, 3) := dzr zhdX10_isAtDigit_0 18 rfl
theorem dX10_isAtDigit_39 : decode cX10_isAtDigit 39 = .ok (.iconst 1, 1) := dzr zhdX10_isAtDigit_0 19 rfl
theorem dX10_isAtDigit_40 : decode cX10_isAtDigit 40 = .ok (.goto 4, 3) := dzr zhdX10_isAtDigit_0 20 rfl
theorem dX10_isAtDigit_43 : decode cX10_isAtDigit 43 = .ok (.iconst 0, 1) := dzr zhdX10_isAtDigit_0 21 rfl
theorem dX10_isAtDigit_44 : decode cX10_isAtDigit 44 = .ok (.ireturn, 1) := dzr zhdX10_isAtDigit_0 22 rfl
theorem ggX10_number_X10_sign : GoodIn wsX10_number wsX10_sign := (bg_up (bg_law (bi_wsL_law0_r10 _ (List.mem_of_getElem? (i := 7) rfl))))
theorem gX10_number_X10_sign : GoodIn wsX10_number (wsV RX10 22 RX10 yX10_sign wsX10_sign) := goodIn_app (bg_up (bg_cons (bi_wsL_law0_r11 _ (List.mem_of_getElem? (i := 13) rfl)) (bg_cons (bi_wsL_law0_r10 _ (List.mem_of_getElem? (i := 5) rfl)) (bg_cons (bi_wsL_law0_r10 _ (List.mem_of_getElem? (i := 6) rfl)) (bg_cons (bi_wsL_law0_r1 _ (List.mem_of_getElem? (i := 16) rfl)) bg_nil))))) (bg_up (bg_law (bi_wsL_law0_r10 _ (List.mem_of_getElem? (i := 7) rfl))))
theorem ggX10_number_X10_isAtDigit : GoodIn wsX10_number wsX10_isAtDigit := (bg_up (bg_law (bi_wsL_law0_r11 _ (List.mem_of_getElem? (i := 17) rfl))))
theorem gX10_number_X10_isAtDigit : GoodIn wsX10_number (wsV RX10 26 RX10 yX10_isAtDigit wsX10_isAtDigit) := goodIn_app (bg_up (bg_cons (bi_wsL_law0_r11 _ (List.mem_of_getElem? (i := 14) rfl)) (bg_cons (bi_wsL_law0_r11 _ (List.mem_of_getElem? (i := 15) rfl)) (bg_cons (bi_wsL_law0_r11 _ (List.mem_of_getElem? (i := 16) rfl)) (bg_cons (bi_wsL_law0_r1 _ (List.mem_of_getElem? (i := 16) rfl)) bg_nil))))) (bg_up (bg_law (bi_wsL_law0_r11 _ (List.mem_of_getElem? (i := 17) rfl))))
def ztdX10_number_0 : List (Nat × Instr × Nat) := [(0, .aload_n 0, 1), (1, .invokevirtual 22, 3), (4, .iconst (-1), 1), (5, .if_icmp .ne 5, 3), (8, .iconst (-1), 1), (9, .ireturn, 1), (10, .iconst 0, 1), (11, .istore_n 2, 1), (12, .iconst 0, 1), (13, .istore_n 3, 1), (14, .iload_n 3, 1), (15, .iload_n 1, 1), (16, .if_icmp .ge 44, 3), (19, .aload_n 0, 1), (20, .invokevirtual 26, 3), (23, .ifCond .eq 37, 3), (26, .iload_n 2, 1), (27, .bipush 10, 2), (29, .imul, 1), (30, .aload_n 0, 1), (31, .getfield 9, 3), (34, .aload_n 0, 1), (35, .getfield 19, 3), (38, .iaload, 1)]
theorem zhdX10_number_0 : dzC ztdX10_number_0 0 (cX10_number.data.toList.drop 0) = true := by decide +kernel
theorem dX10_number_0 : decode cX10_number 0 = .ok (.aload_n 0, 1) := dzr zhdX10_number_0 0 rfl
theorem dX10_number_1 : decode cX10_number 1 = .ok (.invokevirtual 22, 3) := dzr zhdX10_number_0 1 rfl
theorem dX10_number_4 : decode cX10_number 4 = .ok (.iconst (-1), 1) := dzr zhdX10_number_0 2 rfl
theorem dX10_number_5 : decode cX10_number 5 = .ok (.if_icmp .ne 5, 3) := dzr zhdX10_number_0 3 rfl
theorem dX10_number_8 : decode cX10_number 8 = .ok (.iconst (-1), 1) := dzr zhdX10_number_0 4 rfl
theorem dX10_number_9 : decode cX10_number 9 = .ok (.ireturn, 1) := dzr zhdX10_number_0 5 rfl
theorem dX10_number_10 : decode cX10_number 10 = .ok (.iconst 0, 1) := dzr zhdX10_number_0 6 rfl
theorem dX10_number_11 : decode cX10_number 11 = .ok (.istore_n 2, 1) := dzr zhdX10_number_0 7 rfl
theorem dX10_number_12 : decode cX10_number 12 = .ok (.iconst 0, 1) := dzr zhdX10_number_0 8 rfl
theorem dX10_number_13 : decode cX10_number 13 = .ok (.istore_n 3, 1) := dzr zhdX10_number_0 9 rfl
theorem dX10_number_14 : decode cX10_number 14 = .ok (.iload_n 3, 1) := dzr zhdX10_number_0 10 rfl
theorem dX10_number_15 : decode cX10_number 15 = .ok (.iload_n 1, 1) := dzr zhdX10_number_0 11 rfl
theorem dX10_number_16 : decode cX10_number 16 = .ok (.if_icmp .ge 44, 3) := dzr zhdX10_number_0 12 rfl
theorem dX10_number_19 : decode cX10_number 19 = .ok (.aload_n 0, 1) := dzr zhdX10_number_0 13 rfl
theorem dX10_number_20 : decode cX10_number 20 = .ok (.invokevirtual 26, 3) := dzr zhdX10_number_0 14 rfl
theorem dX10_number_23 : decode cX10_number 23 = .ok (.ifCond .eq 37, 3) := dzr zhdX10_number_0 15 rfl
theorem dX10_number_26 : decode cX10_number 26 = .ok (.iload_n 2, 1) := dzr zhdX10_number_0 16 rfl
theorem dX10_number_27 : decode cX10_number 27 = .ok (.bipush 10, 2) := dzr zhdX10_number_0 17 rfl
theorem dX10_number_29 : decode cX10_number 29 = .ok (.imul, 1) := dzr zhdX10_number_0 18 rfl
theorem dX10_number_30 : decode cX10_number 30 = .ok (.aload_n 0, 1) := dzr zhdX10_number_0 19 rfl
theorem dX10_number_31 : decode cX10_number 31 = .ok (.getfield 9, 3) := dzr zhdX10_number_0 20 rfl
theorem dX10_number_34 : decode cX10_number 34 = .ok (.aload_n 0, 1) := dzr zhdX10_number_0 21 rfl
theorem dX10_number_35 : decode cX10_number 35 = .ok (.getfield 19, 3) := dzr zhdX10_number_0 22 rfl
theorem dX10_number_38 : decode cX10_number 38 = .ok (.iaload, 1) := dzr zhdX10_number_0 23 rfl
def ztdX10_number_39 : List (Nat × Instr × Nat) := [(39, .iadd, 1), (40, .bipush 48, 2), (42, .isub, 1), (43, .istore_n 2, 1), (44, .aload_n 0, 1), (45, .dup, 1), (46, .getfield 19, 3), (49, .iconst 1, 1), (50, .iadd, 1), (51, .putfield 19, 3), (54, .iinc 3 1, 3), (57, .goto (-43), 3), (60, .iload_n 3, 1), (61, .ifCond .eq 10, 3), (64, .aload_n 0, 1), (65, .invokevirtual 26, 3), (68, .ifCond .eq 7, 3), (71, .iconst (-1), 1), (72, .goto 4, 3), (75, .iload_n 2, 1), (76, .ireturn, 1)]
theorem zhdX10_number_39 : dzC ztdX10_number_39 39 (cX10_number.data.toList.drop 39) = true := by decide +kernel
theorem dX10_number_39 : decode cX10_number 39 = .ok (.iadd, 1) := dzr zhdX10_number_39 0 rfl
theorem dX10_number_40 : decode cX10_number 40 = .ok (.bipush 48, 2) := dzr zhdX10_number_39 1 rfl
theorem dX10_number_42 : decode cX10_number 42 = .ok (.isub, 1) := dzr zhdX10_number_39 2 rfl
theorem dX10_number_43 : decode cX10_number 43 = .ok (.istore_n 2, 1) := dzr zhdX10_number_39 3 rfl
theorem dX10_number_44 : decode cX10_number 44 = .ok (.aload_n 0, 1) := dzr zhdX10_number_39 4 rfl
theorem dX10_number_45 : decode cX10_number 45 = .ok (.dup, 1) := dzr zhdX10_number_39 5 rfl
theorem dX10_number_46 : decode cX10_number 46 = .ok (.getfield 19, 3) := dzr zhdX10_number_39 6 rfl
theorem dX10_number_49 : decode cX10_number 49 = .ok (.iconst 1, 1) := dzr zhdX10_number_39 7 rfl
theorem dX10_number_50 : decode cX10_number 50 = .ok (.iadd, 1) := dzr zhdX10_number_39 8 rfl
theorem dX10_number_51 : decode cX10_number 51 = .ok (.putfield 19, 3) := dzr zhdX10_number_39 9 rfl
theorem dX10_number_54 : decode cX10_number 54 = .ok (.iinc 3 1, 3) := dzr zhdX10_number_39 10 rfl
theorem dX10_number_57 : decode cX10_number 57 = .ok (.goto (-43), 3) := dzr zhdX10_number_39 11 rfl
theorem dX10_number_60 : decode cX10_number 60 = .ok (.iload_n 3, 1) := dzr zhdX10_number_39 12 rfl
theorem dX10_number_61 : decode cX10_number 61 = .ok (.ifCond .eq 10, 3) := dzr zhdX10_number_39 13 rfl
theorem dX10_number_64 : decode cX10_number 64 = .ok (.aload_n 0, 1) := dzr zhdX10_number_39 14 rfl
theorem dX10_number_65 : decode cX10_number 65 = .ok (.invokevirtual 26, 3) := dzr zhdX10_number_39 15 rfl
theorem dX10_number_68 : decode cX10_number 68 = .ok (.ifCond .eq 7, 3) := dzr zhdX10_number_39 16 rfl
theorem dX10_number_71 : decode cX10_number 71 = .ok (.iconst (-1), 1) := dzr zhdX10_number_39 17 rfl
theorem dX10_number_72 : decode cX10_number 72 = .ok (.goto 4, 3) := dzr zhdX10_number_39 18 rfl
theorem dX10_number_75 : decode cX10_number 75 = .ok (.iload_n 2, 1) := dzr zhdX10_number_39 19 rfl
theorem dX10_number_76 : decode cX10_number 76 = .ok (.ireturn, 1) := dzr zhdX10_number_39 20 rfl
theorem ggX11_init_X10_init : GoodIn wsX11_init wsX10_init := (bg_up (bg_law (bi_wsL_law0_r3 _ (List.mem_of_getElem? (i := 19) rfl))))
theorem gX11_init_X10_init_n9 : GoodIn wsX11_init (wsX10_init) := (bg_up (bg_law (bi_wsL_law0_r3 _ (List.mem_of_getElem? (i := 19) rfl))))
theorem ggX11_init_X6_init : GoodIn wsX11_init wsX6_init := (bg_up (bg_law (bi_wsL_law0_r4 _ (List.mem_of_getElem? (i := 0) rfl))))
theorem gX11_init_X6_init : GoodIn wsX11_init (wsX6_init) := (bg_up (bg_law (bi_wsL_law0_r4 _ (List.mem_of_getElem? (i := 0) rfl))))
theorem ggX11_init_X1_init : GoodIn wsX11_init wsX1_init := (bg_up (bg_law (bi_wsL_law0_r4 _ (List.mem_of_getElem? (i := 17) rfl))))
theorem gX11_init_X1_init : GoodIn wsX11_init (wsX1_init) := (bg_up (bg_law (bi_wsL_law0_r4 _ (List.mem_of_getElem? (i := 17) rfl))))
theorem ggX11_init_X5_init : GoodIn wsX11_init wsX5_init := (bg_up (bg_law (bi_wsL_law0_r4 _ (List.mem_of_getElem? (i := 7) rfl))))
theorem gX11_init_X5_init_n34 : GoodIn wsX11_init (wsX5_init) := (bg_up (bg_law (bi_wsL_law0_r4 _ (List.mem_of_getElem? (i := 7) rfl))))
theorem ggX11_init_X2_init : GoodIn wsX11_init wsX2_init := (bg_up (bg_law (bi_wsL_law0_r4 _ (List.mem_of_getElem? (i := 22) rfl))))
theorem gX11_init_X2_init_n41 : GoodIn wsX11_init (wsX2_init) := (bg_up (bg_law (bi_wsL_law0_r4 _ (List.mem_of_getElem? (i := 22) rfl))))
theorem ggX11_init_X9_init : GoodIn wsX11_init wsX9_init := (bg_up (bg_law (bi_wsL_law0_r5 _ (List.mem_of_getElem? (i := 9) rfl))))
theorem gX11_init_X9_init : GoodIn wsX11_init (wsX9_init) := (bg_up (bg_law (bi_wsL_law0_r5 _ (List.mem_of_getElem? (i := 9) rfl))))
theorem ggX11_init_X3_init : GoodIn wsX11_init wsX3_init := (bg_up (bg_law (bi_wsL_law0_r5 _ (List.mem_of_getElem? (i := 15) rfl))))
theorem gX11_init_X3_init_n60 : GoodIn wsX11_init (wsX3_init) := (bg_up (bg_law (bi_wsL_law0_r5 _ (List.mem_of_getElem? (i := 15) rfl))))
theorem ggX11_init_X0_init : GoodIn wsX11_init wsX0_init := (bg_up (bg_law (bi_wsL_law0_r5 _ (List.mem_of_getElem? (i := 19) rfl))))
theorem gX11_init_X0_init_n67 : GoodIn wsX11_init (wsX0_init) := (bg_up (bg_law (bi_wsL_law0_r5 _ (List.mem_of_getElem? (i := 19) rfl))))
theorem ggX11_init_X8_init : GoodIn wsX11_init wsX8_init := (bg_up (bg_law (bi_wsL_law0_r6 _ (List.mem_of_getElem? (i := 0) rfl))))
theorem gX11_init_X8_init : GoodIn wsX11_init (wsX8_init) := (bg_up (bg_law (bi_wsL_law0_r6 _ (List.mem_of_getElem? (i := 0) rfl))))
theorem ggX11_init_X4_init : GoodIn wsX11_init wsX4_init := (bg_up (bg_law (bi_wsL_law0_r6 _ (List.mem_of_getElem? (i := 11) rfl))))
theorem gX11_init_X4_init : GoodIn wsX11_init (wsX4_init) := (bg_up (bg_law (bi_wsL_law0_r6 _ (List.mem_of_getElem? (i := 11) rfl))))
theorem ggX11_init_X7_init : GoodIn wsX11_init wsX7_init := (bg_up (bg_law (bi_wsL_law0_r6 _ (List.mem_of_getElem? (i := 17) rfl))))
theorem gX11_init_X7_init_n96 : GoodIn wsX11_init (wsX7_init) := (bg_up (bg_law (bi_wsL_law0_r6 _ (List.mem_of_getElem? (i := 17) rfl))))
theorem dX11_init_204 : decode cX11_init 204 = .ok (.newarray .int, 2) := by decide +kernel
def ztdX11_init_0 : List (Nat × Instr × Nat) := [(0, .aload_n 0, 1), (1, .invokespecial 1, 3), (4, .aload_n 0, 1), (5, .new 7, 3), (8, .dup, 1), (9, .invokespecial 9, 3), (12, .putfield 10, 3), (15, .aload_n 0, 1), (16, .new 16, 3), (19, .dup, 1), (20, .aload_n 0, 1), (21, .getfield 10, 3), (24, .invokespecial 18, 3), (27, .putfield 21, 3), (30, .aload_n 0, 1), (31, .new 25, 3), (34, .dup, 1), (35, .aload_n 0, 1), (36, .getfield 10, 3), (39, .invokespecial 27, 3), (42, .putfield 28, 3), (45, .aload_n 0, 1), (46, .new 32, 3), (49, .dup, 1)]
theorem zhdX11_init_0 : dzC ztdX11_init_0 0 (cX11_init.data.toList.drop 0) = true := by decide +kernel
theorem dX11_init_0 : decode cX11_init 0 = .ok (.aload_n 0, 1) := dzr zhdX11_init_0 0 rfl
theorem dX11_init_1 : decode cX11_init 1 = .ok (.invokespecial 1, 3) := dzr zhdX11_init_0 1 rfl
theorem dX11_init_4 : decode cX11_init 4 = .ok (.aload_n 0, 1) := dzr zhdX11_init_0 2 rfl
theorem dX11_init_5 : decode cX11_init 5 = .ok (.new 7, 3) := dzr zhdX11_init_0 3 rfl
theorem dX11_init_8 : decode cX11_init 8 = .ok (.dup, 1) := dzr zhdX11_init_0 4 rfl
theorem dX11_init_9 : decode cX11_init 9 = .ok (.invokespecial 9, 3) := dzr zhdX11_init_0 5 rfl
theorem dX11_init_12 : decode cX11_init 12 = .ok (.putfield 10, 3) := dzr zhdX11_init_0 6 rfl
theorem dX11_init_15 : decode cX11_init 15 = .ok (.aload_n 0, 1) := dzr zhdX11_init_0 7 rfl
theorem dX11_init_16 : decode cX11_init 16 = .ok (.new 16, 3) := dzr zhdX11_init_0 8 rfl
theorem dX11_init_19 : decode cX11_init 19 = .ok (.dup, 1) := dzr zhdX11_init_0 9 rfl
theorem dX11_init_20 : decode cX11_init 20 = .ok (.aload_n 0, 1) := dzr zhdX11_init_0 10 rfl
theorem dX11_init_21 : decode cX11_init 21 = .ok (.getfield 10, 3) := dzr zhdX11_init_0 11 rfl
theorem dX11_init_24 : decode cX11_init 24 = .ok (.invokespecial 18, 3) := dzr zhdX11_init_0 12 rfl
theorem dX11_init_27 : decode cX11_init 27 = .ok (.putfield 21, 3) := dzr zhdX11_init_0 13 rfl
theorem dX11_init_30 : decode cX11_init 30 = .ok (.aload_n 0, 1) := dzr zhdX11_init_0 14 rfl
theorem dX11_init_31 : decode cX11_init 31 = .ok (.new 25, 3) := dzr zhdX11_init_0 15 rfl
theorem dX11_init_34 : decode cX11_init 34 = .ok (.dup, 1) := dzr zhdX11_init_0 16 rfl
theorem dX11_init_35 : decode cX11_init 35 = .ok (.aload_n 0, 1) := dzr zhdX11_init_0 17 rfl
theorem dX11_init_36 : decode cX11_init 36 = .ok (.getfield 10, 3) := dzr zhdX11_init_0 18 rfl
theorem dX11_init_39 : decode cX11_init 39 = .ok (.invokespecial 27, 3) := dzr zhdX11_init_0 19 rfl
theorem dX11_init_42 : decode cX11_init 42 = .ok (.putfield 28, 3) := dzr zhdX11_init_0 20 rfl
theorem dX11_init_45 : decode cX11_init 45 = .ok (.aload_n 0, 1) := dzr zhdX11_init_0 21 rfl
theorem dX11_init_46 : decode cX11_init 46 = .ok (.new 32, 3) := dzr zhdX11_init_0 22 rfl
theorem dX11_init_49 : decode cX11_init 49 = .ok (.dup, 1) := dzr zhdX11_init_0 23 rfl
def ztdX11_init_50 : List (Nat × Instr × Nat) := [(50, .invokespecial 34, 3), (53, .putfield 35, 3), (56, .aload_n 0, 1), (57, .new 39, 3), (60, .dup, 1), (61, .invokespecial 41, 3), (64, .putfield 42, 3), (67, .aload_n 0, 1), (68, .new 46, 3), (71, .dup, 1), (72, .aload_n 0, 1), (73, .getfield 35, 3), (76, .aload_n 0, 1), (77, .getfield 42, 3), (80, .invokespecial 48, 3), (83, .putfield 51, 3), (86, .aload_n 0, 1), (87, .new 46, 3), (90, .dup, 1), (91, .aload_n 0, 1), (92, .getfield 35, 3), (95, .aload_n 0, 1), (96, .getfield 42, 3), (99, .invokespecial 48, 3)]
theorem zhdX11_init_50 : dzC ztdX11_init_50 50 (cX11_init.data.toList.drop 50) = true := by decide +kernel
theorem dX11_init_50 : decode cX11_init 50 = .ok (.invokespecial 34, 3) := dzr zhdX11_init_50 0 rfl
theorem dX11_init_53 : decode cX11_init 53 = .ok (.putfield 35, 3) := dzr zhdX11_init_50 1 rfl
theorem dX11_init_56 : decode cX11_init 56 = .ok (.aload_n 0, 1) := dzr zhdX11_init_50 2 rfl
theorem dX11_init_57 : decode cX11_init 57 = .ok (.new 39, 3) := dzr zhdX11_init_50 3 rfl
theorem dX11_init_60 : decode cX11_init 60 = .ok (.dup, 1) := dzr zhdX11_init_50 4 rfl
theorem dX11_init_61 : decode cX11_init 61 = .ok (.invokespecial 41, 3) := dzr zhdX11_init_50 5 rfl
theorem dX11_init_64 : decode cX11_init 64 = .ok (.putfield 42, 3) := dzr zhdX11_init_50 6 rfl
theorem dX11_init_67 : decode cX11_init 67 = .ok (.aload_n 0, 1) := dzr zhdX11_init_50 7 rfl
theorem dX11_init_68 : decode cX11_init 68 = .ok (.new 46, 3) := dzr zhdX11_init_50 8 rfl
theorem dX11_init_71 : decode cX11_init 71 = .ok (.dup, 1) := dzr zhdX11_init_50 9 rfl
theorem dX11_init_72 : decode cX11_init 72 = .ok (.aload_n 0, 1) := dzr zhdX11_init_50 10 rfl
theorem dX11_init_73 : decode cX11_init 73 = .ok (.getfield 35, 3) := dzr zhdX11_init_50 11 rfl
theorem dX11_init_76 : decode cX11_init 76 = .ok (.aload_n 0, 1) := dzr zhdX11_init_50 12 rfl
theorem dX11_init_77 : decode cX11_init 77 = .ok (.getfield 42, 3) := dzr zhdX11_init_50 13 rfl
theorem dX11_init_80 : decode cX11_init 80 = .ok (.invokespecial 48, 3) := dzr zhdX11_init_50 14 rfl
theorem dX11_init_83 : decode cX11_init 83 = .ok (.putfield 51, 3) := dzr zhdX11_init_50 15 rfl
theorem dX11_init_86 : decode cX11_init 86 = .ok (.aload_n 0, 1) := dzr zhdX11_init_50 16 rfl
theorem dX11_init_87 : decode cX11_init 87 = .ok (.new 46, 3) := dzr zhdX11_init_50 17 rfl
theorem dX11_init_90 : decode cX11_init 90 = .ok (.dup, 1) := dzr zhdX11_init_50 18 rfl
theorem dX11_init_91 : decode cX11_init 91 = .ok (.aload_n 0, 1) := dzr zhdX11_init_50 19 rfl
theorem dX11_init_92 : decode cX11_init 92 = .ok (.getfield 35, 3) := dzr zhdX11_init_50 20 rfl
theorem dX11_init_95 : decode cX11_init 95 = .ok (.aload_n 0, 1) := dzr zhdX11_init_50 21 rfl
theorem dX11_init_96 : decode cX11_init 96 = .ok (.getfield 42, 3) := dzr zhdX11_init_50 22 rfl
theorem dX11_init_99 : decode cX11_init 99 = .ok (.invokespecial 48, 3) := dzr zhdX11_init_50 23 rfl
def ztdX11_init_102 : List (Nat × Instr × Nat) := [(102, .putfield 55, 3), (105, .aload_n 0, 1), (106, .new 58, 3), (109, .dup, 1), (110, .invokespecial 60, 3), (113, .putfield 61, 3), (116, .aload_n 0, 1), (117, .new 65, 3), (120, .dup, 1), (121, .invokespecial 67, 3), (124, .putfield 68, 3), (127, .aload_n 0, 1), (128, .new 46, 3), (131, .dup, 1), (132, .aload_n 0, 1), (133, .getfield 35, 3), (136, .aload_n 0, 1), (137, .getfield 42, 3), (140, .invokespecial 48, 3), (143, .putfield 72, 3), (146, .aload_n 0, 1), (147, .new 58, 3), (150, .dup, 1), (151, .invokespecial 60, 3)]
theorem zhdX11_init_102 : dzC ztdX11_init_102 102 (cX11_init.data.toList.drop 102) = true := by decide +kernel
theorem dX11_init_102 : decode cX11_init 102 = .ok (.putfield 55, 3) := dzr zhdX11_init_102 0 rfl
theorem dX11_init_105 : decode cX11_init 105 = .ok (.aload_n 0, 1) := dzr zhdX11_init_102 1 rfl
theorem dX11_init_106 : decode cX11_init 106 = .ok (.new 58, 3) := dzr zhdX11_init_102 2 rfl
theorem dX11_init_109 : decode cX11_init 109 = .ok (.dup, 1) := dzr zhdX11_init_102 3 rfl
theorem dX11_init_110 : decode cX11_init 110 = .ok (.invokespecial 60, 3) := dzr zhdX11_init_102 4 rfl
theorem dX11_init_113 : decode cX11_init 113 = .ok (.putfield 61, 3) := dzr zhdX11_init_102 5 rfl
theorem dX11_init_116 : decode cX11_init 116 = .ok (.aload_n 0, 1) := dzr zhdX11_init_102 6 rfl
theorem dX11_init_117 : decode cX11_init 117 = .ok (.new 65, 3) := dzr zhdX11_init_102 7 rfl
theorem dX11_init_120 : decode cX11_init 120 = .ok (.dup, 1) := dzr zhdX11_init_102 8 rfl
theorem dX11_init_121 : decode cX11_init 121 = .ok (.invokespecial 67, 3) := dzr zhdX11_init_102 9 rfl
theorem dX11_init_124 : decode cX11_init 124 = .ok (.putfield 68, 3) := dzr zhdX11_init_102 10 rfl
theorem dX11_init_127 : decode cX11_init 127 = .ok (.aload_n 0, 1) := dzr zhdX11_init_102 11 rfl
theorem dX11_init_128 : decode cX11_init 128 = .ok (.new 46, 3) := dzr zhdX11_init_102 12 rfl
theorem dX11_init_131 : decode cX11_init 131 = .ok (.dup, 1) := dzr zhdX11_init_102 13 rfl
theorem dX11_init_132 : decode cX11_init 132 = .ok (.aload_n 0, 1) := dzr zhdX11_init_102 14 rfl
theorem dX11_init_133 : decode cX11_init 133 = .ok (.getfield 35, 3) := dzr zhdX11_init_102 15 rfl
theorem dX11_init_136 : decode cX11_init 136 = .ok (.aload_n 0, 1) := dzr zhdX11_init_102 16 rfl
theorem dX11_init_137 : decode cX11_init 137 = .ok (.getfield 42, 3) := dzr zhdX11_init_102 17 rfl
theorem dX11_init_140 : decode cX11_init 140 = .ok (.invokespecial 48, 3) := dzr zhdX11_init_102 18 rfl
theorem dX11_init_143 : decode cX11_init 143 = .ok (.putfield 72, 3) := dzr zhdX11_init_102 19 rfl
theorem dX11_init_146 : decode cX11_init 146 = .ok (.aload_n 0, 1) := dzr zhdX11_init_102 20 rfl
theorem dX11_init_147 : decode cX11_init 147 = .ok (.new 58, 3) := dzr zhdX11_init_102 21 rfl
theorem dX11_init_150 : decode cX11_init 150 = .ok (.dup, 1) := dzr zhdX11_init_102 22 rfl
theorem dX11_init_151 : decode cX11_init 151 = .ok (.invokespecial 60, 3) := dzr zhdX11_init_102 23 rfl
def ztdX11_init_154 : List (Nat × Instr × Nat) := [(154, .putfield 75, 3), (157, .aload_n 0, 1), (158, .new 78, 3), (161, .dup, 1), (162, .aload_n 0, 1), (163, .getfield 35, 3), (166, .aload_n 0, 1), (167, .getfield 42, 3), (170, .invokespecial 80, 3), (173, .putfield 81, 3), (176, .aload_n 0, 1), (177, .new 85, 3), (180, .dup, 1), (181, .aload_n 0, 1), (182, .getfield 35, 3), (185, .invokespecial 87, 3), (188, .putfield 90, 3), (191, .aload_n 0, 1), (192, .new 94, 3), (195, .dup, 1), (196, .invokespecial 96, 3), (199, .putfield 97, 3), (202, .aload_n 0, 1), (203, .iconst 5, 1)]
theorem zhdX11_init_154 : dzC ztdX11_init_154 154 (cX11_init.data.toList.drop 154) = true := by decide +kernel
theorem dX11_init_154 : decode cX11_init 154 = .ok (.putfield 75, 3) := dzr zhdX11_init_154 0 rfl
theorem dX11_init_157 : decode cX11_init 157 = .ok (.aload_n 0, 1) := dzr zhdX11_init_154 1 rfl
theorem dX11_init_158 : decode cX11_init 158 = .ok (.new 78, 3) := dzr zhdX11_init_154 2 rfl
theorem dX11_init_161 : decode cX11_init 161 = .ok (.dup, 1) := dzr zhdX11_init_154 3 rfl
theorem dX11_init_162 : decode cX11_init 162 = .ok (.aload_n 0, 1) := dzr zhdX11_init_154 4 rfl
theorem dX11_init_163 : decode cX11_init 163 = .ok (.getfield 35, 3) := dzr zhdX11_init_154 5 rfl
theorem dX11_init_166 : decode cX11_init 166 = .ok (.aload_n 0, 1) := dzr zhdX11_init_154 6 rfl
theorem dX11_init_167 : decode cX11_init 167 = .ok (.getfield 42, 3) := dzr zhdX11_init_154 7 rfl
theorem dX11_init_170 : decode cX11_init 170 = .ok (.invokespecial 80, 3) := dzr zhdX11_init_154 8 rfl
theorem dX11_init_173 : decode cX11_init 173 = .ok (.putfield 81, 3) := dzr zhdX11_init_154 9 rfl
theorem dX11_init_176 : decode cX11_init 176 = .ok (.aload_n 0, 1) := dzr zhdX11_init_154 10 rfl
theorem dX11_init_177 : decode cX11_init 177 = .ok (.new 85, 3) := dzr zhdX11_init_154 11 rfl
theorem dX11_init_180 : decode cX11_init 180 = .ok (.dup, 1) := dzr zhdX11_init_154 12 rfl
theorem dX11_init_181 : decode cX11_init 181 = .ok (.aload_n 0, 1) := dzr zhdX11_init_154 13 rfl
theorem dX11_init_182 : decode cX11_init 182 = .ok (.getfield 35, 3) := dzr zhdX11_init_154 14 rfl
theorem dX11_init_185 : decode cX11_init 185 = .ok (.invokespecial 87, 3) := dzr zhdX11_init_154 15 rfl
theorem dX11_init_188 : decode cX11_init 188 = .ok (.putfield 90, 3) := dzr zhdX11_init_154 16 rfl
theorem dX11_init_191 : decode cX11_init 191 = .ok (.aload_n 0, 1) := dzr zhdX11_init_154 17 rfl
theorem dX11_init_192 : decode cX11_init 192 = .ok (.new 94, 3) := dzr zhdX11_init_154 18 rfl
theorem dX11_init_195 : decode cX11_init 195 = .ok (.dup, 1) := dzr zhdX11_init_154 19 rfl
theorem dX11_init_196 : decode cX11_init 196 = .ok (.invokespecial 96, 3) := dzr zhdX11_init_154 20 rfl
theorem dX11_init_199 : decode cX11_init 199 = .ok (.putfield 97, 3) := dzr zhdX11_init_154 21 rfl
theorem dX11_init_202 : decode cX11_init 202 = .ok (.aload_n 0, 1) := dzr zhdX11_init_154 22 rfl
theorem dX11_init_203 : decode cX11_init 203 = .ok (.iconst 5, 1) := dzr zhdX11_init_154 23 rfl
def ztdX11_init_206 : List (Nat × Instr × Nat) := [(206, .putfield 101, 3), (209, .aload_n 0, 1), (210, .iconst 0, 1), (211, .putfield 105, 3), (214, .aload_n 0, 1), (215, .iconst 1, 1), (216, .putfield 109, 3), (219, .aload_n 0, 1), (220, .lconst 0, 1), (221, .putfield 113, 3), (224, .return_, 1)]
theorem zhdX11_init_206 : dzC ztdX11_init_206 206 (cX11_init.data.toList.drop 206) = true := by decide +kernel
theorem dX11_init_206 : decode cX11_init 206 = .ok (.putfield 101, 3) := dzr zhdX11_init_206 0 rfl
theorem dX11_init_209 : decode cX11_init 209 = .ok (.aload_n 0, 1) := dzr zhdX11_init_206 1 rfl
theorem dX11_init_210 : decode cX11_init 210 = .ok (.iconst 0, 1) := dzr zhdX11_init_206 2 rfl
theorem dX11_init_211 : decode cX11_init 211 = .ok (.putfield 105, 3) := dzr zhdX11_init_206 3 rfl
theorem dX11_init_214 : decode cX11_init 214 = .ok (.aload_n 0, 1) := dzr zhdX11_init_206 4 rfl
theorem dX11_init_215 : decode cX11_init 215 = .ok (.iconst 1, 1) := dzr zhdX11_init_206 5 rfl
theorem dX11_init_216 : decode cX11_init 216 = .ok (.putfield 109, 3) := dzr zhdX11_init_206 6 rfl
theorem dX11_init_219 : decode cX11_init 219 = .ok (.aload_n 0, 1) := dzr zhdX11_init_206 7 rfl
theorem dX11_init_220 : decode cX11_init 220 = .ok (.lconst 0, 1) := dzr zhdX11_init_206 8 rfl
theorem dX11_init_221 : decode cX11_init 221 = .ok (.putfield 113, 3) := dzr zhdX11_init_206 9 rfl
theorem dX11_init_224 : decode cX11_init 224 = .ok (.return_, 1) := dzr zhdX11_init_206 10 rfl
theorem ggX11_feed_X10_bytesOf : GoodIn wsX11_feed wsX10_bytesOf := (bg_up (bg_law (bi_wsL_law0_r8 _ (List.mem_of_getElem? (i := 10) rfl))))
theorem gX11_feed_X10_bytesOf : GoodIn wsX11_feed (va_wsS RX11 117 yX10_bytesOf wsX10_bytesOf) := goodIn_app (bg_up (bg_cons (bi_wsL_law0_r8 _ (List.mem_of_getElem? (i := 8) rfl)) (bg_cons (bi_wsL_law0_r8 _ (List.mem_of_getElem? (i := 9) rfl)) (bg_cons (bi_wsL_law0_r1 _ (List.mem_of_getElem? (i := 16) rfl)) bg_nil)))) (bg_up (bg_law (bi_wsL_law0_r8 _ (List.mem_of_getElem? (i := 10) rfl))))
theorem ggX11_feed_X10_put : GoodIn wsX11_feed wsX10_put := (bg_up (bg_law (bi_wsL_law0_r8 _ (List.mem_of_getElem? (i := 14) rfl))))
theorem gX11_feed_X10_put : GoodIn wsX11_feed (wsV RX11 124 RX10 yX10_put wsX10_put) := goodIn_app (bg_up (bg_cons (bi_wsL_law0_r8 _ (List.mem_of_getElem? (i := 11) rfl)) (bg_cons (bi_wsL_law0_r8 _ (List.mem_of_getElem? (i := 12) rfl)) (bg_cons (bi_wsL_law0_r8 _ (List.mem_of_getElem? (i := 13) rfl)) (bg_cons (bi_wsL_law0_r1 _ (List.mem_of_getElem? (i := 16) rfl)) bg_nil))))) (bg_up (bg_law (bi_wsL_law0_r8 _ (List.mem_of_getElem? (i := 14) rfl))))
def ztdX11_feed_0 : List (Nat × Instr × Nat) := [(0, .iload_n 1, 1), (1, .invokestatic 117, 3), (4, .iload_n 2, 1), (5, .invokestatic 117, 3), (8, .iadd, 1), (9, .iload_n 3, 1), (10, .invokestatic 117, 3), (13, .iadd, 1), (14, .iload 4, 2), (16, .invokestatic 117, 3), (19, .iadd, 1), (20, .iload 5, 2), (22, .invokestatic 117, 3), (25, .iadd, 1), (26, .istore 6, 2), (28, .aload_n 0, 1), (29, .getfield 10, 3), (32, .getfield 121, 3), (35, .iload 6, 2), (37, .iadd, 1), (38, .sipush 240, 3), (41, .if_icmp .le 5, 3), (44, .iconst (-1), 1), (45, .ireturn, 1)]
theorem zhdX11_feed_0 : dzC ztdX11_feed_0 0 (cX11_feed.data.toList.drop 0) = true := by decide +kernel
theorem dX11_feed_0 : decode cX11_feed 0 = .ok (.iload_n 1, 1) := dzr zhdX11_feed_0 0 rfl
theorem dX11_feed_1 : decode cX11_feed 1 = .ok (.invokestatic 117, 3) := dzr zhdX11_feed_0 1 rfl
theorem dX11_feed_4 : decode cX11_feed 4 = .ok (.iload_n 2, 1) := dzr zhdX11_feed_0 2 rfl
theorem dX11_feed_5 : decode cX11_feed 5 = .ok (.invokestatic 117, 3) := dzr zhdX11_feed_0 3 rfl
theorem dX11_feed_8 : decode cX11_feed 8 = .ok (.iadd, 1) := dzr zhdX11_feed_0 4 rfl
theorem dX11_feed_9 : decode cX11_feed 9 = .ok (.iload_n 3, 1) := dzr zhdX11_feed_0 5 rfl
theorem dX11_feed_10 : decode cX11_feed 10 = .ok (.invokestatic 117, 3) := dzr zhdX11_feed_0 6 rfl
theorem dX11_feed_13 : decode cX11_feed 13 = .ok (.iadd, 1) := dzr zhdX11_feed_0 7 rfl
theorem dX11_feed_14 : decode cX11_feed 14 = .ok (.iload 4, 2) := dzr zhdX11_feed_0 8 rfl
theorem dX11_feed_16 : decode cX11_feed 16 = .ok (.invokestatic 117, 3) := dzr zhdX11_feed_0 9 rfl
theorem dX11_feed_19 : decode cX11_feed 19 = .ok (.iadd, 1) := dzr zhdX11_feed_0 10 rfl
theorem dX11_feed_20 : decode cX11_feed 20 = .ok (.iload 5, 2) := dzr zhdX11_feed_0 11 rfl
theorem dX11_feed_22 : decode cX11_feed 22 = .ok (.invokestatic 117, 3) := dzr zhdX11_feed_0 12 rfl
theorem dX11_feed_25 : decode cX11_feed 25 = .ok (.iadd, 1) := dzr zhdX11_feed_0 13 rfl
theorem dX11_feed_26 : decode cX11_feed 26 = .ok (.istore 6, 2) := dzr zhdX11_feed_0 14 rfl
theorem dX11_feed_28 : decode cX11_feed 28 = .ok (.aload_n 0, 1) := dzr zhdX11_feed_0 15 rfl
theorem dX11_feed_29 : decode cX11_feed 29 = .ok (.getfield 10, 3) := dzr zhdX11_feed_0 16 rfl
theorem dX11_feed_32 : decode cX11_feed 32 = .ok (.getfield 121, 3) := dzr zhdX11_feed_0 17 rfl
theorem dX11_feed_35 : decode cX11_feed 35 = .ok (.iload 6, 2) := dzr zhdX11_feed_0 18 rfl
theorem dX11_feed_37 : decode cX11_feed 37 = .ok (.iadd, 1) := dzr zhdX11_feed_0 19 rfl
theorem dX11_feed_38 : decode cX11_feed 38 = .ok (.sipush 240, 3) := dzr zhdX11_feed_0 20 rfl
theorem dX11_feed_41 : decode cX11_feed 41 = .ok (.if_icmp .le 5, 3) := dzr zhdX11_feed_0 21 rfl
theorem dX11_feed_44 : decode cX11_feed 44 = .ok (.iconst (-1), 1) := dzr zhdX11_feed_0 22 rfl
theorem dX11_feed_45 : decode cX11_feed 45 = .ok (.ireturn, 1) := dzr zhdX11_feed_0 23 rfl
def ztdX11_feed_46 : List (Nat × Instr × Nat) := [(46, .aload_n 0, 1), (47, .getfield 10, 3), (50, .iload_n 1, 1), (51, .invokevirtual 124, 3), (54, .aload_n 0, 1), (55, .getfield 10, 3), (58, .iload_n 2, 1), (59, .invokevirtual 124, 3), (62, .aload_n 0, 1), (63, .getfield 10, 3), (66, .iload_n 3, 1), (67, .invokevirtual 124, 3), (70, .aload_n 0, 1), (71, .getfield 10, 3), (74, .iload 4, 2), (76, .invokevirtual 124, 3), (79, .aload_n 0, 1), (80, .getfield 10, 3), (83, .iload 5, 2), (85, .invokevirtual 124, 3), (88, .aload_n 0, 1), (89, .getfield 10, 3), (92, .getfield 121, 3), (95, .ireturn, 1)]
theorem zhdX11_feed_46 : dzC ztdX11_feed_46 46 (cX11_feed.data.toList.drop 46) = true := by decide +kernel
theorem dX11_feed_46 : decode cX11_feed 46 = .ok (.aload_n 0, 1) := dzr zhdX11_feed_46 0 rfl
theorem dX11_feed_47 : decode cX11_feed 47 = .ok (.getfield 10, 3) := dzr zhdX11_feed_46 1 rfl
theorem dX11_feed_50 : decode cX11_feed 50 = .ok (.iload_n 1, 1) := dzr zhdX11_feed_46 2 rfl
theorem dX11_feed_51 : decode cX11_feed 51 = .ok (.invokevirtual 124, 3) := dzr zhdX11_feed_46 3 rfl
theorem dX11_feed_54 : decode cX11_feed 54 = .ok (.aload_n 0, 1) := dzr zhdX11_feed_46 4 rfl
theorem dX11_feed_55 : decode cX11_feed 55 = .ok (.getfield 10, 3) := dzr zhdX11_feed_46 5 rfl
theorem dX11_feed_58 : decode cX11_feed 58 = .ok (.iload_n 2, 1) := dzr zhdX11_feed_46 6 rfl
theorem dX11_feed_59 : decode cX11_feed 59 = .ok (.invokevirtual 124, 3) := dzr zhdX11_feed_46 7 rfl
theorem dX11_feed_62 : decode cX11_feed 62 = .ok (.aload_n 0, 1) := dzr zhdX11_feed_46 8 rfl
theorem dX11_feed_63 : decode cX11_feed 63 = .ok (.getfield 10, 3) := dzr zhdX11_feed_46 9 rfl
theorem dX11_feed_66 : decode cX11_feed 66 = .ok (.iload_n 3, 1) := dzr zhdX11_feed_46 10 rfl
theorem dX11_feed_67 : decode cX11_feed 67 = .ok (.invokevirtual 124, 3) := dzr zhdX11_feed_46 11 rfl
theorem dX11_feed_70 : decode cX11_feed 70 = .ok (.aload_n 0, 1) := dzr zhdX11_feed_46 12 rfl
theorem dX11_feed_71 : decode cX11_feed 71 = .ok (.getfield 10, 3) := dzr zhdX11_feed_46 13 rfl
theorem dX11_feed_74 : decode cX11_feed 74 = .ok (.iload 4, 2) := dzr zhdX11_feed_46 14 rfl
theorem dX11_feed_76 : decode cX11_feed 76 = .ok (.invokevirtual 124, 3) := dzr zhdX11_feed_46 15 rfl
theorem dX11_feed_79 : decode cX11_feed 79 = .ok (.aload_n 0, 1) := dzr zhdX11_feed_46 16 rfl
theorem dX11_feed_80 : decode cX11_feed 80 = .ok (.getfield 10, 3) := dzr zhdX11_feed_46 17 rfl
theorem dX11_feed_83 : decode cX11_feed 83 = .ok (.iload 5, 2) := dzr zhdX11_feed_46 18 rfl
theorem dX11_feed_85 : decode cX11_feed 85 = .ok (.invokevirtual 124, 3) := dzr zhdX11_feed_46 19 rfl
theorem dX11_feed_88 : decode cX11_feed 88 = .ok (.aload_n 0, 1) := dzr zhdX11_feed_46 20 rfl
theorem dX11_feed_89 : decode cX11_feed 89 = .ok (.getfield 10, 3) := dzr zhdX11_feed_46 21 rfl
theorem dX11_feed_92 : decode cX11_feed 92 = .ok (.getfield 121, 3) := dzr zhdX11_feed_46 22 rfl
theorem dX11_feed_95 : decode cX11_feed 95 = .ok (.ireturn, 1) := dzr zhdX11_feed_46 23 rfl
def ztdX11_end_0 : List (Nat × Instr × Nat) := [(0, .iload_n 1, 1), (1, .ifCond .lt 14, 3), (4, .iload_n 1, 1), (5, .aload_n 0, 1), (6, .getfield 10, 3), (9, .getfield 121, 3), (12, .if_icmp .le 5, 3), (15, .iconst 0, 1), (16, .ireturn, 1), (17, .aload_n 0, 1), (18, .getfield 10, 3), (21, .iload_n 1, 1), (22, .putfield 121, 3), (25, .iconst 1, 1), (26, .ireturn, 1)]
theorem zhdX11_end_0 : dzC ztdX11_end_0 0 (cX11_end.data.toList.drop 0) = true := by decide +kernel
theorem dX11_end_0 : decode cX11_end 0 = .ok (.iload_n 1, 1) := dzr zhdX11_end_0 0 rfl
theorem dX11_end_1 : decode cX11_end 1 = .ok (.ifCond .lt 14, 3) := dzr zhdX11_end_0 1 rfl
theorem dX11_end_4 : decode cX11_end 4 = .ok (.iload_n 1, 1) := dzr zhdX11_end_0 2 rfl
theorem dX11_end_5 : decode cX11_end 5 = .ok (.aload_n 0, 1) := dzr zhdX11_end_0 3 rfl
theorem dX11_end_6 : decode cX11_end 6 = .ok (.getfield 10, 3) := dzr zhdX11_end_0 4 rfl
theorem dX11_end_9 : decode cX11_end 9 = .ok (.getfield 121, 3) := dzr zhdX11_end_0 5 rfl
theorem dX11_end_12 : decode cX11_end 12 = .ok (.if_icmp .le 5, 3) := dzr zhdX11_end_0 6 rfl
theorem dX11_end_15 : decode cX11_end 15 = .ok (.iconst 0, 1) := dzr zhdX11_end_0 7 rfl
theorem dX11_end_16 : decode cX11_end 16 = .ok (.ireturn, 1) := dzr zhdX11_end_0 8 rfl
theorem dX11_end_17 : decode cX11_end 17 = .ok (.aload_n 0, 1) := dzr zhdX11_end_0 9 rfl
theorem dX11_end_18 : decode cX11_end 18 = .ok (.getfield 10, 3) := dzr zhdX11_end_0 10 rfl
theorem dX11_end_21 : decode cX11_end 21 = .ok (.iload_n 1, 1) := dzr zhdX11_end_0 11 rfl
theorem dX11_end_22 : decode cX11_end 22 = .ok (.putfield 121, 3) := dzr zhdX11_end_0 12 rfl
theorem dX11_end_25 : decode cX11_end 25 = .ok (.iconst 1, 1) := dzr zhdX11_end_0 13 rfl
theorem dX11_end_26 : decode cX11_end 26 = .ok (.ireturn, 1) := dzr zhdX11_end_0 14 rfl
theorem ggX11_fault_X6_readsAll : GoodIn wsX11_fault wsX6_readsAll := (bg_up (bg_law (bi_wsL_law0_r9 _ (List.mem_of_getElem? (i := 16) rfl))))
theorem gX11_fault_X6_readsAll : GoodIn wsX11_fault (wsV RX11 128 RX6 yX6_readsAll wsX6_readsAll) := goodIn_app (bg_up (bg_cons (bi_wsL_law0_r9 _ (List.mem_of_getElem? (i := 13) rfl)) (bg_cons (bi_wsL_law0_r9 _ (List.mem_of_getElem? (i := 14) rfl)) (bg_cons (bi_wsL_law0_r9 _ (List.mem_of_getElem? (i := 15) rfl)) (bg_cons (bi_wsL_law0_r1 _ (List.mem_of_getElem? (i := 20) rfl)) bg_nil))))) (bg_up (bg_law (bi_wsL_law0_r9 _ (List.mem_of_getElem? (i := 16) rfl))))
theorem ggX11_fault_X1_readsAll : GoodIn wsX11_fault wsX1_readsAll := (bg_up (bg_law (bi_wsL_law0_r12 _ (List.mem_of_getElem? (i := 16) rfl))))
theorem gX11_fault_X1_readsAll : GoodIn wsX11_fault (wsV RX11 132 RX1 yX1_readsAll wsX1_readsAll) := goodIn_app (bg_up (bg_cons (bi_wsL_law0_r12 _ (List.mem_of_getElem? (i := 13) rfl)) (bg_cons (bi_wsL_law0_r12 _ (List.mem_of_getElem? (i := 14) rfl)) (bg_cons (bi_wsL_law0_r12 _ (List.mem_of_getElem? (i := 15) rfl)) (bg_cons (bi_wsL_law0_r2 _ (List.mem_of_getElem? (i := 0) rfl)) bg_nil))))) (bg_up (bg_law (bi_wsL_law0_r12 _ (List.mem_of_getElem? (i := 16) rfl))))
def ztdX11_fault_0 : List (Nat × Instr × Nat) := [(0, .iload_n 1, 1), (1, .ifCond .eq 11, 3), (4, .iload_n 1, 1), (5, .iconst 1, 1), (6, .if_icmp .eq 6, 3), (9, .bipush (-2), 2), (11, .ireturn, 1), (12, .iload_n 1, 1), (13, .ifCond .ne 13, 3), (16, .aload_n 0, 1), (17, .getfield 21, 3), (20, .invokevirtual 128, 3), (23, .goto 10, 3), (26, .aload_n 0, 1), (27, .getfield 28, 3), (30, .invokevirtual 132, 3), (33, .istore_n 2, 1), (34, .iload_n 2, 1), (35, .ifCond .eq 7, 3), (38, .iconst (-1), 1), (39, .goto 10, 3), (42, .aload_n 0, 1), (43, .getfield 10, 3), (46, .getfield 133, 3)]
theorem zhdX11_fault_0 : dzC ztdX11_fault_0 0 (cX11_fault.data.toList.drop 0) = true := by decide +kernel
theorem dX11_fault_0 : decode cX11_fault 0 = .ok (.iload_n 1, 1) := dzr zhdX11_fault_0 0 rfl
theorem dX11_fault_1 : decode cX11_fault 1 = .ok (.ifCond .eq 11, 3) := dzr zhdX11_fault_0 1 rfl
theorem dX11_fault_4 : decode cX11_fault 4 = .ok (.iload_n 1, 1) := dzr zhdX11_fault_0 2 rfl
theorem dX11_fault_5 : decode cX11_fault 5 = .ok (.iconst 1, 1) := dzr zhdX11_fault_0 3 rfl
theorem dX11_fault_6 : decode cX11_fault 6 = .ok (.if_icmp .eq 6, 3) := dzr zhdX11_fault_0 4 rfl
theorem dX11_fault_9 : decode cX11_fault 9 = .ok (.bipush (-2), 2) := dzr zhdX11_fault_0 5 rfl
theorem dX11_fault_11 : decode cX11_fault 11 = .ok (.ireturn, 1) := dzr zhdX11_fault_0 6 rfl
theorem dX11_fault_12 : decode cX11_fault 12 = .ok (.iload_n 1, 1) := dzr zhdX11_fault_0 7 rfl
theorem dX11_fault_13 : decode cX11_fault 13 = .ok (.ifCond .ne 13, 3) := dzr zhdX11_fault_0 8 rfl
theorem dX11_fault_16 : decode cX11_fault 16 = .ok (.aload_n 0, 1) := dzr zhdX11_fault_0 9 rfl
theorem dX11_fault_17 : decode cX11_fault 17 = .ok (.getfield 21, 3) := dzr zhdX11_fault_0 10 rfl
theorem dX11_fault_20 : decode cX11_fault 20 = .ok (.invokevirtual 128, 3) := dzr zhdX11_fault_0 11 rfl
theorem dX11_fault_23 : decode cX11_fault 23 = .ok (.goto 10, 3) := dzr zhdX11_fault_0 12 rfl
theorem dX11_fault_26 : decode cX11_fault 26 = .ok (.aload_n 0, 1) := dzr zhdX11_fault_0 13 rfl
theorem dX11_fault_27 : decode cX11_fault 27 = .ok (.getfield 28, 3) := dzr zhdX11_fault_0 14 rfl
theorem dX11_fault_30 : decode cX11_fault 30 = .ok (.invokevirtual 132, 3) := dzr zhdX11_fault_0 15 rfl
theorem dX11_fault_33 : decode cX11_fault 33 = .ok (.istore_n 2, 1) := dzr zhdX11_fault_0 16 rfl
theorem dX11_fault_34 : decode cX11_fault 34 = .ok (.iload_n 2, 1) := dzr zhdX11_fault_0 17 rfl
theorem dX11_fault_35 : decode cX11_fault 35 = .ok (.ifCond .eq 7, 3) := dzr zhdX11_fault_0 18 rfl
theorem dX11_fault_38 : decode cX11_fault 38 = .ok (.iconst (-1), 1) := dzr zhdX11_fault_0 19 rfl
theorem dX11_fault_39 : decode cX11_fault 39 = .ok (.goto 10, 3) := dzr zhdX11_fault_0 20 rfl
theorem dX11_fault_42 : decode cX11_fault 42 = .ok (.aload_n 0, 1) := dzr zhdX11_fault_0 21 rfl
theorem dX11_fault_43 : decode cX11_fault 43 = .ok (.getfield 10, 3) := dzr zhdX11_fault_0 22 rfl
theorem dX11_fault_46 : decode cX11_fault 46 = .ok (.getfield 133, 3) := dzr zhdX11_fault_0 23 rfl
def ztdX11_fault_49 : List (Nat × Instr × Nat) := [(49, .ireturn, 1)]
theorem zhdX11_fault_49 : dzC ztdX11_fault_49 49 (cX11_fault.data.toList.drop 49) = true := by decide +kernel
theorem dX11_fault_49 : decode cX11_fault 49 = .ok (.ireturn, 1) := dzr zhdX11_fault_49 0 rfl
theorem ggX11_text_X6_readsAll : GoodIn wsX11_text wsX6_readsAll := (bg_up (bg_law (bi_wsL_law0_r9 _ (List.mem_of_getElem? (i := 16) rfl))))
theorem gX11_text_X6_readsAll : GoodIn wsX11_text (wsV RX11 128 RX6 yX6_readsAll wsX6_readsAll) := goodIn_app (bg_up (bg_cons (bi_wsL_law0_r9 _ (List.mem_of_getElem? (i := 13) rfl)) (bg_cons (bi_wsL_law0_r9 _ (List.mem_of_getElem? (i := 14) rfl)) (bg_cons (bi_wsL_law0_r9 _ (List.mem_of_getElem? (i := 15) rfl)) (bg_cons (bi_wsL_law0_r1 _ (List.mem_of_getElem? (i := 20) rfl)) bg_nil))))) (bg_up (bg_law (bi_wsL_law0_r9 _ (List.mem_of_getElem? (i := 16) rfl))))
theorem ggX11_text_X11_takePeace : GoodIn wsX11_text wsX11_takePeace := (bg_up (bg_law (bi_wsL_law0_r20 _ (List.mem_of_getElem? (i := 9) rfl))))
theorem gX11_text_X11_takePeace : GoodIn wsX11_text (wsV RX11 136 RX11 yX11_takePeace wsX11_takePeace) := goodIn_app (bg_up (bg_cons (bi_wsL_law0_r20 _ (List.mem_of_getElem? (i := 6) rfl)) (bg_cons (bi_wsL_law0_r20 _ (List.mem_of_getElem? (i := 7) rfl)) (bg_cons (bi_wsL_law0_r20 _ (List.mem_of_getElem? (i := 8) rfl)) (bg_cons (bi_wsL_law0_r1 _ (List.mem_of_getElem? (i := 2) rfl)) bg_nil))))) (bg_up (bg_law (bi_wsL_law0_r20 _ (List.mem_of_getElem? (i := 9) rfl))))
theorem ggX11_text_X2_isFull : GoodIn wsX11_text wsX2_isFull := (bg_up (bg_law (bi_wsL_law0_r21 _ (List.mem_of_getElem? (i := 13) rfl))))
theorem gX11_text_X2_isFull : GoodIn wsX11_text (wsV RX11 140 RX2 yX2_isFull wsX2_isFull) := goodIn_app (bg_up (bg_cons (bi_wsL_law0_r21 _ (List.mem_of_getElem? (i := 10) rfl)) (bg_cons (bi_wsL_law0_r21 _ (List.mem_of_getElem? (i := 11) rfl)) (bg_cons (bi_wsL_law0_r21 _ (List.mem_of_getElem? (i := 12) rfl)) (bg_cons (bi_wsL_law0_r2 _ (List.mem_of_getElem? (i := 8) rfl)) bg_nil))))) (bg_up (bg_law (bi_wsL_law0_r21 _ (List.mem_of_getElem? (i := 13) rfl))))
theorem ggX11_text_X1_readsAll : GoodIn wsX11_text wsX1_readsAll := (bg_up (bg_law (bi_wsL_law0_r12 _ (List.mem_of_getElem? (i := 16) rfl))))
theorem gX11_text_X1_readsAll : GoodIn wsX11_text (wsV RX11 132 RX1 yX1_readsAll wsX1_readsAll) := goodIn_app (bg_up (bg_cons (bi_wsL_law0_r12 _ (List.mem_of_getElem? (i := 13) rfl)) (bg_cons (bi_wsL_law0_r12 _ (List.mem_of_getElem? (i := 14) rfl)) (bg_cons (bi_wsL_law0_r12 _ (List.mem_of_getElem? (i := 15) rfl)) (bg_cons (bi_wsL_law0_r2 _ (List.mem_of_getElem? (i := 0) rfl)) bg_nil))))) (bg_up (bg_law (bi_wsL_law0_r12 _ (List.mem_of_getElem? (i := 16) rfl))))
theorem ggX11_text_X11_takeLaw : GoodIn wsX11_text wsX11_takeLaw := (bg_up (bg_law (bi_wsL_law0_r21 _ (List.mem_of_getElem? (i := 18) rfl))))
theorem gX11_text_X11_takeLaw : GoodIn wsX11_text (wsV RX11 143 RX11 yX11_takeLaw wsX11_takeLaw) := goodIn_app (bg_up (bg_cons (bi_wsL_law0_r21 _ (List.mem_of_getElem? (i := 15) rfl)) (bg_cons (bi_wsL_law0_r21 _ (List.mem_of_getElem? (i := 16) rfl)) (bg_cons (bi_wsL_law0_r21 _ (List.mem_of_getElem? (i := 17) rfl)) (bg_cons (bi_wsL_law0_r1 _ (List.mem_of_getElem? (i := 2) rfl)) bg_nil))))) (bg_up (bg_law (bi_wsL_law0_r21 _ (List.mem_of_getElem? (i := 18) rfl))))
def ztdX11_text_0 : List (Nat × Instr × Nat) := [(0, .iload_n 1, 1), (1, .ifCond .ne 18, 3), (4, .aload_n 0, 1), (5, .getfield 21, 3), (8, .invokevirtual 128, 3), (11, .ifCond .eq 8, 3), (14, .aload_n 0, 1), (15, .invokevirtual 136, 3), (18, .ireturn, 1), (19, .iload_n 1, 1), (20, .iconst 1, 1), (21, .if_icmp .ne 30, 3), (24, .aload_n 0, 1), (25, .getfield 42, 3), (28, .invokevirtual 140, 3), (31, .ifCond .ne 20, 3), (34, .aload_n 0, 1), (35, .getfield 28, 3), (38, .invokevirtual 132, 3), (41, .ifCond .eq 10, 3), (44, .aload_n 0, 1), (45, .invokevirtual 143, 3), (48, .goto 4, 3), (51, .iconst (-1), 1)]
theorem zhdX11_text_0 : dzC ztdX11_text_0 0 (cX11_text.data.toList.drop 0) = true := by decide +kernel
theorem dX11_text_0 : decode cX11_text 0 = .ok (.iload_n 1, 1) := dzr zhdX11_text_0 0 rfl
theorem dX11_text_1 : decode cX11_text 1 = .ok (.ifCond .ne 18, 3) := dzr zhdX11_text_0 1 rfl
theorem dX11_text_4 : decode cX11_text 4 = .ok (.aload_n 0, 1) := dzr zhdX11_text_0 2 rfl
theorem dX11_text_5 : decode cX11_text 5 = .ok (.getfield 21, 3) := dzr zhdX11_text_0 3 rfl
theorem dX11_text_8 : decode cX11_text 8 = .ok (.invokevirtual 128, 3) := dzr zhdX11_text_0 4 rfl
theorem dX11_text_11 : decode cX11_text 11 = .ok (.ifCond .eq 8, 3) := dzr zhdX11_text_0 5 rfl
theorem dX11_text_14 : decode cX11_text 14 = .ok (.aload_n 0, 1) := dzr zhdX11_text_0 6 rfl
theorem dX11_text_15 : decode cX11_text 15 = .ok (.invokevirtual 136, 3) := dzr zhdX11_text_0 7 rfl
theorem dX11_text_18 : decode cX11_text 18 = .ok (.ireturn, 1) := dzr zhdX11_text_0 8 rfl
theorem dX11_text_19 : decode cX11_text 19 = .ok (.iload_n 1, 1) := dzr zhdX11_text_0 9 rfl
theorem dX11_text_20 : decode cX11_text 20 = .ok (.iconst 1, 1) := dzr zhdX11_text_0 10 rfl
theorem dX11_text_21 : decode cX11_text 21 = .ok (.if_icmp .ne 30, 3) := dzr zhdX11_text_0 11 rfl
theorem dX11_text_24 : decode cX11_text 24 = .ok (.aload_n 0, 1) := dzr zhdX11_text_0 12 rfl
theorem dX11_text_25 : decode cX11_text 25 = .ok (.getfield 42, 3) := dzr zhdX11_text_0 13 rfl
theorem dX11_text_28 : decode cX11_text 28 = .ok (.invokevirtual 140, 3) := dzr zhdX11_text_0 14 rfl
theorem dX11_text_31 : decode cX11_text 31 = .ok (.ifCond .ne 20, 3) := dzr zhdX11_text_0 15 rfl
theorem dX11_text_34 : decode cX11_text 34 = .ok (.aload_n 0, 1) := dzr zhdX11_text_0 16 rfl
theorem dX11_text_35 : decode cX11_text 35 = .ok (.getfield 28, 3) := dzr zhdX11_text_0 17 rfl
theorem dX11_text_38 : decode cX11_text 38 = .ok (.invokevirtual 132, 3) := dzr zhdX11_text_0 18 rfl
theorem dX11_text_41 : decode cX11_text 41 = .ok (.ifCond .eq 10, 3) := dzr zhdX11_text_0 19 rfl
theorem dX11_text_44 : decode cX11_text 44 = .ok (.aload_n 0, 1) := dzr zhdX11_text_0 20 rfl
theorem dX11_text_45 : decode cX11_text 45 = .ok (.invokevirtual 143, 3) := dzr zhdX11_text_0 21 rfl
theorem dX11_text_48 : decode cX11_text 48 = .ok (.goto 4, 3) := dzr zhdX11_text_0 22 rfl
theorem dX11_text_51 : decode cX11_text 51 = .ok (.iconst (-1), 1) := dzr zhdX11_text_0 23 rfl
def ztdX11_text_52 : List (Nat × Instr × Nat) := [(52, .ireturn, 1)]
theorem zhdX11_text_52 : dzC ztdX11_text_52 52 (cX11_text.data.toList.drop 52) = true := by decide +kernel
theorem dX11_text_52 : decode cX11_text 52 = .ok (.ireturn, 1) := dzr zhdX11_text_52 0 rfl
theorem ggX11_rule_X11_noPeace : GoodIn wsX11_rule wsX11_noPeace := (bg_up (bg_law (bi_wsL_law0_r23 _ (List.mem_of_getElem? (i := 5) rfl))))
theorem gX11_rule_X11_noPeace : GoodIn wsX11_rule (wsV RX11 146 RX11 yX11_noPeace wsX11_noPeace) := goodIn_app (bg_up (bg_cons (bi_wsL_law0_r23 _ (List.mem_of_getElem? (i := 2) rfl)) (bg_cons (bi_wsL_law0_r23 _ (List.mem_of_getElem? (i := 3) rfl)) (bg_cons (bi_wsL_law0_r23 _ (List.mem_of_getElem? (i := 4) rfl)) (bg_cons (bi_wsL_law0_r1 _ (List.mem_of_getElem? (i := 2) rfl)) bg_nil))))) (bg_up (bg_law (bi_wsL_law0_r23 _ (List.mem_of_getElem? (i := 5) rfl))))
theorem ggX11_rule_X9_pride : GoodIn wsX11_rule wsX9_pride := (bg_up (bg_law (bi_wsL_law0_r23 _ (List.mem_of_getElem? (i := 9) rfl))))
theorem gX11_rule_X9_pride : GoodIn wsX11_rule (wsV RX11 149 RX9 yX9_pride wsX9_pride) := goodIn_app (bg_up (bg_cons (bi_wsL_law0_r23 _ (List.mem_of_getElem? (i := 6) rfl)) (bg_cons (bi_wsL_law0_r23 _ (List.mem_of_getElem? (i := 7) rfl)) (bg_cons (bi_wsL_law0_r23 _ (List.mem_of_getElem? (i := 8) rfl)) (bg_cons (bi_wsL_law0_r2 _ (List.mem_of_getElem? (i := 12) rfl)) bg_nil))))) (bg_up (bg_law (bi_wsL_law0_r23 _ (List.mem_of_getElem? (i := 9) rfl))))
theorem ggX11_rule_X9_coins : GoodIn wsX11_rule wsX9_coins := (bg_up (bg_law (bi_wsL_law0_r23 _ (List.mem_of_getElem? (i := 13) rfl))))
theorem gX11_rule_X9_coins : GoodIn wsX11_rule (wsV RX11 152 RX9 yX9_coins wsX9_coins) := goodIn_app (bg_up (bg_cons (bi_wsL_law0_r23 _ (List.mem_of_getElem? (i := 10) rfl)) (bg_cons (bi_wsL_law0_r23 _ (List.mem_of_getElem? (i := 11) rfl)) (bg_cons (bi_wsL_law0_r23 _ (List.mem_of_getElem? (i := 12) rfl)) (bg_cons (bi_wsL_law0_r2 _ (List.mem_of_getElem? (i := 12) rfl)) bg_nil))))) (bg_up (bg_law (bi_wsL_law0_r23 _ (List.mem_of_getElem? (i := 13) rfl))))
def ztdX11_rule_0 : List (Nat × Instr × Nat) := [(0, .aload_n 0, 1), (1, .invokevirtual 146, 3), (4, .ifCond .ne 12, 3), (7, .iload_n 1, 1), (8, .ifCond .lt 8, 3), (11, .iload_n 1, 1), (12, .iconst 1, 1), (13, .if_icmp .le 5, 3), (16, .iconst (-1), 1), (17, .ireturn, 1), (18, .iload_n 1, 1), (19, .ifCond .ne 13, 3), (22, .aload_n 0, 1), (23, .getfield 51, 3), (26, .invokevirtual 149, 3), (29, .goto 10, 3), (32, .aload_n 0, 1), (33, .getfield 51, 3), (36, .invokevirtual 152, 3), (39, .ireturn, 1)]
theorem zhdX11_rule_0 : dzC ztdX11_rule_0 0 (cX11_rule.data.toList.drop 0) = true := by decide +kernel
theorem dX11_rule_0 : decode cX11_rule 0 = .ok (.aload_n 0, 1) := dzr zhdX11_rule_0 0 rfl
theorem dX11_rule_1 : decode cX11_rule 1 = .ok (.invokevirtual 146, 3) := dzr zhdX11_rule_0 1 rfl
theorem dX11_rule_4 : decode cX11_rule 4 = .ok (.ifCond .ne 12, 3) := dzr zhdX11_rule_0 2 rfl
theorem dX11_rule_7 : decode cX11_rule 7 = .ok (.iload_n 1, 1) := dzr zhdX11_rule_0 3 rfl
theorem dX11_rule_8 : decode cX11_rule 8 = .ok (.ifCond .lt 8, 3) := dzr zhdX11_rule_0 4 rfl
theorem dX11_rule_11 : decode cX11_rule 11 = .ok (.iload_n 1, 1) := dzr zhdX11_rule_0 5 rfl
theorem dX11_rule_12 : decode cX11_rule 12 = .ok (.iconst 1, 1) := dzr zhdX11_rule_0 6 rfl
theorem dX11_rule_13 : decode cX11_rule 13 = .ok (.if_icmp .le 5, 3) := dzr zhdX11_rule_0 7 rfl
theorem dX11_rule_16 : decode cX11_rule 16 = .ok (.iconst (-1), 1) := dzr zhdX11_rule_0 8 rfl
theorem dX11_rule_17 : decode cX11_rule 17 = .ok (.ireturn, 1) := dzr zhdX11_rule_0 9 rfl
theorem dX11_rule_18 : decode cX11_rule 18 = .ok (.iload_n 1, 1) := dzr zhdX11_rule_0 10 rfl
theorem dX11_rule_19 : decode cX11_rule 19 = .ok (.ifCond .ne 13, 3) := dzr zhdX11_rule_0 11 rfl
theorem dX11_rule_22 : decode cX11_rule 22 = .ok (.aload_n 0, 1) := dzr zhdX11_rule_0 12 rfl
theorem dX11_rule_23 : decode cX11_rule 23 = .ok (.getfield 51, 3) := dzr zhdX11_rule_0 13 rfl
theorem dX11_rule_26 : decode cX11_rule 26 = .ok (.invokevirtual 149, 3) := dzr zhdX11_rule_0 14 rfl
theorem dX11_rule_29 : decode cX11_rule 29 = .ok (.goto 10, 3) := dzr zhdX11_rule_0 15 rfl
theorem dX11_rule_32 : decode cX11_rule 32 = .ok (.aload_n 0, 1) := dzr zhdX11_rule_0 16 rfl
theorem dX11_rule_33 : decode cX11_rule 33 = .ok (.getfield 51, 3) := dzr zhdX11_rule_0 17 rfl
theorem dX11_rule_36 : decode cX11_rule 36 = .ok (.invokevirtual 152, 3) := dzr zhdX11_rule_0 18 rfl
theorem dX11_rule_39 : decode cX11_rule 39 = .ok (.ireturn, 1) := dzr zhdX11_rule_0 19 rfl
theorem ggX11_glove_X5_hasGlove : GoodIn wsX11_glove wsX5_hasGlove := (bg_up (bg_law (bi_wsL_law0_r24 _ (List.mem_of_getElem? (i := 10) rfl))))
theorem gX11_glove_X5_hasGlove : GoodIn wsX11_glove (wsV RX11 155 RX5 yX5_hasGlove wsX5_hasGlove) := goodIn_app (bg_up (bg_cons (bi_wsL_law0_r24 _ (List.mem_of_getElem? (i := 7) rfl)) (bg_cons (bi_wsL_law0_r24 _ (List.mem_of_getElem? (i := 8) rfl)) (bg_cons (bi_wsL_law0_r24 _ (List.mem_of_getElem? (i := 9) rfl)) (bg_cons (bi_wsL_law0_r2 _ (List.mem_of_getElem? (i := 4) rfl)) bg_nil))))) (bg_up (bg_law (bi_wsL_law0_r24 _ (List.mem_of_getElem? (i := 10) rfl))))
theorem ggX11_glove_X9_free : GoodIn wsX11_glove wsX9_free := (bg_up (bg_law (bi_wsL_law0_r24 _ (List.mem_of_getElem? (i := 14) rfl))))
theorem gX11_glove_X9_free : GoodIn wsX11_glove (wsV RX11 169 RX9 yX9_free wsX9_free) := goodIn_app (bg_up (bg_cons (bi_wsL_law0_r24 _ (List.mem_of_getElem? (i := 11) rfl)) (bg_cons (bi_wsL_law0_r24 _ (List.mem_of_getElem? (i := 12) rfl)) (bg_cons (bi_wsL_law0_r24 _ (List.mem_of_getElem? (i := 13) rfl)) (bg_cons (bi_wsL_law0_r2 _ (List.mem_of_getElem? (i := 12) rfl)) bg_nil))))) (bg_up (bg_law (bi_wsL_law0_r24 _ (List.mem_of_getElem? (i := 14) rfl))))
theorem ggX11_glove_X9_stuffed : GoodIn wsX11_glove wsX9_stuffed := (bg_up (bg_law (bi_wsL_law0_r24 _ (List.mem_of_getElem? (i := 18) rfl))))
theorem gX11_glove_X9_stuffed : GoodIn wsX11_glove (wsV RX11 172 RX9 yX9_stuffed wsX9_stuffed) := goodIn_app (bg_up (bg_cons (bi_wsL_law0_r24 _ (List.mem_of_getElem? (i := 15) rfl)) (bg_cons (bi_wsL_law0_r24 _ (List.mem_of_getElem? (i := 16) rfl)) (bg_cons (bi_wsL_law0_r24 _ (List.mem_of_getElem? (i := 17) rfl)) (bg_cons (bi_wsL_law0_r2 _ (List.mem_of_getElem? (i := 12) rfl)) bg_nil))))) (bg_up (bg_law (bi_wsL_law0_r24 _ (List.mem_of_getElem? (i := 18) rfl))))
theorem ggX11_glove_X9_hasMet : GoodIn wsX11_glove wsX9_hasMet := (bg_up (bg_law (bi_wsL_law0_r24 _ (List.mem_of_getElem? (i := 22) rfl))))
theorem gX11_glove_X9_hasMet : GoodIn wsX11_glove (wsV RX11 178 RX9 yX9_hasMet wsX9_hasMet) := goodIn_app (bg_up (bg_cons (bi_wsL_law0_r24 _ (List.mem_of_getElem? (i := 19) rfl)) (bg_cons (bi_wsL_law0_r24 _ (List.mem_of_getElem? (i := 20) rfl)) (bg_cons (bi_wsL_law0_r24 _ (List.mem_of_getElem? (i := 21) rfl)) (bg_cons (bi_wsL_law0_r2 _ (List.mem_of_getElem? (i := 12) rfl)) bg_nil))))) (bg_up (bg_law (bi_wsL_law0_r24 _ (List.mem_of_getElem? (i := 22) rfl))))
theorem ggX11_glove_X9_knows : GoodIn wsX11_glove wsX9_knows := (bg_up (bg_law (bi_wsL_law0_r25 _ (List.mem_of_getElem? (i := 2) rfl))))
theorem gX11_glove_X9_knows : GoodIn wsX11_glove (wsV RX11 181 RX9 yX9_knows wsX9_knows) := goodIn_app (bg_up (bg_cons (bi_wsL_law0_r24 _ (List.mem_of_getElem? (i := 23) rfl)) (bg_cons (bi_wsL_law0_r25 _ (List.mem_of_getElem? (i := 0) rfl)) (bg_cons (bi_wsL_law0_r25 _ (List.mem_of_getElem? (i := 1) rfl)) (bg_cons (bi_wsL_law0_r2 _ (List.mem_of_getElem? (i := 12) rfl)) bg_nil))))) (bg_up (bg_law (bi_wsL_law0_r25 _ (List.mem_of_getElem? (i := 2) rfl))))
theorem dX11_glove_31 : decode cX11_glove 31 = .ok (.tableswitch 88 0 4 #[33, 43, 52, 61, 71], 33) := by decide +kernel
def ztdX11_glove_0 : List (Nat × Instr × Nat) := [(0, .aload_n 0, 1), (1, .getfield 35, 3), (4, .iload_n 1, 1), (5, .invokevirtual 155, 3), (8, .ifCond .eq 12, 3), (11, .iload_n 2, 1), (12, .ifCond .lt 8, 3), (15, .iload_n 2, 1), (16, .iconst 5, 1), (17, .if_icmp .le 13, 3), (20, .new 159, 3), (23, .dup, 1), (24, .ldc 161, 2), (26, .invokespecial 163, 3), (29, .athrow, 1), (30, .iload_n 2, 1), (64, .aload_n 0, 1), (65, .getfield 35, 3), (68, .getfield 166, 3), (71, .iload_n 1, 1), (72, .iaload, 1), (73, .ireturn, 1), (74, .aload_n 0, 1), (75, .getfield 51, 3)]
theorem zhdX11_glove_0 : dzC ztdX11_glove_0 0 (cX11_glove.data.toList.drop 0) = true := by decide +kernel
theorem dX11_glove_0 : decode cX11_glove 0 = .ok (.aload_n 0, 1) := dzr zhdX11_glove_0 0 rfl
theorem dX11_glove_1 : decode cX11_glove 1 = .ok (.getfield 35, 3) := dzr zhdX11_glove_0 1 rfl
theorem dX11_glove_4 : decode cX11_glove 4 = .ok (.iload_n 1, 1) := dzr zhdX11_glove_0 2 rfl
theorem dX11_glove_5 : decode cX11_glove 5 = .ok (.invokevirtual 155, 3) := dzr zhdX11_glove_0 3 rfl
theorem dX11_glove_8 : decode cX11_glove 8 = .ok (.ifCond .eq 12, 3) := dzr zhdX11_glove_0 4 rfl
theorem dX11_glove_11 : decode cX11_glove 11 = .ok (.iload_n 2, 1) := dzr zhdX11_glove_0 5 rfl
theorem dX11_glove_12 : decode cX11_glove 12 = .ok (.ifCond .lt 8, 3) := dzr zhdX11_glove_0 6 rfl
theorem dX11_glove_15 : decode cX11_glove 15 = .ok (.iload_n 2, 1) := dzr zhdX11_glove_0 7 rfl
theorem dX11_glove_16 : decode cX11_glove 16 = .ok (.iconst 5, 1) := dzr zhdX11_glove_0 8 rfl
theorem dX11_glove_17 : decode cX11_glove 17 = .ok (.if_icmp .le 13, 3) := dzr zhdX11_glove_0 9 rfl
theorem dX11_glove_20 : decode cX11_glove 20 = .ok (.new 159, 3) := dzr zhdX11_glove_0 10 rfl
theorem dX11_glove_23 : decode cX11_glove 23 = .ok (.dup, 1) := dzr zhdX11_glove_0 11 rfl
theorem dX11_glove_24 : decode cX11_glove 24 = .ok (.ldc 161, 2) := dzr zhdX11_glove_0 12 rfl
theorem dX11_glove_26 : decode cX11_glove 26 = .ok (.invokespecial 163, 3) := dzr zhdX11_glove_0 13 rfl
theorem dX11_glove_29 : decode cX11_glove 29 = .ok (.athrow, 1) := dzr zhdX11_glove_0 14 rfl
theorem dX11_glove_30 : decode cX11_glove 30 = .ok (.iload_n 2, 1) := dzr zhdX11_glove_0 15 rfl
theorem dX11_glove_64 : decode cX11_glove 64 = .ok (.aload_n 0, 1) := dzr zhdX11_glove_0 16 rfl
theorem dX11_glove_65 : decode cX11_glove 65 = .ok (.getfield 35, 3) := dzr zhdX11_glove_0 17 rfl
theorem dX11_glove_68 : decode cX11_glove 68 = .ok (.getfield 166, 3) := dzr zhdX11_glove_0 18 rfl
theorem dX11_glove_71 : decode cX11_glove 71 = .ok (.iload_n 1, 1) := dzr zhdX11_glove_0 19 rfl
theorem dX11_glove_72 : decode cX11_glove 72 = .ok (.iaload, 1) := dzr zhdX11_glove_0 20 rfl
theorem dX11_glove_73 : decode cX11_glove 73 = .ok (.ireturn, 1) := dzr zhdX11_glove_0 21 rfl
theorem dX11_glove_74 : decode cX11_glove 74 = .ok (.aload_n 0, 1) := dzr zhdX11_glove_0 22 rfl
theorem dX11_glove_75 : decode cX11_glove 75 = .ok (.getfield 51, 3) := dzr zhdX11_glove_0 23 rfl
def ztdX11_glove_78 : List (Nat × Instr × Nat) := [(78, .iload_n 1, 1), (79, .invokevirtual 169, 3), (82, .ireturn, 1), (83, .aload_n 0, 1), (84, .getfield 51, 3), (87, .iload_n 1, 1), (88, .invokevirtual 172, 3), (91, .ireturn, 1), (92, .aload_n 0, 1), (93, .getfield 35, 3), (96, .getfield 175, 3), (99, .iload_n 1, 1), (100, .iaload, 1), (101, .ireturn, 1), (102, .aload_n 0, 1), (103, .getfield 51, 3), (106, .iload_n 1, 1), (107, .invokevirtual 178, 3), (110, .ifCond .eq 7, 3), (113, .iconst 1, 1), (114, .goto 4, 3), (117, .iconst 0, 1), (118, .ireturn, 1), (119, .aload_n 0, 1)]
theorem zhdX11_glove_78 : dzC ztdX11_glove_78 78 (cX11_glove.data.toList.drop 78) = true := by decide +kernel
theorem dX11_glove_78 : decode cX11_glove 78 = .ok (.iload_n 1, 1) := dzr zhdX11_glove_78 0 rfl
theorem dX11_glove_79 : decode cX11_glove 79 = .ok (.invokevirtual 169, 3) := dzr zhdX11_glove_78 1 rfl
theorem dX11_glove_82 : decode cX11_glove 82 = .ok (.ireturn, 1) := dzr zhdX11_glove_78 2 rfl
theorem dX11_glove_83 : decode cX11_glove 83 = .ok (.aload_n 0, 1) := dzr zhdX11_glove_78 3 rfl
theorem dX11_glove_84 : decode cX11_glove 84 = .ok (.getfield 51, 3) := dzr zhdX11_glove_78 4 rfl
theorem dX11_glove_87 : decode cX11_glove 87 = .ok (.iload_n 1, 1) := dzr zhdX11_glove_78 5 rfl
theorem dX11_glove_88 : decode cX11_glove 88 = .ok (.invokevirtual 172, 3) := dzr zhdX11_glove_78 6 rfl
theorem dX11_glove_91 : decode cX11_glove 91 = .ok (.ireturn, 1) := dzr zhdX11_glove_78 7 rfl
theorem dX11_glove_92 : decode cX11_glove 92 = .ok (.aload_n 0, 1) := dzr zhdX11_glove_78 8 rfl
theorem dX11_glove_93 : decode cX11_glove 93 = .ok (.getfield 35, 3) := dzr zhdX11_glove_78 9 rfl
theorem dX11_glove_96 : decode cX11_glove 96 = .ok (.getfield 175, 3) := dzr zhdX11_glove_78 10 rfl
theorem dX11_glove_99 : decode cX11_glove 99 = .ok (.iload_n 1, 1) := dzr zhdX11_glove_78 11 rfl
theorem dX11_glove_100 : decode cX11_glove 100 = .ok (.iaload, 1) := dzr zhdX11_glove_78 12 rfl
theorem dX11_glove_101 : decode cX11_glove 101 = .ok (.ireturn, 1) := dzr zhdX11_glove_78 13 rfl
theorem dX11_glove_102 : decode cX11_glove 102 = .ok (.aload_n 0, 1) := dzr zhdX11_glove_78 14 rfl
theorem dX11_glove_103 : decode cX11_glove 103 = .ok (.getfield 51, 3) := dzr zhdX11_glove_78 15 rfl
theorem dX11_glove_106 : decode cX11_glove 106 = .ok (.iload_n 1, 1) := dzr zhdX11_glove_78 16 rfl
theorem dX11_glove_107 : decode cX11_glove 107 = .ok (.invokevirtual 178, 3) := dzr zhdX11_glove_78 17 rfl
theorem dX11_glove_110 : decode cX11_glove 110 = .ok (.ifCond .eq 7, 3) := dzr zhdX11_glove_78 18 rfl
theorem dX11_glove_113 : decode cX11_glove 113 = .ok (.iconst 1, 1) := dzr zhdX11_glove_78 19 rfl
theorem dX11_glove_114 : decode cX11_glove 114 = .ok (.goto 4, 3) := dzr zhdX11_glove_78 20 rfl
theorem dX11_glove_117 : decode cX11_glove 117 = .ok (.iconst 0, 1) := dzr zhdX11_glove_78 21 rfl
theorem dX11_glove_118 : decode cX11_glove 118 = .ok (.ireturn, 1) := dzr zhdX11_glove_78 22 rfl
theorem dX11_glove_119 : decode cX11_glove 119 = .ok (.aload_n 0, 1) := dzr zhdX11_glove_78 23 rfl
def ztdX11_glove_120 : List (Nat × Instr × Nat) := [(120, .getfield 51, 3), (123, .iload_n 1, 1), (124, .invokevirtual 181, 3), (127, .ireturn, 1)]
theorem zhdX11_glove_120 : dzC ztdX11_glove_120 120 (cX11_glove.data.toList.drop 120) = true := by decide +kernel
theorem dX11_glove_120 : decode cX11_glove 120 = .ok (.getfield 51, 3) := dzr zhdX11_glove_120 0 rfl
theorem dX11_glove_123 : decode cX11_glove 123 = .ok (.iload_n 1, 1) := dzr zhdX11_glove_120 1 rfl
theorem dX11_glove_124 : decode cX11_glove 124 = .ok (.invokevirtual 181, 3) := dzr zhdX11_glove_120 2 rfl
theorem dX11_glove_127 : decode cX11_glove 127 = .ok (.ireturn, 1) := dzr zhdX11_glove_120 3 rfl
theorem ggX11_matter_X5_hasMatter : GoodIn wsX11_matter wsX5_hasMatter := (bg_up (bg_law (bi_wsL_law0_r26 _ (List.mem_of_getElem? (i := 1) rfl))))
theorem gX11_matter_X5_hasMatter : GoodIn wsX11_matter (wsV RX11 184 RX5 yX5_hasMatter wsX5_hasMatter) := goodIn_app (bg_up (bg_cons (bi_wsL_law0_r25 _ (List.mem_of_getElem? (i := 22) rfl)) (bg_cons (bi_wsL_law0_r25 _ (List.mem_of_getElem? (i := 23) rfl)) (bg_cons (bi_wsL_law0_r26 _ (List.mem_of_getElem? (i := 0) rfl)) (bg_cons (bi_wsL_law0_r2 _ (List.mem_of_getElem? (i := 4) rfl)) bg_nil))))) (bg_up (bg_law (bi_wsL_law0_r26 _ (List.mem_of_getElem? (i := 1) rfl))))
theorem ggX11_matter_X9_signers : GoodIn wsX11_matter wsX9_signers := (bg_up (bg_law (bi_wsL_law0_r26 _ (List.mem_of_getElem? (i := 5) rfl))))
theorem gX11_matter_X9_signers : GoodIn wsX11_matter (wsV RX11 187 RX9 yX9_signers wsX9_signers) := goodIn_app (bg_up (bg_cons (bi_wsL_law0_r26 _ (List.mem_of_getElem? (i := 2) rfl)) (bg_cons (bi_wsL_law0_r26 _ (List.mem_of_getElem? (i := 3) rfl)) (bg_cons (bi_wsL_law0_r26 _ (List.mem_of_getElem? (i := 4) rfl)) (bg_cons (bi_wsL_law0_r2 _ (List.mem_of_getElem? (i := 12) rfl)) bg_nil))))) (bg_up (bg_law (bi_wsL_law0_r26 _ (List.mem_of_getElem? (i := 5) rfl))))
def ztdX11_matter_0 : List (Nat × Instr × Nat) := [(0, .aload_n 0, 1), (1, .getfield 35, 3), (4, .iload_n 1, 1), (5, .invokevirtual 184, 3), (8, .ifCond .eq 12, 3), (11, .iload_n 2, 1), (12, .ifCond .lt 8, 3), (15, .iload_n 2, 1), (16, .iconst 2, 1), (17, .if_icmp .le 6, 3), (20, .bipush (-2), 2), (22, .ireturn, 1), (23, .iload_n 2, 1), (24, .iconst 2, 1), (25, .if_icmp .ne 12, 3), (28, .aload_n 0, 1), (29, .getfield 51, 3), (32, .iload_n 1, 1), (33, .invokevirtual 187, 3), (36, .ireturn, 1), (37, .iload_n 2, 1), (38, .ifCond .ne 15, 3), (41, .aload_n 0, 1), (42, .getfield 35, 3)]
theorem zhdX11_matter_0 : dzC ztdX11_matter_0 0 (cX11_matter.data.toList.drop 0) = true := by decide +kernel
theorem dX11_matter_0 : decode cX11_matter 0 = .ok (.aload_n 0, 1) := dzr zhdX11_matter_0 0 rfl
theorem dX11_matter_1 : decode cX11_matter 1 = .ok (.getfield 35, 3) := dzr zhdX11_matter_0 1 rfl
theorem dX11_matter_4 : decode cX11_matter 4 = .ok (.iload_n 1, 1) := dzr zhdX11_matter_0 2 rfl
theorem dX11_matter_5 : decode cX11_matter 5 = .ok (.invokevirtual 184, 3) := dzr zhdX11_matter_0 3 rfl
theorem dX11_matter_8 : decode cX11_matter 8 = .ok (.ifCond .eq 12, 3) := dzr zhdX11_matter_0 4 rfl
theorem dX11_matter_11 : decode cX11_matter 11 = .ok (.iload_n 2, 1) := dzr zhdX11_matter_0 5 rfl
theorem dX11_matter_12 : decode cX11_matter 12 = .ok (.ifCond .lt 8, 3) := dzr zhdX11_matter_0 6 rfl
theorem dX11_matter_15 : decode cX11_matter 15 = .ok (.iload_n 2, 1) := dzr zhdX11_matter_0 7 rfl
theorem dX11_matter_16 : decode cX11_matter 16 = .ok (.iconst 2, 1) := dzr zhdX11_matter_0 8 rfl
theorem dX11_matter_17 : decode cX11_matter 17 = .ok (.if_icmp .le 6, 3) := dzr zhdX11_matter_0 9 rfl
theorem dX11_matter_20 : decode cX11_matter 20 = .ok (.bipush (-2), 2) := dzr zhdX11_matter_0 10 rfl
theorem dX11_matter_22 : decode cX11_matter 22 = .ok (.ireturn, 1) := dzr zhdX11_matter_0 11 rfl
theorem dX11_matter_23 : decode cX11_matter 23 = .ok (.iload_n 2, 1) := dzr zhdX11_matter_0 12 rfl
theorem dX11_matter_24 : decode cX11_matter 24 = .ok (.iconst 2, 1) := dzr zhdX11_matter_0 13 rfl
theorem dX11_matter_25 : decode cX11_matter 25 = .ok (.if_icmp .ne 12, 3) := dzr zhdX11_matter_0 14 rfl
theorem dX11_matter_28 : decode cX11_matter 28 = .ok (.aload_n 0, 1) := dzr zhdX11_matter_0 15 rfl
theorem dX11_matter_29 : decode cX11_matter 29 = .ok (.getfield 51, 3) := dzr zhdX11_matter_0 16 rfl
theorem dX11_matter_32 : decode cX11_matter 32 = .ok (.iload_n 1, 1) := dzr zhdX11_matter_0 17 rfl
theorem dX11_matter_33 : decode cX11_matter 33 = .ok (.invokevirtual 187, 3) := dzr zhdX11_matter_0 18 rfl
theorem dX11_matter_36 : decode cX11_matter 36 = .ok (.ireturn, 1) := dzr zhdX11_matter_0 19 rfl
theorem dX11_matter_37 : decode cX11_matter 37 = .ok (.iload_n 2, 1) := dzr zhdX11_matter_0 20 rfl
theorem dX11_matter_38 : decode cX11_matter 38 = .ok (.ifCond .ne 15, 3) := dzr zhdX11_matter_0 21 rfl
theorem dX11_matter_41 : decode cX11_matter 41 = .ok (.aload_n 0, 1) := dzr zhdX11_matter_0 22 rfl
theorem dX11_matter_42 : decode cX11_matter 42 = .ok (.getfield 35, 3) := dzr zhdX11_matter_0 23 rfl
def ztdX11_matter_45 : List (Nat × Instr × Nat) := [(45, .getfield 190, 3), (48, .iload_n 1, 1), (49, .iaload, 1), (50, .goto 12, 3), (53, .aload_n 0, 1), (54, .getfield 35, 3), (57, .getfield 193, 3), (60, .iload_n 1, 1), (61, .iaload, 1), (62, .ireturn, 1)]
theorem zhdX11_matter_45 : dzC ztdX11_matter_45 45 (cX11_matter.data.toList.drop 45) = true := by decide +kernel
theorem dX11_matter_45 : decode cX11_matter 45 = .ok (.getfield 190, 3) := dzr zhdX11_matter_45 0 rfl
theorem dX11_matter_48 : decode cX11_matter 48 = .ok (.iload_n 1, 1) := dzr zhdX11_matter_45 1 rfl
theorem dX11_matter_49 : decode cX11_matter 49 = .ok (.iaload, 1) := dzr zhdX11_matter_45 2 rfl
theorem dX11_matter_50 : decode cX11_matter 50 = .ok (.goto 12, 3) := dzr zhdX11_matter_45 3 rfl
theorem dX11_matter_53 : decode cX11_matter 53 = .ok (.aload_n 0, 1) := dzr zhdX11_matter_45 4 rfl
theorem dX11_matter_54 : decode cX11_matter 54 = .ok (.getfield 35, 3) := dzr zhdX11_matter_45 5 rfl
theorem dX11_matter_57 : decode cX11_matter 57 = .ok (.getfield 193, 3) := dzr zhdX11_matter_45 6 rfl
theorem dX11_matter_60 : decode cX11_matter 60 = .ok (.iload_n 1, 1) := dzr zhdX11_matter_45 7 rfl
theorem dX11_matter_61 : decode cX11_matter 61 = .ok (.iaload, 1) := dzr zhdX11_matter_45 8 rfl
theorem dX11_matter_62 : decode cX11_matter 62 = .ok (.ireturn, 1) := dzr zhdX11_matter_45 9 rfl
theorem ggX11_warmth_X5_unlike : GoodIn wsX11_warmth wsX5_unlike := (bg_up (bg_law (bi_wsL_law0_r26 _ (List.mem_of_getElem? (i := 21) rfl))))
theorem gX11_warmth_X5_unlike : GoodIn wsX11_warmth (wsV RX11 196 RX5 yX5_unlike wsX5_unlike) := goodIn_app (bg_up (bg_cons (bi_wsL_law0_r26 _ (List.mem_of_getElem? (i := 18) rfl)) (bg_cons (bi_wsL_law0_r26 _ (List.mem_of_getElem? (i := 19) rfl)) (bg_cons (bi_wsL_law0_r26 _ (List.mem_of_getElem? (i := 20) rfl)) (bg_cons (bi_wsL_law0_r2 _ (List.mem_of_getElem? (i := 4) rfl)) bg_nil))))) (bg_up (bg_law (bi_wsL_law0_r26 _ (List.mem_of_getElem? (i := 21) rfl))))
theorem ggX11_warmth_X9_warmthOf : GoodIn wsX11_warmth wsX9_warmthOf := (bg_up (bg_law (bi_wsL_law0_r27 _ (List.mem_of_getElem? (i := 2) rfl))))
theorem gX11_warmth_X9_warmthOf : GoodIn wsX11_warmth (wsV RX11 200 RX9 yX9_warmthOf wsX9_warmthOf) := goodIn_app (bg_up (bg_cons (bi_wsL_law0_r26 _ (List.mem_of_getElem? (i := 23) rfl)) (bg_cons (bi_wsL_law0_r27 _ (List.mem_of_getElem? (i := 0) rfl)) (bg_cons (bi_wsL_law0_r27 _ (List.mem_of_getElem? (i := 1) rfl)) (bg_cons (bi_wsL_law0_r2 _ (List.mem_of_getElem? (i := 12) rfl)) bg_nil))))) (bg_up (bg_law (bi_wsL_law0_r27 _ (List.mem_of_getElem? (i := 2) rfl))))
def ztdX11_warmth_0 : List (Nat × Instr × Nat) := [(0, .aload_n 0, 1), (1, .getfield 35, 3), (4, .iload_n 1, 1), (5, .iload_n 2, 1), (6, .invokevirtual 196, 3), (9, .ifCond .eq 15, 3), (12, .aload_n 0, 1), (13, .getfield 51, 3), (16, .iload_n 1, 1), (17, .iload_n 2, 1), (18, .invokevirtual 200, 3), (21, .goto 4, 3), (24, .iconst (-1), 1), (25, .ireturn, 1)]
theorem zhdX11_warmth_0 : dzC ztdX11_warmth_0 0 (cX11_warmth.data.toList.drop 0) = true := by decide +kernel
theorem dX11_warmth_0 : decode cX11_warmth 0 = .ok (.aload_n 0, 1) := dzr zhdX11_warmth_0 0 rfl
theorem dX11_warmth_1 : decode cX11_warmth 1 = .ok (.getfield 35, 3) := dzr zhdX11_warmth_0 1 rfl
theorem dX11_warmth_4 : decode cX11_warmth 4 = .ok (.iload_n 1, 1) := dzr zhdX11_warmth_0 2 rfl
theorem dX11_warmth_5 : decode cX11_warmth 5 = .ok (.iload_n 2, 1) := dzr zhdX11_warmth_0 3 rfl
theorem dX11_warmth_6 : decode cX11_warmth 6 = .ok (.invokevirtual 196, 3) := dzr zhdX11_warmth_0 4 rfl
theorem dX11_warmth_9 : decode cX11_warmth 9 = .ok (.ifCond .eq 15, 3) := dzr zhdX11_warmth_0 5 rfl
theorem dX11_warmth_12 : decode cX11_warmth 12 = .ok (.aload_n 0, 1) := dzr zhdX11_warmth_0 6 rfl
theorem dX11_warmth_13 : decode cX11_warmth 13 = .ok (.getfield 51, 3) := dzr zhdX11_warmth_0 7 rfl
theorem dX11_warmth_16 : decode cX11_warmth 16 = .ok (.iload_n 1, 1) := dzr zhdX11_warmth_0 8 rfl
theorem dX11_warmth_17 : decode cX11_warmth 17 = .ok (.iload_n 2, 1) := dzr zhdX11_warmth_0 9 rfl
theorem dX11_warmth_18 : decode cX11_warmth 18 = .ok (.invokevirtual 200, 3) := dzr zhdX11_warmth_0 10 rfl
theorem dX11_warmth_21 : decode cX11_warmth 21 = .ok (.goto 4, 3) := dzr zhdX11_warmth_0 11 rfl
theorem dX11_warmth_24 : decode cX11_warmth 24 = .ok (.iconst (-1), 1) := dzr zhdX11_warmth_0 12 rfl
theorem dX11_warmth_25 : decode cX11_warmth 25 = .ok (.ireturn, 1) := dzr zhdX11_warmth_0 13 rfl
def ztdX11_law_0 : List (Nat × Instr × Nat) := [(0, .iload_n 1, 1), (1, .iconst (-1), 1), (2, .if_icmp .lt 14, 3), (5, .iload_n 1, 1), (6, .aload_n 0, 1), (7, .getfield 42, 3), (10, .getfield 204, 3), (13, .if_icmp .lt 5, 3), (16, .iconst 0, 1), (17, .ireturn, 1), (18, .aload_n 0, 1), (19, .getfield 42, 3), (22, .iload_n 1, 1), (23, .putfield 207, 3), (26, .iconst 1, 1), (27, .ireturn, 1)]
theorem zhdX11_law_0 : dzC ztdX11_law_0 0 (cX11_law.data.toList.drop 0) = true := by decide +kernel
theorem dX11_law_0 : decode cX11_law 0 = .ok (.iload_n 1, 1) := dzr zhdX11_law_0 0 rfl
theorem dX11_law_1 : decode cX11_law 1 = .ok (.iconst (-1), 1) := dzr zhdX11_law_0 1 rfl
theorem dX11_law_2 : decode cX11_law 2 = .ok (.if_icmp .lt 14, 3) := dzr zhdX11_law_0 2 rfl
theorem dX11_law_5 : decode cX11_law 5 = .ok (.iload_n 1, 1) := dzr zhdX11_law_0 3 rfl
theorem dX11_law_6 : decode cX11_law 6 = .ok (.aload_n 0, 1) := dzr zhdX11_law_0 4 rfl
theorem dX11_law_7 : decode cX11_law 7 = .ok (.getfield 42, 3) := dzr zhdX11_law_0 5 rfl
theorem dX11_law_10 : decode cX11_law 10 = .ok (.getfield 204, 3) := dzr zhdX11_law_0 6 rfl
theorem dX11_law_13 : decode cX11_law 13 = .ok (.if_icmp .lt 5, 3) := dzr zhdX11_law_0 7 rfl
theorem dX11_law_16 : decode cX11_law 16 = .ok (.iconst 0, 1) := dzr zhdX11_law_0 8 rfl
theorem dX11_law_17 : decode cX11_law 17 = .ok (.ireturn, 1) := dzr zhdX11_law_0 9 rfl
theorem dX11_law_18 : decode cX11_law 18 = .ok (.aload_n 0, 1) := dzr zhdX11_law_0 10 rfl
theorem dX11_law_19 : decode cX11_law 19 = .ok (.getfield 42, 3) := dzr zhdX11_law_0 11 rfl
theorem dX11_law_22 : decode cX11_law 22 = .ok (.iload_n 1, 1) := dzr zhdX11_law_0 12 rfl
theorem dX11_law_23 : decode cX11_law 23 = .ok (.putfield 207, 3) := dzr zhdX11_law_0 13 rfl
theorem dX11_law_26 : decode cX11_law 26 = .ok (.iconst 1, 1) := dzr zhdX11_law_0 14 rfl
theorem dX11_law_27 : decode cX11_law 27 = .ok (.ireturn, 1) := dzr zhdX11_law_0 15 rfl
theorem ggX11_meets_X5_hasGlove : GoodIn wsX11_meets wsX5_hasGlove := (bg_up (bg_law (bi_wsL_law0_r24 _ (List.mem_of_getElem? (i := 10) rfl))))
theorem gX11_meets_X5_hasGlove : GoodIn wsX11_meets (wsV RX11 155 RX5 yX5_hasGlove wsX5_hasGlove) := goodIn_app (bg_up (bg_cons (bi_wsL_law0_r24 _ (List.mem_of_getElem? (i := 7) rfl)) (bg_cons (bi_wsL_law0_r24 _ (List.mem_of_getElem? (i := 8) rfl)) (bg_cons (bi_wsL_law0_r24 _ (List.mem_of_getElem? (i := 9) rfl)) (bg_cons (bi_wsL_law0_r2 _ (List.mem_of_getElem? (i := 4) rfl)) bg_nil))))) (bg_up (bg_law (bi_wsL_law0_r24 _ (List.mem_of_getElem? (i := 10) rfl))))
theorem ggX11_meets_X11_refuse : GoodIn wsX11_meets wsX11_refuse := (bg_up (bg_law (bi_wsL_law0_r28 _ (List.mem_of_getElem? (i := 16) rfl))))
theorem gX11_meets_X11_refuse : GoodIn wsX11_meets (wsV RX11 210 RX11 yX11_refuse wsX11_refuse) := goodIn_app (bg_up (bg_cons (bi_wsL_law0_r28 _ (List.mem_of_getElem? (i := 13) rfl)) (bg_cons (bi_wsL_law0_r28 _ (List.mem_of_getElem? (i := 14) rfl)) (bg_cons (bi_wsL_law0_r28 _ (List.mem_of_getElem? (i := 15) rfl)) (bg_cons (bi_wsL_law0_r1 _ (List.mem_of_getElem? (i := 2) rfl)) bg_nil))))) (bg_up (bg_law (bi_wsL_law0_r28 _ (List.mem_of_getElem? (i := 16) rfl))))
theorem ggX11_meets_X5_unlike : GoodIn wsX11_meets wsX5_unlike := (bg_up (bg_law (bi_wsL_law0_r26 _ (List.mem_of_getElem? (i := 21) rfl))))
theorem gX11_meets_X5_unlike : GoodIn wsX11_meets (wsV RX11 196 RX5 yX5_unlike wsX5_unlike) := goodIn_app (bg_up (bg_cons (bi_wsL_law0_r26 _ (List.mem_of_getElem? (i := 18) rfl)) (bg_cons (bi_wsL_law0_r26 _ (List.mem_of_getElem? (i := 19) rfl)) (bg_cons (bi_wsL_law0_r26 _ (List.mem_of_getElem? (i := 20) rfl)) (bg_cons (bi_wsL_law0_r2 _ (List.mem_of_getElem? (i := 4) rfl)) bg_nil))))) (bg_up (bg_law (bi_wsL_law0_r26 _ (List.mem_of_getElem? (i := 21) rfl))))
theorem ggX11_meets_X9_hasMet : GoodIn wsX11_meets wsX9_hasMet := (bg_up (bg_law (bi_wsL_law0_r24 _ (List.mem_of_getElem? (i := 22) rfl))))
theorem gX11_meets_X9_hasMet : GoodIn wsX11_meets (wsV RX11 178 RX9 yX9_hasMet wsX9_hasMet) := goodIn_app (bg_up (bg_cons (bi_wsL_law0_r24 _ (List.mem_of_getElem? (i := 19) rfl)) (bg_cons (bi_wsL_law0_r24 _ (List.mem_of_getElem? (i := 20) rfl)) (bg_cons (bi_wsL_law0_r24 _ (List.mem_of_getElem? (i := 21) rfl)) (bg_cons (bi_wsL_law0_r2 _ (List.mem_of_getElem? (i := 12) rfl)) bg_nil))))) (bg_up (bg_law (bi_wsL_law0_r24 _ (List.mem_of_getElem? (i := 22) rfl))))
theorem ggX11_meets_X9_coins : GoodIn wsX11_meets wsX9_coins := (bg_up (bg_law (bi_wsL_law0_r23 _ (List.mem_of_getElem? (i := 13) rfl))))
theorem gX11_meets_X9_coins : GoodIn wsX11_meets (wsV RX11 152 RX9 yX9_coins wsX9_coins) := goodIn_app (bg_up (bg_cons (bi_wsL_law0_r23 _ (List.mem_of_getElem? (i := 10) rfl)) (bg_cons (bi_wsL_law0_r23 _ (List.mem_of_getElem? (i := 11) rfl)) (bg_cons (bi_wsL_law0_r23 _ (List.mem_of_getElem? (i := 12) rfl)) (bg_cons (bi_wsL_law0_r2 _ (List.mem_of_getElem? (i := 12) rfl)) bg_nil))))) (bg_up (bg_law (bi_wsL_law0_r23 _ (List.mem_of_getElem? (i := 13) rfl))))
theorem ggX11_meets_X0_keep : GoodIn wsX11_meets wsX0_keep := (bg_up (bg_law (bi_wsL_law0_r28 _ (List.mem_of_getElem? (i := 20) rfl))))
theorem gX11_meets_X0_keep : GoodIn wsX11_meets (wsV RX11 213 RX0 yX0_keep wsX0_keep) := goodIn_app (bg_up (bg_cons (bi_wsL_law0_r28 _ (List.mem_of_getElem? (i := 17) rfl)) (bg_cons (bi_wsL_law0_r28 _ (List.mem_of_getElem? (i := 18) rfl)) (bg_cons (bi_wsL_law0_r28 _ (List.mem_of_getElem? (i := 19) rfl)) (bg_cons (bi_wsL_law0_r2 _ (List.mem_of_getElem? (i := 21) rfl)) bg_nil))))) (bg_up (bg_law (bi_wsL_law0_r28 _ (List.mem_of_getElem? (i := 20) rfl))))
theorem ggX11_meets_X9_pay : GoodIn wsX11_meets wsX9_pay := (bg_up (bg_law (bi_wsL_law0_r29 _ (List.mem_of_getElem? (i := 4) rfl))))
theorem gX11_meets_X9_pay : GoodIn wsX11_meets (wsV RX11 217 RX9 yX9_pay wsX9_pay) := goodIn_app (bg_up (bg_cons (bi_wsL_law0_r29 _ (List.mem_of_getElem? (i := 1) rfl)) (bg_cons (bi_wsL_law0_r29 _ (List.mem_of_getElem? (i := 2) rfl)) (bg_cons (bi_wsL_law0_r29 _ (List.mem_of_getElem? (i := 3) rfl)) (bg_cons (bi_wsL_law0_r2 _ (List.mem_of_getElem? (i := 12) rfl)) bg_nil))))) (bg_up (bg_law (bi_wsL_law0_r29 _ (List.mem_of_getElem? (i := 4) rfl))))
theorem ggX11_meets_X9_meet : GoodIn wsX11_meets wsX9_meet := (bg_up (bg_law (bi_wsL_law0_r29 _ (List.mem_of_getElem? (i := 8) rfl))))
theorem gX11_meets_X9_meet : GoodIn wsX11_meets (wsV RX11 220 RX9 yX9_meet wsX9_meet) := goodIn_app (bg_up (bg_cons (bi_wsL_law0_r29 _ (List.mem_of_getElem? (i := 5) rfl)) (bg_cons (bi_wsL_law0_r29 _ (List.mem_of_getElem? (i := 6) rfl)) (bg_cons (bi_wsL_law0_r29 _ (List.mem_of_getElem? (i := 7) rfl)) (bg_cons (bi_wsL_law0_r2 _ (List.mem_of_getElem? (i := 12) rfl)) bg_nil))))) (bg_up (bg_law (bi_wsL_law0_r29 _ (List.mem_of_getElem? (i := 8) rfl))))
theorem ggX11_meets_X9_warmthOf : GoodIn wsX11_meets wsX9_warmthOf := (bg_up (bg_law (bi_wsL_law0_r27 _ (List.mem_of_getElem? (i := 2) rfl))))
theorem gX11_meets_X9_warmthOf : GoodIn wsX11_meets (wsV RX11 200 RX9 yX9_warmthOf wsX9_warmthOf) := goodIn_app (bg_up (bg_cons (bi_wsL_law0_r26 _ (List.mem_of_getElem? (i := 23) rfl)) (bg_cons (bi_wsL_law0_r27 _ (List.mem_of_getElem? (i := 0) rfl)) (bg_cons (bi_wsL_law0_r27 _ (List.mem_of_getElem? (i := 1) rfl)) (bg_cons (bi_wsL_law0_r2 _ (List.mem_of_getElem? (i := 12) rfl)) bg_nil))))) (bg_up (bg_law (bi_wsL_law0_r27 _ (List.mem_of_getElem? (i := 2) rfl))))
def ztdX11_meets_0 : List (Nat × Instr × Nat) := [(0, .aload_n 0, 1), (1, .getfield 35, 3), (4, .iload_n 1, 1), (5, .invokevirtual 155, 3), (8, .ifCond .eq 14, 3), (11, .aload_n 0, 1), (12, .getfield 35, 3), (15, .iload_n 2, 1), (16, .invokevirtual 155, 3), (19, .ifCond .ne 9, 3), (22, .aload_n 0, 1), (23, .iconst 0, 1), (24, .invokevirtual 210, 3), (27, .ireturn, 1), (28, .aload_n 0, 1), (29, .getfield 35, 3), (32, .iload_n 1, 1), (33, .iload_n 2, 1), (34, .invokevirtual 196, 3), (37, .ifCond .ne 9, 3), (40, .aload_n 0, 1), (41, .iconst 1, 1), (42, .invokevirtual 210, 3), (45, .ireturn, 1)]
theorem zhdX11_meets_0 : dzC ztdX11_meets_0 0 (cX11_meets.data.toList.drop 0) = true := by decide +kernel
theorem dX11_meets_0 : decode cX11_meets 0 = .ok (.aload_n 0, 1) := dzr zhdX11_meets_0 0 rfl
theorem dX11_meets_1 : decode cX11_meets 1 = .ok (.getfield 35, 3) := dzr zhdX11_meets_0 1 rfl
theorem dX11_meets_4 : decode cX11_meets 4 = .ok (.iload_n 1, 1) := dzr zhdX11_meets_0 2 rfl
theorem dX11_meets_5 : decode cX11_meets 5 = .ok (.invokevirtual 155, 3) := dzr zhdX11_meets_0 3 rfl
theorem dX11_meets_8 : decode cX11_meets 8 = .ok (.ifCond .eq 14, 3) := dzr zhdX11_meets_0 4 rfl
theorem dX11_meets_11 : decode cX11_meets 11 = .ok (.aload_n 0, 1) := dzr zhdX11_meets_0 5 rfl
theorem dX11_meets_12 : decode cX11_meets 12 = .ok (.getfield 35, 3) := dzr zhdX11_meets_0 6 rfl
theorem dX11_meets_15 : decode cX11_meets 15 = .ok (.iload_n 2, 1) := dzr zhdX11_meets_0 7 rfl
theorem dX11_meets_16 : decode cX11_meets 16 = .ok (.invokevirtual 155, 3) := dzr zhdX11_meets_0 8 rfl
theorem dX11_meets_19 : decode cX11_meets 19 = .ok (.ifCond .ne 9, 3) := dzr zhdX11_meets_0 9 rfl
theorem dX11_meets_22 : decode cX11_meets 22 = .ok (.aload_n 0, 1) := dzr zhdX11_meets_0 10 rfl
theorem dX11_meets_23 : decode cX11_meets 23 = .ok (.iconst 0, 1) := dzr zhdX11_meets_0 11 rfl
theorem dX11_meets_24 : decode cX11_meets 24 = .ok (.invokevirtual 210, 3) := dzr zhdX11_meets_0 12 rfl
theorem dX11_meets_27 : decode cX11_meets 27 = .ok (.ireturn, 1) := dzr zhdX11_meets_0 13 rfl
theorem dX11_meets_28 : decode cX11_meets 28 = .ok (.aload_n 0, 1) := dzr zhdX11_meets_0 14 rfl
theorem dX11_meets_29 : decode cX11_meets 29 = .ok (.getfield 35, 3) := dzr zhdX11_meets_0 15 rfl
theorem dX11_meets_32 : decode cX11_meets 32 = .ok (.iload_n 1, 1) := dzr zhdX11_meets_0 16 rfl
theorem dX11_meets_33 : decode cX11_meets 33 = .ok (.iload_n 2, 1) := dzr zhdX11_meets_0 17 rfl
theorem dX11_meets_34 : decode cX11_meets 34 = .ok (.invokevirtual 196, 3) := dzr zhdX11_meets_0 18 rfl
theorem dX11_meets_37 : decode cX11_meets 37 = .ok (.ifCond .ne 9, 3) := dzr zhdX11_meets_0 19 rfl
theorem dX11_meets_40 : decode cX11_meets 40 = .ok (.aload_n 0, 1) := dzr zhdX11_meets_0 20 rfl
theorem dX11_meets_41 : decode cX11_meets 41 = .ok (.iconst 1, 1) := dzr zhdX11_meets_0 21 rfl
theorem dX11_meets_42 : decode cX11_meets 42 = .ok (.invokevirtual 210, 3) := dzr zhdX11_meets_0 22 rfl
theorem dX11_meets_45 : decode cX11_meets 45 = .ok (.ireturn, 1) := dzr zhdX11_meets_0 23 rfl
def ztdX11_meets_46 : List (Nat × Instr × Nat) := [(46, .aload_n 0, 1), (47, .getfield 51, 3), (50, .iload_n 1, 1), (51, .invokevirtual 178, 3), (54, .ifCond .ne 14, 3), (57, .aload_n 0, 1), (58, .getfield 51, 3), (61, .iload_n 2, 1), (62, .invokevirtual 178, 3), (65, .ifCond .eq 9, 3), (68, .aload_n 0, 1), (69, .iconst 2, 1), (70, .invokevirtual 210, 3), (73, .ireturn, 1), (74, .aload_n 0, 1), (75, .getfield 51, 3), (78, .invokevirtual 152, 3), (81, .iconst 1, 1), (82, .if_icmp .ge 9, 3), (85, .aload_n 0, 1), (86, .iconst 3, 1), (87, .invokevirtual 210, 3), (90, .ireturn, 1), (91, .aload_n 0, 1)]
theorem zhdX11_meets_46 : dzC ztdX11_meets_46 46 (cX11_meets.data.toList.drop 46) = true := by decide +kernel
theorem dX11_meets_46 : decode cX11_meets 46 = .ok (.aload_n 0, 1) := dzr zhdX11_meets_46 0 rfl
theorem dX11_meets_47 : decode cX11_meets 47 = .ok (.getfield 51, 3) := dzr zhdX11_meets_46 1 rfl
theorem dX11_meets_50 : decode cX11_meets 50 = .ok (.iload_n 1, 1) := dzr zhdX11_meets_46 2 rfl
theorem dX11_meets_51 : decode cX11_meets 51 = .ok (.invokevirtual 178, 3) := dzr zhdX11_meets_46 3 rfl
theorem dX11_meets_54 : decode cX11_meets 54 = .ok (.ifCond .ne 14, 3) := dzr zhdX11_meets_46 4 rfl
theorem dX11_meets_57 : decode cX11_meets 57 = .ok (.aload_n 0, 1) := dzr zhdX11_meets_46 5 rfl
theorem dX11_meets_58 : decode cX11_meets 58 = .ok (.getfield 51, 3) := dzr zhdX11_meets_46 6 rfl
theorem dX11_meets_61 : decode cX11_meets 61 = .ok (.iload_n 2, 1) := dzr zhdX11_meets_46 7 rfl
theorem dX11_meets_62 : decode cX11_meets 62 = .ok (.invokevirtual 178, 3) := dzr zhdX11_meets_46 8 rfl
theorem dX11_meets_65 : decode cX11_meets 65 = .ok (.ifCond .eq 9, 3) := dzr zhdX11_meets_46 9 rfl
theorem dX11_meets_68 : decode cX11_meets 68 = .ok (.aload_n 0, 1) := dzr zhdX11_meets_46 10 rfl
theorem dX11_meets_69 : decode cX11_meets 69 = .ok (.iconst 2, 1) := dzr zhdX11_meets_46 11 rfl
theorem dX11_meets_70 : decode cX11_meets 70 = .ok (.invokevirtual 210, 3) := dzr zhdX11_meets_46 12 rfl
theorem dX11_meets_73 : decode cX11_meets 73 = .ok (.ireturn, 1) := dzr zhdX11_meets_46 13 rfl
theorem dX11_meets_74 : decode cX11_meets 74 = .ok (.aload_n 0, 1) := dzr zhdX11_meets_46 14 rfl
theorem dX11_meets_75 : decode cX11_meets 75 = .ok (.getfield 51, 3) := dzr zhdX11_meets_46 15 rfl
theorem dX11_meets_78 : decode cX11_meets 78 = .ok (.invokevirtual 152, 3) := dzr zhdX11_meets_46 16 rfl
theorem dX11_meets_81 : decode cX11_meets 81 = .ok (.iconst 1, 1) := dzr zhdX11_meets_46 17 rfl
theorem dX11_meets_82 : decode cX11_meets 82 = .ok (.if_icmp .ge 9, 3) := dzr zhdX11_meets_46 18 rfl
theorem dX11_meets_85 : decode cX11_meets 85 = .ok (.aload_n 0, 1) := dzr zhdX11_meets_46 19 rfl
theorem dX11_meets_86 : decode cX11_meets 86 = .ok (.iconst 3, 1) := dzr zhdX11_meets_46 20 rfl
theorem dX11_meets_87 : decode cX11_meets 87 = .ok (.invokevirtual 210, 3) := dzr zhdX11_meets_46 21 rfl
theorem dX11_meets_90 : decode cX11_meets 90 = .ok (.ireturn, 1) := dzr zhdX11_meets_46 22 rfl
theorem dX11_meets_91 : decode cX11_meets 91 = .ok (.aload_n 0, 1) := dzr zhdX11_meets_46 23 rfl
def ztdX11_meets_92 : List (Nat × Instr × Nat) := [(92, .getfield 68, 3), (95, .aload_n 0, 1), (96, .getfield 51, 3), (99, .invokevirtual 213, 3), (102, .aload_n 0, 1), (103, .getfield 51, 3), (106, .iconst 1, 1), (107, .invokevirtual 217, 3), (110, .aload_n 0, 1), (111, .getfield 51, 3), (114, .iload_n 1, 1), (115, .iload_n 2, 1), (116, .invokevirtual 220, 3), (119, .aload_n 0, 1), (120, .getfield 51, 3), (123, .iload_n 1, 1), (124, .iload_n 2, 1), (125, .invokevirtual 200, 3), (128, .ireturn, 1)]
theorem zhdX11_meets_92 : dzC ztdX11_meets_92 92 (cX11_meets.data.toList.drop 92) = true := by decide +kernel
theorem dX11_meets_92 : decode cX11_meets 92 = .ok (.getfield 68, 3) := dzr zhdX11_meets_92 0 rfl
theorem dX11_meets_95 : decode cX11_meets 95 = .ok (.aload_n 0, 1) := dzr zhdX11_meets_92 1 rfl
theorem dX11_meets_96 : decode cX11_meets 96 = .ok (.getfield 51, 3) := dzr zhdX11_meets_92 2 rfl
theorem dX11_meets_99 : decode cX11_meets 99 = .ok (.invokevirtual 213, 3) := dzr zhdX11_meets_92 3 rfl
theorem dX11_meets_102 : decode cX11_meets 102 = .ok (.aload_n 0, 1) := dzr zhdX11_meets_92 4 rfl
theorem dX11_meets_103 : decode cX11_meets 103 = .ok (.getfield 51, 3) := dzr zhdX11_meets_92 5 rfl
theorem dX11_meets_106 : decode cX11_meets 106 = .ok (.iconst 1, 1) := dzr zhdX11_meets_92 6 rfl
theorem dX11_meets_107 : decode cX11_meets 107 = .ok (.invokevirtual 217, 3) := dzr zhdX11_meets_92 7 rfl
theorem dX11_meets_110 : decode cX11_meets 110 = .ok (.aload_n 0, 1) := dzr zhdX11_meets_92 8 rfl
theorem dX11_meets_111 : decode cX11_meets 111 = .ok (.getfield 51, 3) := dzr zhdX11_meets_92 9 rfl
theorem dX11_meets_114 : decode cX11_meets 114 = .ok (.iload_n 1, 1) := dzr zhdX11_meets_92 10 rfl
theorem dX11_meets_115 : decode cX11_meets 115 = .ok (.iload_n 2, 1) := dzr zhdX11_meets_92 11 rfl
theorem dX11_meets_116 : decode cX11_meets 116 = .ok (.invokevirtual 220, 3) := dzr zhdX11_meets_92 12 rfl
theorem dX11_meets_119 : decode cX11_meets 119 = .ok (.aload_n 0, 1) := dzr zhdX11_meets_92 13 rfl
theorem dX11_meets_120 : decode cX11_meets 120 = .ok (.getfield 51, 3) := dzr zhdX11_meets_92 14 rfl
theorem dX11_meets_123 : decode cX11_meets 123 = .ok (.iload_n 1, 1) := dzr zhdX11_meets_92 15 rfl
theorem dX11_meets_124 : decode cX11_meets 124 = .ok (.iload_n 2, 1) := dzr zhdX11_meets_92 16 rfl
theorem dX11_meets_125 : decode cX11_meets 125 = .ok (.invokevirtual 200, 3) := dzr zhdX11_meets_92 17 rfl
theorem dX11_meets_128 : decode cX11_meets 128 = .ok (.ireturn, 1) := dzr zhdX11_meets_92 18 rfl
theorem ggX11_loosen_X5_hasGlove : GoodIn wsX11_loosen wsX5_hasGlove := (bg_up (bg_law (bi_wsL_law0_r24 _ (List.mem_of_getElem? (i := 10) rfl))))
theorem gX11_loosen_X5_hasGlove : GoodIn wsX11_loosen (wsV RX11 155 RX5 yX5_hasGlove wsX5_hasGlove) := goodIn_app (bg_up (bg_cons (bi_wsL_law0_r24 _ (List.mem_of_getElem? (i := 7) rfl)) (bg_cons (bi_wsL_law0_r24 _ (List.mem_of_getElem? (i := 8) rfl)) (bg_cons (bi_wsL_law0_r24 _ (List.mem_of_getElem? (i := 9) rfl)) (bg_cons (bi_wsL_law0_r2 _ (List.mem_of_getElem? (i := 4) rfl)) bg_nil))))) (bg_up (bg_law (bi_wsL_law0_r24 _ (List.mem_of_getElem? (i := 10) rfl))))
theorem ggX11_loosen_X11_refuse : GoodIn wsX11_loosen wsX11_refuse := (bg_up (bg_law (bi_wsL_law0_r28 _ (List.mem_of_getElem? (i := 16) rfl))))
theorem gX11_loosen_X11_refuse : GoodIn wsX11_loosen (wsV RX11 210 RX11 yX11_refuse wsX11_refuse) := goodIn_app (bg_up (bg_cons (bi_wsL_law0_r28 _ (List.mem_of_getElem? (i := 13) rfl)) (bg_cons (bi_wsL_law0_r28 _ (List.mem_of_getElem? (i := 14) rfl)) (bg_cons (bi_wsL_law0_r28 _ (List.mem_of_getElem? (i := 15) rfl)) (bg_cons (bi_wsL_law0_r1 _ (List.mem_of_getElem? (i := 2) rfl)) bg_nil))))) (bg_up (bg_law (bi_wsL_law0_r28 _ (List.mem_of_getElem? (i := 16) rfl))))
theorem ggX11_loosen_X9_free : GoodIn wsX11_loosen wsX9_free := (bg_up (bg_law (bi_wsL_law0_r24 _ (List.mem_of_getElem? (i := 14) rfl))))
theorem gX11_loosen_X9_free : GoodIn wsX11_loosen (wsV RX11 169 RX9 yX9_free wsX9_free) := goodIn_app (bg_up (bg_cons (bi_wsL_law0_r24 _ (List.mem_of_getElem? (i := 11) rfl)) (bg_cons (bi_wsL_law0_r24 _ (List.mem_of_getElem? (i := 12) rfl)) (bg_cons (bi_wsL_law0_r24 _ (List.mem_of_getElem? (i := 13) rfl)) (bg_cons (bi_wsL_law0_r2 _ (List.mem_of_getElem? (i := 12) rfl)) bg_nil))))) (bg_up (bg_law (bi_wsL_law0_r24 _ (List.mem_of_getElem? (i := 14) rfl))))
theorem ggX11_loosen_X9_coins : GoodIn wsX11_loosen wsX9_coins := (bg_up (bg_law (bi_wsL_law0_r23 _ (List.mem_of_getElem? (i := 13) rfl))))
theorem gX11_loosen_X9_coins : GoodIn wsX11_loosen (wsV RX11 152 RX9 yX9_coins wsX9_coins) := goodIn_app (bg_up (bg_cons (bi_wsL_law0_r23 _ (List.mem_of_getElem? (i := 10) rfl)) (bg_cons (bi_wsL_law0_r23 _ (List.mem_of_getElem? (i := 11) rfl)) (bg_cons (bi_wsL_law0_r23 _ (List.mem_of_getElem? (i := 12) rfl)) (bg_cons (bi_wsL_law0_r2 _ (List.mem_of_getElem? (i := 12) rfl)) bg_nil))))) (bg_up (bg_law (bi_wsL_law0_r23 _ (List.mem_of_getElem? (i := 13) rfl))))
theorem ggX11_loosen_X0_keep : GoodIn wsX11_loosen wsX0_keep := (bg_up (bg_law (bi_wsL_law0_r28 _ (List.mem_of_getElem? (i := 20) rfl))))
theorem gX11_loosen_X0_keep : GoodIn wsX11_loosen (wsV RX11 213 RX0 yX0_keep wsX0_keep) := goodIn_app (bg_up (bg_cons (bi_wsL_law0_r28 _ (List.mem_of_getElem? (i := 17) rfl)) (bg_cons (bi_wsL_law0_r28 _ (List.mem_of_getElem? (i := 18) rfl)) (bg_cons (bi_wsL_law0_r28 _ (List.mem_of_getElem? (i := 19) rfl)) (bg_cons (bi_wsL_law0_r2 _ (List.mem_of_getElem? (i := 21) rfl)) bg_nil))))) (bg_up (bg_law (bi_wsL_law0_r28 _ (List.mem_of_getElem? (i := 20) rfl))))
theorem ggX11_loosen_X9_pay : GoodIn wsX11_loosen wsX9_pay := (bg_up (bg_law (bi_wsL_law0_r29 _ (List.mem_of_getElem? (i := 4) rfl))))
theorem gX11_loosen_X9_pay : GoodIn wsX11_loosen (wsV RX11 217 RX9 yX9_pay wsX9_pay) := goodIn_app (bg_up (bg_cons (bi_wsL_law0_r29 _ (List.mem_of_getElem? (i := 1) rfl)) (bg_cons (bi_wsL_law0_r29 _ (List.mem_of_getElem? (i := 2) rfl)) (bg_cons (bi_wsL_law0_r29 _ (List.mem_of_getElem? (i := 3) rfl)) (bg_cons (bi_wsL_law0_r2 _ (List.mem_of_getElem? (i := 12) rfl)) bg_nil))))) (bg_up (bg_law (bi_wsL_law0_r29 _ (List.mem_of_getElem? (i := 4) rfl))))
theorem ggX11_loosen_X9_setFree : GoodIn wsX11_loosen wsX9_setFree := (bg_up (bg_law (bi_wsL_law0_r34 _ (List.mem_of_getElem? (i := 10) rfl))))
theorem gX11_loosen_X9_setFree : GoodIn wsX11_loosen (wsV RX11 224 RX9 yX9_setFree wsX9_setFree) := goodIn_app (bg_up (bg_cons (bi_wsL_law0_r34 _ (List.mem_of_getElem? (i := 7) rfl)) (bg_cons (bi_wsL_law0_r34 _ (List.mem_of_getElem? (i := 8) rfl)) (bg_cons (bi_wsL_law0_r34 _ (List.mem_of_getElem? (i := 9) rfl)) (bg_cons (bi_wsL_law0_r2 _ (List.mem_of_getElem? (i := 12) rfl)) bg_nil))))) (bg_up (bg_law (bi_wsL_law0_r34 _ (List.mem_of_getElem? (i := 10) rfl))))
def ztdX11_loosen_0 : List (Nat × Instr × Nat) := [(0, .aload_n 0, 1), (1, .getfield 35, 3), (4, .iload_n 1, 1), (5, .invokevirtual 155, 3), (8, .ifCond .ne 9, 3), (11, .aload_n 0, 1), (12, .iconst 0, 1), (13, .invokevirtual 210, 3), (16, .ireturn, 1), (17, .aload_n 0, 1), (18, .getfield 51, 3), (21, .iload_n 1, 1), (22, .invokevirtual 169, 3), (25, .bipush 9, 2), (27, .if_icmp .lt 9, 3), (30, .aload_n 0, 1), (31, .iconst 2, 1), (32, .invokevirtual 210, 3), (35, .ireturn, 1), (36, .aload_n 0, 1), (37, .getfield 51, 3), (40, .invokevirtual 152, 3), (43, .iconst 3, 1), (44, .if_icmp .ge 9, 3)]
theorem zhdX11_loosen_0 : dzC ztdX11_loosen_0 0 (cX11_loosen.data.toList.drop 0) = true := by decide +kernel
theorem dX11_loosen_0 : decode cX11_loosen 0 = .ok (.aload_n 0, 1) := dzr zhdX11_loosen_0 0 rfl
theorem dX11_loosen_1 : decode cX11_loosen 1 = .ok (.getfield 35, 3) := dzr zhdX11_loosen_0 1 rfl
theorem dX11_loosen_4 : decode cX11_loosen 4 = .ok (.iload_n 1, 1) := dzr zhdX11_loosen_0 2 rfl
theorem dX11_loosen_5 : decode cX11_loosen 5 = .ok (.invokevirtual 155, 3) := dzr zhdX11_loosen_0 3 rfl
theorem dX11_loosen_8 : decode cX11_loosen 8 = .ok (.ifCond .ne 9, 3) := dzr zhdX11_loosen_0 4 rfl
theorem dX11_loosen_11 : decode cX11_loosen 11 = .ok (.aload_n 0, 1) := dzr zhdX11_loosen_0 5 rfl
theorem dX11_loosen_12 : decode cX11_loosen 12 = .ok (.iconst 0, 1) := dzr zhdX11_loosen_0 6 rfl
theorem dX11_loosen_13 : decode cX11_loosen 13 = .ok (.invokevirtual 210, 3) := dzr zhdX11_loosen_0 7 rfl
theorem dX11_loosen_16 : decode cX11_loosen 16 = .ok (.ireturn, 1) := dzr zhdX11_loosen_0 8 rfl
theorem dX11_loosen_17 : decode cX11_loosen 17 = .ok (.aload_n 0, 1) := dzr zhdX11_loosen_0 9 rfl
theorem dX11_loosen_18 : decode cX11_loosen 18 = .ok (.getfield 51, 3) := dzr zhdX11_loosen_0 10 rfl
theorem dX11_loosen_21 : decode cX11_loosen 21 = .ok (.iload_n 1, 1) := dzr zhdX11_loosen_0 11 rfl
theorem dX11_loosen_22 : decode cX11_loosen 22 = .ok (.invokevirtual 169, 3) := dzr zhdX11_loosen_0 12 rfl
theorem dX11_loosen_25 : decode cX11_loosen 25 = .ok (.bipush 9, 2) := dzr zhdX11_loosen_0 13 rfl
theorem dX11_loosen_27 : decode cX11_loosen 27 = .ok (.if_icmp .lt 9, 3) := dzr zhdX11_loosen_0 14 rfl
theorem dX11_loosen_30 : decode cX11_loosen 30 = .ok (.aload_n 0, 1) := dzr zhdX11_loosen_0 15 rfl
theorem dX11_loosen_31 : decode cX11_loosen 31 = .ok (.iconst 2, 1) := dzr zhdX11_loosen_0 16 rfl
theorem dX11_loosen_32 : decode cX11_loosen 32 = .ok (.invokevirtual 210, 3) := dzr zhdX11_loosen_0 17 rfl
theorem dX11_loosen_35 : decode cX11_loosen 35 = .ok (.ireturn, 1) := dzr zhdX11_loosen_0 18 rfl
theorem dX11_loosen_36 : decode cX11_loosen 36 = .ok (.aload_n 0, 1) := dzr zhdX11_loosen_0 19 rfl
theorem dX11_loosen_37 : decode cX11_loosen 37 = .ok (.getfield 51, 3) := dzr zhdX11_loosen_0 20 rfl
theorem dX11_loosen_40 : decode cX11_loosen 40 = .ok (.invokevirtual 152, 3) := dzr zhdX11_loosen_0 21 rfl
theorem dX11_loosen_43 : decode cX11_loosen 43 = .ok (.iconst 3, 1) := dzr zhdX11_loosen_0 22 rfl
theorem dX11_loosen_44 : decode cX11_loosen 44 = .ok (.if_icmp .ge 9, 3) := dzr zhdX11_loosen_0 23 rfl
def ztdX11_loosen_47 : List (Nat × Instr × Nat) := [(47, .aload_n 0, 1), (48, .iconst 3, 1), (49, .invokevirtual 210, 3), (52, .ireturn, 1), (53, .aload_n 0, 1), (54, .getfield 68, 3), (57, .aload_n 0, 1), (58, .getfield 51, 3), (61, .invokevirtual 213, 3), (64, .aload_n 0, 1), (65, .getfield 51, 3), (68, .iconst 3, 1), (69, .invokevirtual 217, 3), (72, .aload_n 0, 1), (73, .getfield 51, 3), (76, .iload_n 1, 1), (77, .aload_n 0, 1), (78, .getfield 51, 3), (81, .iload_n 1, 1), (82, .invokevirtual 169, 3), (85, .iconst 1, 1), (86, .iadd, 1), (87, .invokevirtual 224, 3), (90, .aload_n 0, 1)]
theorem zhdX11_loosen_47 : dzC ztdX11_loosen_47 47 (cX11_loosen.data.toList.drop 47) = true := by decide +kernel
theorem dX11_loosen_47 : decode cX11_loosen 47 = .ok (.aload_n 0, 1) := dzr zhdX11_loosen_47 0 rfl
theorem dX11_loosen_48 : decode cX11_loosen 48 = .ok (.iconst 3, 1) := dzr zhdX11_loosen_47 1 rfl
theorem dX11_loosen_49 : decode cX11_loosen 49 = .ok (.invokevirtual 210, 3) := dzr zhdX11_loosen_47 2 rfl
theorem dX11_loosen_52 : decode cX11_loosen 52 = .ok (.ireturn, 1) := dzr zhdX11_loosen_47 3 rfl
theorem dX11_loosen_53 : decode cX11_loosen 53 = .ok (.aload_n 0, 1) := dzr zhdX11_loosen_47 4 rfl
theorem dX11_loosen_54 : decode cX11_loosen 54 = .ok (.getfield 68, 3) := dzr zhdX11_loosen_47 5 rfl
theorem dX11_loosen_57 : decode cX11_loosen 57 = .ok (.aload_n 0, 1) := dzr zhdX11_loosen_47 6 rfl
theorem dX11_loosen_58 : decode cX11_loosen 58 = .ok (.getfield 51, 3) := dzr zhdX11_loosen_47 7 rfl
theorem dX11_loosen_61 : decode cX11_loosen 61 = .ok (.invokevirtual 213, 3) := dzr zhdX11_loosen_47 8 rfl
theorem dX11_loosen_64 : decode cX11_loosen 64 = .ok (.aload_n 0, 1) := dzr zhdX11_loosen_47 9 rfl
theorem dX11_loosen_65 : decode cX11_loosen 65 = .ok (.getfield 51, 3) := dzr zhdX11_loosen_47 10 rfl
theorem dX11_loosen_68 : decode cX11_loosen 68 = .ok (.iconst 3, 1) := dzr zhdX11_loosen_47 11 rfl
theorem dX11_loosen_69 : decode cX11_loosen 69 = .ok (.invokevirtual 217, 3) := dzr zhdX11_loosen_47 12 rfl
theorem dX11_loosen_72 : decode cX11_loosen 72 = .ok (.aload_n 0, 1) := dzr zhdX11_loosen_47 13 rfl
theorem dX11_loosen_73 : decode cX11_loosen 73 = .ok (.getfield 51, 3) := dzr zhdX11_loosen_47 14 rfl
theorem dX11_loosen_76 : decode cX11_loosen 76 = .ok (.iload_n 1, 1) := dzr zhdX11_loosen_47 15 rfl
theorem dX11_loosen_77 : decode cX11_loosen 77 = .ok (.aload_n 0, 1) := dzr zhdX11_loosen_47 16 rfl
theorem dX11_loosen_78 : decode cX11_loosen 78 = .ok (.getfield 51, 3) := dzr zhdX11_loosen_47 17 rfl
theorem dX11_loosen_81 : decode cX11_loosen 81 = .ok (.iload_n 1, 1) := dzr zhdX11_loosen_47 18 rfl
theorem dX11_loosen_82 : decode cX11_loosen 82 = .ok (.invokevirtual 169, 3) := dzr zhdX11_loosen_47 19 rfl
theorem dX11_loosen_85 : decode cX11_loosen 85 = .ok (.iconst 1, 1) := dzr zhdX11_loosen_47 20 rfl
theorem dX11_loosen_86 : decode cX11_loosen 86 = .ok (.iadd, 1) := dzr zhdX11_loosen_47 21 rfl
theorem dX11_loosen_87 : decode cX11_loosen 87 = .ok (.invokevirtual 224, 3) := dzr zhdX11_loosen_47 22 rfl
theorem dX11_loosen_90 : decode cX11_loosen 90 = .ok (.aload_n 0, 1) := dzr zhdX11_loosen_47 23 rfl
def ztdX11_loosen_91 : List (Nat × Instr × Nat) := [(91, .getfield 51, 3), (94, .iload_n 1, 1), (95, .invokevirtual 169, 3), (98, .ireturn, 1)]
theorem zhdX11_loosen_91 : dzC ztdX11_loosen_91 91 (cX11_loosen.data.toList.drop 91) = true := by decide +kernel
theorem dX11_loosen_91 : decode cX11_loosen 91 = .ok (.getfield 51, 3) := dzr zhdX11_loosen_91 0 rfl
theorem dX11_loosen_94 : decode cX11_loosen 94 = .ok (.iload_n 1, 1) := dzr zhdX11_loosen_91 1 rfl
theorem dX11_loosen_95 : decode cX11_loosen 95 = .ok (.invokevirtual 169, 3) := dzr zhdX11_loosen_91 2 rfl
theorem dX11_loosen_98 : decode cX11_loosen 98 = .ok (.ireturn, 1) := dzr zhdX11_loosen_91 3 rfl
theorem ggX11_stuff_X5_hasGlove : GoodIn wsX11_stuff wsX5_hasGlove := (bg_up (bg_law (bi_wsL_law0_r24 _ (List.mem_of_getElem? (i := 10) rfl))))
theorem gX11_stuff_X5_hasGlove : GoodIn wsX11_stuff (wsV RX11 155 RX5 yX5_hasGlove wsX5_hasGlove) := goodIn_app (bg_up (bg_cons (bi_wsL_law0_r24 _ (List.mem_of_getElem? (i := 7) rfl)) (bg_cons (bi_wsL_law0_r24 _ (List.mem_of_getElem? (i := 8) rfl)) (bg_cons (bi_wsL_law0_r24 _ (List.mem_of_getElem? (i := 9) rfl)) (bg_cons (bi_wsL_law0_r2 _ (List.mem_of_getElem? (i := 4) rfl)) bg_nil))))) (bg_up (bg_law (bi_wsL_law0_r24 _ (List.mem_of_getElem? (i := 10) rfl))))
theorem ggX11_stuff_X11_refuse : GoodIn wsX11_stuff wsX11_refuse := (bg_up (bg_law (bi_wsL_law0_r28 _ (List.mem_of_getElem? (i := 16) rfl))))
theorem gX11_stuff_X11_refuse : GoodIn wsX11_stuff (wsV RX11 210 RX11 yX11_refuse wsX11_refuse) := goodIn_app (bg_up (bg_cons (bi_wsL_law0_r28 _ (List.mem_of_getElem? (i := 13) rfl)) (bg_cons (bi_wsL_law0_r28 _ (List.mem_of_getElem? (i := 14) rfl)) (bg_cons (bi_wsL_law0_r28 _ (List.mem_of_getElem? (i := 15) rfl)) (bg_cons (bi_wsL_law0_r1 _ (List.mem_of_getElem? (i := 2) rfl)) bg_nil))))) (bg_up (bg_law (bi_wsL_law0_r28 _ (List.mem_of_getElem? (i := 16) rfl))))
theorem ggX11_stuff_X9_stuffed : GoodIn wsX11_stuff wsX9_stuffed := (bg_up (bg_law (bi_wsL_law0_r24 _ (List.mem_of_getElem? (i := 18) rfl))))
theorem gX11_stuff_X9_stuffed : GoodIn wsX11_stuff (wsV RX11 172 RX9 yX9_stuffed wsX9_stuffed) := goodIn_app (bg_up (bg_cons (bi_wsL_law0_r24 _ (List.mem_of_getElem? (i := 15) rfl)) (bg_cons (bi_wsL_law0_r24 _ (List.mem_of_getElem? (i := 16) rfl)) (bg_cons (bi_wsL_law0_r24 _ (List.mem_of_getElem? (i := 17) rfl)) (bg_cons (bi_wsL_law0_r2 _ (List.mem_of_getElem? (i := 12) rfl)) bg_nil))))) (bg_up (bg_law (bi_wsL_law0_r24 _ (List.mem_of_getElem? (i := 18) rfl))))
theorem ggX11_stuff_X9_coins : GoodIn wsX11_stuff wsX9_coins := (bg_up (bg_law (bi_wsL_law0_r23 _ (List.mem_of_getElem? (i := 13) rfl))))
theorem gX11_stuff_X9_coins : GoodIn wsX11_stuff (wsV RX11 152 RX9 yX9_coins wsX9_coins) := goodIn_app (bg_up (bg_cons (bi_wsL_law0_r23 _ (List.mem_of_getElem? (i := 10) rfl)) (bg_cons (bi_wsL_law0_r23 _ (List.mem_of_getElem? (i := 11) rfl)) (bg_cons (bi_wsL_law0_r23 _ (List.mem_of_getElem? (i := 12) rfl)) (bg_cons (bi_wsL_law0_r2 _ (List.mem_of_getElem? (i := 12) rfl)) bg_nil))))) (bg_up (bg_law (bi_wsL_law0_r23 _ (List.mem_of_getElem? (i := 13) rfl))))
theorem ggX11_stuff_X0_keep : GoodIn wsX11_stuff wsX0_keep := (bg_up (bg_law (bi_wsL_law0_r28 _ (List.mem_of_getElem? (i := 20) rfl))))
theorem gX11_stuff_X0_keep : GoodIn wsX11_stuff (wsV RX11 213 RX0 yX0_keep wsX0_keep) := goodIn_app (bg_up (bg_cons (bi_wsL_law0_r28 _ (List.mem_of_getElem? (i := 17) rfl)) (bg_cons (bi_wsL_law0_r28 _ (List.mem_of_getElem? (i := 18) rfl)) (bg_cons (bi_wsL_law0_r28 _ (List.mem_of_getElem? (i := 19) rfl)) (bg_cons (bi_wsL_law0_r2 _ (List.mem_of_getElem? (i := 21) rfl)) bg_nil))))) (bg_up (bg_law (bi_wsL_law0_r28 _ (List.mem_of_getElem? (i := 20) rfl))))
theorem ggX11_stuff_X9_pay : GoodIn wsX11_stuff wsX9_pay := (bg_up (bg_law (bi_wsL_law0_r29 _ (List.mem_of_getElem? (i := 4) rfl))))
theorem gX11_stuff_X9_pay : GoodIn wsX11_stuff (wsV RX11 217 RX9 yX9_pay wsX9_pay) := goodIn_app (bg_up (bg_cons (bi_wsL_law0_r29 _ (List.mem_of_getElem? (i := 1) rfl)) (bg_cons (bi_wsL_law0_r29 _ (List.mem_of_getElem? (i := 2) rfl)) (bg_cons (bi_wsL_law0_r29 _ (List.mem_of_getElem? (i := 3) rfl)) (bg_cons (bi_wsL_law0_r2 _ (List.mem_of_getElem? (i := 12) rfl)) bg_nil))))) (bg_up (bg_law (bi_wsL_law0_r29 _ (List.mem_of_getElem? (i := 4) rfl))))
theorem ggX11_stuff_X9_setStuffed : GoodIn wsX11_stuff wsX9_setStuffed := (bg_up (bg_law (bi_wsL_law0_r34 _ (List.mem_of_getElem? (i := 22) rfl))))
theorem gX11_stuff_X9_setStuffed : GoodIn wsX11_stuff (wsV RX11 227 RX9 yX9_setStuffed wsX9_setStuffed) := goodIn_app (bg_up (bg_cons (bi_wsL_law0_r34 _ (List.mem_of_getElem? (i := 19) rfl)) (bg_cons (bi_wsL_law0_r34 _ (List.mem_of_getElem? (i := 20) rfl)) (bg_cons (bi_wsL_law0_r34 _ (List.mem_of_getElem? (i := 21) rfl)) (bg_cons (bi_wsL_law0_r2 _ (List.mem_of_getElem? (i := 12) rfl)) bg_nil))))) (bg_up (bg_law (bi_wsL_law0_r34 _ (List.mem_of_getElem? (i := 22) rfl))))
def ztdX11_stuff_0 : List (Nat × Instr × Nat) := [(0, .aload_n 0, 1), (1, .getfield 35, 3), (4, .iload_n 1, 1), (5, .invokevirtual 155, 3), (8, .ifCond .ne 9, 3), (11, .aload_n 0, 1), (12, .iconst 0, 1), (13, .invokevirtual 210, 3), (16, .ireturn, 1), (17, .iload_n 2, 1), (18, .ifCond .lt 9, 3), (21, .iload_n 2, 1), (22, .bipush 9, 2), (24, .if_icmp .le 9, 3), (27, .aload_n 0, 1), (28, .iconst 1, 1), (29, .invokevirtual 210, 3), (32, .ireturn, 1), (33, .aload_n 0, 1), (34, .getfield 51, 3), (37, .iload_n 1, 1), (38, .invokevirtual 172, 3), (41, .istore_n 3, 1), (42, .iload_n 3, 1)]
theorem zhdX11_stuff_0 : dzC ztdX11_stuff_0 0 (cX11_stuff.data.toList.drop 0) = true := by decide +kernel
theorem dX11_stuff_0 : decode cX11_stuff 0 = .ok (.aload_n 0, 1) := dzr zhdX11_stuff_0 0 rfl
theorem dX11_stuff_1 : decode cX11_stuff 1 = .ok (.getfield 35, 3) := dzr zhdX11_stuff_0 1 rfl
theorem dX11_stuff_4 : decode cX11_stuff 4 = .ok (.iload_n 1, 1) := dzr zhdX11_stuff_0 2 rfl
theorem dX11_stuff_5 : decode cX11_stuff 5 = .ok (.invokevirtual 155, 3) := dzr zhdX11_stuff_0 3 rfl
theorem dX11_stuff_8 : decode cX11_stuff 8 = .ok (.ifCond .ne 9, 3) := dzr zhdX11_stuff_0 4 rfl
theorem dX11_stuff_11 : decode cX11_stuff 11 = .ok (.aload_n 0, 1) := dzr zhdX11_stuff_0 5 rfl
theorem dX11_stuff_12 : decode cX11_stuff 12 = .ok (.iconst 0, 1) := dzr zhdX11_stuff_0 6 rfl
theorem dX11_stuff_13 : decode cX11_stuff 13 = .ok (.invokevirtual 210, 3) := dzr zhdX11_stuff_0 7 rfl
theorem dX11_stuff_16 : decode cX11_stuff 16 = .ok (.ireturn, 1) := dzr zhdX11_stuff_0 8 rfl
theorem dX11_stuff_17 : decode cX11_stuff 17 = .ok (.iload_n 2, 1) := dzr zhdX11_stuff_0 9 rfl
theorem dX11_stuff_18 : decode cX11_stuff 18 = .ok (.ifCond .lt 9, 3) := dzr zhdX11_stuff_0 10 rfl
theorem dX11_stuff_21 : decode cX11_stuff 21 = .ok (.iload_n 2, 1) := dzr zhdX11_stuff_0 11 rfl
theorem dX11_stuff_22 : decode cX11_stuff 22 = .ok (.bipush 9, 2) := dzr zhdX11_stuff_0 12 rfl
theorem dX11_stuff_24 : decode cX11_stuff 24 = .ok (.if_icmp .le 9, 3) := dzr zhdX11_stuff_0 13 rfl
theorem dX11_stuff_27 : decode cX11_stuff 27 = .ok (.aload_n 0, 1) := dzr zhdX11_stuff_0 14 rfl
theorem dX11_stuff_28 : decode cX11_stuff 28 = .ok (.iconst 1, 1) := dzr zhdX11_stuff_0 15 rfl
theorem dX11_stuff_29 : decode cX11_stuff 29 = .ok (.invokevirtual 210, 3) := dzr zhdX11_stuff_0 16 rfl
theorem dX11_stuff_32 : decode cX11_stuff 32 = .ok (.ireturn, 1) := dzr zhdX11_stuff_0 17 rfl
theorem dX11_stuff_33 : decode cX11_stuff 33 = .ok (.aload_n 0, 1) := dzr zhdX11_stuff_0 18 rfl
theorem dX11_stuff_34 : decode cX11_stuff 34 = .ok (.getfield 51, 3) := dzr zhdX11_stuff_0 19 rfl
theorem dX11_stuff_37 : decode cX11_stuff 37 = .ok (.iload_n 1, 1) := dzr zhdX11_stuff_0 20 rfl
theorem dX11_stuff_38 : decode cX11_stuff 38 = .ok (.invokevirtual 172, 3) := dzr zhdX11_stuff_0 21 rfl
theorem dX11_stuff_41 : decode cX11_stuff 41 = .ok (.istore_n 3, 1) := dzr zhdX11_stuff_0 22 rfl
theorem dX11_stuff_42 : decode cX11_stuff 42 = .ok (.iload_n 3, 1) := dzr zhdX11_stuff_0 23 rfl
def ztdX11_stuff_43 : List (Nat × Instr × Nat) := [(43, .iload_n 2, 1), (44, .if_icmp .ne 9, 3), (47, .aload_n 0, 1), (48, .iconst 2, 1), (49, .invokevirtual 210, 3), (52, .ireturn, 1), (53, .aload_n 0, 1), (54, .getfield 51, 3), (57, .invokevirtual 152, 3), (60, .iconst 2, 1), (61, .if_icmp .ge 9, 3), (64, .aload_n 0, 1), (65, .iconst 3, 1), (66, .invokevirtual 210, 3), (69, .ireturn, 1), (70, .aload_n 0, 1), (71, .getfield 68, 3), (74, .aload_n 0, 1), (75, .getfield 51, 3), (78, .invokevirtual 213, 3), (81, .aload_n 0, 1), (82, .getfield 51, 3), (85, .iconst 2, 1), (86, .invokevirtual 217, 3)]
theorem zhdX11_stuff_43 : dzC ztdX11_stuff_43 43 (cX11_stuff.data.toList.drop 43) = true := by decide +kernel
theorem dX11_stuff_43 : decode cX11_stuff 43 = .ok (.iload_n 2, 1) := dzr zhdX11_stuff_43 0 rfl
theorem dX11_stuff_44 : decode cX11_stuff 44 = .ok (.if_icmp .ne 9, 3) := dzr zhdX11_stuff_43 1 rfl
theorem dX11_stuff_47 : decode cX11_stuff 47 = .ok (.aload_n 0, 1) := dzr zhdX11_stuff_43 2 rfl
theorem dX11_stuff_48 : decode cX11_stuff 48 = .ok (.iconst 2, 1) := dzr zhdX11_stuff_43 3 rfl
theorem dX11_stuff_49 : decode cX11_stuff 49 = .ok (.invokevirtual 210, 3) := dzr zhdX11_stuff_43 4 rfl
theorem dX11_stuff_52 : decode cX11_stuff 52 = .ok (.ireturn, 1) := dzr zhdX11_stuff_43 5 rfl
theorem dX11_stuff_53 : decode cX11_stuff 53 = .ok (.aload_n 0, 1) := dzr zhdX11_stuff_43 6 rfl
theorem dX11_stuff_54 : decode cX11_stuff 54 = .ok (.getfield 51, 3) := dzr zhdX11_stuff_43 7 rfl
theorem dX11_stuff_57 : decode cX11_stuff 57 = .ok (.invokevirtual 152, 3) := dzr zhdX11_stuff_43 8 rfl
theorem dX11_stuff_60 : decode cX11_stuff 60 = .ok (.iconst 2, 1) := dzr zhdX11_stuff_43 9 rfl
theorem dX11_stuff_61 : decode cX11_stuff 61 = .ok (.if_icmp .ge 9, 3) := dzr zhdX11_stuff_43 10 rfl
theorem dX11_stuff_64 : decode cX11_stuff 64 = .ok (.aload_n 0, 1) := dzr zhdX11_stuff_43 11 rfl
theorem dX11_stuff_65 : decode cX11_stuff 65 = .ok (.iconst 3, 1) := dzr zhdX11_stuff_43 12 rfl
theorem dX11_stuff_66 : decode cX11_stuff 66 = .ok (.invokevirtual 210, 3) := dzr zhdX11_stuff_43 13 rfl
theorem dX11_stuff_69 : decode cX11_stuff 69 = .ok (.ireturn, 1) := dzr zhdX11_stuff_43 14 rfl
theorem dX11_stuff_70 : decode cX11_stuff 70 = .ok (.aload_n 0, 1) := dzr zhdX11_stuff_43 15 rfl
theorem dX11_stuff_71 : decode cX11_stuff 71 = .ok (.getfield 68, 3) := dzr zhdX11_stuff_43 16 rfl
theorem dX11_stuff_74 : decode cX11_stuff 74 = .ok (.aload_n 0, 1) := dzr zhdX11_stuff_43 17 rfl
theorem dX11_stuff_75 : decode cX11_stuff 75 = .ok (.getfield 51, 3) := dzr zhdX11_stuff_43 18 rfl
theorem dX11_stuff_78 : decode cX11_stuff 78 = .ok (.invokevirtual 213, 3) := dzr zhdX11_stuff_43 19 rfl
theorem dX11_stuff_81 : decode cX11_stuff 81 = .ok (.aload_n 0, 1) := dzr zhdX11_stuff_43 20 rfl
theorem dX11_stuff_82 : decode cX11_stuff 82 = .ok (.getfield 51, 3) := dzr zhdX11_stuff_43 21 rfl
theorem dX11_stuff_85 : decode cX11_stuff 85 = .ok (.iconst 2, 1) := dzr zhdX11_stuff_43 22 rfl
theorem dX11_stuff_86 : decode cX11_stuff 86 = .ok (.invokevirtual 217, 3) := dzr zhdX11_stuff_43 23 rfl
def ztdX11_stuff_89 : List (Nat × Instr × Nat) := [(89, .aload_n 0, 1), (90, .getfield 51, 3), (93, .iload_n 1, 1), (94, .iload_n 2, 1), (95, .invokevirtual 227, 3), (98, .iload_n 3, 1), (99, .ireturn, 1)]
theorem zhdX11_stuff_89 : dzC ztdX11_stuff_89 89 (cX11_stuff.data.toList.drop 89) = true := by decide +kernel
theorem dX11_stuff_89 : decode cX11_stuff 89 = .ok (.aload_n 0, 1) := dzr zhdX11_stuff_89 0 rfl
theorem dX11_stuff_90 : decode cX11_stuff 90 = .ok (.getfield 51, 3) := dzr zhdX11_stuff_89 1 rfl
theorem dX11_stuff_93 : decode cX11_stuff 93 = .ok (.iload_n 1, 1) := dzr zhdX11_stuff_89 2 rfl
theorem dX11_stuff_94 : decode cX11_stuff 94 = .ok (.iload_n 2, 1) := dzr zhdX11_stuff_89 3 rfl
theorem dX11_stuff_95 : decode cX11_stuff 95 = .ok (.invokevirtual 227, 3) := dzr zhdX11_stuff_89 4 rfl
theorem dX11_stuff_98 : decode cX11_stuff 98 = .ok (.iload_n 3, 1) := dzr zhdX11_stuff_89 5 rfl
theorem dX11_stuff_99 : decode cX11_stuff 99 = .ok (.ireturn, 1) := dzr zhdX11_stuff_89 6 rfl
theorem ggX11_swallow_X11_noPeace : GoodIn wsX11_swallow wsX11_noPeace := (bg_up (bg_law (bi_wsL_law0_r23 _ (List.mem_of_getElem? (i := 5) rfl))))
theorem gX11_swallow_X11_noPeace : GoodIn wsX11_swallow (wsV RX11 146 RX11 yX11_noPeace wsX11_noPeace) := goodIn_app (bg_up (bg_cons (bi_wsL_law0_r23 _ (List.mem_of_getElem? (i := 2) rfl)) (bg_cons (bi_wsL_law0_r23 _ (List.mem_of_getElem? (i := 3) rfl)) (bg_cons (bi_wsL_law0_r23 _ (List.mem_of_getElem? (i := 4) rfl)) (bg_cons (bi_wsL_law0_r1 _ (List.mem_of_getElem? (i := 2) rfl)) bg_nil))))) (bg_up (bg_law (bi_wsL_law0_r23 _ (List.mem_of_getElem? (i := 5) rfl))))
theorem ggX11_swallow_X11_refuse : GoodIn wsX11_swallow wsX11_refuse := (bg_up (bg_law (bi_wsL_law0_r28 _ (List.mem_of_getElem? (i := 16) rfl))))
theorem gX11_swallow_X11_refuse : GoodIn wsX11_swallow (wsV RX11 210 RX11 yX11_refuse wsX11_refuse) := goodIn_app (bg_up (bg_cons (bi_wsL_law0_r28 _ (List.mem_of_getElem? (i := 13) rfl)) (bg_cons (bi_wsL_law0_r28 _ (List.mem_of_getElem? (i := 14) rfl)) (bg_cons (bi_wsL_law0_r28 _ (List.mem_of_getElem? (i := 15) rfl)) (bg_cons (bi_wsL_law0_r1 _ (List.mem_of_getElem? (i := 2) rfl)) bg_nil))))) (bg_up (bg_law (bi_wsL_law0_r28 _ (List.mem_of_getElem? (i := 16) rfl))))
theorem ggX11_swallow_X9_pride : GoodIn wsX11_swallow wsX9_pride := (bg_up (bg_law (bi_wsL_law0_r23 _ (List.mem_of_getElem? (i := 9) rfl))))
theorem gX11_swallow_X9_pride : GoodIn wsX11_swallow (wsV RX11 149 RX9 yX9_pride wsX9_pride) := goodIn_app (bg_up (bg_cons (bi_wsL_law0_r23 _ (List.mem_of_getElem? (i := 6) rfl)) (bg_cons (bi_wsL_law0_r23 _ (List.mem_of_getElem? (i := 7) rfl)) (bg_cons (bi_wsL_law0_r23 _ (List.mem_of_getElem? (i := 8) rfl)) (bg_cons (bi_wsL_law0_r2 _ (List.mem_of_getElem? (i := 12) rfl)) bg_nil))))) (bg_up (bg_law (bi_wsL_law0_r23 _ (List.mem_of_getElem? (i := 9) rfl))))
