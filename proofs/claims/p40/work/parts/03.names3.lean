def ztdX12_text_5 : List (Nat × Instr × Nat) := [(5, .invokevirtual 246, 3), (8, .iconst (-1), 1), (9, .if_icmp .ne 13, 3), (12, .aload_n 0, 1), (13, .iconst 0, 1), (14, .putfield 103, 3), (17, .aload_n 0, 1), (18, .invokevirtual 271, 3), (21, .ireturn, 1), (22, .iload_n 1, 1), (23, .iconst 1, 1), (24, .if_icmp .ne 45, 3), (27, .aload_n 0, 1), (28, .getfield 274, 3), (31, .iconst 4, 1), (32, .if_icmp .ge 37, 3), (35, .aload_n 0, 1), (36, .aload_n 0, 1), (37, .getfield 274, 3), (40, .invokevirtual 249, 3), (43, .iconst (-1), 1), (44, .if_icmp .ne 25, 3), (47, .aload_n 0, 1), (48, .iconst 0, 1)]
theorem zhdX12_text_5 : dzC ztdX12_text_5 5 (cX12_text.data.toList.drop 5) = true := by decide +kernel
theorem dX12_text_5 : decode cX12_text 5 = .ok (.invokevirtual 246, 3) := dzr zhdX12_text_5 0 rfl
theorem dX12_text_8 : decode cX12_text 8 = .ok (.iconst (-1), 1) := dzr zhdX12_text_5 1 rfl
theorem dX12_text_9 : decode cX12_text 9 = .ok (.if_icmp .ne 13, 3) := dzr zhdX12_text_5 2 rfl
theorem dX12_text_12 : decode cX12_text 12 = .ok (.aload_n 0, 1) := dzr zhdX12_text_5 3 rfl
theorem dX12_text_13 : decode cX12_text 13 = .ok (.iconst 0, 1) := dzr zhdX12_text_5 4 rfl
theorem dX12_text_14 : decode cX12_text 14 = .ok (.putfield 103, 3) := dzr zhdX12_text_5 5 rfl
theorem dX12_text_17 : decode cX12_text 17 = .ok (.aload_n 0, 1) := dzr zhdX12_text_5 6 rfl
theorem dX12_text_18 : decode cX12_text 18 = .ok (.invokevirtual 271, 3) := dzr zhdX12_text_5 7 rfl
theorem dX12_text_21 : decode cX12_text 21 = .ok (.ireturn, 1) := dzr zhdX12_text_5 8 rfl
theorem dX12_text_22 : decode cX12_text 22 = .ok (.iload_n 1, 1) := dzr zhdX12_text_5 9 rfl
theorem dX12_text_23 : decode cX12_text 23 = .ok (.iconst 1, 1) := dzr zhdX12_text_5 10 rfl
theorem dX12_text_24 : decode cX12_text 24 = .ok (.if_icmp .ne 45, 3) := dzr zhdX12_text_5 11 rfl
theorem dX12_text_27 : decode cX12_text 27 = .ok (.aload_n 0, 1) := dzr zhdX12_text_5 12 rfl
theorem dX12_text_28 : decode cX12_text 28 = .ok (.getfield 274, 3) := dzr zhdX12_text_5 13 rfl
theorem dX12_text_31 : decode cX12_text 31 = .ok (.iconst 4, 1) := dzr zhdX12_text_5 14 rfl
theorem dX12_text_32 : decode cX12_text 32 = .ok (.if_icmp .ge 37, 3) := dzr zhdX12_text_5 15 rfl
theorem dX12_text_35 : decode cX12_text 35 = .ok (.aload_n 0, 1) := dzr zhdX12_text_5 16 rfl
theorem dX12_text_36 : decode cX12_text 36 = .ok (.aload_n 0, 1) := dzr zhdX12_text_5 17 rfl
theorem dX12_text_37 : decode cX12_text 37 = .ok (.getfield 274, 3) := dzr zhdX12_text_5 18 rfl
theorem dX12_text_40 : decode cX12_text 40 = .ok (.invokevirtual 249, 3) := dzr zhdX12_text_5 19 rfl
theorem dX12_text_43 : decode cX12_text 43 = .ok (.iconst (-1), 1) := dzr zhdX12_text_5 20 rfl
theorem dX12_text_44 : decode cX12_text 44 = .ok (.if_icmp .ne 25, 3) := dzr zhdX12_text_5 21 rfl
theorem dX12_text_47 : decode cX12_text 47 = .ok (.aload_n 0, 1) := dzr zhdX12_text_5 22 rfl
theorem dX12_text_48 : decode cX12_text 48 = .ok (.iconst 0, 1) := dzr zhdX12_text_5 23 rfl
def ztdX12_text_49 : List (Nat × Instr × Nat) := [(49, .putfield 103, 3), (52, .aload_n 0, 1), (53, .dup, 1), (54, .getfield 274, 3), (57, .iconst 1, 1), (58, .iadd, 1), (59, .putfield 274, 3), (62, .aload_n 0, 1), (63, .getfield 274, 3), (66, .iconst 1, 1), (67, .isub, 1), (68, .ireturn, 1), (69, .iconst (-1), 1), (70, .ireturn, 1)]
theorem zhdX12_text_49 : dzC ztdX12_text_49 49 (cX12_text.data.toList.drop 49) = true := by decide +kernel
theorem dX12_text_49 : decode cX12_text 49 = .ok (.putfield 103, 3) := dzr zhdX12_text_49 0 rfl
theorem dX12_text_52 : decode cX12_text 52 = .ok (.aload_n 0, 1) := dzr zhdX12_text_49 1 rfl
theorem dX12_text_53 : decode cX12_text 53 = .ok (.dup, 1) := dzr zhdX12_text_49 2 rfl
theorem dX12_text_54 : decode cX12_text 54 = .ok (.getfield 274, 3) := dzr zhdX12_text_49 3 rfl
theorem dX12_text_57 : decode cX12_text 57 = .ok (.iconst 1, 1) := dzr zhdX12_text_49 4 rfl
theorem dX12_text_58 : decode cX12_text 58 = .ok (.iadd, 1) := dzr zhdX12_text_49 5 rfl
theorem dX12_text_59 : decode cX12_text 59 = .ok (.putfield 274, 3) := dzr zhdX12_text_49 6 rfl
theorem dX12_text_62 : decode cX12_text 62 = .ok (.aload_n 0, 1) := dzr zhdX12_text_49 7 rfl
theorem dX12_text_63 : decode cX12_text 63 = .ok (.getfield 274, 3) := dzr zhdX12_text_49 8 rfl
theorem dX12_text_66 : decode cX12_text 66 = .ok (.iconst 1, 1) := dzr zhdX12_text_49 9 rfl
theorem dX12_text_67 : decode cX12_text 67 = .ok (.isub, 1) := dzr zhdX12_text_49 10 rfl
theorem dX12_text_68 : decode cX12_text 68 = .ok (.ireturn, 1) := dzr zhdX12_text_49 11 rfl
theorem dX12_text_69 : decode cX12_text 69 = .ok (.iconst (-1), 1) := dzr zhdX12_text_49 12 rfl
theorem dX12_text_70 : decode cX12_text 70 = .ok (.ireturn, 1) := dzr zhdX12_text_49 13 rfl
def ztdX12_of_0 : List (Nat × Instr × Nat) := [(0, .aload_n 0, 1), (1, .getfield 52, 3), (4, .iconst 4, 1), (5, .iload_n 1, 1), (6, .imul, 1), (7, .iload_n 2, 1), (8, .iadd, 1), (9, .iaload, 1), (10, .ireturn, 1)]
theorem zhdX12_of_0 : dzC ztdX12_of_0 0 (cX12_of.data.toList.drop 0) = true := by decide +kernel
theorem dX12_of_0 : decode cX12_of 0 = .ok (.aload_n 0, 1) := dzr zhdX12_of_0 0 rfl
theorem dX12_of_1 : decode cX12_of 1 = .ok (.getfield 52, 3) := dzr zhdX12_of_0 1 rfl
theorem dX12_of_4 : decode cX12_of 4 = .ok (.iconst 4, 1) := dzr zhdX12_of_0 2 rfl
theorem dX12_of_5 : decode cX12_of 5 = .ok (.iload_n 1, 1) := dzr zhdX12_of_0 3 rfl
theorem dX12_of_6 : decode cX12_of 6 = .ok (.imul, 1) := dzr zhdX12_of_0 4 rfl
theorem dX12_of_7 : decode cX12_of 7 = .ok (.iload_n 2, 1) := dzr zhdX12_of_0 5 rfl
theorem dX12_of_8 : decode cX12_of 8 = .ok (.iadd, 1) := dzr zhdX12_of_0 6 rfl
theorem dX12_of_9 : decode cX12_of 9 = .ok (.iaload, 1) := dzr zhdX12_of_0 7 rfl
theorem dX12_of_10 : decode cX12_of 10 = .ok (.ireturn, 1) := dzr zhdX12_of_0 8 rfl
theorem ggX12_isGlove_X12_in : GoodIn wsX12_isGlove wsX12_in := (bg_up (bg_law (bi_wsL_law0_r16 _ (List.mem_of_getElem? (i := 21) rfl))))
theorem gX12_isGlove_X12_in : GoodIn wsX12_isGlove (va_wsS RX12 211 yX12_in wsX12_in) := goodIn_app (bg_up (bg_cons (bi_wsL_law0_r16 _ (List.mem_of_getElem? (i := 19) rfl)) (bg_cons (bi_wsL_law0_r16 _ (List.mem_of_getElem? (i := 20) rfl)) (bg_cons (bi_wsL_law0_r1 _ (List.mem_of_getElem? (i := 5) rfl)) bg_nil)))) (bg_up (bg_law (bi_wsL_law0_r16 _ (List.mem_of_getElem? (i := 21) rfl))))
def ztdX12_isGlove_0 : List (Nat × Instr × Nat) := [(0, .iload_n 1, 1), (1, .iconst 0, 1), (2, .aload_n 0, 1), (3, .getfield 252, 3), (6, .iconst 1, 1), (7, .isub, 1), (8, .invokestatic 211, 3), (11, .ireturn, 1)]
theorem zhdX12_isGlove_0 : dzC ztdX12_isGlove_0 0 (cX12_isGlove.data.toList.drop 0) = true := by decide +kernel
theorem dX12_isGlove_0 : decode cX12_isGlove 0 = .ok (.iload_n 1, 1) := dzr zhdX12_isGlove_0 0 rfl
theorem dX12_isGlove_1 : decode cX12_isGlove 1 = .ok (.iconst 0, 1) := dzr zhdX12_isGlove_0 1 rfl
theorem dX12_isGlove_2 : decode cX12_isGlove 2 = .ok (.aload_n 0, 1) := dzr zhdX12_isGlove_0 2 rfl
theorem dX12_isGlove_3 : decode cX12_isGlove 3 = .ok (.getfield 252, 3) := dzr zhdX12_isGlove_0 3 rfl
theorem dX12_isGlove_6 : decode cX12_isGlove 6 = .ok (.iconst 1, 1) := dzr zhdX12_isGlove_0 4 rfl
theorem dX12_isGlove_7 : decode cX12_isGlove 7 = .ok (.isub, 1) := dzr zhdX12_isGlove_0 5 rfl
theorem dX12_isGlove_8 : decode cX12_isGlove 8 = .ok (.invokestatic 211, 3) := dzr zhdX12_isGlove_0 6 rfl
theorem dX12_isGlove_11 : decode cX12_isGlove 11 = .ok (.ireturn, 1) := dzr zhdX12_isGlove_0 7 rfl
theorem ggX12_isMatter_X12_in : GoodIn wsX12_isMatter wsX12_in := (bg_up (bg_law (bi_wsL_law0_r16 _ (List.mem_of_getElem? (i := 21) rfl))))
theorem gX12_isMatter_X12_in : GoodIn wsX12_isMatter (va_wsS RX12 211 yX12_in wsX12_in) := goodIn_app (bg_up (bg_cons (bi_wsL_law0_r16 _ (List.mem_of_getElem? (i := 19) rfl)) (bg_cons (bi_wsL_law0_r16 _ (List.mem_of_getElem? (i := 20) rfl)) (bg_cons (bi_wsL_law0_r1 _ (List.mem_of_getElem? (i := 5) rfl)) bg_nil)))) (bg_up (bg_law (bi_wsL_law0_r16 _ (List.mem_of_getElem? (i := 21) rfl))))
def ztdX12_isMatter_0 : List (Nat × Instr × Nat) := [(0, .iload_n 1, 1), (1, .iconst 0, 1), (2, .aload_n 0, 1), (3, .getfield 255, 3), (6, .iconst 1, 1), (7, .isub, 1), (8, .invokestatic 211, 3), (11, .ireturn, 1)]
theorem zhdX12_isMatter_0 : dzC ztdX12_isMatter_0 0 (cX12_isMatter.data.toList.drop 0) = true := by decide +kernel
theorem dX12_isMatter_0 : decode cX12_isMatter 0 = .ok (.iload_n 1, 1) := dzr zhdX12_isMatter_0 0 rfl
theorem dX12_isMatter_1 : decode cX12_isMatter 1 = .ok (.iconst 0, 1) := dzr zhdX12_isMatter_0 1 rfl
theorem dX12_isMatter_2 : decode cX12_isMatter 2 = .ok (.aload_n 0, 1) := dzr zhdX12_isMatter_0 2 rfl
theorem dX12_isMatter_3 : decode cX12_isMatter 3 = .ok (.getfield 255, 3) := dzr zhdX12_isMatter_0 3 rfl
theorem dX12_isMatter_6 : decode cX12_isMatter 6 = .ok (.iconst 1, 1) := dzr zhdX12_isMatter_0 4 rfl
theorem dX12_isMatter_7 : decode cX12_isMatter 7 = .ok (.isub, 1) := dzr zhdX12_isMatter_0 5 rfl
theorem dX12_isMatter_8 : decode cX12_isMatter 8 = .ok (.invokestatic 211, 3) := dzr zhdX12_isMatter_0 6 rfl
theorem dX12_isMatter_11 : decode cX12_isMatter 11 = .ok (.ireturn, 1) := dzr zhdX12_isMatter_0 7 rfl
theorem ggX12_areTwo_X12_isGlove : GoodIn wsX12_areTwo wsX12_isGlove := (bg_up (bg_law (bi_wsL_law0_r25 _ (List.mem_of_getElem? (i := 11) rfl))))
theorem gX12_areTwo_X12_isGlove : GoodIn wsX12_areTwo (wsV RX12 277 RX12 yX12_isGlove wsX12_isGlove) := goodIn_app (bg_up (bg_cons (bi_wsL_law0_r25 _ (List.mem_of_getElem? (i := 8) rfl)) (bg_cons (bi_wsL_law0_r25 _ (List.mem_of_getElem? (i := 9) rfl)) (bg_cons (bi_wsL_law0_r25 _ (List.mem_of_getElem? (i := 10) rfl)) (bg_cons (bi_wsL_law0_r1 _ (List.mem_of_getElem? (i := 5) rfl)) bg_nil))))) (bg_up (bg_law (bi_wsL_law0_r25 _ (List.mem_of_getElem? (i := 11) rfl))))
theorem ggX12_areTwo_X12_of : GoodIn wsX12_areTwo wsX12_of := (bg_up (bg_law (bi_wsL_law0_r22 _ (List.mem_of_getElem? (i := 21) rfl))))
theorem gX12_areTwo_X12_of : GoodIn wsX12_areTwo (wsV RX12 258 RX12 yX12_of wsX12_of) := goodIn_app (bg_up (bg_cons (bi_wsL_law0_r22 _ (List.mem_of_getElem? (i := 18) rfl)) (bg_cons (bi_wsL_law0_r22 _ (List.mem_of_getElem? (i := 19) rfl)) (bg_cons (bi_wsL_law0_r22 _ (List.mem_of_getElem? (i := 20) rfl)) (bg_cons (bi_wsL_law0_r1 _ (List.mem_of_getElem? (i := 5) rfl)) bg_nil))))) (bg_up (bg_law (bi_wsL_law0_r22 _ (List.mem_of_getElem? (i := 21) rfl))))
def ztdX12_areTwo_0 : List (Nat × Instr × Nat) := [(0, .aload_n 0, 1), (1, .iload_n 1, 1), (2, .invokevirtual 277, 3), (5, .ifCond .eq 30, 3), (8, .aload_n 0, 1), (9, .iload_n 2, 1), (10, .invokevirtual 277, 3), (13, .ifCond .eq 22, 3), (16, .aload_n 0, 1), (17, .iload_n 1, 1), (18, .iconst 0, 1), (19, .invokevirtual 258, 3), (22, .aload_n 0, 1), (23, .iload_n 2, 1), (24, .iconst 0, 1), (25, .invokevirtual 258, 3), (28, .if_icmp .eq 7, 3), (31, .iconst 1, 1), (32, .goto 4, 3), (35, .iconst 0, 1), (36, .ireturn, 1)]
theorem zhdX12_areTwo_0 : dzC ztdX12_areTwo_0 0 (cX12_areTwo.data.toList.drop 0) = true := by decide +kernel
theorem dX12_areTwo_0 : decode cX12_areTwo 0 = .ok (.aload_n 0, 1) := dzr zhdX12_areTwo_0 0 rfl
theorem dX12_areTwo_1 : decode cX12_areTwo 1 = .ok (.iload_n 1, 1) := dzr zhdX12_areTwo_0 1 rfl
theorem dX12_areTwo_2 : decode cX12_areTwo 2 = .ok (.invokevirtual 277, 3) := dzr zhdX12_areTwo_0 2 rfl
theorem dX12_areTwo_5 : decode cX12_areTwo 5 = .ok (.ifCond .eq 30, 3) := dzr zhdX12_areTwo_0 3 rfl
theorem dX12_areTwo_8 : decode cX12_areTwo 8 = .ok (.aload_n 0, 1) := dzr zhdX12_areTwo_0 4 rfl
theorem dX12_areTwo_9 : decode cX12_areTwo 9 = .ok (.iload_n 2, 1) := dzr zhdX12_areTwo_0 5 rfl
theorem dX12_areTwo_10 : decode cX12_areTwo 10 = .ok (.invokevirtual 277, 3) := dzr zhdX12_areTwo_0 6 rfl
theorem dX12_areTwo_13 : decode cX12_areTwo 13 = .ok (.ifCond .eq 22, 3) := dzr zhdX12_areTwo_0 7 rfl
theorem dX12_areTwo_16 : decode cX12_areTwo 16 = .ok (.aload_n 0, 1) := dzr zhdX12_areTwo_0 8 rfl
theorem dX12_areTwo_17 : decode cX12_areTwo 17 = .ok (.iload_n 1, 1) := dzr zhdX12_areTwo_0 9 rfl
theorem dX12_areTwo_18 : decode cX12_areTwo 18 = .ok (.iconst 0, 1) := dzr zhdX12_areTwo_0 10 rfl
theorem dX12_areTwo_19 : decode cX12_areTwo 19 = .ok (.invokevirtual 258, 3) := dzr zhdX12_areTwo_0 11 rfl
theorem dX12_areTwo_22 : decode cX12_areTwo 22 = .ok (.aload_n 0, 1) := dzr zhdX12_areTwo_0 12 rfl
theorem dX12_areTwo_23 : decode cX12_areTwo 23 = .ok (.iload_n 2, 1) := dzr zhdX12_areTwo_0 13 rfl
theorem dX12_areTwo_24 : decode cX12_areTwo 24 = .ok (.iconst 0, 1) := dzr zhdX12_areTwo_0 14 rfl
theorem dX12_areTwo_25 : decode cX12_areTwo 25 = .ok (.invokevirtual 258, 3) := dzr zhdX12_areTwo_0 15 rfl
theorem dX12_areTwo_28 : decode cX12_areTwo 28 = .ok (.if_icmp .eq 7, 3) := dzr zhdX12_areTwo_0 16 rfl
theorem dX12_areTwo_31 : decode cX12_areTwo 31 = .ok (.iconst 1, 1) := dzr zhdX12_areTwo_0 17 rfl
theorem dX12_areTwo_32 : decode cX12_areTwo 32 = .ok (.goto 4, 3) := dzr zhdX12_areTwo_0 18 rfl
theorem dX12_areTwo_35 : decode cX12_areTwo 35 = .ok (.iconst 0, 1) := dzr zhdX12_areTwo_0 19 rfl
theorem dX12_areTwo_36 : decode cX12_areTwo 36 = .ok (.ireturn, 1) := dzr zhdX12_areTwo_0 20 rfl
def ztdX12_pairAt_0 : List (Nat × Instr × Nat) := [(0, .iconst 0, 1), (1, .bipush 6, 2), (3, .iload_n 0, 1), (4, .iload_n 1, 1), (5, .invokestatic 280, 3), (8, .imul, 1), (9, .iadd, 1), (10, .iload_n 0, 1), (11, .iload_n 1, 1), (12, .invokestatic 282, 3), (15, .iadd, 1), (16, .ireturn, 1)]
theorem zhdX12_pairAt_0 : dzC ztdX12_pairAt_0 0 (cX12_pairAt.data.toList.drop 0) = true := by decide +kernel
theorem dX12_pairAt_0 : decode cX12_pairAt 0 = .ok (.iconst 0, 1) := dzr zhdX12_pairAt_0 0 rfl
theorem dX12_pairAt_1 : decode cX12_pairAt 1 = .ok (.bipush 6, 2) := dzr zhdX12_pairAt_0 1 rfl
theorem dX12_pairAt_3 : decode cX12_pairAt 3 = .ok (.iload_n 0, 1) := dzr zhdX12_pairAt_0 2 rfl
theorem dX12_pairAt_4 : decode cX12_pairAt 4 = .ok (.iload_n 1, 1) := dzr zhdX12_pairAt_0 3 rfl
theorem dX12_pairAt_5 : decode cX12_pairAt 5 = .ok (.invokestatic 280, 3) := dzr zhdX12_pairAt_0 4 rfl
theorem dX12_pairAt_8 : decode cX12_pairAt 8 = .ok (.imul, 1) := dzr zhdX12_pairAt_0 5 rfl
theorem dX12_pairAt_9 : decode cX12_pairAt 9 = .ok (.iadd, 1) := dzr zhdX12_pairAt_0 6 rfl
theorem dX12_pairAt_10 : decode cX12_pairAt 10 = .ok (.iload_n 0, 1) := dzr zhdX12_pairAt_0 7 rfl
theorem dX12_pairAt_11 : decode cX12_pairAt 11 = .ok (.iload_n 1, 1) := dzr zhdX12_pairAt_0 8 rfl
theorem dX12_pairAt_12 : decode cX12_pairAt 12 = .ok (.invokestatic 282, 3) := dzr zhdX12_pairAt_0 9 rfl
theorem dX12_pairAt_15 : decode cX12_pairAt 15 = .ok (.iadd, 1) := dzr zhdX12_pairAt_0 10 rfl
theorem dX12_pairAt_16 : decode cX12_pairAt 16 = .ok (.ireturn, 1) := dzr zhdX12_pairAt_0 11 rfl
def ztdX12_codeOf_0 : List (Nat × Instr × Nat) := [(0, .bipush 10, 2), (2, .iload_n 0, 1), (3, .iload_n 1, 1), (4, .invokestatic 280, 3), (7, .imul, 1), (8, .iload_n 0, 1), (9, .iload_n 1, 1), (10, .invokestatic 282, 3), (13, .iadd, 1), (14, .ireturn, 1)]
theorem zhdX12_codeOf_0 : dzC ztdX12_codeOf_0 0 (cX12_codeOf.data.toList.drop 0) = true := by decide +kernel
theorem dX12_codeOf_0 : decode cX12_codeOf 0 = .ok (.bipush 10, 2) := dzr zhdX12_codeOf_0 0 rfl
theorem dX12_codeOf_2 : decode cX12_codeOf 2 = .ok (.iload_n 0, 1) := dzr zhdX12_codeOf_0 1 rfl
theorem dX12_codeOf_3 : decode cX12_codeOf 3 = .ok (.iload_n 1, 1) := dzr zhdX12_codeOf_0 2 rfl
theorem dX12_codeOf_4 : decode cX12_codeOf 4 = .ok (.invokestatic 280, 3) := dzr zhdX12_codeOf_0 3 rfl
theorem dX12_codeOf_7 : decode cX12_codeOf 7 = .ok (.imul, 1) := dzr zhdX12_codeOf_0 4 rfl
theorem dX12_codeOf_8 : decode cX12_codeOf 8 = .ok (.iload_n 0, 1) := dzr zhdX12_codeOf_0 5 rfl
theorem dX12_codeOf_9 : decode cX12_codeOf 9 = .ok (.iload_n 1, 1) := dzr zhdX12_codeOf_0 6 rfl
theorem dX12_codeOf_10 : decode cX12_codeOf 10 = .ok (.invokestatic 282, 3) := dzr zhdX12_codeOf_0 7 rfl
theorem dX12_codeOf_13 : decode cX12_codeOf 13 = .ok (.iadd, 1) := dzr zhdX12_codeOf_0 8 rfl
theorem dX12_codeOf_14 : decode cX12_codeOf 14 = .ok (.ireturn, 1) := dzr zhdX12_codeOf_0 9 rfl
def ztdX12_held_0 : List (Nat × Instr × Nat) := [(0, .iconst 0, 1), (1, .bipush 99, 2), (3, .iload_n 0, 1), (4, .invokestatic 280, 3), (7, .invokestatic 282, 3), (10, .ireturn, 1)]
theorem zhdX12_held_0 : dzC ztdX12_held_0 0 (cX12_held.data.toList.drop 0) = true := by decide +kernel
theorem dX12_held_0 : decode cX12_held 0 = .ok (.iconst 0, 1) := dzr zhdX12_held_0 0 rfl
theorem dX12_held_1 : decode cX12_held 1 = .ok (.bipush 99, 2) := dzr zhdX12_held_0 1 rfl
theorem dX12_held_3 : decode cX12_held 3 = .ok (.iload_n 0, 1) := dzr zhdX12_held_0 2 rfl
theorem dX12_held_4 : decode cX12_held 4 = .ok (.invokestatic 280, 3) := dzr zhdX12_held_0 3 rfl
theorem dX12_held_7 : decode cX12_held 7 = .ok (.invokestatic 282, 3) := dzr zhdX12_held_0 4 rfl
theorem dX12_held_10 : decode cX12_held 10 = .ok (.ireturn, 1) := dzr zhdX12_held_0 5 rfl
theorem ggX12_riseBy_X12_worthOf : GoodIn wsX12_riseBy wsX12_worthOf := (bg_up (bg_law (bi_wsL_law0_r32 _ (List.mem_of_getElem? (i := 22) rfl))))
theorem gX12_riseBy_X12_worthOf : GoodIn wsX12_riseBy (wsV RX12 284 RX12 yX12_worthOf wsX12_worthOf) := goodIn_app (bg_up (bg_cons (bi_wsL_law0_r32 _ (List.mem_of_getElem? (i := 19) rfl)) (bg_cons (bi_wsL_law0_r32 _ (List.mem_of_getElem? (i := 20) rfl)) (bg_cons (bi_wsL_law0_r32 _ (List.mem_of_getElem? (i := 21) rfl)) (bg_cons (bi_wsL_law0_r1 _ (List.mem_of_getElem? (i := 5) rfl)) bg_nil))))) (bg_up (bg_law (bi_wsL_law0_r32 _ (List.mem_of_getElem? (i := 22) rfl))))
def ztdX12_riseBy_0 : List (Nat × Instr × Nat) := [(0, .iload_n 1, 1), (1, .iconst 2, 1), (2, .idiv, 1), (3, .iload 4, 2), (5, .ifCond .eq 7, 3), (8, .iconst 2, 1), (9, .goto 4, 3), (12, .iconst 0, 1), (13, .iadd, 1), (14, .iload 5, 2), (16, .iconst 3, 1), (17, .idiv, 1), (18, .isub, 1), (19, .iload_n 2, 1), (20, .iconst 4, 1), (21, .idiv, 1), (22, .isub, 1), (23, .istore 7, 2), (25, .aload_n 0, 1), (26, .getfield 64, 3), (29, .iconst (-1), 1), (30, .if_icmp .eq 66, 3), (33, .aload_n 0, 1), (34, .getfield 34, 3)]
theorem zhdX12_riseBy_0 : dzC ztdX12_riseBy_0 0 (cX12_riseBy.data.toList.drop 0) = true := by decide +kernel
theorem dX12_riseBy_0 : decode cX12_riseBy 0 = .ok (.iload_n 1, 1) := dzr zhdX12_riseBy_0 0 rfl
theorem dX12_riseBy_1 : decode cX12_riseBy 1 = .ok (.iconst 2, 1) := dzr zhdX12_riseBy_0 1 rfl
theorem dX12_riseBy_2 : decode cX12_riseBy 2 = .ok (.idiv, 1) := dzr zhdX12_riseBy_0 2 rfl
theorem dX12_riseBy_3 : decode cX12_riseBy 3 = .ok (.iload 4, 2) := dzr zhdX12_riseBy_0 3 rfl
theorem dX12_riseBy_5 : decode cX12_riseBy 5 = .ok (.ifCond .eq 7, 3) := dzr zhdX12_riseBy_0 4 rfl
theorem dX12_riseBy_8 : decode cX12_riseBy 8 = .ok (.iconst 2, 1) := dzr zhdX12_riseBy_0 5 rfl
theorem dX12_riseBy_9 : decode cX12_riseBy 9 = .ok (.goto 4, 3) := dzr zhdX12_riseBy_0 6 rfl
theorem dX12_riseBy_12 : decode cX12_riseBy 12 = .ok (.iconst 0, 1) := dzr zhdX12_riseBy_0 7 rfl
theorem dX12_riseBy_13 : decode cX12_riseBy 13 = .ok (.iadd, 1) := dzr zhdX12_riseBy_0 8 rfl
theorem dX12_riseBy_14 : decode cX12_riseBy 14 = .ok (.iload 5, 2) := dzr zhdX12_riseBy_0 9 rfl
theorem dX12_riseBy_16 : decode cX12_riseBy 16 = .ok (.iconst 3, 1) := dzr zhdX12_riseBy_0 10 rfl
theorem dX12_riseBy_17 : decode cX12_riseBy 17 = .ok (.idiv, 1) := dzr zhdX12_riseBy_0 11 rfl
theorem dX12_riseBy_18 : decode cX12_riseBy 18 = .ok (.isub, 1) := dzr zhdX12_riseBy_0 12 rfl
theorem dX12_riseBy_19 : decode cX12_riseBy 19 = .ok (.iload_n 2, 1) := dzr zhdX12_riseBy_0 13 rfl
theorem dX12_riseBy_20 : decode cX12_riseBy 20 = .ok (.iconst 4, 1) := dzr zhdX12_riseBy_0 14 rfl
theorem dX12_riseBy_21 : decode cX12_riseBy 21 = .ok (.idiv, 1) := dzr zhdX12_riseBy_0 15 rfl
theorem dX12_riseBy_22 : decode cX12_riseBy 22 = .ok (.isub, 1) := dzr zhdX12_riseBy_0 16 rfl
theorem dX12_riseBy_23 : decode cX12_riseBy 23 = .ok (.istore 7, 2) := dzr zhdX12_riseBy_0 17 rfl
theorem dX12_riseBy_25 : decode cX12_riseBy 25 = .ok (.aload_n 0, 1) := dzr zhdX12_riseBy_0 18 rfl
theorem dX12_riseBy_26 : decode cX12_riseBy 26 = .ok (.getfield 64, 3) := dzr zhdX12_riseBy_0 19 rfl
theorem dX12_riseBy_29 : decode cX12_riseBy 29 = .ok (.iconst (-1), 1) := dzr zhdX12_riseBy_0 20 rfl
theorem dX12_riseBy_30 : decode cX12_riseBy 30 = .ok (.if_icmp .eq 66, 3) := dzr zhdX12_riseBy_0 21 rfl
theorem dX12_riseBy_33 : decode cX12_riseBy 33 = .ok (.aload_n 0, 1) := dzr zhdX12_riseBy_0 22 rfl
theorem dX12_riseBy_34 : decode cX12_riseBy 34 = .ok (.getfield 34, 3) := dzr zhdX12_riseBy_0 23 rfl
def ztdX12_riseBy_37 : List (Nat × Instr × Nat) := [(37, .iconst 0, 1), (38, .iload_n 1, 1), (39, .iastore, 1), (40, .aload_n 0, 1), (41, .getfield 34, 3), (44, .iconst 1, 1), (45, .iload_n 2, 1), (46, .iastore, 1), (47, .aload_n 0, 1), (48, .getfield 34, 3), (51, .iconst 2, 1), (52, .iload_n 3, 1), (53, .iastore, 1), (54, .aload_n 0, 1), (55, .getfield 34, 3), (58, .iconst 3, 1), (59, .iload 4, 2), (61, .ifCond .eq 7, 3), (64, .iconst 1, 1), (65, .goto 4, 3), (68, .iconst 0, 1), (69, .iastore, 1), (70, .aload_n 0, 1), (71, .getfield 34, 3)]
theorem zhdX12_riseBy_37 : dzC ztdX12_riseBy_37 37 (cX12_riseBy.data.toList.drop 37) = true := by decide +kernel
theorem dX12_riseBy_37 : decode cX12_riseBy 37 = .ok (.iconst 0, 1) := dzr zhdX12_riseBy_37 0 rfl
theorem dX12_riseBy_38 : decode cX12_riseBy 38 = .ok (.iload_n 1, 1) := dzr zhdX12_riseBy_37 1 rfl
theorem dX12_riseBy_39 : decode cX12_riseBy 39 = .ok (.iastore, 1) := dzr zhdX12_riseBy_37 2 rfl
theorem dX12_riseBy_40 : decode cX12_riseBy 40 = .ok (.aload_n 0, 1) := dzr zhdX12_riseBy_37 3 rfl
theorem dX12_riseBy_41 : decode cX12_riseBy 41 = .ok (.getfield 34, 3) := dzr zhdX12_riseBy_37 4 rfl
theorem dX12_riseBy_44 : decode cX12_riseBy 44 = .ok (.iconst 1, 1) := dzr zhdX12_riseBy_37 5 rfl
theorem dX12_riseBy_45 : decode cX12_riseBy 45 = .ok (.iload_n 2, 1) := dzr zhdX12_riseBy_37 6 rfl
theorem dX12_riseBy_46 : decode cX12_riseBy 46 = .ok (.iastore, 1) := dzr zhdX12_riseBy_37 7 rfl
theorem dX12_riseBy_47 : decode cX12_riseBy 47 = .ok (.aload_n 0, 1) := dzr zhdX12_riseBy_37 8 rfl
theorem dX12_riseBy_48 : decode cX12_riseBy 48 = .ok (.getfield 34, 3) := dzr zhdX12_riseBy_37 9 rfl
theorem dX12_riseBy_51 : decode cX12_riseBy 51 = .ok (.iconst 2, 1) := dzr zhdX12_riseBy_37 10 rfl
theorem dX12_riseBy_52 : decode cX12_riseBy 52 = .ok (.iload_n 3, 1) := dzr zhdX12_riseBy_37 11 rfl
theorem dX12_riseBy_53 : decode cX12_riseBy 53 = .ok (.iastore, 1) := dzr zhdX12_riseBy_37 12 rfl
theorem dX12_riseBy_54 : decode cX12_riseBy 54 = .ok (.aload_n 0, 1) := dzr zhdX12_riseBy_37 13 rfl
theorem dX12_riseBy_55 : decode cX12_riseBy 55 = .ok (.getfield 34, 3) := dzr zhdX12_riseBy_37 14 rfl
theorem dX12_riseBy_58 : decode cX12_riseBy 58 = .ok (.iconst 3, 1) := dzr zhdX12_riseBy_37 15 rfl
theorem dX12_riseBy_59 : decode cX12_riseBy 59 = .ok (.iload 4, 2) := dzr zhdX12_riseBy_37 16 rfl
theorem dX12_riseBy_61 : decode cX12_riseBy 61 = .ok (.ifCond .eq 7, 3) := dzr zhdX12_riseBy_37 17 rfl
theorem dX12_riseBy_64 : decode cX12_riseBy 64 = .ok (.iconst 1, 1) := dzr zhdX12_riseBy_37 18 rfl
theorem dX12_riseBy_65 : decode cX12_riseBy 65 = .ok (.goto 4, 3) := dzr zhdX12_riseBy_37 19 rfl
theorem dX12_riseBy_68 : decode cX12_riseBy 68 = .ok (.iconst 0, 1) := dzr zhdX12_riseBy_37 20 rfl
theorem dX12_riseBy_69 : decode cX12_riseBy 69 = .ok (.iastore, 1) := dzr zhdX12_riseBy_37 21 rfl
theorem dX12_riseBy_70 : decode cX12_riseBy 70 = .ok (.aload_n 0, 1) := dzr zhdX12_riseBy_37 22 rfl
theorem dX12_riseBy_71 : decode cX12_riseBy 71 = .ok (.getfield 34, 3) := dzr zhdX12_riseBy_37 23 rfl
def ztdX12_riseBy_74 : List (Nat × Instr × Nat) := [(74, .iconst 4, 1), (75, .iload 5, 2), (77, .iastore, 1), (78, .aload_n 0, 1), (79, .getfield 34, 3), (82, .iconst 5, 1), (83, .iload 6, 2), (85, .iastore, 1), (86, .aload_n 0, 1), (87, .aload_n 0, 1), (88, .getfield 64, 3), (91, .invokevirtual 284, 3), (94, .istore 7, 2), (96, .bipush (-9), 2), (98, .bipush 9, 2), (100, .iload 7, 2), (102, .invokestatic 280, 3), (105, .invokestatic 282, 3), (108, .ireturn, 1)]
theorem zhdX12_riseBy_74 : dzC ztdX12_riseBy_74 74 (cX12_riseBy.data.toList.drop 74) = true := by decide +kernel
theorem dX12_riseBy_74 : decode cX12_riseBy 74 = .ok (.iconst 4, 1) := dzr zhdX12_riseBy_74 0 rfl
theorem dX12_riseBy_75 : decode cX12_riseBy 75 = .ok (.iload 5, 2) := dzr zhdX12_riseBy_74 1 rfl
theorem dX12_riseBy_77 : decode cX12_riseBy 77 = .ok (.iastore, 1) := dzr zhdX12_riseBy_74 2 rfl
theorem dX12_riseBy_78 : decode cX12_riseBy 78 = .ok (.aload_n 0, 1) := dzr zhdX12_riseBy_74 3 rfl
theorem dX12_riseBy_79 : decode cX12_riseBy 79 = .ok (.getfield 34, 3) := dzr zhdX12_riseBy_74 4 rfl
theorem dX12_riseBy_82 : decode cX12_riseBy 82 = .ok (.iconst 5, 1) := dzr zhdX12_riseBy_74 5 rfl
theorem dX12_riseBy_83 : decode cX12_riseBy 83 = .ok (.iload 6, 2) := dzr zhdX12_riseBy_74 6 rfl
theorem dX12_riseBy_85 : decode cX12_riseBy 85 = .ok (.iastore, 1) := dzr zhdX12_riseBy_74 7 rfl
theorem dX12_riseBy_86 : decode cX12_riseBy 86 = .ok (.aload_n 0, 1) := dzr zhdX12_riseBy_74 8 rfl
theorem dX12_riseBy_87 : decode cX12_riseBy 87 = .ok (.aload_n 0, 1) := dzr zhdX12_riseBy_74 9 rfl
theorem dX12_riseBy_88 : decode cX12_riseBy 88 = .ok (.getfield 64, 3) := dzr zhdX12_riseBy_74 10 rfl
theorem dX12_riseBy_91 : decode cX12_riseBy 91 = .ok (.invokevirtual 284, 3) := dzr zhdX12_riseBy_74 11 rfl
theorem dX12_riseBy_94 : decode cX12_riseBy 94 = .ok (.istore 7, 2) := dzr zhdX12_riseBy_74 12 rfl
theorem dX12_riseBy_96 : decode cX12_riseBy 96 = .ok (.bipush (-9), 2) := dzr zhdX12_riseBy_74 13 rfl
theorem dX12_riseBy_98 : decode cX12_riseBy 98 = .ok (.bipush 9, 2) := dzr zhdX12_riseBy_74 14 rfl
theorem dX12_riseBy_100 : decode cX12_riseBy 100 = .ok (.iload 7, 2) := dzr zhdX12_riseBy_74 15 rfl
theorem dX12_riseBy_102 : decode cX12_riseBy 102 = .ok (.invokestatic 280, 3) := dzr zhdX12_riseBy_74 16 rfl
theorem dX12_riseBy_105 : decode cX12_riseBy 105 = .ok (.invokestatic 282, 3) := dzr zhdX12_riseBy_74 17 rfl
theorem dX12_riseBy_108 : decode cX12_riseBy 108 = .ok (.ireturn, 1) := dzr zhdX12_riseBy_74 18 rfl
theorem ggX12_areAllies_X12_of : GoodIn wsX12_areAllies wsX12_of := (bg_up (bg_law (bi_wsL_law0_r22 _ (List.mem_of_getElem? (i := 21) rfl))))
theorem gX12_areAllies_X12_of : GoodIn wsX12_areAllies (wsV RX12 258 RX12 yX12_of wsX12_of) := goodIn_app (bg_up (bg_cons (bi_wsL_law0_r22 _ (List.mem_of_getElem? (i := 18) rfl)) (bg_cons (bi_wsL_law0_r22 _ (List.mem_of_getElem? (i := 19) rfl)) (bg_cons (bi_wsL_law0_r22 _ (List.mem_of_getElem? (i := 20) rfl)) (bg_cons (bi_wsL_law0_r1 _ (List.mem_of_getElem? (i := 5) rfl)) bg_nil))))) (bg_up (bg_law (bi_wsL_law0_r22 _ (List.mem_of_getElem? (i := 21) rfl))))
def ztdX12_areAllies_0 : List (Nat × Instr × Nat) := [(0, .aload_n 0, 1), (1, .iload_n 1, 1), (2, .iconst 3, 1), (3, .invokevirtual 258, 3), (6, .aload_n 0, 1), (7, .iload_n 2, 1), (8, .iconst 3, 1), (9, .invokevirtual 258, 3), (12, .if_icmp .ne 7, 3), (15, .iconst 1, 1), (16, .goto 4, 3), (19, .iconst 0, 1), (20, .ireturn, 1)]
theorem zhdX12_areAllies_0 : dzC ztdX12_areAllies_0 0 (cX12_areAllies.data.toList.drop 0) = true := by decide +kernel
theorem dX12_areAllies_0 : decode cX12_areAllies 0 = .ok (.aload_n 0, 1) := dzr zhdX12_areAllies_0 0 rfl
theorem dX12_areAllies_1 : decode cX12_areAllies 1 = .ok (.iload_n 1, 1) := dzr zhdX12_areAllies_0 1 rfl
theorem dX12_areAllies_2 : decode cX12_areAllies 2 = .ok (.iconst 3, 1) := dzr zhdX12_areAllies_0 2 rfl
theorem dX12_areAllies_3 : decode cX12_areAllies 3 = .ok (.invokevirtual 258, 3) := dzr zhdX12_areAllies_0 3 rfl
theorem dX12_areAllies_6 : decode cX12_areAllies 6 = .ok (.aload_n 0, 1) := dzr zhdX12_areAllies_0 4 rfl
theorem dX12_areAllies_7 : decode cX12_areAllies 7 = .ok (.iload_n 2, 1) := dzr zhdX12_areAllies_0 5 rfl
theorem dX12_areAllies_8 : decode cX12_areAllies 8 = .ok (.iconst 3, 1) := dzr zhdX12_areAllies_0 6 rfl
theorem dX12_areAllies_9 : decode cX12_areAllies 9 = .ok (.invokevirtual 258, 3) := dzr zhdX12_areAllies_0 7 rfl
theorem dX12_areAllies_12 : decode cX12_areAllies 12 = .ok (.if_icmp .ne 7, 3) := dzr zhdX12_areAllies_0 8 rfl
theorem dX12_areAllies_15 : decode cX12_areAllies 15 = .ok (.iconst 1, 1) := dzr zhdX12_areAllies_0 9 rfl
theorem dX12_areAllies_16 : decode cX12_areAllies 16 = .ok (.goto 4, 3) := dzr zhdX12_areAllies_0 10 rfl
theorem dX12_areAllies_19 : decode cX12_areAllies 19 = .ok (.iconst 0, 1) := dzr zhdX12_areAllies_0 11 rfl
theorem dX12_areAllies_20 : decode cX12_areAllies 20 = .ok (.ireturn, 1) := dzr zhdX12_areAllies_0 12 rfl
theorem ggX12_riseFrom_X12_areAllies : GoodIn wsX12_riseFrom wsX12_areAllies := (bg_up (bg_law (bi_wsL_law0_r32 _ (List.mem_of_getElem? (i := 14) rfl))))
theorem gX12_riseFrom_X12_areAllies : GoodIn wsX12_riseFrom (wsV RX12 287 RX12 yX12_areAllies wsX12_areAllies) := goodIn_app (bg_up (bg_cons (bi_wsL_law0_r32 _ (List.mem_of_getElem? (i := 11) rfl)) (bg_cons (bi_wsL_law0_r32 _ (List.mem_of_getElem? (i := 12) rfl)) (bg_cons (bi_wsL_law0_r32 _ (List.mem_of_getElem? (i := 13) rfl)) (bg_cons (bi_wsL_law0_r1 _ (List.mem_of_getElem? (i := 5) rfl)) bg_nil))))) (bg_up (bg_law (bi_wsL_law0_r32 _ (List.mem_of_getElem? (i := 14) rfl))))
theorem ggX12_riseFrom_X12_riseBy : GoodIn wsX12_riseFrom wsX12_riseBy := (bg_up (bg_law (bi_wsL_law0_r32 _ (List.mem_of_getElem? (i := 18) rfl))))
theorem gX12_riseFrom_X12_riseBy : GoodIn wsX12_riseFrom (wsV RX12 290 RX12 yX12_riseBy wsX12_riseBy) := goodIn_app (bg_up (bg_cons (bi_wsL_law0_r32 _ (List.mem_of_getElem? (i := 15) rfl)) (bg_cons (bi_wsL_law0_r32 _ (List.mem_of_getElem? (i := 16) rfl)) (bg_cons (bi_wsL_law0_r32 _ (List.mem_of_getElem? (i := 17) rfl)) (bg_cons (bi_wsL_law0_r1 _ (List.mem_of_getElem? (i := 5) rfl)) bg_nil))))) (bg_up (bg_law (bi_wsL_law0_r32 _ (List.mem_of_getElem? (i := 18) rfl))))
def ztdX12_riseFrom_0 : List (Nat × Instr × Nat) := [(0, .aload_n 0, 1), (1, .aload_n 0, 1), (2, .getfield 58, 3), (5, .bipush 36, 2), (7, .iload_n 1, 1), (8, .iadd, 1), (9, .iaload, 1), (10, .aload_n 0, 1), (11, .getfield 58, 3), (14, .bipush 36, 2), (16, .iload_n 2, 1), (17, .iadd, 1), (18, .iaload, 1), (19, .iadd, 1), (20, .aload_n 0, 1), (21, .getfield 58, 3), (24, .bipush 42, 2), (26, .iload_n 1, 1), (27, .iadd, 1), (28, .iaload, 1), (29, .aload_n 0, 1), (30, .getfield 58, 3), (33, .bipush 42, 2), (35, .iload_n 2, 1)]
theorem zhdX12_riseFrom_0 : dzC ztdX12_riseFrom_0 0 (cX12_riseFrom.data.toList.drop 0) = true := by decide +kernel
theorem dX12_riseFrom_0 : decode cX12_riseFrom 0 = .ok (.aload_n 0, 1) := dzr zhdX12_riseFrom_0 0 rfl
theorem dX12_riseFrom_1 : decode cX12_riseFrom 1 = .ok (.aload_n 0, 1) := dzr zhdX12_riseFrom_0 1 rfl
theorem dX12_riseFrom_2 : decode cX12_riseFrom 2 = .ok (.getfield 58, 3) := dzr zhdX12_riseFrom_0 2 rfl
theorem dX12_riseFrom_5 : decode cX12_riseFrom 5 = .ok (.bipush 36, 2) := dzr zhdX12_riseFrom_0 3 rfl
theorem dX12_riseFrom_7 : decode cX12_riseFrom 7 = .ok (.iload_n 1, 1) := dzr zhdX12_riseFrom_0 4 rfl
theorem dX12_riseFrom_8 : decode cX12_riseFrom 8 = .ok (.iadd, 1) := dzr zhdX12_riseFrom_0 5 rfl
theorem dX12_riseFrom_9 : decode cX12_riseFrom 9 = .ok (.iaload, 1) := dzr zhdX12_riseFrom_0 6 rfl
theorem dX12_riseFrom_10 : decode cX12_riseFrom 10 = .ok (.aload_n 0, 1) := dzr zhdX12_riseFrom_0 7 rfl
theorem dX12_riseFrom_11 : decode cX12_riseFrom 11 = .ok (.getfield 58, 3) := dzr zhdX12_riseFrom_0 8 rfl
theorem dX12_riseFrom_14 : decode cX12_riseFrom 14 = .ok (.bipush 36, 2) := dzr zhdX12_riseFrom_0 9 rfl
theorem dX12_riseFrom_16 : decode cX12_riseFrom 16 = .ok (.iload_n 2, 1) := dzr zhdX12_riseFrom_0 10 rfl
theorem dX12_riseFrom_17 : decode cX12_riseFrom 17 = .ok (.iadd, 1) := dzr zhdX12_riseFrom_0 11 rfl
theorem dX12_riseFrom_18 : decode cX12_riseFrom 18 = .ok (.iaload, 1) := dzr zhdX12_riseFrom_0 12 rfl
theorem dX12_riseFrom_19 : decode cX12_riseFrom 19 = .ok (.iadd, 1) := dzr zhdX12_riseFrom_0 13 rfl
theorem dX12_riseFrom_20 : decode cX12_riseFrom 20 = .ok (.aload_n 0, 1) := dzr zhdX12_riseFrom_0 14 rfl
theorem dX12_riseFrom_21 : decode cX12_riseFrom 21 = .ok (.getfield 58, 3) := dzr zhdX12_riseFrom_0 15 rfl
theorem dX12_riseFrom_24 : decode cX12_riseFrom 24 = .ok (.bipush 42, 2) := dzr zhdX12_riseFrom_0 16 rfl
theorem dX12_riseFrom_26 : decode cX12_riseFrom 26 = .ok (.iload_n 1, 1) := dzr zhdX12_riseFrom_0 17 rfl
theorem dX12_riseFrom_27 : decode cX12_riseFrom 27 = .ok (.iadd, 1) := dzr zhdX12_riseFrom_0 18 rfl
theorem dX12_riseFrom_28 : decode cX12_riseFrom 28 = .ok (.iaload, 1) := dzr zhdX12_riseFrom_0 19 rfl
theorem dX12_riseFrom_29 : decode cX12_riseFrom 29 = .ok (.aload_n 0, 1) := dzr zhdX12_riseFrom_0 20 rfl
theorem dX12_riseFrom_30 : decode cX12_riseFrom 30 = .ok (.getfield 58, 3) := dzr zhdX12_riseFrom_0 21 rfl
theorem dX12_riseFrom_33 : decode cX12_riseFrom 33 = .ok (.bipush 42, 2) := dzr zhdX12_riseFrom_0 22 rfl
theorem dX12_riseFrom_35 : decode cX12_riseFrom 35 = .ok (.iload_n 2, 1) := dzr zhdX12_riseFrom_0 23 rfl
def ztdX12_riseFrom_36 : List (Nat × Instr × Nat) := [(36, .iadd, 1), (37, .iaload, 1), (38, .iadd, 1), (39, .iload_n 3, 1), (40, .aload_n 0, 1), (41, .iload_n 1, 1), (42, .iload_n 2, 1), (43, .invokevirtual 287, 3), (46, .aload_n 0, 1), (47, .getfield 58, 3), (50, .bipush 66, 2), (52, .iaload, 1), (53, .iload 4, 2), (55, .invokevirtual 290, 3), (58, .ireturn, 1)]
theorem zhdX12_riseFrom_36 : dzC ztdX12_riseFrom_36 36 (cX12_riseFrom.data.toList.drop 36) = true := by decide +kernel
theorem dX12_riseFrom_36 : decode cX12_riseFrom 36 = .ok (.iadd, 1) := dzr zhdX12_riseFrom_36 0 rfl
theorem dX12_riseFrom_37 : decode cX12_riseFrom 37 = .ok (.iaload, 1) := dzr zhdX12_riseFrom_36 1 rfl
theorem dX12_riseFrom_38 : decode cX12_riseFrom 38 = .ok (.iadd, 1) := dzr zhdX12_riseFrom_36 2 rfl
theorem dX12_riseFrom_39 : decode cX12_riseFrom 39 = .ok (.iload_n 3, 1) := dzr zhdX12_riseFrom_36 3 rfl
theorem dX12_riseFrom_40 : decode cX12_riseFrom 40 = .ok (.aload_n 0, 1) := dzr zhdX12_riseFrom_36 4 rfl
theorem dX12_riseFrom_41 : decode cX12_riseFrom 41 = .ok (.iload_n 1, 1) := dzr zhdX12_riseFrom_36 5 rfl
theorem dX12_riseFrom_42 : decode cX12_riseFrom 42 = .ok (.iload_n 2, 1) := dzr zhdX12_riseFrom_36 6 rfl
theorem dX12_riseFrom_43 : decode cX12_riseFrom 43 = .ok (.invokevirtual 287, 3) := dzr zhdX12_riseFrom_36 7 rfl
theorem dX12_riseFrom_46 : decode cX12_riseFrom 46 = .ok (.aload_n 0, 1) := dzr zhdX12_riseFrom_36 8 rfl
theorem dX12_riseFrom_47 : decode cX12_riseFrom 47 = .ok (.getfield 58, 3) := dzr zhdX12_riseFrom_36 9 rfl
theorem dX12_riseFrom_50 : decode cX12_riseFrom 50 = .ok (.bipush 66, 2) := dzr zhdX12_riseFrom_36 10 rfl
theorem dX12_riseFrom_52 : decode cX12_riseFrom 52 = .ok (.iaload, 1) := dzr zhdX12_riseFrom_36 11 rfl
theorem dX12_riseFrom_53 : decode cX12_riseFrom 53 = .ok (.iload 4, 2) := dzr zhdX12_riseFrom_36 12 rfl
theorem dX12_riseFrom_55 : decode cX12_riseFrom 55 = .ok (.invokevirtual 290, 3) := dzr zhdX12_riseFrom_36 13 rfl
theorem dX12_riseFrom_58 : decode cX12_riseFrom 58 = .ok (.ireturn, 1) := dzr zhdX12_riseFrom_36 14 rfl
theorem ggX12_riseOf_X12_pairAt : GoodIn wsX12_riseOf wsX12_pairAt := (bg_up (bg_law (bi_wsL_law0_r27 _ (List.mem_of_getElem? (i := 16) rfl))))
theorem gX12_riseOf_X12_pairAt : GoodIn wsX12_riseOf (va_wsS RX12 294 yX12_pairAt wsX12_pairAt) := goodIn_app (bg_up (bg_cons (bi_wsL_law0_r27 _ (List.mem_of_getElem? (i := 14) rfl)) (bg_cons (bi_wsL_law0_r27 _ (List.mem_of_getElem? (i := 15) rfl)) (bg_cons (bi_wsL_law0_r1 _ (List.mem_of_getElem? (i := 5) rfl)) bg_nil)))) (bg_up (bg_law (bi_wsL_law0_r27 _ (List.mem_of_getElem? (i := 16) rfl))))
theorem ggX12_riseOf_X12_riseFrom : GoodIn wsX12_riseOf wsX12_riseFrom := (bg_up (bg_law (bi_wsL_law0_r32 _ (List.mem_of_getElem? (i := 10) rfl))))
theorem gX12_riseOf_X12_riseFrom : GoodIn wsX12_riseOf (wsV RX12 297 RX12 yX12_riseFrom wsX12_riseFrom) := goodIn_app (bg_up (bg_cons (bi_wsL_law0_r32 _ (List.mem_of_getElem? (i := 7) rfl)) (bg_cons (bi_wsL_law0_r32 _ (List.mem_of_getElem? (i := 8) rfl)) (bg_cons (bi_wsL_law0_r32 _ (List.mem_of_getElem? (i := 9) rfl)) (bg_cons (bi_wsL_law0_r1 _ (List.mem_of_getElem? (i := 5) rfl)) bg_nil))))) (bg_up (bg_law (bi_wsL_law0_r32 _ (List.mem_of_getElem? (i := 10) rfl))))
def ztdX12_riseOf_0 : List (Nat × Instr × Nat) := [(0, .aload_n 0, 1), (1, .iload_n 1, 1), (2, .iload_n 2, 1), (3, .aload_n 0, 1), (4, .getfield 58, 3), (7, .iload_n 1, 1), (8, .iload_n 2, 1), (9, .invokestatic 294, 3), (12, .iaload, 1), (13, .aload_n 0, 1), (14, .getfield 58, 3), (17, .bipush 68, 2), (19, .iaload, 1), (20, .invokevirtual 297, 3), (23, .ireturn, 1)]
theorem zhdX12_riseOf_0 : dzC ztdX12_riseOf_0 0 (cX12_riseOf.data.toList.drop 0) = true := by decide +kernel
theorem dX12_riseOf_0 : decode cX12_riseOf 0 = .ok (.aload_n 0, 1) := dzr zhdX12_riseOf_0 0 rfl
theorem dX12_riseOf_1 : decode cX12_riseOf 1 = .ok (.iload_n 1, 1) := dzr zhdX12_riseOf_0 1 rfl
theorem dX12_riseOf_2 : decode cX12_riseOf 2 = .ok (.iload_n 2, 1) := dzr zhdX12_riseOf_0 2 rfl
theorem dX12_riseOf_3 : decode cX12_riseOf 3 = .ok (.aload_n 0, 1) := dzr zhdX12_riseOf_0 3 rfl
theorem dX12_riseOf_4 : decode cX12_riseOf 4 = .ok (.getfield 58, 3) := dzr zhdX12_riseOf_0 4 rfl
theorem dX12_riseOf_7 : decode cX12_riseOf 7 = .ok (.iload_n 1, 1) := dzr zhdX12_riseOf_0 5 rfl
theorem dX12_riseOf_8 : decode cX12_riseOf 8 = .ok (.iload_n 2, 1) := dzr zhdX12_riseOf_0 6 rfl
theorem dX12_riseOf_9 : decode cX12_riseOf 9 = .ok (.invokestatic 294, 3) := dzr zhdX12_riseOf_0 7 rfl
theorem dX12_riseOf_12 : decode cX12_riseOf 12 = .ok (.iaload, 1) := dzr zhdX12_riseOf_0 8 rfl
theorem dX12_riseOf_13 : decode cX12_riseOf 13 = .ok (.aload_n 0, 1) := dzr zhdX12_riseOf_0 9 rfl
theorem dX12_riseOf_14 : decode cX12_riseOf 14 = .ok (.getfield 58, 3) := dzr zhdX12_riseOf_0 10 rfl
theorem dX12_riseOf_17 : decode cX12_riseOf 17 = .ok (.bipush 68, 2) := dzr zhdX12_riseOf_0 11 rfl
theorem dX12_riseOf_19 : decode cX12_riseOf 19 = .ok (.iaload, 1) := dzr zhdX12_riseOf_0 12 rfl
theorem dX12_riseOf_20 : decode cX12_riseOf 20 = .ok (.invokevirtual 297, 3) := dzr zhdX12_riseOf_0 13 rfl
theorem dX12_riseOf_23 : decode cX12_riseOf 23 = .ok (.ireturn, 1) := dzr zhdX12_riseOf_0 14 rfl
def ztdX12_isFree_0 : List (Nat × Instr × Nat) := [(0, .aload_n 0, 1), (1, .getfield 58, 3), (4, .bipush 54, 2), (6, .iload_n 1, 1), (7, .iadd, 1), (8, .iaload, 1), (9, .iconst (-1), 1), (10, .if_icmp .ne 7, 3), (13, .iconst 1, 1), (14, .goto 4, 3), (17, .iconst 0, 1), (18, .ireturn, 1)]
theorem zhdX12_isFree_0 : dzC ztdX12_isFree_0 0 (cX12_isFree.data.toList.drop 0) = true := by decide +kernel
theorem dX12_isFree_0 : decode cX12_isFree 0 = .ok (.aload_n 0, 1) := dzr zhdX12_isFree_0 0 rfl
theorem dX12_isFree_1 : decode cX12_isFree 1 = .ok (.getfield 58, 3) := dzr zhdX12_isFree_0 1 rfl
theorem dX12_isFree_4 : decode cX12_isFree 4 = .ok (.bipush 54, 2) := dzr zhdX12_isFree_0 2 rfl
theorem dX12_isFree_6 : decode cX12_isFree 6 = .ok (.iload_n 1, 1) := dzr zhdX12_isFree_0 3 rfl
theorem dX12_isFree_7 : decode cX12_isFree 7 = .ok (.iadd, 1) := dzr zhdX12_isFree_0 4 rfl
theorem dX12_isFree_8 : decode cX12_isFree 8 = .ok (.iaload, 1) := dzr zhdX12_isFree_0 5 rfl
theorem dX12_isFree_9 : decode cX12_isFree 9 = .ok (.iconst (-1), 1) := dzr zhdX12_isFree_0 6 rfl
theorem dX12_isFree_10 : decode cX12_isFree 10 = .ok (.if_icmp .ne 7, 3) := dzr zhdX12_isFree_0 7 rfl
theorem dX12_isFree_13 : decode cX12_isFree 13 = .ok (.iconst 1, 1) := dzr zhdX12_isFree_0 8 rfl
theorem dX12_isFree_14 : decode cX12_isFree 14 = .ok (.goto 4, 3) := dzr zhdX12_isFree_0 9 rfl
theorem dX12_isFree_17 : decode cX12_isFree 17 = .ok (.iconst 0, 1) := dzr zhdX12_isFree_0 10 rfl
theorem dX12_isFree_18 : decode cX12_isFree 18 = .ok (.ireturn, 1) := dzr zhdX12_isFree_0 11 rfl
theorem ggX12_signNow_X12_pairAt : GoodIn wsX12_signNow wsX12_pairAt := (bg_up (bg_law (bi_wsL_law0_r27 _ (List.mem_of_getElem? (i := 16) rfl))))
theorem gX12_signNow_X12_pairAt : GoodIn wsX12_signNow (va_wsS RX12 294 yX12_pairAt wsX12_pairAt) := goodIn_app (bg_up (bg_cons (bi_wsL_law0_r27 _ (List.mem_of_getElem? (i := 14) rfl)) (bg_cons (bi_wsL_law0_r27 _ (List.mem_of_getElem? (i := 15) rfl)) (bg_cons (bi_wsL_law0_r1 _ (List.mem_of_getElem? (i := 5) rfl)) bg_nil)))) (bg_up (bg_law (bi_wsL_law0_r27 _ (List.mem_of_getElem? (i := 16) rfl))))
theorem ggX12_signNow_X12_codeOf : GoodIn wsX12_signNow wsX12_codeOf := (bg_up (bg_law (bi_wsL_law0_r34 _ (List.mem_of_getElem? (i := 2) rfl))))
theorem gX12_signNow_X12_codeOf : GoodIn wsX12_signNow (va_wsS RX12 301 yX12_codeOf wsX12_codeOf) := goodIn_app (bg_up (bg_cons (bi_wsL_law0_r34 _ (List.mem_of_getElem? (i := 0) rfl)) (bg_cons (bi_wsL_law0_r34 _ (List.mem_of_getElem? (i := 1) rfl)) (bg_cons (bi_wsL_law0_r1 _ (List.mem_of_getElem? (i := 5) rfl)) bg_nil)))) (bg_up (bg_law (bi_wsL_law0_r34 _ (List.mem_of_getElem? (i := 2) rfl))))
def ztdX12_signNow_0 : List (Nat × Instr × Nat) := [(0, .iconst 0, 1), (1, .istore_n 3, 1), (2, .iload_n 3, 1), (3, .aload_n 0, 1), (4, .getfield 255, 3), (7, .if_icmp .ge 73, 3), (10, .aload_n 0, 1), (11, .getfield 58, 3), (14, .bipush 60, 2), (16, .iload_n 3, 1), (17, .iadd, 1), (18, .iaload, 1), (19, .iconst (-1), 1), (20, .if_icmp .ne 54, 3), (23, .aload_n 0, 1), (24, .getfield 58, 3), (27, .iload_n 1, 1), (28, .iload_n 2, 1), (29, .invokestatic 294, 3), (32, .iaload, 1), (33, .aload_n 0, 1), (34, .getfield 55, 3), (37, .iconst 2, 1), (38, .iload_n 3, 1)]
theorem zhdX12_signNow_0 : dzC ztdX12_signNow_0 0 (cX12_signNow.data.toList.drop 0) = true := by decide +kernel
theorem dX12_signNow_0 : decode cX12_signNow 0 = .ok (.iconst 0, 1) := dzr zhdX12_signNow_0 0 rfl
theorem dX12_signNow_1 : decode cX12_signNow 1 = .ok (.istore_n 3, 1) := dzr zhdX12_signNow_0 1 rfl
theorem dX12_signNow_2 : decode cX12_signNow 2 = .ok (.iload_n 3, 1) := dzr zhdX12_signNow_0 2 rfl
theorem dX12_signNow_3 : decode cX12_signNow 3 = .ok (.aload_n 0, 1) := dzr zhdX12_signNow_0 3 rfl
theorem dX12_signNow_4 : decode cX12_signNow 4 = .ok (.getfield 255, 3) := dzr zhdX12_signNow_0 4 rfl
theorem dX12_signNow_7 : decode cX12_signNow 7 = .ok (.if_icmp .ge 73, 3) := dzr zhdX12_signNow_0 5 rfl
theorem dX12_signNow_10 : decode cX12_signNow 10 = .ok (.aload_n 0, 1) := dzr zhdX12_signNow_0 6 rfl
theorem dX12_signNow_11 : decode cX12_signNow 11 = .ok (.getfield 58, 3) := dzr zhdX12_signNow_0 7 rfl
theorem dX12_signNow_14 : decode cX12_signNow 14 = .ok (.bipush 60, 2) := dzr zhdX12_signNow_0 8 rfl
theorem dX12_signNow_16 : decode cX12_signNow 16 = .ok (.iload_n 3, 1) := dzr zhdX12_signNow_0 9 rfl
theorem dX12_signNow_17 : decode cX12_signNow 17 = .ok (.iadd, 1) := dzr zhdX12_signNow_0 10 rfl
theorem dX12_signNow_18 : decode cX12_signNow 18 = .ok (.iaload, 1) := dzr zhdX12_signNow_0 11 rfl
theorem dX12_signNow_19 : decode cX12_signNow 19 = .ok (.iconst (-1), 1) := dzr zhdX12_signNow_0 12 rfl
theorem dX12_signNow_20 : decode cX12_signNow 20 = .ok (.if_icmp .ne 54, 3) := dzr zhdX12_signNow_0 13 rfl
theorem dX12_signNow_23 : decode cX12_signNow 23 = .ok (.aload_n 0, 1) := dzr zhdX12_signNow_0 14 rfl
theorem dX12_signNow_24 : decode cX12_signNow 24 = .ok (.getfield 58, 3) := dzr zhdX12_signNow_0 15 rfl
theorem dX12_signNow_27 : decode cX12_signNow 27 = .ok (.iload_n 1, 1) := dzr zhdX12_signNow_0 16 rfl
theorem dX12_signNow_28 : decode cX12_signNow 28 = .ok (.iload_n 2, 1) := dzr zhdX12_signNow_0 17 rfl
theorem dX12_signNow_29 : decode cX12_signNow 29 = .ok (.invokestatic 294, 3) := dzr zhdX12_signNow_0 18 rfl
theorem dX12_signNow_32 : decode cX12_signNow 32 = .ok (.iaload, 1) := dzr zhdX12_signNow_0 19 rfl
theorem dX12_signNow_33 : decode cX12_signNow 33 = .ok (.aload_n 0, 1) := dzr zhdX12_signNow_0 20 rfl
theorem dX12_signNow_34 : decode cX12_signNow 34 = .ok (.getfield 55, 3) := dzr zhdX12_signNow_0 21 rfl
theorem dX12_signNow_37 : decode cX12_signNow 37 = .ok (.iconst 2, 1) := dzr zhdX12_signNow_0 22 rfl
theorem dX12_signNow_38 : decode cX12_signNow 38 = .ok (.iload_n 3, 1) := dzr zhdX12_signNow_0 23 rfl
def ztdX12_signNow_39 : List (Nat × Instr × Nat) := [(39, .imul, 1), (40, .iconst 1, 1), (41, .iadd, 1), (42, .iaload, 1), (43, .if_icmp .lt 31, 3), (46, .aload_n 0, 1), (47, .getfield 58, 3), (50, .bipush 60, 2), (52, .iload_n 3, 1), (53, .iadd, 1), (54, .iload_n 1, 1), (55, .iload_n 2, 1), (56, .invokestatic 301, 3), (59, .iastore, 1), (60, .aload_n 0, 1), (61, .getfield 58, 3), (64, .bipush 65, 2), (66, .dup2, 1), (67, .iaload, 1), (68, .iconst 1, 1), (69, .iload_n 3, 1), (70, .ishl, 1), (71, .ior, 1), (72, .iastore, 1)]
theorem zhdX12_signNow_39 : dzC ztdX12_signNow_39 39 (cX12_signNow.data.toList.drop 39) = true := by decide +kernel
theorem dX12_signNow_39 : decode cX12_signNow 39 = .ok (.imul, 1) := dzr zhdX12_signNow_39 0 rfl
theorem dX12_signNow_40 : decode cX12_signNow 40 = .ok (.iconst 1, 1) := dzr zhdX12_signNow_39 1 rfl
theorem dX12_signNow_41 : decode cX12_signNow 41 = .ok (.iadd, 1) := dzr zhdX12_signNow_39 2 rfl
theorem dX12_signNow_42 : decode cX12_signNow 42 = .ok (.iaload, 1) := dzr zhdX12_signNow_39 3 rfl
theorem dX12_signNow_43 : decode cX12_signNow 43 = .ok (.if_icmp .lt 31, 3) := dzr zhdX12_signNow_39 4 rfl
theorem dX12_signNow_46 : decode cX12_signNow 46 = .ok (.aload_n 0, 1) := dzr zhdX12_signNow_39 5 rfl
theorem dX12_signNow_47 : decode cX12_signNow 47 = .ok (.getfield 58, 3) := dzr zhdX12_signNow_39 6 rfl
theorem dX12_signNow_50 : decode cX12_signNow 50 = .ok (.bipush 60, 2) := dzr zhdX12_signNow_39 7 rfl
theorem dX12_signNow_52 : decode cX12_signNow 52 = .ok (.iload_n 3, 1) := dzr zhdX12_signNow_39 8 rfl
theorem dX12_signNow_53 : decode cX12_signNow 53 = .ok (.iadd, 1) := dzr zhdX12_signNow_39 9 rfl
theorem dX12_signNow_54 : decode cX12_signNow 54 = .ok (.iload_n 1, 1) := dzr zhdX12_signNow_39 10 rfl
theorem dX12_signNow_55 : decode cX12_signNow 55 = .ok (.iload_n 2, 1) := dzr zhdX12_signNow_39 11 rfl
theorem dX12_signNow_56 : decode cX12_signNow 56 = .ok (.invokestatic 301, 3) := dzr zhdX12_signNow_39 12 rfl
theorem dX12_signNow_59 : decode cX12_signNow 59 = .ok (.iastore, 1) := dzr zhdX12_signNow_39 13 rfl
theorem dX12_signNow_60 : decode cX12_signNow 60 = .ok (.aload_n 0, 1) := dzr zhdX12_signNow_39 14 rfl
theorem dX12_signNow_61 : decode cX12_signNow 61 = .ok (.getfield 58, 3) := dzr zhdX12_signNow_39 15 rfl
theorem dX12_signNow_64 : decode cX12_signNow 64 = .ok (.bipush 65, 2) := dzr zhdX12_signNow_39 16 rfl
theorem dX12_signNow_66 : decode cX12_signNow 66 = .ok (.dup2, 1) := dzr zhdX12_signNow_39 17 rfl
theorem dX12_signNow_67 : decode cX12_signNow 67 = .ok (.iaload, 1) := dzr zhdX12_signNow_39 18 rfl
theorem dX12_signNow_68 : decode cX12_signNow 68 = .ok (.iconst 1, 1) := dzr zhdX12_signNow_39 19 rfl
theorem dX12_signNow_69 : decode cX12_signNow 69 = .ok (.iload_n 3, 1) := dzr zhdX12_signNow_39 20 rfl
theorem dX12_signNow_70 : decode cX12_signNow 70 = .ok (.ishl, 1) := dzr zhdX12_signNow_39 21 rfl
theorem dX12_signNow_71 : decode cX12_signNow 71 = .ok (.ior, 1) := dzr zhdX12_signNow_39 22 rfl
theorem dX12_signNow_72 : decode cX12_signNow 72 = .ok (.iastore, 1) := dzr zhdX12_signNow_39 23 rfl
def ztdX12_signNow_73 : List (Nat × Instr × Nat) := [(73, .return_, 1), (74, .iinc 3 1, 3), (77, .goto (-75), 3), (80, .return_, 1)]
theorem zhdX12_signNow_73 : dzC ztdX12_signNow_73 73 (cX12_signNow.data.toList.drop 73) = true := by decide +kernel
theorem dX12_signNow_73 : decode cX12_signNow 73 = .ok (.return_, 1) := dzr zhdX12_signNow_73 0 rfl
theorem dX12_signNow_74 : decode cX12_signNow 74 = .ok (.iinc 3 1, 3) := dzr zhdX12_signNow_73 1 rfl
theorem dX12_signNow_77 : decode cX12_signNow 77 = .ok (.goto (-75), 3) := dzr zhdX12_signNow_73 2 rfl
theorem dX12_signNow_80 : decode cX12_signNow 80 = .ok (.return_, 1) := dzr zhdX12_signNow_73 3 rfl
theorem ggX12_meetNow_X12_pairAt : GoodIn wsX12_meetNow wsX12_pairAt := (bg_up (bg_law (bi_wsL_law0_r27 _ (List.mem_of_getElem? (i := 16) rfl))))
theorem gX12_meetNow_X12_pairAt : GoodIn wsX12_meetNow (va_wsS RX12 294 yX12_pairAt wsX12_pairAt) := goodIn_app (bg_up (bg_cons (bi_wsL_law0_r27 _ (List.mem_of_getElem? (i := 14) rfl)) (bg_cons (bi_wsL_law0_r27 _ (List.mem_of_getElem? (i := 15) rfl)) (bg_cons (bi_wsL_law0_r1 _ (List.mem_of_getElem? (i := 5) rfl)) bg_nil)))) (bg_up (bg_law (bi_wsL_law0_r27 _ (List.mem_of_getElem? (i := 16) rfl))))
theorem ggX12_meetNow_X12_riseOf : GoodIn wsX12_meetNow wsX12_riseOf := (bg_up (bg_law (bi_wsL_law0_r32 _ (List.mem_of_getElem? (i := 6) rfl))))
theorem gX12_meetNow_X12_riseOf : GoodIn wsX12_meetNow (wsV RX12 304 RX12 yX12_riseOf wsX12_riseOf) := goodIn_app (bg_up (bg_cons (bi_wsL_law0_r32 _ (List.mem_of_getElem? (i := 3) rfl)) (bg_cons (bi_wsL_law0_r32 _ (List.mem_of_getElem? (i := 4) rfl)) (bg_cons (bi_wsL_law0_r32 _ (List.mem_of_getElem? (i := 5) rfl)) (bg_cons (bi_wsL_law0_r1 _ (List.mem_of_getElem? (i := 5) rfl)) bg_nil))))) (bg_up (bg_law (bi_wsL_law0_r32 _ (List.mem_of_getElem? (i := 6) rfl))))
theorem ggX12_meetNow_X12_held : GoodIn wsX12_meetNow wsX12_held := (bg_up (bg_law (bi_wsL_law0_r33 _ (List.mem_of_getElem? (i := 19) rfl))))
theorem gX12_meetNow_X12_held : GoodIn wsX12_meetNow (va_wsS RX12 307 yX12_held wsX12_held) := goodIn_app (bg_up (bg_cons (bi_wsL_law0_r33 _ (List.mem_of_getElem? (i := 17) rfl)) (bg_cons (bi_wsL_law0_r33 _ (List.mem_of_getElem? (i := 18) rfl)) (bg_cons (bi_wsL_law0_r1 _ (List.mem_of_getElem? (i := 5) rfl)) bg_nil)))) (bg_up (bg_law (bi_wsL_law0_r33 _ (List.mem_of_getElem? (i := 19) rfl))))
theorem ggX12_meetNow_X12_signNow : GoodIn wsX12_meetNow wsX12_signNow := (bg_up (bg_law (bi_wsL_law0_r33 _ (List.mem_of_getElem? (i := 23) rfl))))
theorem gX12_meetNow_X12_signNow : GoodIn wsX12_meetNow (wsV RX12 310 RX12 yX12_signNow wsX12_signNow) := goodIn_app (bg_up (bg_cons (bi_wsL_law0_r33 _ (List.mem_of_getElem? (i := 20) rfl)) (bg_cons (bi_wsL_law0_r33 _ (List.mem_of_getElem? (i := 21) rfl)) (bg_cons (bi_wsL_law0_r33 _ (List.mem_of_getElem? (i := 22) rfl)) (bg_cons (bi_wsL_law0_r1 _ (List.mem_of_getElem? (i := 5) rfl)) bg_nil))))) (bg_up (bg_law (bi_wsL_law0_r33 _ (List.mem_of_getElem? (i := 23) rfl))))
def ztdX12_meetNow_0 : List (Nat × Instr × Nat) := [(0, .iload_n 1, 1), (1, .iload_n 2, 1), (2, .invokestatic 294, 3), (5, .istore_n 3, 1), (6, .aload_n 0, 1), (7, .getfield 58, 3), (10, .iload_n 3, 1), (11, .aload_n 0, 1), (12, .getfield 58, 3), (15, .iload_n 3, 1), (16, .iaload, 1), (17, .aload_n 0, 1), (18, .iload_n 1, 1), (19, .iload_n 2, 1), (20, .invokevirtual 304, 3), (23, .iadd, 1), (24, .invokestatic 307, 3), (27, .iastore, 1), (28, .aload_n 0, 1), (29, .getfield 58, 3), (32, .bipush 48, 2), (34, .iload_n 1, 1), (35, .iadd, 1), (36, .iaload, 1)]
theorem zhdX12_meetNow_0 : dzC ztdX12_meetNow_0 0 (cX12_meetNow.data.toList.drop 0) = true := by decide +kernel
theorem dX12_meetNow_0 : decode cX12_meetNow 0 = .ok (.iload_n 1, 1) := dzr zhdX12_meetNow_0 0 rfl
theorem dX12_meetNow_1 : decode cX12_meetNow 1 = .ok (.iload_n 2, 1) := dzr zhdX12_meetNow_0 1 rfl
theorem dX12_meetNow_2 : decode cX12_meetNow 2 = .ok (.invokestatic 294, 3) := dzr zhdX12_meetNow_0 2 rfl
theorem dX12_meetNow_5 : decode cX12_meetNow 5 = .ok (.istore_n 3, 1) := dzr zhdX12_meetNow_0 3 rfl
theorem dX12_meetNow_6 : decode cX12_meetNow 6 = .ok (.aload_n 0, 1) := dzr zhdX12_meetNow_0 4 rfl
theorem dX12_meetNow_7 : decode cX12_meetNow 7 = .ok (.getfield 58, 3) := dzr zhdX12_meetNow_0 5 rfl
theorem dX12_meetNow_10 : decode cX12_meetNow 10 = .ok (.iload_n 3, 1) := dzr zhdX12_meetNow_0 6 rfl
theorem dX12_meetNow_11 : decode cX12_meetNow 11 = .ok (.aload_n 0, 1) := dzr zhdX12_meetNow_0 7 rfl
theorem dX12_meetNow_12 : decode cX12_meetNow 12 = .ok (.getfield 58, 3) := dzr zhdX12_meetNow_0 8 rfl
theorem dX12_meetNow_15 : decode cX12_meetNow 15 = .ok (.iload_n 3, 1) := dzr zhdX12_meetNow_0 9 rfl
theorem dX12_meetNow_16 : decode cX12_meetNow 16 = .ok (.iaload, 1) := dzr zhdX12_meetNow_0 10 rfl
theorem dX12_meetNow_17 : decode cX12_meetNow 17 = .ok (.aload_n 0, 1) := dzr zhdX12_meetNow_0 11 rfl
theorem dX12_meetNow_18 : decode cX12_meetNow 18 = .ok (.iload_n 1, 1) := dzr zhdX12_meetNow_0 12 rfl
theorem dX12_meetNow_19 : decode cX12_meetNow 19 = .ok (.iload_n 2, 1) := dzr zhdX12_meetNow_0 13 rfl
theorem dX12_meetNow_20 : decode cX12_meetNow 20 = .ok (.invokevirtual 304, 3) := dzr zhdX12_meetNow_0 14 rfl
theorem dX12_meetNow_23 : decode cX12_meetNow 23 = .ok (.iadd, 1) := dzr zhdX12_meetNow_0 15 rfl
theorem dX12_meetNow_24 : decode cX12_meetNow 24 = .ok (.invokestatic 307, 3) := dzr zhdX12_meetNow_0 16 rfl
theorem dX12_meetNow_27 : decode cX12_meetNow 27 = .ok (.iastore, 1) := dzr zhdX12_meetNow_0 17 rfl
theorem dX12_meetNow_28 : decode cX12_meetNow 28 = .ok (.aload_n 0, 1) := dzr zhdX12_meetNow_0 18 rfl
theorem dX12_meetNow_29 : decode cX12_meetNow 29 = .ok (.getfield 58, 3) := dzr zhdX12_meetNow_0 19 rfl
theorem dX12_meetNow_32 : decode cX12_meetNow 32 = .ok (.bipush 48, 2) := dzr zhdX12_meetNow_0 20 rfl
theorem dX12_meetNow_34 : decode cX12_meetNow 34 = .ok (.iload_n 1, 1) := dzr zhdX12_meetNow_0 21 rfl
theorem dX12_meetNow_35 : decode cX12_meetNow 35 = .ok (.iadd, 1) := dzr zhdX12_meetNow_0 22 rfl
theorem dX12_meetNow_36 : decode cX12_meetNow 36 = .ok (.iaload, 1) := dzr zhdX12_meetNow_0 23 rfl
def ztdX12_meetNow_37 : List (Nat × Instr × Nat) := [(37, .aload_n 0, 1), (38, .getfield 58, 3), (41, .bipush 48, 2), (43, .iload_n 2, 1), (44, .iadd, 1), (45, .iaload, 1), (46, .ior, 1), (47, .istore 4, 2), (49, .aload_n 0, 1), (50, .getfield 58, 3), (53, .bipush 48, 2), (55, .iload_n 1, 1), (56, .iadd, 1), (57, .iload 4, 2), (59, .iastore, 1), (60, .aload_n 0, 1), (61, .getfield 58, 3), (64, .bipush 48, 2), (66, .iload_n 2, 1), (67, .iadd, 1), (68, .iload 4, 2), (70, .iastore, 1), (71, .aload_n 0, 1), (72, .getfield 58, 3)]
theorem zhdX12_meetNow_37 : dzC ztdX12_meetNow_37 37 (cX12_meetNow.data.toList.drop 37) = true := by decide +kernel
theorem dX12_meetNow_37 : decode cX12_meetNow 37 = .ok (.aload_n 0, 1) := dzr zhdX12_meetNow_37 0 rfl
theorem dX12_meetNow_38 : decode cX12_meetNow 38 = .ok (.getfield 58, 3) := dzr zhdX12_meetNow_37 1 rfl
theorem dX12_meetNow_41 : decode cX12_meetNow 41 = .ok (.bipush 48, 2) := dzr zhdX12_meetNow_37 2 rfl
theorem dX12_meetNow_43 : decode cX12_meetNow 43 = .ok (.iload_n 2, 1) := dzr zhdX12_meetNow_37 3 rfl
theorem dX12_meetNow_44 : decode cX12_meetNow 44 = .ok (.iadd, 1) := dzr zhdX12_meetNow_37 4 rfl
theorem dX12_meetNow_45 : decode cX12_meetNow 45 = .ok (.iaload, 1) := dzr zhdX12_meetNow_37 5 rfl
theorem dX12_meetNow_46 : decode cX12_meetNow 46 = .ok (.ior, 1) := dzr zhdX12_meetNow_37 6 rfl
theorem dX12_meetNow_47 : decode cX12_meetNow 47 = .ok (.istore 4, 2) := dzr zhdX12_meetNow_37 7 rfl
theorem dX12_meetNow_49 : decode cX12_meetNow 49 = .ok (.aload_n 0, 1) := dzr zhdX12_meetNow_37 8 rfl
theorem dX12_meetNow_50 : decode cX12_meetNow 50 = .ok (.getfield 58, 3) := dzr zhdX12_meetNow_37 9 rfl
theorem dX12_meetNow_53 : decode cX12_meetNow 53 = .ok (.bipush 48, 2) := dzr zhdX12_meetNow_37 10 rfl
theorem dX12_meetNow_55 : decode cX12_meetNow 55 = .ok (.iload_n 1, 1) := dzr zhdX12_meetNow_37 11 rfl
theorem dX12_meetNow_56 : decode cX12_meetNow 56 = .ok (.iadd, 1) := dzr zhdX12_meetNow_37 12 rfl
theorem dX12_meetNow_57 : decode cX12_meetNow 57 = .ok (.iload 4, 2) := dzr zhdX12_meetNow_37 13 rfl
theorem dX12_meetNow_59 : decode cX12_meetNow 59 = .ok (.iastore, 1) := dzr zhdX12_meetNow_37 14 rfl
theorem dX12_meetNow_60 : decode cX12_meetNow 60 = .ok (.aload_n 0, 1) := dzr zhdX12_meetNow_37 15 rfl
theorem dX12_meetNow_61 : decode cX12_meetNow 61 = .ok (.getfield 58, 3) := dzr zhdX12_meetNow_37 16 rfl
theorem dX12_meetNow_64 : decode cX12_meetNow 64 = .ok (.bipush 48, 2) := dzr zhdX12_meetNow_37 17 rfl
theorem dX12_meetNow_66 : decode cX12_meetNow 66 = .ok (.iload_n 2, 1) := dzr zhdX12_meetNow_37 18 rfl
theorem dX12_meetNow_67 : decode cX12_meetNow 67 = .ok (.iadd, 1) := dzr zhdX12_meetNow_37 19 rfl
theorem dX12_meetNow_68 : decode cX12_meetNow 68 = .ok (.iload 4, 2) := dzr zhdX12_meetNow_37 20 rfl
theorem dX12_meetNow_70 : decode cX12_meetNow 70 = .ok (.iastore, 1) := dzr zhdX12_meetNow_37 21 rfl
theorem dX12_meetNow_71 : decode cX12_meetNow 71 = .ok (.aload_n 0, 1) := dzr zhdX12_meetNow_37 22 rfl
theorem dX12_meetNow_72 : decode cX12_meetNow 72 = .ok (.getfield 58, 3) := dzr zhdX12_meetNow_37 23 rfl
def ztdX12_meetNow_75 : List (Nat × Instr × Nat) := [(75, .bipush 54, 2), (77, .iload_n 1, 1), (78, .iadd, 1), (79, .iload_n 2, 1), (80, .iastore, 1), (81, .aload_n 0, 1), (82, .getfield 58, 3), (85, .bipush 54, 2), (87, .iload_n 2, 1), (88, .iadd, 1), (89, .iload_n 1, 1), (90, .iastore, 1), (91, .aload_n 0, 1), (92, .iload_n 1, 1), (93, .iload_n 2, 1), (94, .invokevirtual 310, 3), (97, .return_, 1)]
theorem zhdX12_meetNow_75 : dzC ztdX12_meetNow_75 75 (cX12_meetNow.data.toList.drop 75) = true := by decide +kernel
theorem dX12_meetNow_75 : decode cX12_meetNow 75 = .ok (.bipush 54, 2) := dzr zhdX12_meetNow_75 0 rfl
theorem dX12_meetNow_77 : decode cX12_meetNow 77 = .ok (.iload_n 1, 1) := dzr zhdX12_meetNow_75 1 rfl
theorem dX12_meetNow_78 : decode cX12_meetNow 78 = .ok (.iadd, 1) := dzr zhdX12_meetNow_75 2 rfl
theorem dX12_meetNow_79 : decode cX12_meetNow 79 = .ok (.iload_n 2, 1) := dzr zhdX12_meetNow_75 3 rfl
theorem dX12_meetNow_80 : decode cX12_meetNow 80 = .ok (.iastore, 1) := dzr zhdX12_meetNow_75 4 rfl
theorem dX12_meetNow_81 : decode cX12_meetNow 81 = .ok (.aload_n 0, 1) := dzr zhdX12_meetNow_75 5 rfl
theorem dX12_meetNow_82 : decode cX12_meetNow 82 = .ok (.getfield 58, 3) := dzr zhdX12_meetNow_75 6 rfl
theorem dX12_meetNow_85 : decode cX12_meetNow 85 = .ok (.bipush 54, 2) := dzr zhdX12_meetNow_75 7 rfl
theorem dX12_meetNow_87 : decode cX12_meetNow 87 = .ok (.iload_n 2, 1) := dzr zhdX12_meetNow_75 8 rfl
theorem dX12_meetNow_88 : decode cX12_meetNow 88 = .ok (.iadd, 1) := dzr zhdX12_meetNow_75 9 rfl
theorem dX12_meetNow_89 : decode cX12_meetNow 89 = .ok (.iload_n 1, 1) := dzr zhdX12_meetNow_75 10 rfl
theorem dX12_meetNow_90 : decode cX12_meetNow 90 = .ok (.iastore, 1) := dzr zhdX12_meetNow_75 11 rfl
theorem dX12_meetNow_91 : decode cX12_meetNow 91 = .ok (.aload_n 0, 1) := dzr zhdX12_meetNow_75 12 rfl
theorem dX12_meetNow_92 : decode cX12_meetNow 92 = .ok (.iload_n 1, 1) := dzr zhdX12_meetNow_75 13 rfl
theorem dX12_meetNow_93 : decode cX12_meetNow 93 = .ok (.iload_n 2, 1) := dzr zhdX12_meetNow_75 14 rfl
theorem dX12_meetNow_94 : decode cX12_meetNow 94 = .ok (.invokevirtual 310, 3) := dzr zhdX12_meetNow_75 15 rfl
theorem dX12_meetNow_97 : decode cX12_meetNow 97 = .ok (.return_, 1) := dzr zhdX12_meetNow_75 16 rfl
theorem ggX12_metMany_X12_isFree : GoodIn wsX12_metMany wsX12_isFree := (bg_up (bg_law (bi_wsL_law0_r25 _ (List.mem_of_getElem? (i := 15) rfl))))
theorem gX12_metMany_X12_isFree : GoodIn wsX12_metMany (wsV RX12 313 RX12 yX12_isFree wsX12_isFree) := goodIn_app (bg_up (bg_cons (bi_wsL_law0_r25 _ (List.mem_of_getElem? (i := 12) rfl)) (bg_cons (bi_wsL_law0_r25 _ (List.mem_of_getElem? (i := 13) rfl)) (bg_cons (bi_wsL_law0_r25 _ (List.mem_of_getElem? (i := 14) rfl)) (bg_cons (bi_wsL_law0_r1 _ (List.mem_of_getElem? (i := 5) rfl)) bg_nil))))) (bg_up (bg_law (bi_wsL_law0_r25 _ (List.mem_of_getElem? (i := 15) rfl))))
def ztdX12_metMany_0 : List (Nat × Instr × Nat) := [(0, .iconst 0, 1), (1, .istore_n 1, 1), (2, .iconst 0, 1), (3, .istore_n 2, 1), (4, .iload_n 2, 1), (5, .aload_n 0, 1), (6, .getfield 252, 3), (9, .if_icmp .ge 25, 3), (12, .iload_n 1, 1), (13, .aload_n 0, 1), (14, .iload_n 2, 1), (15, .invokevirtual 313, 3), (18, .ifCond .eq 7, 3), (21, .iconst 0, 1), (22, .goto 4, 3), (25, .iconst 1, 1), (26, .iadd, 1), (27, .istore_n 1, 1), (28, .iinc 2 1, 3), (31, .goto (-27), 3), (34, .iload_n 1, 1), (35, .ireturn, 1)]
theorem zhdX12_metMany_0 : dzC ztdX12_metMany_0 0 (cX12_metMany.data.toList.drop 0) = true := by decide +kernel
theorem dX12_metMany_0 : decode cX12_metMany 0 = .ok (.iconst 0, 1) := dzr zhdX12_metMany_0 0 rfl
theorem dX12_metMany_1 : decode cX12_metMany 1 = .ok (.istore_n 1, 1) := dzr zhdX12_metMany_0 1 rfl
theorem dX12_metMany_2 : decode cX12_metMany 2 = .ok (.iconst 0, 1) := dzr zhdX12_metMany_0 2 rfl
theorem dX12_metMany_3 : decode cX12_metMany 3 = .ok (.istore_n 2, 1) := dzr zhdX12_metMany_0 3 rfl
theorem dX12_metMany_4 : decode cX12_metMany 4 = .ok (.iload_n 2, 1) := dzr zhdX12_metMany_0 4 rfl
theorem dX12_metMany_5 : decode cX12_metMany 5 = .ok (.aload_n 0, 1) := dzr zhdX12_metMany_0 5 rfl
theorem dX12_metMany_6 : decode cX12_metMany 6 = .ok (.getfield 252, 3) := dzr zhdX12_metMany_0 6 rfl
theorem dX12_metMany_9 : decode cX12_metMany 9 = .ok (.if_icmp .ge 25, 3) := dzr zhdX12_metMany_0 7 rfl
theorem dX12_metMany_12 : decode cX12_metMany 12 = .ok (.iload_n 1, 1) := dzr zhdX12_metMany_0 8 rfl
theorem dX12_metMany_13 : decode cX12_metMany 13 = .ok (.aload_n 0, 1) := dzr zhdX12_metMany_0 9 rfl
theorem dX12_metMany_14 : decode cX12_metMany 14 = .ok (.iload_n 2, 1) := dzr zhdX12_metMany_0 10 rfl
theorem dX12_metMany_15 : decode cX12_metMany 15 = .ok (.invokevirtual 313, 3) := dzr zhdX12_metMany_0 11 rfl
theorem dX12_metMany_18 : decode cX12_metMany 18 = .ok (.ifCond .eq 7, 3) := dzr zhdX12_metMany_0 12 rfl
theorem dX12_metMany_21 : decode cX12_metMany 21 = .ok (.iconst 0, 1) := dzr zhdX12_metMany_0 13 rfl
theorem dX12_metMany_22 : decode cX12_metMany 22 = .ok (.goto 4, 3) := dzr zhdX12_metMany_0 14 rfl
theorem dX12_metMany_25 : decode cX12_metMany 25 = .ok (.iconst 1, 1) := dzr zhdX12_metMany_0 15 rfl
theorem dX12_metMany_26 : decode cX12_metMany 26 = .ok (.iadd, 1) := dzr zhdX12_metMany_0 16 rfl
theorem dX12_metMany_27 : decode cX12_metMany 27 = .ok (.istore_n 1, 1) := dzr zhdX12_metMany_0 17 rfl
theorem dX12_metMany_28 : decode cX12_metMany 28 = .ok (.iinc 2 1, 3) := dzr zhdX12_metMany_0 18 rfl
theorem dX12_metMany_31 : decode cX12_metMany 31 = .ok (.goto (-27), 3) := dzr zhdX12_metMany_0 19 rfl
theorem dX12_metMany_34 : decode cX12_metMany 34 = .ok (.iload_n 1, 1) := dzr zhdX12_metMany_0 20 rfl
theorem dX12_metMany_35 : decode cX12_metMany 35 = .ok (.ireturn, 1) := dzr zhdX12_metMany_0 21 rfl
def ztdX12_warmthOfAll_0 : List (Nat × Instr × Nat) := [(0, .iconst 0, 1), (1, .istore_n 1, 1), (2, .iconst 0, 1), (3, .istore_n 2, 1), (4, .iload_n 2, 1), (5, .bipush 36, 2), (7, .if_icmp .ge 20, 3), (10, .iload_n 1, 1), (11, .aload_n 0, 1), (12, .getfield 58, 3), (15, .iconst 0, 1), (16, .iload_n 2, 1), (17, .iadd, 1), (18, .iaload, 1), (19, .iadd, 1), (20, .istore_n 1, 1), (21, .iinc 2 1, 3), (24, .goto (-20), 3), (27, .iload_n 1, 1), (28, .ireturn, 1)]
theorem zhdX12_warmthOfAll_0 : dzC ztdX12_warmthOfAll_0 0 (cX12_warmthOfAll.data.toList.drop 0) = true := by decide +kernel
theorem dX12_warmthOfAll_0 : decode cX12_warmthOfAll 0 = .ok (.iconst 0, 1) := dzr zhdX12_warmthOfAll_0 0 rfl
theorem dX12_warmthOfAll_1 : decode cX12_warmthOfAll 1 = .ok (.istore_n 1, 1) := dzr zhdX12_warmthOfAll_0 1 rfl
theorem dX12_warmthOfAll_2 : decode cX12_warmthOfAll 2 = .ok (.iconst 0, 1) := dzr zhdX12_warmthOfAll_0 2 rfl
theorem dX12_warmthOfAll_3 : decode cX12_warmthOfAll 3 = .ok (.istore_n 2, 1) := dzr zhdX12_warmthOfAll_0 3 rfl
theorem dX12_warmthOfAll_4 : decode cX12_warmthOfAll 4 = .ok (.iload_n 2, 1) := dzr zhdX12_warmthOfAll_0 4 rfl
theorem dX12_warmthOfAll_5 : decode cX12_warmthOfAll 5 = .ok (.bipush 36, 2) := dzr zhdX12_warmthOfAll_0 5 rfl
theorem dX12_warmthOfAll_7 : decode cX12_warmthOfAll 7 = .ok (.if_icmp .ge 20, 3) := dzr zhdX12_warmthOfAll_0 6 rfl
theorem dX12_warmthOfAll_10 : decode cX12_warmthOfAll 10 = .ok (.iload_n 1, 1) := dzr zhdX12_warmthOfAll_0 7 rfl
theorem dX12_warmthOfAll_11 : decode cX12_warmthOfAll 11 = .ok (.aload_n 0, 1) := dzr zhdX12_warmthOfAll_0 8 rfl
theorem dX12_warmthOfAll_12 : decode cX12_warmthOfAll 12 = .ok (.getfield 58, 3) := dzr zhdX12_warmthOfAll_0 9 rfl
theorem dX12_warmthOfAll_15 : decode cX12_warmthOfAll 15 = .ok (.iconst 0, 1) := dzr zhdX12_warmthOfAll_0 10 rfl
theorem dX12_warmthOfAll_16 : decode cX12_warmthOfAll 16 = .ok (.iload_n 2, 1) := dzr zhdX12_warmthOfAll_0 11 rfl
theorem dX12_warmthOfAll_17 : decode cX12_warmthOfAll 17 = .ok (.iadd, 1) := dzr zhdX12_warmthOfAll_0 12 rfl
theorem dX12_warmthOfAll_18 : decode cX12_warmthOfAll 18 = .ok (.iaload, 1) := dzr zhdX12_warmthOfAll_0 13 rfl
theorem dX12_warmthOfAll_19 : decode cX12_warmthOfAll 19 = .ok (.iadd, 1) := dzr zhdX12_warmthOfAll_0 14 rfl
theorem dX12_warmthOfAll_20 : decode cX12_warmthOfAll 20 = .ok (.istore_n 1, 1) := dzr zhdX12_warmthOfAll_0 15 rfl
theorem dX12_warmthOfAll_21 : decode cX12_warmthOfAll 21 = .ok (.iinc 2 1, 3) := dzr zhdX12_warmthOfAll_0 16 rfl
theorem dX12_warmthOfAll_24 : decode cX12_warmthOfAll 24 = .ok (.goto (-20), 3) := dzr zhdX12_warmthOfAll_0 17 rfl
theorem dX12_warmthOfAll_27 : decode cX12_warmthOfAll 27 = .ok (.iload_n 1, 1) := dzr zhdX12_warmthOfAll_0 18 rfl
theorem dX12_warmthOfAll_28 : decode cX12_warmthOfAll 28 = .ok (.ireturn, 1) := dzr zhdX12_warmthOfAll_0 19 rfl
theorem ggX12_cool_X12_areTwo : GoodIn wsX12_cool wsX12_areTwo := (bg_up (bg_law (bi_wsL_law0_r27 _ (List.mem_of_getElem? (i := 13) rfl))))
theorem gX12_cool_X12_areTwo : GoodIn wsX12_cool (wsV RX12 316 RX12 yX12_areTwo wsX12_areTwo) := goodIn_app (bg_up (bg_cons (bi_wsL_law0_r27 _ (List.mem_of_getElem? (i := 10) rfl)) (bg_cons (bi_wsL_law0_r27 _ (List.mem_of_getElem? (i := 11) rfl)) (bg_cons (bi_wsL_law0_r27 _ (List.mem_of_getElem? (i := 12) rfl)) (bg_cons (bi_wsL_law0_r1 _ (List.mem_of_getElem? (i := 5) rfl)) bg_nil))))) (bg_up (bg_law (bi_wsL_law0_r27 _ (List.mem_of_getElem? (i := 13) rfl))))
theorem ggX12_cool_X12_pairAt : GoodIn wsX12_cool wsX12_pairAt := (bg_up (bg_law (bi_wsL_law0_r27 _ (List.mem_of_getElem? (i := 16) rfl))))
theorem gX12_cool_X12_pairAt : GoodIn wsX12_cool (va_wsS RX12 294 yX12_pairAt wsX12_pairAt) := goodIn_app (bg_up (bg_cons (bi_wsL_law0_r27 _ (List.mem_of_getElem? (i := 14) rfl)) (bg_cons (bi_wsL_law0_r27 _ (List.mem_of_getElem? (i := 15) rfl)) (bg_cons (bi_wsL_law0_r1 _ (List.mem_of_getElem? (i := 5) rfl)) bg_nil)))) (bg_up (bg_law (bi_wsL_law0_r27 _ (List.mem_of_getElem? (i := 16) rfl))))
theorem ggX12_cool_X12_held : GoodIn wsX12_cool wsX12_held := (bg_up (bg_law (bi_wsL_law0_r33 _ (List.mem_of_getElem? (i := 19) rfl))))
theorem gX12_cool_X12_held : GoodIn wsX12_cool (va_wsS RX12 307 yX12_held wsX12_held) := goodIn_app (bg_up (bg_cons (bi_wsL_law0_r33 _ (List.mem_of_getElem? (i := 17) rfl)) (bg_cons (bi_wsL_law0_r33 _ (List.mem_of_getElem? (i := 18) rfl)) (bg_cons (bi_wsL_law0_r1 _ (List.mem_of_getElem? (i := 5) rfl)) bg_nil)))) (bg_up (bg_law (bi_wsL_law0_r33 _ (List.mem_of_getElem? (i := 19) rfl))))
def ztdX12_cool_0 : List (Nat × Instr × Nat) := [(0, .iconst 0, 1), (1, .istore_n 1, 1), (2, .iload_n 1, 1), (3, .aload_n 0, 1), (4, .getfield 252, 3), (7, .if_icmp .ge 74, 3), (10, .iload_n 1, 1), (11, .iconst 1, 1), (12, .iadd, 1), (13, .istore_n 2, 1), (14, .iload_n 2, 1), (15, .aload_n 0, 1), (16, .getfield 252, 3), (19, .if_icmp .ge 56, 3), (22, .aload_n 0, 1), (23, .iload_n 1, 1), (24, .iload_n 2, 1), (25, .invokevirtual 316, 3), (28, .ifCond .eq 41, 3), (31, .aload_n 0, 1), (32, .getfield 58, 3), (35, .bipush 54, 2), (37, .iload_n 1, 1), (38, .iadd, 1)]
theorem zhdX12_cool_0 : dzC ztdX12_cool_0 0 (cX12_cool.data.toList.drop 0) = true := by decide +kernel
theorem dX12_cool_0 : decode cX12_cool 0 = .ok (.iconst 0, 1) := dzr zhdX12_cool_0 0 rfl
theorem dX12_cool_1 : decode cX12_cool 1 = .ok (.istore_n 1, 1) := dzr zhdX12_cool_0 1 rfl
theorem dX12_cool_2 : decode cX12_cool 2 = .ok (.iload_n 1, 1) := dzr zhdX12_cool_0 2 rfl
theorem dX12_cool_3 : decode cX12_cool 3 = .ok (.aload_n 0, 1) := dzr zhdX12_cool_0 3 rfl
theorem dX12_cool_4 : decode cX12_cool 4 = .ok (.getfield 252, 3) := dzr zhdX12_cool_0 4 rfl
theorem dX12_cool_7 : decode cX12_cool 7 = .ok (.if_icmp .ge 74, 3) := dzr zhdX12_cool_0 5 rfl
theorem dX12_cool_10 : decode cX12_cool 10 = .ok (.iload_n 1, 1) := dzr zhdX12_cool_0 6 rfl
theorem dX12_cool_11 : decode cX12_cool 11 = .ok (.iconst 1, 1) := dzr zhdX12_cool_0 7 rfl
theorem dX12_cool_12 : decode cX12_cool 12 = .ok (.iadd, 1) := dzr zhdX12_cool_0 8 rfl
theorem dX12_cool_13 : decode cX12_cool 13 = .ok (.istore_n 2, 1) := dzr zhdX12_cool_0 9 rfl
theorem dX12_cool_14 : decode cX12_cool 14 = .ok (.iload_n 2, 1) := dzr zhdX12_cool_0 10 rfl
theorem dX12_cool_15 : decode cX12_cool 15 = .ok (.aload_n 0, 1) := dzr zhdX12_cool_0 11 rfl
theorem dX12_cool_16 : decode cX12_cool 16 = .ok (.getfield 252, 3) := dzr zhdX12_cool_0 12 rfl
theorem dX12_cool_19 : decode cX12_cool 19 = .ok (.if_icmp .ge 56, 3) := dzr zhdX12_cool_0 13 rfl
theorem dX12_cool_22 : decode cX12_cool 22 = .ok (.aload_n 0, 1) := dzr zhdX12_cool_0 14 rfl
theorem dX12_cool_23 : decode cX12_cool 23 = .ok (.iload_n 1, 1) := dzr zhdX12_cool_0 15 rfl
theorem dX12_cool_24 : decode cX12_cool 24 = .ok (.iload_n 2, 1) := dzr zhdX12_cool_0 16 rfl
theorem dX12_cool_25 : decode cX12_cool 25 = .ok (.invokevirtual 316, 3) := dzr zhdX12_cool_0 17 rfl
theorem dX12_cool_28 : decode cX12_cool 28 = .ok (.ifCond .eq 41, 3) := dzr zhdX12_cool_0 18 rfl
theorem dX12_cool_31 : decode cX12_cool 31 = .ok (.aload_n 0, 1) := dzr zhdX12_cool_0 19 rfl
theorem dX12_cool_32 : decode cX12_cool 32 = .ok (.getfield 58, 3) := dzr zhdX12_cool_0 20 rfl
theorem dX12_cool_35 : decode cX12_cool 35 = .ok (.bipush 54, 2) := dzr zhdX12_cool_0 21 rfl
theorem dX12_cool_37 : decode cX12_cool 37 = .ok (.iload_n 1, 1) := dzr zhdX12_cool_0 22 rfl
theorem dX12_cool_38 : decode cX12_cool 38 = .ok (.iadd, 1) := dzr zhdX12_cool_0 23 rfl
def ztdX12_cool_39 : List (Nat × Instr × Nat) := [(39, .iaload, 1), (40, .iload_n 2, 1), (41, .if_icmp .eq 28, 3), (44, .aload_n 0, 1), (45, .getfield 58, 3), (48, .iload_n 1, 1), (49, .iload_n 2, 1), (50, .invokestatic 294, 3), (53, .aload_n 0, 1), (54, .getfield 58, 3), (57, .iload_n 1, 1), (58, .iload_n 2, 1), (59, .invokestatic 294, 3), (62, .iaload, 1), (63, .iconst 1, 1), (64, .isub, 1), (65, .invokestatic 307, 3), (68, .iastore, 1), (69, .iinc 2 1, 3), (72, .goto (-58), 3), (75, .iinc 1 1, 3), (78, .goto (-76), 3), (81, .return_, 1)]
theorem zhdX12_cool_39 : dzC ztdX12_cool_39 39 (cX12_cool.data.toList.drop 39) = true := by decide +kernel
theorem dX12_cool_39 : decode cX12_cool 39 = .ok (.iaload, 1) := dzr zhdX12_cool_39 0 rfl
theorem dX12_cool_40 : decode cX12_cool 40 = .ok (.iload_n 2, 1) := dzr zhdX12_cool_39 1 rfl
theorem dX12_cool_41 : decode cX12_cool 41 = .ok (.if_icmp .eq 28, 3) := dzr zhdX12_cool_39 2 rfl
theorem dX12_cool_44 : decode cX12_cool 44 = .ok (.aload_n 0, 1) := dzr zhdX12_cool_39 3 rfl
theorem dX12_cool_45 : decode cX12_cool 45 = .ok (.getfield 58, 3) := dzr zhdX12_cool_39 4 rfl
theorem dX12_cool_48 : decode cX12_cool 48 = .ok (.iload_n 1, 1) := dzr zhdX12_cool_39 5 rfl
theorem dX12_cool_49 : decode cX12_cool 49 = .ok (.iload_n 2, 1) := dzr zhdX12_cool_39 6 rfl
theorem dX12_cool_50 : decode cX12_cool 50 = .ok (.invokestatic 294, 3) := dzr zhdX12_cool_39 7 rfl
theorem dX12_cool_53 : decode cX12_cool 53 = .ok (.aload_n 0, 1) := dzr zhdX12_cool_39 8 rfl
theorem dX12_cool_54 : decode cX12_cool 54 = .ok (.getfield 58, 3) := dzr zhdX12_cool_39 9 rfl
theorem dX12_cool_57 : decode cX12_cool 57 = .ok (.iload_n 1, 1) := dzr zhdX12_cool_39 10 rfl
theorem dX12_cool_58 : decode cX12_cool 58 = .ok (.iload_n 2, 1) := dzr zhdX12_cool_39 11 rfl
theorem dX12_cool_59 : decode cX12_cool 59 = .ok (.invokestatic 294, 3) := dzr zhdX12_cool_39 12 rfl
theorem dX12_cool_62 : decode cX12_cool 62 = .ok (.iaload, 1) := dzr zhdX12_cool_39 13 rfl
theorem dX12_cool_63 : decode cX12_cool 63 = .ok (.iconst 1, 1) := dzr zhdX12_cool_39 14 rfl
theorem dX12_cool_64 : decode cX12_cool 64 = .ok (.isub, 1) := dzr zhdX12_cool_39 15 rfl
theorem dX12_cool_65 : decode cX12_cool 65 = .ok (.invokestatic 307, 3) := dzr zhdX12_cool_39 16 rfl
theorem dX12_cool_68 : decode cX12_cool 68 = .ok (.iastore, 1) := dzr zhdX12_cool_39 17 rfl
theorem dX12_cool_69 : decode cX12_cool 69 = .ok (.iinc 2 1, 3) := dzr zhdX12_cool_39 18 rfl
theorem dX12_cool_72 : decode cX12_cool 72 = .ok (.goto (-58), 3) := dzr zhdX12_cool_39 19 rfl
theorem dX12_cool_75 : decode cX12_cool 75 = .ok (.iinc 1 1, 3) := dzr zhdX12_cool_39 20 rfl
theorem dX12_cool_78 : decode cX12_cool 78 = .ok (.goto (-76), 3) := dzr zhdX12_cool_39 21 rfl
theorem dX12_cool_81 : decode cX12_cool 81 = .ok (.return_, 1) := dzr zhdX12_cool_39 22 rfl
theorem ggX12_live_X12_cool : GoodIn wsX12_live wsX12_cool := (bg_up (bg_law (bi_wsL_law0_r39 _ (List.mem_of_getElem? (i := 8) rfl))))
theorem gX12_live_X12_cool : GoodIn wsX12_live (wsV RX12 319 RX12 yX12_cool wsX12_cool) := goodIn_app (bg_up (bg_cons (bi_wsL_law0_r39 _ (List.mem_of_getElem? (i := 5) rfl)) (bg_cons (bi_wsL_law0_r39 _ (List.mem_of_getElem? (i := 6) rfl)) (bg_cons (bi_wsL_law0_r39 _ (List.mem_of_getElem? (i := 7) rfl)) (bg_cons (bi_wsL_law0_r1 _ (List.mem_of_getElem? (i := 5) rfl)) bg_nil))))) (bg_up (bg_law (bi_wsL_law0_r39 _ (List.mem_of_getElem? (i := 8) rfl))))
def ztdX12_live_0 : List (Nat × Instr × Nat) := [(0, .aload_n 0, 1), (1, .invokevirtual 319, 3), (4, .aload_n 0, 1), (5, .getfield 58, 3), (8, .bipush 67, 2), (10, .sipush 999, 3), (13, .aload_n 0, 1), (14, .getfield 58, 3), (17, .bipush 67, 2), (19, .iaload, 1), (20, .iconst 2, 1), (21, .iadd, 1), (22, .invokestatic 280, 3), (25, .iastore, 1), (26, .iconst 0, 1), (27, .istore_n 1, 1), (28, .iload_n 1, 1), (29, .aload_n 0, 1), (30, .getfield 252, 3), (33, .if_icmp .ge 19, 3), (36, .aload_n 0, 1), (37, .getfield 58, 3), (40, .bipush 54, 2), (42, .iload_n 1, 1)]
theorem zhdX12_live_0 : dzC ztdX12_live_0 0 (cX12_live.data.toList.drop 0) = true := by decide +kernel
theorem dX12_live_0 : decode cX12_live 0 = .ok (.aload_n 0, 1) := dzr zhdX12_live_0 0 rfl
theorem dX12_live_1 : decode cX12_live 1 = .ok (.invokevirtual 319, 3) := dzr zhdX12_live_0 1 rfl
theorem dX12_live_4 : decode cX12_live 4 = .ok (.aload_n 0, 1) := dzr zhdX12_live_0 2 rfl
theorem dX12_live_5 : decode cX12_live 5 = .ok (.getfield 58, 3) := dzr zhdX12_live_0 3 rfl
theorem dX12_live_8 : decode cX12_live 8 = .ok (.bipush 67, 2) := dzr zhdX12_live_0 4 rfl
theorem dX12_live_10 : decode cX12_live 10 = .ok (.sipush 999, 3) := dzr zhdX12_live_0 5 rfl
theorem dX12_live_13 : decode cX12_live 13 = .ok (.aload_n 0, 1) := dzr zhdX12_live_0 6 rfl
theorem dX12_live_14 : decode cX12_live 14 = .ok (.getfield 58, 3) := dzr zhdX12_live_0 7 rfl
theorem dX12_live_17 : decode cX12_live 17 = .ok (.bipush 67, 2) := dzr zhdX12_live_0 8 rfl
theorem dX12_live_19 : decode cX12_live 19 = .ok (.iaload, 1) := dzr zhdX12_live_0 9 rfl
theorem dX12_live_20 : decode cX12_live 20 = .ok (.iconst 2, 1) := dzr zhdX12_live_0 10 rfl
theorem dX12_live_21 : decode cX12_live 21 = .ok (.iadd, 1) := dzr zhdX12_live_0 11 rfl
theorem dX12_live_22 : decode cX12_live 22 = .ok (.invokestatic 280, 3) := dzr zhdX12_live_0 12 rfl
theorem dX12_live_25 : decode cX12_live 25 = .ok (.iastore, 1) := dzr zhdX12_live_0 13 rfl
theorem dX12_live_26 : decode cX12_live 26 = .ok (.iconst 0, 1) := dzr zhdX12_live_0 14 rfl
theorem dX12_live_27 : decode cX12_live 27 = .ok (.istore_n 1, 1) := dzr zhdX12_live_0 15 rfl
theorem dX12_live_28 : decode cX12_live 28 = .ok (.iload_n 1, 1) := dzr zhdX12_live_0 16 rfl
theorem dX12_live_29 : decode cX12_live 29 = .ok (.aload_n 0, 1) := dzr zhdX12_live_0 17 rfl
theorem dX12_live_30 : decode cX12_live 30 = .ok (.getfield 252, 3) := dzr zhdX12_live_0 18 rfl
theorem dX12_live_33 : decode cX12_live 33 = .ok (.if_icmp .ge 19, 3) := dzr zhdX12_live_0 19 rfl
theorem dX12_live_36 : decode cX12_live 36 = .ok (.aload_n 0, 1) := dzr zhdX12_live_0 20 rfl
theorem dX12_live_37 : decode cX12_live 37 = .ok (.getfield 58, 3) := dzr zhdX12_live_0 21 rfl
theorem dX12_live_40 : decode cX12_live 40 = .ok (.bipush 54, 2) := dzr zhdX12_live_0 22 rfl
theorem dX12_live_42 : decode cX12_live 42 = .ok (.iload_n 1, 1) := dzr zhdX12_live_0 23 rfl
def ztdX12_live_43 : List (Nat × Instr × Nat) := [(43, .iadd, 1), (44, .iconst (-1), 1), (45, .iastore, 1), (46, .iinc 1 1, 3), (49, .goto (-21), 3), (52, .aload_n 0, 1), (53, .getfield 58, 3), (56, .bipush 65, 2), (58, .iconst 0, 1), (59, .iastore, 1), (60, .aload_n 0, 1), (61, .getfield 58, 3), (64, .bipush 68, 2), (66, .dup2, 1), (67, .iaload, 1), (68, .iconst 1, 1), (69, .iadd, 1), (70, .iastore, 1), (71, .return_, 1)]
theorem zhdX12_live_43 : dzC ztdX12_live_43 43 (cX12_live.data.toList.drop 43) = true := by decide +kernel
theorem dX12_live_43 : decode cX12_live 43 = .ok (.iadd, 1) := dzr zhdX12_live_43 0 rfl
theorem dX12_live_44 : decode cX12_live 44 = .ok (.iconst (-1), 1) := dzr zhdX12_live_43 1 rfl
theorem dX12_live_45 : decode cX12_live 45 = .ok (.iastore, 1) := dzr zhdX12_live_43 2 rfl
theorem dX12_live_46 : decode cX12_live 46 = .ok (.iinc 1 1, 3) := dzr zhdX12_live_43 3 rfl
theorem dX12_live_49 : decode cX12_live 49 = .ok (.goto (-21), 3) := dzr zhdX12_live_43 4 rfl
theorem dX12_live_52 : decode cX12_live 52 = .ok (.aload_n 0, 1) := dzr zhdX12_live_43 5 rfl
theorem dX12_live_53 : decode cX12_live 53 = .ok (.getfield 58, 3) := dzr zhdX12_live_43 6 rfl
theorem dX12_live_56 : decode cX12_live 56 = .ok (.bipush 65, 2) := dzr zhdX12_live_43 7 rfl
theorem dX12_live_58 : decode cX12_live 58 = .ok (.iconst 0, 1) := dzr zhdX12_live_43 8 rfl
theorem dX12_live_59 : decode cX12_live 59 = .ok (.iastore, 1) := dzr zhdX12_live_43 9 rfl
theorem dX12_live_60 : decode cX12_live 60 = .ok (.aload_n 0, 1) := dzr zhdX12_live_43 10 rfl
theorem dX12_live_61 : decode cX12_live 61 = .ok (.getfield 58, 3) := dzr zhdX12_live_43 11 rfl
theorem dX12_live_64 : decode cX12_live 64 = .ok (.bipush 68, 2) := dzr zhdX12_live_43 12 rfl
theorem dX12_live_66 : decode cX12_live 66 = .ok (.dup2, 1) := dzr zhdX12_live_43 13 rfl
theorem dX12_live_67 : decode cX12_live 67 = .ok (.iaload, 1) := dzr zhdX12_live_43 14 rfl
theorem dX12_live_68 : decode cX12_live 68 = .ok (.iconst 1, 1) := dzr zhdX12_live_43 15 rfl
theorem dX12_live_69 : decode cX12_live 69 = .ok (.iadd, 1) := dzr zhdX12_live_43 16 rfl
theorem dX12_live_70 : decode cX12_live 70 = .ok (.iastore, 1) := dzr zhdX12_live_43 17 rfl
theorem dX12_live_71 : decode cX12_live 71 = .ok (.return_, 1) := dzr zhdX12_live_43 18 rfl
theorem ggX12_passDay_X12_metMany : GoodIn wsX12_passDay wsX12_metMany := (bg_up (bg_law (bi_wsL_law0_r39 _ (List.mem_of_getElem? (i := 0) rfl))))
theorem gX12_passDay_X12_metMany : GoodIn wsX12_passDay (wsV RX12 322 RX12 yX12_metMany wsX12_metMany) := goodIn_app (bg_up (bg_cons (bi_wsL_law0_r38 _ (List.mem_of_getElem? (i := 21) rfl)) (bg_cons (bi_wsL_law0_r38 _ (List.mem_of_getElem? (i := 22) rfl)) (bg_cons (bi_wsL_law0_r38 _ (List.mem_of_getElem? (i := 23) rfl)) (bg_cons (bi_wsL_law0_r1 _ (List.mem_of_getElem? (i := 5) rfl)) bg_nil))))) (bg_up (bg_law (bi_wsL_law0_r39 _ (List.mem_of_getElem? (i := 0) rfl))))
theorem ggX12_passDay_X12_live : GoodIn wsX12_passDay wsX12_live := (bg_up (bg_law (bi_wsL_law0_r39 _ (List.mem_of_getElem? (i := 4) rfl))))
theorem gX12_passDay_X12_live : GoodIn wsX12_passDay (wsV RX12 325 RX12 yX12_live wsX12_live) := goodIn_app (bg_up (bg_cons (bi_wsL_law0_r39 _ (List.mem_of_getElem? (i := 1) rfl)) (bg_cons (bi_wsL_law0_r39 _ (List.mem_of_getElem? (i := 2) rfl)) (bg_cons (bi_wsL_law0_r39 _ (List.mem_of_getElem? (i := 3) rfl)) (bg_cons (bi_wsL_law0_r1 _ (List.mem_of_getElem? (i := 5) rfl)) bg_nil))))) (bg_up (bg_law (bi_wsL_law0_r39 _ (List.mem_of_getElem? (i := 4) rfl))))
theorem ggX12_passDay_X12_warmthOfAll : GoodIn wsX12_passDay wsX12_warmthOfAll := (bg_up (bg_law (bi_wsL_law0_r39 _ (List.mem_of_getElem? (i := 12) rfl))))
theorem gX12_passDay_X12_warmthOfAll : GoodIn wsX12_passDay (wsV RX12 328 RX12 yX12_warmthOfAll wsX12_warmthOfAll) := goodIn_app (bg_up (bg_cons (bi_wsL_law0_r39 _ (List.mem_of_getElem? (i := 9) rfl)) (bg_cons (bi_wsL_law0_r39 _ (List.mem_of_getElem? (i := 10) rfl)) (bg_cons (bi_wsL_law0_r39 _ (List.mem_of_getElem? (i := 11) rfl)) (bg_cons (bi_wsL_law0_r1 _ (List.mem_of_getElem? (i := 5) rfl)) bg_nil))))) (bg_up (bg_law (bi_wsL_law0_r39 _ (List.mem_of_getElem? (i := 12) rfl))))
def ztdX12_passDay_0 : List (Nat × Instr × Nat) := [(0, .aload_n 0, 1), (1, .invokevirtual 322, 3), (4, .istore_n 1, 1), (5, .aload_n 0, 1), (6, .getfield 58, 3), (9, .bipush 65, 2), (11, .iaload, 1), (12, .istore_n 2, 1), (13, .aload_n 0, 1), (14, .invokevirtual 325, 3), (17, .aload_n 0, 1), (18, .getfield 58, 3), (21, .bipush 69, 2), (23, .iaload, 1), (24, .bipush 60, 2), (26, .if_icmp .ne 49, 3), (29, .iconst 3, 1), (30, .istore_n 3, 1), (31, .iload_n 3, 1), (32, .sipush 180, 3), (35, .if_icmp .ge 29, 3), (38, .aload_n 0, 1), (39, .getfield 58, 3), (42, .bipush 70, 2)]
theorem zhdX12_passDay_0 : dzC ztdX12_passDay_0 0 (cX12_passDay.data.toList.drop 0) = true := by decide +kernel
theorem dX12_passDay_0 : decode cX12_passDay 0 = .ok (.aload_n 0, 1) := dzr zhdX12_passDay_0 0 rfl
theorem dX12_passDay_1 : decode cX12_passDay 1 = .ok (.invokevirtual 322, 3) := dzr zhdX12_passDay_0 1 rfl
theorem dX12_passDay_4 : decode cX12_passDay 4 = .ok (.istore_n 1, 1) := dzr zhdX12_passDay_0 2 rfl
theorem dX12_passDay_5 : decode cX12_passDay 5 = .ok (.aload_n 0, 1) := dzr zhdX12_passDay_0 3 rfl
theorem dX12_passDay_6 : decode cX12_passDay 6 = .ok (.getfield 58, 3) := dzr zhdX12_passDay_0 4 rfl
theorem dX12_passDay_9 : decode cX12_passDay 9 = .ok (.bipush 65, 2) := dzr zhdX12_passDay_0 5 rfl
theorem dX12_passDay_11 : decode cX12_passDay 11 = .ok (.iaload, 1) := dzr zhdX12_passDay_0 6 rfl
theorem dX12_passDay_12 : decode cX12_passDay 12 = .ok (.istore_n 2, 1) := dzr zhdX12_passDay_0 7 rfl
theorem dX12_passDay_13 : decode cX12_passDay 13 = .ok (.aload_n 0, 1) := dzr zhdX12_passDay_0 8 rfl
theorem dX12_passDay_14 : decode cX12_passDay 14 = .ok (.invokevirtual 325, 3) := dzr zhdX12_passDay_0 9 rfl
theorem dX12_passDay_17 : decode cX12_passDay 17 = .ok (.aload_n 0, 1) := dzr zhdX12_passDay_0 10 rfl
theorem dX12_passDay_18 : decode cX12_passDay 18 = .ok (.getfield 58, 3) := dzr zhdX12_passDay_0 11 rfl
theorem dX12_passDay_21 : decode cX12_passDay 21 = .ok (.bipush 69, 2) := dzr zhdX12_passDay_0 12 rfl
theorem dX12_passDay_23 : decode cX12_passDay 23 = .ok (.iaload, 1) := dzr zhdX12_passDay_0 13 rfl
theorem dX12_passDay_24 : decode cX12_passDay 24 = .ok (.bipush 60, 2) := dzr zhdX12_passDay_0 14 rfl
theorem dX12_passDay_26 : decode cX12_passDay 26 = .ok (.if_icmp .ne 49, 3) := dzr zhdX12_passDay_0 15 rfl
theorem dX12_passDay_29 : decode cX12_passDay 29 = .ok (.iconst 3, 1) := dzr zhdX12_passDay_0 16 rfl
theorem dX12_passDay_30 : decode cX12_passDay 30 = .ok (.istore_n 3, 1) := dzr zhdX12_passDay_0 17 rfl
theorem dX12_passDay_31 : decode cX12_passDay 31 = .ok (.iload_n 3, 1) := dzr zhdX12_passDay_0 18 rfl
theorem dX12_passDay_32 : decode cX12_passDay 32 = .ok (.sipush 180, 3) := dzr zhdX12_passDay_0 19 rfl
theorem dX12_passDay_35 : decode cX12_passDay 35 = .ok (.if_icmp .ge 29, 3) := dzr zhdX12_passDay_0 20 rfl
theorem dX12_passDay_38 : decode cX12_passDay 38 = .ok (.aload_n 0, 1) := dzr zhdX12_passDay_0 21 rfl
theorem dX12_passDay_39 : decode cX12_passDay 39 = .ok (.getfield 58, 3) := dzr zhdX12_passDay_0 22 rfl
theorem dX12_passDay_42 : decode cX12_passDay 42 = .ok (.bipush 70, 2) := dzr zhdX12_passDay_0 23 rfl
def ztdX12_passDay_44 : List (Nat × Instr × Nat) := [(44, .iload_n 3, 1), (45, .iadd, 1), (46, .iconst 3, 1), (47, .isub, 1), (48, .aload_n 0, 1), (49, .getfield 58, 3), (52, .bipush 70, 2), (54, .iload_n 3, 1), (55, .iadd, 1), (56, .iaload, 1), (57, .iastore, 1), (58, .iinc 3 1, 3), (61, .goto (-30), 3), (64, .aload_n 0, 1), (65, .getfield 58, 3), (68, .bipush 69, 2), (70, .dup2, 1), (71, .iaload, 1), (72, .iconst 1, 1), (73, .isub, 1), (74, .iastore, 1), (75, .bipush 70, 2), (77, .iconst 3, 1), (78, .aload_n 0, 1)]
theorem zhdX12_passDay_44 : dzC ztdX12_passDay_44 44 (cX12_passDay.data.toList.drop 44) = true := by decide +kernel
theorem dX12_passDay_44 : decode cX12_passDay 44 = .ok (.iload_n 3, 1) := dzr zhdX12_passDay_44 0 rfl
theorem dX12_passDay_45 : decode cX12_passDay 45 = .ok (.iadd, 1) := dzr zhdX12_passDay_44 1 rfl
theorem dX12_passDay_46 : decode cX12_passDay 46 = .ok (.iconst 3, 1) := dzr zhdX12_passDay_44 2 rfl
theorem dX12_passDay_47 : decode cX12_passDay 47 = .ok (.isub, 1) := dzr zhdX12_passDay_44 3 rfl
theorem dX12_passDay_48 : decode cX12_passDay 48 = .ok (.aload_n 0, 1) := dzr zhdX12_passDay_44 4 rfl
theorem dX12_passDay_49 : decode cX12_passDay 49 = .ok (.getfield 58, 3) := dzr zhdX12_passDay_44 5 rfl
theorem dX12_passDay_52 : decode cX12_passDay 52 = .ok (.bipush 70, 2) := dzr zhdX12_passDay_44 6 rfl
theorem dX12_passDay_54 : decode cX12_passDay 54 = .ok (.iload_n 3, 1) := dzr zhdX12_passDay_44 7 rfl
theorem dX12_passDay_55 : decode cX12_passDay 55 = .ok (.iadd, 1) := dzr zhdX12_passDay_44 8 rfl
theorem dX12_passDay_56 : decode cX12_passDay 56 = .ok (.iaload, 1) := dzr zhdX12_passDay_44 9 rfl
theorem dX12_passDay_57 : decode cX12_passDay 57 = .ok (.iastore, 1) := dzr zhdX12_passDay_44 10 rfl
theorem dX12_passDay_58 : decode cX12_passDay 58 = .ok (.iinc 3 1, 3) := dzr zhdX12_passDay_44 11 rfl
theorem dX12_passDay_61 : decode cX12_passDay 61 = .ok (.goto (-30), 3) := dzr zhdX12_passDay_44 12 rfl
theorem dX12_passDay_64 : decode cX12_passDay 64 = .ok (.aload_n 0, 1) := dzr zhdX12_passDay_44 13 rfl
theorem dX12_passDay_65 : decode cX12_passDay 65 = .ok (.getfield 58, 3) := dzr zhdX12_passDay_44 14 rfl
theorem dX12_passDay_68 : decode cX12_passDay 68 = .ok (.bipush 69, 2) := dzr zhdX12_passDay_44 15 rfl
theorem dX12_passDay_70 : decode cX12_passDay 70 = .ok (.dup2, 1) := dzr zhdX12_passDay_44 16 rfl
theorem dX12_passDay_71 : decode cX12_passDay 71 = .ok (.iaload, 1) := dzr zhdX12_passDay_44 17 rfl
theorem dX12_passDay_72 : decode cX12_passDay 72 = .ok (.iconst 1, 1) := dzr zhdX12_passDay_44 18 rfl
theorem dX12_passDay_73 : decode cX12_passDay 73 = .ok (.isub, 1) := dzr zhdX12_passDay_44 19 rfl
theorem dX12_passDay_74 : decode cX12_passDay 74 = .ok (.iastore, 1) := dzr zhdX12_passDay_44 20 rfl
theorem dX12_passDay_75 : decode cX12_passDay 75 = .ok (.bipush 70, 2) := dzr zhdX12_passDay_44 21 rfl
theorem dX12_passDay_77 : decode cX12_passDay 77 = .ok (.iconst 3, 1) := dzr zhdX12_passDay_44 22 rfl
theorem dX12_passDay_78 : decode cX12_passDay 78 = .ok (.aload_n 0, 1) := dzr zhdX12_passDay_44 23 rfl
def ztdX12_passDay_79 : List (Nat × Instr × Nat) := [(79, .getfield 58, 3), (82, .bipush 69, 2), (84, .iaload, 1), (85, .imul, 1), (86, .iadd, 1), (87, .istore_n 3, 1), (88, .aload_n 0, 1), (89, .getfield 58, 3), (92, .iload_n 3, 1), (93, .iload_n 1, 1), (94, .iastore, 1), (95, .aload_n 0, 1), (96, .getfield 58, 3), (99, .iload_n 3, 1), (100, .iconst 1, 1), (101, .iadd, 1), (102, .iload_n 2, 1), (103, .iastore, 1), (104, .aload_n 0, 1), (105, .getfield 58, 3), (108, .iload_n 3, 1), (109, .iconst 2, 1), (110, .iadd, 1), (111, .aload_n 0, 1)]
theorem zhdX12_passDay_79 : dzC ztdX12_passDay_79 79 (cX12_passDay.data.toList.drop 79) = true := by decide +kernel
theorem dX12_passDay_79 : decode cX12_passDay 79 = .ok (.getfield 58, 3) := dzr zhdX12_passDay_79 0 rfl
theorem dX12_passDay_82 : decode cX12_passDay 82 = .ok (.bipush 69, 2) := dzr zhdX12_passDay_79 1 rfl
theorem dX12_passDay_84 : decode cX12_passDay 84 = .ok (.iaload, 1) := dzr zhdX12_passDay_79 2 rfl
theorem dX12_passDay_85 : decode cX12_passDay 85 = .ok (.imul, 1) := dzr zhdX12_passDay_79 3 rfl
theorem dX12_passDay_86 : decode cX12_passDay 86 = .ok (.iadd, 1) := dzr zhdX12_passDay_79 4 rfl
theorem dX12_passDay_87 : decode cX12_passDay 87 = .ok (.istore_n 3, 1) := dzr zhdX12_passDay_79 5 rfl
theorem dX12_passDay_88 : decode cX12_passDay 88 = .ok (.aload_n 0, 1) := dzr zhdX12_passDay_79 6 rfl
theorem dX12_passDay_89 : decode cX12_passDay 89 = .ok (.getfield 58, 3) := dzr zhdX12_passDay_79 7 rfl
theorem dX12_passDay_92 : decode cX12_passDay 92 = .ok (.iload_n 3, 1) := dzr zhdX12_passDay_79 8 rfl
theorem dX12_passDay_93 : decode cX12_passDay 93 = .ok (.iload_n 1, 1) := dzr zhdX12_passDay_79 9 rfl
theorem dX12_passDay_94 : decode cX12_passDay 94 = .ok (.iastore, 1) := dzr zhdX12_passDay_79 10 rfl
theorem dX12_passDay_95 : decode cX12_passDay 95 = .ok (.aload_n 0, 1) := dzr zhdX12_passDay_79 11 rfl
theorem dX12_passDay_96 : decode cX12_passDay 96 = .ok (.getfield 58, 3) := dzr zhdX12_passDay_79 12 rfl
theorem dX12_passDay_99 : decode cX12_passDay 99 = .ok (.iload_n 3, 1) := dzr zhdX12_passDay_79 13 rfl
theorem dX12_passDay_100 : decode cX12_passDay 100 = .ok (.iconst 1, 1) := dzr zhdX12_passDay_79 14 rfl
theorem dX12_passDay_101 : decode cX12_passDay 101 = .ok (.iadd, 1) := dzr zhdX12_passDay_79 15 rfl
theorem dX12_passDay_102 : decode cX12_passDay 102 = .ok (.iload_n 2, 1) := dzr zhdX12_passDay_79 16 rfl
theorem dX12_passDay_103 : decode cX12_passDay 103 = .ok (.iastore, 1) := dzr zhdX12_passDay_79 17 rfl
theorem dX12_passDay_104 : decode cX12_passDay 104 = .ok (.aload_n 0, 1) := dzr zhdX12_passDay_79 18 rfl
theorem dX12_passDay_105 : decode cX12_passDay 105 = .ok (.getfield 58, 3) := dzr zhdX12_passDay_79 19 rfl
theorem dX12_passDay_108 : decode cX12_passDay 108 = .ok (.iload_n 3, 1) := dzr zhdX12_passDay_79 20 rfl
theorem dX12_passDay_109 : decode cX12_passDay 109 = .ok (.iconst 2, 1) := dzr zhdX12_passDay_79 21 rfl
theorem dX12_passDay_110 : decode cX12_passDay 110 = .ok (.iadd, 1) := dzr zhdX12_passDay_79 22 rfl
theorem dX12_passDay_111 : decode cX12_passDay 111 = .ok (.aload_n 0, 1) := dzr zhdX12_passDay_79 23 rfl
def ztdX12_passDay_112 : List (Nat × Instr × Nat) := [(112, .invokevirtual 328, 3), (115, .iastore, 1), (116, .aload_n 0, 1), (117, .getfield 58, 3), (120, .bipush 69, 2), (122, .dup2, 1), (123, .iaload, 1), (124, .iconst 1, 1), (125, .iadd, 1), (126, .iastore, 1), (127, .return_, 1)]
theorem zhdX12_passDay_112 : dzC ztdX12_passDay_112 112 (cX12_passDay.data.toList.drop 112) = true := by decide +kernel
theorem dX12_passDay_112 : decode cX12_passDay 112 = .ok (.invokevirtual 328, 3) := dzr zhdX12_passDay_112 0 rfl
theorem dX12_passDay_115 : decode cX12_passDay 115 = .ok (.iastore, 1) := dzr zhdX12_passDay_112 1 rfl
theorem dX12_passDay_116 : decode cX12_passDay 116 = .ok (.aload_n 0, 1) := dzr zhdX12_passDay_112 2 rfl
theorem dX12_passDay_117 : decode cX12_passDay 117 = .ok (.getfield 58, 3) := dzr zhdX12_passDay_112 3 rfl
theorem dX12_passDay_120 : decode cX12_passDay 120 = .ok (.bipush 69, 2) := dzr zhdX12_passDay_112 4 rfl
theorem dX12_passDay_122 : decode cX12_passDay 122 = .ok (.dup2, 1) := dzr zhdX12_passDay_112 5 rfl
theorem dX12_passDay_123 : decode cX12_passDay 123 = .ok (.iaload, 1) := dzr zhdX12_passDay_112 6 rfl
theorem dX12_passDay_124 : decode cX12_passDay 124 = .ok (.iconst 1, 1) := dzr zhdX12_passDay_112 7 rfl
theorem dX12_passDay_125 : decode cX12_passDay 125 = .ok (.iadd, 1) := dzr zhdX12_passDay_112 8 rfl
theorem dX12_passDay_126 : decode cX12_passDay 126 = .ok (.iastore, 1) := dzr zhdX12_passDay_112 9 rfl
theorem dX12_passDay_127 : decode cX12_passDay 127 = .ok (.return_, 1) := dzr zhdX12_passDay_112 10 rfl
theorem ggX12_rule_X12_in : GoodIn wsX12_rule wsX12_in := (bg_up (bg_law (bi_wsL_law0_r16 _ (List.mem_of_getElem? (i := 21) rfl))))
theorem gX12_rule_X12_in : GoodIn wsX12_rule (va_wsS RX12 211 yX12_in wsX12_in) := goodIn_app (bg_up (bg_cons (bi_wsL_law0_r16 _ (List.mem_of_getElem? (i := 19) rfl)) (bg_cons (bi_wsL_law0_r16 _ (List.mem_of_getElem? (i := 20) rfl)) (bg_cons (bi_wsL_law0_r1 _ (List.mem_of_getElem? (i := 5) rfl)) bg_nil)))) (bg_up (bg_law (bi_wsL_law0_r16 _ (List.mem_of_getElem? (i := 21) rfl))))
def ztdX12_rule_0 : List (Nat × Instr × Nat) := [(0, .aload_n 0, 1), (1, .getfield 252, 3), (4, .ifCond .eq 12, 3), (7, .iload_n 1, 1), (8, .iconst 0, 1), (9, .iconst 1, 1), (10, .invokestatic 211, 3), (13, .ifCond .ne 7, 3), (16, .iconst (-1), 1), (17, .goto 24, 3), (20, .iload_n 1, 1), (21, .ifCond .ne 13, 3), (24, .aload_n 0, 1), (25, .getfield 58, 3), (28, .bipush 66, 2), (30, .iaload, 1), (31, .goto 10, 3), (34, .aload_n 0, 1), (35, .getfield 58, 3), (38, .bipush 67, 2), (40, .iaload, 1), (41, .ireturn, 1)]
theorem zhdX12_rule_0 : dzC ztdX12_rule_0 0 (cX12_rule.data.toList.drop 0) = true := by decide +kernel
theorem dX12_rule_0 : decode cX12_rule 0 = .ok (.aload_n 0, 1) := dzr zhdX12_rule_0 0 rfl
theorem dX12_rule_1 : decode cX12_rule 1 = .ok (.getfield 252, 3) := dzr zhdX12_rule_0 1 rfl
theorem dX12_rule_4 : decode cX12_rule 4 = .ok (.ifCond .eq 12, 3) := dzr zhdX12_rule_0 2 rfl
theorem dX12_rule_7 : decode cX12_rule 7 = .ok (.iload_n 1, 1) := dzr zhdX12_rule_0 3 rfl
theorem dX12_rule_8 : decode cX12_rule 8 = .ok (.iconst 0, 1) := dzr zhdX12_rule_0 4 rfl
theorem dX12_rule_9 : decode cX12_rule 9 = .ok (.iconst 1, 1) := dzr zhdX12_rule_0 5 rfl
theorem dX12_rule_10 : decode cX12_rule 10 = .ok (.invokestatic 211, 3) := dzr zhdX12_rule_0 6 rfl
theorem dX12_rule_13 : decode cX12_rule 13 = .ok (.ifCond .ne 7, 3) := dzr zhdX12_rule_0 7 rfl
theorem dX12_rule_16 : decode cX12_rule 16 = .ok (.iconst (-1), 1) := dzr zhdX12_rule_0 8 rfl
theorem dX12_rule_17 : decode cX12_rule 17 = .ok (.goto 24, 3) := dzr zhdX12_rule_0 9 rfl
theorem dX12_rule_20 : decode cX12_rule 20 = .ok (.iload_n 1, 1) := dzr zhdX12_rule_0 10 rfl
theorem dX12_rule_21 : decode cX12_rule 21 = .ok (.ifCond .ne 13, 3) := dzr zhdX12_rule_0 11 rfl
theorem dX12_rule_24 : decode cX12_rule 24 = .ok (.aload_n 0, 1) := dzr zhdX12_rule_0 12 rfl
theorem dX12_rule_25 : decode cX12_rule 25 = .ok (.getfield 58, 3) := dzr zhdX12_rule_0 13 rfl
theorem dX12_rule_28 : decode cX12_rule 28 = .ok (.bipush 66, 2) := dzr zhdX12_rule_0 14 rfl
theorem dX12_rule_30 : decode cX12_rule 30 = .ok (.iaload, 1) := dzr zhdX12_rule_0 15 rfl
theorem dX12_rule_31 : decode cX12_rule 31 = .ok (.goto 10, 3) := dzr zhdX12_rule_0 16 rfl
theorem dX12_rule_34 : decode cX12_rule 34 = .ok (.aload_n 0, 1) := dzr zhdX12_rule_0 17 rfl
theorem dX12_rule_35 : decode cX12_rule 35 = .ok (.getfield 58, 3) := dzr zhdX12_rule_0 18 rfl
theorem dX12_rule_38 : decode cX12_rule 38 = .ok (.bipush 67, 2) := dzr zhdX12_rule_0 19 rfl
theorem dX12_rule_40 : decode cX12_rule 40 = .ok (.iaload, 1) := dzr zhdX12_rule_0 20 rfl
theorem dX12_rule_41 : decode cX12_rule 41 = .ok (.ireturn, 1) := dzr zhdX12_rule_0 21 rfl
theorem ggX12_glove_X12_isGlove : GoodIn wsX12_glove wsX12_isGlove := (bg_up (bg_law (bi_wsL_law0_r25 _ (List.mem_of_getElem? (i := 11) rfl))))
theorem gX12_glove_X12_isGlove : GoodIn wsX12_glove (wsV RX12 277 RX12 yX12_isGlove wsX12_isGlove) := goodIn_app (bg_up (bg_cons (bi_wsL_law0_r25 _ (List.mem_of_getElem? (i := 8) rfl)) (bg_cons (bi_wsL_law0_r25 _ (List.mem_of_getElem? (i := 9) rfl)) (bg_cons (bi_wsL_law0_r25 _ (List.mem_of_getElem? (i := 10) rfl)) (bg_cons (bi_wsL_law0_r1 _ (List.mem_of_getElem? (i := 5) rfl)) bg_nil))))) (bg_up (bg_law (bi_wsL_law0_r25 _ (List.mem_of_getElem? (i := 11) rfl))))
theorem ggX12_glove_X12_in : GoodIn wsX12_glove wsX12_in := (bg_up (bg_law (bi_wsL_law0_r16 _ (List.mem_of_getElem? (i := 21) rfl))))
theorem gX12_glove_X12_in : GoodIn wsX12_glove (va_wsS RX12 211 yX12_in wsX12_in) := goodIn_app (bg_up (bg_cons (bi_wsL_law0_r16 _ (List.mem_of_getElem? (i := 19) rfl)) (bg_cons (bi_wsL_law0_r16 _ (List.mem_of_getElem? (i := 20) rfl)) (bg_cons (bi_wsL_law0_r1 _ (List.mem_of_getElem? (i := 5) rfl)) bg_nil)))) (bg_up (bg_law (bi_wsL_law0_r16 _ (List.mem_of_getElem? (i := 21) rfl))))
theorem ggX12_glove_X12_isFree : GoodIn wsX12_glove wsX12_isFree := (bg_up (bg_law (bi_wsL_law0_r25 _ (List.mem_of_getElem? (i := 15) rfl))))
theorem gX12_glove_X12_isFree : GoodIn wsX12_glove (wsV RX12 313 RX12 yX12_isFree wsX12_isFree) := goodIn_app (bg_up (bg_cons (bi_wsL_law0_r25 _ (List.mem_of_getElem? (i := 12) rfl)) (bg_cons (bi_wsL_law0_r25 _ (List.mem_of_getElem? (i := 13) rfl)) (bg_cons (bi_wsL_law0_r25 _ (List.mem_of_getElem? (i := 14) rfl)) (bg_cons (bi_wsL_law0_r1 _ (List.mem_of_getElem? (i := 5) rfl)) bg_nil))))) (bg_up (bg_law (bi_wsL_law0_r25 _ (List.mem_of_getElem? (i := 15) rfl))))
theorem ggX12_glove_X12_of : GoodIn wsX12_glove wsX12_of := (bg_up (bg_law (bi_wsL_law0_r22 _ (List.mem_of_getElem? (i := 21) rfl))))
theorem gX12_glove_X12_of : GoodIn wsX12_glove (wsV RX12 258 RX12 yX12_of wsX12_of) := goodIn_app (bg_up (bg_cons (bi_wsL_law0_r22 _ (List.mem_of_getElem? (i := 18) rfl)) (bg_cons (bi_wsL_law0_r22 _ (List.mem_of_getElem? (i := 19) rfl)) (bg_cons (bi_wsL_law0_r22 _ (List.mem_of_getElem? (i := 20) rfl)) (bg_cons (bi_wsL_law0_r1 _ (List.mem_of_getElem? (i := 5) rfl)) bg_nil))))) (bg_up (bg_law (bi_wsL_law0_r22 _ (List.mem_of_getElem? (i := 21) rfl))))
theorem dX12_glove_37 : decode cX12_glove 37 = .ok (.tableswitch 79 1 5 #[35, 45, 79, 55, 69], 35) := by decide +kernel
def ztdX12_glove_0 : List (Nat × Instr × Nat) := [(0, .aload_n 0, 1), (1, .aload_n 0, 1), (2, .iload_n 1, 1), (3, .invokevirtual 277, 3), (6, .ifCond .eq 16, 3), (9, .iload_n 2, 1), (10, .iconst 0, 1), (11, .iconst 5, 1), (12, .invokestatic 211, 3), (15, .ifCond .eq 7, 3), (18, .iconst 0, 1), (19, .goto 4, 3), (22, .iconst 1, 1), (23, .putfield 96, 3), (26, .aload_n 0, 1), (27, .getfield 96, 3), (30, .iconst 1, 1), (31, .if_icmp .ne 5, 3), (34, .iconst 0, 1), (35, .ireturn, 1), (36, .iload_n 2, 1), (72, .aload_n 0, 1), (73, .getfield 58, 3), (76, .bipush 36, 2)]
theorem zhdX12_glove_0 : dzC ztdX12_glove_0 0 (cX12_glove.data.toList.drop 0) = true := by decide +kernel
theorem dX12_glove_0 : decode cX12_glove 0 = .ok (.aload_n 0, 1) := dzr zhdX12_glove_0 0 rfl
theorem dX12_glove_1 : decode cX12_glove 1 = .ok (.aload_n 0, 1) := dzr zhdX12_glove_0 1 rfl
theorem dX12_glove_2 : decode cX12_glove 2 = .ok (.iload_n 1, 1) := dzr zhdX12_glove_0 2 rfl
theorem dX12_glove_3 : decode cX12_glove 3 = .ok (.invokevirtual 277, 3) := dzr zhdX12_glove_0 3 rfl
theorem dX12_glove_6 : decode cX12_glove 6 = .ok (.ifCond .eq 16, 3) := dzr zhdX12_glove_0 4 rfl
theorem dX12_glove_9 : decode cX12_glove 9 = .ok (.iload_n 2, 1) := dzr zhdX12_glove_0 5 rfl
theorem dX12_glove_10 : decode cX12_glove 10 = .ok (.iconst 0, 1) := dzr zhdX12_glove_0 6 rfl
theorem dX12_glove_11 : decode cX12_glove 11 = .ok (.iconst 5, 1) := dzr zhdX12_glove_0 7 rfl
theorem dX12_glove_12 : decode cX12_glove 12 = .ok (.invokestatic 211, 3) := dzr zhdX12_glove_0 8 rfl
theorem dX12_glove_15 : decode cX12_glove 15 = .ok (.ifCond .eq 7, 3) := dzr zhdX12_glove_0 9 rfl
theorem dX12_glove_18 : decode cX12_glove 18 = .ok (.iconst 0, 1) := dzr zhdX12_glove_0 10 rfl
theorem dX12_glove_19 : decode cX12_glove 19 = .ok (.goto 4, 3) := dzr zhdX12_glove_0 11 rfl
theorem dX12_glove_22 : decode cX12_glove 22 = .ok (.iconst 1, 1) := dzr zhdX12_glove_0 12 rfl
theorem dX12_glove_23 : decode cX12_glove 23 = .ok (.putfield 96, 3) := dzr zhdX12_glove_0 13 rfl
theorem dX12_glove_26 : decode cX12_glove 26 = .ok (.aload_n 0, 1) := dzr zhdX12_glove_0 14 rfl
theorem dX12_glove_27 : decode cX12_glove 27 = .ok (.getfield 96, 3) := dzr zhdX12_glove_0 15 rfl
theorem dX12_glove_30 : decode cX12_glove 30 = .ok (.iconst 1, 1) := dzr zhdX12_glove_0 16 rfl
theorem dX12_glove_31 : decode cX12_glove 31 = .ok (.if_icmp .ne 5, 3) := dzr zhdX12_glove_0 17 rfl
theorem dX12_glove_34 : decode cX12_glove 34 = .ok (.iconst 0, 1) := dzr zhdX12_glove_0 18 rfl
theorem dX12_glove_35 : decode cX12_glove 35 = .ok (.ireturn, 1) := dzr zhdX12_glove_0 19 rfl
theorem dX12_glove_36 : decode cX12_glove 36 = .ok (.iload_n 2, 1) := dzr zhdX12_glove_0 20 rfl
theorem dX12_glove_72 : decode cX12_glove 72 = .ok (.aload_n 0, 1) := dzr zhdX12_glove_0 21 rfl
theorem dX12_glove_73 : decode cX12_glove 73 = .ok (.getfield 58, 3) := dzr zhdX12_glove_0 22 rfl
theorem dX12_glove_76 : decode cX12_glove 76 = .ok (.bipush 36, 2) := dzr zhdX12_glove_0 23 rfl
def ztdX12_glove_78 : List (Nat × Instr × Nat) := [(78, .iload_n 1, 1), (79, .iadd, 1), (80, .iaload, 1), (81, .ireturn, 1), (82, .aload_n 0, 1), (83, .getfield 58, 3), (86, .bipush 42, 2), (88, .iload_n 1, 1), (89, .iadd, 1), (90, .iaload, 1), (91, .ireturn, 1), (92, .aload_n 0, 1), (93, .iload_n 1, 1), (94, .invokevirtual 313, 3), (97, .ifCond .eq 7, 3), (100, .iconst 0, 1), (101, .goto 4, 3), (104, .iconst 1, 1), (105, .ireturn, 1), (106, .aload_n 0, 1), (107, .getfield 58, 3), (110, .bipush 48, 2), (112, .iload_n 1, 1), (113, .iadd, 1)]
theorem zhdX12_glove_78 : dzC ztdX12_glove_78 78 (cX12_glove.data.toList.drop 78) = true := by decide +kernel
theorem dX12_glove_78 : decode cX12_glove 78 = .ok (.iload_n 1, 1) := dzr zhdX12_glove_78 0 rfl
theorem dX12_glove_79 : decode cX12_glove 79 = .ok (.iadd, 1) := dzr zhdX12_glove_78 1 rfl
theorem dX12_glove_80 : decode cX12_glove 80 = .ok (.iaload, 1) := dzr zhdX12_glove_78 2 rfl
theorem dX12_glove_81 : decode cX12_glove 81 = .ok (.ireturn, 1) := dzr zhdX12_glove_78 3 rfl
theorem dX12_glove_82 : decode cX12_glove 82 = .ok (.aload_n 0, 1) := dzr zhdX12_glove_78 4 rfl
theorem dX12_glove_83 : decode cX12_glove 83 = .ok (.getfield 58, 3) := dzr zhdX12_glove_78 5 rfl
theorem dX12_glove_86 : decode cX12_glove 86 = .ok (.bipush 42, 2) := dzr zhdX12_glove_78 6 rfl
theorem dX12_glove_88 : decode cX12_glove 88 = .ok (.iload_n 1, 1) := dzr zhdX12_glove_78 7 rfl
theorem dX12_glove_89 : decode cX12_glove 89 = .ok (.iadd, 1) := dzr zhdX12_glove_78 8 rfl
theorem dX12_glove_90 : decode cX12_glove 90 = .ok (.iaload, 1) := dzr zhdX12_glove_78 9 rfl
theorem dX12_glove_91 : decode cX12_glove 91 = .ok (.ireturn, 1) := dzr zhdX12_glove_78 10 rfl
theorem dX12_glove_92 : decode cX12_glove 92 = .ok (.aload_n 0, 1) := dzr zhdX12_glove_78 11 rfl
theorem dX12_glove_93 : decode cX12_glove 93 = .ok (.iload_n 1, 1) := dzr zhdX12_glove_78 12 rfl
theorem dX12_glove_94 : decode cX12_glove 94 = .ok (.invokevirtual 313, 3) := dzr zhdX12_glove_78 13 rfl
theorem dX12_glove_97 : decode cX12_glove 97 = .ok (.ifCond .eq 7, 3) := dzr zhdX12_glove_78 14 rfl
theorem dX12_glove_100 : decode cX12_glove 100 = .ok (.iconst 0, 1) := dzr zhdX12_glove_78 15 rfl
theorem dX12_glove_101 : decode cX12_glove 101 = .ok (.goto 4, 3) := dzr zhdX12_glove_78 16 rfl
theorem dX12_glove_104 : decode cX12_glove 104 = .ok (.iconst 1, 1) := dzr zhdX12_glove_78 17 rfl
theorem dX12_glove_105 : decode cX12_glove 105 = .ok (.ireturn, 1) := dzr zhdX12_glove_78 18 rfl
theorem dX12_glove_106 : decode cX12_glove 106 = .ok (.aload_n 0, 1) := dzr zhdX12_glove_78 19 rfl
theorem dX12_glove_107 : decode cX12_glove 107 = .ok (.getfield 58, 3) := dzr zhdX12_glove_78 20 rfl
theorem dX12_glove_110 : decode cX12_glove 110 = .ok (.bipush 48, 2) := dzr zhdX12_glove_78 21 rfl
theorem dX12_glove_112 : decode cX12_glove 112 = .ok (.iload_n 1, 1) := dzr zhdX12_glove_78 22 rfl
theorem dX12_glove_113 : decode cX12_glove 113 = .ok (.iadd, 1) := dzr zhdX12_glove_78 23 rfl
def ztdX12_glove_114 : List (Nat × Instr × Nat) := [(114, .iaload, 1), (115, .ireturn, 1), (116, .aload_n 0, 1), (117, .iload_n 1, 1), (118, .iload_n 2, 1), (119, .invokevirtual 258, 3), (122, .ireturn, 1)]
theorem zhdX12_glove_114 : dzC ztdX12_glove_114 114 (cX12_glove.data.toList.drop 114) = true := by decide +kernel
theorem dX12_glove_114 : decode cX12_glove 114 = .ok (.iaload, 1) := dzr zhdX12_glove_114 0 rfl
theorem dX12_glove_115 : decode cX12_glove 115 = .ok (.ireturn, 1) := dzr zhdX12_glove_114 1 rfl
theorem dX12_glove_116 : decode cX12_glove 116 = .ok (.aload_n 0, 1) := dzr zhdX12_glove_114 2 rfl
theorem dX12_glove_117 : decode cX12_glove 117 = .ok (.iload_n 1, 1) := dzr zhdX12_glove_114 3 rfl
theorem dX12_glove_118 : decode cX12_glove 118 = .ok (.iload_n 2, 1) := dzr zhdX12_glove_114 4 rfl
theorem dX12_glove_119 : decode cX12_glove 119 = .ok (.invokevirtual 258, 3) := dzr zhdX12_glove_114 5 rfl
theorem dX12_glove_122 : decode cX12_glove 122 = .ok (.ireturn, 1) := dzr zhdX12_glove_114 6 rfl
theorem ggX12_matter_X12_isMatter : GoodIn wsX12_matter wsX12_isMatter := (bg_up (bg_law (bi_wsL_law0_r26 _ (List.mem_of_getElem? (i := 13) rfl))))
theorem gX12_matter_X12_isMatter : GoodIn wsX12_matter (wsV RX12 331 RX12 yX12_isMatter wsX12_isMatter) := goodIn_app (bg_up (bg_cons (bi_wsL_law0_r26 _ (List.mem_of_getElem? (i := 10) rfl)) (bg_cons (bi_wsL_law0_r26 _ (List.mem_of_getElem? (i := 11) rfl)) (bg_cons (bi_wsL_law0_r26 _ (List.mem_of_getElem? (i := 12) rfl)) (bg_cons (bi_wsL_law0_r1 _ (List.mem_of_getElem? (i := 5) rfl)) bg_nil))))) (bg_up (bg_law (bi_wsL_law0_r26 _ (List.mem_of_getElem? (i := 13) rfl))))
theorem ggX12_matter_X12_in : GoodIn wsX12_matter wsX12_in := (bg_up (bg_law (bi_wsL_law0_r16 _ (List.mem_of_getElem? (i := 21) rfl))))
theorem gX12_matter_X12_in : GoodIn wsX12_matter (va_wsS RX12 211 yX12_in wsX12_in) := goodIn_app (bg_up (bg_cons (bi_wsL_law0_r16 _ (List.mem_of_getElem? (i := 19) rfl)) (bg_cons (bi_wsL_law0_r16 _ (List.mem_of_getElem? (i := 20) rfl)) (bg_cons (bi_wsL_law0_r1 _ (List.mem_of_getElem? (i := 5) rfl)) bg_nil)))) (bg_up (bg_law (bi_wsL_law0_r16 _ (List.mem_of_getElem? (i := 21) rfl))))
def ztdX12_matter_0 : List (Nat × Instr × Nat) := [(0, .aload_n 0, 1), (1, .iload_n 1, 1), (2, .invokevirtual 331, 3), (5, .ifCond .eq 12, 3), (8, .iload_n 2, 1), (9, .iconst 0, 1), (10, .iconst 2, 1), (11, .invokestatic 211, 3), (14, .ifCond .ne 6, 3), (17, .bipush (-2), 2), (19, .ireturn, 1), (20, .iload_n 2, 1), (21, .iconst 2, 1), (22, .if_icmp .ne 15, 3), (25, .aload_n 0, 1), (26, .getfield 58, 3), (29, .bipush 60, 2), (31, .iload_n 1, 1), (32, .iadd, 1), (33, .iaload, 1), (34, .goto 13, 3), (37, .aload_n 0, 1), (38, .getfield 55, 3), (41, .iconst 2, 1)]
theorem zhdX12_matter_0 : dzC ztdX12_matter_0 0 (cX12_matter.data.toList.drop 0) = true := by decide +kernel
theorem dX12_matter_0 : decode cX12_matter 0 = .ok (.aload_n 0, 1) := dzr zhdX12_matter_0 0 rfl
theorem dX12_matter_1 : decode cX12_matter 1 = .ok (.iload_n 1, 1) := dzr zhdX12_matter_0 1 rfl
theorem dX12_matter_2 : decode cX12_matter 2 = .ok (.invokevirtual 331, 3) := dzr zhdX12_matter_0 2 rfl
theorem dX12_matter_5 : decode cX12_matter 5 = .ok (.ifCond .eq 12, 3) := dzr zhdX12_matter_0 3 rfl
theorem dX12_matter_8 : decode cX12_matter 8 = .ok (.iload_n 2, 1) := dzr zhdX12_matter_0 4 rfl
theorem dX12_matter_9 : decode cX12_matter 9 = .ok (.iconst 0, 1) := dzr zhdX12_matter_0 5 rfl
theorem dX12_matter_10 : decode cX12_matter 10 = .ok (.iconst 2, 1) := dzr zhdX12_matter_0 6 rfl
theorem dX12_matter_11 : decode cX12_matter 11 = .ok (.invokestatic 211, 3) := dzr zhdX12_matter_0 7 rfl
theorem dX12_matter_14 : decode cX12_matter 14 = .ok (.ifCond .ne 6, 3) := dzr zhdX12_matter_0 8 rfl
theorem dX12_matter_17 : decode cX12_matter 17 = .ok (.bipush (-2), 2) := dzr zhdX12_matter_0 9 rfl
theorem dX12_matter_19 : decode cX12_matter 19 = .ok (.ireturn, 1) := dzr zhdX12_matter_0 10 rfl
theorem dX12_matter_20 : decode cX12_matter 20 = .ok (.iload_n 2, 1) := dzr zhdX12_matter_0 11 rfl
theorem dX12_matter_21 : decode cX12_matter 21 = .ok (.iconst 2, 1) := dzr zhdX12_matter_0 12 rfl
theorem dX12_matter_22 : decode cX12_matter 22 = .ok (.if_icmp .ne 15, 3) := dzr zhdX12_matter_0 13 rfl
theorem dX12_matter_25 : decode cX12_matter 25 = .ok (.aload_n 0, 1) := dzr zhdX12_matter_0 14 rfl
theorem dX12_matter_26 : decode cX12_matter 26 = .ok (.getfield 58, 3) := dzr zhdX12_matter_0 15 rfl
theorem dX12_matter_29 : decode cX12_matter 29 = .ok (.bipush 60, 2) := dzr zhdX12_matter_0 16 rfl
theorem dX12_matter_31 : decode cX12_matter 31 = .ok (.iload_n 1, 1) := dzr zhdX12_matter_0 17 rfl
theorem dX12_matter_32 : decode cX12_matter 32 = .ok (.iadd, 1) := dzr zhdX12_matter_0 18 rfl
theorem dX12_matter_33 : decode cX12_matter 33 = .ok (.iaload, 1) := dzr zhdX12_matter_0 19 rfl
theorem dX12_matter_34 : decode cX12_matter 34 = .ok (.goto 13, 3) := dzr zhdX12_matter_0 20 rfl
theorem dX12_matter_37 : decode cX12_matter 37 = .ok (.aload_n 0, 1) := dzr zhdX12_matter_0 21 rfl
theorem dX12_matter_38 : decode cX12_matter 38 = .ok (.getfield 55, 3) := dzr zhdX12_matter_0 22 rfl
theorem dX12_matter_41 : decode cX12_matter 41 = .ok (.iconst 2, 1) := dzr zhdX12_matter_0 23 rfl
def ztdX12_matter_42 : List (Nat × Instr × Nat) := [(42, .iload_n 1, 1), (43, .imul, 1), (44, .iload_n 2, 1), (45, .iadd, 1), (46, .iaload, 1), (47, .ireturn, 1)]
theorem zhdX12_matter_42 : dzC ztdX12_matter_42 42 (cX12_matter.data.toList.drop 42) = true := by decide +kernel
theorem dX12_matter_42 : decode cX12_matter 42 = .ok (.iload_n 1, 1) := dzr zhdX12_matter_42 0 rfl
theorem dX12_matter_43 : decode cX12_matter 43 = .ok (.imul, 1) := dzr zhdX12_matter_42 1 rfl
theorem dX12_matter_44 : decode cX12_matter 44 = .ok (.iload_n 2, 1) := dzr zhdX12_matter_42 2 rfl
theorem dX12_matter_45 : decode cX12_matter 45 = .ok (.iadd, 1) := dzr zhdX12_matter_42 3 rfl
theorem dX12_matter_46 : decode cX12_matter 46 = .ok (.iaload, 1) := dzr zhdX12_matter_42 4 rfl
theorem dX12_matter_47 : decode cX12_matter 47 = .ok (.ireturn, 1) := dzr zhdX12_matter_42 5 rfl
theorem ggX12_warmth_X12_areTwo : GoodIn wsX12_warmth wsX12_areTwo := (bg_up (bg_law (bi_wsL_law0_r27 _ (List.mem_of_getElem? (i := 13) rfl))))
theorem gX12_warmth_X12_areTwo : GoodIn wsX12_warmth (wsV RX12 316 RX12 yX12_areTwo wsX12_areTwo) := goodIn_app (bg_up (bg_cons (bi_wsL_law0_r27 _ (List.mem_of_getElem? (i := 10) rfl)) (bg_cons (bi_wsL_law0_r27 _ (List.mem_of_getElem? (i := 11) rfl)) (bg_cons (bi_wsL_law0_r27 _ (List.mem_of_getElem? (i := 12) rfl)) (bg_cons (bi_wsL_law0_r1 _ (List.mem_of_getElem? (i := 5) rfl)) bg_nil))))) (bg_up (bg_law (bi_wsL_law0_r27 _ (List.mem_of_getElem? (i := 13) rfl))))
theorem ggX12_warmth_X12_pairAt : GoodIn wsX12_warmth wsX12_pairAt := (bg_up (bg_law (bi_wsL_law0_r27 _ (List.mem_of_getElem? (i := 16) rfl))))
theorem gX12_warmth_X12_pairAt : GoodIn wsX12_warmth (va_wsS RX12 294 yX12_pairAt wsX12_pairAt) := goodIn_app (bg_up (bg_cons (bi_wsL_law0_r27 _ (List.mem_of_getElem? (i := 14) rfl)) (bg_cons (bi_wsL_law0_r27 _ (List.mem_of_getElem? (i := 15) rfl)) (bg_cons (bi_wsL_law0_r1 _ (List.mem_of_getElem? (i := 5) rfl)) bg_nil)))) (bg_up (bg_law (bi_wsL_law0_r27 _ (List.mem_of_getElem? (i := 16) rfl))))
def ztdX12_warmth_0 : List (Nat × Instr × Nat) := [(0, .aload_n 0, 1), (1, .iload_n 1, 1), (2, .iload_n 2, 1), (3, .invokevirtual 316, 3), (6, .ifCond .eq 16, 3), (9, .aload_n 0, 1), (10, .getfield 58, 3), (13, .iload_n 1, 1), (14, .iload_n 2, 1), (15, .invokestatic 294, 3), (18, .iaload, 1), (19, .goto 4, 3), (22, .iconst (-1), 1), (23, .ireturn, 1)]
theorem zhdX12_warmth_0 : dzC ztdX12_warmth_0 0 (cX12_warmth.data.toList.drop 0) = true := by decide +kernel
theorem dX12_warmth_0 : decode cX12_warmth 0 = .ok (.aload_n 0, 1) := dzr zhdX12_warmth_0 0 rfl
theorem dX12_warmth_1 : decode cX12_warmth 1 = .ok (.iload_n 1, 1) := dzr zhdX12_warmth_0 1 rfl
theorem dX12_warmth_2 : decode cX12_warmth 2 = .ok (.iload_n 2, 1) := dzr zhdX12_warmth_0 2 rfl
theorem dX12_warmth_3 : decode cX12_warmth 3 = .ok (.invokevirtual 316, 3) := dzr zhdX12_warmth_0 3 rfl
theorem dX12_warmth_6 : decode cX12_warmth 6 = .ok (.ifCond .eq 16, 3) := dzr zhdX12_warmth_0 4 rfl
theorem dX12_warmth_9 : decode cX12_warmth 9 = .ok (.aload_n 0, 1) := dzr zhdX12_warmth_0 5 rfl
theorem dX12_warmth_10 : decode cX12_warmth 10 = .ok (.getfield 58, 3) := dzr zhdX12_warmth_0 6 rfl
theorem dX12_warmth_13 : decode cX12_warmth 13 = .ok (.iload_n 1, 1) := dzr zhdX12_warmth_0 7 rfl
theorem dX12_warmth_14 : decode cX12_warmth 14 = .ok (.iload_n 2, 1) := dzr zhdX12_warmth_0 8 rfl
theorem dX12_warmth_15 : decode cX12_warmth 15 = .ok (.invokestatic 294, 3) := dzr zhdX12_warmth_0 9 rfl
theorem dX12_warmth_18 : decode cX12_warmth 18 = .ok (.iaload, 1) := dzr zhdX12_warmth_0 10 rfl
theorem dX12_warmth_19 : decode cX12_warmth 19 = .ok (.goto 4, 3) := dzr zhdX12_warmth_0 11 rfl
theorem dX12_warmth_22 : decode cX12_warmth 22 = .ok (.iconst (-1), 1) := dzr zhdX12_warmth_0 12 rfl
theorem dX12_warmth_23 : decode cX12_warmth 23 = .ok (.ireturn, 1) := dzr zhdX12_warmth_0 13 rfl
theorem ggX12_law_X12_in : GoodIn wsX12_law wsX12_in := (bg_up (bg_law (bi_wsL_law0_r16 _ (List.mem_of_getElem? (i := 21) rfl))))
theorem gX12_law_X12_in : GoodIn wsX12_law (va_wsS RX12 211 yX12_in wsX12_in) := goodIn_app (bg_up (bg_cons (bi_wsL_law0_r16 _ (List.mem_of_getElem? (i := 19) rfl)) (bg_cons (bi_wsL_law0_r16 _ (List.mem_of_getElem? (i := 20) rfl)) (bg_cons (bi_wsL_law0_r1 _ (List.mem_of_getElem? (i := 5) rfl)) bg_nil)))) (bg_up (bg_law (bi_wsL_law0_r16 _ (List.mem_of_getElem? (i := 21) rfl))))
def ztdX12_law_0 : List (Nat × Instr × Nat) := [(0, .iload_n 1, 1), (1, .iconst (-1), 1), (2, .aload_n 0, 1), (3, .getfield 274, 3), (6, .iconst 1, 1), (7, .isub, 1), (8, .invokestatic 211, 3), (11, .ifCond .ne 5, 3), (14, .iconst 0, 1), (15, .ireturn, 1), (16, .aload_n 0, 1), (17, .iload_n 1, 1), (18, .putfield 64, 3), (21, .iconst 1, 1), (22, .ireturn, 1)]
theorem zhdX12_law_0 : dzC ztdX12_law_0 0 (cX12_law.data.toList.drop 0) = true := by decide +kernel
theorem dX12_law_0 : decode cX12_law 0 = .ok (.iload_n 1, 1) := dzr zhdX12_law_0 0 rfl
theorem dX12_law_1 : decode cX12_law 1 = .ok (.iconst (-1), 1) := dzr zhdX12_law_0 1 rfl
theorem dX12_law_2 : decode cX12_law 2 = .ok (.aload_n 0, 1) := dzr zhdX12_law_0 2 rfl
theorem dX12_law_3 : decode cX12_law 3 = .ok (.getfield 274, 3) := dzr zhdX12_law_0 3 rfl
theorem dX12_law_6 : decode cX12_law 6 = .ok (.iconst 1, 1) := dzr zhdX12_law_0 4 rfl
theorem dX12_law_7 : decode cX12_law 7 = .ok (.isub, 1) := dzr zhdX12_law_0 5 rfl
theorem dX12_law_8 : decode cX12_law 8 = .ok (.invokestatic 211, 3) := dzr zhdX12_law_0 6 rfl
theorem dX12_law_11 : decode cX12_law 11 = .ok (.ifCond .ne 5, 3) := dzr zhdX12_law_0 7 rfl
theorem dX12_law_14 : decode cX12_law 14 = .ok (.iconst 0, 1) := dzr zhdX12_law_0 8 rfl
theorem dX12_law_15 : decode cX12_law 15 = .ok (.ireturn, 1) := dzr zhdX12_law_0 9 rfl
theorem dX12_law_16 : decode cX12_law 16 = .ok (.aload_n 0, 1) := dzr zhdX12_law_0 10 rfl
theorem dX12_law_17 : decode cX12_law 17 = .ok (.iload_n 1, 1) := dzr zhdX12_law_0 11 rfl
theorem dX12_law_18 : decode cX12_law 18 = .ok (.putfield 64, 3) := dzr zhdX12_law_0 12 rfl
theorem dX12_law_21 : decode cX12_law 21 = .ok (.iconst 1, 1) := dzr zhdX12_law_0 13 rfl
theorem dX12_law_22 : decode cX12_law 22 = .ok (.ireturn, 1) := dzr zhdX12_law_0 14 rfl
def ztdX12_keep_0 : List (Nat × Instr × Nat) := [(0, .aload_n 0, 1), (1, .getfield 264, 3), (4, .bipush 40, 2), (6, .if_icmp .ne 46, 3), (9, .sipush 250, 3), (12, .istore_n 1, 1), (13, .iload_n 1, 1), (14, .sipush 10000, 3), (17, .if_icmp .ge 25, 3), (20, .aload_n 0, 1), (21, .getfield 71, 3), (24, .iload_n 1, 1), (25, .sipush 250, 3), (28, .isub, 1), (29, .aload_n 0, 1), (30, .getfield 71, 3), (33, .iload_n 1, 1), (34, .iaload, 1), (35, .iastore, 1), (36, .iinc 1 1, 3), (39, .goto (-26), 3), (42, .aload_n 0, 1), (43, .dup, 1), (44, .getfield 264, 3)]
theorem zhdX12_keep_0 : dzC ztdX12_keep_0 0 (cX12_keep.data.toList.drop 0) = true := by decide +kernel
theorem dX12_keep_0 : decode cX12_keep 0 = .ok (.aload_n 0, 1) := dzr zhdX12_keep_0 0 rfl
theorem dX12_keep_1 : decode cX12_keep 1 = .ok (.getfield 264, 3) := dzr zhdX12_keep_0 1 rfl
theorem dX12_keep_4 : decode cX12_keep 4 = .ok (.bipush 40, 2) := dzr zhdX12_keep_0 2 rfl
theorem dX12_keep_6 : decode cX12_keep 6 = .ok (.if_icmp .ne 46, 3) := dzr zhdX12_keep_0 3 rfl
theorem dX12_keep_9 : decode cX12_keep 9 = .ok (.sipush 250, 3) := dzr zhdX12_keep_0 4 rfl
theorem dX12_keep_12 : decode cX12_keep 12 = .ok (.istore_n 1, 1) := dzr zhdX12_keep_0 5 rfl
theorem dX12_keep_13 : decode cX12_keep 13 = .ok (.iload_n 1, 1) := dzr zhdX12_keep_0 6 rfl
theorem dX12_keep_14 : decode cX12_keep 14 = .ok (.sipush 10000, 3) := dzr zhdX12_keep_0 7 rfl
theorem dX12_keep_17 : decode cX12_keep 17 = .ok (.if_icmp .ge 25, 3) := dzr zhdX12_keep_0 8 rfl
theorem dX12_keep_20 : decode cX12_keep 20 = .ok (.aload_n 0, 1) := dzr zhdX12_keep_0 9 rfl
theorem dX12_keep_21 : decode cX12_keep 21 = .ok (.getfield 71, 3) := dzr zhdX12_keep_0 10 rfl
theorem dX12_keep_24 : decode cX12_keep 24 = .ok (.iload_n 1, 1) := dzr zhdX12_keep_0 11 rfl
theorem dX12_keep_25 : decode cX12_keep 25 = .ok (.sipush 250, 3) := dzr zhdX12_keep_0 12 rfl
theorem dX12_keep_28 : decode cX12_keep 28 = .ok (.isub, 1) := dzr zhdX12_keep_0 13 rfl
theorem dX12_keep_29 : decode cX12_keep 29 = .ok (.aload_n 0, 1) := dzr zhdX12_keep_0 14 rfl
theorem dX12_keep_30 : decode cX12_keep 30 = .ok (.getfield 71, 3) := dzr zhdX12_keep_0 15 rfl
theorem dX12_keep_33 : decode cX12_keep 33 = .ok (.iload_n 1, 1) := dzr zhdX12_keep_0 16 rfl
theorem dX12_keep_34 : decode cX12_keep 34 = .ok (.iaload, 1) := dzr zhdX12_keep_0 17 rfl
theorem dX12_keep_35 : decode cX12_keep 35 = .ok (.iastore, 1) := dzr zhdX12_keep_0 18 rfl
theorem dX12_keep_36 : decode cX12_keep 36 = .ok (.iinc 1 1, 3) := dzr zhdX12_keep_0 19 rfl
theorem dX12_keep_39 : decode cX12_keep 39 = .ok (.goto (-26), 3) := dzr zhdX12_keep_0 20 rfl
theorem dX12_keep_42 : decode cX12_keep 42 = .ok (.aload_n 0, 1) := dzr zhdX12_keep_0 21 rfl
theorem dX12_keep_43 : decode cX12_keep 43 = .ok (.dup, 1) := dzr zhdX12_keep_0 22 rfl
theorem dX12_keep_44 : decode cX12_keep 44 = .ok (.getfield 264, 3) := dzr zhdX12_keep_0 23 rfl
def ztdX12_keep_47 : List (Nat × Instr × Nat) := [(47, .iconst 1, 1), (48, .isub, 1), (49, .putfield 264, 3), (52, .iconst 0, 1), (53, .istore_n 1, 1), (54, .iload_n 1, 1), (55, .sipush 250, 3), (58, .if_icmp .ge 30, 3), (61, .aload_n 0, 1), (62, .getfield 71, 3), (65, .sipush 250, 3), (68, .aload_n 0, 1), (69, .getfield 264, 3), (72, .imul, 1), (73, .iload_n 1, 1), (74, .iadd, 1), (75, .aload_n 0, 1), (76, .getfield 58, 3), (79, .iload_n 1, 1), (80, .iaload, 1), (81, .iastore, 1), (82, .iinc 1 1, 3), (85, .goto (-31), 3), (88, .aload_n 0, 1)]
theorem zhdX12_keep_47 : dzC ztdX12_keep_47 47 (cX12_keep.data.toList.drop 47) = true := by decide +kernel
theorem dX12_keep_47 : decode cX12_keep 47 = .ok (.iconst 1, 1) := dzr zhdX12_keep_47 0 rfl
theorem dX12_keep_48 : decode cX12_keep 48 = .ok (.isub, 1) := dzr zhdX12_keep_47 1 rfl
theorem dX12_keep_49 : decode cX12_keep 49 = .ok (.putfield 264, 3) := dzr zhdX12_keep_47 2 rfl
theorem dX12_keep_52 : decode cX12_keep 52 = .ok (.iconst 0, 1) := dzr zhdX12_keep_47 3 rfl
theorem dX12_keep_53 : decode cX12_keep 53 = .ok (.istore_n 1, 1) := dzr zhdX12_keep_47 4 rfl
theorem dX12_keep_54 : decode cX12_keep 54 = .ok (.iload_n 1, 1) := dzr zhdX12_keep_47 5 rfl
theorem dX12_keep_55 : decode cX12_keep 55 = .ok (.sipush 250, 3) := dzr zhdX12_keep_47 6 rfl
theorem dX12_keep_58 : decode cX12_keep 58 = .ok (.if_icmp .ge 30, 3) := dzr zhdX12_keep_47 7 rfl
theorem dX12_keep_61 : decode cX12_keep 61 = .ok (.aload_n 0, 1) := dzr zhdX12_keep_47 8 rfl
theorem dX12_keep_62 : decode cX12_keep 62 = .ok (.getfield 71, 3) := dzr zhdX12_keep_47 9 rfl
theorem dX12_keep_65 : decode cX12_keep 65 = .ok (.sipush 250, 3) := dzr zhdX12_keep_47 10 rfl
theorem dX12_keep_68 : decode cX12_keep 68 = .ok (.aload_n 0, 1) := dzr zhdX12_keep_47 11 rfl
theorem dX12_keep_69 : decode cX12_keep 69 = .ok (.getfield 264, 3) := dzr zhdX12_keep_47 12 rfl
theorem dX12_keep_72 : decode cX12_keep 72 = .ok (.imul, 1) := dzr zhdX12_keep_47 13 rfl
theorem dX12_keep_73 : decode cX12_keep 73 = .ok (.iload_n 1, 1) := dzr zhdX12_keep_47 14 rfl
theorem dX12_keep_74 : decode cX12_keep 74 = .ok (.iadd, 1) := dzr zhdX12_keep_47 15 rfl
theorem dX12_keep_75 : decode cX12_keep 75 = .ok (.aload_n 0, 1) := dzr zhdX12_keep_47 16 rfl
theorem dX12_keep_76 : decode cX12_keep 76 = .ok (.getfield 58, 3) := dzr zhdX12_keep_47 17 rfl
theorem dX12_keep_79 : decode cX12_keep 79 = .ok (.iload_n 1, 1) := dzr zhdX12_keep_47 18 rfl
theorem dX12_keep_80 : decode cX12_keep 80 = .ok (.iaload, 1) := dzr zhdX12_keep_47 19 rfl
theorem dX12_keep_81 : decode cX12_keep 81 = .ok (.iastore, 1) := dzr zhdX12_keep_47 20 rfl
theorem dX12_keep_82 : decode cX12_keep 82 = .ok (.iinc 1 1, 3) := dzr zhdX12_keep_47 21 rfl
theorem dX12_keep_85 : decode cX12_keep 85 = .ok (.goto (-31), 3) := dzr zhdX12_keep_47 22 rfl
theorem dX12_keep_88 : decode cX12_keep 88 = .ok (.aload_n 0, 1) := dzr zhdX12_keep_47 23 rfl
def ztdX12_keep_89 : List (Nat × Instr × Nat) := [(89, .dup, 1), (90, .getfield 264, 3), (93, .iconst 1, 1), (94, .iadd, 1), (95, .putfield 264, 3), (98, .return_, 1)]
theorem zhdX12_keep_89 : dzC ztdX12_keep_89 89 (cX12_keep.data.toList.drop 89) = true := by decide +kernel
theorem dX12_keep_89 : decode cX12_keep 89 = .ok (.dup, 1) := dzr zhdX12_keep_89 0 rfl
theorem dX12_keep_90 : decode cX12_keep 90 = .ok (.getfield 264, 3) := dzr zhdX12_keep_89 1 rfl
theorem dX12_keep_93 : decode cX12_keep 93 = .ok (.iconst 1, 1) := dzr zhdX12_keep_89 2 rfl
theorem dX12_keep_94 : decode cX12_keep 94 = .ok (.iadd, 1) := dzr zhdX12_keep_89 3 rfl
theorem dX12_keep_95 : decode cX12_keep 95 = .ok (.putfield 264, 3) := dzr zhdX12_keep_89 4 rfl
theorem dX12_keep_98 : decode cX12_keep 98 = .ok (.return_, 1) := dzr zhdX12_keep_89 5 rfl
def ztdX12_isRefused_0 : List (Nat × Instr × Nat) := [(0, .iload_n 1, 1), (1, .iconst (-1), 1), (2, .if_icmp .eq 13, 3), (5, .aload_n 0, 1), (6, .getfield 61, 3), (9, .iload_n 1, 1), (10, .dup2, 1), (11, .iaload, 1), (12, .iconst 1, 1), (13, .iadd, 1), (14, .iastore, 1), (15, .iload_n 1, 1), (16, .iconst (-1), 1), (17, .if_icmp .eq 7, 3), (20, .iconst 1, 1), (21, .goto 4, 3), (24, .iconst 0, 1), (25, .ireturn, 1)]
theorem zhdX12_isRefused_0 : dzC ztdX12_isRefused_0 0 (cX12_isRefused.data.toList.drop 0) = true := by decide +kernel
theorem dX12_isRefused_0 : decode cX12_isRefused 0 = .ok (.iload_n 1, 1) := dzr zhdX12_isRefused_0 0 rfl
theorem dX12_isRefused_1 : decode cX12_isRefused 1 = .ok (.iconst (-1), 1) := dzr zhdX12_isRefused_0 1 rfl
theorem dX12_isRefused_2 : decode cX12_isRefused 2 = .ok (.if_icmp .eq 13, 3) := dzr zhdX12_isRefused_0 2 rfl
theorem dX12_isRefused_5 : decode cX12_isRefused 5 = .ok (.aload_n 0, 1) := dzr zhdX12_isRefused_0 3 rfl
theorem dX12_isRefused_6 : decode cX12_isRefused 6 = .ok (.getfield 61, 3) := dzr zhdX12_isRefused_0 4 rfl
theorem dX12_isRefused_9 : decode cX12_isRefused 9 = .ok (.iload_n 1, 1) := dzr zhdX12_isRefused_0 5 rfl
theorem dX12_isRefused_10 : decode cX12_isRefused 10 = .ok (.dup2, 1) := dzr zhdX12_isRefused_0 6 rfl
theorem dX12_isRefused_11 : decode cX12_isRefused 11 = .ok (.iaload, 1) := dzr zhdX12_isRefused_0 7 rfl
theorem dX12_isRefused_12 : decode cX12_isRefused 12 = .ok (.iconst 1, 1) := dzr zhdX12_isRefused_0 8 rfl
theorem dX12_isRefused_13 : decode cX12_isRefused 13 = .ok (.iadd, 1) := dzr zhdX12_isRefused_0 9 rfl
theorem dX12_isRefused_14 : decode cX12_isRefused 14 = .ok (.iastore, 1) := dzr zhdX12_isRefused_0 10 rfl
theorem dX12_isRefused_15 : decode cX12_isRefused 15 = .ok (.iload_n 1, 1) := dzr zhdX12_isRefused_0 11 rfl
theorem dX12_isRefused_16 : decode cX12_isRefused 16 = .ok (.iconst (-1), 1) := dzr zhdX12_isRefused_0 12 rfl
theorem dX12_isRefused_17 : decode cX12_isRefused 17 = .ok (.if_icmp .eq 7, 3) := dzr zhdX12_isRefused_0 13 rfl
theorem dX12_isRefused_20 : decode cX12_isRefused 20 = .ok (.iconst 1, 1) := dzr zhdX12_isRefused_0 14 rfl
theorem dX12_isRefused_21 : decode cX12_isRefused 21 = .ok (.goto 4, 3) := dzr zhdX12_isRefused_0 15 rfl
theorem dX12_isRefused_24 : decode cX12_isRefused 24 = .ok (.iconst 0, 1) := dzr zhdX12_isRefused_0 16 rfl
theorem dX12_isRefused_25 : decode cX12_isRefused 25 = .ok (.ireturn, 1) := dzr zhdX12_isRefused_0 17 rfl
theorem ggX12_meets_X12_isGlove : GoodIn wsX12_meets wsX12_isGlove := (bg_up (bg_law (bi_wsL_law0_r25 _ (List.mem_of_getElem? (i := 11) rfl))))
theorem gX12_meets_X12_isGlove : GoodIn wsX12_meets (wsV RX12 277 RX12 yX12_isGlove wsX12_isGlove) := goodIn_app (bg_up (bg_cons (bi_wsL_law0_r25 _ (List.mem_of_getElem? (i := 8) rfl)) (bg_cons (bi_wsL_law0_r25 _ (List.mem_of_getElem? (i := 9) rfl)) (bg_cons (bi_wsL_law0_r25 _ (List.mem_of_getElem? (i := 10) rfl)) (bg_cons (bi_wsL_law0_r1 _ (List.mem_of_getElem? (i := 5) rfl)) bg_nil))))) (bg_up (bg_law (bi_wsL_law0_r25 _ (List.mem_of_getElem? (i := 11) rfl))))
theorem ggX12_meets_X12_areTwo : GoodIn wsX12_meets wsX12_areTwo := (bg_up (bg_law (bi_wsL_law0_r27 _ (List.mem_of_getElem? (i := 13) rfl))))
theorem gX12_meets_X12_areTwo : GoodIn wsX12_meets (wsV RX12 316 RX12 yX12_areTwo wsX12_areTwo) := goodIn_app (bg_up (bg_cons (bi_wsL_law0_r27 _ (List.mem_of_getElem? (i := 10) rfl)) (bg_cons (bi_wsL_law0_r27 _ (List.mem_of_getElem? (i := 11) rfl)) (bg_cons (bi_wsL_law0_r27 _ (List.mem_of_getElem? (i := 12) rfl)) (bg_cons (bi_wsL_law0_r1 _ (List.mem_of_getElem? (i := 5) rfl)) bg_nil))))) (bg_up (bg_law (bi_wsL_law0_r27 _ (List.mem_of_getElem? (i := 13) rfl))))
theorem ggX12_meets_X12_isFree : GoodIn wsX12_meets wsX12_isFree := (bg_up (bg_law (bi_wsL_law0_r25 _ (List.mem_of_getElem? (i := 15) rfl))))
theorem gX12_meets_X12_isFree : GoodIn wsX12_meets (wsV RX12 313 RX12 yX12_isFree wsX12_isFree) := goodIn_app (bg_up (bg_cons (bi_wsL_law0_r25 _ (List.mem_of_getElem? (i := 12) rfl)) (bg_cons (bi_wsL_law0_r25 _ (List.mem_of_getElem? (i := 13) rfl)) (bg_cons (bi_wsL_law0_r25 _ (List.mem_of_getElem? (i := 14) rfl)) (bg_cons (bi_wsL_law0_r1 _ (List.mem_of_getElem? (i := 5) rfl)) bg_nil))))) (bg_up (bg_law (bi_wsL_law0_r25 _ (List.mem_of_getElem? (i := 15) rfl))))
theorem ggX12_meets_X12_isRefused : GoodIn wsX12_meets wsX12_isRefused := (bg_up (bg_law (bi_wsL_law0_r31 _ (List.mem_of_getElem? (i := 18) rfl))))
theorem gX12_meets_X12_isRefused : GoodIn wsX12_meets (wsV RX12 334 RX12 yX12_isRefused wsX12_isRefused) := goodIn_app (bg_up (bg_cons (bi_wsL_law0_r31 _ (List.mem_of_getElem? (i := 15) rfl)) (bg_cons (bi_wsL_law0_r31 _ (List.mem_of_getElem? (i := 16) rfl)) (bg_cons (bi_wsL_law0_r31 _ (List.mem_of_getElem? (i := 17) rfl)) (bg_cons (bi_wsL_law0_r1 _ (List.mem_of_getElem? (i := 5) rfl)) bg_nil))))) (bg_up (bg_law (bi_wsL_law0_r31 _ (List.mem_of_getElem? (i := 18) rfl))))
theorem ggX12_meets_X12_keep : GoodIn wsX12_meets wsX12_keep := (bg_up (bg_law (bi_wsL_law0_r31 _ (List.mem_of_getElem? (i := 22) rfl))))
theorem gX12_meets_X12_keep : GoodIn wsX12_meets (wsV RX12 337 RX12 yX12_keep wsX12_keep) := goodIn_app (bg_up (bg_cons (bi_wsL_law0_r31 _ (List.mem_of_getElem? (i := 19) rfl)) (bg_cons (bi_wsL_law0_r31 _ (List.mem_of_getElem? (i := 20) rfl)) (bg_cons (bi_wsL_law0_r31 _ (List.mem_of_getElem? (i := 21) rfl)) (bg_cons (bi_wsL_law0_r1 _ (List.mem_of_getElem? (i := 5) rfl)) bg_nil))))) (bg_up (bg_law (bi_wsL_law0_r31 _ (List.mem_of_getElem? (i := 22) rfl))))
theorem ggX12_meets_X12_meetNow : GoodIn wsX12_meets wsX12_meetNow := (bg_up (bg_law (bi_wsL_law0_r32 _ (List.mem_of_getElem? (i := 2) rfl))))
theorem gX12_meets_X12_meetNow : GoodIn wsX12_meets (wsV RX12 340 RX12 yX12_meetNow wsX12_meetNow) := goodIn_app (bg_up (bg_cons (bi_wsL_law0_r31 _ (List.mem_of_getElem? (i := 23) rfl)) (bg_cons (bi_wsL_law0_r32 _ (List.mem_of_getElem? (i := 0) rfl)) (bg_cons (bi_wsL_law0_r32 _ (List.mem_of_getElem? (i := 1) rfl)) (bg_cons (bi_wsL_law0_r1 _ (List.mem_of_getElem? (i := 5) rfl)) bg_nil))))) (bg_up (bg_law (bi_wsL_law0_r32 _ (List.mem_of_getElem? (i := 2) rfl))))
theorem ggX12_meets_X12_pairAt : GoodIn wsX12_meets wsX12_pairAt := (bg_up (bg_law (bi_wsL_law0_r27 _ (List.mem_of_getElem? (i := 16) rfl))))
theorem gX12_meets_X12_pairAt : GoodIn wsX12_meets (va_wsS RX12 294 yX12_pairAt wsX12_pairAt) := goodIn_app (bg_up (bg_cons (bi_wsL_law0_r27 _ (List.mem_of_getElem? (i := 14) rfl)) (bg_cons (bi_wsL_law0_r27 _ (List.mem_of_getElem? (i := 15) rfl)) (bg_cons (bi_wsL_law0_r1 _ (List.mem_of_getElem? (i := 5) rfl)) bg_nil)))) (bg_up (bg_law (bi_wsL_law0_r27 _ (List.mem_of_getElem? (i := 16) rfl))))
def ztdX12_meets_0 : List (Nat × Instr × Nat) := [(0, .aload_n 0, 1), (1, .aload_n 0, 1), (2, .iload_n 1, 1), (3, .invokevirtual 277, 3), (6, .ifCond .eq 11, 3), (9, .aload_n 0, 1), (10, .iload_n 2, 1), (11, .invokevirtual 277, 3), (14, .ifCond .ne 7, 3), (17, .iconst 0, 1), (18, .goto 52, 3), (21, .aload_n 0, 1), (22, .iload_n 1, 1), (23, .iload_n 2, 1), (24, .invokevirtual 316, 3), (27, .ifCond .ne 7, 3), (30, .iconst 1, 1), (31, .goto 39, 3), (34, .aload_n 0, 1), (35, .iload_n 1, 1), (36, .invokevirtual 313, 3), (39, .ifCond .eq 11, 3), (42, .aload_n 0, 1), (43, .iload_n 2, 1)]
theorem zhdX12_meets_0 : dzC ztdX12_meets_0 0 (cX12_meets.data.toList.drop 0) = true := by decide +kernel
theorem dX12_meets_0 : decode cX12_meets 0 = .ok (.aload_n 0, 1) := dzr zhdX12_meets_0 0 rfl
theorem dX12_meets_1 : decode cX12_meets 1 = .ok (.aload_n 0, 1) := dzr zhdX12_meets_0 1 rfl
theorem dX12_meets_2 : decode cX12_meets 2 = .ok (.iload_n 1, 1) := dzr zhdX12_meets_0 2 rfl
theorem dX12_meets_3 : decode cX12_meets 3 = .ok (.invokevirtual 277, 3) := dzr zhdX12_meets_0 3 rfl
theorem dX12_meets_6 : decode cX12_meets 6 = .ok (.ifCond .eq 11, 3) := dzr zhdX12_meets_0 4 rfl
theorem dX12_meets_9 : decode cX12_meets 9 = .ok (.aload_n 0, 1) := dzr zhdX12_meets_0 5 rfl
theorem dX12_meets_10 : decode cX12_meets 10 = .ok (.iload_n 2, 1) := dzr zhdX12_meets_0 6 rfl
theorem dX12_meets_11 : decode cX12_meets 11 = .ok (.invokevirtual 277, 3) := dzr zhdX12_meets_0 7 rfl
theorem dX12_meets_14 : decode cX12_meets 14 = .ok (.ifCond .ne 7, 3) := dzr zhdX12_meets_0 8 rfl
theorem dX12_meets_17 : decode cX12_meets 17 = .ok (.iconst 0, 1) := dzr zhdX12_meets_0 9 rfl
theorem dX12_meets_18 : decode cX12_meets 18 = .ok (.goto 52, 3) := dzr zhdX12_meets_0 10 rfl
theorem dX12_meets_21 : decode cX12_meets 21 = .ok (.aload_n 0, 1) := dzr zhdX12_meets_0 11 rfl
theorem dX12_meets_22 : decode cX12_meets 22 = .ok (.iload_n 1, 1) := dzr zhdX12_meets_0 12 rfl
theorem dX12_meets_23 : decode cX12_meets 23 = .ok (.iload_n 2, 1) := dzr zhdX12_meets_0 13 rfl
theorem dX12_meets_24 : decode cX12_meets 24 = .ok (.invokevirtual 316, 3) := dzr zhdX12_meets_0 14 rfl
theorem dX12_meets_27 : decode cX12_meets 27 = .ok (.ifCond .ne 7, 3) := dzr zhdX12_meets_0 15 rfl
theorem dX12_meets_30 : decode cX12_meets 30 = .ok (.iconst 1, 1) := dzr zhdX12_meets_0 16 rfl
theorem dX12_meets_31 : decode cX12_meets 31 = .ok (.goto 39, 3) := dzr zhdX12_meets_0 17 rfl
theorem dX12_meets_34 : decode cX12_meets 34 = .ok (.aload_n 0, 1) := dzr zhdX12_meets_0 18 rfl
theorem dX12_meets_35 : decode cX12_meets 35 = .ok (.iload_n 1, 1) := dzr zhdX12_meets_0 19 rfl
theorem dX12_meets_36 : decode cX12_meets 36 = .ok (.invokevirtual 313, 3) := dzr zhdX12_meets_0 20 rfl
theorem dX12_meets_39 : decode cX12_meets 39 = .ok (.ifCond .eq 11, 3) := dzr zhdX12_meets_0 21 rfl
theorem dX12_meets_42 : decode cX12_meets 42 = .ok (.aload_n 0, 1) := dzr zhdX12_meets_0 22 rfl
theorem dX12_meets_43 : decode cX12_meets 43 = .ok (.iload_n 2, 1) := dzr zhdX12_meets_0 23 rfl
def ztdX12_meets_44 : List (Nat × Instr × Nat) := [(44, .invokevirtual 313, 3), (47, .ifCond .ne 7, 3), (50, .iconst 2, 1), (51, .goto 19, 3), (54, .aload_n 0, 1), (55, .getfield 58, 3), (58, .bipush 67, 2), (60, .iaload, 1), (61, .iconst 1, 1), (62, .if_icmp .ge 7, 3), (65, .iconst 3, 1), (66, .goto 4, 3), (69, .iconst (-1), 1), (70, .invokevirtual 334, 3), (73, .ifCond .eq 5, 3), (76, .iconst (-1), 1), (77, .ireturn, 1), (78, .aload_n 0, 1), (79, .invokevirtual 337, 3), (82, .aload_n 0, 1), (83, .getfield 58, 3), (86, .bipush 67, 2), (88, .dup2, 1), (89, .iaload, 1)]
theorem zhdX12_meets_44 : dzC ztdX12_meets_44 44 (cX12_meets.data.toList.drop 44) = true := by decide +kernel
theorem dX12_meets_44 : decode cX12_meets 44 = .ok (.invokevirtual 313, 3) := dzr zhdX12_meets_44 0 rfl
theorem dX12_meets_47 : decode cX12_meets 47 = .ok (.ifCond .ne 7, 3) := dzr zhdX12_meets_44 1 rfl
theorem dX12_meets_50 : decode cX12_meets 50 = .ok (.iconst 2, 1) := dzr zhdX12_meets_44 2 rfl
theorem dX12_meets_51 : decode cX12_meets 51 = .ok (.goto 19, 3) := dzr zhdX12_meets_44 3 rfl
theorem dX12_meets_54 : decode cX12_meets 54 = .ok (.aload_n 0, 1) := dzr zhdX12_meets_44 4 rfl
theorem dX12_meets_55 : decode cX12_meets 55 = .ok (.getfield 58, 3) := dzr zhdX12_meets_44 5 rfl
theorem dX12_meets_58 : decode cX12_meets 58 = .ok (.bipush 67, 2) := dzr zhdX12_meets_44 6 rfl
theorem dX12_meets_60 : decode cX12_meets 60 = .ok (.iaload, 1) := dzr zhdX12_meets_44 7 rfl
theorem dX12_meets_61 : decode cX12_meets 61 = .ok (.iconst 1, 1) := dzr zhdX12_meets_44 8 rfl
theorem dX12_meets_62 : decode cX12_meets 62 = .ok (.if_icmp .ge 7, 3) := dzr zhdX12_meets_44 9 rfl
theorem dX12_meets_65 : decode cX12_meets 65 = .ok (.iconst 3, 1) := dzr zhdX12_meets_44 10 rfl
theorem dX12_meets_66 : decode cX12_meets 66 = .ok (.goto 4, 3) := dzr zhdX12_meets_44 11 rfl
theorem dX12_meets_69 : decode cX12_meets 69 = .ok (.iconst (-1), 1) := dzr zhdX12_meets_44 12 rfl
theorem dX12_meets_70 : decode cX12_meets 70 = .ok (.invokevirtual 334, 3) := dzr zhdX12_meets_44 13 rfl
theorem dX12_meets_73 : decode cX12_meets 73 = .ok (.ifCond .eq 5, 3) := dzr zhdX12_meets_44 14 rfl
theorem dX12_meets_76 : decode cX12_meets 76 = .ok (.iconst (-1), 1) := dzr zhdX12_meets_44 15 rfl
theorem dX12_meets_77 : decode cX12_meets 77 = .ok (.ireturn, 1) := dzr zhdX12_meets_44 16 rfl
theorem dX12_meets_78 : decode cX12_meets 78 = .ok (.aload_n 0, 1) := dzr zhdX12_meets_44 17 rfl
theorem dX12_meets_79 : decode cX12_meets 79 = .ok (.invokevirtual 337, 3) := dzr zhdX12_meets_44 18 rfl
theorem dX12_meets_82 : decode cX12_meets 82 = .ok (.aload_n 0, 1) := dzr zhdX12_meets_44 19 rfl
theorem dX12_meets_83 : decode cX12_meets 83 = .ok (.getfield 58, 3) := dzr zhdX12_meets_44 20 rfl
theorem dX12_meets_86 : decode cX12_meets 86 = .ok (.bipush 67, 2) := dzr zhdX12_meets_44 21 rfl
theorem dX12_meets_88 : decode cX12_meets 88 = .ok (.dup2, 1) := dzr zhdX12_meets_44 22 rfl
theorem dX12_meets_89 : decode cX12_meets 89 = .ok (.iaload, 1) := dzr zhdX12_meets_44 23 rfl
def ztdX12_meets_90 : List (Nat × Instr × Nat) := [(90, .iconst 1, 1), (91, .isub, 1), (92, .iastore, 1), (93, .aload_n 0, 1), (94, .iload_n 1, 1), (95, .iload_n 2, 1), (96, .invokevirtual 340, 3), (99, .aload_n 0, 1), (100, .getfield 58, 3), (103, .iload_n 1, 1), (104, .iload_n 2, 1), (105, .invokestatic 294, 3), (108, .iaload, 1), (109, .ireturn, 1)]
theorem zhdX12_meets_90 : dzC ztdX12_meets_90 90 (cX12_meets.data.toList.drop 90) = true := by decide +kernel
theorem dX12_meets_90 : decode cX12_meets 90 = .ok (.iconst 1, 1) := dzr zhdX12_meets_90 0 rfl
theorem dX12_meets_91 : decode cX12_meets 91 = .ok (.isub, 1) := dzr zhdX12_meets_90 1 rfl
theorem dX12_meets_92 : decode cX12_meets 92 = .ok (.iastore, 1) := dzr zhdX12_meets_90 2 rfl
theorem dX12_meets_93 : decode cX12_meets 93 = .ok (.aload_n 0, 1) := dzr zhdX12_meets_90 3 rfl
theorem dX12_meets_94 : decode cX12_meets 94 = .ok (.iload_n 1, 1) := dzr zhdX12_meets_90 4 rfl
theorem dX12_meets_95 : decode cX12_meets 95 = .ok (.iload_n 2, 1) := dzr zhdX12_meets_90 5 rfl
theorem dX12_meets_96 : decode cX12_meets 96 = .ok (.invokevirtual 340, 3) := dzr zhdX12_meets_90 6 rfl
theorem dX12_meets_99 : decode cX12_meets 99 = .ok (.aload_n 0, 1) := dzr zhdX12_meets_90 7 rfl
theorem dX12_meets_100 : decode cX12_meets 100 = .ok (.getfield 58, 3) := dzr zhdX12_meets_90 8 rfl
theorem dX12_meets_103 : decode cX12_meets 103 = .ok (.iload_n 1, 1) := dzr zhdX12_meets_90 9 rfl
theorem dX12_meets_104 : decode cX12_meets 104 = .ok (.iload_n 2, 1) := dzr zhdX12_meets_90 10 rfl
theorem dX12_meets_105 : decode cX12_meets 105 = .ok (.invokestatic 294, 3) := dzr zhdX12_meets_90 11 rfl
theorem dX12_meets_108 : decode cX12_meets 108 = .ok (.iaload, 1) := dzr zhdX12_meets_90 12 rfl
theorem dX12_meets_109 : decode cX12_meets 109 = .ok (.ireturn, 1) := dzr zhdX12_meets_90 13 rfl
theorem ggX12_loosen_X12_isGlove : GoodIn wsX12_loosen wsX12_isGlove := (bg_up (bg_law (bi_wsL_law0_r25 _ (List.mem_of_getElem? (i := 11) rfl))))
theorem gX12_loosen_X12_isGlove : GoodIn wsX12_loosen (wsV RX12 277 RX12 yX12_isGlove wsX12_isGlove) := goodIn_app (bg_up (bg_cons (bi_wsL_law0_r25 _ (List.mem_of_getElem? (i := 8) rfl)) (bg_cons (bi_wsL_law0_r25 _ (List.mem_of_getElem? (i := 9) rfl)) (bg_cons (bi_wsL_law0_r25 _ (List.mem_of_getElem? (i := 10) rfl)) (bg_cons (bi_wsL_law0_r1 _ (List.mem_of_getElem? (i := 5) rfl)) bg_nil))))) (bg_up (bg_law (bi_wsL_law0_r25 _ (List.mem_of_getElem? (i := 11) rfl))))
theorem ggX12_loosen_X12_isRefused : GoodIn wsX12_loosen wsX12_isRefused := (bg_up (bg_law (bi_wsL_law0_r31 _ (List.mem_of_getElem? (i := 18) rfl))))
theorem gX12_loosen_X12_isRefused : GoodIn wsX12_loosen (wsV RX12 334 RX12 yX12_isRefused wsX12_isRefused) := goodIn_app (bg_up (bg_cons (bi_wsL_law0_r31 _ (List.mem_of_getElem? (i := 15) rfl)) (bg_cons (bi_wsL_law0_r31 _ (List.mem_of_getElem? (i := 16) rfl)) (bg_cons (bi_wsL_law0_r31 _ (List.mem_of_getElem? (i := 17) rfl)) (bg_cons (bi_wsL_law0_r1 _ (List.mem_of_getElem? (i := 5) rfl)) bg_nil))))) (bg_up (bg_law (bi_wsL_law0_r31 _ (List.mem_of_getElem? (i := 18) rfl))))
theorem ggX12_loosen_X12_keep : GoodIn wsX12_loosen wsX12_keep := (bg_up (bg_law (bi_wsL_law0_r31 _ (List.mem_of_getElem? (i := 22) rfl))))
theorem gX12_loosen_X12_keep : GoodIn wsX12_loosen (wsV RX12 337 RX12 yX12_keep wsX12_keep) := goodIn_app (bg_up (bg_cons (bi_wsL_law0_r31 _ (List.mem_of_getElem? (i := 19) rfl)) (bg_cons (bi_wsL_law0_r31 _ (List.mem_of_getElem? (i := 20) rfl)) (bg_cons (bi_wsL_law0_r31 _ (List.mem_of_getElem? (i := 21) rfl)) (bg_cons (bi_wsL_law0_r1 _ (List.mem_of_getElem? (i := 5) rfl)) bg_nil))))) (bg_up (bg_law (bi_wsL_law0_r31 _ (List.mem_of_getElem? (i := 22) rfl))))
def ztdX12_loosen_0 : List (Nat × Instr × Nat) := [(0, .aload_n 0, 1), (1, .aload_n 0, 1), (2, .iload_n 1, 1), (3, .invokevirtual 277, 3), (6, .ifCond .ne 7, 3), (9, .iconst 0, 1), (10, .goto 37, 3), (13, .aload_n 0, 1), (14, .getfield 58, 3), (17, .bipush 36, 2), (19, .iload_n 1, 1), (20, .iadd, 1), (21, .iaload, 1), (22, .bipush 9, 2), (24, .if_icmp .ne 7, 3), (27, .iconst 2, 1), (28, .goto 19, 3), (31, .aload_n 0, 1), (32, .getfield 58, 3), (35, .bipush 67, 2), (37, .iaload, 1), (38, .iconst 3, 1), (39, .if_icmp .ge 7, 3), (42, .iconst 3, 1)]
theorem zhdX12_loosen_0 : dzC ztdX12_loosen_0 0 (cX12_loosen.data.toList.drop 0) = true := by decide +kernel
theorem dX12_loosen_0 : decode cX12_loosen 0 = .ok (.aload_n 0, 1) := dzr zhdX12_loosen_0 0 rfl
theorem dX12_loosen_1 : decode cX12_loosen 1 = .ok (.aload_n 0, 1) := dzr zhdX12_loosen_0 1 rfl
theorem dX12_loosen_2 : decode cX12_loosen 2 = .ok (.iload_n 1, 1) := dzr zhdX12_loosen_0 2 rfl
theorem dX12_loosen_3 : decode cX12_loosen 3 = .ok (.invokevirtual 277, 3) := dzr zhdX12_loosen_0 3 rfl
theorem dX12_loosen_6 : decode cX12_loosen 6 = .ok (.ifCond .ne 7, 3) := dzr zhdX12_loosen_0 4 rfl
theorem dX12_loosen_9 : decode cX12_loosen 9 = .ok (.iconst 0, 1) := dzr zhdX12_loosen_0 5 rfl
theorem dX12_loosen_10 : decode cX12_loosen 10 = .ok (.goto 37, 3) := dzr zhdX12_loosen_0 6 rfl
theorem dX12_loosen_13 : decode cX12_loosen 13 = .ok (.aload_n 0, 1) := dzr zhdX12_loosen_0 7 rfl
theorem dX12_loosen_14 : decode cX12_loosen 14 = .ok (.getfield 58, 3) := dzr zhdX12_loosen_0 8 rfl
theorem dX12_loosen_17 : decode cX12_loosen 17 = .ok (.bipush 36, 2) := dzr zhdX12_loosen_0 9 rfl
theorem dX12_loosen_19 : decode cX12_loosen 19 = .ok (.iload_n 1, 1) := dzr zhdX12_loosen_0 10 rfl
theorem dX12_loosen_20 : decode cX12_loosen 20 = .ok (.iadd, 1) := dzr zhdX12_loosen_0 11 rfl
theorem dX12_loosen_21 : decode cX12_loosen 21 = .ok (.iaload, 1) := dzr zhdX12_loosen_0 12 rfl
theorem dX12_loosen_22 : decode cX12_loosen 22 = .ok (.bipush 9, 2) := dzr zhdX12_loosen_0 13 rfl
theorem dX12_loosen_24 : decode cX12_loosen 24 = .ok (.if_icmp .ne 7, 3) := dzr zhdX12_loosen_0 14 rfl
theorem dX12_loosen_27 : decode cX12_loosen 27 = .ok (.iconst 2, 1) := dzr zhdX12_loosen_0 15 rfl
theorem dX12_loosen_28 : decode cX12_loosen 28 = .ok (.goto 19, 3) := dzr zhdX12_loosen_0 16 rfl
theorem dX12_loosen_31 : decode cX12_loosen 31 = .ok (.aload_n 0, 1) := dzr zhdX12_loosen_0 17 rfl
theorem dX12_loosen_32 : decode cX12_loosen 32 = .ok (.getfield 58, 3) := dzr zhdX12_loosen_0 18 rfl
theorem dX12_loosen_35 : decode cX12_loosen 35 = .ok (.bipush 67, 2) := dzr zhdX12_loosen_0 19 rfl
theorem dX12_loosen_37 : decode cX12_loosen 37 = .ok (.iaload, 1) := dzr zhdX12_loosen_0 20 rfl
theorem dX12_loosen_38 : decode cX12_loosen 38 = .ok (.iconst 3, 1) := dzr zhdX12_loosen_0 21 rfl
theorem dX12_loosen_39 : decode cX12_loosen 39 = .ok (.if_icmp .ge 7, 3) := dzr zhdX12_loosen_0 22 rfl
theorem dX12_loosen_42 : decode cX12_loosen 42 = .ok (.iconst 3, 1) := dzr zhdX12_loosen_0 23 rfl
def ztdX12_loosen_43 : List (Nat × Instr × Nat) := [(43, .goto 4, 3), (46, .iconst (-1), 1), (47, .invokevirtual 334, 3), (50, .ifCond .eq 5, 3), (53, .iconst (-1), 1), (54, .ireturn, 1), (55, .aload_n 0, 1), (56, .invokevirtual 337, 3), (59, .aload_n 0, 1), (60, .getfield 58, 3), (63, .bipush 36, 2), (65, .iload_n 1, 1), (66, .iadd, 1), (67, .dup2, 1), (68, .iaload, 1), (69, .iconst 1, 1), (70, .iadd, 1), (71, .iastore, 1), (72, .aload_n 0, 1), (73, .getfield 58, 3), (76, .bipush 67, 2), (78, .dup2, 1), (79, .iaload, 1), (80, .iconst 3, 1)]
theorem zhdX12_loosen_43 : dzC ztdX12_loosen_43 43 (cX12_loosen.data.toList.drop 43) = true := by decide +kernel
theorem dX12_loosen_43 : decode cX12_loosen 43 = .ok (.goto 4, 3) := dzr zhdX12_loosen_43 0 rfl
theorem dX12_loosen_46 : decode cX12_loosen 46 = .ok (.iconst (-1), 1) := dzr zhdX12_loosen_43 1 rfl
theorem dX12_loosen_47 : decode cX12_loosen 47 = .ok (.invokevirtual 334, 3) := dzr zhdX12_loosen_43 2 rfl
theorem dX12_loosen_50 : decode cX12_loosen 50 = .ok (.ifCond .eq 5, 3) := dzr zhdX12_loosen_43 3 rfl
theorem dX12_loosen_53 : decode cX12_loosen 53 = .ok (.iconst (-1), 1) := dzr zhdX12_loosen_43 4 rfl
theorem dX12_loosen_54 : decode cX12_loosen 54 = .ok (.ireturn, 1) := dzr zhdX12_loosen_43 5 rfl
theorem dX12_loosen_55 : decode cX12_loosen 55 = .ok (.aload_n 0, 1) := dzr zhdX12_loosen_43 6 rfl
theorem dX12_loosen_56 : decode cX12_loosen 56 = .ok (.invokevirtual 337, 3) := dzr zhdX12_loosen_43 7 rfl
theorem dX12_loosen_59 : decode cX12_loosen 59 = .ok (.aload_n 0, 1) := dzr zhdX12_loosen_43 8 rfl
theorem dX12_loosen_60 : decode cX12_loosen 60 = .ok (.getfield 58, 3) := dzr zhdX12_loosen_43 9 rfl
theorem dX12_loosen_63 : decode cX12_loosen 63 = .ok (.bipush 36, 2) := dzr zhdX12_loosen_43 10 rfl
theorem dX12_loosen_65 : decode cX12_loosen 65 = .ok (.iload_n 1, 1) := dzr zhdX12_loosen_43 11 rfl
theorem dX12_loosen_66 : decode cX12_loosen 66 = .ok (.iadd, 1) := dzr zhdX12_loosen_43 12 rfl
theorem dX12_loosen_67 : decode cX12_loosen 67 = .ok (.dup2, 1) := dzr zhdX12_loosen_43 13 rfl
theorem dX12_loosen_68 : decode cX12_loosen 68 = .ok (.iaload, 1) := dzr zhdX12_loosen_43 14 rfl
theorem dX12_loosen_69 : decode cX12_loosen 69 = .ok (.iconst 1, 1) := dzr zhdX12_loosen_43 15 rfl
theorem dX12_loosen_70 : decode cX12_loosen 70 = .ok (.iadd, 1) := dzr zhdX12_loosen_43 16 rfl
theorem dX12_loosen_71 : decode cX12_loosen 71 = .ok (.iastore, 1) := dzr zhdX12_loosen_43 17 rfl
theorem dX12_loosen_72 : decode cX12_loosen 72 = .ok (.aload_n 0, 1) := dzr zhdX12_loosen_43 18 rfl
theorem dX12_loosen_73 : decode cX12_loosen 73 = .ok (.getfield 58, 3) := dzr zhdX12_loosen_43 19 rfl
theorem dX12_loosen_76 : decode cX12_loosen 76 = .ok (.bipush 67, 2) := dzr zhdX12_loosen_43 20 rfl
theorem dX12_loosen_78 : decode cX12_loosen 78 = .ok (.dup2, 1) := dzr zhdX12_loosen_43 21 rfl
theorem dX12_loosen_79 : decode cX12_loosen 79 = .ok (.iaload, 1) := dzr zhdX12_loosen_43 22 rfl
theorem dX12_loosen_80 : decode cX12_loosen 80 = .ok (.iconst 3, 1) := dzr zhdX12_loosen_43 23 rfl
def ztdX12_loosen_81 : List (Nat × Instr × Nat) := [(81, .isub, 1), (82, .iastore, 1), (83, .aload_n 0, 1), (84, .getfield 58, 3), (87, .bipush 36, 2), (89, .iload_n 1, 1), (90, .iadd, 1), (91, .iaload, 1), (92, .ireturn, 1)]
theorem zhdX12_loosen_81 : dzC ztdX12_loosen_81 81 (cX12_loosen.data.toList.drop 81) = true := by decide +kernel
theorem dX12_loosen_81 : decode cX12_loosen 81 = .ok (.isub, 1) := dzr zhdX12_loosen_81 0 rfl
theorem dX12_loosen_82 : decode cX12_loosen 82 = .ok (.iastore, 1) := dzr zhdX12_loosen_81 1 rfl
theorem dX12_loosen_83 : decode cX12_loosen 83 = .ok (.aload_n 0, 1) := dzr zhdX12_loosen_81 2 rfl
theorem dX12_loosen_84 : decode cX12_loosen 84 = .ok (.getfield 58, 3) := dzr zhdX12_loosen_81 3 rfl
theorem dX12_loosen_87 : decode cX12_loosen 87 = .ok (.bipush 36, 2) := dzr zhdX12_loosen_81 4 rfl
theorem dX12_loosen_89 : decode cX12_loosen 89 = .ok (.iload_n 1, 1) := dzr zhdX12_loosen_81 5 rfl
theorem dX12_loosen_90 : decode cX12_loosen 90 = .ok (.iadd, 1) := dzr zhdX12_loosen_81 6 rfl
theorem dX12_loosen_91 : decode cX12_loosen 91 = .ok (.iaload, 1) := dzr zhdX12_loosen_81 7 rfl
theorem dX12_loosen_92 : decode cX12_loosen 92 = .ok (.ireturn, 1) := dzr zhdX12_loosen_81 8 rfl
theorem ggX12_stuff_X12_isGlove : GoodIn wsX12_stuff wsX12_isGlove := (bg_up (bg_law (bi_wsL_law0_r25 _ (List.mem_of_getElem? (i := 11) rfl))))
theorem gX12_stuff_X12_isGlove : GoodIn wsX12_stuff (wsV RX12 277 RX12 yX12_isGlove wsX12_isGlove) := goodIn_app (bg_up (bg_cons (bi_wsL_law0_r25 _ (List.mem_of_getElem? (i := 8) rfl)) (bg_cons (bi_wsL_law0_r25 _ (List.mem_of_getElem? (i := 9) rfl)) (bg_cons (bi_wsL_law0_r25 _ (List.mem_of_getElem? (i := 10) rfl)) (bg_cons (bi_wsL_law0_r1 _ (List.mem_of_getElem? (i := 5) rfl)) bg_nil))))) (bg_up (bg_law (bi_wsL_law0_r25 _ (List.mem_of_getElem? (i := 11) rfl))))
theorem ggX12_stuff_X12_in : GoodIn wsX12_stuff wsX12_in := (bg_up (bg_law (bi_wsL_law0_r16 _ (List.mem_of_getElem? (i := 21) rfl))))
theorem gX12_stuff_X12_in : GoodIn wsX12_stuff (va_wsS RX12 211 yX12_in wsX12_in) := goodIn_app (bg_up (bg_cons (bi_wsL_law0_r16 _ (List.mem_of_getElem? (i := 19) rfl)) (bg_cons (bi_wsL_law0_r16 _ (List.mem_of_getElem? (i := 20) rfl)) (bg_cons (bi_wsL_law0_r1 _ (List.mem_of_getElem? (i := 5) rfl)) bg_nil)))) (bg_up (bg_law (bi_wsL_law0_r16 _ (List.mem_of_getElem? (i := 21) rfl))))
theorem ggX12_stuff_X12_isRefused : GoodIn wsX12_stuff wsX12_isRefused := (bg_up (bg_law (bi_wsL_law0_r31 _ (List.mem_of_getElem? (i := 18) rfl))))
theorem gX12_stuff_X12_isRefused : GoodIn wsX12_stuff (wsV RX12 334 RX12 yX12_isRefused wsX12_isRefused) := goodIn_app (bg_up (bg_cons (bi_wsL_law0_r31 _ (List.mem_of_getElem? (i := 15) rfl)) (bg_cons (bi_wsL_law0_r31 _ (List.mem_of_getElem? (i := 16) rfl)) (bg_cons (bi_wsL_law0_r31 _ (List.mem_of_getElem? (i := 17) rfl)) (bg_cons (bi_wsL_law0_r1 _ (List.mem_of_getElem? (i := 5) rfl)) bg_nil))))) (bg_up (bg_law (bi_wsL_law0_r31 _ (List.mem_of_getElem? (i := 18) rfl))))
theorem ggX12_stuff_X12_keep : GoodIn wsX12_stuff wsX12_keep := (bg_up (bg_law (bi_wsL_law0_r31 _ (List.mem_of_getElem? (i := 22) rfl))))
theorem gX12_stuff_X12_keep : GoodIn wsX12_stuff (wsV RX12 337 RX12 yX12_keep wsX12_keep) := goodIn_app (bg_up (bg_cons (bi_wsL_law0_r31 _ (List.mem_of_getElem? (i := 19) rfl)) (bg_cons (bi_wsL_law0_r31 _ (List.mem_of_getElem? (i := 20) rfl)) (bg_cons (bi_wsL_law0_r31 _ (List.mem_of_getElem? (i := 21) rfl)) (bg_cons (bi_wsL_law0_r1 _ (List.mem_of_getElem? (i := 5) rfl)) bg_nil))))) (bg_up (bg_law (bi_wsL_law0_r31 _ (List.mem_of_getElem? (i := 22) rfl))))
def ztdX12_stuff_0 : List (Nat × Instr × Nat) := [(0, .aload_n 0, 1), (1, .aload_n 0, 1), (2, .iload_n 1, 1), (3, .invokevirtual 277, 3), (6, .ifCond .ne 7, 3), (9, .iconst 0, 1), (10, .goto 50, 3), (13, .iload_n 2, 1), (14, .iconst 0, 1), (15, .bipush 9, 2), (17, .invokestatic 211, 3), (20, .ifCond .ne 7, 3), (23, .iconst 1, 1), (24, .goto 36, 3), (27, .aload_n 0, 1), (28, .getfield 58, 3), (31, .bipush 42, 2), (33, .iload_n 1, 1), (34, .iadd, 1), (35, .iaload, 1), (36, .iload_n 2, 1), (37, .if_icmp .ne 7, 3), (40, .iconst 2, 1), (41, .goto 19, 3)]
theorem zhdX12_stuff_0 : dzC ztdX12_stuff_0 0 (cX12_stuff.data.toList.drop 0) = true := by decide +kernel
theorem dX12_stuff_0 : decode cX12_stuff 0 = .ok (.aload_n 0, 1) := dzr zhdX12_stuff_0 0 rfl
theorem dX12_stuff_1 : decode cX12_stuff 1 = .ok (.aload_n 0, 1) := dzr zhdX12_stuff_0 1 rfl
theorem dX12_stuff_2 : decode cX12_stuff 2 = .ok (.iload_n 1, 1) := dzr zhdX12_stuff_0 2 rfl
theorem dX12_stuff_3 : decode cX12_stuff 3 = .ok (.invokevirtual 277, 3) := dzr zhdX12_stuff_0 3 rfl
theorem dX12_stuff_6 : decode cX12_stuff 6 = .ok (.ifCond .ne 7, 3) := dzr zhdX12_stuff_0 4 rfl
theorem dX12_stuff_9 : decode cX12_stuff 9 = .ok (.iconst 0, 1) := dzr zhdX12_stuff_0 5 rfl
theorem dX12_stuff_10 : decode cX12_stuff 10 = .ok (.goto 50, 3) := dzr zhdX12_stuff_0 6 rfl
theorem dX12_stuff_13 : decode cX12_stuff 13 = .ok (.iload_n 2, 1) := dzr zhdX12_stuff_0 7 rfl
theorem dX12_stuff_14 : decode cX12_stuff 14 = .ok (.iconst 0, 1) := dzr zhdX12_stuff_0 8 rfl
theorem dX12_stuff_15 : decode cX12_stuff 15 = .ok (.bipush 9, 2) := dzr zhdX12_stuff_0 9 rfl
theorem dX12_stuff_17 : decode cX12_stuff 17 = .ok (.invokestatic 211, 3) := dzr zhdX12_stuff_0 10 rfl
theorem dX12_stuff_20 : decode cX12_stuff 20 = .ok (.ifCond .ne 7, 3) := dzr zhdX12_stuff_0 11 rfl
theorem dX12_stuff_23 : decode cX12_stuff 23 = .ok (.iconst 1, 1) := dzr zhdX12_stuff_0 12 rfl
theorem dX12_stuff_24 : decode cX12_stuff 24 = .ok (.goto 36, 3) := dzr zhdX12_stuff_0 13 rfl
theorem dX12_stuff_27 : decode cX12_stuff 27 = .ok (.aload_n 0, 1) := dzr zhdX12_stuff_0 14 rfl
theorem dX12_stuff_28 : decode cX12_stuff 28 = .ok (.getfield 58, 3) := dzr zhdX12_stuff_0 15 rfl
theorem dX12_stuff_31 : decode cX12_stuff 31 = .ok (.bipush 42, 2) := dzr zhdX12_stuff_0 16 rfl
theorem dX12_stuff_33 : decode cX12_stuff 33 = .ok (.iload_n 1, 1) := dzr zhdX12_stuff_0 17 rfl
theorem dX12_stuff_34 : decode cX12_stuff 34 = .ok (.iadd, 1) := dzr zhdX12_stuff_0 18 rfl
theorem dX12_stuff_35 : decode cX12_stuff 35 = .ok (.iaload, 1) := dzr zhdX12_stuff_0 19 rfl
theorem dX12_stuff_36 : decode cX12_stuff 36 = .ok (.iload_n 2, 1) := dzr zhdX12_stuff_0 20 rfl
theorem dX12_stuff_37 : decode cX12_stuff 37 = .ok (.if_icmp .ne 7, 3) := dzr zhdX12_stuff_0 21 rfl
theorem dX12_stuff_40 : decode cX12_stuff 40 = .ok (.iconst 2, 1) := dzr zhdX12_stuff_0 22 rfl
theorem dX12_stuff_41 : decode cX12_stuff 41 = .ok (.goto 19, 3) := dzr zhdX12_stuff_0 23 rfl
def ztdX12_stuff_44 : List (Nat × Instr × Nat) := [(44, .aload_n 0, 1), (45, .getfield 58, 3), (48, .bipush 67, 2), (50, .iaload, 1), (51, .iconst 2, 1), (52, .if_icmp .ge 7, 3), (55, .iconst 3, 1), (56, .goto 4, 3), (59, .iconst (-1), 1), (60, .invokevirtual 334, 3), (63, .ifCond .eq 5, 3), (66, .iconst (-1), 1), (67, .ireturn, 1), (68, .aload_n 0, 1), (69, .invokevirtual 337, 3), (72, .aload_n 0, 1), (73, .getfield 58, 3), (76, .bipush 42, 2), (78, .iload_n 1, 1), (79, .iadd, 1), (80, .iaload, 1), (81, .istore_n 3, 1), (82, .aload_n 0, 1), (83, .getfield 58, 3)]
theorem zhdX12_stuff_44 : dzC ztdX12_stuff_44 44 (cX12_stuff.data.toList.drop 44) = true := by decide +kernel
theorem dX12_stuff_44 : decode cX12_stuff 44 = .ok (.aload_n 0, 1) := dzr zhdX12_stuff_44 0 rfl
theorem dX12_stuff_45 : decode cX12_stuff 45 = .ok (.getfield 58, 3) := dzr zhdX12_stuff_44 1 rfl
theorem dX12_stuff_48 : decode cX12_stuff 48 = .ok (.bipush 67, 2) := dzr zhdX12_stuff_44 2 rfl
theorem dX12_stuff_50 : decode cX12_stuff 50 = .ok (.iaload, 1) := dzr zhdX12_stuff_44 3 rfl
theorem dX12_stuff_51 : decode cX12_stuff 51 = .ok (.iconst 2, 1) := dzr zhdX12_stuff_44 4 rfl
theorem dX12_stuff_52 : decode cX12_stuff 52 = .ok (.if_icmp .ge 7, 3) := dzr zhdX12_stuff_44 5 rfl
theorem dX12_stuff_55 : decode cX12_stuff 55 = .ok (.iconst 3, 1) := dzr zhdX12_stuff_44 6 rfl
theorem dX12_stuff_56 : decode cX12_stuff 56 = .ok (.goto 4, 3) := dzr zhdX12_stuff_44 7 rfl
theorem dX12_stuff_59 : decode cX12_stuff 59 = .ok (.iconst (-1), 1) := dzr zhdX12_stuff_44 8 rfl
theorem dX12_stuff_60 : decode cX12_stuff 60 = .ok (.invokevirtual 334, 3) := dzr zhdX12_stuff_44 9 rfl
theorem dX12_stuff_63 : decode cX12_stuff 63 = .ok (.ifCond .eq 5, 3) := dzr zhdX12_stuff_44 10 rfl
theorem dX12_stuff_66 : decode cX12_stuff 66 = .ok (.iconst (-1), 1) := dzr zhdX12_stuff_44 11 rfl
theorem dX12_stuff_67 : decode cX12_stuff 67 = .ok (.ireturn, 1) := dzr zhdX12_stuff_44 12 rfl
theorem dX12_stuff_68 : decode cX12_stuff 68 = .ok (.aload_n 0, 1) := dzr zhdX12_stuff_44 13 rfl
theorem dX12_stuff_69 : decode cX12_stuff 69 = .ok (.invokevirtual 337, 3) := dzr zhdX12_stuff_44 14 rfl
theorem dX12_stuff_72 : decode cX12_stuff 72 = .ok (.aload_n 0, 1) := dzr zhdX12_stuff_44 15 rfl
theorem dX12_stuff_73 : decode cX12_stuff 73 = .ok (.getfield 58, 3) := dzr zhdX12_stuff_44 16 rfl
theorem dX12_stuff_76 : decode cX12_stuff 76 = .ok (.bipush 42, 2) := dzr zhdX12_stuff_44 17 rfl
theorem dX12_stuff_78 : decode cX12_stuff 78 = .ok (.iload_n 1, 1) := dzr zhdX12_stuff_44 18 rfl
theorem dX12_stuff_79 : decode cX12_stuff 79 = .ok (.iadd, 1) := dzr zhdX12_stuff_44 19 rfl
theorem dX12_stuff_80 : decode cX12_stuff 80 = .ok (.iaload, 1) := dzr zhdX12_stuff_44 20 rfl
theorem dX12_stuff_81 : decode cX12_stuff 81 = .ok (.istore_n 3, 1) := dzr zhdX12_stuff_44 21 rfl
theorem dX12_stuff_82 : decode cX12_stuff 82 = .ok (.aload_n 0, 1) := dzr zhdX12_stuff_44 22 rfl
theorem dX12_stuff_83 : decode cX12_stuff 83 = .ok (.getfield 58, 3) := dzr zhdX12_stuff_44 23 rfl
def ztdX12_stuff_86 : List (Nat × Instr × Nat) := [(86, .bipush 42, 2), (88, .iload_n 1, 1), (89, .iadd, 1), (90, .iload_n 2, 1), (91, .iastore, 1), (92, .aload_n 0, 1), (93, .getfield 58, 3), (96, .bipush 67, 2), (98, .dup2, 1), (99, .iaload, 1), (100, .iconst 2, 1), (101, .isub, 1), (102, .iastore, 1), (103, .iload_n 3, 1), (104, .ireturn, 1)]
theorem zhdX12_stuff_86 : dzC ztdX12_stuff_86 86 (cX12_stuff.data.toList.drop 86) = true := by decide +kernel
theorem dX12_stuff_86 : decode cX12_stuff 86 = .ok (.bipush 42, 2) := dzr zhdX12_stuff_86 0 rfl
theorem dX12_stuff_88 : decode cX12_stuff 88 = .ok (.iload_n 1, 1) := dzr zhdX12_stuff_86 1 rfl
theorem dX12_stuff_89 : decode cX12_stuff 89 = .ok (.iadd, 1) := dzr zhdX12_stuff_86 2 rfl
theorem dX12_stuff_90 : decode cX12_stuff 90 = .ok (.iload_n 2, 1) := dzr zhdX12_stuff_86 3 rfl
theorem dX12_stuff_91 : decode cX12_stuff 91 = .ok (.iastore, 1) := dzr zhdX12_stuff_86 4 rfl
theorem dX12_stuff_92 : decode cX12_stuff 92 = .ok (.aload_n 0, 1) := dzr zhdX12_stuff_86 5 rfl
theorem dX12_stuff_93 : decode cX12_stuff 93 = .ok (.getfield 58, 3) := dzr zhdX12_stuff_86 6 rfl
theorem dX12_stuff_96 : decode cX12_stuff 96 = .ok (.bipush 67, 2) := dzr zhdX12_stuff_86 7 rfl
theorem dX12_stuff_98 : decode cX12_stuff 98 = .ok (.dup2, 1) := dzr zhdX12_stuff_86 8 rfl
theorem dX12_stuff_99 : decode cX12_stuff 99 = .ok (.iaload, 1) := dzr zhdX12_stuff_86 9 rfl
theorem dX12_stuff_100 : decode cX12_stuff 100 = .ok (.iconst 2, 1) := dzr zhdX12_stuff_86 10 rfl
theorem dX12_stuff_101 : decode cX12_stuff 101 = .ok (.isub, 1) := dzr zhdX12_stuff_86 11 rfl
theorem dX12_stuff_102 : decode cX12_stuff 102 = .ok (.iastore, 1) := dzr zhdX12_stuff_86 12 rfl
theorem dX12_stuff_103 : decode cX12_stuff 103 = .ok (.iload_n 3, 1) := dzr zhdX12_stuff_86 13 rfl
theorem dX12_stuff_104 : decode cX12_stuff 104 = .ok (.ireturn, 1) := dzr zhdX12_stuff_86 14 rfl
theorem ggX12_swallow_X12_isRefused : GoodIn wsX12_swallow wsX12_isRefused := (bg_up (bg_law (bi_wsL_law0_r31 _ (List.mem_of_getElem? (i := 18) rfl))))
theorem gX12_swallow_X12_isRefused : GoodIn wsX12_swallow (wsV RX12 334 RX12 yX12_isRefused wsX12_isRefused) := goodIn_app (bg_up (bg_cons (bi_wsL_law0_r31 _ (List.mem_of_getElem? (i := 15) rfl)) (bg_cons (bi_wsL_law0_r31 _ (List.mem_of_getElem? (i := 16) rfl)) (bg_cons (bi_wsL_law0_r31 _ (List.mem_of_getElem? (i := 17) rfl)) (bg_cons (bi_wsL_law0_r1 _ (List.mem_of_getElem? (i := 5) rfl)) bg_nil))))) (bg_up (bg_law (bi_wsL_law0_r31 _ (List.mem_of_getElem? (i := 18) rfl))))
theorem ggX12_swallow_X12_keep : GoodIn wsX12_swallow wsX12_keep := (bg_up (bg_law (bi_wsL_law0_r31 _ (List.mem_of_getElem? (i := 22) rfl))))
theorem gX12_swallow_X12_keep : GoodIn wsX12_swallow (wsV RX12 337 RX12 yX12_keep wsX12_keep) := goodIn_app (bg_up (bg_cons (bi_wsL_law0_r31 _ (List.mem_of_getElem? (i := 19) rfl)) (bg_cons (bi_wsL_law0_r31 _ (List.mem_of_getElem? (i := 20) rfl)) (bg_cons (bi_wsL_law0_r31 _ (List.mem_of_getElem? (i := 21) rfl)) (bg_cons (bi_wsL_law0_r1 _ (List.mem_of_getElem? (i := 5) rfl)) bg_nil))))) (bg_up (bg_law (bi_wsL_law0_r31 _ (List.mem_of_getElem? (i := 22) rfl))))
def ztdX12_swallow_0 : List (Nat × Instr × Nat) := [(0, .aload_n 0, 1), (1, .aload_n 0, 1), (2, .getfield 252, 3), (5, .ifCond .ne 7, 3), (8, .iconst 0, 1), (9, .goto 33, 3), (12, .aload_n 0, 1), (13, .getfield 58, 3), (16, .bipush 66, 2), (18, .iaload, 1), (19, .ifCond .ne 7, 3), (22, .iconst 2, 1), (23, .goto 19, 3), (26, .aload_n 0, 1), (27, .getfield 58, 3), (30, .bipush 67, 2), (32, .iaload, 1), (33, .iconst 4, 1), (34, .if_icmp .ge 7, 3), (37, .iconst 3, 1), (38, .goto 4, 3), (41, .iconst (-1), 1), (42, .invokevirtual 334, 3), (45, .ifCond .eq 5, 3)]
theorem zhdX12_swallow_0 : dzC ztdX12_swallow_0 0 (cX12_swallow.data.toList.drop 0) = true := by decide +kernel
theorem dX12_swallow_0 : decode cX12_swallow 0 = .ok (.aload_n 0, 1) := dzr zhdX12_swallow_0 0 rfl
theorem dX12_swallow_1 : decode cX12_swallow 1 = .ok (.aload_n 0, 1) := dzr zhdX12_swallow_0 1 rfl
theorem dX12_swallow_2 : decode cX12_swallow 2 = .ok (.getfield 252, 3) := dzr zhdX12_swallow_0 2 rfl
theorem dX12_swallow_5 : decode cX12_swallow 5 = .ok (.ifCond .ne 7, 3) := dzr zhdX12_swallow_0 3 rfl
theorem dX12_swallow_8 : decode cX12_swallow 8 = .ok (.iconst 0, 1) := dzr zhdX12_swallow_0 4 rfl
theorem dX12_swallow_9 : decode cX12_swallow 9 = .ok (.goto 33, 3) := dzr zhdX12_swallow_0 5 rfl
theorem dX12_swallow_12 : decode cX12_swallow 12 = .ok (.aload_n 0, 1) := dzr zhdX12_swallow_0 6 rfl
theorem dX12_swallow_13 : decode cX12_swallow 13 = .ok (.getfield 58, 3) := dzr zhdX12_swallow_0 7 rfl
theorem dX12_swallow_16 : decode cX12_swallow 16 = .ok (.bipush 66, 2) := dzr zhdX12_swallow_0 8 rfl
theorem dX12_swallow_18 : decode cX12_swallow 18 = .ok (.iaload, 1) := dzr zhdX12_swallow_0 9 rfl
theorem dX12_swallow_19 : decode cX12_swallow 19 = .ok (.ifCond .ne 7, 3) := dzr zhdX12_swallow_0 10 rfl
theorem dX12_swallow_22 : decode cX12_swallow 22 = .ok (.iconst 2, 1) := dzr zhdX12_swallow_0 11 rfl
theorem dX12_swallow_23 : decode cX12_swallow 23 = .ok (.goto 19, 3) := dzr zhdX12_swallow_0 12 rfl
theorem dX12_swallow_26 : decode cX12_swallow 26 = .ok (.aload_n 0, 1) := dzr zhdX12_swallow_0 13 rfl
theorem dX12_swallow_27 : decode cX12_swallow 27 = .ok (.getfield 58, 3) := dzr zhdX12_swallow_0 14 rfl
theorem dX12_swallow_30 : decode cX12_swallow 30 = .ok (.bipush 67, 2) := dzr zhdX12_swallow_0 15 rfl
theorem dX12_swallow_32 : decode cX12_swallow 32 = .ok (.iaload, 1) := dzr zhdX12_swallow_0 16 rfl
theorem dX12_swallow_33 : decode cX12_swallow 33 = .ok (.iconst 4, 1) := dzr zhdX12_swallow_0 17 rfl
theorem dX12_swallow_34 : decode cX12_swallow 34 = .ok (.if_icmp .ge 7, 3) := dzr zhdX12_swallow_0 18 rfl
theorem dX12_swallow_37 : decode cX12_swallow 37 = .ok (.iconst 3, 1) := dzr zhdX12_swallow_0 19 rfl
theorem dX12_swallow_38 : decode cX12_swallow 38 = .ok (.goto 4, 3) := dzr zhdX12_swallow_0 20 rfl
theorem dX12_swallow_41 : decode cX12_swallow 41 = .ok (.iconst (-1), 1) := dzr zhdX12_swallow_0 21 rfl
theorem dX12_swallow_42 : decode cX12_swallow 42 = .ok (.invokevirtual 334, 3) := dzr zhdX12_swallow_0 22 rfl
theorem dX12_swallow_45 : decode cX12_swallow 45 = .ok (.ifCond .eq 5, 3) := dzr zhdX12_swallow_0 23 rfl
def ztdX12_swallow_48 : List (Nat × Instr × Nat) := [(48, .iconst (-1), 1), (49, .ireturn, 1), (50, .aload_n 0, 1), (51, .invokevirtual 337, 3), (54, .aload_n 0, 1), (55, .getfield 58, 3), (58, .bipush 66, 2), (60, .dup2, 1), (61, .iaload, 1), (62, .iconst 1, 1), (63, .isub, 1), (64, .iastore, 1), (65, .aload_n 0, 1), (66, .getfield 58, 3), (69, .bipush 67, 2), (71, .dup2, 1), (72, .iaload, 1), (73, .iconst 4, 1), (74, .isub, 1), (75, .iastore, 1), (76, .aload_n 0, 1), (77, .getfield 58, 3), (80, .bipush 66, 2), (82, .iaload, 1)]
theorem zhdX12_swallow_48 : dzC ztdX12_swallow_48 48 (cX12_swallow.data.toList.drop 48) = true := by decide +kernel
theorem dX12_swallow_48 : decode cX12_swallow 48 = .ok (.iconst (-1), 1) := dzr zhdX12_swallow_48 0 rfl
theorem dX12_swallow_49 : decode cX12_swallow 49 = .ok (.ireturn, 1) := dzr zhdX12_swallow_48 1 rfl
theorem dX12_swallow_50 : decode cX12_swallow 50 = .ok (.aload_n 0, 1) := dzr zhdX12_swallow_48 2 rfl
theorem dX12_swallow_51 : decode cX12_swallow 51 = .ok (.invokevirtual 337, 3) := dzr zhdX12_swallow_48 3 rfl
theorem dX12_swallow_54 : decode cX12_swallow 54 = .ok (.aload_n 0, 1) := dzr zhdX12_swallow_48 4 rfl
theorem dX12_swallow_55 : decode cX12_swallow 55 = .ok (.getfield 58, 3) := dzr zhdX12_swallow_48 5 rfl
theorem dX12_swallow_58 : decode cX12_swallow 58 = .ok (.bipush 66, 2) := dzr zhdX12_swallow_48 6 rfl
theorem dX12_swallow_60 : decode cX12_swallow 60 = .ok (.dup2, 1) := dzr zhdX12_swallow_48 7 rfl
theorem dX12_swallow_61 : decode cX12_swallow 61 = .ok (.iaload, 1) := dzr zhdX12_swallow_48 8 rfl
theorem dX12_swallow_62 : decode cX12_swallow 62 = .ok (.iconst 1, 1) := dzr zhdX12_swallow_48 9 rfl
theorem dX12_swallow_63 : decode cX12_swallow 63 = .ok (.isub, 1) := dzr zhdX12_swallow_48 10 rfl
theorem dX12_swallow_64 : decode cX12_swallow 64 = .ok (.iastore, 1) := dzr zhdX12_swallow_48 11 rfl
theorem dX12_swallow_65 : decode cX12_swallow 65 = .ok (.aload_n 0, 1) := dzr zhdX12_swallow_48 12 rfl
theorem dX12_swallow_66 : decode cX12_swallow 66 = .ok (.getfield 58, 3) := dzr zhdX12_swallow_48 13 rfl
theorem dX12_swallow_69 : decode cX12_swallow 69 = .ok (.bipush 67, 2) := dzr zhdX12_swallow_48 14 rfl
theorem dX12_swallow_71 : decode cX12_swallow 71 = .ok (.dup2, 1) := dzr zhdX12_swallow_48 15 rfl
theorem dX12_swallow_72 : decode cX12_swallow 72 = .ok (.iaload, 1) := dzr zhdX12_swallow_48 16 rfl
theorem dX12_swallow_73 : decode cX12_swallow 73 = .ok (.iconst 4, 1) := dzr zhdX12_swallow_48 17 rfl
theorem dX12_swallow_74 : decode cX12_swallow 74 = .ok (.isub, 1) := dzr zhdX12_swallow_48 18 rfl
theorem dX12_swallow_75 : decode cX12_swallow 75 = .ok (.iastore, 1) := dzr zhdX12_swallow_48 19 rfl
theorem dX12_swallow_76 : decode cX12_swallow 76 = .ok (.aload_n 0, 1) := dzr zhdX12_swallow_48 20 rfl
theorem dX12_swallow_77 : decode cX12_swallow 77 = .ok (.getfield 58, 3) := dzr zhdX12_swallow_48 21 rfl
theorem dX12_swallow_80 : decode cX12_swallow 80 = .ok (.bipush 66, 2) := dzr zhdX12_swallow_48 22 rfl
theorem dX12_swallow_82 : decode cX12_swallow 82 = .ok (.iaload, 1) := dzr zhdX12_swallow_48 23 rfl
def ztdX12_swallow_83 : List (Nat × Instr × Nat) := [(83, .ireturn, 1)]
theorem zhdX12_swallow_83 : dzC ztdX12_swallow_83 83 (cX12_swallow.data.toList.drop 83) = true := by decide +kernel
theorem dX12_swallow_83 : decode cX12_swallow 83 = .ok (.ireturn, 1) := dzr zhdX12_swallow_83 0 rfl
theorem ggX12_tear_X12_isMatter : GoodIn wsX12_tear wsX12_isMatter := (bg_up (bg_law (bi_wsL_law0_r26 _ (List.mem_of_getElem? (i := 13) rfl))))
theorem gX12_tear_X12_isMatter : GoodIn wsX12_tear (wsV RX12 331 RX12 yX12_isMatter wsX12_isMatter) := goodIn_app (bg_up (bg_cons (bi_wsL_law0_r26 _ (List.mem_of_getElem? (i := 10) rfl)) (bg_cons (bi_wsL_law0_r26 _ (List.mem_of_getElem? (i := 11) rfl)) (bg_cons (bi_wsL_law0_r26 _ (List.mem_of_getElem? (i := 12) rfl)) (bg_cons (bi_wsL_law0_r1 _ (List.mem_of_getElem? (i := 5) rfl)) bg_nil))))) (bg_up (bg_law (bi_wsL_law0_r26 _ (List.mem_of_getElem? (i := 13) rfl))))
theorem ggX12_tear_X12_isRefused : GoodIn wsX12_tear wsX12_isRefused := (bg_up (bg_law (bi_wsL_law0_r31 _ (List.mem_of_getElem? (i := 18) rfl))))
theorem gX12_tear_X12_isRefused : GoodIn wsX12_tear (wsV RX12 334 RX12 yX12_isRefused wsX12_isRefused) := goodIn_app (bg_up (bg_cons (bi_wsL_law0_r31 _ (List.mem_of_getElem? (i := 15) rfl)) (bg_cons (bi_wsL_law0_r31 _ (List.mem_of_getElem? (i := 16) rfl)) (bg_cons (bi_wsL_law0_r31 _ (List.mem_of_getElem? (i := 17) rfl)) (bg_cons (bi_wsL_law0_r1 _ (List.mem_of_getElem? (i := 5) rfl)) bg_nil))))) (bg_up (bg_law (bi_wsL_law0_r31 _ (List.mem_of_getElem? (i := 18) rfl))))
theorem ggX12_tear_X12_keep : GoodIn wsX12_tear wsX12_keep := (bg_up (bg_law (bi_wsL_law0_r31 _ (List.mem_of_getElem? (i := 22) rfl))))
theorem gX12_tear_X12_keep : GoodIn wsX12_tear (wsV RX12 337 RX12 yX12_keep wsX12_keep) := goodIn_app (bg_up (bg_cons (bi_wsL_law0_r31 _ (List.mem_of_getElem? (i := 19) rfl)) (bg_cons (bi_wsL_law0_r31 _ (List.mem_of_getElem? (i := 20) rfl)) (bg_cons (bi_wsL_law0_r31 _ (List.mem_of_getElem? (i := 21) rfl)) (bg_cons (bi_wsL_law0_r1 _ (List.mem_of_getElem? (i := 5) rfl)) bg_nil))))) (bg_up (bg_law (bi_wsL_law0_r31 _ (List.mem_of_getElem? (i := 22) rfl))))
def ztdX12_tear_0 : List (Nat × Instr × Nat) := [(0, .aload_n 0, 1), (1, .aload_n 0, 1), (2, .iload_n 1, 1), (3, .invokevirtual 331, 3), (6, .ifCond .ne 7, 3), (9, .iconst 0, 1), (10, .goto 21, 3), (13, .aload_n 0, 1), (14, .getfield 58, 3), (17, .bipush 60, 2), (19, .iload_n 1, 1), (20, .iadd, 1), (21, .iaload, 1), (22, .iconst (-1), 1), (23, .if_icmp .ne 7, 3), (26, .iconst 2, 1), (27, .goto 4, 3), (30, .iconst (-1), 1), (31, .invokevirtual 334, 3), (34, .ifCond .eq 5, 3), (37, .iconst (-1), 1), (38, .ireturn, 1), (39, .aload_n 0, 1), (40, .invokevirtual 337, 3)]
theorem zhdX12_tear_0 : dzC ztdX12_tear_0 0 (cX12_tear.data.toList.drop 0) = true := by decide +kernel
theorem dX12_tear_0 : decode cX12_tear 0 = .ok (.aload_n 0, 1) := dzr zhdX12_tear_0 0 rfl
theorem dX12_tear_1 : decode cX12_tear 1 = .ok (.aload_n 0, 1) := dzr zhdX12_tear_0 1 rfl
theorem dX12_tear_2 : decode cX12_tear 2 = .ok (.iload_n 1, 1) := dzr zhdX12_tear_0 2 rfl
theorem dX12_tear_3 : decode cX12_tear 3 = .ok (.invokevirtual 331, 3) := dzr zhdX12_tear_0 3 rfl
theorem dX12_tear_6 : decode cX12_tear 6 = .ok (.ifCond .ne 7, 3) := dzr zhdX12_tear_0 4 rfl
theorem dX12_tear_9 : decode cX12_tear 9 = .ok (.iconst 0, 1) := dzr zhdX12_tear_0 5 rfl
theorem dX12_tear_10 : decode cX12_tear 10 = .ok (.goto 21, 3) := dzr zhdX12_tear_0 6 rfl
theorem dX12_tear_13 : decode cX12_tear 13 = .ok (.aload_n 0, 1) := dzr zhdX12_tear_0 7 rfl
theorem dX12_tear_14 : decode cX12_tear 14 = .ok (.getfield 58, 3) := dzr zhdX12_tear_0 8 rfl
theorem dX12_tear_17 : decode cX12_tear 17 = .ok (.bipush 60, 2) := dzr zhdX12_tear_0 9 rfl
theorem dX12_tear_19 : decode cX12_tear 19 = .ok (.iload_n 1, 1) := dzr zhdX12_tear_0 10 rfl
theorem dX12_tear_20 : decode cX12_tear 20 = .ok (.iadd, 1) := dzr zhdX12_tear_0 11 rfl
theorem dX12_tear_21 : decode cX12_tear 21 = .ok (.iaload, 1) := dzr zhdX12_tear_0 12 rfl
theorem dX12_tear_22 : decode cX12_tear 22 = .ok (.iconst (-1), 1) := dzr zhdX12_tear_0 13 rfl
theorem dX12_tear_23 : decode cX12_tear 23 = .ok (.if_icmp .ne 7, 3) := dzr zhdX12_tear_0 14 rfl
theorem dX12_tear_26 : decode cX12_tear 26 = .ok (.iconst 2, 1) := dzr zhdX12_tear_0 15 rfl
theorem dX12_tear_27 : decode cX12_tear 27 = .ok (.goto 4, 3) := dzr zhdX12_tear_0 16 rfl
theorem dX12_tear_30 : decode cX12_tear 30 = .ok (.iconst (-1), 1) := dzr zhdX12_tear_0 17 rfl
theorem dX12_tear_31 : decode cX12_tear 31 = .ok (.invokevirtual 334, 3) := dzr zhdX12_tear_0 18 rfl
theorem dX12_tear_34 : decode cX12_tear 34 = .ok (.ifCond .eq 5, 3) := dzr zhdX12_tear_0 19 rfl
theorem dX12_tear_37 : decode cX12_tear 37 = .ok (.iconst (-1), 1) := dzr zhdX12_tear_0 20 rfl
theorem dX12_tear_38 : decode cX12_tear 38 = .ok (.ireturn, 1) := dzr zhdX12_tear_0 21 rfl
theorem dX12_tear_39 : decode cX12_tear 39 = .ok (.aload_n 0, 1) := dzr zhdX12_tear_0 22 rfl
theorem dX12_tear_40 : decode cX12_tear 40 = .ok (.invokevirtual 337, 3) := dzr zhdX12_tear_0 23 rfl
def ztdX12_tear_43 : List (Nat × Instr × Nat) := [(43, .aload_n 0, 1), (44, .getfield 58, 3), (47, .bipush 60, 2), (49, .iload_n 1, 1), (50, .iadd, 1), (51, .iconst (-1), 1), (52, .iastore, 1), (53, .aload_n 0, 1), (54, .getfield 58, 3), (57, .bipush 66, 2), (59, .bipush 9, 2), (61, .aload_n 0, 1), (62, .getfield 58, 3), (65, .bipush 66, 2), (67, .iaload, 1), (68, .iconst 1, 1), (69, .iadd, 1), (70, .invokestatic 280, 3), (73, .iastore, 1), (74, .aload_n 0, 1), (75, .getfield 58, 3), (78, .bipush 66, 2), (80, .iaload, 1), (81, .ireturn, 1)]
theorem zhdX12_tear_43 : dzC ztdX12_tear_43 43 (cX12_tear.data.toList.drop 43) = true := by decide +kernel
theorem dX12_tear_43 : decode cX12_tear 43 = .ok (.aload_n 0, 1) := dzr zhdX12_tear_43 0 rfl
theorem dX12_tear_44 : decode cX12_tear 44 = .ok (.getfield 58, 3) := dzr zhdX12_tear_43 1 rfl
theorem dX12_tear_47 : decode cX12_tear 47 = .ok (.bipush 60, 2) := dzr zhdX12_tear_43 2 rfl
theorem dX12_tear_49 : decode cX12_tear 49 = .ok (.iload_n 1, 1) := dzr zhdX12_tear_43 3 rfl
theorem dX12_tear_50 : decode cX12_tear 50 = .ok (.iadd, 1) := dzr zhdX12_tear_43 4 rfl
theorem dX12_tear_51 : decode cX12_tear 51 = .ok (.iconst (-1), 1) := dzr zhdX12_tear_43 5 rfl
theorem dX12_tear_52 : decode cX12_tear 52 = .ok (.iastore, 1) := dzr zhdX12_tear_43 6 rfl
theorem dX12_tear_53 : decode cX12_tear 53 = .ok (.aload_n 0, 1) := dzr zhdX12_tear_43 7 rfl
theorem dX12_tear_54 : decode cX12_tear 54 = .ok (.getfield 58, 3) := dzr zhdX12_tear_43 8 rfl
theorem dX12_tear_57 : decode cX12_tear 57 = .ok (.bipush 66, 2) := dzr zhdX12_tear_43 9 rfl
theorem dX12_tear_59 : decode cX12_tear 59 = .ok (.bipush 9, 2) := dzr zhdX12_tear_43 10 rfl
theorem dX12_tear_61 : decode cX12_tear 61 = .ok (.aload_n 0, 1) := dzr zhdX12_tear_43 11 rfl
theorem dX12_tear_62 : decode cX12_tear 62 = .ok (.getfield 58, 3) := dzr zhdX12_tear_43 12 rfl
theorem dX12_tear_65 : decode cX12_tear 65 = .ok (.bipush 66, 2) := dzr zhdX12_tear_43 13 rfl
theorem dX12_tear_67 : decode cX12_tear 67 = .ok (.iaload, 1) := dzr zhdX12_tear_43 14 rfl
theorem dX12_tear_68 : decode cX12_tear 68 = .ok (.iconst 1, 1) := dzr zhdX12_tear_43 15 rfl
theorem dX12_tear_69 : decode cX12_tear 69 = .ok (.iadd, 1) := dzr zhdX12_tear_43 16 rfl
theorem dX12_tear_70 : decode cX12_tear 70 = .ok (.invokestatic 280, 3) := dzr zhdX12_tear_43 17 rfl
theorem dX12_tear_73 : decode cX12_tear 73 = .ok (.iastore, 1) := dzr zhdX12_tear_43 18 rfl
theorem dX12_tear_74 : decode cX12_tear 74 = .ok (.aload_n 0, 1) := dzr zhdX12_tear_43 19 rfl
theorem dX12_tear_75 : decode cX12_tear 75 = .ok (.getfield 58, 3) := dzr zhdX12_tear_43 20 rfl
theorem dX12_tear_78 : decode cX12_tear 78 = .ok (.bipush 66, 2) := dzr zhdX12_tear_43 21 rfl
theorem dX12_tear_80 : decode cX12_tear 80 = .ok (.iaload, 1) := dzr zhdX12_tear_43 22 rfl
theorem dX12_tear_81 : decode cX12_tear 81 = .ok (.ireturn, 1) := dzr zhdX12_tear_43 23 rfl
theorem ggX12_give_X12_in : GoodIn wsX12_give wsX12_in := (bg_up (bg_law (bi_wsL_law0_r16 _ (List.mem_of_getElem? (i := 21) rfl))))
theorem gX12_give_X12_in : GoodIn wsX12_give (va_wsS RX12 211 yX12_in wsX12_in) := goodIn_app (bg_up (bg_cons (bi_wsL_law0_r16 _ (List.mem_of_getElem? (i := 19) rfl)) (bg_cons (bi_wsL_law0_r16 _ (List.mem_of_getElem? (i := 20) rfl)) (bg_cons (bi_wsL_law0_r1 _ (List.mem_of_getElem? (i := 5) rfl)) bg_nil)))) (bg_up (bg_law (bi_wsL_law0_r16 _ (List.mem_of_getElem? (i := 21) rfl))))
theorem ggX12_give_X12_isRefused : GoodIn wsX12_give wsX12_isRefused := (bg_up (bg_law (bi_wsL_law0_r31 _ (List.mem_of_getElem? (i := 18) rfl))))
theorem gX12_give_X12_isRefused : GoodIn wsX12_give (wsV RX12 334 RX12 yX12_isRefused wsX12_isRefused) := goodIn_app (bg_up (bg_cons (bi_wsL_law0_r31 _ (List.mem_of_getElem? (i := 15) rfl)) (bg_cons (bi_wsL_law0_r31 _ (List.mem_of_getElem? (i := 16) rfl)) (bg_cons (bi_wsL_law0_r31 _ (List.mem_of_getElem? (i := 17) rfl)) (bg_cons (bi_wsL_law0_r1 _ (List.mem_of_getElem? (i := 5) rfl)) bg_nil))))) (bg_up (bg_law (bi_wsL_law0_r31 _ (List.mem_of_getElem? (i := 18) rfl))))
theorem ggX12_give_X12_keep : GoodIn wsX12_give wsX12_keep := (bg_up (bg_law (bi_wsL_law0_r31 _ (List.mem_of_getElem? (i := 22) rfl))))
theorem gX12_give_X12_keep : GoodIn wsX12_give (wsV RX12 337 RX12 yX12_keep wsX12_keep) := goodIn_app (bg_up (bg_cons (bi_wsL_law0_r31 _ (List.mem_of_getElem? (i := 19) rfl)) (bg_cons (bi_wsL_law0_r31 _ (List.mem_of_getElem? (i := 20) rfl)) (bg_cons (bi_wsL_law0_r31 _ (List.mem_of_getElem? (i := 21) rfl)) (bg_cons (bi_wsL_law0_r1 _ (List.mem_of_getElem? (i := 5) rfl)) bg_nil))))) (bg_up (bg_law (bi_wsL_law0_r31 _ (List.mem_of_getElem? (i := 22) rfl))))
def ztdX12_give_0 : List (Nat × Instr × Nat) := [(0, .aload_n 0, 1), (1, .aload_n 0, 1), (2, .getfield 252, 3), (5, .ifCond .ne 7, 3), (8, .iconst 0, 1), (9, .goto 33, 3), (12, .iload_n 1, 1), (13, .iconst 1, 1), (14, .bipush 50, 2), (16, .invokestatic 211, 3), (19, .ifCond .eq 18, 3), (22, .aload_n 0, 1), (23, .getfield 58, 3), (26, .bipush 67, 2), (28, .iaload, 1), (29, .iload_n 1, 1), (30, .iadd, 1), (31, .sipush 999, 3), (34, .if_icmp .le 7, 3), (37, .iconst 1, 1), (38, .goto 4, 3), (41, .iconst (-1), 1), (42, .invokevirtual 334, 3), (45, .ifCond .eq 5, 3)]
theorem zhdX12_give_0 : dzC ztdX12_give_0 0 (cX12_give.data.toList.drop 0) = true := by decide +kernel
theorem dX12_give_0 : decode cX12_give 0 = .ok (.aload_n 0, 1) := dzr zhdX12_give_0 0 rfl
theorem dX12_give_1 : decode cX12_give 1 = .ok (.aload_n 0, 1) := dzr zhdX12_give_0 1 rfl
theorem dX12_give_2 : decode cX12_give 2 = .ok (.getfield 252, 3) := dzr zhdX12_give_0 2 rfl
theorem dX12_give_5 : decode cX12_give 5 = .ok (.ifCond .ne 7, 3) := dzr zhdX12_give_0 3 rfl
theorem dX12_give_8 : decode cX12_give 8 = .ok (.iconst 0, 1) := dzr zhdX12_give_0 4 rfl
theorem dX12_give_9 : decode cX12_give 9 = .ok (.goto 33, 3) := dzr zhdX12_give_0 5 rfl
theorem dX12_give_12 : decode cX12_give 12 = .ok (.iload_n 1, 1) := dzr zhdX12_give_0 6 rfl
theorem dX12_give_13 : decode cX12_give 13 = .ok (.iconst 1, 1) := dzr zhdX12_give_0 7 rfl
theorem dX12_give_14 : decode cX12_give 14 = .ok (.bipush 50, 2) := dzr zhdX12_give_0 8 rfl
theorem dX12_give_16 : decode cX12_give 16 = .ok (.invokestatic 211, 3) := dzr zhdX12_give_0 9 rfl
theorem dX12_give_19 : decode cX12_give 19 = .ok (.ifCond .eq 18, 3) := dzr zhdX12_give_0 10 rfl
theorem dX12_give_22 : decode cX12_give 22 = .ok (.aload_n 0, 1) := dzr zhdX12_give_0 11 rfl
theorem dX12_give_23 : decode cX12_give 23 = .ok (.getfield 58, 3) := dzr zhdX12_give_0 12 rfl
theorem dX12_give_26 : decode cX12_give 26 = .ok (.bipush 67, 2) := dzr zhdX12_give_0 13 rfl
theorem dX12_give_28 : decode cX12_give 28 = .ok (.iaload, 1) := dzr zhdX12_give_0 14 rfl
theorem dX12_give_29 : decode cX12_give 29 = .ok (.iload_n 1, 1) := dzr zhdX12_give_0 15 rfl
theorem dX12_give_30 : decode cX12_give 30 = .ok (.iadd, 1) := dzr zhdX12_give_0 16 rfl
theorem dX12_give_31 : decode cX12_give 31 = .ok (.sipush 999, 3) := dzr zhdX12_give_0 17 rfl
theorem dX12_give_34 : decode cX12_give 34 = .ok (.if_icmp .le 7, 3) := dzr zhdX12_give_0 18 rfl
theorem dX12_give_37 : decode cX12_give 37 = .ok (.iconst 1, 1) := dzr zhdX12_give_0 19 rfl
theorem dX12_give_38 : decode cX12_give 38 = .ok (.goto 4, 3) := dzr zhdX12_give_0 20 rfl
theorem dX12_give_41 : decode cX12_give 41 = .ok (.iconst (-1), 1) := dzr zhdX12_give_0 21 rfl
theorem dX12_give_42 : decode cX12_give 42 = .ok (.invokevirtual 334, 3) := dzr zhdX12_give_0 22 rfl
theorem dX12_give_45 : decode cX12_give 45 = .ok (.ifCond .eq 5, 3) := dzr zhdX12_give_0 23 rfl
def ztdX12_give_48 : List (Nat × Instr × Nat) := [(48, .iconst (-1), 1), (49, .ireturn, 1), (50, .aload_n 0, 1), (51, .invokevirtual 337, 3), (54, .aload_n 0, 1), (55, .getfield 58, 3), (58, .bipush 67, 2), (60, .dup2, 1), (61, .iaload, 1), (62, .iload_n 1, 1), (63, .iadd, 1), (64, .iastore, 1), (65, .aload_n 0, 1), (66, .getfield 58, 3), (69, .bipush 67, 2), (71, .iaload, 1), (72, .ireturn, 1)]
theorem zhdX12_give_48 : dzC ztdX12_give_48 48 (cX12_give.data.toList.drop 48) = true := by decide +kernel
theorem dX12_give_48 : decode cX12_give 48 = .ok (.iconst (-1), 1) := dzr zhdX12_give_48 0 rfl
theorem dX12_give_49 : decode cX12_give 49 = .ok (.ireturn, 1) := dzr zhdX12_give_48 1 rfl
theorem dX12_give_50 : decode cX12_give 50 = .ok (.aload_n 0, 1) := dzr zhdX12_give_48 2 rfl
theorem dX12_give_51 : decode cX12_give 51 = .ok (.invokevirtual 337, 3) := dzr zhdX12_give_48 3 rfl
theorem dX12_give_54 : decode cX12_give 54 = .ok (.aload_n 0, 1) := dzr zhdX12_give_48 4 rfl
theorem dX12_give_55 : decode cX12_give 55 = .ok (.getfield 58, 3) := dzr zhdX12_give_48 5 rfl
theorem dX12_give_58 : decode cX12_give 58 = .ok (.bipush 67, 2) := dzr zhdX12_give_48 6 rfl
theorem dX12_give_60 : decode cX12_give 60 = .ok (.dup2, 1) := dzr zhdX12_give_48 7 rfl
theorem dX12_give_61 : decode cX12_give 61 = .ok (.iaload, 1) := dzr zhdX12_give_48 8 rfl
theorem dX12_give_62 : decode cX12_give 62 = .ok (.iload_n 1, 1) := dzr zhdX12_give_48 9 rfl
theorem dX12_give_63 : decode cX12_give 63 = .ok (.iadd, 1) := dzr zhdX12_give_48 10 rfl
theorem dX12_give_64 : decode cX12_give 64 = .ok (.iastore, 1) := dzr zhdX12_give_48 11 rfl
theorem dX12_give_65 : decode cX12_give 65 = .ok (.aload_n 0, 1) := dzr zhdX12_give_48 12 rfl
theorem dX12_give_66 : decode cX12_give 66 = .ok (.getfield 58, 3) := dzr zhdX12_give_48 13 rfl
theorem dX12_give_69 : decode cX12_give 69 = .ok (.bipush 67, 2) := dzr zhdX12_give_48 14 rfl
theorem dX12_give_71 : decode cX12_give 71 = .ok (.iaload, 1) := dzr zhdX12_give_48 15 rfl
theorem dX12_give_72 : decode cX12_give 72 = .ok (.ireturn, 1) := dzr zhdX12_give_48 16 rfl
theorem ggX12_areDays_X12_in : GoodIn wsX12_areDays wsX12_in := (bg_up (bg_law (bi_wsL_law0_r16 _ (List.mem_of_getElem? (i := 21) rfl))))
theorem gX12_areDays_X12_in : GoodIn wsX12_areDays (va_wsS RX12 211 yX12_in wsX12_in) := goodIn_app (bg_up (bg_cons (bi_wsL_law0_r16 _ (List.mem_of_getElem? (i := 19) rfl)) (bg_cons (bi_wsL_law0_r16 _ (List.mem_of_getElem? (i := 20) rfl)) (bg_cons (bi_wsL_law0_r1 _ (List.mem_of_getElem? (i := 5) rfl)) bg_nil)))) (bg_up (bg_law (bi_wsL_law0_r16 _ (List.mem_of_getElem? (i := 21) rfl))))
def ztdX12_areDays_0 : List (Nat × Instr × Nat) := [(0, .iload_n 1, 1), (1, .iconst 1, 1), (2, .bipush 60, 2), (4, .invokestatic 211, 3), (7, .ifCond .eq 22, 3), (10, .aload_n 0, 1), (11, .getfield 58, 3), (14, .bipush 68, 2), (16, .iaload, 1), (17, .iload_n 1, 1), (18, .iadd, 1), (19, .sipush 999, 3), (22, .if_icmp .gt 7, 3), (25, .iconst 1, 1), (26, .goto 4, 3), (29, .iconst 0, 1), (30, .ireturn, 1)]
theorem zhdX12_areDays_0 : dzC ztdX12_areDays_0 0 (cX12_areDays.data.toList.drop 0) = true := by decide +kernel
theorem dX12_areDays_0 : decode cX12_areDays 0 = .ok (.iload_n 1, 1) := dzr zhdX12_areDays_0 0 rfl
theorem dX12_areDays_1 : decode cX12_areDays 1 = .ok (.iconst 1, 1) := dzr zhdX12_areDays_0 1 rfl
theorem dX12_areDays_2 : decode cX12_areDays 2 = .ok (.bipush 60, 2) := dzr zhdX12_areDays_0 2 rfl
theorem dX12_areDays_4 : decode cX12_areDays 4 = .ok (.invokestatic 211, 3) := dzr zhdX12_areDays_0 3 rfl
theorem dX12_areDays_7 : decode cX12_areDays 7 = .ok (.ifCond .eq 22, 3) := dzr zhdX12_areDays_0 4 rfl
theorem dX12_areDays_10 : decode cX12_areDays 10 = .ok (.aload_n 0, 1) := dzr zhdX12_areDays_0 5 rfl
theorem dX12_areDays_11 : decode cX12_areDays 11 = .ok (.getfield 58, 3) := dzr zhdX12_areDays_0 6 rfl
theorem dX12_areDays_14 : decode cX12_areDays 14 = .ok (.bipush 68, 2) := dzr zhdX12_areDays_0 7 rfl
theorem dX12_areDays_16 : decode cX12_areDays 16 = .ok (.iaload, 1) := dzr zhdX12_areDays_0 8 rfl
theorem dX12_areDays_17 : decode cX12_areDays 17 = .ok (.iload_n 1, 1) := dzr zhdX12_areDays_0 9 rfl
theorem dX12_areDays_18 : decode cX12_areDays 18 = .ok (.iadd, 1) := dzr zhdX12_areDays_0 10 rfl
theorem dX12_areDays_19 : decode cX12_areDays 19 = .ok (.sipush 999, 3) := dzr zhdX12_areDays_0 11 rfl
theorem dX12_areDays_22 : decode cX12_areDays 22 = .ok (.if_icmp .gt 7, 3) := dzr zhdX12_areDays_0 12 rfl
theorem dX12_areDays_25 : decode cX12_areDays 25 = .ok (.iconst 1, 1) := dzr zhdX12_areDays_0 13 rfl
theorem dX12_areDays_26 : decode cX12_areDays 26 = .ok (.goto 4, 3) := dzr zhdX12_areDays_0 14 rfl
theorem dX12_areDays_29 : decode cX12_areDays 29 = .ok (.iconst 0, 1) := dzr zhdX12_areDays_0 15 rfl
theorem dX12_areDays_30 : decode cX12_areDays 30 = .ok (.ireturn, 1) := dzr zhdX12_areDays_0 16 rfl
theorem ggX12_days_X12_in : GoodIn wsX12_days wsX12_in := (bg_up (bg_law (bi_wsL_law0_r16 _ (List.mem_of_getElem? (i := 21) rfl))))
theorem gX12_days_X12_in : GoodIn wsX12_days (va_wsS RX12 211 yX12_in wsX12_in) := goodIn_app (bg_up (bg_cons (bi_wsL_law0_r16 _ (List.mem_of_getElem? (i := 19) rfl)) (bg_cons (bi_wsL_law0_r16 _ (List.mem_of_getElem? (i := 20) rfl)) (bg_cons (bi_wsL_law0_r1 _ (List.mem_of_getElem? (i := 5) rfl)) bg_nil)))) (bg_up (bg_law (bi_wsL_law0_r16 _ (List.mem_of_getElem? (i := 21) rfl))))
theorem ggX12_days_X12_areDays : GoodIn wsX12_days wsX12_areDays := (bg_up (bg_law (bi_wsL_law0_r38 _ (List.mem_of_getElem? (i := 16) rfl))))
theorem gX12_days_X12_areDays : GoodIn wsX12_days (wsV RX12 343 RX12 yX12_areDays wsX12_areDays) := goodIn_app (bg_up (bg_cons (bi_wsL_law0_r38 _ (List.mem_of_getElem? (i := 13) rfl)) (bg_cons (bi_wsL_law0_r38 _ (List.mem_of_getElem? (i := 14) rfl)) (bg_cons (bi_wsL_law0_r38 _ (List.mem_of_getElem? (i := 15) rfl)) (bg_cons (bi_wsL_law0_r1 _ (List.mem_of_getElem? (i := 5) rfl)) bg_nil))))) (bg_up (bg_law (bi_wsL_law0_r38 _ (List.mem_of_getElem? (i := 16) rfl))))
theorem ggX12_days_X12_isRefused : GoodIn wsX12_days wsX12_isRefused := (bg_up (bg_law (bi_wsL_law0_r31 _ (List.mem_of_getElem? (i := 18) rfl))))
theorem gX12_days_X12_isRefused : GoodIn wsX12_days (wsV RX12 334 RX12 yX12_isRefused wsX12_isRefused) := goodIn_app (bg_up (bg_cons (bi_wsL_law0_r31 _ (List.mem_of_getElem? (i := 15) rfl)) (bg_cons (bi_wsL_law0_r31 _ (List.mem_of_getElem? (i := 16) rfl)) (bg_cons (bi_wsL_law0_r31 _ (List.mem_of_getElem? (i := 17) rfl)) (bg_cons (bi_wsL_law0_r1 _ (List.mem_of_getElem? (i := 5) rfl)) bg_nil))))) (bg_up (bg_law (bi_wsL_law0_r31 _ (List.mem_of_getElem? (i := 18) rfl))))
theorem ggX12_days_X12_keep : GoodIn wsX12_days wsX12_keep := (bg_up (bg_law (bi_wsL_law0_r31 _ (List.mem_of_getElem? (i := 22) rfl))))
theorem gX12_days_X12_keep : GoodIn wsX12_days (wsV RX12 337 RX12 yX12_keep wsX12_keep) := goodIn_app (bg_up (bg_cons (bi_wsL_law0_r31 _ (List.mem_of_getElem? (i := 19) rfl)) (bg_cons (bi_wsL_law0_r31 _ (List.mem_of_getElem? (i := 20) rfl)) (bg_cons (bi_wsL_law0_r31 _ (List.mem_of_getElem? (i := 21) rfl)) (bg_cons (bi_wsL_law0_r1 _ (List.mem_of_getElem? (i := 5) rfl)) bg_nil))))) (bg_up (bg_law (bi_wsL_law0_r31 _ (List.mem_of_getElem? (i := 22) rfl))))
theorem ggX12_days_X12_passDay : GoodIn wsX12_days wsX12_passDay := (bg_up (bg_law (bi_wsL_law0_r38 _ (List.mem_of_getElem? (i := 20) rfl))))
theorem gX12_days_X12_passDay : GoodIn wsX12_days (wsV RX12 346 RX12 yX12_passDay wsX12_passDay) := goodIn_app (bg_up (bg_cons (bi_wsL_law0_r38 _ (List.mem_of_getElem? (i := 17) rfl)) (bg_cons (bi_wsL_law0_r38 _ (List.mem_of_getElem? (i := 18) rfl)) (bg_cons (bi_wsL_law0_r38 _ (List.mem_of_getElem? (i := 19) rfl)) (bg_cons (bi_wsL_law0_r1 _ (List.mem_of_getElem? (i := 5) rfl)) bg_nil))))) (bg_up (bg_law (bi_wsL_law0_r38 _ (List.mem_of_getElem? (i := 20) rfl))))
def ztdX12_days_0 : List (Nat × Instr × Nat) := [(0, .aload_n 0, 1), (1, .aload_n 0, 1), (2, .getfield 252, 3), (5, .ifCond .ne 7, 3), (8, .iconst 0, 1), (9, .goto 30, 3), (12, .iload_n 1, 1), (13, .iconst 1, 1), (14, .bipush 60, 2), (16, .invokestatic 211, 3), (19, .ifCond .ne 7, 3), (22, .iconst 1, 1), (23, .goto 16, 3), (26, .aload_n 0, 1), (27, .iload_n 1, 1), (28, .invokevirtual 343, 3), (31, .ifCond .ne 7, 3), (34, .iconst 4, 1), (35, .goto 4, 3), (38, .iconst (-1), 1), (39, .invokevirtual 334, 3), (42, .ifCond .eq 5, 3), (45, .iconst (-1), 1), (46, .ireturn, 1)]
theorem zhdX12_days_0 : dzC ztdX12_days_0 0 (cX12_days.data.toList.drop 0) = true := by decide +kernel
theorem dX12_days_0 : decode cX12_days 0 = .ok (.aload_n 0, 1) := dzr zhdX12_days_0 0 rfl
theorem dX12_days_1 : decode cX12_days 1 = .ok (.aload_n 0, 1) := dzr zhdX12_days_0 1 rfl
theorem dX12_days_2 : decode cX12_days 2 = .ok (.getfield 252, 3) := dzr zhdX12_days_0 2 rfl
theorem dX12_days_5 : decode cX12_days 5 = .ok (.ifCond .ne 7, 3) := dzr zhdX12_days_0 3 rfl
theorem dX12_days_8 : decode cX12_days 8 = .ok (.iconst 0, 1) := dzr zhdX12_days_0 4 rfl
theorem dX12_days_9 : decode cX12_days 9 = .ok (.goto 30, 3) := dzr zhdX12_days_0 5 rfl
theorem dX12_days_12 : decode cX12_days 12 = .ok (.iload_n 1, 1) := dzr zhdX12_days_0 6 rfl
theorem dX12_days_13 : decode cX12_days 13 = .ok (.iconst 1, 1) := dzr zhdX12_days_0 7 rfl
theorem dX12_days_14 : decode cX12_days 14 = .ok (.bipush 60, 2) := dzr zhdX12_days_0 8 rfl
theorem dX12_days_16 : decode cX12_days 16 = .ok (.invokestatic 211, 3) := dzr zhdX12_days_0 9 rfl
theorem dX12_days_19 : decode cX12_days 19 = .ok (.ifCond .ne 7, 3) := dzr zhdX12_days_0 10 rfl
theorem dX12_days_22 : decode cX12_days 22 = .ok (.iconst 1, 1) := dzr zhdX12_days_0 11 rfl
theorem dX12_days_23 : decode cX12_days 23 = .ok (.goto 16, 3) := dzr zhdX12_days_0 12 rfl
theorem dX12_days_26 : decode cX12_days 26 = .ok (.aload_n 0, 1) := dzr zhdX12_days_0 13 rfl
theorem dX12_days_27 : decode cX12_days 27 = .ok (.iload_n 1, 1) := dzr zhdX12_days_0 14 rfl
theorem dX12_days_28 : decode cX12_days 28 = .ok (.invokevirtual 343, 3) := dzr zhdX12_days_0 15 rfl
theorem dX12_days_31 : decode cX12_days 31 = .ok (.ifCond .ne 7, 3) := dzr zhdX12_days_0 16 rfl
theorem dX12_days_34 : decode cX12_days 34 = .ok (.iconst 4, 1) := dzr zhdX12_days_0 17 rfl
theorem dX12_days_35 : decode cX12_days 35 = .ok (.goto 4, 3) := dzr zhdX12_days_0 18 rfl
theorem dX12_days_38 : decode cX12_days 38 = .ok (.iconst (-1), 1) := dzr zhdX12_days_0 19 rfl
theorem dX12_days_39 : decode cX12_days 39 = .ok (.invokevirtual 334, 3) := dzr zhdX12_days_0 20 rfl
theorem dX12_days_42 : decode cX12_days 42 = .ok (.ifCond .eq 5, 3) := dzr zhdX12_days_0 21 rfl
theorem dX12_days_45 : decode cX12_days 45 = .ok (.iconst (-1), 1) := dzr zhdX12_days_0 22 rfl
theorem dX12_days_46 : decode cX12_days 46 = .ok (.ireturn, 1) := dzr zhdX12_days_0 23 rfl
def ztdX12_days_47 : List (Nat × Instr × Nat) := [(47, .iconst 0, 1), (48, .istore_n 2, 1), (49, .iload_n 2, 1), (50, .iload_n 1, 1), (51, .if_icmp .ge 17, 3), (54, .aload_n 0, 1), (55, .invokevirtual 337, 3), (58, .aload_n 0, 1), (59, .invokevirtual 346, 3), (62, .iinc 2 1, 3), (65, .goto (-16), 3), (68, .aload_n 0, 1), (69, .getfield 58, 3), (72, .bipush 68, 2), (74, .iaload, 1), (75, .ireturn, 1)]
theorem zhdX12_days_47 : dzC ztdX12_days_47 47 (cX12_days.data.toList.drop 47) = true := by decide +kernel
theorem dX12_days_47 : decode cX12_days 47 = .ok (.iconst 0, 1) := dzr zhdX12_days_47 0 rfl
theorem dX12_days_48 : decode cX12_days 48 = .ok (.istore_n 2, 1) := dzr zhdX12_days_47 1 rfl
theorem dX12_days_49 : decode cX12_days 49 = .ok (.iload_n 2, 1) := dzr zhdX12_days_47 2 rfl
theorem dX12_days_50 : decode cX12_days 50 = .ok (.iload_n 1, 1) := dzr zhdX12_days_47 3 rfl
theorem dX12_days_51 : decode cX12_days 51 = .ok (.if_icmp .ge 17, 3) := dzr zhdX12_days_47 4 rfl
theorem dX12_days_54 : decode cX12_days 54 = .ok (.aload_n 0, 1) := dzr zhdX12_days_47 5 rfl
theorem dX12_days_55 : decode cX12_days 55 = .ok (.invokevirtual 337, 3) := dzr zhdX12_days_47 6 rfl
theorem dX12_days_58 : decode cX12_days 58 = .ok (.aload_n 0, 1) := dzr zhdX12_days_47 7 rfl
theorem dX12_days_59 : decode cX12_days 59 = .ok (.invokevirtual 346, 3) := dzr zhdX12_days_47 8 rfl
theorem dX12_days_62 : decode cX12_days 62 = .ok (.iinc 2 1, 3) := dzr zhdX12_days_47 9 rfl
theorem dX12_days_65 : decode cX12_days 65 = .ok (.goto (-16), 3) := dzr zhdX12_days_47 10 rfl
theorem dX12_days_68 : decode cX12_days 68 = .ok (.aload_n 0, 1) := dzr zhdX12_days_47 11 rfl
theorem dX12_days_69 : decode cX12_days 69 = .ok (.getfield 58, 3) := dzr zhdX12_days_47 12 rfl
theorem dX12_days_72 : decode cX12_days 72 = .ok (.bipush 68, 2) := dzr zhdX12_days_47 13 rfl
theorem dX12_days_74 : decode cX12_days 74 = .ok (.iaload, 1) := dzr zhdX12_days_47 14 rfl
theorem dX12_days_75 : decode cX12_days 75 = .ok (.ireturn, 1) := dzr zhdX12_days_47 15 rfl
theorem ggX12_spite_X12_in : GoodIn wsX12_spite wsX12_in := (bg_up (bg_law (bi_wsL_law0_r16 _ (List.mem_of_getElem? (i := 21) rfl))))
theorem gX12_spite_X12_in : GoodIn wsX12_spite (va_wsS RX12 211 yX12_in wsX12_in) := goodIn_app (bg_up (bg_cons (bi_wsL_law0_r16 _ (List.mem_of_getElem? (i := 19) rfl)) (bg_cons (bi_wsL_law0_r16 _ (List.mem_of_getElem? (i := 20) rfl)) (bg_cons (bi_wsL_law0_r1 _ (List.mem_of_getElem? (i := 5) rfl)) bg_nil)))) (bg_up (bg_law (bi_wsL_law0_r16 _ (List.mem_of_getElem? (i := 21) rfl))))
def ztdX12_spite_0 : List (Nat × Instr × Nat) := [(0, .iload_n 1, 1), (1, .iconst 0, 1), (2, .bipush 9, 2), (4, .invokestatic 211, 3), (7, .ifCond .eq 11, 3), (10, .iload_n 1, 1), (11, .aload_n 0, 1), (12, .getfield 68, 3), (15, .if_icmp .ne 5, 3), (18, .iconst 0, 1), (19, .ireturn, 1), (20, .aload_n 0, 1), (21, .iload_n 1, 1), (22, .putfield 68, 3), (25, .iconst 1, 1), (26, .ireturn, 1)]
theorem zhdX12_spite_0 : dzC ztdX12_spite_0 0 (cX12_spite.data.toList.drop 0) = true := by decide +kernel
theorem dX12_spite_0 : decode cX12_spite 0 = .ok (.iload_n 1, 1) := dzr zhdX12_spite_0 0 rfl
theorem dX12_spite_1 : decode cX12_spite 1 = .ok (.iconst 0, 1) := dzr zhdX12_spite_0 1 rfl
theorem dX12_spite_2 : decode cX12_spite 2 = .ok (.bipush 9, 2) := dzr zhdX12_spite_0 2 rfl
theorem dX12_spite_4 : decode cX12_spite 4 = .ok (.invokestatic 211, 3) := dzr zhdX12_spite_0 3 rfl
theorem dX12_spite_7 : decode cX12_spite 7 = .ok (.ifCond .eq 11, 3) := dzr zhdX12_spite_0 4 rfl
theorem dX12_spite_10 : decode cX12_spite 10 = .ok (.iload_n 1, 1) := dzr zhdX12_spite_0 5 rfl
theorem dX12_spite_11 : decode cX12_spite 11 = .ok (.aload_n 0, 1) := dzr zhdX12_spite_0 6 rfl
theorem dX12_spite_12 : decode cX12_spite 12 = .ok (.getfield 68, 3) := dzr zhdX12_spite_0 7 rfl
theorem dX12_spite_15 : decode cX12_spite 15 = .ok (.if_icmp .ne 5, 3) := dzr zhdX12_spite_0 8 rfl
theorem dX12_spite_18 : decode cX12_spite 18 = .ok (.iconst 0, 1) := dzr zhdX12_spite_0 9 rfl
theorem dX12_spite_19 : decode cX12_spite 19 = .ok (.ireturn, 1) := dzr zhdX12_spite_0 10 rfl
theorem dX12_spite_20 : decode cX12_spite 20 = .ok (.aload_n 0, 1) := dzr zhdX12_spite_0 11 rfl
theorem dX12_spite_21 : decode cX12_spite 21 = .ok (.iload_n 1, 1) := dzr zhdX12_spite_0 12 rfl
theorem dX12_spite_22 : decode cX12_spite 22 = .ok (.putfield 68, 3) := dzr zhdX12_spite_0 13 rfl
theorem dX12_spite_25 : decode cX12_spite 25 = .ok (.iconst 1, 1) := dzr zhdX12_spite_0 14 rfl
theorem dX12_spite_26 : decode cX12_spite 26 = .ok (.ireturn, 1) := dzr zhdX12_spite_0 15 rfl
def ztdX12_draw_0 : List (Nat × Instr × Nat) := [(0, .aload_n 0, 1), (1, .aload_n 0, 1), (2, .getfield 349, 3), (5, .ldc2_w 353, 3), (8, .lmul, 1), (9, .ldc2_w 355, 3), (12, .ladd, 1), (13, .putfield 349, 3), (16, .aload_n 0, 1), (17, .getfield 349, 3), (20, .bipush 33, 2), (22, .lushr, 1), (23, .iload_n 1, 1), (24, .i2l, 1), (25, .lrem, 1), (26, .l2i, 1), (27, .ireturn, 1)]
theorem zhdX12_draw_0 : dzC ztdX12_draw_0 0 (cX12_draw.data.toList.drop 0) = true := by decide +kernel
theorem dX12_draw_0 : decode cX12_draw 0 = .ok (.aload_n 0, 1) := dzr zhdX12_draw_0 0 rfl
theorem dX12_draw_1 : decode cX12_draw 1 = .ok (.aload_n 0, 1) := dzr zhdX12_draw_0 1 rfl
theorem dX12_draw_2 : decode cX12_draw 2 = .ok (.getfield 349, 3) := dzr zhdX12_draw_0 2 rfl
theorem dX12_draw_5 : decode cX12_draw 5 = .ok (.ldc2_w 353, 3) := dzr zhdX12_draw_0 3 rfl
theorem dX12_draw_8 : decode cX12_draw 8 = .ok (.lmul, 1) := dzr zhdX12_draw_0 4 rfl
theorem dX12_draw_9 : decode cX12_draw 9 = .ok (.ldc2_w 355, 3) := dzr zhdX12_draw_0 5 rfl
theorem dX12_draw_12 : decode cX12_draw 12 = .ok (.ladd, 1) := dzr zhdX12_draw_0 6 rfl
theorem dX12_draw_13 : decode cX12_draw 13 = .ok (.putfield 349, 3) := dzr zhdX12_draw_0 7 rfl
theorem dX12_draw_16 : decode cX12_draw 16 = .ok (.aload_n 0, 1) := dzr zhdX12_draw_0 8 rfl
theorem dX12_draw_17 : decode cX12_draw 17 = .ok (.getfield 349, 3) := dzr zhdX12_draw_0 9 rfl
theorem dX12_draw_20 : decode cX12_draw 20 = .ok (.bipush 33, 2) := dzr zhdX12_draw_0 10 rfl
theorem dX12_draw_22 : decode cX12_draw 22 = .ok (.lushr, 1) := dzr zhdX12_draw_0 11 rfl
theorem dX12_draw_23 : decode cX12_draw 23 = .ok (.iload_n 1, 1) := dzr zhdX12_draw_0 12 rfl
theorem dX12_draw_24 : decode cX12_draw 24 = .ok (.i2l, 1) := dzr zhdX12_draw_0 13 rfl
theorem dX12_draw_25 : decode cX12_draw 25 = .ok (.lrem, 1) := dzr zhdX12_draw_0 14 rfl
theorem dX12_draw_26 : decode cX12_draw 26 = .ok (.l2i, 1) := dzr zhdX12_draw_0 15 rfl
theorem dX12_draw_27 : decode cX12_draw 27 = .ok (.ireturn, 1) := dzr zhdX12_draw_0 16 rfl
theorem ggX12_drawDay_X12_draw : GoodIn wsX12_drawDay wsX12_draw := (bg_up (bg_law (bi_wsL_law0_r40 _ (List.mem_of_getElem? (i := 23) rfl))))
theorem gX12_drawDay_X12_draw : GoodIn wsX12_drawDay (wsV RX12 357 RX12 yX12_draw wsX12_draw) := goodIn_app (bg_up (bg_cons (bi_wsL_law0_r40 _ (List.mem_of_getElem? (i := 20) rfl)) (bg_cons (bi_wsL_law0_r40 _ (List.mem_of_getElem? (i := 21) rfl)) (bg_cons (bi_wsL_law0_r40 _ (List.mem_of_getElem? (i := 22) rfl)) (bg_cons (bi_wsL_law0_r1 _ (List.mem_of_getElem? (i := 5) rfl)) bg_nil))))) (bg_up (bg_law (bi_wsL_law0_r40 _ (List.mem_of_getElem? (i := 23) rfl))))
theorem ggX12_drawDay_X12_areTwo : GoodIn wsX12_drawDay wsX12_areTwo := (bg_up (bg_law (bi_wsL_law0_r27 _ (List.mem_of_getElem? (i := 13) rfl))))
theorem gX12_drawDay_X12_areTwo : GoodIn wsX12_drawDay (wsV RX12 316 RX12 yX12_areTwo wsX12_areTwo) := goodIn_app (bg_up (bg_cons (bi_wsL_law0_r27 _ (List.mem_of_getElem? (i := 10) rfl)) (bg_cons (bi_wsL_law0_r27 _ (List.mem_of_getElem? (i := 11) rfl)) (bg_cons (bi_wsL_law0_r27 _ (List.mem_of_getElem? (i := 12) rfl)) (bg_cons (bi_wsL_law0_r1 _ (List.mem_of_getElem? (i := 5) rfl)) bg_nil))))) (bg_up (bg_law (bi_wsL_law0_r27 _ (List.mem_of_getElem? (i := 13) rfl))))
theorem ggX12_drawDay_X12_isFree : GoodIn wsX12_drawDay wsX12_isFree := (bg_up (bg_law (bi_wsL_law0_r25 _ (List.mem_of_getElem? (i := 15) rfl))))
theorem gX12_drawDay_X12_isFree : GoodIn wsX12_drawDay (wsV RX12 313 RX12 yX12_isFree wsX12_isFree) := goodIn_app (bg_up (bg_cons (bi_wsL_law0_r25 _ (List.mem_of_getElem? (i := 12) rfl)) (bg_cons (bi_wsL_law0_r25 _ (List.mem_of_getElem? (i := 13) rfl)) (bg_cons (bi_wsL_law0_r25 _ (List.mem_of_getElem? (i := 14) rfl)) (bg_cons (bi_wsL_law0_r1 _ (List.mem_of_getElem? (i := 5) rfl)) bg_nil))))) (bg_up (bg_law (bi_wsL_law0_r25 _ (List.mem_of_getElem? (i := 15) rfl))))
theorem ggX12_drawDay_X12_meetNow : GoodIn wsX12_drawDay wsX12_meetNow := (bg_up (bg_law (bi_wsL_law0_r32 _ (List.mem_of_getElem? (i := 2) rfl))))
theorem gX12_drawDay_X12_meetNow : GoodIn wsX12_drawDay (wsV RX12 340 RX12 yX12_meetNow wsX12_meetNow) := goodIn_app (bg_up (bg_cons (bi_wsL_law0_r31 _ (List.mem_of_getElem? (i := 23) rfl)) (bg_cons (bi_wsL_law0_r32 _ (List.mem_of_getElem? (i := 0) rfl)) (bg_cons (bi_wsL_law0_r32 _ (List.mem_of_getElem? (i := 1) rfl)) (bg_cons (bi_wsL_law0_r1 _ (List.mem_of_getElem? (i := 5) rfl)) bg_nil))))) (bg_up (bg_law (bi_wsL_law0_r32 _ (List.mem_of_getElem? (i := 2) rfl))))
def ztdX12_drawDay_0 : List (Nat × Instr × Nat) := [(0, .iconst 0, 1), (1, .istore_n 1, 1), (2, .iload_n 1, 1), (3, .iconst 2, 1), (4, .if_icmp .ge 58, 3), (7, .aload_n 0, 1), (8, .aload_n 0, 1), (9, .getfield 252, 3), (12, .invokevirtual 357, 3), (15, .istore_n 2, 1), (16, .aload_n 0, 1), (17, .aload_n 0, 1), (18, .getfield 252, 3), (21, .invokevirtual 357, 3), (24, .istore_n 3, 1), (25, .aload_n 0, 1), (26, .iload_n 2, 1), (27, .iload_n 3, 1), (28, .invokevirtual 316, 3), (31, .ifCond .eq 25, 3), (34, .aload_n 0, 1), (35, .iload_n 2, 1), (36, .invokevirtual 313, 3), (39, .ifCond .eq 17, 3)]
theorem zhdX12_drawDay_0 : dzC ztdX12_drawDay_0 0 (cX12_drawDay.data.toList.drop 0) = true := by decide +kernel
theorem dX12_drawDay_0 : decode cX12_drawDay 0 = .ok (.iconst 0, 1) := dzr zhdX12_drawDay_0 0 rfl
theorem dX12_drawDay_1 : decode cX12_drawDay 1 = .ok (.istore_n 1, 1) := dzr zhdX12_drawDay_0 1 rfl
theorem dX12_drawDay_2 : decode cX12_drawDay 2 = .ok (.iload_n 1, 1) := dzr zhdX12_drawDay_0 2 rfl
theorem dX12_drawDay_3 : decode cX12_drawDay 3 = .ok (.iconst 2, 1) := dzr zhdX12_drawDay_0 3 rfl
theorem dX12_drawDay_4 : decode cX12_drawDay 4 = .ok (.if_icmp .ge 58, 3) := dzr zhdX12_drawDay_0 4 rfl
theorem dX12_drawDay_7 : decode cX12_drawDay 7 = .ok (.aload_n 0, 1) := dzr zhdX12_drawDay_0 5 rfl
theorem dX12_drawDay_8 : decode cX12_drawDay 8 = .ok (.aload_n 0, 1) := dzr zhdX12_drawDay_0 6 rfl
theorem dX12_drawDay_9 : decode cX12_drawDay 9 = .ok (.getfield 252, 3) := dzr zhdX12_drawDay_0 7 rfl
theorem dX12_drawDay_12 : decode cX12_drawDay 12 = .ok (.invokevirtual 357, 3) := dzr zhdX12_drawDay_0 8 rfl
theorem dX12_drawDay_15 : decode cX12_drawDay 15 = .ok (.istore_n 2, 1) := dzr zhdX12_drawDay_0 9 rfl
theorem dX12_drawDay_16 : decode cX12_drawDay 16 = .ok (.aload_n 0, 1) := dzr zhdX12_drawDay_0 10 rfl
theorem dX12_drawDay_17 : decode cX12_drawDay 17 = .ok (.aload_n 0, 1) := dzr zhdX12_drawDay_0 11 rfl
theorem dX12_drawDay_18 : decode cX12_drawDay 18 = .ok (.getfield 252, 3) := dzr zhdX12_drawDay_0 12 rfl
theorem dX12_drawDay_21 : decode cX12_drawDay 21 = .ok (.invokevirtual 357, 3) := dzr zhdX12_drawDay_0 13 rfl
theorem dX12_drawDay_24 : decode cX12_drawDay 24 = .ok (.istore_n 3, 1) := dzr zhdX12_drawDay_0 14 rfl
theorem dX12_drawDay_25 : decode cX12_drawDay 25 = .ok (.aload_n 0, 1) := dzr zhdX12_drawDay_0 15 rfl
theorem dX12_drawDay_26 : decode cX12_drawDay 26 = .ok (.iload_n 2, 1) := dzr zhdX12_drawDay_0 16 rfl
theorem dX12_drawDay_27 : decode cX12_drawDay 27 = .ok (.iload_n 3, 1) := dzr zhdX12_drawDay_0 17 rfl
theorem dX12_drawDay_28 : decode cX12_drawDay 28 = .ok (.invokevirtual 316, 3) := dzr zhdX12_drawDay_0 18 rfl
theorem dX12_drawDay_31 : decode cX12_drawDay 31 = .ok (.ifCond .eq 25, 3) := dzr zhdX12_drawDay_0 19 rfl
theorem dX12_drawDay_34 : decode cX12_drawDay 34 = .ok (.aload_n 0, 1) := dzr zhdX12_drawDay_0 20 rfl
theorem dX12_drawDay_35 : decode cX12_drawDay 35 = .ok (.iload_n 2, 1) := dzr zhdX12_drawDay_0 21 rfl
theorem dX12_drawDay_36 : decode cX12_drawDay 36 = .ok (.invokevirtual 313, 3) := dzr zhdX12_drawDay_0 22 rfl
theorem dX12_drawDay_39 : decode cX12_drawDay 39 = .ok (.ifCond .eq 17, 3) := dzr zhdX12_drawDay_0 23 rfl
def ztdX12_drawDay_42 : List (Nat × Instr × Nat) := [(42, .aload_n 0, 1), (43, .iload_n 3, 1), (44, .invokevirtual 313, 3), (47, .ifCond .eq 9, 3), (50, .aload_n 0, 1), (51, .iload_n 2, 1), (52, .iload_n 3, 1), (53, .invokevirtual 340, 3), (56, .iinc 1 1, 3), (59, .goto (-57), 3), (62, .aload_n 0, 1), (63, .bipush 10, 2), (65, .invokevirtual 357, 3), (68, .aload_n 0, 1), (69, .getfield 68, 3), (72, .if_icmp .ge 24, 3), (75, .aload_n 0, 1), (76, .getfield 58, 3), (79, .bipush 66, 2), (81, .bipush 9, 2), (83, .aload_n 0, 1), (84, .getfield 58, 3), (87, .bipush 66, 2), (89, .iaload, 1)]
theorem zhdX12_drawDay_42 : dzC ztdX12_drawDay_42 42 (cX12_drawDay.data.toList.drop 42) = true := by decide +kernel
theorem dX12_drawDay_42 : decode cX12_drawDay 42 = .ok (.aload_n 0, 1) := dzr zhdX12_drawDay_42 0 rfl
theorem dX12_drawDay_43 : decode cX12_drawDay 43 = .ok (.iload_n 3, 1) := dzr zhdX12_drawDay_42 1 rfl
theorem dX12_drawDay_44 : decode cX12_drawDay 44 = .ok (.invokevirtual 313, 3) := dzr zhdX12_drawDay_42 2 rfl
theorem dX12_drawDay_47 : decode cX12_drawDay 47 = .ok (.ifCond .eq 9, 3) := dzr zhdX12_drawDay_42 3 rfl
theorem dX12_drawDay_50 : decode cX12_drawDay 50 = .ok (.aload_n 0, 1) := dzr zhdX12_drawDay_42 4 rfl
theorem dX12_drawDay_51 : decode cX12_drawDay 51 = .ok (.iload_n 2, 1) := dzr zhdX12_drawDay_42 5 rfl
theorem dX12_drawDay_52 : decode cX12_drawDay 52 = .ok (.iload_n 3, 1) := dzr zhdX12_drawDay_42 6 rfl
theorem dX12_drawDay_53 : decode cX12_drawDay 53 = .ok (.invokevirtual 340, 3) := dzr zhdX12_drawDay_42 7 rfl
theorem dX12_drawDay_56 : decode cX12_drawDay 56 = .ok (.iinc 1 1, 3) := dzr zhdX12_drawDay_42 8 rfl
theorem dX12_drawDay_59 : decode cX12_drawDay 59 = .ok (.goto (-57), 3) := dzr zhdX12_drawDay_42 9 rfl
theorem dX12_drawDay_62 : decode cX12_drawDay 62 = .ok (.aload_n 0, 1) := dzr zhdX12_drawDay_42 10 rfl
theorem dX12_drawDay_63 : decode cX12_drawDay 63 = .ok (.bipush 10, 2) := dzr zhdX12_drawDay_42 11 rfl
theorem dX12_drawDay_65 : decode cX12_drawDay 65 = .ok (.invokevirtual 357, 3) := dzr zhdX12_drawDay_42 12 rfl
theorem dX12_drawDay_68 : decode cX12_drawDay 68 = .ok (.aload_n 0, 1) := dzr zhdX12_drawDay_42 13 rfl
theorem dX12_drawDay_69 : decode cX12_drawDay 69 = .ok (.getfield 68, 3) := dzr zhdX12_drawDay_42 14 rfl
theorem dX12_drawDay_72 : decode cX12_drawDay 72 = .ok (.if_icmp .ge 24, 3) := dzr zhdX12_drawDay_42 15 rfl
theorem dX12_drawDay_75 : decode cX12_drawDay 75 = .ok (.aload_n 0, 1) := dzr zhdX12_drawDay_42 16 rfl
theorem dX12_drawDay_76 : decode cX12_drawDay 76 = .ok (.getfield 58, 3) := dzr zhdX12_drawDay_42 17 rfl
theorem dX12_drawDay_79 : decode cX12_drawDay 79 = .ok (.bipush 66, 2) := dzr zhdX12_drawDay_42 18 rfl
theorem dX12_drawDay_81 : decode cX12_drawDay 81 = .ok (.bipush 9, 2) := dzr zhdX12_drawDay_42 19 rfl
theorem dX12_drawDay_83 : decode cX12_drawDay 83 = .ok (.aload_n 0, 1) := dzr zhdX12_drawDay_42 20 rfl
theorem dX12_drawDay_84 : decode cX12_drawDay 84 = .ok (.getfield 58, 3) := dzr zhdX12_drawDay_42 21 rfl
theorem dX12_drawDay_87 : decode cX12_drawDay 87 = .ok (.bipush 66, 2) := dzr zhdX12_drawDay_42 22 rfl
theorem dX12_drawDay_89 : decode cX12_drawDay 89 = .ok (.iaload, 1) := dzr zhdX12_drawDay_42 23 rfl
def ztdX12_drawDay_90 : List (Nat × Instr × Nat) := [(90, .iconst 1, 1), (91, .iadd, 1), (92, .invokestatic 280, 3), (95, .iastore, 1), (96, .return_, 1)]
theorem zhdX12_drawDay_90 : dzC ztdX12_drawDay_90 90 (cX12_drawDay.data.toList.drop 90) = true := by decide +kernel
theorem dX12_drawDay_90 : decode cX12_drawDay 90 = .ok (.iconst 1, 1) := dzr zhdX12_drawDay_90 0 rfl
theorem dX12_drawDay_91 : decode cX12_drawDay 91 = .ok (.iadd, 1) := dzr zhdX12_drawDay_90 1 rfl
theorem dX12_drawDay_92 : decode cX12_drawDay 92 = .ok (.invokestatic 280, 3) := dzr zhdX12_drawDay_90 2 rfl
theorem dX12_drawDay_95 : decode cX12_drawDay 95 = .ok (.iastore, 1) := dzr zhdX12_drawDay_90 3 rfl
theorem dX12_drawDay_96 : decode cX12_drawDay 96 = .ok (.return_, 1) := dzr zhdX12_drawDay_90 4 rfl
theorem ggX12_years_X12_areDays : GoodIn wsX12_years wsX12_areDays := (bg_up (bg_law (bi_wsL_law0_r38 _ (List.mem_of_getElem? (i := 16) rfl))))
theorem gX12_years_X12_areDays : GoodIn wsX12_years (wsV RX12 343 RX12 yX12_areDays wsX12_areDays) := goodIn_app (bg_up (bg_cons (bi_wsL_law0_r38 _ (List.mem_of_getElem? (i := 13) rfl)) (bg_cons (bi_wsL_law0_r38 _ (List.mem_of_getElem? (i := 14) rfl)) (bg_cons (bi_wsL_law0_r38 _ (List.mem_of_getElem? (i := 15) rfl)) (bg_cons (bi_wsL_law0_r1 _ (List.mem_of_getElem? (i := 5) rfl)) bg_nil))))) (bg_up (bg_law (bi_wsL_law0_r38 _ (List.mem_of_getElem? (i := 16) rfl))))
theorem ggX12_years_X12_keep : GoodIn wsX12_years wsX12_keep := (bg_up (bg_law (bi_wsL_law0_r31 _ (List.mem_of_getElem? (i := 22) rfl))))
theorem gX12_years_X12_keep : GoodIn wsX12_years (wsV RX12 337 RX12 yX12_keep wsX12_keep) := goodIn_app (bg_up (bg_cons (bi_wsL_law0_r31 _ (List.mem_of_getElem? (i := 19) rfl)) (bg_cons (bi_wsL_law0_r31 _ (List.mem_of_getElem? (i := 20) rfl)) (bg_cons (bi_wsL_law0_r31 _ (List.mem_of_getElem? (i := 21) rfl)) (bg_cons (bi_wsL_law0_r1 _ (List.mem_of_getElem? (i := 5) rfl)) bg_nil))))) (bg_up (bg_law (bi_wsL_law0_r31 _ (List.mem_of_getElem? (i := 22) rfl))))
theorem ggX12_years_X12_drawDay : GoodIn wsX12_years wsX12_drawDay := (bg_up (bg_law (bi_wsL_law0_r40 _ (List.mem_of_getElem? (i := 19) rfl))))
theorem gX12_years_X12_drawDay : GoodIn wsX12_years (wsV RX12 360 RX12 yX12_drawDay wsX12_drawDay) := goodIn_app (bg_up (bg_cons (bi_wsL_law0_r40 _ (List.mem_of_getElem? (i := 16) rfl)) (bg_cons (bi_wsL_law0_r40 _ (List.mem_of_getElem? (i := 17) rfl)) (bg_cons (bi_wsL_law0_r40 _ (List.mem_of_getElem? (i := 18) rfl)) (bg_cons (bi_wsL_law0_r1 _ (List.mem_of_getElem? (i := 5) rfl)) bg_nil))))) (bg_up (bg_law (bi_wsL_law0_r40 _ (List.mem_of_getElem? (i := 19) rfl))))
theorem ggX12_years_X12_passDay : GoodIn wsX12_years wsX12_passDay := (bg_up (bg_law (bi_wsL_law0_r38 _ (List.mem_of_getElem? (i := 20) rfl))))
theorem gX12_years_X12_passDay : GoodIn wsX12_years (wsV RX12 346 RX12 yX12_passDay wsX12_passDay) := goodIn_app (bg_up (bg_cons (bi_wsL_law0_r38 _ (List.mem_of_getElem? (i := 17) rfl)) (bg_cons (bi_wsL_law0_r38 _ (List.mem_of_getElem? (i := 18) rfl)) (bg_cons (bi_wsL_law0_r38 _ (List.mem_of_getElem? (i := 19) rfl)) (bg_cons (bi_wsL_law0_r1 _ (List.mem_of_getElem? (i := 5) rfl)) bg_nil))))) (bg_up (bg_law (bi_wsL_law0_r38 _ (List.mem_of_getElem? (i := 20) rfl))))
def ztdX12_years_0 : List (Nat × Instr × Nat) := [(0, .aload_n 0, 1), (1, .getfield 252, 3), (4, .ifCond .eq 11, 3), (7, .aload_n 0, 1), (8, .iload_n 1, 1), (9, .invokevirtual 343, 3), (12, .ifCond .ne 5, 3), (15, .iconst (-1), 1), (16, .ireturn, 1), (17, .aload_n 0, 1), (18, .lload_n 2, 1), (19, .putfield 349, 3), (22, .iconst 0, 1), (23, .istore 4, 2), (25, .iload 4, 2), (27, .iload_n 1, 1), (28, .if_icmp .ge 21, 3), (31, .aload_n 0, 1), (32, .invokevirtual 337, 3), (35, .aload_n 0, 1), (36, .invokevirtual 360, 3), (39, .aload_n 0, 1), (40, .invokevirtual 346, 3), (43, .iinc 4 1, 3)]
theorem zhdX12_years_0 : dzC ztdX12_years_0 0 (cX12_years.data.toList.drop 0) = true := by decide +kernel
theorem dX12_years_0 : decode cX12_years 0 = .ok (.aload_n 0, 1) := dzr zhdX12_years_0 0 rfl
theorem dX12_years_1 : decode cX12_years 1 = .ok (.getfield 252, 3) := dzr zhdX12_years_0 1 rfl
theorem dX12_years_4 : decode cX12_years 4 = .ok (.ifCond .eq 11, 3) := dzr zhdX12_years_0 2 rfl
theorem dX12_years_7 : decode cX12_years 7 = .ok (.aload_n 0, 1) := dzr zhdX12_years_0 3 rfl
theorem dX12_years_8 : decode cX12_years 8 = .ok (.iload_n 1, 1) := dzr zhdX12_years_0 4 rfl
theorem dX12_years_9 : decode cX12_years 9 = .ok (.invokevirtual 343, 3) := dzr zhdX12_years_0 5 rfl
theorem dX12_years_12 : decode cX12_years 12 = .ok (.ifCond .ne 5, 3) := dzr zhdX12_years_0 6 rfl
theorem dX12_years_15 : decode cX12_years 15 = .ok (.iconst (-1), 1) := dzr zhdX12_years_0 7 rfl
theorem dX12_years_16 : decode cX12_years 16 = .ok (.ireturn, 1) := dzr zhdX12_years_0 8 rfl
theorem dX12_years_17 : decode cX12_years 17 = .ok (.aload_n 0, 1) := dzr zhdX12_years_0 9 rfl
theorem dX12_years_18 : decode cX12_years 18 = .ok (.lload_n 2, 1) := dzr zhdX12_years_0 10 rfl
theorem dX12_years_19 : decode cX12_years 19 = .ok (.putfield 349, 3) := dzr zhdX12_years_0 11 rfl
theorem dX12_years_22 : decode cX12_years 22 = .ok (.iconst 0, 1) := dzr zhdX12_years_0 12 rfl
theorem dX12_years_23 : decode cX12_years 23 = .ok (.istore 4, 2) := dzr zhdX12_years_0 13 rfl
theorem dX12_years_25 : decode cX12_years 25 = .ok (.iload 4, 2) := dzr zhdX12_years_0 14 rfl
theorem dX12_years_27 : decode cX12_years 27 = .ok (.iload_n 1, 1) := dzr zhdX12_years_0 15 rfl
theorem dX12_years_28 : decode cX12_years 28 = .ok (.if_icmp .ge 21, 3) := dzr zhdX12_years_0 16 rfl
theorem dX12_years_31 : decode cX12_years 31 = .ok (.aload_n 0, 1) := dzr zhdX12_years_0 17 rfl
theorem dX12_years_32 : decode cX12_years 32 = .ok (.invokevirtual 337, 3) := dzr zhdX12_years_0 18 rfl
theorem dX12_years_35 : decode cX12_years 35 = .ok (.aload_n 0, 1) := dzr zhdX12_years_0 19 rfl
theorem dX12_years_36 : decode cX12_years 36 = .ok (.invokevirtual 360, 3) := dzr zhdX12_years_0 20 rfl
theorem dX12_years_39 : decode cX12_years 39 = .ok (.aload_n 0, 1) := dzr zhdX12_years_0 21 rfl
theorem dX12_years_40 : decode cX12_years 40 = .ok (.invokevirtual 346, 3) := dzr zhdX12_years_0 22 rfl
theorem dX12_years_43 : decode cX12_years 43 = .ok (.iinc 4 1, 3) := dzr zhdX12_years_0 23 rfl
def ztdX12_years_46 : List (Nat × Instr × Nat) := [(46, .goto (-21), 3), (49, .aload_n 0, 1), (50, .getfield 58, 3), (53, .bipush 68, 2), (55, .iaload, 1), (56, .ireturn, 1)]
theorem zhdX12_years_46 : dzC ztdX12_years_46 46 (cX12_years.data.toList.drop 46) = true := by decide +kernel
theorem dX12_years_46 : decode cX12_years 46 = .ok (.goto (-21), 3) := dzr zhdX12_years_46 0 rfl
theorem dX12_years_49 : decode cX12_years 49 = .ok (.aload_n 0, 1) := dzr zhdX12_years_46 1 rfl
theorem dX12_years_50 : decode cX12_years 50 = .ok (.getfield 58, 3) := dzr zhdX12_years_46 2 rfl
theorem dX12_years_53 : decode cX12_years 53 = .ok (.bipush 68, 2) := dzr zhdX12_years_46 3 rfl
theorem dX12_years_55 : decode cX12_years 55 = .ok (.iaload, 1) := dzr zhdX12_years_46 4 rfl
theorem dX12_years_56 : decode cX12_years 56 = .ok (.ireturn, 1) := dzr zhdX12_years_46 5 rfl
theorem ggX12_status_X12_in : GoodIn wsX12_status wsX12_in := (bg_up (bg_law (bi_wsL_law0_r16 _ (List.mem_of_getElem? (i := 21) rfl))))
theorem gX12_status_X12_in : GoodIn wsX12_status (va_wsS RX12 211 yX12_in wsX12_in) := goodIn_app (bg_up (bg_cons (bi_wsL_law0_r16 _ (List.mem_of_getElem? (i := 19) rfl)) (bg_cons (bi_wsL_law0_r16 _ (List.mem_of_getElem? (i := 20) rfl)) (bg_cons (bi_wsL_law0_r1 _ (List.mem_of_getElem? (i := 5) rfl)) bg_nil)))) (bg_up (bg_law (bi_wsL_law0_r16 _ (List.mem_of_getElem? (i := 21) rfl))))
def ztdX12_status_0 : List (Nat × Instr × Nat) := [(0, .iload_n 1, 1), (1, .iconst 0, 1), (2, .iconst 4, 1), (3, .invokestatic 211, 3), (6, .ifCond .eq 12, 3), (9, .aload_n 0, 1), (10, .getfield 61, 3), (13, .iload_n 1, 1), (14, .iaload, 1), (15, .goto 4, 3), (18, .iconst (-1), 1), (19, .ireturn, 1)]
theorem zhdX12_status_0 : dzC ztdX12_status_0 0 (cX12_status.data.toList.drop 0) = true := by decide +kernel
theorem dX12_status_0 : decode cX12_status 0 = .ok (.iload_n 1, 1) := dzr zhdX12_status_0 0 rfl
theorem dX12_status_1 : decode cX12_status 1 = .ok (.iconst 0, 1) := dzr zhdX12_status_0 1 rfl
theorem dX12_status_2 : decode cX12_status 2 = .ok (.iconst 4, 1) := dzr zhdX12_status_0 2 rfl
theorem dX12_status_3 : decode cX12_status 3 = .ok (.invokestatic 211, 3) := dzr zhdX12_status_0 3 rfl
theorem dX12_status_6 : decode cX12_status 6 = .ok (.ifCond .eq 12, 3) := dzr zhdX12_status_0 4 rfl
theorem dX12_status_9 : decode cX12_status 9 = .ok (.aload_n 0, 1) := dzr zhdX12_status_0 5 rfl
theorem dX12_status_10 : decode cX12_status 10 = .ok (.getfield 61, 3) := dzr zhdX12_status_0 6 rfl
theorem dX12_status_13 : decode cX12_status 13 = .ok (.iload_n 1, 1) := dzr zhdX12_status_0 7 rfl
theorem dX12_status_14 : decode cX12_status 14 = .ok (.iaload, 1) := dzr zhdX12_status_0 8 rfl
theorem dX12_status_15 : decode cX12_status 15 = .ok (.goto 4, 3) := dzr zhdX12_status_0 9 rfl
theorem dX12_status_18 : decode cX12_status 18 = .ok (.iconst (-1), 1) := dzr zhdX12_status_0 10 rfl
theorem dX12_status_19 : decode cX12_status 19 = .ok (.ireturn, 1) := dzr zhdX12_status_0 11 rfl
def ztdX12_undo_0 : List (Nat × Instr × Nat) := [(0, .aload_n 0, 1), (1, .getfield 264, 3), (4, .ifCond .ne 5, 3), (7, .iconst (-1), 1), (8, .ireturn, 1), (9, .aload_n 0, 1), (10, .dup, 1), (11, .getfield 264, 3), (14, .iconst 1, 1), (15, .isub, 1), (16, .putfield 264, 3), (19, .iconst 0, 1), (20, .istore_n 1, 1), (21, .iload_n 1, 1), (22, .sipush 250, 3), (25, .if_icmp .ge 30, 3), (28, .aload_n 0, 1), (29, .getfield 58, 3), (32, .iload_n 1, 1), (33, .aload_n 0, 1), (34, .getfield 71, 3), (37, .sipush 250, 3), (40, .aload_n 0, 1), (41, .getfield 264, 3)]
theorem zhdX12_undo_0 : dzC ztdX12_undo_0 0 (cX12_undo.data.toList.drop 0) = true := by decide +kernel
theorem dX12_undo_0 : decode cX12_undo 0 = .ok (.aload_n 0, 1) := dzr zhdX12_undo_0 0 rfl
theorem dX12_undo_1 : decode cX12_undo 1 = .ok (.getfield 264, 3) := dzr zhdX12_undo_0 1 rfl
theorem dX12_undo_4 : decode cX12_undo 4 = .ok (.ifCond .ne 5, 3) := dzr zhdX12_undo_0 2 rfl
theorem dX12_undo_7 : decode cX12_undo 7 = .ok (.iconst (-1), 1) := dzr zhdX12_undo_0 3 rfl
theorem dX12_undo_8 : decode cX12_undo 8 = .ok (.ireturn, 1) := dzr zhdX12_undo_0 4 rfl
theorem dX12_undo_9 : decode cX12_undo 9 = .ok (.aload_n 0, 1) := dzr zhdX12_undo_0 5 rfl
theorem dX12_undo_10 : decode cX12_undo 10 = .ok (.dup, 1) := dzr zhdX12_undo_0 6 rfl
theorem dX12_undo_11 : decode cX12_undo 11 = .ok (.getfield 264, 3) := dzr zhdX12_undo_0 7 rfl
theorem dX12_undo_14 : decode cX12_undo 14 = .ok (.iconst 1, 1) := dzr zhdX12_undo_0 8 rfl
theorem dX12_undo_15 : decode cX12_undo 15 = .ok (.isub, 1) := dzr zhdX12_undo_0 9 rfl
theorem dX12_undo_16 : decode cX12_undo 16 = .ok (.putfield 264, 3) := dzr zhdX12_undo_0 10 rfl
theorem dX12_undo_19 : decode cX12_undo 19 = .ok (.iconst 0, 1) := dzr zhdX12_undo_0 11 rfl
theorem dX12_undo_20 : decode cX12_undo 20 = .ok (.istore_n 1, 1) := dzr zhdX12_undo_0 12 rfl
theorem dX12_undo_21 : decode cX12_undo 21 = .ok (.iload_n 1, 1) := dzr zhdX12_undo_0 13 rfl
theorem dX12_undo_22 : decode cX12_undo 22 = .ok (.sipush 250, 3) := dzr zhdX12_undo_0 14 rfl
theorem dX12_undo_25 : decode cX12_undo 25 = .ok (.if_icmp .ge 30, 3) := dzr zhdX12_undo_0 15 rfl
theorem dX12_undo_28 : decode cX12_undo 28 = .ok (.aload_n 0, 1) := dzr zhdX12_undo_0 16 rfl
theorem dX12_undo_29 : decode cX12_undo 29 = .ok (.getfield 58, 3) := dzr zhdX12_undo_0 17 rfl
theorem dX12_undo_32 : decode cX12_undo 32 = .ok (.iload_n 1, 1) := dzr zhdX12_undo_0 18 rfl
theorem dX12_undo_33 : decode cX12_undo 33 = .ok (.aload_n 0, 1) := dzr zhdX12_undo_0 19 rfl
theorem dX12_undo_34 : decode cX12_undo 34 = .ok (.getfield 71, 3) := dzr zhdX12_undo_0 20 rfl
theorem dX12_undo_37 : decode cX12_undo 37 = .ok (.sipush 250, 3) := dzr zhdX12_undo_0 21 rfl
theorem dX12_undo_40 : decode cX12_undo 40 = .ok (.aload_n 0, 1) := dzr zhdX12_undo_0 22 rfl
theorem dX12_undo_41 : decode cX12_undo 41 = .ok (.getfield 264, 3) := dzr zhdX12_undo_0 23 rfl
def ztdX12_undo_44 : List (Nat × Instr × Nat) := [(44, .imul, 1), (45, .iload_n 1, 1), (46, .iadd, 1), (47, .iaload, 1), (48, .iastore, 1), (49, .iinc 1 1, 3), (52, .goto (-31), 3), (55, .aload_n 0, 1), (56, .getfield 264, 3), (59, .ireturn, 1)]
theorem zhdX12_undo_44 : dzC ztdX12_undo_44 44 (cX12_undo.data.toList.drop 44) = true := by decide +kernel
theorem dX12_undo_44 : decode cX12_undo 44 = .ok (.imul, 1) := dzr zhdX12_undo_44 0 rfl
theorem dX12_undo_45 : decode cX12_undo 45 = .ok (.iload_n 1, 1) := dzr zhdX12_undo_44 1 rfl
theorem dX12_undo_46 : decode cX12_undo 46 = .ok (.iadd, 1) := dzr zhdX12_undo_44 2 rfl
theorem dX12_undo_47 : decode cX12_undo 47 = .ok (.iaload, 1) := dzr zhdX12_undo_44 3 rfl
theorem dX12_undo_48 : decode cX12_undo 48 = .ok (.iastore, 1) := dzr zhdX12_undo_44 4 rfl
theorem dX12_undo_49 : decode cX12_undo 49 = .ok (.iinc 1 1, 3) := dzr zhdX12_undo_44 5 rfl
theorem dX12_undo_52 : decode cX12_undo 52 = .ok (.goto (-31), 3) := dzr zhdX12_undo_44 6 rfl
theorem dX12_undo_55 : decode cX12_undo 55 = .ok (.aload_n 0, 1) := dzr zhdX12_undo_44 7 rfl
theorem dX12_undo_56 : decode cX12_undo 56 = .ok (.getfield 264, 3) := dzr zhdX12_undo_44 8 rfl
theorem dX12_undo_59 : decode cX12_undo 59 = .ok (.ireturn, 1) := dzr zhdX12_undo_44 9 rfl
theorem ggX12_log_X12_in : GoodIn wsX12_log wsX12_in := (bg_up (bg_law (bi_wsL_law0_r16 _ (List.mem_of_getElem? (i := 21) rfl))))
theorem gX12_log_X12_in : GoodIn wsX12_log (va_wsS RX12 211 yX12_in wsX12_in) := goodIn_app (bg_up (bg_cons (bi_wsL_law0_r16 _ (List.mem_of_getElem? (i := 19) rfl)) (bg_cons (bi_wsL_law0_r16 _ (List.mem_of_getElem? (i := 20) rfl)) (bg_cons (bi_wsL_law0_r1 _ (List.mem_of_getElem? (i := 5) rfl)) bg_nil)))) (bg_up (bg_law (bi_wsL_law0_r16 _ (List.mem_of_getElem? (i := 21) rfl))))
def ztdX12_log_0 : List (Nat × Instr × Nat) := [(0, .iload_n 1, 1), (1, .iconst 0, 1), (2, .aload_n 0, 1), (3, .getfield 58, 3), (6, .bipush 69, 2), (8, .iaload, 1), (9, .iconst 1, 1), (10, .isub, 1), (11, .invokestatic 211, 3), (14, .ifCond .eq 38, 3), (17, .iload_n 2, 1), (18, .iconst 0, 1), (19, .iconst 2, 1), (20, .invokestatic 211, 3), (23, .ifCond .eq 29, 3), (26, .aload_n 0, 1), (27, .getfield 58, 3), (30, .bipush 70, 2), (32, .iconst 3, 1), (33, .aload_n 0, 1), (34, .getfield 58, 3), (37, .bipush 69, 2), (39, .iaload, 1), (40, .iconst 1, 1)]
theorem zhdX12_log_0 : dzC ztdX12_log_0 0 (cX12_log.data.toList.drop 0) = true := by decide +kernel
theorem dX12_log_0 : decode cX12_log 0 = .ok (.iload_n 1, 1) := dzr zhdX12_log_0 0 rfl
theorem dX12_log_1 : decode cX12_log 1 = .ok (.iconst 0, 1) := dzr zhdX12_log_0 1 rfl
theorem dX12_log_2 : decode cX12_log 2 = .ok (.aload_n 0, 1) := dzr zhdX12_log_0 2 rfl
theorem dX12_log_3 : decode cX12_log 3 = .ok (.getfield 58, 3) := dzr zhdX12_log_0 3 rfl
theorem dX12_log_6 : decode cX12_log 6 = .ok (.bipush 69, 2) := dzr zhdX12_log_0 4 rfl
theorem dX12_log_8 : decode cX12_log 8 = .ok (.iaload, 1) := dzr zhdX12_log_0 5 rfl
theorem dX12_log_9 : decode cX12_log 9 = .ok (.iconst 1, 1) := dzr zhdX12_log_0 6 rfl
theorem dX12_log_10 : decode cX12_log 10 = .ok (.isub, 1) := dzr zhdX12_log_0 7 rfl
theorem dX12_log_11 : decode cX12_log 11 = .ok (.invokestatic 211, 3) := dzr zhdX12_log_0 8 rfl
theorem dX12_log_14 : decode cX12_log 14 = .ok (.ifCond .eq 38, 3) := dzr zhdX12_log_0 9 rfl
theorem dX12_log_17 : decode cX12_log 17 = .ok (.iload_n 2, 1) := dzr zhdX12_log_0 10 rfl
theorem dX12_log_18 : decode cX12_log 18 = .ok (.iconst 0, 1) := dzr zhdX12_log_0 11 rfl
theorem dX12_log_19 : decode cX12_log 19 = .ok (.iconst 2, 1) := dzr zhdX12_log_0 12 rfl
theorem dX12_log_20 : decode cX12_log 20 = .ok (.invokestatic 211, 3) := dzr zhdX12_log_0 13 rfl
theorem dX12_log_23 : decode cX12_log 23 = .ok (.ifCond .eq 29, 3) := dzr zhdX12_log_0 14 rfl
theorem dX12_log_26 : decode cX12_log 26 = .ok (.aload_n 0, 1) := dzr zhdX12_log_0 15 rfl
theorem dX12_log_27 : decode cX12_log 27 = .ok (.getfield 58, 3) := dzr zhdX12_log_0 16 rfl
theorem dX12_log_30 : decode cX12_log 30 = .ok (.bipush 70, 2) := dzr zhdX12_log_0 17 rfl
theorem dX12_log_32 : decode cX12_log 32 = .ok (.iconst 3, 1) := dzr zhdX12_log_0 18 rfl
theorem dX12_log_33 : decode cX12_log 33 = .ok (.aload_n 0, 1) := dzr zhdX12_log_0 19 rfl
theorem dX12_log_34 : decode cX12_log 34 = .ok (.getfield 58, 3) := dzr zhdX12_log_0 20 rfl
theorem dX12_log_37 : decode cX12_log 37 = .ok (.bipush 69, 2) := dzr zhdX12_log_0 21 rfl
theorem dX12_log_39 : decode cX12_log 39 = .ok (.iaload, 1) := dzr zhdX12_log_0 22 rfl
theorem dX12_log_40 : decode cX12_log 40 = .ok (.iconst 1, 1) := dzr zhdX12_log_0 23 rfl
def ztdX12_log_41 : List (Nat × Instr × Nat) := [(41, .isub, 1), (42, .iload_n 1, 1), (43, .isub, 1), (44, .imul, 1), (45, .iadd, 1), (46, .iload_n 2, 1), (47, .iadd, 1), (48, .iaload, 1), (49, .goto 4, 3), (52, .iconst (-1), 1), (53, .ireturn, 1)]
theorem zhdX12_log_41 : dzC ztdX12_log_41 41 (cX12_log.data.toList.drop 41) = true := by decide +kernel
theorem dX12_log_41 : decode cX12_log 41 = .ok (.isub, 1) := dzr zhdX12_log_41 0 rfl
theorem dX12_log_42 : decode cX12_log 42 = .ok (.iload_n 1, 1) := dzr zhdX12_log_41 1 rfl
theorem dX12_log_43 : decode cX12_log 43 = .ok (.isub, 1) := dzr zhdX12_log_41 2 rfl
theorem dX12_log_44 : decode cX12_log 44 = .ok (.imul, 1) := dzr zhdX12_log_41 3 rfl
theorem dX12_log_45 : decode cX12_log 45 = .ok (.iadd, 1) := dzr zhdX12_log_41 4 rfl
theorem dX12_log_46 : decode cX12_log 46 = .ok (.iload_n 2, 1) := dzr zhdX12_log_41 5 rfl
theorem dX12_log_47 : decode cX12_log 47 = .ok (.iadd, 1) := dzr zhdX12_log_41 6 rfl
theorem dX12_log_48 : decode cX12_log 48 = .ok (.iaload, 1) := dzr zhdX12_log_41 7 rfl
theorem dX12_log_49 : decode cX12_log 49 = .ok (.goto 4, 3) := dzr zhdX12_log_41 8 rfl
theorem dX12_log_52 : decode cX12_log 52 = .ok (.iconst (-1), 1) := dzr zhdX12_log_41 9 rfl
theorem dX12_log_53 : decode cX12_log 53 = .ok (.ireturn, 1) := dzr zhdX12_log_41 10 rfl
theorem ggX12_rises_X12_areTwo : GoodIn wsX12_rises wsX12_areTwo := (bg_up (bg_law (bi_wsL_law0_r27 _ (List.mem_of_getElem? (i := 13) rfl))))
theorem gX12_rises_X12_areTwo : GoodIn wsX12_rises (wsV RX12 316 RX12 yX12_areTwo wsX12_areTwo) := goodIn_app (bg_up (bg_cons (bi_wsL_law0_r27 _ (List.mem_of_getElem? (i := 10) rfl)) (bg_cons (bi_wsL_law0_r27 _ (List.mem_of_getElem? (i := 11) rfl)) (bg_cons (bi_wsL_law0_r27 _ (List.mem_of_getElem? (i := 12) rfl)) (bg_cons (bi_wsL_law0_r1 _ (List.mem_of_getElem? (i := 5) rfl)) bg_nil))))) (bg_up (bg_law (bi_wsL_law0_r27 _ (List.mem_of_getElem? (i := 13) rfl))))
theorem ggX12_rises_X12_riseOf : GoodIn wsX12_rises wsX12_riseOf := (bg_up (bg_law (bi_wsL_law0_r32 _ (List.mem_of_getElem? (i := 6) rfl))))
theorem gX12_rises_X12_riseOf : GoodIn wsX12_rises (wsV RX12 304 RX12 yX12_riseOf wsX12_riseOf) := goodIn_app (bg_up (bg_cons (bi_wsL_law0_r32 _ (List.mem_of_getElem? (i := 3) rfl)) (bg_cons (bi_wsL_law0_r32 _ (List.mem_of_getElem? (i := 4) rfl)) (bg_cons (bi_wsL_law0_r32 _ (List.mem_of_getElem? (i := 5) rfl)) (bg_cons (bi_wsL_law0_r1 _ (List.mem_of_getElem? (i := 5) rfl)) bg_nil))))) (bg_up (bg_law (bi_wsL_law0_r32 _ (List.mem_of_getElem? (i := 6) rfl))))
def ztdX12_rises_0 : List (Nat × Instr × Nat) := [(0, .aload_n 0, 1), (1, .iload_n 1, 1), (2, .iload_n 2, 1), (3, .invokevirtual 316, 3), (6, .ifCond .eq 12, 3), (9, .aload_n 0, 1), (10, .iload_n 1, 1), (11, .iload_n 2, 1), (12, .invokevirtual 304, 3), (15, .goto 6, 3), (18, .ldc_w 363, 3), (21, .ireturn, 1)]
theorem zhdX12_rises_0 : dzC ztdX12_rises_0 0 (cX12_rises.data.toList.drop 0) = true := by decide +kernel
theorem dX12_rises_0 : decode cX12_rises 0 = .ok (.aload_n 0, 1) := dzr zhdX12_rises_0 0 rfl
theorem dX12_rises_1 : decode cX12_rises 1 = .ok (.iload_n 1, 1) := dzr zhdX12_rises_0 1 rfl
theorem dX12_rises_2 : decode cX12_rises 2 = .ok (.iload_n 2, 1) := dzr zhdX12_rises_0 2 rfl
theorem dX12_rises_3 : decode cX12_rises 3 = .ok (.invokevirtual 316, 3) := dzr zhdX12_rises_0 3 rfl
theorem dX12_rises_6 : decode cX12_rises 6 = .ok (.ifCond .eq 12, 3) := dzr zhdX12_rises_0 4 rfl
theorem dX12_rises_9 : decode cX12_rises 9 = .ok (.aload_n 0, 1) := dzr zhdX12_rises_0 5 rfl
theorem dX12_rises_10 : decode cX12_rises 10 = .ok (.iload_n 1, 1) := dzr zhdX12_rises_0 6 rfl
theorem dX12_rises_11 : decode cX12_rises 11 = .ok (.iload_n 2, 1) := dzr zhdX12_rises_0 7 rfl
theorem dX12_rises_12 : decode cX12_rises 12 = .ok (.invokevirtual 304, 3) := dzr zhdX12_rises_0 8 rfl
theorem dX12_rises_15 : decode cX12_rises 15 = .ok (.goto 6, 3) := dzr zhdX12_rises_0 9 rfl
theorem dX12_rises_18 : decode cX12_rises 18 = .ok (.ldc_w 363, 3) := dzr zhdX12_rises_0 10 rfl
theorem dX12_rises_21 : decode cX12_rises 21 = .ok (.ireturn, 1) := dzr zhdX12_rises_0 11 rfl
theorem ggX12_later_X12_areTwo : GoodIn wsX12_later wsX12_areTwo := (bg_up (bg_law (bi_wsL_law0_r27 _ (List.mem_of_getElem? (i := 13) rfl))))
theorem gX12_later_X12_areTwo : GoodIn wsX12_later (wsV RX12 316 RX12 yX12_areTwo wsX12_areTwo) := goodIn_app (bg_up (bg_cons (bi_wsL_law0_r27 _ (List.mem_of_getElem? (i := 10) rfl)) (bg_cons (bi_wsL_law0_r27 _ (List.mem_of_getElem? (i := 11) rfl)) (bg_cons (bi_wsL_law0_r27 _ (List.mem_of_getElem? (i := 12) rfl)) (bg_cons (bi_wsL_law0_r1 _ (List.mem_of_getElem? (i := 5) rfl)) bg_nil))))) (bg_up (bg_law (bi_wsL_law0_r27 _ (List.mem_of_getElem? (i := 13) rfl))))
theorem ggX12_later_X12_in : GoodIn wsX12_later wsX12_in := (bg_up (bg_law (bi_wsL_law0_r16 _ (List.mem_of_getElem? (i := 21) rfl))))
theorem gX12_later_X12_in : GoodIn wsX12_later (va_wsS RX12 211 yX12_in wsX12_in) := goodIn_app (bg_up (bg_cons (bi_wsL_law0_r16 _ (List.mem_of_getElem? (i := 19) rfl)) (bg_cons (bi_wsL_law0_r16 _ (List.mem_of_getElem? (i := 20) rfl)) (bg_cons (bi_wsL_law0_r1 _ (List.mem_of_getElem? (i := 5) rfl)) bg_nil)))) (bg_up (bg_law (bi_wsL_law0_r16 _ (List.mem_of_getElem? (i := 21) rfl))))
theorem ggX12_later_X12_pairAt : GoodIn wsX12_later wsX12_pairAt := (bg_up (bg_law (bi_wsL_law0_r27 _ (List.mem_of_getElem? (i := 16) rfl))))
theorem gX12_later_X12_pairAt : GoodIn wsX12_later (va_wsS RX12 294 yX12_pairAt wsX12_pairAt) := goodIn_app (bg_up (bg_cons (bi_wsL_law0_r27 _ (List.mem_of_getElem? (i := 14) rfl)) (bg_cons (bi_wsL_law0_r27 _ (List.mem_of_getElem? (i := 15) rfl)) (bg_cons (bi_wsL_law0_r1 _ (List.mem_of_getElem? (i := 5) rfl)) bg_nil)))) (bg_up (bg_law (bi_wsL_law0_r27 _ (List.mem_of_getElem? (i := 16) rfl))))
theorem ggX12_later_X12_riseFrom : GoodIn wsX12_later wsX12_riseFrom := (bg_up (bg_law (bi_wsL_law0_r32 _ (List.mem_of_getElem? (i := 10) rfl))))
theorem gX12_later_X12_riseFrom : GoodIn wsX12_later (wsV RX12 297 RX12 yX12_riseFrom wsX12_riseFrom) := goodIn_app (bg_up (bg_cons (bi_wsL_law0_r32 _ (List.mem_of_getElem? (i := 7) rfl)) (bg_cons (bi_wsL_law0_r32 _ (List.mem_of_getElem? (i := 8) rfl)) (bg_cons (bi_wsL_law0_r32 _ (List.mem_of_getElem? (i := 9) rfl)) (bg_cons (bi_wsL_law0_r1 _ (List.mem_of_getElem? (i := 5) rfl)) bg_nil))))) (bg_up (bg_law (bi_wsL_law0_r32 _ (List.mem_of_getElem? (i := 10) rfl))))
theorem ggX12_later_X12_held : GoodIn wsX12_later wsX12_held := (bg_up (bg_law (bi_wsL_law0_r33 _ (List.mem_of_getElem? (i := 19) rfl))))
theorem gX12_later_X12_held : GoodIn wsX12_later (va_wsS RX12 307 yX12_held wsX12_held) := goodIn_app (bg_up (bg_cons (bi_wsL_law0_r33 _ (List.mem_of_getElem? (i := 17) rfl)) (bg_cons (bi_wsL_law0_r33 _ (List.mem_of_getElem? (i := 18) rfl)) (bg_cons (bi_wsL_law0_r1 _ (List.mem_of_getElem? (i := 5) rfl)) bg_nil)))) (bg_up (bg_law (bi_wsL_law0_r33 _ (List.mem_of_getElem? (i := 19) rfl))))
def ztdX12_later_0 : List (Nat × Instr × Nat) := [(0, .aload_n 0, 1), (1, .iload_n 1, 1), (2, .iload_n 2, 1), (3, .invokevirtual 316, 3), (6, .ifCond .eq 13, 3), (9, .iload_n 3, 1), (10, .iconst 0, 1), (11, .bipush 60, 2), (13, .invokestatic 211, 3), (16, .ifCond .ne 5, 3), (19, .iconst (-1), 1), (20, .ireturn, 1), (21, .aload_n 0, 1), (22, .getfield 58, 3), (25, .iload_n 1, 1), (26, .iload_n 2, 1), (27, .invokestatic 294, 3), (30, .iaload, 1), (31, .istore 4, 2), (33, .iconst 0, 1), (34, .istore 5, 2), (36, .iload 5, 2), (38, .iload_n 3, 1), (39, .if_icmp .ge 35, 3)]
theorem zhdX12_later_0 : dzC ztdX12_later_0 0 (cX12_later.data.toList.drop 0) = true := by decide +kernel
theorem dX12_later_0 : decode cX12_later 0 = .ok (.aload_n 0, 1) := dzr zhdX12_later_0 0 rfl
theorem dX12_later_1 : decode cX12_later 1 = .ok (.iload_n 1, 1) := dzr zhdX12_later_0 1 rfl
theorem dX12_later_2 : decode cX12_later 2 = .ok (.iload_n 2, 1) := dzr zhdX12_later_0 2 rfl
theorem dX12_later_3 : decode cX12_later 3 = .ok (.invokevirtual 316, 3) := dzr zhdX12_later_0 3 rfl
theorem dX12_later_6 : decode cX12_later 6 = .ok (.ifCond .eq 13, 3) := dzr zhdX12_later_0 4 rfl
theorem dX12_later_9 : decode cX12_later 9 = .ok (.iload_n 3, 1) := dzr zhdX12_later_0 5 rfl
theorem dX12_later_10 : decode cX12_later 10 = .ok (.iconst 0, 1) := dzr zhdX12_later_0 6 rfl
theorem dX12_later_11 : decode cX12_later 11 = .ok (.bipush 60, 2) := dzr zhdX12_later_0 7 rfl
theorem dX12_later_13 : decode cX12_later 13 = .ok (.invokestatic 211, 3) := dzr zhdX12_later_0 8 rfl
theorem dX12_later_16 : decode cX12_later 16 = .ok (.ifCond .ne 5, 3) := dzr zhdX12_later_0 9 rfl
theorem dX12_later_19 : decode cX12_later 19 = .ok (.iconst (-1), 1) := dzr zhdX12_later_0 10 rfl
theorem dX12_later_20 : decode cX12_later 20 = .ok (.ireturn, 1) := dzr zhdX12_later_0 11 rfl
theorem dX12_later_21 : decode cX12_later 21 = .ok (.aload_n 0, 1) := dzr zhdX12_later_0 12 rfl
theorem dX12_later_22 : decode cX12_later 22 = .ok (.getfield 58, 3) := dzr zhdX12_later_0 13 rfl
theorem dX12_later_25 : decode cX12_later 25 = .ok (.iload_n 1, 1) := dzr zhdX12_later_0 14 rfl
theorem dX12_later_26 : decode cX12_later 26 = .ok (.iload_n 2, 1) := dzr zhdX12_later_0 15 rfl
theorem dX12_later_27 : decode cX12_later 27 = .ok (.invokestatic 294, 3) := dzr zhdX12_later_0 16 rfl
theorem dX12_later_30 : decode cX12_later 30 = .ok (.iaload, 1) := dzr zhdX12_later_0 17 rfl
theorem dX12_later_31 : decode cX12_later 31 = .ok (.istore 4, 2) := dzr zhdX12_later_0 18 rfl
theorem dX12_later_33 : decode cX12_later 33 = .ok (.iconst 0, 1) := dzr zhdX12_later_0 19 rfl
theorem dX12_later_34 : decode cX12_later 34 = .ok (.istore 5, 2) := dzr zhdX12_later_0 20 rfl
theorem dX12_later_36 : decode cX12_later 36 = .ok (.iload 5, 2) := dzr zhdX12_later_0 21 rfl
theorem dX12_later_38 : decode cX12_later 38 = .ok (.iload_n 3, 1) := dzr zhdX12_later_0 22 rfl
theorem dX12_later_39 : decode cX12_later 39 = .ok (.if_icmp .ge 35, 3) := dzr zhdX12_later_0 23 rfl
def ztdX12_later_42 : List (Nat × Instr × Nat) := [(42, .iload 4, 2), (44, .aload_n 0, 1), (45, .iload_n 1, 1), (46, .iload_n 2, 1), (47, .iload 4, 2), (49, .aload_n 0, 1), (50, .getfield 58, 3), (53, .bipush 68, 2), (55, .iaload, 1), (56, .iload 5, 2), (58, .iadd, 1), (59, .invokevirtual 297, 3), (62, .iadd, 1), (63, .invokestatic 307, 3), (66, .istore 4, 2), (68, .iinc 5 1, 3), (71, .goto (-35), 3), (74, .iload 4, 2), (76, .ireturn, 1)]
theorem zhdX12_later_42 : dzC ztdX12_later_42 42 (cX12_later.data.toList.drop 42) = true := by decide +kernel
theorem dX12_later_42 : decode cX12_later 42 = .ok (.iload 4, 2) := dzr zhdX12_later_42 0 rfl
theorem dX12_later_44 : decode cX12_later 44 = .ok (.aload_n 0, 1) := dzr zhdX12_later_42 1 rfl
theorem dX12_later_45 : decode cX12_later 45 = .ok (.iload_n 1, 1) := dzr zhdX12_later_42 2 rfl
theorem dX12_later_46 : decode cX12_later 46 = .ok (.iload_n 2, 1) := dzr zhdX12_later_42 3 rfl
theorem dX12_later_47 : decode cX12_later 47 = .ok (.iload 4, 2) := dzr zhdX12_later_42 4 rfl
theorem dX12_later_49 : decode cX12_later 49 = .ok (.aload_n 0, 1) := dzr zhdX12_later_42 5 rfl
theorem dX12_later_50 : decode cX12_later 50 = .ok (.getfield 58, 3) := dzr zhdX12_later_42 6 rfl
theorem dX12_later_53 : decode cX12_later 53 = .ok (.bipush 68, 2) := dzr zhdX12_later_42 7 rfl
theorem dX12_later_55 : decode cX12_later 55 = .ok (.iaload, 1) := dzr zhdX12_later_42 8 rfl
theorem dX12_later_56 : decode cX12_later 56 = .ok (.iload 5, 2) := dzr zhdX12_later_42 9 rfl
theorem dX12_later_58 : decode cX12_later 58 = .ok (.iadd, 1) := dzr zhdX12_later_42 10 rfl
theorem dX12_later_59 : decode cX12_later 59 = .ok (.invokevirtual 297, 3) := dzr zhdX12_later_42 11 rfl
theorem dX12_later_62 : decode cX12_later 62 = .ok (.iadd, 1) := dzr zhdX12_later_42 12 rfl
theorem dX12_later_63 : decode cX12_later 63 = .ok (.invokestatic 307, 3) := dzr zhdX12_later_42 13 rfl
theorem dX12_later_66 : decode cX12_later 66 = .ok (.istore 4, 2) := dzr zhdX12_later_42 14 rfl
theorem dX12_later_68 : decode cX12_later 68 = .ok (.iinc 5 1, 3) := dzr zhdX12_later_42 15 rfl
theorem dX12_later_71 : decode cX12_later 71 = .ok (.goto (-35), 3) := dzr zhdX12_later_42 16 rfl
theorem dX12_later_74 : decode cX12_later 74 = .ok (.iload 4, 2) := dzr zhdX12_later_42 17 rfl
theorem dX12_later_76 : decode cX12_later 76 = .ok (.ireturn, 1) := dzr zhdX12_later_42 18 rfl
theorem ggX12_daysTo_X12_pairAt : GoodIn wsX12_daysTo wsX12_pairAt := (bg_up (bg_law (bi_wsL_law0_r27 _ (List.mem_of_getElem? (i := 16) rfl))))
theorem gX12_daysTo_X12_pairAt : GoodIn wsX12_daysTo (va_wsS RX12 294 yX12_pairAt wsX12_pairAt) := goodIn_app (bg_up (bg_cons (bi_wsL_law0_r27 _ (List.mem_of_getElem? (i := 14) rfl)) (bg_cons (bi_wsL_law0_r27 _ (List.mem_of_getElem? (i := 15) rfl)) (bg_cons (bi_wsL_law0_r1 _ (List.mem_of_getElem? (i := 5) rfl)) bg_nil)))) (bg_up (bg_law (bi_wsL_law0_r27 _ (List.mem_of_getElem? (i := 16) rfl))))
theorem ggX12_daysTo_X12_riseFrom : GoodIn wsX12_daysTo wsX12_riseFrom := (bg_up (bg_law (bi_wsL_law0_r32 _ (List.mem_of_getElem? (i := 10) rfl))))
theorem gX12_daysTo_X12_riseFrom : GoodIn wsX12_daysTo (wsV RX12 297 RX12 yX12_riseFrom wsX12_riseFrom) := goodIn_app (bg_up (bg_cons (bi_wsL_law0_r32 _ (List.mem_of_getElem? (i := 7) rfl)) (bg_cons (bi_wsL_law0_r32 _ (List.mem_of_getElem? (i := 8) rfl)) (bg_cons (bi_wsL_law0_r32 _ (List.mem_of_getElem? (i := 9) rfl)) (bg_cons (bi_wsL_law0_r1 _ (List.mem_of_getElem? (i := 5) rfl)) bg_nil))))) (bg_up (bg_law (bi_wsL_law0_r32 _ (List.mem_of_getElem? (i := 10) rfl))))
theorem ggX12_daysTo_X12_held : GoodIn wsX12_daysTo wsX12_held := (bg_up (bg_law (bi_wsL_law0_r33 _ (List.mem_of_getElem? (i := 19) rfl))))
theorem gX12_daysTo_X12_held : GoodIn wsX12_daysTo (va_wsS RX12 307 yX12_held wsX12_held) := goodIn_app (bg_up (bg_cons (bi_wsL_law0_r33 _ (List.mem_of_getElem? (i := 17) rfl)) (bg_cons (bi_wsL_law0_r33 _ (List.mem_of_getElem? (i := 18) rfl)) (bg_cons (bi_wsL_law0_r1 _ (List.mem_of_getElem? (i := 5) rfl)) bg_nil)))) (bg_up (bg_law (bi_wsL_law0_r33 _ (List.mem_of_getElem? (i := 19) rfl))))
def ztdX12_daysTo_0 : List (Nat × Instr × Nat) := [(0, .aload_n 0, 1), (1, .getfield 58, 3), (4, .iload_n 1, 1), (5, .iload_n 2, 1), (6, .invokestatic 294, 3), (9, .iaload, 1), (10, .istore 4, 2), (12, .iconst 0, 1), (13, .istore 5, 2), (15, .iload 4, 2), (17, .iload_n 3, 1), (18, .if_icmp .ge 42, 3), (21, .iload 5, 2), (23, .bipush 60, 2), (25, .if_icmp .ge 35, 3), (28, .iload 4, 2), (30, .aload_n 0, 1), (31, .iload_n 1, 1), (32, .iload_n 2, 1), (33, .iload 4, 2), (35, .aload_n 0, 1), (36, .getfield 58, 3), (39, .bipush 68, 2), (41, .iaload, 1)]
theorem zhdX12_daysTo_0 : dzC ztdX12_daysTo_0 0 (cX12_daysTo.data.toList.drop 0) = true := by decide +kernel
theorem dX12_daysTo_0 : decode cX12_daysTo 0 = .ok (.aload_n 0, 1) := dzr zhdX12_daysTo_0 0 rfl
theorem dX12_daysTo_1 : decode cX12_daysTo 1 = .ok (.getfield 58, 3) := dzr zhdX12_daysTo_0 1 rfl
theorem dX12_daysTo_4 : decode cX12_daysTo 4 = .ok (.iload_n 1, 1) := dzr zhdX12_daysTo_0 2 rfl
theorem dX12_daysTo_5 : decode cX12_daysTo 5 = .ok (.iload_n 2, 1) := dzr zhdX12_daysTo_0 3 rfl
theorem dX12_daysTo_6 : decode cX12_daysTo 6 = .ok (.invokestatic 294, 3) := dzr zhdX12_daysTo_0 4 rfl
theorem dX12_daysTo_9 : decode cX12_daysTo 9 = .ok (.iaload, 1) := dzr zhdX12_daysTo_0 5 rfl
theorem dX12_daysTo_10 : decode cX12_daysTo 10 = .ok (.istore 4, 2) := dzr zhdX12_daysTo_0 6 rfl
theorem dX12_daysTo_12 : decode cX12_daysTo 12 = .ok (.iconst 0, 1) := dzr zhdX12_daysTo_0 7 rfl
theorem dX12_daysTo_13 : decode cX12_daysTo 13 = .ok (.istore 5, 2) := dzr zhdX12_daysTo_0 8 rfl
theorem dX12_daysTo_15 : decode cX12_daysTo 15 = .ok (.iload 4, 2) := dzr zhdX12_daysTo_0 9 rfl
theorem dX12_daysTo_17 : decode cX12_daysTo 17 = .ok (.iload_n 3, 1) := dzr zhdX12_daysTo_0 10 rfl
theorem dX12_daysTo_18 : decode cX12_daysTo 18 = .ok (.if_icmp .ge 42, 3) := dzr zhdX12_daysTo_0 11 rfl
theorem dX12_daysTo_21 : decode cX12_daysTo 21 = .ok (.iload 5, 2) := dzr zhdX12_daysTo_0 12 rfl
theorem dX12_daysTo_23 : decode cX12_daysTo 23 = .ok (.bipush 60, 2) := dzr zhdX12_daysTo_0 13 rfl
theorem dX12_daysTo_25 : decode cX12_daysTo 25 = .ok (.if_icmp .ge 35, 3) := dzr zhdX12_daysTo_0 14 rfl
theorem dX12_daysTo_28 : decode cX12_daysTo 28 = .ok (.iload 4, 2) := dzr zhdX12_daysTo_0 15 rfl
theorem dX12_daysTo_30 : decode cX12_daysTo 30 = .ok (.aload_n 0, 1) := dzr zhdX12_daysTo_0 16 rfl
theorem dX12_daysTo_31 : decode cX12_daysTo 31 = .ok (.iload_n 1, 1) := dzr zhdX12_daysTo_0 17 rfl
theorem dX12_daysTo_32 : decode cX12_daysTo 32 = .ok (.iload_n 2, 1) := dzr zhdX12_daysTo_0 18 rfl
theorem dX12_daysTo_33 : decode cX12_daysTo 33 = .ok (.iload 4, 2) := dzr zhdX12_daysTo_0 19 rfl
theorem dX12_daysTo_35 : decode cX12_daysTo 35 = .ok (.aload_n 0, 1) := dzr zhdX12_daysTo_0 20 rfl
theorem dX12_daysTo_36 : decode cX12_daysTo 36 = .ok (.getfield 58, 3) := dzr zhdX12_daysTo_0 21 rfl
theorem dX12_daysTo_39 : decode cX12_daysTo 39 = .ok (.bipush 68, 2) := dzr zhdX12_daysTo_0 22 rfl
theorem dX12_daysTo_41 : decode cX12_daysTo 41 = .ok (.iaload, 1) := dzr zhdX12_daysTo_0 23 rfl
def ztdX12_daysTo_42 : List (Nat × Instr × Nat) := [(42, .iload 5, 2), (44, .iadd, 1), (45, .invokevirtual 297, 3), (48, .iadd, 1), (49, .invokestatic 307, 3), (52, .istore 4, 2), (54, .iinc 5 1, 3), (57, .goto (-42), 3), (60, .iload 4, 2), (62, .iload_n 3, 1), (63, .if_icmp .lt 8, 3), (66, .iload 5, 2), (68, .goto 4, 3), (71, .iconst (-1), 1), (72, .ireturn, 1)]
theorem zhdX12_daysTo_42 : dzC ztdX12_daysTo_42 42 (cX12_daysTo.data.toList.drop 42) = true := by decide +kernel
theorem dX12_daysTo_42 : decode cX12_daysTo 42 = .ok (.iload 5, 2) := dzr zhdX12_daysTo_42 0 rfl
theorem dX12_daysTo_44 : decode cX12_daysTo 44 = .ok (.iadd, 1) := dzr zhdX12_daysTo_42 1 rfl
theorem dX12_daysTo_45 : decode cX12_daysTo 45 = .ok (.invokevirtual 297, 3) := dzr zhdX12_daysTo_42 2 rfl
theorem dX12_daysTo_48 : decode cX12_daysTo 48 = .ok (.iadd, 1) := dzr zhdX12_daysTo_42 3 rfl
theorem dX12_daysTo_49 : decode cX12_daysTo 49 = .ok (.invokestatic 307, 3) := dzr zhdX12_daysTo_42 4 rfl
theorem dX12_daysTo_52 : decode cX12_daysTo 52 = .ok (.istore 4, 2) := dzr zhdX12_daysTo_42 5 rfl
theorem dX12_daysTo_54 : decode cX12_daysTo 54 = .ok (.iinc 5 1, 3) := dzr zhdX12_daysTo_42 6 rfl
theorem dX12_daysTo_57 : decode cX12_daysTo 57 = .ok (.goto (-42), 3) := dzr zhdX12_daysTo_42 7 rfl
theorem dX12_daysTo_60 : decode cX12_daysTo 60 = .ok (.iload 4, 2) := dzr zhdX12_daysTo_42 8 rfl
theorem dX12_daysTo_62 : decode cX12_daysTo 62 = .ok (.iload_n 3, 1) := dzr zhdX12_daysTo_42 9 rfl
theorem dX12_daysTo_63 : decode cX12_daysTo 63 = .ok (.if_icmp .lt 8, 3) := dzr zhdX12_daysTo_42 10 rfl
theorem dX12_daysTo_66 : decode cX12_daysTo 66 = .ok (.iload 5, 2) := dzr zhdX12_daysTo_42 11 rfl
theorem dX12_daysTo_68 : decode cX12_daysTo 68 = .ok (.goto 4, 3) := dzr zhdX12_daysTo_42 12 rfl
theorem dX12_daysTo_71 : decode cX12_daysTo 71 = .ok (.iconst (-1), 1) := dzr zhdX12_daysTo_42 13 rfl
theorem dX12_daysTo_72 : decode cX12_daysTo 72 = .ok (.ireturn, 1) := dzr zhdX12_daysTo_42 14 rfl
theorem ggX12_soonest_X12_isMatter : GoodIn wsX12_soonest wsX12_isMatter := (bg_up (bg_law (bi_wsL_law0_r26 _ (List.mem_of_getElem? (i := 13) rfl))))
theorem gX12_soonest_X12_isMatter : GoodIn wsX12_soonest (wsV RX12 331 RX12 yX12_isMatter wsX12_isMatter) := goodIn_app (bg_up (bg_cons (bi_wsL_law0_r26 _ (List.mem_of_getElem? (i := 10) rfl)) (bg_cons (bi_wsL_law0_r26 _ (List.mem_of_getElem? (i := 11) rfl)) (bg_cons (bi_wsL_law0_r26 _ (List.mem_of_getElem? (i := 12) rfl)) (bg_cons (bi_wsL_law0_r1 _ (List.mem_of_getElem? (i := 5) rfl)) bg_nil))))) (bg_up (bg_law (bi_wsL_law0_r26 _ (List.mem_of_getElem? (i := 13) rfl))))
theorem ggX12_soonest_X12_in : GoodIn wsX12_soonest wsX12_in := (bg_up (bg_law (bi_wsL_law0_r16 _ (List.mem_of_getElem? (i := 21) rfl))))
theorem gX12_soonest_X12_in : GoodIn wsX12_soonest (va_wsS RX12 211 yX12_in wsX12_in) := goodIn_app (bg_up (bg_cons (bi_wsL_law0_r16 _ (List.mem_of_getElem? (i := 19) rfl)) (bg_cons (bi_wsL_law0_r16 _ (List.mem_of_getElem? (i := 20) rfl)) (bg_cons (bi_wsL_law0_r1 _ (List.mem_of_getElem? (i := 5) rfl)) bg_nil)))) (bg_up (bg_law (bi_wsL_law0_r16 _ (List.mem_of_getElem? (i := 21) rfl))))
theorem ggX12_soonest_X12_areTwo : GoodIn wsX12_soonest wsX12_areTwo := (bg_up (bg_law (bi_wsL_law0_r27 _ (List.mem_of_getElem? (i := 13) rfl))))
theorem gX12_soonest_X12_areTwo : GoodIn wsX12_soonest (wsV RX12 316 RX12 yX12_areTwo wsX12_areTwo) := goodIn_app (bg_up (bg_cons (bi_wsL_law0_r27 _ (List.mem_of_getElem? (i := 10) rfl)) (bg_cons (bi_wsL_law0_r27 _ (List.mem_of_getElem? (i := 11) rfl)) (bg_cons (bi_wsL_law0_r27 _ (List.mem_of_getElem? (i := 12) rfl)) (bg_cons (bi_wsL_law0_r1 _ (List.mem_of_getElem? (i := 5) rfl)) bg_nil))))) (bg_up (bg_law (bi_wsL_law0_r27 _ (List.mem_of_getElem? (i := 13) rfl))))
theorem ggX12_soonest_X12_daysTo : GoodIn wsX12_soonest wsX12_daysTo := (bg_up (bg_law (bi_wsL_law0_r44 _ (List.mem_of_getElem? (i := 5) rfl))))
theorem gX12_soonest_X12_daysTo : GoodIn wsX12_soonest (wsV RX12 364 RX12 yX12_daysTo wsX12_daysTo) := goodIn_app (bg_up (bg_cons (bi_wsL_law0_r44 _ (List.mem_of_getElem? (i := 2) rfl)) (bg_cons (bi_wsL_law0_r44 _ (List.mem_of_getElem? (i := 3) rfl)) (bg_cons (bi_wsL_law0_r44 _ (List.mem_of_getElem? (i := 4) rfl)) (bg_cons (bi_wsL_law0_r1 _ (List.mem_of_getElem? (i := 5) rfl)) bg_nil))))) (bg_up (bg_law (bi_wsL_law0_r44 _ (List.mem_of_getElem? (i := 5) rfl))))
theorem ggX12_soonest_X12_codeOf : GoodIn wsX12_soonest wsX12_codeOf := (bg_up (bg_law (bi_wsL_law0_r34 _ (List.mem_of_getElem? (i := 2) rfl))))
theorem gX12_soonest_X12_codeOf : GoodIn wsX12_soonest (va_wsS RX12 301 yX12_codeOf wsX12_codeOf) := goodIn_app (bg_up (bg_cons (bi_wsL_law0_r34 _ (List.mem_of_getElem? (i := 0) rfl)) (bg_cons (bi_wsL_law0_r34 _ (List.mem_of_getElem? (i := 1) rfl)) (bg_cons (bi_wsL_law0_r1 _ (List.mem_of_getElem? (i := 5) rfl)) bg_nil)))) (bg_up (bg_law (bi_wsL_law0_r34 _ (List.mem_of_getElem? (i := 2) rfl))))
def ztdX12_soonest_0 : List (Nat × Instr × Nat) := [(0, .aload_n 0, 1), (1, .iload_n 1, 1), (2, .invokevirtual 331, 3), (5, .ifCond .eq 12, 3), (8, .iload_n 2, 1), (9, .iconst 0, 1), (10, .iconst 1, 1), (11, .invokestatic 211, 3), (14, .ifCond .ne 5, 3), (17, .iconst (-1), 1), (18, .ireturn, 1), (19, .iconst (-1), 1), (20, .istore_n 3, 1), (21, .iconst 0, 1), (22, .istore 4, 2), (24, .iconst 0, 1), (25, .istore 5, 2), (27, .iload 5, 2), (29, .aload_n 0, 1), (30, .getfield 252, 3), (33, .if_icmp .ge 95, 3), (36, .iload 5, 2), (38, .iconst 1, 1), (39, .iadd, 1)]
theorem zhdX12_soonest_0 : dzC ztdX12_soonest_0 0 (cX12_soonest.data.toList.drop 0) = true := by decide +kernel
theorem dX12_soonest_0 : decode cX12_soonest 0 = .ok (.aload_n 0, 1) := dzr zhdX12_soonest_0 0 rfl
theorem dX12_soonest_1 : decode cX12_soonest 1 = .ok (.iload_n 1, 1) := dzr zhdX12_soonest_0 1 rfl
theorem dX12_soonest_2 : decode cX12_soonest 2 = .ok (.invokevirtual 331, 3) := dzr zhdX12_soonest_0 2 rfl
theorem dX12_soonest_5 : decode cX12_soonest 5 = .ok (.ifCond .eq 12, 3) := dzr zhdX12_soonest_0 3 rfl
theorem dX12_soonest_8 : decode cX12_soonest 8 = .ok (.iload_n 2, 1) := dzr zhdX12_soonest_0 4 rfl
theorem dX12_soonest_9 : decode cX12_soonest 9 = .ok (.iconst 0, 1) := dzr zhdX12_soonest_0 5 rfl
theorem dX12_soonest_10 : decode cX12_soonest 10 = .ok (.iconst 1, 1) := dzr zhdX12_soonest_0 6 rfl
theorem dX12_soonest_11 : decode cX12_soonest 11 = .ok (.invokestatic 211, 3) := dzr zhdX12_soonest_0 7 rfl
theorem dX12_soonest_14 : decode cX12_soonest 14 = .ok (.ifCond .ne 5, 3) := dzr zhdX12_soonest_0 8 rfl
theorem dX12_soonest_17 : decode cX12_soonest 17 = .ok (.iconst (-1), 1) := dzr zhdX12_soonest_0 9 rfl
theorem dX12_soonest_18 : decode cX12_soonest 18 = .ok (.ireturn, 1) := dzr zhdX12_soonest_0 10 rfl
theorem dX12_soonest_19 : decode cX12_soonest 19 = .ok (.iconst (-1), 1) := dzr zhdX12_soonest_0 11 rfl
theorem dX12_soonest_20 : decode cX12_soonest 20 = .ok (.istore_n 3, 1) := dzr zhdX12_soonest_0 12 rfl
theorem dX12_soonest_21 : decode cX12_soonest 21 = .ok (.iconst 0, 1) := dzr zhdX12_soonest_0 13 rfl
theorem dX12_soonest_22 : decode cX12_soonest 22 = .ok (.istore 4, 2) := dzr zhdX12_soonest_0 14 rfl
theorem dX12_soonest_24 : decode cX12_soonest 24 = .ok (.iconst 0, 1) := dzr zhdX12_soonest_0 15 rfl
theorem dX12_soonest_25 : decode cX12_soonest 25 = .ok (.istore 5, 2) := dzr zhdX12_soonest_0 16 rfl
theorem dX12_soonest_27 : decode cX12_soonest 27 = .ok (.iload 5, 2) := dzr zhdX12_soonest_0 17 rfl
theorem dX12_soonest_29 : decode cX12_soonest 29 = .ok (.aload_n 0, 1) := dzr zhdX12_soonest_0 18 rfl
theorem dX12_soonest_30 : decode cX12_soonest 30 = .ok (.getfield 252, 3) := dzr zhdX12_soonest_0 19 rfl
theorem dX12_soonest_33 : decode cX12_soonest 33 = .ok (.if_icmp .ge 95, 3) := dzr zhdX12_soonest_0 20 rfl
theorem dX12_soonest_36 : decode cX12_soonest 36 = .ok (.iload 5, 2) := dzr zhdX12_soonest_0 21 rfl
theorem dX12_soonest_38 : decode cX12_soonest 38 = .ok (.iconst 1, 1) := dzr zhdX12_soonest_0 22 rfl
theorem dX12_soonest_39 : decode cX12_soonest 39 = .ok (.iadd, 1) := dzr zhdX12_soonest_0 23 rfl
def ztdX12_soonest_40 : List (Nat × Instr × Nat) := [(40, .istore 6, 2), (42, .iload 6, 2), (44, .aload_n 0, 1), (45, .getfield 252, 3), (48, .if_icmp .ge 74, 3), (51, .aload_n 0, 1), (52, .iload 5, 2), (54, .iload 6, 2), (56, .invokevirtual 316, 3), (59, .ifCond .eq 24, 3), (62, .aload_n 0, 1), (63, .iload 5, 2), (65, .iload 6, 2), (67, .aload_n 0, 1), (68, .getfield 55, 3), (71, .iconst 2, 1), (72, .iload_n 1, 1), (73, .imul, 1), (74, .iconst 1, 1), (75, .iadd, 1), (76, .iaload, 1), (77, .invokevirtual 364, 3), (80, .goto 4, 3), (83, .iconst (-1), 1)]
theorem zhdX12_soonest_40 : dzC ztdX12_soonest_40 40 (cX12_soonest.data.toList.drop 40) = true := by decide +kernel
theorem dX12_soonest_40 : decode cX12_soonest 40 = .ok (.istore 6, 2) := dzr zhdX12_soonest_40 0 rfl
theorem dX12_soonest_42 : decode cX12_soonest 42 = .ok (.iload 6, 2) := dzr zhdX12_soonest_40 1 rfl
theorem dX12_soonest_44 : decode cX12_soonest 44 = .ok (.aload_n 0, 1) := dzr zhdX12_soonest_40 2 rfl
theorem dX12_soonest_45 : decode cX12_soonest 45 = .ok (.getfield 252, 3) := dzr zhdX12_soonest_40 3 rfl
theorem dX12_soonest_48 : decode cX12_soonest 48 = .ok (.if_icmp .ge 74, 3) := dzr zhdX12_soonest_40 4 rfl
theorem dX12_soonest_51 : decode cX12_soonest 51 = .ok (.aload_n 0, 1) := dzr zhdX12_soonest_40 5 rfl
theorem dX12_soonest_52 : decode cX12_soonest 52 = .ok (.iload 5, 2) := dzr zhdX12_soonest_40 6 rfl
theorem dX12_soonest_54 : decode cX12_soonest 54 = .ok (.iload 6, 2) := dzr zhdX12_soonest_40 7 rfl
theorem dX12_soonest_56 : decode cX12_soonest 56 = .ok (.invokevirtual 316, 3) := dzr zhdX12_soonest_40 8 rfl
theorem dX12_soonest_59 : decode cX12_soonest 59 = .ok (.ifCond .eq 24, 3) := dzr zhdX12_soonest_40 9 rfl
theorem dX12_soonest_62 : decode cX12_soonest 62 = .ok (.aload_n 0, 1) := dzr zhdX12_soonest_40 10 rfl
theorem dX12_soonest_63 : decode cX12_soonest 63 = .ok (.iload 5, 2) := dzr zhdX12_soonest_40 11 rfl
theorem dX12_soonest_65 : decode cX12_soonest 65 = .ok (.iload 6, 2) := dzr zhdX12_soonest_40 12 rfl
theorem dX12_soonest_67 : decode cX12_soonest 67 = .ok (.aload_n 0, 1) := dzr zhdX12_soonest_40 13 rfl
theorem dX12_soonest_68 : decode cX12_soonest 68 = .ok (.getfield 55, 3) := dzr zhdX12_soonest_40 14 rfl
theorem dX12_soonest_71 : decode cX12_soonest 71 = .ok (.iconst 2, 1) := dzr zhdX12_soonest_40 15 rfl
theorem dX12_soonest_72 : decode cX12_soonest 72 = .ok (.iload_n 1, 1) := dzr zhdX12_soonest_40 16 rfl
theorem dX12_soonest_73 : decode cX12_soonest 73 = .ok (.imul, 1) := dzr zhdX12_soonest_40 17 rfl
theorem dX12_soonest_74 : decode cX12_soonest 74 = .ok (.iconst 1, 1) := dzr zhdX12_soonest_40 18 rfl
theorem dX12_soonest_75 : decode cX12_soonest 75 = .ok (.iadd, 1) := dzr zhdX12_soonest_40 19 rfl
theorem dX12_soonest_76 : decode cX12_soonest 76 = .ok (.iaload, 1) := dzr zhdX12_soonest_40 20 rfl
theorem dX12_soonest_77 : decode cX12_soonest 77 = .ok (.invokevirtual 364, 3) := dzr zhdX12_soonest_40 21 rfl
theorem dX12_soonest_80 : decode cX12_soonest 80 = .ok (.goto 4, 3) := dzr zhdX12_soonest_40 22 rfl
theorem dX12_soonest_83 : decode cX12_soonest 83 = .ok (.iconst (-1), 1) := dzr zhdX12_soonest_40 23 rfl
def ztdX12_soonest_84 : List (Nat × Instr × Nat) := [(84, .istore 7, 2), (86, .iload 7, 2), (88, .iconst (-1), 1), (89, .if_icmp .eq 27, 3), (92, .iload_n 3, 1), (93, .iconst (-1), 1), (94, .if_icmp .eq 10, 3), (97, .iload 7, 2), (99, .iload 4, 2), (101, .if_icmp .ge 15, 3), (104, .iload 5, 2), (106, .iload 6, 2), (108, .invokestatic 301, 3), (111, .istore_n 3, 1), (112, .iload 7, 2), (114, .istore 4, 2), (116, .iinc 6 1, 3), (119, .goto (-77), 3), (122, .iinc 5 1, 3), (125, .goto (-98), 3), (128, .iload_n 3, 1), (129, .iconst (-1), 1), (130, .if_icmp .eq 7, 3), (133, .iload_n 2, 1)]
theorem zhdX12_soonest_84 : dzC ztdX12_soonest_84 84 (cX12_soonest.data.toList.drop 84) = true := by decide +kernel
theorem dX12_soonest_84 : decode cX12_soonest 84 = .ok (.istore 7, 2) := dzr zhdX12_soonest_84 0 rfl
theorem dX12_soonest_86 : decode cX12_soonest 86 = .ok (.iload 7, 2) := dzr zhdX12_soonest_84 1 rfl
theorem dX12_soonest_88 : decode cX12_soonest 88 = .ok (.iconst (-1), 1) := dzr zhdX12_soonest_84 2 rfl
theorem dX12_soonest_89 : decode cX12_soonest 89 = .ok (.if_icmp .eq 27, 3) := dzr zhdX12_soonest_84 3 rfl
theorem dX12_soonest_92 : decode cX12_soonest 92 = .ok (.iload_n 3, 1) := dzr zhdX12_soonest_84 4 rfl
theorem dX12_soonest_93 : decode cX12_soonest 93 = .ok (.iconst (-1), 1) := dzr zhdX12_soonest_84 5 rfl
theorem dX12_soonest_94 : decode cX12_soonest 94 = .ok (.if_icmp .eq 10, 3) := dzr zhdX12_soonest_84 6 rfl
theorem dX12_soonest_97 : decode cX12_soonest 97 = .ok (.iload 7, 2) := dzr zhdX12_soonest_84 7 rfl
theorem dX12_soonest_99 : decode cX12_soonest 99 = .ok (.iload 4, 2) := dzr zhdX12_soonest_84 8 rfl
theorem dX12_soonest_101 : decode cX12_soonest 101 = .ok (.if_icmp .ge 15, 3) := dzr zhdX12_soonest_84 9 rfl
theorem dX12_soonest_104 : decode cX12_soonest 104 = .ok (.iload 5, 2) := dzr zhdX12_soonest_84 10 rfl
theorem dX12_soonest_106 : decode cX12_soonest 106 = .ok (.iload 6, 2) := dzr zhdX12_soonest_84 11 rfl
theorem dX12_soonest_108 : decode cX12_soonest 108 = .ok (.invokestatic 301, 3) := dzr zhdX12_soonest_84 12 rfl
theorem dX12_soonest_111 : decode cX12_soonest 111 = .ok (.istore_n 3, 1) := dzr zhdX12_soonest_84 13 rfl
theorem dX12_soonest_112 : decode cX12_soonest 112 = .ok (.iload 7, 2) := dzr zhdX12_soonest_84 14 rfl
theorem dX12_soonest_114 : decode cX12_soonest 114 = .ok (.istore 4, 2) := dzr zhdX12_soonest_84 15 rfl
theorem dX12_soonest_116 : decode cX12_soonest 116 = .ok (.iinc 6 1, 3) := dzr zhdX12_soonest_84 16 rfl
theorem dX12_soonest_119 : decode cX12_soonest 119 = .ok (.goto (-77), 3) := dzr zhdX12_soonest_84 17 rfl
theorem dX12_soonest_122 : decode cX12_soonest 122 = .ok (.iinc 5 1, 3) := dzr zhdX12_soonest_84 18 rfl
theorem dX12_soonest_125 : decode cX12_soonest 125 = .ok (.goto (-98), 3) := dzr zhdX12_soonest_84 19 rfl
theorem dX12_soonest_128 : decode cX12_soonest 128 = .ok (.iload_n 3, 1) := dzr zhdX12_soonest_84 20 rfl
theorem dX12_soonest_129 : decode cX12_soonest 129 = .ok (.iconst (-1), 1) := dzr zhdX12_soonest_84 21 rfl
theorem dX12_soonest_130 : decode cX12_soonest 130 = .ok (.if_icmp .eq 7, 3) := dzr zhdX12_soonest_84 22 rfl
theorem dX12_soonest_133 : decode cX12_soonest 133 = .ok (.iload_n 2, 1) := dzr zhdX12_soonest_84 23 rfl
def ztdX12_soonest_134 : List (Nat × Instr × Nat) := [(134, .ifCond .ne 7, 3), (137, .iload_n 3, 1), (138, .goto 5, 3), (141, .iload 4, 2), (143, .ireturn, 1)]
theorem zhdX12_soonest_134 : dzC ztdX12_soonest_134 134 (cX12_soonest.data.toList.drop 134) = true := by decide +kernel
theorem dX12_soonest_134 : decode cX12_soonest 134 = .ok (.ifCond .ne 7, 3) := dzr zhdX12_soonest_134 0 rfl
theorem dX12_soonest_137 : decode cX12_soonest 137 = .ok (.iload_n 3, 1) := dzr zhdX12_soonest_134 1 rfl
theorem dX12_soonest_138 : decode cX12_soonest 138 = .ok (.goto 5, 3) := dzr zhdX12_soonest_134 2 rfl
theorem dX12_soonest_141 : decode cX12_soonest 141 = .ok (.iload 4, 2) := dzr zhdX12_soonest_134 3 rfl
theorem dX12_soonest_143 : decode cX12_soonest 143 = .ok (.ireturn, 1) := dzr zhdX12_soonest_134 4 rfl
theorem ggX12_tryPairs_X12_of : GoodIn wsX12_tryPairs wsX12_of := (bg_up (bg_law (bi_wsL_law0_r22 _ (List.mem_of_getElem? (i := 21) rfl))))
theorem gX12_tryPairs_X12_of : GoodIn wsX12_tryPairs (wsV RX12 258 RX12 yX12_of wsX12_of) := goodIn_app (bg_up (bg_cons (bi_wsL_law0_r22 _ (List.mem_of_getElem? (i := 18) rfl)) (bg_cons (bi_wsL_law0_r22 _ (List.mem_of_getElem? (i := 19) rfl)) (bg_cons (bi_wsL_law0_r22 _ (List.mem_of_getElem? (i := 20) rfl)) (bg_cons (bi_wsL_law0_r1 _ (List.mem_of_getElem? (i := 5) rfl)) bg_nil))))) (bg_up (bg_law (bi_wsL_law0_r22 _ (List.mem_of_getElem? (i := 21) rfl))))
theorem ggX12_tryPairs_X12_isFree : GoodIn wsX12_tryPairs wsX12_isFree := (bg_up (bg_law (bi_wsL_law0_r25 _ (List.mem_of_getElem? (i := 15) rfl))))
theorem gX12_tryPairs_X12_isFree : GoodIn wsX12_tryPairs (wsV RX12 313 RX12 yX12_isFree wsX12_isFree) := goodIn_app (bg_up (bg_cons (bi_wsL_law0_r25 _ (List.mem_of_getElem? (i := 12) rfl)) (bg_cons (bi_wsL_law0_r25 _ (List.mem_of_getElem? (i := 13) rfl)) (bg_cons (bi_wsL_law0_r25 _ (List.mem_of_getElem? (i := 14) rfl)) (bg_cons (bi_wsL_law0_r1 _ (List.mem_of_getElem? (i := 5) rfl)) bg_nil))))) (bg_up (bg_law (bi_wsL_law0_r25 _ (List.mem_of_getElem? (i := 15) rfl))))
theorem ggX12_tryPairs_X12_tryPairs : GoodIn wsX12_tryPairs wsX12_tryPairs := (bg_up (bg_law (bi_wsL_law0_r45 _ (List.mem_of_getElem? (i := 21) rfl))))
theorem gX12_tryPairs_X12_tryPairs : GoodIn wsX12_tryPairs (wsV RX12 376 RX12 yX12_tryPairs wsX12_tryPairs) := goodIn_app (bg_up (bg_cons (bi_wsL_law0_r45 _ (List.mem_of_getElem? (i := 18) rfl)) (bg_cons (bi_wsL_law0_r45 _ (List.mem_of_getElem? (i := 19) rfl)) (bg_cons (bi_wsL_law0_r45 _ (List.mem_of_getElem? (i := 20) rfl)) (bg_cons (bi_wsL_law0_r1 _ (List.mem_of_getElem? (i := 5) rfl)) bg_nil))))) (bg_up (bg_law (bi_wsL_law0_r45 _ (List.mem_of_getElem? (i := 21) rfl))))
theorem ggX12_tryPairs_X12_areTwo : GoodIn wsX12_tryPairs wsX12_areTwo := (bg_up (bg_law (bi_wsL_law0_r27 _ (List.mem_of_getElem? (i := 13) rfl))))
theorem gX12_tryPairs_X12_areTwo : GoodIn wsX12_tryPairs (wsV RX12 316 RX12 yX12_areTwo wsX12_areTwo) := goodIn_app (bg_up (bg_cons (bi_wsL_law0_r27 _ (List.mem_of_getElem? (i := 10) rfl)) (bg_cons (bi_wsL_law0_r27 _ (List.mem_of_getElem? (i := 11) rfl)) (bg_cons (bi_wsL_law0_r27 _ (List.mem_of_getElem? (i := 12) rfl)) (bg_cons (bi_wsL_law0_r1 _ (List.mem_of_getElem? (i := 5) rfl)) bg_nil))))) (bg_up (bg_law (bi_wsL_law0_r27 _ (List.mem_of_getElem? (i := 13) rfl))))
theorem ggX12_tryPairs_X12_has : GoodIn wsX12_tryPairs wsX12_has := (bg_up (bg_law (bi_wsL_law0_r16 _ (List.mem_of_getElem? (i := 4) rfl))))
theorem gX12_tryPairs_X12_has : GoodIn wsX12_tryPairs (va_wsS RX12 222 yX12_has wsX12_has) := goodIn_app (bg_up (bg_cons (bi_wsL_law0_r16 _ (List.mem_of_getElem? (i := 2) rfl)) (bg_cons (bi_wsL_law0_r16 _ (List.mem_of_getElem? (i := 3) rfl)) (bg_cons (bi_wsL_law0_r1 _ (List.mem_of_getElem? (i := 5) rfl)) bg_nil)))) (bg_up (bg_law (bi_wsL_law0_r16 _ (List.mem_of_getElem? (i := 4) rfl))))
theorem ggX12_tryPairs_X12_riseOf : GoodIn wsX12_tryPairs wsX12_riseOf := (bg_up (bg_law (bi_wsL_law0_r32 _ (List.mem_of_getElem? (i := 6) rfl))))
theorem gX12_tryPairs_X12_riseOf : GoodIn wsX12_tryPairs (wsV RX12 304 RX12 yX12_riseOf wsX12_riseOf) := goodIn_app (bg_up (bg_cons (bi_wsL_law0_r32 _ (List.mem_of_getElem? (i := 3) rfl)) (bg_cons (bi_wsL_law0_r32 _ (List.mem_of_getElem? (i := 4) rfl)) (bg_cons (bi_wsL_law0_r32 _ (List.mem_of_getElem? (i := 5) rfl)) (bg_cons (bi_wsL_law0_r1 _ (List.mem_of_getElem? (i := 5) rfl)) bg_nil))))) (bg_up (bg_law (bi_wsL_law0_r32 _ (List.mem_of_getElem? (i := 6) rfl))))
def ztdX12_tryPairs_0 : List (Nat × Instr × Nat) := [(0, .iload_n 1, 1), (1, .aload_n 0, 1), (2, .getfield 252, 3), (5, .if_icmp .ne 53, 3), (8, .aload_n 0, 1), (9, .getfield 367, 3), (12, .ifCond .eq 29, 3), (15, .iload 4, 2), (17, .aload_n 0, 1), (18, .getfield 370, 3), (21, .if_icmp .gt 20, 3), (24, .iload 4, 2), (26, .aload_n 0, 1), (27, .getfield 370, 3), (30, .if_icmp .ne 27, 3), (33, .iload_n 3, 1), (34, .aload_n 0, 1), (35, .getfield 373, 3), (38, .if_icmp .ge 19, 3), (41, .aload_n 0, 1), (42, .iconst 1, 1), (43, .putfield 367, 3), (46, .aload_n 0, 1), (47, .iload_n 3, 1)]
theorem zhdX12_tryPairs_0 : dzC ztdX12_tryPairs_0 0 (cX12_tryPairs.data.toList.drop 0) = true := by decide +kernel
theorem dX12_tryPairs_0 : decode cX12_tryPairs 0 = .ok (.iload_n 1, 1) := dzr zhdX12_tryPairs_0 0 rfl
theorem dX12_tryPairs_1 : decode cX12_tryPairs 1 = .ok (.aload_n 0, 1) := dzr zhdX12_tryPairs_0 1 rfl
theorem dX12_tryPairs_2 : decode cX12_tryPairs 2 = .ok (.getfield 252, 3) := dzr zhdX12_tryPairs_0 2 rfl
theorem dX12_tryPairs_5 : decode cX12_tryPairs 5 = .ok (.if_icmp .ne 53, 3) := dzr zhdX12_tryPairs_0 3 rfl
theorem dX12_tryPairs_8 : decode cX12_tryPairs 8 = .ok (.aload_n 0, 1) := dzr zhdX12_tryPairs_0 4 rfl
theorem dX12_tryPairs_9 : decode cX12_tryPairs 9 = .ok (.getfield 367, 3) := dzr zhdX12_tryPairs_0 5 rfl
theorem dX12_tryPairs_12 : decode cX12_tryPairs 12 = .ok (.ifCond .eq 29, 3) := dzr zhdX12_tryPairs_0 6 rfl
theorem dX12_tryPairs_15 : decode cX12_tryPairs 15 = .ok (.iload 4, 2) := dzr zhdX12_tryPairs_0 7 rfl
theorem dX12_tryPairs_17 : decode cX12_tryPairs 17 = .ok (.aload_n 0, 1) := dzr zhdX12_tryPairs_0 8 rfl
theorem dX12_tryPairs_18 : decode cX12_tryPairs 18 = .ok (.getfield 370, 3) := dzr zhdX12_tryPairs_0 9 rfl
theorem dX12_tryPairs_21 : decode cX12_tryPairs 21 = .ok (.if_icmp .gt 20, 3) := dzr zhdX12_tryPairs_0 10 rfl
theorem dX12_tryPairs_24 : decode cX12_tryPairs 24 = .ok (.iload 4, 2) := dzr zhdX12_tryPairs_0 11 rfl
theorem dX12_tryPairs_26 : decode cX12_tryPairs 26 = .ok (.aload_n 0, 1) := dzr zhdX12_tryPairs_0 12 rfl
theorem dX12_tryPairs_27 : decode cX12_tryPairs 27 = .ok (.getfield 370, 3) := dzr zhdX12_tryPairs_0 13 rfl
theorem dX12_tryPairs_30 : decode cX12_tryPairs 30 = .ok (.if_icmp .ne 27, 3) := dzr zhdX12_tryPairs_0 14 rfl
theorem dX12_tryPairs_33 : decode cX12_tryPairs 33 = .ok (.iload_n 3, 1) := dzr zhdX12_tryPairs_0 15 rfl
theorem dX12_tryPairs_34 : decode cX12_tryPairs 34 = .ok (.aload_n 0, 1) := dzr zhdX12_tryPairs_0 16 rfl
theorem dX12_tryPairs_35 : decode cX12_tryPairs 35 = .ok (.getfield 373, 3) := dzr zhdX12_tryPairs_0 17 rfl
theorem dX12_tryPairs_38 : decode cX12_tryPairs 38 = .ok (.if_icmp .ge 19, 3) := dzr zhdX12_tryPairs_0 18 rfl
theorem dX12_tryPairs_41 : decode cX12_tryPairs 41 = .ok (.aload_n 0, 1) := dzr zhdX12_tryPairs_0 19 rfl
theorem dX12_tryPairs_42 : decode cX12_tryPairs 42 = .ok (.iconst 1, 1) := dzr zhdX12_tryPairs_0 20 rfl
theorem dX12_tryPairs_43 : decode cX12_tryPairs 43 = .ok (.putfield 367, 3) := dzr zhdX12_tryPairs_0 21 rfl
theorem dX12_tryPairs_46 : decode cX12_tryPairs 46 = .ok (.aload_n 0, 1) := dzr zhdX12_tryPairs_0 22 rfl
theorem dX12_tryPairs_47 : decode cX12_tryPairs 47 = .ok (.iload_n 3, 1) := dzr zhdX12_tryPairs_0 23 rfl
def ztdX12_tryPairs_48 : List (Nat × Instr × Nat) := [(48, .putfield 373, 3), (51, .aload_n 0, 1), (52, .iload 4, 2), (54, .putfield 370, 3), (57, .return_, 1), (58, .aload_n 0, 1), (59, .iload_n 1, 1), (60, .iconst 0, 1), (61, .invokevirtual 258, 3), (64, .ifCond .ne 11, 3), (67, .aload_n 0, 1), (68, .iload_n 1, 1), (69, .invokevirtual 313, 3), (72, .ifCond .ne 15, 3), (75, .aload_n 0, 1), (76, .iload_n 1, 1), (77, .iconst 1, 1), (78, .iadd, 1), (79, .iload_n 2, 1), (80, .iload_n 3, 1), (81, .iload 4, 2), (83, .invokevirtual 376, 3), (86, .return_, 1), (87, .iconst 0, 1)]
theorem zhdX12_tryPairs_48 : dzC ztdX12_tryPairs_48 48 (cX12_tryPairs.data.toList.drop 48) = true := by decide +kernel
theorem dX12_tryPairs_48 : decode cX12_tryPairs 48 = .ok (.putfield 373, 3) := dzr zhdX12_tryPairs_48 0 rfl
theorem dX12_tryPairs_51 : decode cX12_tryPairs 51 = .ok (.aload_n 0, 1) := dzr zhdX12_tryPairs_48 1 rfl
theorem dX12_tryPairs_52 : decode cX12_tryPairs 52 = .ok (.iload 4, 2) := dzr zhdX12_tryPairs_48 2 rfl
theorem dX12_tryPairs_54 : decode cX12_tryPairs 54 = .ok (.putfield 370, 3) := dzr zhdX12_tryPairs_48 3 rfl
theorem dX12_tryPairs_57 : decode cX12_tryPairs 57 = .ok (.return_, 1) := dzr zhdX12_tryPairs_48 4 rfl
theorem dX12_tryPairs_58 : decode cX12_tryPairs 58 = .ok (.aload_n 0, 1) := dzr zhdX12_tryPairs_48 5 rfl
theorem dX12_tryPairs_59 : decode cX12_tryPairs 59 = .ok (.iload_n 1, 1) := dzr zhdX12_tryPairs_48 6 rfl
theorem dX12_tryPairs_60 : decode cX12_tryPairs 60 = .ok (.iconst 0, 1) := dzr zhdX12_tryPairs_48 7 rfl
theorem dX12_tryPairs_61 : decode cX12_tryPairs 61 = .ok (.invokevirtual 258, 3) := dzr zhdX12_tryPairs_48 8 rfl
theorem dX12_tryPairs_64 : decode cX12_tryPairs 64 = .ok (.ifCond .ne 11, 3) := dzr zhdX12_tryPairs_48 9 rfl
theorem dX12_tryPairs_67 : decode cX12_tryPairs 67 = .ok (.aload_n 0, 1) := dzr zhdX12_tryPairs_48 10 rfl
theorem dX12_tryPairs_68 : decode cX12_tryPairs 68 = .ok (.iload_n 1, 1) := dzr zhdX12_tryPairs_48 11 rfl
theorem dX12_tryPairs_69 : decode cX12_tryPairs 69 = .ok (.invokevirtual 313, 3) := dzr zhdX12_tryPairs_48 12 rfl
theorem dX12_tryPairs_72 : decode cX12_tryPairs 72 = .ok (.ifCond .ne 15, 3) := dzr zhdX12_tryPairs_48 13 rfl
theorem dX12_tryPairs_75 : decode cX12_tryPairs 75 = .ok (.aload_n 0, 1) := dzr zhdX12_tryPairs_48 14 rfl
theorem dX12_tryPairs_76 : decode cX12_tryPairs 76 = .ok (.iload_n 1, 1) := dzr zhdX12_tryPairs_48 15 rfl
theorem dX12_tryPairs_77 : decode cX12_tryPairs 77 = .ok (.iconst 1, 1) := dzr zhdX12_tryPairs_48 16 rfl
theorem dX12_tryPairs_78 : decode cX12_tryPairs 78 = .ok (.iadd, 1) := dzr zhdX12_tryPairs_48 17 rfl
theorem dX12_tryPairs_79 : decode cX12_tryPairs 79 = .ok (.iload_n 2, 1) := dzr zhdX12_tryPairs_48 18 rfl
theorem dX12_tryPairs_80 : decode cX12_tryPairs 80 = .ok (.iload_n 3, 1) := dzr zhdX12_tryPairs_48 19 rfl
theorem dX12_tryPairs_81 : decode cX12_tryPairs 81 = .ok (.iload 4, 2) := dzr zhdX12_tryPairs_48 20 rfl
theorem dX12_tryPairs_83 : decode cX12_tryPairs 83 = .ok (.invokevirtual 376, 3) := dzr zhdX12_tryPairs_48 21 rfl
theorem dX12_tryPairs_86 : decode cX12_tryPairs 86 = .ok (.return_, 1) := dzr zhdX12_tryPairs_48 22 rfl
theorem dX12_tryPairs_87 : decode cX12_tryPairs 87 = .ok (.iconst 0, 1) := dzr zhdX12_tryPairs_48 23 rfl
def ztdX12_tryPairs_88 : List (Nat × Instr × Nat) := [(88, .istore 5, 2), (90, .iload 5, 2), (92, .aload_n 0, 1), (93, .getfield 252, 3), (96, .if_icmp .ge 67, 3), (99, .aload_n 0, 1), (100, .iload_n 1, 1), (101, .iload 5, 2), (103, .invokevirtual 316, 3), (106, .ifCond .eq 51, 3), (109, .aload_n 0, 1), (110, .iload 5, 2), (112, .invokevirtual 313, 3), (115, .ifCond .eq 42, 3), (118, .iload_n 2, 1), (119, .iload 5, 2), (121, .invokestatic 222, 3), (124, .ifCond .ne 33, 3), (127, .aload_n 0, 1), (128, .iload_n 1, 1), (129, .iconst 1, 1), (130, .iadd, 1), (131, .iload_n 2, 1), (132, .iconst 1, 1)]
theorem zhdX12_tryPairs_88 : dzC ztdX12_tryPairs_88 88 (cX12_tryPairs.data.toList.drop 88) = true := by decide +kernel
theorem dX12_tryPairs_88 : decode cX12_tryPairs 88 = .ok (.istore 5, 2) := dzr zhdX12_tryPairs_88 0 rfl
theorem dX12_tryPairs_90 : decode cX12_tryPairs 90 = .ok (.iload 5, 2) := dzr zhdX12_tryPairs_88 1 rfl
theorem dX12_tryPairs_92 : decode cX12_tryPairs 92 = .ok (.aload_n 0, 1) := dzr zhdX12_tryPairs_88 2 rfl
theorem dX12_tryPairs_93 : decode cX12_tryPairs 93 = .ok (.getfield 252, 3) := dzr zhdX12_tryPairs_88 3 rfl
theorem dX12_tryPairs_96 : decode cX12_tryPairs 96 = .ok (.if_icmp .ge 67, 3) := dzr zhdX12_tryPairs_88 4 rfl
theorem dX12_tryPairs_99 : decode cX12_tryPairs 99 = .ok (.aload_n 0, 1) := dzr zhdX12_tryPairs_88 5 rfl
theorem dX12_tryPairs_100 : decode cX12_tryPairs 100 = .ok (.iload_n 1, 1) := dzr zhdX12_tryPairs_88 6 rfl
theorem dX12_tryPairs_101 : decode cX12_tryPairs 101 = .ok (.iload 5, 2) := dzr zhdX12_tryPairs_88 7 rfl
theorem dX12_tryPairs_103 : decode cX12_tryPairs 103 = .ok (.invokevirtual 316, 3) := dzr zhdX12_tryPairs_88 8 rfl
theorem dX12_tryPairs_106 : decode cX12_tryPairs 106 = .ok (.ifCond .eq 51, 3) := dzr zhdX12_tryPairs_88 9 rfl
theorem dX12_tryPairs_109 : decode cX12_tryPairs 109 = .ok (.aload_n 0, 1) := dzr zhdX12_tryPairs_88 10 rfl
theorem dX12_tryPairs_110 : decode cX12_tryPairs 110 = .ok (.iload 5, 2) := dzr zhdX12_tryPairs_88 11 rfl
theorem dX12_tryPairs_112 : decode cX12_tryPairs 112 = .ok (.invokevirtual 313, 3) := dzr zhdX12_tryPairs_88 12 rfl
theorem dX12_tryPairs_115 : decode cX12_tryPairs 115 = .ok (.ifCond .eq 42, 3) := dzr zhdX12_tryPairs_88 13 rfl
theorem dX12_tryPairs_118 : decode cX12_tryPairs 118 = .ok (.iload_n 2, 1) := dzr zhdX12_tryPairs_88 14 rfl
theorem dX12_tryPairs_119 : decode cX12_tryPairs 119 = .ok (.iload 5, 2) := dzr zhdX12_tryPairs_88 15 rfl
theorem dX12_tryPairs_121 : decode cX12_tryPairs 121 = .ok (.invokestatic 222, 3) := dzr zhdX12_tryPairs_88 16 rfl
theorem dX12_tryPairs_124 : decode cX12_tryPairs 124 = .ok (.ifCond .ne 33, 3) := dzr zhdX12_tryPairs_88 17 rfl
theorem dX12_tryPairs_127 : decode cX12_tryPairs 127 = .ok (.aload_n 0, 1) := dzr zhdX12_tryPairs_88 18 rfl
theorem dX12_tryPairs_128 : decode cX12_tryPairs 128 = .ok (.iload_n 1, 1) := dzr zhdX12_tryPairs_88 19 rfl
theorem dX12_tryPairs_129 : decode cX12_tryPairs 129 = .ok (.iconst 1, 1) := dzr zhdX12_tryPairs_88 20 rfl
theorem dX12_tryPairs_130 : decode cX12_tryPairs 130 = .ok (.iadd, 1) := dzr zhdX12_tryPairs_88 21 rfl
theorem dX12_tryPairs_131 : decode cX12_tryPairs 131 = .ok (.iload_n 2, 1) := dzr zhdX12_tryPairs_88 22 rfl
theorem dX12_tryPairs_132 : decode cX12_tryPairs 132 = .ok (.iconst 1, 1) := dzr zhdX12_tryPairs_88 23 rfl
def ztdX12_tryPairs_133 : List (Nat × Instr × Nat) := [(133, .iload 5, 2), (135, .ishl, 1), (136, .ior, 1), (137, .bipush 10, 2), (139, .iload_n 3, 1), (140, .imul, 1), (141, .iload 5, 2), (143, .iadd, 1), (144, .iload 4, 2), (146, .aload_n 0, 1), (147, .iload_n 1, 1), (148, .iload 5, 2), (150, .invokevirtual 304, 3), (153, .iadd, 1), (154, .invokevirtual 376, 3), (157, .iinc 5 1, 3), (160, .goto (-70), 3), (163, .aload_n 0, 1), (164, .iload_n 1, 1), (165, .iconst 1, 1), (166, .iadd, 1), (167, .iload_n 2, 1), (168, .bipush 10, 2), (170, .iload_n 3, 1)]
theorem zhdX12_tryPairs_133 : dzC ztdX12_tryPairs_133 133 (cX12_tryPairs.data.toList.drop 133) = true := by decide +kernel
theorem dX12_tryPairs_133 : decode cX12_tryPairs 133 = .ok (.iload 5, 2) := dzr zhdX12_tryPairs_133 0 rfl
theorem dX12_tryPairs_135 : decode cX12_tryPairs 135 = .ok (.ishl, 1) := dzr zhdX12_tryPairs_133 1 rfl
theorem dX12_tryPairs_136 : decode cX12_tryPairs 136 = .ok (.ior, 1) := dzr zhdX12_tryPairs_133 2 rfl
theorem dX12_tryPairs_137 : decode cX12_tryPairs 137 = .ok (.bipush 10, 2) := dzr zhdX12_tryPairs_133 3 rfl
theorem dX12_tryPairs_139 : decode cX12_tryPairs 139 = .ok (.iload_n 3, 1) := dzr zhdX12_tryPairs_133 4 rfl
theorem dX12_tryPairs_140 : decode cX12_tryPairs 140 = .ok (.imul, 1) := dzr zhdX12_tryPairs_133 5 rfl
theorem dX12_tryPairs_141 : decode cX12_tryPairs 141 = .ok (.iload 5, 2) := dzr zhdX12_tryPairs_133 6 rfl
theorem dX12_tryPairs_143 : decode cX12_tryPairs 143 = .ok (.iadd, 1) := dzr zhdX12_tryPairs_133 7 rfl
theorem dX12_tryPairs_144 : decode cX12_tryPairs 144 = .ok (.iload 4, 2) := dzr zhdX12_tryPairs_133 8 rfl
theorem dX12_tryPairs_146 : decode cX12_tryPairs 146 = .ok (.aload_n 0, 1) := dzr zhdX12_tryPairs_133 9 rfl
theorem dX12_tryPairs_147 : decode cX12_tryPairs 147 = .ok (.iload_n 1, 1) := dzr zhdX12_tryPairs_133 10 rfl
theorem dX12_tryPairs_148 : decode cX12_tryPairs 148 = .ok (.iload 5, 2) := dzr zhdX12_tryPairs_133 11 rfl
theorem dX12_tryPairs_150 : decode cX12_tryPairs 150 = .ok (.invokevirtual 304, 3) := dzr zhdX12_tryPairs_133 12 rfl
theorem dX12_tryPairs_153 : decode cX12_tryPairs 153 = .ok (.iadd, 1) := dzr zhdX12_tryPairs_133 13 rfl
theorem dX12_tryPairs_154 : decode cX12_tryPairs 154 = .ok (.invokevirtual 376, 3) := dzr zhdX12_tryPairs_133 14 rfl
theorem dX12_tryPairs_157 : decode cX12_tryPairs 157 = .ok (.iinc 5 1, 3) := dzr zhdX12_tryPairs_133 15 rfl
theorem dX12_tryPairs_160 : decode cX12_tryPairs 160 = .ok (.goto (-70), 3) := dzr zhdX12_tryPairs_133 16 rfl
theorem dX12_tryPairs_163 : decode cX12_tryPairs 163 = .ok (.aload_n 0, 1) := dzr zhdX12_tryPairs_133 17 rfl
theorem dX12_tryPairs_164 : decode cX12_tryPairs 164 = .ok (.iload_n 1, 1) := dzr zhdX12_tryPairs_133 18 rfl
theorem dX12_tryPairs_165 : decode cX12_tryPairs 165 = .ok (.iconst 1, 1) := dzr zhdX12_tryPairs_133 19 rfl
theorem dX12_tryPairs_166 : decode cX12_tryPairs 166 = .ok (.iadd, 1) := dzr zhdX12_tryPairs_133 20 rfl
theorem dX12_tryPairs_167 : decode cX12_tryPairs 167 = .ok (.iload_n 2, 1) := dzr zhdX12_tryPairs_133 21 rfl
theorem dX12_tryPairs_168 : decode cX12_tryPairs 168 = .ok (.bipush 10, 2) := dzr zhdX12_tryPairs_133 22 rfl
theorem dX12_tryPairs_170 : decode cX12_tryPairs 170 = .ok (.iload_n 3, 1) := dzr zhdX12_tryPairs_133 23 rfl
def ztdX12_tryPairs_171 : List (Nat × Instr × Nat) := [(171, .imul, 1), (172, .bipush 9, 2), (174, .iadd, 1), (175, .iload 4, 2), (177, .invokevirtual 376, 3), (180, .return_, 1)]
theorem zhdX12_tryPairs_171 : dzC ztdX12_tryPairs_171 171 (cX12_tryPairs.data.toList.drop 171) = true := by decide +kernel
theorem dX12_tryPairs_171 : decode cX12_tryPairs 171 = .ok (.imul, 1) := dzr zhdX12_tryPairs_171 0 rfl
theorem dX12_tryPairs_172 : decode cX12_tryPairs 172 = .ok (.bipush 9, 2) := dzr zhdX12_tryPairs_171 1 rfl
theorem dX12_tryPairs_174 : decode cX12_tryPairs 174 = .ok (.iadd, 1) := dzr zhdX12_tryPairs_171 2 rfl
theorem dX12_tryPairs_175 : decode cX12_tryPairs 175 = .ok (.iload 4, 2) := dzr zhdX12_tryPairs_171 3 rfl
theorem dX12_tryPairs_177 : decode cX12_tryPairs 177 = .ok (.invokevirtual 376, 3) := dzr zhdX12_tryPairs_171 4 rfl
theorem dX12_tryPairs_180 : decode cX12_tryPairs 180 = .ok (.return_, 1) := dzr zhdX12_tryPairs_171 5 rfl
theorem ggX12_freeOfFirst_X12_of : GoodIn wsX12_freeOfFirst wsX12_of := (bg_up (bg_law (bi_wsL_law0_r22 _ (List.mem_of_getElem? (i := 21) rfl))))
theorem gX12_freeOfFirst_X12_of : GoodIn wsX12_freeOfFirst (wsV RX12 258 RX12 yX12_of wsX12_of) := goodIn_app (bg_up (bg_cons (bi_wsL_law0_r22 _ (List.mem_of_getElem? (i := 18) rfl)) (bg_cons (bi_wsL_law0_r22 _ (List.mem_of_getElem? (i := 19) rfl)) (bg_cons (bi_wsL_law0_r22 _ (List.mem_of_getElem? (i := 20) rfl)) (bg_cons (bi_wsL_law0_r1 _ (List.mem_of_getElem? (i := 5) rfl)) bg_nil))))) (bg_up (bg_law (bi_wsL_law0_r22 _ (List.mem_of_getElem? (i := 21) rfl))))
theorem ggX12_freeOfFirst_X12_isFree : GoodIn wsX12_freeOfFirst wsX12_isFree := (bg_up (bg_law (bi_wsL_law0_r25 _ (List.mem_of_getElem? (i := 15) rfl))))
theorem gX12_freeOfFirst_X12_isFree : GoodIn wsX12_freeOfFirst (wsV RX12 313 RX12 yX12_isFree wsX12_isFree) := goodIn_app (bg_up (bg_cons (bi_wsL_law0_r25 _ (List.mem_of_getElem? (i := 12) rfl)) (bg_cons (bi_wsL_law0_r25 _ (List.mem_of_getElem? (i := 13) rfl)) (bg_cons (bi_wsL_law0_r25 _ (List.mem_of_getElem? (i := 14) rfl)) (bg_cons (bi_wsL_law0_r1 _ (List.mem_of_getElem? (i := 5) rfl)) bg_nil))))) (bg_up (bg_law (bi_wsL_law0_r25 _ (List.mem_of_getElem? (i := 15) rfl))))
def ztdX12_freeOfFirst_0 : List (Nat × Instr × Nat) := [(0, .iconst 0, 1), (1, .istore_n 1, 1), (2, .iconst 0, 1), (3, .istore_n 2, 1), (4, .iload_n 2, 1), (5, .aload_n 0, 1), (6, .getfield 252, 3), (9, .if_icmp .ge 34, 3), (12, .iload_n 1, 1), (13, .aload_n 0, 1), (14, .iload_n 2, 1), (15, .iconst 0, 1), (16, .invokevirtual 258, 3), (19, .ifCond .ne 15, 3), (22, .aload_n 0, 1), (23, .iload_n 2, 1), (24, .invokevirtual 313, 3), (27, .ifCond .eq 7, 3), (30, .iconst 1, 1), (31, .goto 4, 3), (34, .iconst 0, 1), (35, .iadd, 1), (36, .istore_n 1, 1), (37, .iinc 2 1, 3)]
theorem zhdX12_freeOfFirst_0 : dzC ztdX12_freeOfFirst_0 0 (cX12_freeOfFirst.data.toList.drop 0) = true := by decide +kernel
theorem dX12_freeOfFirst_0 : decode cX12_freeOfFirst 0 = .ok (.iconst 0, 1) := dzr zhdX12_freeOfFirst_0 0 rfl
theorem dX12_freeOfFirst_1 : decode cX12_freeOfFirst 1 = .ok (.istore_n 1, 1) := dzr zhdX12_freeOfFirst_0 1 rfl
theorem dX12_freeOfFirst_2 : decode cX12_freeOfFirst 2 = .ok (.iconst 0, 1) := dzr zhdX12_freeOfFirst_0 2 rfl
theorem dX12_freeOfFirst_3 : decode cX12_freeOfFirst 3 = .ok (.istore_n 2, 1) := dzr zhdX12_freeOfFirst_0 3 rfl
theorem dX12_freeOfFirst_4 : decode cX12_freeOfFirst 4 = .ok (.iload_n 2, 1) := dzr zhdX12_freeOfFirst_0 4 rfl
theorem dX12_freeOfFirst_5 : decode cX12_freeOfFirst 5 = .ok (.aload_n 0, 1) := dzr zhdX12_freeOfFirst_0 5 rfl
theorem dX12_freeOfFirst_6 : decode cX12_freeOfFirst 6 = .ok (.getfield 252, 3) := dzr zhdX12_freeOfFirst_0 6 rfl
theorem dX12_freeOfFirst_9 : decode cX12_freeOfFirst 9 = .ok (.if_icmp .ge 34, 3) := dzr zhdX12_freeOfFirst_0 7 rfl
theorem dX12_freeOfFirst_12 : decode cX12_freeOfFirst 12 = .ok (.iload_n 1, 1) := dzr zhdX12_freeOfFirst_0 8 rfl
theorem dX12_freeOfFirst_13 : decode cX12_freeOfFirst 13 = .ok (.aload_n 0, 1) := dzr zhdX12_freeOfFirst_0 9 rfl
theorem dX12_freeOfFirst_14 : decode cX12_freeOfFirst 14 = .ok (.iload_n 2, 1) := dzr zhdX12_freeOfFirst_0 10 rfl
theorem dX12_freeOfFirst_15 : decode cX12_freeOfFirst 15 = .ok (.iconst 0, 1) := dzr zhdX12_freeOfFirst_0 11 rfl
theorem dX12_freeOfFirst_16 : decode cX12_freeOfFirst 16 = .ok (.invokevirtual 258, 3) := dzr zhdX12_freeOfFirst_0 12 rfl
theorem dX12_freeOfFirst_19 : decode cX12_freeOfFirst 19 = .ok (.ifCond .ne 15, 3) := dzr zhdX12_freeOfFirst_0 13 rfl
theorem dX12_freeOfFirst_22 : decode cX12_freeOfFirst 22 = .ok (.aload_n 0, 1) := dzr zhdX12_freeOfFirst_0 14 rfl
theorem dX12_freeOfFirst_23 : decode cX12_freeOfFirst 23 = .ok (.iload_n 2, 1) := dzr zhdX12_freeOfFirst_0 15 rfl
theorem dX12_freeOfFirst_24 : decode cX12_freeOfFirst 24 = .ok (.invokevirtual 313, 3) := dzr zhdX12_freeOfFirst_0 16 rfl
theorem dX12_freeOfFirst_27 : decode cX12_freeOfFirst 27 = .ok (.ifCond .eq 7, 3) := dzr zhdX12_freeOfFirst_0 17 rfl
theorem dX12_freeOfFirst_30 : decode cX12_freeOfFirst 30 = .ok (.iconst 1, 1) := dzr zhdX12_freeOfFirst_0 18 rfl
theorem dX12_freeOfFirst_31 : decode cX12_freeOfFirst 31 = .ok (.goto 4, 3) := dzr zhdX12_freeOfFirst_0 19 rfl
theorem dX12_freeOfFirst_34 : decode cX12_freeOfFirst 34 = .ok (.iconst 0, 1) := dzr zhdX12_freeOfFirst_0 20 rfl
theorem dX12_freeOfFirst_35 : decode cX12_freeOfFirst 35 = .ok (.iadd, 1) := dzr zhdX12_freeOfFirst_0 21 rfl
theorem dX12_freeOfFirst_36 : decode cX12_freeOfFirst 36 = .ok (.istore_n 1, 1) := dzr zhdX12_freeOfFirst_0 22 rfl
theorem dX12_freeOfFirst_37 : decode cX12_freeOfFirst 37 = .ok (.iinc 2 1, 3) := dzr zhdX12_freeOfFirst_0 23 rfl
def ztdX12_freeOfFirst_40 : List (Nat × Instr × Nat) := [(40, .goto (-36), 3), (43, .iload_n 1, 1), (44, .ireturn, 1)]
theorem zhdX12_freeOfFirst_40 : dzC ztdX12_freeOfFirst_40 40 (cX12_freeOfFirst.data.toList.drop 40) = true := by decide +kernel
theorem dX12_freeOfFirst_40 : decode cX12_freeOfFirst 40 = .ok (.goto (-36), 3) := dzr zhdX12_freeOfFirst_40 0 rfl
theorem dX12_freeOfFirst_43 : decode cX12_freeOfFirst 43 = .ok (.iload_n 1, 1) := dzr zhdX12_freeOfFirst_40 1 rfl
theorem dX12_freeOfFirst_44 : decode cX12_freeOfFirst 44 = .ok (.ireturn, 1) := dzr zhdX12_freeOfFirst_40 2 rfl
theorem ggX12_layPairs_X12_tryPairs : GoodIn wsX12_layPairs wsX12_tryPairs := (bg_up (bg_law (bi_wsL_law0_r45 _ (List.mem_of_getElem? (i := 21) rfl))))
theorem gX12_layPairs_X12_tryPairs : GoodIn wsX12_layPairs (wsV RX12 376 RX12 yX12_tryPairs wsX12_tryPairs) := goodIn_app (bg_up (bg_cons (bi_wsL_law0_r45 _ (List.mem_of_getElem? (i := 18) rfl)) (bg_cons (bi_wsL_law0_r45 _ (List.mem_of_getElem? (i := 19) rfl)) (bg_cons (bi_wsL_law0_r45 _ (List.mem_of_getElem? (i := 20) rfl)) (bg_cons (bi_wsL_law0_r1 _ (List.mem_of_getElem? (i := 5) rfl)) bg_nil))))) (bg_up (bg_law (bi_wsL_law0_r45 _ (List.mem_of_getElem? (i := 21) rfl))))
def ztdX12_layPairs_0 : List (Nat × Instr × Nat) := [(0, .aload_n 0, 1), (1, .iconst 0, 1), (2, .putfield 367, 3), (5, .aload_n 0, 1), (6, .iconst 0, 1), (7, .iconst 0, 1), (8, .iconst 0, 1), (9, .iconst 0, 1), (10, .invokevirtual 376, 3), (13, .return_, 1)]
theorem zhdX12_layPairs_0 : dzC ztdX12_layPairs_0 0 (cX12_layPairs.data.toList.drop 0) = true := by decide +kernel
theorem dX12_layPairs_0 : decode cX12_layPairs 0 = .ok (.aload_n 0, 1) := dzr zhdX12_layPairs_0 0 rfl
theorem dX12_layPairs_1 : decode cX12_layPairs 1 = .ok (.iconst 0, 1) := dzr zhdX12_layPairs_0 1 rfl
theorem dX12_layPairs_2 : decode cX12_layPairs 2 = .ok (.putfield 367, 3) := dzr zhdX12_layPairs_0 2 rfl
theorem dX12_layPairs_5 : decode cX12_layPairs 5 = .ok (.aload_n 0, 1) := dzr zhdX12_layPairs_0 3 rfl
theorem dX12_layPairs_6 : decode cX12_layPairs 6 = .ok (.iconst 0, 1) := dzr zhdX12_layPairs_0 4 rfl
theorem dX12_layPairs_7 : decode cX12_layPairs 7 = .ok (.iconst 0, 1) := dzr zhdX12_layPairs_0 5 rfl
theorem dX12_layPairs_8 : decode cX12_layPairs 8 = .ok (.iconst 0, 1) := dzr zhdX12_layPairs_0 6 rfl
theorem dX12_layPairs_9 : decode cX12_layPairs 9 = .ok (.iconst 0, 1) := dzr zhdX12_layPairs_0 7 rfl
theorem dX12_layPairs_10 : decode cX12_layPairs 10 = .ok (.invokevirtual 376, 3) := dzr zhdX12_layPairs_0 8 rfl
theorem dX12_layPairs_13 : decode cX12_layPairs 13 = .ok (.return_, 1) := dzr zhdX12_layPairs_0 9 rfl
theorem ggX12_pairs_X12_in : GoodIn wsX12_pairs wsX12_in := (bg_up (bg_law (bi_wsL_law0_r16 _ (List.mem_of_getElem? (i := 21) rfl))))
theorem gX12_pairs_X12_in : GoodIn wsX12_pairs (va_wsS RX12 211 yX12_in wsX12_in) := goodIn_app (bg_up (bg_cons (bi_wsL_law0_r16 _ (List.mem_of_getElem? (i := 19) rfl)) (bg_cons (bi_wsL_law0_r16 _ (List.mem_of_getElem? (i := 20) rfl)) (bg_cons (bi_wsL_law0_r1 _ (List.mem_of_getElem? (i := 5) rfl)) bg_nil)))) (bg_up (bg_law (bi_wsL_law0_r16 _ (List.mem_of_getElem? (i := 21) rfl))))
theorem ggX12_pairs_X12_layPairs : GoodIn wsX12_pairs wsX12_layPairs := (bg_up (bg_law (bi_wsL_law0_r45 _ (List.mem_of_getElem? (i := 16) rfl))))
theorem gX12_pairs_X12_layPairs : GoodIn wsX12_pairs (wsV RX12 380 RX12 yX12_layPairs wsX12_layPairs) := goodIn_app (bg_up (bg_cons (bi_wsL_law0_r45 _ (List.mem_of_getElem? (i := 13) rfl)) (bg_cons (bi_wsL_law0_r45 _ (List.mem_of_getElem? (i := 14) rfl)) (bg_cons (bi_wsL_law0_r45 _ (List.mem_of_getElem? (i := 15) rfl)) (bg_cons (bi_wsL_law0_r1 _ (List.mem_of_getElem? (i := 5) rfl)) bg_nil))))) (bg_up (bg_law (bi_wsL_law0_r45 _ (List.mem_of_getElem? (i := 16) rfl))))
theorem ggX12_pairs_X12_freeOfFirst : GoodIn wsX12_pairs wsX12_freeOfFirst := (bg_up (bg_law (bi_wsL_law0_r46 _ (List.mem_of_getElem? (i := 1) rfl))))
theorem gX12_pairs_X12_freeOfFirst : GoodIn wsX12_pairs (wsV RX12 383 RX12 yX12_freeOfFirst wsX12_freeOfFirst) := goodIn_app (bg_up (bg_cons (bi_wsL_law0_r45 _ (List.mem_of_getElem? (i := 22) rfl)) (bg_cons (bi_wsL_law0_r45 _ (List.mem_of_getElem? (i := 23) rfl)) (bg_cons (bi_wsL_law0_r46 _ (List.mem_of_getElem? (i := 0) rfl)) (bg_cons (bi_wsL_law0_r1 _ (List.mem_of_getElem? (i := 5) rfl)) bg_nil))))) (bg_up (bg_law (bi_wsL_law0_r46 _ (List.mem_of_getElem? (i := 1) rfl))))
def ztdX12_pairs_0 : List (Nat × Instr × Nat) := [(0, .aload_n 0, 1), (1, .getfield 252, 3), (4, .ifCond .eq 12, 3), (7, .iload_n 1, 1), (8, .iconst 0, 1), (9, .iconst 1, 1), (10, .invokestatic 211, 3), (13, .ifCond .ne 7, 3), (16, .ldc_w 363, 3), (19, .ireturn, 1), (20, .aload_n 0, 1), (21, .invokevirtual 380, 3), (24, .iload_n 1, 1), (25, .iconst 1, 1), (26, .if_icmp .ne 10, 3), (29, .aload_n 0, 1), (30, .getfield 370, 3), (33, .goto 18, 3), (36, .aload_n 0, 1), (37, .invokevirtual 383, 3), (40, .ifCond .ne 7, 3), (43, .iconst (-1), 1), (44, .goto 7, 3), (47, .aload_n 0, 1)]
theorem zhdX12_pairs_0 : dzC ztdX12_pairs_0 0 (cX12_pairs.data.toList.drop 0) = true := by decide +kernel
theorem dX12_pairs_0 : decode cX12_pairs 0 = .ok (.aload_n 0, 1) := dzr zhdX12_pairs_0 0 rfl
theorem dX12_pairs_1 : decode cX12_pairs 1 = .ok (.getfield 252, 3) := dzr zhdX12_pairs_0 1 rfl
theorem dX12_pairs_4 : decode cX12_pairs 4 = .ok (.ifCond .eq 12, 3) := dzr zhdX12_pairs_0 2 rfl
theorem dX12_pairs_7 : decode cX12_pairs 7 = .ok (.iload_n 1, 1) := dzr zhdX12_pairs_0 3 rfl
theorem dX12_pairs_8 : decode cX12_pairs 8 = .ok (.iconst 0, 1) := dzr zhdX12_pairs_0 4 rfl
theorem dX12_pairs_9 : decode cX12_pairs 9 = .ok (.iconst 1, 1) := dzr zhdX12_pairs_0 5 rfl
theorem dX12_pairs_10 : decode cX12_pairs 10 = .ok (.invokestatic 211, 3) := dzr zhdX12_pairs_0 6 rfl
theorem dX12_pairs_13 : decode cX12_pairs 13 = .ok (.ifCond .ne 7, 3) := dzr zhdX12_pairs_0 7 rfl
theorem dX12_pairs_16 : decode cX12_pairs 16 = .ok (.ldc_w 363, 3) := dzr zhdX12_pairs_0 8 rfl
theorem dX12_pairs_19 : decode cX12_pairs 19 = .ok (.ireturn, 1) := dzr zhdX12_pairs_0 9 rfl
theorem dX12_pairs_20 : decode cX12_pairs 20 = .ok (.aload_n 0, 1) := dzr zhdX12_pairs_0 10 rfl
theorem dX12_pairs_21 : decode cX12_pairs 21 = .ok (.invokevirtual 380, 3) := dzr zhdX12_pairs_0 11 rfl
theorem dX12_pairs_24 : decode cX12_pairs 24 = .ok (.iload_n 1, 1) := dzr zhdX12_pairs_0 12 rfl
theorem dX12_pairs_25 : decode cX12_pairs 25 = .ok (.iconst 1, 1) := dzr zhdX12_pairs_0 13 rfl
theorem dX12_pairs_26 : decode cX12_pairs 26 = .ok (.if_icmp .ne 10, 3) := dzr zhdX12_pairs_0 14 rfl
theorem dX12_pairs_29 : decode cX12_pairs 29 = .ok (.aload_n 0, 1) := dzr zhdX12_pairs_0 15 rfl
theorem dX12_pairs_30 : decode cX12_pairs 30 = .ok (.getfield 370, 3) := dzr zhdX12_pairs_0 16 rfl
theorem dX12_pairs_33 : decode cX12_pairs 33 = .ok (.goto 18, 3) := dzr zhdX12_pairs_0 17 rfl
theorem dX12_pairs_36 : decode cX12_pairs 36 = .ok (.aload_n 0, 1) := dzr zhdX12_pairs_0 18 rfl
theorem dX12_pairs_37 : decode cX12_pairs 37 = .ok (.invokevirtual 383, 3) := dzr zhdX12_pairs_0 19 rfl
theorem dX12_pairs_40 : decode cX12_pairs 40 = .ok (.ifCond .ne 7, 3) := dzr zhdX12_pairs_0 20 rfl
theorem dX12_pairs_43 : decode cX12_pairs 43 = .ok (.iconst (-1), 1) := dzr zhdX12_pairs_0 21 rfl
theorem dX12_pairs_44 : decode cX12_pairs 44 = .ok (.goto 7, 3) := dzr zhdX12_pairs_0 22 rfl
theorem dX12_pairs_47 : decode cX12_pairs 47 = .ok (.aload_n 0, 1) := dzr zhdX12_pairs_0 23 rfl
def ztdX12_pairs_48 : List (Nat × Instr × Nat) := [(48, .getfield 373, 3), (51, .ireturn, 1)]
theorem zhdX12_pairs_48 : dzC ztdX12_pairs_48 48 (cX12_pairs.data.toList.drop 48) = true := by decide +kernel
theorem dX12_pairs_48 : decode cX12_pairs 48 = .ok (.getfield 373, 3) := dzr zhdX12_pairs_48 0 rfl
theorem dX12_pairs_51 : decode cX12_pairs 51 = .ok (.ireturn, 1) := dzr zhdX12_pairs_48 1 rfl
def ztdX12_doAllKnow_0 : List (Nat × Instr × Nat) := [(0, .iconst 1, 1), (1, .istore_n 1, 1), (2, .iconst 0, 1), (3, .istore_n 2, 1), (4, .iload_n 2, 1), (5, .aload_n 0, 1), (6, .getfield 252, 3), (9, .if_icmp .ge 39, 3), (12, .iload_n 1, 1), (13, .ifCond .eq 27, 3), (16, .aload_n 0, 1), (17, .getfield 58, 3), (20, .bipush 48, 2), (22, .iload_n 2, 1), (23, .iadd, 1), (24, .iaload, 1), (25, .iconst 1, 1), (26, .aload_n 0, 1), (27, .getfield 252, 3), (30, .ishl, 1), (31, .iconst 1, 1), (32, .isub, 1), (33, .if_icmp .ne 7, 3), (36, .iconst 1, 1)]
theorem zhdX12_doAllKnow_0 : dzC ztdX12_doAllKnow_0 0 (cX12_doAllKnow.data.toList.drop 0) = true := by decide +kernel
theorem dX12_doAllKnow_0 : decode cX12_doAllKnow 0 = .ok (.iconst 1, 1) := dzr zhdX12_doAllKnow_0 0 rfl
theorem dX12_doAllKnow_1 : decode cX12_doAllKnow 1 = .ok (.istore_n 1, 1) := dzr zhdX12_doAllKnow_0 1 rfl
theorem dX12_doAllKnow_2 : decode cX12_doAllKnow 2 = .ok (.iconst 0, 1) := dzr zhdX12_doAllKnow_0 2 rfl
theorem dX12_doAllKnow_3 : decode cX12_doAllKnow 3 = .ok (.istore_n 2, 1) := dzr zhdX12_doAllKnow_0 3 rfl
theorem dX12_doAllKnow_4 : decode cX12_doAllKnow 4 = .ok (.iload_n 2, 1) := dzr zhdX12_doAllKnow_0 4 rfl
theorem dX12_doAllKnow_5 : decode cX12_doAllKnow 5 = .ok (.aload_n 0, 1) := dzr zhdX12_doAllKnow_0 5 rfl
theorem dX12_doAllKnow_6 : decode cX12_doAllKnow 6 = .ok (.getfield 252, 3) := dzr zhdX12_doAllKnow_0 6 rfl
theorem dX12_doAllKnow_9 : decode cX12_doAllKnow 9 = .ok (.if_icmp .ge 39, 3) := dzr zhdX12_doAllKnow_0 7 rfl
theorem dX12_doAllKnow_12 : decode cX12_doAllKnow 12 = .ok (.iload_n 1, 1) := dzr zhdX12_doAllKnow_0 8 rfl
theorem dX12_doAllKnow_13 : decode cX12_doAllKnow 13 = .ok (.ifCond .eq 27, 3) := dzr zhdX12_doAllKnow_0 9 rfl
theorem dX12_doAllKnow_16 : decode cX12_doAllKnow 16 = .ok (.aload_n 0, 1) := dzr zhdX12_doAllKnow_0 10 rfl
theorem dX12_doAllKnow_17 : decode cX12_doAllKnow 17 = .ok (.getfield 58, 3) := dzr zhdX12_doAllKnow_0 11 rfl
theorem dX12_doAllKnow_20 : decode cX12_doAllKnow 20 = .ok (.bipush 48, 2) := dzr zhdX12_doAllKnow_0 12 rfl
theorem dX12_doAllKnow_22 : decode cX12_doAllKnow 22 = .ok (.iload_n 2, 1) := dzr zhdX12_doAllKnow_0 13 rfl
theorem dX12_doAllKnow_23 : decode cX12_doAllKnow 23 = .ok (.iadd, 1) := dzr zhdX12_doAllKnow_0 14 rfl
theorem dX12_doAllKnow_24 : decode cX12_doAllKnow 24 = .ok (.iaload, 1) := dzr zhdX12_doAllKnow_0 15 rfl
theorem dX12_doAllKnow_25 : decode cX12_doAllKnow 25 = .ok (.iconst 1, 1) := dzr zhdX12_doAllKnow_0 16 rfl
theorem dX12_doAllKnow_26 : decode cX12_doAllKnow 26 = .ok (.aload_n 0, 1) := dzr zhdX12_doAllKnow_0 17 rfl
theorem dX12_doAllKnow_27 : decode cX12_doAllKnow 27 = .ok (.getfield 252, 3) := dzr zhdX12_doAllKnow_0 18 rfl
theorem dX12_doAllKnow_30 : decode cX12_doAllKnow 30 = .ok (.ishl, 1) := dzr zhdX12_doAllKnow_0 19 rfl
theorem dX12_doAllKnow_31 : decode cX12_doAllKnow 31 = .ok (.iconst 1, 1) := dzr zhdX12_doAllKnow_0 20 rfl
theorem dX12_doAllKnow_32 : decode cX12_doAllKnow 32 = .ok (.isub, 1) := dzr zhdX12_doAllKnow_0 21 rfl
theorem dX12_doAllKnow_33 : decode cX12_doAllKnow 33 = .ok (.if_icmp .ne 7, 3) := dzr zhdX12_doAllKnow_0 22 rfl
theorem dX12_doAllKnow_36 : decode cX12_doAllKnow 36 = .ok (.iconst 1, 1) := dzr zhdX12_doAllKnow_0 23 rfl
def ztdX12_doAllKnow_37 : List (Nat × Instr × Nat) := [(37, .goto 4, 3), (40, .iconst 0, 1), (41, .istore_n 1, 1), (42, .iinc 2 1, 3), (45, .goto (-41), 3), (48, .iload_n 1, 1), (49, .ireturn, 1)]
theorem zhdX12_doAllKnow_37 : dzC ztdX12_doAllKnow_37 37 (cX12_doAllKnow.data.toList.drop 37) = true := by decide +kernel
theorem dX12_doAllKnow_37 : decode cX12_doAllKnow 37 = .ok (.goto 4, 3) := dzr zhdX12_doAllKnow_37 0 rfl
theorem dX12_doAllKnow_40 : decode cX12_doAllKnow 40 = .ok (.iconst 0, 1) := dzr zhdX12_doAllKnow_37 1 rfl
theorem dX12_doAllKnow_41 : decode cX12_doAllKnow 41 = .ok (.istore_n 1, 1) := dzr zhdX12_doAllKnow_37 2 rfl
theorem dX12_doAllKnow_42 : decode cX12_doAllKnow 42 = .ok (.iinc 2 1, 3) := dzr zhdX12_doAllKnow_37 3 rfl
theorem dX12_doAllKnow_45 : decode cX12_doAllKnow 45 = .ok (.goto (-41), 3) := dzr zhdX12_doAllKnow_37 4 rfl
theorem dX12_doAllKnow_48 : decode cX12_doAllKnow 48 = .ok (.iload_n 1, 1) := dzr zhdX12_doAllKnow_37 5 rfl
theorem dX12_doAllKnow_49 : decode cX12_doAllKnow 49 = .ok (.ireturn, 1) := dzr zhdX12_doAllKnow_37 6 rfl
theorem ggX12_meetPairs_X12_layPairs : GoodIn wsX12_meetPairs wsX12_layPairs := (bg_up (bg_law (bi_wsL_law0_r45 _ (List.mem_of_getElem? (i := 16) rfl))))
theorem gX12_meetPairs_X12_layPairs : GoodIn wsX12_meetPairs (wsV RX12 380 RX12 yX12_layPairs wsX12_layPairs) := goodIn_app (bg_up (bg_cons (bi_wsL_law0_r45 _ (List.mem_of_getElem? (i := 13) rfl)) (bg_cons (bi_wsL_law0_r45 _ (List.mem_of_getElem? (i := 14) rfl)) (bg_cons (bi_wsL_law0_r45 _ (List.mem_of_getElem? (i := 15) rfl)) (bg_cons (bi_wsL_law0_r1 _ (List.mem_of_getElem? (i := 5) rfl)) bg_nil))))) (bg_up (bg_law (bi_wsL_law0_r45 _ (List.mem_of_getElem? (i := 16) rfl))))
theorem ggX12_meetPairs_X12_of : GoodIn wsX12_meetPairs wsX12_of := (bg_up (bg_law (bi_wsL_law0_r22 _ (List.mem_of_getElem? (i := 21) rfl))))
theorem gX12_meetPairs_X12_of : GoodIn wsX12_meetPairs (wsV RX12 258 RX12 yX12_of wsX12_of) := goodIn_app (bg_up (bg_cons (bi_wsL_law0_r22 _ (List.mem_of_getElem? (i := 18) rfl)) (bg_cons (bi_wsL_law0_r22 _ (List.mem_of_getElem? (i := 19) rfl)) (bg_cons (bi_wsL_law0_r22 _ (List.mem_of_getElem? (i := 20) rfl)) (bg_cons (bi_wsL_law0_r1 _ (List.mem_of_getElem? (i := 5) rfl)) bg_nil))))) (bg_up (bg_law (bi_wsL_law0_r22 _ (List.mem_of_getElem? (i := 21) rfl))))
theorem ggX12_meetPairs_X12_isFree : GoodIn wsX12_meetPairs wsX12_isFree := (bg_up (bg_law (bi_wsL_law0_r25 _ (List.mem_of_getElem? (i := 15) rfl))))
theorem gX12_meetPairs_X12_isFree : GoodIn wsX12_meetPairs (wsV RX12 313 RX12 yX12_isFree wsX12_isFree) := goodIn_app (bg_up (bg_cons (bi_wsL_law0_r25 _ (List.mem_of_getElem? (i := 12) rfl)) (bg_cons (bi_wsL_law0_r25 _ (List.mem_of_getElem? (i := 13) rfl)) (bg_cons (bi_wsL_law0_r25 _ (List.mem_of_getElem? (i := 14) rfl)) (bg_cons (bi_wsL_law0_r1 _ (List.mem_of_getElem? (i := 5) rfl)) bg_nil))))) (bg_up (bg_law (bi_wsL_law0_r25 _ (List.mem_of_getElem? (i := 15) rfl))))
theorem ggX12_meetPairs_X12_meetNow : GoodIn wsX12_meetPairs wsX12_meetNow := (bg_up (bg_law (bi_wsL_law0_r32 _ (List.mem_of_getElem? (i := 2) rfl))))
theorem gX12_meetPairs_X12_meetNow : GoodIn wsX12_meetPairs (wsV RX12 340 RX12 yX12_meetNow wsX12_meetNow) := goodIn_app (bg_up (bg_cons (bi_wsL_law0_r31 _ (List.mem_of_getElem? (i := 23) rfl)) (bg_cons (bi_wsL_law0_r32 _ (List.mem_of_getElem? (i := 0) rfl)) (bg_cons (bi_wsL_law0_r32 _ (List.mem_of_getElem? (i := 1) rfl)) (bg_cons (bi_wsL_law0_r1 _ (List.mem_of_getElem? (i := 5) rfl)) bg_nil))))) (bg_up (bg_law (bi_wsL_law0_r32 _ (List.mem_of_getElem? (i := 2) rfl))))
def ztdX12_meetPairs_0 : List (Nat × Instr × Nat) := [(0, .aload_n 0, 1), (1, .invokevirtual 380, 3), (4, .aload_n 0, 1), (5, .getfield 373, 3), (8, .istore_n 1, 1), (9, .aload_n 0, 1), (10, .getfield 252, 3), (13, .iconst 1, 1), (14, .isub, 1), (15, .istore_n 2, 1), (16, .iload_n 2, 1), (17, .ifCond .lt 64, 3), (20, .aload_n 0, 1), (21, .iload_n 2, 1), (22, .iconst 0, 1), (23, .invokevirtual 258, 3), (26, .ifCond .ne 15, 3), (29, .aload_n 0, 1), (30, .iload_n 2, 1), (31, .invokevirtual 313, 3), (34, .ifCond .eq 7, 3), (37, .iconst 1, 1), (38, .goto 4, 3), (41, .iconst 0, 1)]
theorem zhdX12_meetPairs_0 : dzC ztdX12_meetPairs_0 0 (cX12_meetPairs.data.toList.drop 0) = true := by decide +kernel
theorem dX12_meetPairs_0 : decode cX12_meetPairs 0 = .ok (.aload_n 0, 1) := dzr zhdX12_meetPairs_0 0 rfl
theorem dX12_meetPairs_1 : decode cX12_meetPairs 1 = .ok (.invokevirtual 380, 3) := dzr zhdX12_meetPairs_0 1 rfl
theorem dX12_meetPairs_4 : decode cX12_meetPairs 4 = .ok (.aload_n 0, 1) := dzr zhdX12_meetPairs_0 2 rfl
theorem dX12_meetPairs_5 : decode cX12_meetPairs 5 = .ok (.getfield 373, 3) := dzr zhdX12_meetPairs_0 3 rfl
theorem dX12_meetPairs_8 : decode cX12_meetPairs 8 = .ok (.istore_n 1, 1) := dzr zhdX12_meetPairs_0 4 rfl
theorem dX12_meetPairs_9 : decode cX12_meetPairs 9 = .ok (.aload_n 0, 1) := dzr zhdX12_meetPairs_0 5 rfl
theorem dX12_meetPairs_10 : decode cX12_meetPairs 10 = .ok (.getfield 252, 3) := dzr zhdX12_meetPairs_0 6 rfl
theorem dX12_meetPairs_13 : decode cX12_meetPairs 13 = .ok (.iconst 1, 1) := dzr zhdX12_meetPairs_0 7 rfl
theorem dX12_meetPairs_14 : decode cX12_meetPairs 14 = .ok (.isub, 1) := dzr zhdX12_meetPairs_0 8 rfl
theorem dX12_meetPairs_15 : decode cX12_meetPairs 15 = .ok (.istore_n 2, 1) := dzr zhdX12_meetPairs_0 9 rfl
theorem dX12_meetPairs_16 : decode cX12_meetPairs 16 = .ok (.iload_n 2, 1) := dzr zhdX12_meetPairs_0 10 rfl
theorem dX12_meetPairs_17 : decode cX12_meetPairs 17 = .ok (.ifCond .lt 64, 3) := dzr zhdX12_meetPairs_0 11 rfl
theorem dX12_meetPairs_20 : decode cX12_meetPairs 20 = .ok (.aload_n 0, 1) := dzr zhdX12_meetPairs_0 12 rfl
theorem dX12_meetPairs_21 : decode cX12_meetPairs 21 = .ok (.iload_n 2, 1) := dzr zhdX12_meetPairs_0 13 rfl
theorem dX12_meetPairs_22 : decode cX12_meetPairs 22 = .ok (.iconst 0, 1) := dzr zhdX12_meetPairs_0 14 rfl
theorem dX12_meetPairs_23 : decode cX12_meetPairs 23 = .ok (.invokevirtual 258, 3) := dzr zhdX12_meetPairs_0 15 rfl
theorem dX12_meetPairs_26 : decode cX12_meetPairs 26 = .ok (.ifCond .ne 15, 3) := dzr zhdX12_meetPairs_0 16 rfl
theorem dX12_meetPairs_29 : decode cX12_meetPairs 29 = .ok (.aload_n 0, 1) := dzr zhdX12_meetPairs_0 17 rfl
theorem dX12_meetPairs_30 : decode cX12_meetPairs 30 = .ok (.iload_n 2, 1) := dzr zhdX12_meetPairs_0 18 rfl
theorem dX12_meetPairs_31 : decode cX12_meetPairs 31 = .ok (.invokevirtual 313, 3) := dzr zhdX12_meetPairs_0 19 rfl
theorem dX12_meetPairs_34 : decode cX12_meetPairs 34 = .ok (.ifCond .eq 7, 3) := dzr zhdX12_meetPairs_0 20 rfl
theorem dX12_meetPairs_37 : decode cX12_meetPairs 37 = .ok (.iconst 1, 1) := dzr zhdX12_meetPairs_0 21 rfl
theorem dX12_meetPairs_38 : decode cX12_meetPairs 38 = .ok (.goto 4, 3) := dzr zhdX12_meetPairs_0 22 rfl
theorem dX12_meetPairs_41 : decode cX12_meetPairs 41 = .ok (.iconst 0, 1) := dzr zhdX12_meetPairs_0 23 rfl
def ztdX12_meetPairs_42 : List (Nat × Instr × Nat) := [(42, .istore_n 3, 1), (43, .aload_n 0, 1), (44, .getfield 74, 3), (47, .iload_n 2, 1), (48, .iload_n 3, 1), (49, .ifCond .eq 10, 3), (52, .iload_n 1, 1), (53, .bipush 10, 2), (55, .irem, 1), (56, .goto 5, 3), (59, .bipush 9, 2), (61, .iastore, 1), (62, .iload_n 3, 1), (63, .ifCond .eq 10, 3), (66, .iload_n 1, 1), (67, .bipush 10, 2), (69, .idiv, 1), (70, .goto 4, 3), (73, .iload_n 1, 1), (74, .istore_n 1, 1), (75, .iinc 2 (-1), 3), (78, .goto (-62), 3), (81, .iconst 0, 1), (82, .istore_n 2, 1)]
theorem zhdX12_meetPairs_42 : dzC ztdX12_meetPairs_42 42 (cX12_meetPairs.data.toList.drop 42) = true := by decide +kernel
theorem dX12_meetPairs_42 : decode cX12_meetPairs 42 = .ok (.istore_n 3, 1) := dzr zhdX12_meetPairs_42 0 rfl
theorem dX12_meetPairs_43 : decode cX12_meetPairs 43 = .ok (.aload_n 0, 1) := dzr zhdX12_meetPairs_42 1 rfl
theorem dX12_meetPairs_44 : decode cX12_meetPairs 44 = .ok (.getfield 74, 3) := dzr zhdX12_meetPairs_42 2 rfl
theorem dX12_meetPairs_47 : decode cX12_meetPairs 47 = .ok (.iload_n 2, 1) := dzr zhdX12_meetPairs_42 3 rfl
theorem dX12_meetPairs_48 : decode cX12_meetPairs 48 = .ok (.iload_n 3, 1) := dzr zhdX12_meetPairs_42 4 rfl
theorem dX12_meetPairs_49 : decode cX12_meetPairs 49 = .ok (.ifCond .eq 10, 3) := dzr zhdX12_meetPairs_42 5 rfl
theorem dX12_meetPairs_52 : decode cX12_meetPairs 52 = .ok (.iload_n 1, 1) := dzr zhdX12_meetPairs_42 6 rfl
theorem dX12_meetPairs_53 : decode cX12_meetPairs 53 = .ok (.bipush 10, 2) := dzr zhdX12_meetPairs_42 7 rfl
theorem dX12_meetPairs_55 : decode cX12_meetPairs 55 = .ok (.irem, 1) := dzr zhdX12_meetPairs_42 8 rfl
theorem dX12_meetPairs_56 : decode cX12_meetPairs 56 = .ok (.goto 5, 3) := dzr zhdX12_meetPairs_42 9 rfl
theorem dX12_meetPairs_59 : decode cX12_meetPairs 59 = .ok (.bipush 9, 2) := dzr zhdX12_meetPairs_42 10 rfl
theorem dX12_meetPairs_61 : decode cX12_meetPairs 61 = .ok (.iastore, 1) := dzr zhdX12_meetPairs_42 11 rfl
theorem dX12_meetPairs_62 : decode cX12_meetPairs 62 = .ok (.iload_n 3, 1) := dzr zhdX12_meetPairs_42 12 rfl
theorem dX12_meetPairs_63 : decode cX12_meetPairs 63 = .ok (.ifCond .eq 10, 3) := dzr zhdX12_meetPairs_42 13 rfl
theorem dX12_meetPairs_66 : decode cX12_meetPairs 66 = .ok (.iload_n 1, 1) := dzr zhdX12_meetPairs_42 14 rfl
theorem dX12_meetPairs_67 : decode cX12_meetPairs 67 = .ok (.bipush 10, 2) := dzr zhdX12_meetPairs_42 15 rfl
theorem dX12_meetPairs_69 : decode cX12_meetPairs 69 = .ok (.idiv, 1) := dzr zhdX12_meetPairs_42 16 rfl
theorem dX12_meetPairs_70 : decode cX12_meetPairs 70 = .ok (.goto 4, 3) := dzr zhdX12_meetPairs_42 17 rfl
theorem dX12_meetPairs_73 : decode cX12_meetPairs 73 = .ok (.iload_n 1, 1) := dzr zhdX12_meetPairs_42 18 rfl
theorem dX12_meetPairs_74 : decode cX12_meetPairs 74 = .ok (.istore_n 1, 1) := dzr zhdX12_meetPairs_42 19 rfl
theorem dX12_meetPairs_75 : decode cX12_meetPairs 75 = .ok (.iinc 2 (-1), 3) := dzr zhdX12_meetPairs_42 20 rfl
theorem dX12_meetPairs_78 : decode cX12_meetPairs 78 = .ok (.goto (-62), 3) := dzr zhdX12_meetPairs_42 21 rfl
theorem dX12_meetPairs_81 : decode cX12_meetPairs 81 = .ok (.iconst 0, 1) := dzr zhdX12_meetPairs_42 22 rfl
theorem dX12_meetPairs_82 : decode cX12_meetPairs 82 = .ok (.istore_n 2, 1) := dzr zhdX12_meetPairs_42 23 rfl
def ztdX12_meetPairs_83 : List (Nat × Instr × Nat) := [(83, .iload_n 2, 1), (84, .aload_n 0, 1), (85, .getfield 252, 3), (88, .if_icmp .ge 31, 3), (91, .aload_n 0, 1), (92, .getfield 74, 3), (95, .iload_n 2, 1), (96, .iaload, 1), (97, .bipush 9, 2), (99, .if_icmp .eq 14, 3), (102, .aload_n 0, 1), (103, .iload_n 2, 1), (104, .aload_n 0, 1), (105, .getfield 74, 3), (108, .iload_n 2, 1), (109, .iaload, 1), (110, .invokevirtual 340, 3), (113, .iinc 2 1, 3), (116, .goto (-33), 3), (119, .return_, 1)]
theorem zhdX12_meetPairs_83 : dzC ztdX12_meetPairs_83 83 (cX12_meetPairs.data.toList.drop 83) = true := by decide +kernel
theorem dX12_meetPairs_83 : decode cX12_meetPairs 83 = .ok (.iload_n 2, 1) := dzr zhdX12_meetPairs_83 0 rfl
theorem dX12_meetPairs_84 : decode cX12_meetPairs 84 = .ok (.aload_n 0, 1) := dzr zhdX12_meetPairs_83 1 rfl
theorem dX12_meetPairs_85 : decode cX12_meetPairs 85 = .ok (.getfield 252, 3) := dzr zhdX12_meetPairs_83 2 rfl
theorem dX12_meetPairs_88 : decode cX12_meetPairs 88 = .ok (.if_icmp .ge 31, 3) := dzr zhdX12_meetPairs_83 3 rfl
theorem dX12_meetPairs_91 : decode cX12_meetPairs 91 = .ok (.aload_n 0, 1) := dzr zhdX12_meetPairs_83 4 rfl
theorem dX12_meetPairs_92 : decode cX12_meetPairs 92 = .ok (.getfield 74, 3) := dzr zhdX12_meetPairs_83 5 rfl
theorem dX12_meetPairs_95 : decode cX12_meetPairs 95 = .ok (.iload_n 2, 1) := dzr zhdX12_meetPairs_83 6 rfl
theorem dX12_meetPairs_96 : decode cX12_meetPairs 96 = .ok (.iaload, 1) := dzr zhdX12_meetPairs_83 7 rfl
theorem dX12_meetPairs_97 : decode cX12_meetPairs 97 = .ok (.bipush 9, 2) := dzr zhdX12_meetPairs_83 8 rfl
theorem dX12_meetPairs_99 : decode cX12_meetPairs 99 = .ok (.if_icmp .eq 14, 3) := dzr zhdX12_meetPairs_83 9 rfl
theorem dX12_meetPairs_102 : decode cX12_meetPairs 102 = .ok (.aload_n 0, 1) := dzr zhdX12_meetPairs_83 10 rfl
theorem dX12_meetPairs_103 : decode cX12_meetPairs 103 = .ok (.iload_n 2, 1) := dzr zhdX12_meetPairs_83 11 rfl
theorem dX12_meetPairs_104 : decode cX12_meetPairs 104 = .ok (.aload_n 0, 1) := dzr zhdX12_meetPairs_83 12 rfl
theorem dX12_meetPairs_105 : decode cX12_meetPairs 105 = .ok (.getfield 74, 3) := dzr zhdX12_meetPairs_83 13 rfl
theorem dX12_meetPairs_108 : decode cX12_meetPairs 108 = .ok (.iload_n 2, 1) := dzr zhdX12_meetPairs_83 14 rfl
theorem dX12_meetPairs_109 : decode cX12_meetPairs 109 = .ok (.iaload, 1) := dzr zhdX12_meetPairs_83 15 rfl
theorem dX12_meetPairs_110 : decode cX12_meetPairs 110 = .ok (.invokevirtual 340, 3) := dzr zhdX12_meetPairs_83 16 rfl
theorem dX12_meetPairs_113 : decode cX12_meetPairs 113 = .ok (.iinc 2 1, 3) := dzr zhdX12_meetPairs_83 17 rfl
theorem dX12_meetPairs_116 : decode cX12_meetPairs 116 = .ok (.goto (-33), 3) := dzr zhdX12_meetPairs_83 18 rfl
theorem dX12_meetPairs_119 : decode cX12_meetPairs 119 = .ok (.return_, 1) := dzr zhdX12_meetPairs_83 19 rfl
theorem ggX12_allKnow_X12_doAllKnow : GoodIn wsX12_allKnow wsX12_doAllKnow := (bg_up (bg_law (bi_wsL_law0_r47 _ (List.mem_of_getElem? (i := 3) rfl))))
theorem gX12_allKnow_X12_doAllKnow : GoodIn wsX12_allKnow (wsV RX12 386 RX12 yX12_doAllKnow wsX12_doAllKnow) := goodIn_app (bg_up (bg_cons (bi_wsL_law0_r47 _ (List.mem_of_getElem? (i := 0) rfl)) (bg_cons (bi_wsL_law0_r47 _ (List.mem_of_getElem? (i := 1) rfl)) (bg_cons (bi_wsL_law0_r47 _ (List.mem_of_getElem? (i := 2) rfl)) (bg_cons (bi_wsL_law0_r1 _ (List.mem_of_getElem? (i := 5) rfl)) bg_nil))))) (bg_up (bg_law (bi_wsL_law0_r47 _ (List.mem_of_getElem? (i := 3) rfl))))
theorem ggX12_allKnow_X12_meetPairs : GoodIn wsX12_allKnow wsX12_meetPairs := (bg_up (bg_law (bi_wsL_law0_r47 _ (List.mem_of_getElem? (i := 7) rfl))))
theorem gX12_allKnow_X12_meetPairs : GoodIn wsX12_allKnow (wsV RX12 389 RX12 yX12_meetPairs wsX12_meetPairs) := goodIn_app (bg_up (bg_cons (bi_wsL_law0_r47 _ (List.mem_of_getElem? (i := 4) rfl)) (bg_cons (bi_wsL_law0_r47 _ (List.mem_of_getElem? (i := 5) rfl)) (bg_cons (bi_wsL_law0_r47 _ (List.mem_of_getElem? (i := 6) rfl)) (bg_cons (bi_wsL_law0_r1 _ (List.mem_of_getElem? (i := 5) rfl)) bg_nil))))) (bg_up (bg_law (bi_wsL_law0_r47 _ (List.mem_of_getElem? (i := 7) rfl))))
theorem ggX12_allKnow_X12_live : GoodIn wsX12_allKnow wsX12_live := (bg_up (bg_law (bi_wsL_law0_r39 _ (List.mem_of_getElem? (i := 4) rfl))))
theorem gX12_allKnow_X12_live : GoodIn wsX12_allKnow (wsV RX12 325 RX12 yX12_live wsX12_live) := goodIn_app (bg_up (bg_cons (bi_wsL_law0_r39 _ (List.mem_of_getElem? (i := 1) rfl)) (bg_cons (bi_wsL_law0_r39 _ (List.mem_of_getElem? (i := 2) rfl)) (bg_cons (bi_wsL_law0_r39 _ (List.mem_of_getElem? (i := 3) rfl)) (bg_cons (bi_wsL_law0_r1 _ (List.mem_of_getElem? (i := 5) rfl)) bg_nil))))) (bg_up (bg_law (bi_wsL_law0_r39 _ (List.mem_of_getElem? (i := 4) rfl))))
def ztdX12_allKnow_0 : List (Nat × Instr × Nat) := [(0, .aload_n 0, 1), (1, .getfield 252, 3), (4, .ifCond .ne 5, 3), (7, .iconst (-1), 1), (8, .ireturn, 1), (9, .iconst 0, 1), (10, .istore_n 1, 1), (11, .iload_n 1, 1), (12, .bipush 69, 2), (14, .if_icmp .ge 21, 3), (17, .aload_n 0, 1), (18, .getfield 77, 3), (21, .iload_n 1, 1), (22, .aload_n 0, 1), (23, .getfield 58, 3), (26, .iload_n 1, 1), (27, .iaload, 1), (28, .iastore, 1), (29, .iinc 1 1, 3), (32, .goto (-21), 3), (35, .iconst 0, 1), (36, .istore_n 1, 1), (37, .iload_n 1, 1), (38, .bipush 30, 2)]
theorem zhdX12_allKnow_0 : dzC ztdX12_allKnow_0 0 (cX12_allKnow.data.toList.drop 0) = true := by decide +kernel
theorem dX12_allKnow_0 : decode cX12_allKnow 0 = .ok (.aload_n 0, 1) := dzr zhdX12_allKnow_0 0 rfl
theorem dX12_allKnow_1 : decode cX12_allKnow 1 = .ok (.getfield 252, 3) := dzr zhdX12_allKnow_0 1 rfl
theorem dX12_allKnow_4 : decode cX12_allKnow 4 = .ok (.ifCond .ne 5, 3) := dzr zhdX12_allKnow_0 2 rfl
theorem dX12_allKnow_7 : decode cX12_allKnow 7 = .ok (.iconst (-1), 1) := dzr zhdX12_allKnow_0 3 rfl
theorem dX12_allKnow_8 : decode cX12_allKnow 8 = .ok (.ireturn, 1) := dzr zhdX12_allKnow_0 4 rfl
theorem dX12_allKnow_9 : decode cX12_allKnow 9 = .ok (.iconst 0, 1) := dzr zhdX12_allKnow_0 5 rfl
theorem dX12_allKnow_10 : decode cX12_allKnow 10 = .ok (.istore_n 1, 1) := dzr zhdX12_allKnow_0 6 rfl
theorem dX12_allKnow_11 : decode cX12_allKnow 11 = .ok (.iload_n 1, 1) := dzr zhdX12_allKnow_0 7 rfl
theorem dX12_allKnow_12 : decode cX12_allKnow 12 = .ok (.bipush 69, 2) := dzr zhdX12_allKnow_0 8 rfl
theorem dX12_allKnow_14 : decode cX12_allKnow 14 = .ok (.if_icmp .ge 21, 3) := dzr zhdX12_allKnow_0 9 rfl
theorem dX12_allKnow_17 : decode cX12_allKnow 17 = .ok (.aload_n 0, 1) := dzr zhdX12_allKnow_0 10 rfl
theorem dX12_allKnow_18 : decode cX12_allKnow 18 = .ok (.getfield 77, 3) := dzr zhdX12_allKnow_0 11 rfl
theorem dX12_allKnow_21 : decode cX12_allKnow 21 = .ok (.iload_n 1, 1) := dzr zhdX12_allKnow_0 12 rfl
theorem dX12_allKnow_22 : decode cX12_allKnow 22 = .ok (.aload_n 0, 1) := dzr zhdX12_allKnow_0 13 rfl
theorem dX12_allKnow_23 : decode cX12_allKnow 23 = .ok (.getfield 58, 3) := dzr zhdX12_allKnow_0 14 rfl
theorem dX12_allKnow_26 : decode cX12_allKnow 26 = .ok (.iload_n 1, 1) := dzr zhdX12_allKnow_0 15 rfl
theorem dX12_allKnow_27 : decode cX12_allKnow 27 = .ok (.iaload, 1) := dzr zhdX12_allKnow_0 16 rfl
theorem dX12_allKnow_28 : decode cX12_allKnow 28 = .ok (.iastore, 1) := dzr zhdX12_allKnow_0 17 rfl
theorem dX12_allKnow_29 : decode cX12_allKnow 29 = .ok (.iinc 1 1, 3) := dzr zhdX12_allKnow_0 18 rfl
theorem dX12_allKnow_32 : decode cX12_allKnow 32 = .ok (.goto (-21), 3) := dzr zhdX12_allKnow_0 19 rfl
theorem dX12_allKnow_35 : decode cX12_allKnow 35 = .ok (.iconst 0, 1) := dzr zhdX12_allKnow_0 20 rfl
theorem dX12_allKnow_36 : decode cX12_allKnow 36 = .ok (.istore_n 1, 1) := dzr zhdX12_allKnow_0 21 rfl
theorem dX12_allKnow_37 : decode cX12_allKnow 37 = .ok (.iload_n 1, 1) := dzr zhdX12_allKnow_0 22 rfl
theorem dX12_allKnow_38 : decode cX12_allKnow 38 = .ok (.bipush 30, 2) := dzr zhdX12_allKnow_0 23 rfl
def ztdX12_allKnow_40 : List (Nat × Instr × Nat) := [(40, .if_icmp .ge 24, 3), (43, .aload_n 0, 1), (44, .invokevirtual 386, 3), (47, .ifCond .ne 17, 3), (50, .aload_n 0, 1), (51, .invokevirtual 389, 3), (54, .aload_n 0, 1), (55, .invokevirtual 325, 3), (58, .iinc 1 1, 3), (61, .goto (-24), 3), (64, .aload_n 0, 1), (65, .invokevirtual 386, 3), (68, .istore_n 2, 1), (69, .iconst 0, 1), (70, .istore_n 3, 1), (71, .iload_n 3, 1), (72, .bipush 69, 2), (74, .if_icmp .ge 21, 3), (77, .aload_n 0, 1), (78, .getfield 58, 3), (81, .iload_n 3, 1), (82, .aload_n 0, 1), (83, .getfield 77, 3), (86, .iload_n 3, 1)]
theorem zhdX12_allKnow_40 : dzC ztdX12_allKnow_40 40 (cX12_allKnow.data.toList.drop 40) = true := by decide +kernel
theorem dX12_allKnow_40 : decode cX12_allKnow 40 = .ok (.if_icmp .ge 24, 3) := dzr zhdX12_allKnow_40 0 rfl
theorem dX12_allKnow_43 : decode cX12_allKnow 43 = .ok (.aload_n 0, 1) := dzr zhdX12_allKnow_40 1 rfl
theorem dX12_allKnow_44 : decode cX12_allKnow 44 = .ok (.invokevirtual 386, 3) := dzr zhdX12_allKnow_40 2 rfl
theorem dX12_allKnow_47 : decode cX12_allKnow 47 = .ok (.ifCond .ne 17, 3) := dzr zhdX12_allKnow_40 3 rfl
theorem dX12_allKnow_50 : decode cX12_allKnow 50 = .ok (.aload_n 0, 1) := dzr zhdX12_allKnow_40 4 rfl
theorem dX12_allKnow_51 : decode cX12_allKnow 51 = .ok (.invokevirtual 389, 3) := dzr zhdX12_allKnow_40 5 rfl
theorem dX12_allKnow_54 : decode cX12_allKnow 54 = .ok (.aload_n 0, 1) := dzr zhdX12_allKnow_40 6 rfl
theorem dX12_allKnow_55 : decode cX12_allKnow 55 = .ok (.invokevirtual 325, 3) := dzr zhdX12_allKnow_40 7 rfl
theorem dX12_allKnow_58 : decode cX12_allKnow 58 = .ok (.iinc 1 1, 3) := dzr zhdX12_allKnow_40 8 rfl
theorem dX12_allKnow_61 : decode cX12_allKnow 61 = .ok (.goto (-24), 3) := dzr zhdX12_allKnow_40 9 rfl
theorem dX12_allKnow_64 : decode cX12_allKnow 64 = .ok (.aload_n 0, 1) := dzr zhdX12_allKnow_40 10 rfl
theorem dX12_allKnow_65 : decode cX12_allKnow 65 = .ok (.invokevirtual 386, 3) := dzr zhdX12_allKnow_40 11 rfl
theorem dX12_allKnow_68 : decode cX12_allKnow 68 = .ok (.istore_n 2, 1) := dzr zhdX12_allKnow_40 12 rfl
theorem dX12_allKnow_69 : decode cX12_allKnow 69 = .ok (.iconst 0, 1) := dzr zhdX12_allKnow_40 13 rfl
theorem dX12_allKnow_70 : decode cX12_allKnow 70 = .ok (.istore_n 3, 1) := dzr zhdX12_allKnow_40 14 rfl
theorem dX12_allKnow_71 : decode cX12_allKnow 71 = .ok (.iload_n 3, 1) := dzr zhdX12_allKnow_40 15 rfl
theorem dX12_allKnow_72 : decode cX12_allKnow 72 = .ok (.bipush 69, 2) := dzr zhdX12_allKnow_40 16 rfl
theorem dX12_allKnow_74 : decode cX12_allKnow 74 = .ok (.if_icmp .ge 21, 3) := dzr zhdX12_allKnow_40 17 rfl
theorem dX12_allKnow_77 : decode cX12_allKnow 77 = .ok (.aload_n 0, 1) := dzr zhdX12_allKnow_40 18 rfl
theorem dX12_allKnow_78 : decode cX12_allKnow 78 = .ok (.getfield 58, 3) := dzr zhdX12_allKnow_40 19 rfl
theorem dX12_allKnow_81 : decode cX12_allKnow 81 = .ok (.iload_n 3, 1) := dzr zhdX12_allKnow_40 20 rfl
theorem dX12_allKnow_82 : decode cX12_allKnow 82 = .ok (.aload_n 0, 1) := dzr zhdX12_allKnow_40 21 rfl
theorem dX12_allKnow_83 : decode cX12_allKnow 83 = .ok (.getfield 77, 3) := dzr zhdX12_allKnow_40 22 rfl
theorem dX12_allKnow_86 : decode cX12_allKnow 86 = .ok (.iload_n 3, 1) := dzr zhdX12_allKnow_40 23 rfl
def ztdX12_allKnow_87 : List (Nat × Instr × Nat) := [(87, .iaload, 1), (88, .iastore, 1), (89, .iinc 3 1, 3), (92, .goto (-21), 3), (95, .iload_n 2, 1), (96, .ifCond .eq 7, 3), (99, .iload_n 1, 1), (100, .goto 4, 3), (103, .iconst (-1), 1), (104, .ireturn, 1)]
theorem zhdX12_allKnow_87 : dzC ztdX12_allKnow_87 87 (cX12_allKnow.data.toList.drop 87) = true := by decide +kernel
theorem dX12_allKnow_87 : decode cX12_allKnow 87 = .ok (.iaload, 1) := dzr zhdX12_allKnow_87 0 rfl
theorem dX12_allKnow_88 : decode cX12_allKnow 88 = .ok (.iastore, 1) := dzr zhdX12_allKnow_87 1 rfl
theorem dX12_allKnow_89 : decode cX12_allKnow 89 = .ok (.iinc 3 1, 3) := dzr zhdX12_allKnow_87 2 rfl
theorem dX12_allKnow_92 : decode cX12_allKnow 92 = .ok (.goto (-21), 3) := dzr zhdX12_allKnow_87 3 rfl
theorem dX12_allKnow_95 : decode cX12_allKnow 95 = .ok (.iload_n 2, 1) := dzr zhdX12_allKnow_87 4 rfl
theorem dX12_allKnow_96 : decode cX12_allKnow 96 = .ok (.ifCond .eq 7, 3) := dzr zhdX12_allKnow_87 5 rfl
theorem dX12_allKnow_99 : decode cX12_allKnow 99 = .ok (.iload_n 1, 1) := dzr zhdX12_allKnow_87 6 rfl
theorem dX12_allKnow_100 : decode cX12_allKnow 100 = .ok (.goto 4, 3) := dzr zhdX12_allKnow_87 7 rfl
theorem dX12_allKnow_103 : decode cX12_allKnow 103 = .ok (.iconst (-1), 1) := dzr zhdX12_allKnow_87 8 rfl
theorem dX12_allKnow_104 : decode cX12_allKnow 104 = .ok (.ireturn, 1) := dzr zhdX12_allKnow_87 9 rfl
theorem ggX12_seen_X12_areTwo : GoodIn wsX12_seen wsX12_areTwo := (bg_up (bg_law (bi_wsL_law0_r27 _ (List.mem_of_getElem? (i := 13) rfl))))
theorem gX12_seen_X12_areTwo : GoodIn wsX12_seen (wsV RX12 316 RX12 yX12_areTwo wsX12_areTwo) := goodIn_app (bg_up (bg_cons (bi_wsL_law0_r27 _ (List.mem_of_getElem? (i := 10) rfl)) (bg_cons (bi_wsL_law0_r27 _ (List.mem_of_getElem? (i := 11) rfl)) (bg_cons (bi_wsL_law0_r27 _ (List.mem_of_getElem? (i := 12) rfl)) (bg_cons (bi_wsL_law0_r1 _ (List.mem_of_getElem? (i := 5) rfl)) bg_nil))))) (bg_up (bg_law (bi_wsL_law0_r27 _ (List.mem_of_getElem? (i := 13) rfl))))
theorem ggX12_seen_X12_in : GoodIn wsX12_seen wsX12_in := (bg_up (bg_law (bi_wsL_law0_r16 _ (List.mem_of_getElem? (i := 21) rfl))))
theorem gX12_seen_X12_in : GoodIn wsX12_seen (va_wsS RX12 211 yX12_in wsX12_in) := goodIn_app (bg_up (bg_cons (bi_wsL_law0_r16 _ (List.mem_of_getElem? (i := 19) rfl)) (bg_cons (bi_wsL_law0_r16 _ (List.mem_of_getElem? (i := 20) rfl)) (bg_cons (bi_wsL_law0_r1 _ (List.mem_of_getElem? (i := 5) rfl)) bg_nil)))) (bg_up (bg_law (bi_wsL_law0_r16 _ (List.mem_of_getElem? (i := 21) rfl))))
def ztdX12_seen_0 : List (Nat × Instr × Nat) := [(0, .aload_n 0, 1), (1, .iload_n 1, 1), (2, .iload_n 2, 1), (3, .invokevirtual 316, 3), (6, .ifCond .eq 23, 3), (9, .iload_n 3, 1), (10, .bipush (-9), 2), (12, .bipush 9, 2), (14, .invokestatic 211, 3), (17, .ifCond .eq 12, 3), (20, .aload_n 0, 1), (21, .getfield 261, 3), (24, .bipush 10, 2), (26, .if_icmp .ne 5, 3), (29, .iconst (-1), 1), (30, .ireturn, 1), (31, .aload_n 0, 1), (32, .getfield 80, 3), (35, .aload_n 0, 1), (36, .getfield 261, 3), (39, .iload_n 1, 1), (40, .iastore, 1), (41, .aload_n 0, 1), (42, .getfield 83, 3)]
theorem zhdX12_seen_0 : dzC ztdX12_seen_0 0 (cX12_seen.data.toList.drop 0) = true := by decide +kernel
theorem dX12_seen_0 : decode cX12_seen 0 = .ok (.aload_n 0, 1) := dzr zhdX12_seen_0 0 rfl
theorem dX12_seen_1 : decode cX12_seen 1 = .ok (.iload_n 1, 1) := dzr zhdX12_seen_0 1 rfl
theorem dX12_seen_2 : decode cX12_seen 2 = .ok (.iload_n 2, 1) := dzr zhdX12_seen_0 2 rfl
theorem dX12_seen_3 : decode cX12_seen 3 = .ok (.invokevirtual 316, 3) := dzr zhdX12_seen_0 3 rfl
theorem dX12_seen_6 : decode cX12_seen 6 = .ok (.ifCond .eq 23, 3) := dzr zhdX12_seen_0 4 rfl
theorem dX12_seen_9 : decode cX12_seen 9 = .ok (.iload_n 3, 1) := dzr zhdX12_seen_0 5 rfl
theorem dX12_seen_10 : decode cX12_seen 10 = .ok (.bipush (-9), 2) := dzr zhdX12_seen_0 6 rfl
theorem dX12_seen_12 : decode cX12_seen 12 = .ok (.bipush 9, 2) := dzr zhdX12_seen_0 7 rfl
theorem dX12_seen_14 : decode cX12_seen 14 = .ok (.invokestatic 211, 3) := dzr zhdX12_seen_0 8 rfl
theorem dX12_seen_17 : decode cX12_seen 17 = .ok (.ifCond .eq 12, 3) := dzr zhdX12_seen_0 9 rfl
theorem dX12_seen_20 : decode cX12_seen 20 = .ok (.aload_n 0, 1) := dzr zhdX12_seen_0 10 rfl
theorem dX12_seen_21 : decode cX12_seen 21 = .ok (.getfield 261, 3) := dzr zhdX12_seen_0 11 rfl
theorem dX12_seen_24 : decode cX12_seen 24 = .ok (.bipush 10, 2) := dzr zhdX12_seen_0 12 rfl
theorem dX12_seen_26 : decode cX12_seen 26 = .ok (.if_icmp .ne 5, 3) := dzr zhdX12_seen_0 13 rfl
theorem dX12_seen_29 : decode cX12_seen 29 = .ok (.iconst (-1), 1) := dzr zhdX12_seen_0 14 rfl
theorem dX12_seen_30 : decode cX12_seen 30 = .ok (.ireturn, 1) := dzr zhdX12_seen_0 15 rfl
theorem dX12_seen_31 : decode cX12_seen 31 = .ok (.aload_n 0, 1) := dzr zhdX12_seen_0 16 rfl
theorem dX12_seen_32 : decode cX12_seen 32 = .ok (.getfield 80, 3) := dzr zhdX12_seen_0 17 rfl
theorem dX12_seen_35 : decode cX12_seen 35 = .ok (.aload_n 0, 1) := dzr zhdX12_seen_0 18 rfl
theorem dX12_seen_36 : decode cX12_seen 36 = .ok (.getfield 261, 3) := dzr zhdX12_seen_0 19 rfl
theorem dX12_seen_39 : decode cX12_seen 39 = .ok (.iload_n 1, 1) := dzr zhdX12_seen_0 20 rfl
theorem dX12_seen_40 : decode cX12_seen 40 = .ok (.iastore, 1) := dzr zhdX12_seen_0 21 rfl
theorem dX12_seen_41 : decode cX12_seen 41 = .ok (.aload_n 0, 1) := dzr zhdX12_seen_0 22 rfl
theorem dX12_seen_42 : decode cX12_seen 42 = .ok (.getfield 83, 3) := dzr zhdX12_seen_0 23 rfl
def ztdX12_seen_45 : List (Nat × Instr × Nat) := [(45, .aload_n 0, 1), (46, .getfield 261, 3), (49, .iload_n 2, 1), (50, .iastore, 1), (51, .aload_n 0, 1), (52, .getfield 86, 3), (55, .aload_n 0, 1), (56, .getfield 261, 3), (59, .iload_n 3, 1), (60, .iastore, 1), (61, .aload_n 0, 1), (62, .getfield 89, 3), (65, .aload_n 0, 1), (66, .getfield 261, 3), (69, .iload 4, 2), (71, .bastore, 1), (72, .aload_n 0, 1), (73, .dup, 1), (74, .getfield 261, 3), (77, .iconst 1, 1), (78, .iadd, 1), (79, .putfield 261, 3), (82, .aload_n 0, 1), (83, .getfield 261, 3)]
theorem zhdX12_seen_45 : dzC ztdX12_seen_45 45 (cX12_seen.data.toList.drop 45) = true := by decide +kernel
theorem dX12_seen_45 : decode cX12_seen 45 = .ok (.aload_n 0, 1) := dzr zhdX12_seen_45 0 rfl
theorem dX12_seen_46 : decode cX12_seen 46 = .ok (.getfield 261, 3) := dzr zhdX12_seen_45 1 rfl
theorem dX12_seen_49 : decode cX12_seen 49 = .ok (.iload_n 2, 1) := dzr zhdX12_seen_45 2 rfl
theorem dX12_seen_50 : decode cX12_seen 50 = .ok (.iastore, 1) := dzr zhdX12_seen_45 3 rfl
theorem dX12_seen_51 : decode cX12_seen 51 = .ok (.aload_n 0, 1) := dzr zhdX12_seen_45 4 rfl
theorem dX12_seen_52 : decode cX12_seen 52 = .ok (.getfield 86, 3) := dzr zhdX12_seen_45 5 rfl
theorem dX12_seen_55 : decode cX12_seen 55 = .ok (.aload_n 0, 1) := dzr zhdX12_seen_45 6 rfl
theorem dX12_seen_56 : decode cX12_seen 56 = .ok (.getfield 261, 3) := dzr zhdX12_seen_45 7 rfl
theorem dX12_seen_59 : decode cX12_seen 59 = .ok (.iload_n 3, 1) := dzr zhdX12_seen_45 8 rfl
theorem dX12_seen_60 : decode cX12_seen 60 = .ok (.iastore, 1) := dzr zhdX12_seen_45 9 rfl
theorem dX12_seen_61 : decode cX12_seen 61 = .ok (.aload_n 0, 1) := dzr zhdX12_seen_45 10 rfl
theorem dX12_seen_62 : decode cX12_seen 62 = .ok (.getfield 89, 3) := dzr zhdX12_seen_45 11 rfl
theorem dX12_seen_65 : decode cX12_seen 65 = .ok (.aload_n 0, 1) := dzr zhdX12_seen_45 12 rfl
theorem dX12_seen_66 : decode cX12_seen 66 = .ok (.getfield 261, 3) := dzr zhdX12_seen_45 13 rfl
theorem dX12_seen_69 : decode cX12_seen 69 = .ok (.iload 4, 2) := dzr zhdX12_seen_45 14 rfl
theorem dX12_seen_71 : decode cX12_seen 71 = .ok (.bastore, 1) := dzr zhdX12_seen_45 15 rfl
theorem dX12_seen_72 : decode cX12_seen 72 = .ok (.aload_n 0, 1) := dzr zhdX12_seen_45 16 rfl
theorem dX12_seen_73 : decode cX12_seen 73 = .ok (.dup, 1) := dzr zhdX12_seen_45 17 rfl
theorem dX12_seen_74 : decode cX12_seen 74 = .ok (.getfield 261, 3) := dzr zhdX12_seen_45 18 rfl
theorem dX12_seen_77 : decode cX12_seen 77 = .ok (.iconst 1, 1) := dzr zhdX12_seen_45 19 rfl
theorem dX12_seen_78 : decode cX12_seen 78 = .ok (.iadd, 1) := dzr zhdX12_seen_45 20 rfl
theorem dX12_seen_79 : decode cX12_seen 79 = .ok (.putfield 261, 3) := dzr zhdX12_seen_45 21 rfl
theorem dX12_seen_82 : decode cX12_seen 82 = .ok (.aload_n 0, 1) := dzr zhdX12_seen_45 22 rfl
theorem dX12_seen_83 : decode cX12_seen 83 = .ok (.getfield 261, 3) := dzr zhdX12_seen_45 23 rfl
def ztdX12_seen_86 : List (Nat × Instr × Nat) := [(86, .ireturn, 1)]
theorem zhdX12_seen_86 : dzC ztdX12_seen_86 86 (cX12_seen.data.toList.drop 86) = true := by decide +kernel
theorem dX12_seen_86 : decode cX12_seen 86 = .ok (.ireturn, 1) := dzr zhdX12_seen_86 0 rfl
theorem ggX12_toldRise_X12_of : GoodIn wsX12_toldRise wsX12_of := (bg_up (bg_law (bi_wsL_law0_r22 _ (List.mem_of_getElem? (i := 21) rfl))))
theorem gX12_toldRise_X12_of : GoodIn wsX12_toldRise (wsV RX12 258 RX12 yX12_of wsX12_of) := goodIn_app (bg_up (bg_cons (bi_wsL_law0_r22 _ (List.mem_of_getElem? (i := 18) rfl)) (bg_cons (bi_wsL_law0_r22 _ (List.mem_of_getElem? (i := 19) rfl)) (bg_cons (bi_wsL_law0_r22 _ (List.mem_of_getElem? (i := 20) rfl)) (bg_cons (bi_wsL_law0_r1 _ (List.mem_of_getElem? (i := 5) rfl)) bg_nil))))) (bg_up (bg_law (bi_wsL_law0_r22 _ (List.mem_of_getElem? (i := 21) rfl))))
theorem ggX12_toldRise_X12_areAllies : GoodIn wsX12_toldRise wsX12_areAllies := (bg_up (bg_law (bi_wsL_law0_r32 _ (List.mem_of_getElem? (i := 14) rfl))))
theorem gX12_toldRise_X12_areAllies : GoodIn wsX12_toldRise (wsV RX12 287 RX12 yX12_areAllies wsX12_areAllies) := goodIn_app (bg_up (bg_cons (bi_wsL_law0_r32 _ (List.mem_of_getElem? (i := 11) rfl)) (bg_cons (bi_wsL_law0_r32 _ (List.mem_of_getElem? (i := 12) rfl)) (bg_cons (bi_wsL_law0_r32 _ (List.mem_of_getElem? (i := 13) rfl)) (bg_cons (bi_wsL_law0_r1 _ (List.mem_of_getElem? (i := 5) rfl)) bg_nil))))) (bg_up (bg_law (bi_wsL_law0_r32 _ (List.mem_of_getElem? (i := 14) rfl))))
theorem ggX12_toldRise_X12_riseBy : GoodIn wsX12_toldRise wsX12_riseBy := (bg_up (bg_law (bi_wsL_law0_r32 _ (List.mem_of_getElem? (i := 18) rfl))))
theorem gX12_toldRise_X12_riseBy : GoodIn wsX12_toldRise (wsV RX12 290 RX12 yX12_riseBy wsX12_riseBy) := goodIn_app (bg_up (bg_cons (bi_wsL_law0_r32 _ (List.mem_of_getElem? (i := 15) rfl)) (bg_cons (bi_wsL_law0_r32 _ (List.mem_of_getElem? (i := 16) rfl)) (bg_cons (bi_wsL_law0_r32 _ (List.mem_of_getElem? (i := 17) rfl)) (bg_cons (bi_wsL_law0_r1 _ (List.mem_of_getElem? (i := 5) rfl)) bg_nil))))) (bg_up (bg_law (bi_wsL_law0_r32 _ (List.mem_of_getElem? (i := 18) rfl))))
def ztdX12_toldRise_0 : List (Nat × Instr × Nat) := [(0, .aload_n 0, 1), (1, .iload_n 3, 1), (2, .aload_n 0, 1), (3, .iload_n 2, 1), (4, .iconst 1, 1), (5, .invokevirtual 258, 3), (8, .iadd, 1), (9, .aload_n 0, 1), (10, .iload_n 1, 1), (11, .iconst 2, 1), (12, .invokevirtual 258, 3), (15, .aload_n 0, 1), (16, .iload_n 2, 1), (17, .iconst 2, 1), (18, .invokevirtual 258, 3), (21, .iadd, 1), (22, .iconst 0, 1), (23, .aload_n 0, 1), (24, .iload_n 1, 1), (25, .iload_n 2, 1), (26, .invokevirtual 287, 3), (29, .aload_n 0, 1), (30, .getfield 49, 3), (33, .iconst 0, 1)]
theorem zhdX12_toldRise_0 : dzC ztdX12_toldRise_0 0 (cX12_toldRise.data.toList.drop 0) = true := by decide +kernel
theorem dX12_toldRise_0 : decode cX12_toldRise 0 = .ok (.aload_n 0, 1) := dzr zhdX12_toldRise_0 0 rfl
theorem dX12_toldRise_1 : decode cX12_toldRise 1 = .ok (.iload_n 3, 1) := dzr zhdX12_toldRise_0 1 rfl
theorem dX12_toldRise_2 : decode cX12_toldRise 2 = .ok (.aload_n 0, 1) := dzr zhdX12_toldRise_0 2 rfl
theorem dX12_toldRise_3 : decode cX12_toldRise 3 = .ok (.iload_n 2, 1) := dzr zhdX12_toldRise_0 3 rfl
theorem dX12_toldRise_4 : decode cX12_toldRise 4 = .ok (.iconst 1, 1) := dzr zhdX12_toldRise_0 4 rfl
theorem dX12_toldRise_5 : decode cX12_toldRise 5 = .ok (.invokevirtual 258, 3) := dzr zhdX12_toldRise_0 5 rfl
theorem dX12_toldRise_8 : decode cX12_toldRise 8 = .ok (.iadd, 1) := dzr zhdX12_toldRise_0 6 rfl
theorem dX12_toldRise_9 : decode cX12_toldRise 9 = .ok (.aload_n 0, 1) := dzr zhdX12_toldRise_0 7 rfl
theorem dX12_toldRise_10 : decode cX12_toldRise 10 = .ok (.iload_n 1, 1) := dzr zhdX12_toldRise_0 8 rfl
theorem dX12_toldRise_11 : decode cX12_toldRise 11 = .ok (.iconst 2, 1) := dzr zhdX12_toldRise_0 9 rfl
theorem dX12_toldRise_12 : decode cX12_toldRise 12 = .ok (.invokevirtual 258, 3) := dzr zhdX12_toldRise_0 10 rfl
theorem dX12_toldRise_15 : decode cX12_toldRise 15 = .ok (.aload_n 0, 1) := dzr zhdX12_toldRise_0 11 rfl
theorem dX12_toldRise_16 : decode cX12_toldRise 16 = .ok (.iload_n 2, 1) := dzr zhdX12_toldRise_0 12 rfl
theorem dX12_toldRise_17 : decode cX12_toldRise 17 = .ok (.iconst 2, 1) := dzr zhdX12_toldRise_0 13 rfl
theorem dX12_toldRise_18 : decode cX12_toldRise 18 = .ok (.invokevirtual 258, 3) := dzr zhdX12_toldRise_0 14 rfl
theorem dX12_toldRise_21 : decode cX12_toldRise 21 = .ok (.iadd, 1) := dzr zhdX12_toldRise_0 15 rfl
theorem dX12_toldRise_22 : decode cX12_toldRise 22 = .ok (.iconst 0, 1) := dzr zhdX12_toldRise_0 16 rfl
theorem dX12_toldRise_23 : decode cX12_toldRise 23 = .ok (.aload_n 0, 1) := dzr zhdX12_toldRise_0 17 rfl
theorem dX12_toldRise_24 : decode cX12_toldRise 24 = .ok (.iload_n 1, 1) := dzr zhdX12_toldRise_0 18 rfl
theorem dX12_toldRise_25 : decode cX12_toldRise 25 = .ok (.iload_n 2, 1) := dzr zhdX12_toldRise_0 19 rfl
theorem dX12_toldRise_26 : decode cX12_toldRise 26 = .ok (.invokevirtual 287, 3) := dzr zhdX12_toldRise_0 20 rfl
theorem dX12_toldRise_29 : decode cX12_toldRise 29 = .ok (.aload_n 0, 1) := dzr zhdX12_toldRise_0 21 rfl
theorem dX12_toldRise_30 : decode cX12_toldRise 30 = .ok (.getfield 49, 3) := dzr zhdX12_toldRise_0 22 rfl
theorem dX12_toldRise_33 : decode cX12_toldRise 33 = .ok (.iconst 0, 1) := dzr zhdX12_toldRise_0 23 rfl
def ztdX12_toldRise_34 : List (Nat × Instr × Nat) := [(34, .iaload, 1), (35, .iconst 0, 1), (36, .invokevirtual 290, 3), (39, .ireturn, 1)]
theorem zhdX12_toldRise_34 : dzC ztdX12_toldRise_34 34 (cX12_toldRise.data.toList.drop 34) = true := by decide +kernel
theorem dX12_toldRise_34 : decode cX12_toldRise 34 = .ok (.iaload, 1) := dzr zhdX12_toldRise_34 0 rfl
theorem dX12_toldRise_35 : decode cX12_toldRise 35 = .ok (.iconst 0, 1) := dzr zhdX12_toldRise_34 1 rfl
theorem dX12_toldRise_36 : decode cX12_toldRise 36 = .ok (.invokevirtual 290, 3) := dzr zhdX12_toldRise_34 2 rfl
theorem dX12_toldRise_39 : decode cX12_toldRise 39 = .ok (.ireturn, 1) := dzr zhdX12_toldRise_34 3 rfl
theorem ggX12_isFreedom_X12_toldRise : GoodIn wsX12_isFreedom wsX12_toldRise := (bg_up (bg_law (bi_wsL_law0_r49 _ (List.mem_of_getElem? (i := 8) rfl))))
theorem gX12_isFreedom_X12_toldRise : GoodIn wsX12_isFreedom (wsV RX12 392 RX12 yX12_toldRise wsX12_toldRise) := goodIn_app (bg_up (bg_cons (bi_wsL_law0_r49 _ (List.mem_of_getElem? (i := 5) rfl)) (bg_cons (bi_wsL_law0_r49 _ (List.mem_of_getElem? (i := 6) rfl)) (bg_cons (bi_wsL_law0_r49 _ (List.mem_of_getElem? (i := 7) rfl)) (bg_cons (bi_wsL_law0_r1 _ (List.mem_of_getElem? (i := 5) rfl)) bg_nil))))) (bg_up (bg_law (bi_wsL_law0_r49 _ (List.mem_of_getElem? (i := 8) rfl))))
def ztdX12_isFreedom_0 : List (Nat × Instr × Nat) := [(0, .iconst 0, 1), (1, .istore_n 3, 1), (2, .iload_n 3, 1), (3, .aload_n 0, 1), (4, .getfield 261, 3), (7, .if_icmp .ge 89, 3), (10, .aload_n 0, 1), (11, .getfield 80, 3), (14, .iload_n 3, 1), (15, .iaload, 1), (16, .iload_n 1, 1), (17, .if_icmp .eq 13, 3), (20, .aload_n 0, 1), (21, .getfield 83, 3), (24, .iload_n 3, 1), (25, .iaload, 1), (26, .iload_n 1, 1), (27, .if_icmp .ne 63, 3), (30, .aload_n 0, 1), (31, .getfield 80, 3), (34, .iload_n 3, 1), (35, .iaload, 1), (36, .iload_n 1, 1), (37, .if_icmp .ne 12, 3)]
theorem zhdX12_isFreedom_0 : dzC ztdX12_isFreedom_0 0 (cX12_isFreedom.data.toList.drop 0) = true := by decide +kernel
theorem dX12_isFreedom_0 : decode cX12_isFreedom 0 = .ok (.iconst 0, 1) := dzr zhdX12_isFreedom_0 0 rfl
theorem dX12_isFreedom_1 : decode cX12_isFreedom 1 = .ok (.istore_n 3, 1) := dzr zhdX12_isFreedom_0 1 rfl
theorem dX12_isFreedom_2 : decode cX12_isFreedom 2 = .ok (.iload_n 3, 1) := dzr zhdX12_isFreedom_0 2 rfl
theorem dX12_isFreedom_3 : decode cX12_isFreedom 3 = .ok (.aload_n 0, 1) := dzr zhdX12_isFreedom_0 3 rfl
theorem dX12_isFreedom_4 : decode cX12_isFreedom 4 = .ok (.getfield 261, 3) := dzr zhdX12_isFreedom_0 4 rfl
theorem dX12_isFreedom_7 : decode cX12_isFreedom 7 = .ok (.if_icmp .ge 89, 3) := dzr zhdX12_isFreedom_0 5 rfl
theorem dX12_isFreedom_10 : decode cX12_isFreedom 10 = .ok (.aload_n 0, 1) := dzr zhdX12_isFreedom_0 6 rfl
theorem dX12_isFreedom_11 : decode cX12_isFreedom 11 = .ok (.getfield 80, 3) := dzr zhdX12_isFreedom_0 7 rfl
theorem dX12_isFreedom_14 : decode cX12_isFreedom 14 = .ok (.iload_n 3, 1) := dzr zhdX12_isFreedom_0 8 rfl
theorem dX12_isFreedom_15 : decode cX12_isFreedom 15 = .ok (.iaload, 1) := dzr zhdX12_isFreedom_0 9 rfl
theorem dX12_isFreedom_16 : decode cX12_isFreedom 16 = .ok (.iload_n 1, 1) := dzr zhdX12_isFreedom_0 10 rfl
theorem dX12_isFreedom_17 : decode cX12_isFreedom 17 = .ok (.if_icmp .eq 13, 3) := dzr zhdX12_isFreedom_0 11 rfl
theorem dX12_isFreedom_20 : decode cX12_isFreedom 20 = .ok (.aload_n 0, 1) := dzr zhdX12_isFreedom_0 12 rfl
theorem dX12_isFreedom_21 : decode cX12_isFreedom 21 = .ok (.getfield 83, 3) := dzr zhdX12_isFreedom_0 13 rfl
theorem dX12_isFreedom_24 : decode cX12_isFreedom 24 = .ok (.iload_n 3, 1) := dzr zhdX12_isFreedom_0 14 rfl
theorem dX12_isFreedom_25 : decode cX12_isFreedom 25 = .ok (.iaload, 1) := dzr zhdX12_isFreedom_0 15 rfl
theorem dX12_isFreedom_26 : decode cX12_isFreedom 26 = .ok (.iload_n 1, 1) := dzr zhdX12_isFreedom_0 16 rfl
theorem dX12_isFreedom_27 : decode cX12_isFreedom 27 = .ok (.if_icmp .ne 63, 3) := dzr zhdX12_isFreedom_0 17 rfl
theorem dX12_isFreedom_30 : decode cX12_isFreedom 30 = .ok (.aload_n 0, 1) := dzr zhdX12_isFreedom_0 18 rfl
theorem dX12_isFreedom_31 : decode cX12_isFreedom 31 = .ok (.getfield 80, 3) := dzr zhdX12_isFreedom_0 19 rfl
theorem dX12_isFreedom_34 : decode cX12_isFreedom 34 = .ok (.iload_n 3, 1) := dzr zhdX12_isFreedom_0 20 rfl
theorem dX12_isFreedom_35 : decode cX12_isFreedom 35 = .ok (.iaload, 1) := dzr zhdX12_isFreedom_0 21 rfl
theorem dX12_isFreedom_36 : decode cX12_isFreedom 36 = .ok (.iload_n 1, 1) := dzr zhdX12_isFreedom_0 22 rfl
theorem dX12_isFreedom_37 : decode cX12_isFreedom 37 = .ok (.if_icmp .ne 12, 3) := dzr zhdX12_isFreedom_0 23 rfl
def ztdX12_isFreedom_40 : List (Nat × Instr × Nat) := [(40, .aload_n 0, 1), (41, .getfield 83, 3), (44, .iload_n 3, 1), (45, .iaload, 1), (46, .goto 9, 3), (49, .aload_n 0, 1), (50, .getfield 80, 3), (53, .iload_n 3, 1), (54, .iaload, 1), (55, .istore 4, 2), (57, .aload_n 0, 1), (58, .iload_n 1, 1), (59, .iload 4, 2), (61, .iload_n 2, 1), (62, .invokevirtual 392, 3), (65, .aload_n 0, 1), (66, .getfield 86, 3), (69, .iload_n 3, 1), (70, .iaload, 1), (71, .if_icmp .lt 7, 3), (74, .iconst 1, 1), (75, .goto 4, 3), (78, .iconst 0, 1), (79, .aload_n 0, 1)]
theorem zhdX12_isFreedom_40 : dzC ztdX12_isFreedom_40 40 (cX12_isFreedom.data.toList.drop 40) = true := by decide +kernel
theorem dX12_isFreedom_40 : decode cX12_isFreedom 40 = .ok (.aload_n 0, 1) := dzr zhdX12_isFreedom_40 0 rfl
theorem dX12_isFreedom_41 : decode cX12_isFreedom 41 = .ok (.getfield 83, 3) := dzr zhdX12_isFreedom_40 1 rfl
theorem dX12_isFreedom_44 : decode cX12_isFreedom 44 = .ok (.iload_n 3, 1) := dzr zhdX12_isFreedom_40 2 rfl
theorem dX12_isFreedom_45 : decode cX12_isFreedom 45 = .ok (.iaload, 1) := dzr zhdX12_isFreedom_40 3 rfl
theorem dX12_isFreedom_46 : decode cX12_isFreedom 46 = .ok (.goto 9, 3) := dzr zhdX12_isFreedom_40 4 rfl
theorem dX12_isFreedom_49 : decode cX12_isFreedom 49 = .ok (.aload_n 0, 1) := dzr zhdX12_isFreedom_40 5 rfl
theorem dX12_isFreedom_50 : decode cX12_isFreedom 50 = .ok (.getfield 80, 3) := dzr zhdX12_isFreedom_40 6 rfl
theorem dX12_isFreedom_53 : decode cX12_isFreedom 53 = .ok (.iload_n 3, 1) := dzr zhdX12_isFreedom_40 7 rfl
theorem dX12_isFreedom_54 : decode cX12_isFreedom 54 = .ok (.iaload, 1) := dzr zhdX12_isFreedom_40 8 rfl
theorem dX12_isFreedom_55 : decode cX12_isFreedom 55 = .ok (.istore 4, 2) := dzr zhdX12_isFreedom_40 9 rfl
theorem dX12_isFreedom_57 : decode cX12_isFreedom 57 = .ok (.aload_n 0, 1) := dzr zhdX12_isFreedom_40 10 rfl
theorem dX12_isFreedom_58 : decode cX12_isFreedom 58 = .ok (.iload_n 1, 1) := dzr zhdX12_isFreedom_40 11 rfl
theorem dX12_isFreedom_59 : decode cX12_isFreedom 59 = .ok (.iload 4, 2) := dzr zhdX12_isFreedom_40 12 rfl
theorem dX12_isFreedom_61 : decode cX12_isFreedom 61 = .ok (.iload_n 2, 1) := dzr zhdX12_isFreedom_40 13 rfl
theorem dX12_isFreedom_62 : decode cX12_isFreedom 62 = .ok (.invokevirtual 392, 3) := dzr zhdX12_isFreedom_40 14 rfl
theorem dX12_isFreedom_65 : decode cX12_isFreedom 65 = .ok (.aload_n 0, 1) := dzr zhdX12_isFreedom_40 15 rfl
theorem dX12_isFreedom_66 : decode cX12_isFreedom 66 = .ok (.getfield 86, 3) := dzr zhdX12_isFreedom_40 16 rfl
theorem dX12_isFreedom_69 : decode cX12_isFreedom 69 = .ok (.iload_n 3, 1) := dzr zhdX12_isFreedom_40 17 rfl
theorem dX12_isFreedom_70 : decode cX12_isFreedom 70 = .ok (.iaload, 1) := dzr zhdX12_isFreedom_40 18 rfl
theorem dX12_isFreedom_71 : decode cX12_isFreedom 71 = .ok (.if_icmp .lt 7, 3) := dzr zhdX12_isFreedom_40 19 rfl
theorem dX12_isFreedom_74 : decode cX12_isFreedom 74 = .ok (.iconst 1, 1) := dzr zhdX12_isFreedom_40 20 rfl
theorem dX12_isFreedom_75 : decode cX12_isFreedom 75 = .ok (.goto 4, 3) := dzr zhdX12_isFreedom_40 21 rfl
theorem dX12_isFreedom_78 : decode cX12_isFreedom 78 = .ok (.iconst 0, 1) := dzr zhdX12_isFreedom_40 22 rfl
theorem dX12_isFreedom_79 : decode cX12_isFreedom 79 = .ok (.aload_n 0, 1) := dzr zhdX12_isFreedom_40 23 rfl
def ztdX12_isFreedom_80 : List (Nat × Instr × Nat) := [(80, .getfield 89, 3), (83, .iload_n 3, 1), (84, .baload, 1), (85, .if_icmp .eq 5, 3), (88, .iconst 0, 1), (89, .ireturn, 1), (90, .iinc 3 1, 3), (93, .goto (-91), 3), (96, .iconst 1, 1), (97, .ireturn, 1)]
theorem zhdX12_isFreedom_80 : dzC ztdX12_isFreedom_80 80 (cX12_isFreedom.data.toList.drop 80) = true := by decide +kernel
theorem dX12_isFreedom_80 : decode cX12_isFreedom 80 = .ok (.getfield 89, 3) := dzr zhdX12_isFreedom_80 0 rfl
theorem dX12_isFreedom_83 : decode cX12_isFreedom 83 = .ok (.iload_n 3, 1) := dzr zhdX12_isFreedom_80 1 rfl
theorem dX12_isFreedom_84 : decode cX12_isFreedom 84 = .ok (.baload, 1) := dzr zhdX12_isFreedom_80 2 rfl
theorem dX12_isFreedom_85 : decode cX12_isFreedom 85 = .ok (.if_icmp .eq 5, 3) := dzr zhdX12_isFreedom_80 3 rfl
theorem dX12_isFreedom_88 : decode cX12_isFreedom 88 = .ok (.iconst 0, 1) := dzr zhdX12_isFreedom_80 4 rfl
theorem dX12_isFreedom_89 : decode cX12_isFreedom 89 = .ok (.ireturn, 1) := dzr zhdX12_isFreedom_80 5 rfl
theorem dX12_isFreedom_90 : decode cX12_isFreedom 90 = .ok (.iinc 3 1, 3) := dzr zhdX12_isFreedom_80 6 rfl
theorem dX12_isFreedom_93 : decode cX12_isFreedom 93 = .ok (.goto (-91), 3) := dzr zhdX12_isFreedom_80 7 rfl
theorem dX12_isFreedom_96 : decode cX12_isFreedom 96 = .ok (.iconst 1, 1) := dzr zhdX12_isFreedom_80 8 rfl
theorem dX12_isFreedom_97 : decode cX12_isFreedom 97 = .ok (.ireturn, 1) := dzr zhdX12_isFreedom_80 9 rfl
theorem ggX12_fits_X12_isGlove : GoodIn wsX12_fits wsX12_isGlove := (bg_up (bg_law (bi_wsL_law0_r25 _ (List.mem_of_getElem? (i := 11) rfl))))
theorem gX12_fits_X12_isGlove : GoodIn wsX12_fits (wsV RX12 277 RX12 yX12_isGlove wsX12_isGlove) := goodIn_app (bg_up (bg_cons (bi_wsL_law0_r25 _ (List.mem_of_getElem? (i := 8) rfl)) (bg_cons (bi_wsL_law0_r25 _ (List.mem_of_getElem? (i := 9) rfl)) (bg_cons (bi_wsL_law0_r25 _ (List.mem_of_getElem? (i := 10) rfl)) (bg_cons (bi_wsL_law0_r1 _ (List.mem_of_getElem? (i := 5) rfl)) bg_nil))))) (bg_up (bg_law (bi_wsL_law0_r25 _ (List.mem_of_getElem? (i := 11) rfl))))
theorem ggX12_fits_X12_isFreedom : GoodIn wsX12_fits wsX12_isFreedom := (bg_up (bg_law (bi_wsL_law0_r49 _ (List.mem_of_getElem? (i := 4) rfl))))
theorem gX12_fits_X12_isFreedom : GoodIn wsX12_fits (wsV RX12 395 RX12 yX12_isFreedom wsX12_isFreedom) := goodIn_app (bg_up (bg_cons (bi_wsL_law0_r49 _ (List.mem_of_getElem? (i := 1) rfl)) (bg_cons (bi_wsL_law0_r49 _ (List.mem_of_getElem? (i := 2) rfl)) (bg_cons (bi_wsL_law0_r49 _ (List.mem_of_getElem? (i := 3) rfl)) (bg_cons (bi_wsL_law0_r1 _ (List.mem_of_getElem? (i := 5) rfl)) bg_nil))))) (bg_up (bg_law (bi_wsL_law0_r49 _ (List.mem_of_getElem? (i := 4) rfl))))
def ztdX12_fits_0 : List (Nat × Instr × Nat) := [(0, .aload_n 0, 1), (1, .iload_n 1, 1), (2, .invokevirtual 277, 3), (5, .ifCond .eq 8, 3), (8, .iload_n 2, 1), (9, .iconst (-1), 1), (10, .if_icmp .ge 5, 3), (13, .iconst (-1), 1), (14, .ireturn, 1), (15, .iconst 0, 1), (16, .istore_n 3, 1), (17, .iconst 0, 1), (18, .istore 4, 2), (20, .iload 4, 2), (22, .bipush 9, 2), (24, .if_icmp .gt 30, 3), (27, .aload_n 0, 1), (28, .iload_n 1, 1), (29, .iload 4, 2), (31, .invokevirtual 395, 3), (34, .ifCond .eq 14, 3), (37, .iload_n 3, 1), (38, .iload_n 2, 1), (39, .if_icmp .ne 6, 3)]
theorem zhdX12_fits_0 : dzC ztdX12_fits_0 0 (cX12_fits.data.toList.drop 0) = true := by decide +kernel
theorem dX12_fits_0 : decode cX12_fits 0 = .ok (.aload_n 0, 1) := dzr zhdX12_fits_0 0 rfl
theorem dX12_fits_1 : decode cX12_fits 1 = .ok (.iload_n 1, 1) := dzr zhdX12_fits_0 1 rfl
theorem dX12_fits_2 : decode cX12_fits 2 = .ok (.invokevirtual 277, 3) := dzr zhdX12_fits_0 2 rfl
theorem dX12_fits_5 : decode cX12_fits 5 = .ok (.ifCond .eq 8, 3) := dzr zhdX12_fits_0 3 rfl
theorem dX12_fits_8 : decode cX12_fits 8 = .ok (.iload_n 2, 1) := dzr zhdX12_fits_0 4 rfl
theorem dX12_fits_9 : decode cX12_fits 9 = .ok (.iconst (-1), 1) := dzr zhdX12_fits_0 5 rfl
theorem dX12_fits_10 : decode cX12_fits 10 = .ok (.if_icmp .ge 5, 3) := dzr zhdX12_fits_0 6 rfl
theorem dX12_fits_13 : decode cX12_fits 13 = .ok (.iconst (-1), 1) := dzr zhdX12_fits_0 7 rfl
theorem dX12_fits_14 : decode cX12_fits 14 = .ok (.ireturn, 1) := dzr zhdX12_fits_0 8 rfl
theorem dX12_fits_15 : decode cX12_fits 15 = .ok (.iconst 0, 1) := dzr zhdX12_fits_0 9 rfl
theorem dX12_fits_16 : decode cX12_fits 16 = .ok (.istore_n 3, 1) := dzr zhdX12_fits_0 10 rfl
theorem dX12_fits_17 : decode cX12_fits 17 = .ok (.iconst 0, 1) := dzr zhdX12_fits_0 11 rfl
theorem dX12_fits_18 : decode cX12_fits 18 = .ok (.istore 4, 2) := dzr zhdX12_fits_0 12 rfl
theorem dX12_fits_20 : decode cX12_fits 20 = .ok (.iload 4, 2) := dzr zhdX12_fits_0 13 rfl
theorem dX12_fits_22 : decode cX12_fits 22 = .ok (.bipush 9, 2) := dzr zhdX12_fits_0 14 rfl
theorem dX12_fits_24 : decode cX12_fits 24 = .ok (.if_icmp .gt 30, 3) := dzr zhdX12_fits_0 15 rfl
theorem dX12_fits_27 : decode cX12_fits 27 = .ok (.aload_n 0, 1) := dzr zhdX12_fits_0 16 rfl
theorem dX12_fits_28 : decode cX12_fits 28 = .ok (.iload_n 1, 1) := dzr zhdX12_fits_0 17 rfl
theorem dX12_fits_29 : decode cX12_fits 29 = .ok (.iload 4, 2) := dzr zhdX12_fits_0 18 rfl
theorem dX12_fits_31 : decode cX12_fits 31 = .ok (.invokevirtual 395, 3) := dzr zhdX12_fits_0 19 rfl
theorem dX12_fits_34 : decode cX12_fits 34 = .ok (.ifCond .eq 14, 3) := dzr zhdX12_fits_0 20 rfl
theorem dX12_fits_37 : decode cX12_fits 37 = .ok (.iload_n 3, 1) := dzr zhdX12_fits_0 21 rfl
theorem dX12_fits_38 : decode cX12_fits 38 = .ok (.iload_n 2, 1) := dzr zhdX12_fits_0 22 rfl
theorem dX12_fits_39 : decode cX12_fits 39 = .ok (.if_icmp .ne 6, 3) := dzr zhdX12_fits_0 23 rfl
def ztdX12_fits_42 : List (Nat × Instr × Nat) := [(42, .iload 4, 2), (44, .ireturn, 1), (45, .iinc 3 1, 3), (48, .iinc 4 1, 3), (51, .goto (-31), 3), (54, .iload_n 2, 1), (55, .iconst (-1), 1), (56, .if_icmp .ne 7, 3), (59, .iload_n 3, 1), (60, .goto 4, 3), (63, .iconst (-1), 1), (64, .ireturn, 1)]
theorem zhdX12_fits_42 : dzC ztdX12_fits_42 42 (cX12_fits.data.toList.drop 42) = true := by decide +kernel
theorem dX12_fits_42 : decode cX12_fits 42 = .ok (.iload 4, 2) := dzr zhdX12_fits_42 0 rfl
theorem dX12_fits_44 : decode cX12_fits 44 = .ok (.ireturn, 1) := dzr zhdX12_fits_42 1 rfl
theorem dX12_fits_45 : decode cX12_fits 45 = .ok (.iinc 3 1, 3) := dzr zhdX12_fits_42 2 rfl
theorem dX12_fits_48 : decode cX12_fits 48 = .ok (.iinc 4 1, 3) := dzr zhdX12_fits_42 3 rfl
theorem dX12_fits_51 : decode cX12_fits 51 = .ok (.goto (-31), 3) := dzr zhdX12_fits_42 4 rfl
theorem dX12_fits_54 : decode cX12_fits 54 = .ok (.iload_n 2, 1) := dzr zhdX12_fits_42 5 rfl
theorem dX12_fits_55 : decode cX12_fits 55 = .ok (.iconst (-1), 1) := dzr zhdX12_fits_42 6 rfl
theorem dX12_fits_56 : decode cX12_fits 56 = .ok (.if_icmp .ne 7, 3) := dzr zhdX12_fits_42 7 rfl
theorem dX12_fits_59 : decode cX12_fits 59 = .ok (.iload_n 3, 1) := dzr zhdX12_fits_42 8 rfl
theorem dX12_fits_60 : decode cX12_fits 60 = .ok (.goto 4, 3) := dzr zhdX12_fits_42 9 rfl
theorem dX12_fits_63 : decode cX12_fits 63 = .ok (.iconst (-1), 1) := dzr zhdX12_fits_42 10 rfl
theorem dX12_fits_64 : decode cX12_fits 64 = .ok (.ireturn, 1) := dzr zhdX12_fits_42 11 rfl
theorem ggX12_ask_X12_isGlove : GoodIn wsX12_ask wsX12_isGlove := (bg_up (bg_law (bi_wsL_law0_r25 _ (List.mem_of_getElem? (i := 11) rfl))))
theorem gX12_ask_X12_isGlove : GoodIn wsX12_ask (wsV RX12 277 RX12 yX12_isGlove wsX12_isGlove) := goodIn_app (bg_up (bg_cons (bi_wsL_law0_r25 _ (List.mem_of_getElem? (i := 8) rfl)) (bg_cons (bi_wsL_law0_r25 _ (List.mem_of_getElem? (i := 9) rfl)) (bg_cons (bi_wsL_law0_r25 _ (List.mem_of_getElem? (i := 10) rfl)) (bg_cons (bi_wsL_law0_r1 _ (List.mem_of_getElem? (i := 5) rfl)) bg_nil))))) (bg_up (bg_law (bi_wsL_law0_r25 _ (List.mem_of_getElem? (i := 11) rfl))))
theorem ggX12_ask_X12_in : GoodIn wsX12_ask wsX12_in := (bg_up (bg_law (bi_wsL_law0_r16 _ (List.mem_of_getElem? (i := 21) rfl))))
theorem gX12_ask_X12_in : GoodIn wsX12_ask (va_wsS RX12 211 yX12_in wsX12_in) := goodIn_app (bg_up (bg_cons (bi_wsL_law0_r16 _ (List.mem_of_getElem? (i := 19) rfl)) (bg_cons (bi_wsL_law0_r16 _ (List.mem_of_getElem? (i := 20) rfl)) (bg_cons (bi_wsL_law0_r1 _ (List.mem_of_getElem? (i := 5) rfl)) bg_nil)))) (bg_up (bg_law (bi_wsL_law0_r16 _ (List.mem_of_getElem? (i := 21) rfl))))
theorem ggX12_ask_X12_fits : GoodIn wsX12_ask wsX12_fits := (bg_up (bg_law (bi_wsL_law0_r49 _ (List.mem_of_getElem? (i := 0) rfl))))
theorem gX12_ask_X12_fits : GoodIn wsX12_ask (wsV RX12 398 RX12 yX12_fits wsX12_fits) := goodIn_app (bg_up (bg_cons (bi_wsL_law0_r50 _ (List.mem_of_getElem? (i := 6) rfl)) (bg_cons (bi_wsL_law0_r48 _ (List.mem_of_getElem? (i := 22) rfl)) (bg_cons (bi_wsL_law0_r48 _ (List.mem_of_getElem? (i := 23) rfl)) (bg_cons (bi_wsL_law0_r1 _ (List.mem_of_getElem? (i := 5) rfl)) bg_nil))))) (bg_up (bg_law (bi_wsL_law0_r49 _ (List.mem_of_getElem? (i := 0) rfl))))
theorem ggX12_ask_X12_areTwo : GoodIn wsX12_ask wsX12_areTwo := (bg_up (bg_law (bi_wsL_law0_r27 _ (List.mem_of_getElem? (i := 13) rfl))))
theorem gX12_ask_X12_areTwo : GoodIn wsX12_ask (wsV RX12 316 RX12 yX12_areTwo wsX12_areTwo) := goodIn_app (bg_up (bg_cons (bi_wsL_law0_r27 _ (List.mem_of_getElem? (i := 10) rfl)) (bg_cons (bi_wsL_law0_r27 _ (List.mem_of_getElem? (i := 11) rfl)) (bg_cons (bi_wsL_law0_r27 _ (List.mem_of_getElem? (i := 12) rfl)) (bg_cons (bi_wsL_law0_r1 _ (List.mem_of_getElem? (i := 5) rfl)) bg_nil))))) (bg_up (bg_law (bi_wsL_law0_r27 _ (List.mem_of_getElem? (i := 13) rfl))))
theorem ggX12_ask_X12_isFreedom : GoodIn wsX12_ask wsX12_isFreedom := (bg_up (bg_law (bi_wsL_law0_r49 _ (List.mem_of_getElem? (i := 4) rfl))))
theorem gX12_ask_X12_isFreedom : GoodIn wsX12_ask (wsV RX12 395 RX12 yX12_isFreedom wsX12_isFreedom) := goodIn_app (bg_up (bg_cons (bi_wsL_law0_r49 _ (List.mem_of_getElem? (i := 1) rfl)) (bg_cons (bi_wsL_law0_r49 _ (List.mem_of_getElem? (i := 2) rfl)) (bg_cons (bi_wsL_law0_r49 _ (List.mem_of_getElem? (i := 3) rfl)) (bg_cons (bi_wsL_law0_r1 _ (List.mem_of_getElem? (i := 5) rfl)) bg_nil))))) (bg_up (bg_law (bi_wsL_law0_r49 _ (List.mem_of_getElem? (i := 4) rfl))))
theorem ggX12_ask_X12_toldRise : GoodIn wsX12_ask wsX12_toldRise := (bg_up (bg_law (bi_wsL_law0_r49 _ (List.mem_of_getElem? (i := 8) rfl))))
theorem gX12_ask_X12_toldRise : GoodIn wsX12_ask (wsV RX12 392 RX12 yX12_toldRise wsX12_toldRise) := goodIn_app (bg_up (bg_cons (bi_wsL_law0_r49 _ (List.mem_of_getElem? (i := 5) rfl)) (bg_cons (bi_wsL_law0_r49 _ (List.mem_of_getElem? (i := 6) rfl)) (bg_cons (bi_wsL_law0_r49 _ (List.mem_of_getElem? (i := 7) rfl)) (bg_cons (bi_wsL_law0_r1 _ (List.mem_of_getElem? (i := 5) rfl)) bg_nil))))) (bg_up (bg_law (bi_wsL_law0_r49 _ (List.mem_of_getElem? (i := 8) rfl))))
def ztdX12_ask_0 : List (Nat × Instr × Nat) := [(0, .aload_n 0, 1), (1, .iload_n 1, 1), (2, .invokevirtual 277, 3), (5, .ifCond .eq 24, 3), (8, .iload_n 2, 1), (9, .bipush (-9), 2), (11, .bipush 9, 2), (13, .invokestatic 211, 3), (16, .ifCond .eq 13, 3), (19, .aload_n 0, 1), (20, .iload_n 1, 1), (21, .iconst 0, 1), (22, .invokevirtual 398, 3), (25, .iconst (-1), 1), (26, .if_icmp .ne 5, 3), (29, .iconst (-1), 1), (30, .ireturn, 1), (31, .iconst (-1), 1), (32, .istore_n 3, 1), (33, .iconst 0, 1), (34, .istore 4, 2), (36, .iconst 0, 1), (37, .istore 5, 2), (39, .iload 5, 2)]
theorem zhdX12_ask_0 : dzC ztdX12_ask_0 0 (cX12_ask.data.toList.drop 0) = true := by decide +kernel
theorem dX12_ask_0 : decode cX12_ask 0 = .ok (.aload_n 0, 1) := dzr zhdX12_ask_0 0 rfl
theorem dX12_ask_1 : decode cX12_ask 1 = .ok (.iload_n 1, 1) := dzr zhdX12_ask_0 1 rfl
theorem dX12_ask_2 : decode cX12_ask 2 = .ok (.invokevirtual 277, 3) := dzr zhdX12_ask_0 2 rfl
theorem dX12_ask_5 : decode cX12_ask 5 = .ok (.ifCond .eq 24, 3) := dzr zhdX12_ask_0 3 rfl
theorem dX12_ask_8 : decode cX12_ask 8 = .ok (.iload_n 2, 1) := dzr zhdX12_ask_0 4 rfl
theorem dX12_ask_9 : decode cX12_ask 9 = .ok (.bipush (-9), 2) := dzr zhdX12_ask_0 5 rfl
theorem dX12_ask_11 : decode cX12_ask 11 = .ok (.bipush 9, 2) := dzr zhdX12_ask_0 6 rfl
theorem dX12_ask_13 : decode cX12_ask 13 = .ok (.invokestatic 211, 3) := dzr zhdX12_ask_0 7 rfl
theorem dX12_ask_16 : decode cX12_ask 16 = .ok (.ifCond .eq 13, 3) := dzr zhdX12_ask_0 8 rfl
theorem dX12_ask_19 : decode cX12_ask 19 = .ok (.aload_n 0, 1) := dzr zhdX12_ask_0 9 rfl
theorem dX12_ask_20 : decode cX12_ask 20 = .ok (.iload_n 1, 1) := dzr zhdX12_ask_0 10 rfl
theorem dX12_ask_21 : decode cX12_ask 21 = .ok (.iconst 0, 1) := dzr zhdX12_ask_0 11 rfl
theorem dX12_ask_22 : decode cX12_ask 22 = .ok (.invokevirtual 398, 3) := dzr zhdX12_ask_0 12 rfl
theorem dX12_ask_25 : decode cX12_ask 25 = .ok (.iconst (-1), 1) := dzr zhdX12_ask_0 13 rfl
theorem dX12_ask_26 : decode cX12_ask 26 = .ok (.if_icmp .ne 5, 3) := dzr zhdX12_ask_0 14 rfl
theorem dX12_ask_29 : decode cX12_ask 29 = .ok (.iconst (-1), 1) := dzr zhdX12_ask_0 15 rfl
theorem dX12_ask_30 : decode cX12_ask 30 = .ok (.ireturn, 1) := dzr zhdX12_ask_0 16 rfl
theorem dX12_ask_31 : decode cX12_ask 31 = .ok (.iconst (-1), 1) := dzr zhdX12_ask_0 17 rfl
theorem dX12_ask_32 : decode cX12_ask 32 = .ok (.istore_n 3, 1) := dzr zhdX12_ask_0 18 rfl
theorem dX12_ask_33 : decode cX12_ask 33 = .ok (.iconst 0, 1) := dzr zhdX12_ask_0 19 rfl
theorem dX12_ask_34 : decode cX12_ask 34 = .ok (.istore 4, 2) := dzr zhdX12_ask_0 20 rfl
theorem dX12_ask_36 : decode cX12_ask 36 = .ok (.iconst 0, 1) := dzr zhdX12_ask_0 21 rfl
theorem dX12_ask_37 : decode cX12_ask 37 = .ok (.istore 5, 2) := dzr zhdX12_ask_0 22 rfl
theorem dX12_ask_39 : decode cX12_ask 39 = .ok (.iload 5, 2) := dzr zhdX12_ask_0 23 rfl
def ztdX12_ask_41 : List (Nat × Instr × Nat) := [(41, .aload_n 0, 1), (42, .getfield 252, 3), (45, .if_icmp .ge 110, 3), (48, .iconst 0, 1), (49, .istore 6, 2), (51, .iconst 0, 1), (52, .istore 7, 2), (54, .iload 7, 2), (56, .bipush 9, 2), (58, .if_icmp .gt 56, 3), (61, .iload 6, 2), (63, .aload_n 0, 1), (64, .iload_n 1, 1), (65, .iload 5, 2), (67, .invokevirtual 316, 3), (70, .ifCond .eq 13, 3), (73, .aload_n 0, 1), (74, .iload_n 1, 1), (75, .iload 7, 2), (77, .invokevirtual 395, 3), (80, .ifCond .ne 7, 3), (83, .iconst 0, 1), (84, .goto 21, 3), (87, .aload_n 0, 1)]
theorem zhdX12_ask_41 : dzC ztdX12_ask_41 41 (cX12_ask.data.toList.drop 41) = true := by decide +kernel
theorem dX12_ask_41 : decode cX12_ask 41 = .ok (.aload_n 0, 1) := dzr zhdX12_ask_41 0 rfl
theorem dX12_ask_42 : decode cX12_ask 42 = .ok (.getfield 252, 3) := dzr zhdX12_ask_41 1 rfl
theorem dX12_ask_45 : decode cX12_ask 45 = .ok (.if_icmp .ge 110, 3) := dzr zhdX12_ask_41 2 rfl
theorem dX12_ask_48 : decode cX12_ask 48 = .ok (.iconst 0, 1) := dzr zhdX12_ask_41 3 rfl
theorem dX12_ask_49 : decode cX12_ask 49 = .ok (.istore 6, 2) := dzr zhdX12_ask_41 4 rfl
theorem dX12_ask_51 : decode cX12_ask 51 = .ok (.iconst 0, 1) := dzr zhdX12_ask_41 5 rfl
theorem dX12_ask_52 : decode cX12_ask 52 = .ok (.istore 7, 2) := dzr zhdX12_ask_41 6 rfl
theorem dX12_ask_54 : decode cX12_ask 54 = .ok (.iload 7, 2) := dzr zhdX12_ask_41 7 rfl
theorem dX12_ask_56 : decode cX12_ask 56 = .ok (.bipush 9, 2) := dzr zhdX12_ask_41 8 rfl
theorem dX12_ask_58 : decode cX12_ask 58 = .ok (.if_icmp .gt 56, 3) := dzr zhdX12_ask_41 9 rfl
theorem dX12_ask_61 : decode cX12_ask 61 = .ok (.iload 6, 2) := dzr zhdX12_ask_41 10 rfl
theorem dX12_ask_63 : decode cX12_ask 63 = .ok (.aload_n 0, 1) := dzr zhdX12_ask_41 11 rfl
theorem dX12_ask_64 : decode cX12_ask 64 = .ok (.iload_n 1, 1) := dzr zhdX12_ask_41 12 rfl
theorem dX12_ask_65 : decode cX12_ask 65 = .ok (.iload 5, 2) := dzr zhdX12_ask_41 13 rfl
theorem dX12_ask_67 : decode cX12_ask 67 = .ok (.invokevirtual 316, 3) := dzr zhdX12_ask_41 14 rfl
theorem dX12_ask_70 : decode cX12_ask 70 = .ok (.ifCond .eq 13, 3) := dzr zhdX12_ask_41 15 rfl
theorem dX12_ask_73 : decode cX12_ask 73 = .ok (.aload_n 0, 1) := dzr zhdX12_ask_41 16 rfl
theorem dX12_ask_74 : decode cX12_ask 74 = .ok (.iload_n 1, 1) := dzr zhdX12_ask_41 17 rfl
theorem dX12_ask_75 : decode cX12_ask 75 = .ok (.iload 7, 2) := dzr zhdX12_ask_41 18 rfl
theorem dX12_ask_77 : decode cX12_ask 77 = .ok (.invokevirtual 395, 3) := dzr zhdX12_ask_41 19 rfl
theorem dX12_ask_80 : decode cX12_ask 80 = .ok (.ifCond .ne 7, 3) := dzr zhdX12_ask_41 20 rfl
theorem dX12_ask_83 : decode cX12_ask 83 = .ok (.iconst 0, 1) := dzr zhdX12_ask_41 21 rfl
theorem dX12_ask_84 : decode cX12_ask 84 = .ok (.goto 21, 3) := dzr zhdX12_ask_41 22 rfl
theorem dX12_ask_87 : decode cX12_ask 87 = .ok (.aload_n 0, 1) := dzr zhdX12_ask_41 23 rfl
def ztdX12_ask_88 : List (Nat × Instr × Nat) := [(88, .iload_n 1, 1), (89, .iload 5, 2), (91, .iload 7, 2), (93, .invokevirtual 392, 3), (96, .iload_n 2, 1), (97, .if_icmp .lt 7, 3), (100, .iconst 1, 1), (101, .goto 4, 3), (104, .iconst (-1), 1), (105, .iadd, 1), (106, .istore 6, 2), (108, .iinc 7 1, 3), (111, .goto (-57), 3), (114, .aload_n 0, 1), (115, .iload_n 1, 1), (116, .iload 5, 2), (118, .invokevirtual 316, 3), (121, .ifCond .eq 28, 3), (124, .iload_n 3, 1), (125, .iconst (-1), 1), (126, .if_icmp .eq 13, 3), (129, .iload 6, 2), (131, .invokestatic 401, 3), (134, .iload 4, 2)]
theorem zhdX12_ask_88 : dzC ztdX12_ask_88 88 (cX12_ask.data.toList.drop 88) = true := by decide +kernel
theorem dX12_ask_88 : decode cX12_ask 88 = .ok (.iload_n 1, 1) := dzr zhdX12_ask_88 0 rfl
theorem dX12_ask_89 : decode cX12_ask 89 = .ok (.iload 5, 2) := dzr zhdX12_ask_88 1 rfl
theorem dX12_ask_91 : decode cX12_ask 91 = .ok (.iload 7, 2) := dzr zhdX12_ask_88 2 rfl
theorem dX12_ask_93 : decode cX12_ask 93 = .ok (.invokevirtual 392, 3) := dzr zhdX12_ask_88 3 rfl
theorem dX12_ask_96 : decode cX12_ask 96 = .ok (.iload_n 2, 1) := dzr zhdX12_ask_88 4 rfl
theorem dX12_ask_97 : decode cX12_ask 97 = .ok (.if_icmp .lt 7, 3) := dzr zhdX12_ask_88 5 rfl
theorem dX12_ask_100 : decode cX12_ask 100 = .ok (.iconst 1, 1) := dzr zhdX12_ask_88 6 rfl
theorem dX12_ask_101 : decode cX12_ask 101 = .ok (.goto 4, 3) := dzr zhdX12_ask_88 7 rfl
theorem dX12_ask_104 : decode cX12_ask 104 = .ok (.iconst (-1), 1) := dzr zhdX12_ask_88 8 rfl
theorem dX12_ask_105 : decode cX12_ask 105 = .ok (.iadd, 1) := dzr zhdX12_ask_88 9 rfl
theorem dX12_ask_106 : decode cX12_ask 106 = .ok (.istore 6, 2) := dzr zhdX12_ask_88 10 rfl
theorem dX12_ask_108 : decode cX12_ask 108 = .ok (.iinc 7 1, 3) := dzr zhdX12_ask_88 11 rfl
theorem dX12_ask_111 : decode cX12_ask 111 = .ok (.goto (-57), 3) := dzr zhdX12_ask_88 12 rfl
theorem dX12_ask_114 : decode cX12_ask 114 = .ok (.aload_n 0, 1) := dzr zhdX12_ask_88 13 rfl
theorem dX12_ask_115 : decode cX12_ask 115 = .ok (.iload_n 1, 1) := dzr zhdX12_ask_88 14 rfl
theorem dX12_ask_116 : decode cX12_ask 116 = .ok (.iload 5, 2) := dzr zhdX12_ask_88 15 rfl
theorem dX12_ask_118 : decode cX12_ask 118 = .ok (.invokevirtual 316, 3) := dzr zhdX12_ask_88 16 rfl
theorem dX12_ask_121 : decode cX12_ask 121 = .ok (.ifCond .eq 28, 3) := dzr zhdX12_ask_88 17 rfl
theorem dX12_ask_124 : decode cX12_ask 124 = .ok (.iload_n 3, 1) := dzr zhdX12_ask_88 18 rfl
theorem dX12_ask_125 : decode cX12_ask 125 = .ok (.iconst (-1), 1) := dzr zhdX12_ask_88 19 rfl
theorem dX12_ask_126 : decode cX12_ask 126 = .ok (.if_icmp .eq 13, 3) := dzr zhdX12_ask_88 20 rfl
theorem dX12_ask_129 : decode cX12_ask 129 = .ok (.iload 6, 2) := dzr zhdX12_ask_88 21 rfl
theorem dX12_ask_131 : decode cX12_ask 131 = .ok (.invokestatic 401, 3) := dzr zhdX12_ask_88 22 rfl
theorem dX12_ask_134 : decode cX12_ask 134 = .ok (.iload 4, 2) := dzr zhdX12_ask_88 23 rfl
def ztdX12_ask_136 : List (Nat × Instr × Nat) := [(136, .if_icmp .ge 13, 3), (139, .iload 5, 2), (141, .istore_n 3, 1), (142, .iload 6, 2), (144, .invokestatic 401, 3), (147, .istore 4, 2), (149, .iinc 5 1, 3), (152, .goto (-113), 3), (155, .iload_n 3, 1), (156, .ireturn, 1)]
theorem zhdX12_ask_136 : dzC ztdX12_ask_136 136 (cX12_ask.data.toList.drop 136) = true := by decide +kernel
theorem dX12_ask_136 : decode cX12_ask 136 = .ok (.if_icmp .ge 13, 3) := dzr zhdX12_ask_136 0 rfl
theorem dX12_ask_139 : decode cX12_ask 139 = .ok (.iload 5, 2) := dzr zhdX12_ask_136 1 rfl
theorem dX12_ask_141 : decode cX12_ask 141 = .ok (.istore_n 3, 1) := dzr zhdX12_ask_136 2 rfl
theorem dX12_ask_142 : decode cX12_ask 142 = .ok (.iload 6, 2) := dzr zhdX12_ask_136 3 rfl
theorem dX12_ask_144 : decode cX12_ask 144 = .ok (.invokestatic 401, 3) := dzr zhdX12_ask_136 4 rfl
theorem dX12_ask_147 : decode cX12_ask 147 = .ok (.istore 4, 2) := dzr zhdX12_ask_136 5 rfl
theorem dX12_ask_149 : decode cX12_ask 149 = .ok (.iinc 5 1, 3) := dzr zhdX12_ask_136 6 rfl
theorem dX12_ask_152 : decode cX12_ask 152 = .ok (.goto (-113), 3) := dzr zhdX12_ask_136 7 rfl
theorem dX12_ask_155 : decode cX12_ask 155 = .ok (.iload_n 3, 1) := dzr zhdX12_ask_136 8 rfl
theorem dX12_ask_156 : decode cX12_ask 156 = .ok (.ireturn, 1) := dzr zhdX12_ask_136 9 rfl
theorem ggX12_gloveOf_X12_of : GoodIn wsX12_gloveOf wsX12_of := (bg_up (bg_law (bi_wsL_law0_r22 _ (List.mem_of_getElem? (i := 21) rfl))))
theorem gX12_gloveOf_X12_of : GoodIn wsX12_gloveOf (wsV RX12 258 RX12 yX12_of wsX12_of) := goodIn_app (bg_up (bg_cons (bi_wsL_law0_r22 _ (List.mem_of_getElem? (i := 18) rfl)) (bg_cons (bi_wsL_law0_r22 _ (List.mem_of_getElem? (i := 19) rfl)) (bg_cons (bi_wsL_law0_r22 _ (List.mem_of_getElem? (i := 20) rfl)) (bg_cons (bi_wsL_law0_r1 _ (List.mem_of_getElem? (i := 5) rfl)) bg_nil))))) (bg_up (bg_law (bi_wsL_law0_r22 _ (List.mem_of_getElem? (i := 21) rfl))))
def ztdX12_gloveOf_0 : List (Nat × Instr × Nat) := [(0, .iconst 0, 1), (1, .istore_n 3, 1), (2, .iconst 0, 1), (3, .istore 4, 2), (5, .iload 4, 2), (7, .aload_n 0, 1), (8, .getfield 252, 3), (11, .if_icmp .ge 31, 3), (14, .aload_n 0, 1), (15, .iload 4, 2), (17, .iconst 0, 1), (18, .invokevirtual 258, 3), (21, .iload_n 1, 1), (22, .if_icmp .ne 14, 3), (25, .iload_n 3, 1), (26, .iload_n 2, 1), (27, .if_icmp .ne 6, 3), (30, .iload 4, 2), (32, .ireturn, 1), (33, .iinc 3 1, 3), (36, .iinc 4 1, 3), (39, .goto (-34), 3), (42, .iconst (-1), 1), (43, .ireturn, 1)]
theorem zhdX12_gloveOf_0 : dzC ztdX12_gloveOf_0 0 (cX12_gloveOf.data.toList.drop 0) = true := by decide +kernel
theorem dX12_gloveOf_0 : decode cX12_gloveOf 0 = .ok (.iconst 0, 1) := dzr zhdX12_gloveOf_0 0 rfl
theorem dX12_gloveOf_1 : decode cX12_gloveOf 1 = .ok (.istore_n 3, 1) := dzr zhdX12_gloveOf_0 1 rfl
theorem dX12_gloveOf_2 : decode cX12_gloveOf 2 = .ok (.iconst 0, 1) := dzr zhdX12_gloveOf_0 2 rfl
theorem dX12_gloveOf_3 : decode cX12_gloveOf 3 = .ok (.istore 4, 2) := dzr zhdX12_gloveOf_0 3 rfl
theorem dX12_gloveOf_5 : decode cX12_gloveOf 5 = .ok (.iload 4, 2) := dzr zhdX12_gloveOf_0 4 rfl
theorem dX12_gloveOf_7 : decode cX12_gloveOf 7 = .ok (.aload_n 0, 1) := dzr zhdX12_gloveOf_0 5 rfl
theorem dX12_gloveOf_8 : decode cX12_gloveOf 8 = .ok (.getfield 252, 3) := dzr zhdX12_gloveOf_0 6 rfl
theorem dX12_gloveOf_11 : decode cX12_gloveOf 11 = .ok (.if_icmp .ge 31, 3) := dzr zhdX12_gloveOf_0 7 rfl
theorem dX12_gloveOf_14 : decode cX12_gloveOf 14 = .ok (.aload_n 0, 1) := dzr zhdX12_gloveOf_0 8 rfl
theorem dX12_gloveOf_15 : decode cX12_gloveOf 15 = .ok (.iload 4, 2) := dzr zhdX12_gloveOf_0 9 rfl
theorem dX12_gloveOf_17 : decode cX12_gloveOf 17 = .ok (.iconst 0, 1) := dzr zhdX12_gloveOf_0 10 rfl
theorem dX12_gloveOf_18 : decode cX12_gloveOf 18 = .ok (.invokevirtual 258, 3) := dzr zhdX12_gloveOf_0 11 rfl
theorem dX12_gloveOf_21 : decode cX12_gloveOf 21 = .ok (.iload_n 1, 1) := dzr zhdX12_gloveOf_0 12 rfl
theorem dX12_gloveOf_22 : decode cX12_gloveOf 22 = .ok (.if_icmp .ne 14, 3) := dzr zhdX12_gloveOf_0 13 rfl
theorem dX12_gloveOf_25 : decode cX12_gloveOf 25 = .ok (.iload_n 3, 1) := dzr zhdX12_gloveOf_0 14 rfl
theorem dX12_gloveOf_26 : decode cX12_gloveOf 26 = .ok (.iload_n 2, 1) := dzr zhdX12_gloveOf_0 15 rfl
theorem dX12_gloveOf_27 : decode cX12_gloveOf 27 = .ok (.if_icmp .ne 6, 3) := dzr zhdX12_gloveOf_0 16 rfl
theorem dX12_gloveOf_30 : decode cX12_gloveOf 30 = .ok (.iload 4, 2) := dzr zhdX12_gloveOf_0 17 rfl
theorem dX12_gloveOf_32 : decode cX12_gloveOf 32 = .ok (.ireturn, 1) := dzr zhdX12_gloveOf_0 18 rfl
theorem dX12_gloveOf_33 : decode cX12_gloveOf 33 = .ok (.iinc 3 1, 3) := dzr zhdX12_gloveOf_0 19 rfl
theorem dX12_gloveOf_36 : decode cX12_gloveOf 36 = .ok (.iinc 4 1, 3) := dzr zhdX12_gloveOf_0 20 rfl
theorem dX12_gloveOf_39 : decode cX12_gloveOf 39 = .ok (.goto (-34), 3) := dzr zhdX12_gloveOf_0 21 rfl
theorem dX12_gloveOf_42 : decode cX12_gloveOf 42 = .ok (.iconst (-1), 1) := dzr zhdX12_gloveOf_0 22 rfl
theorem dX12_gloveOf_43 : decode cX12_gloveOf 43 = .ok (.ireturn, 1) := dzr zhdX12_gloveOf_0 23 rfl
theorem ggX12_gameOf_X12_gloveOf : GoodIn wsX12_gameOf wsX12_gloveOf := (bg_up (bg_law (bi_wsL_law0_r51 _ (List.mem_of_getElem? (i := 8) rfl))))
theorem gX12_gameOf_X12_gloveOf : GoodIn wsX12_gameOf (wsV RX12 404 RX12 yX12_gloveOf wsX12_gloveOf) := goodIn_app (bg_up (bg_cons (bi_wsL_law0_r51 _ (List.mem_of_getElem? (i := 5) rfl)) (bg_cons (bi_wsL_law0_r51 _ (List.mem_of_getElem? (i := 6) rfl)) (bg_cons (bi_wsL_law0_r51 _ (List.mem_of_getElem? (i := 7) rfl)) (bg_cons (bi_wsL_law0_r1 _ (List.mem_of_getElem? (i := 5) rfl)) bg_nil))))) (bg_up (bg_law (bi_wsL_law0_r51 _ (List.mem_of_getElem? (i := 8) rfl))))
theorem ggX12_gameOf_X12_riseOf : GoodIn wsX12_gameOf wsX12_riseOf := (bg_up (bg_law (bi_wsL_law0_r32 _ (List.mem_of_getElem? (i := 6) rfl))))
theorem gX12_gameOf_X12_riseOf : GoodIn wsX12_gameOf (wsV RX12 304 RX12 yX12_riseOf wsX12_riseOf) := goodIn_app (bg_up (bg_cons (bi_wsL_law0_r32 _ (List.mem_of_getElem? (i := 3) rfl)) (bg_cons (bi_wsL_law0_r32 _ (List.mem_of_getElem? (i := 4) rfl)) (bg_cons (bi_wsL_law0_r32 _ (List.mem_of_getElem? (i := 5) rfl)) (bg_cons (bi_wsL_law0_r1 _ (List.mem_of_getElem? (i := 5) rfl)) bg_nil))))) (bg_up (bg_law (bi_wsL_law0_r32 _ (List.mem_of_getElem? (i := 6) rfl))))
def ztdX12_gameOf_0 : List (Nat × Instr × Nat) := [(0, .aload_n 0, 1), (1, .iconst 0, 1), (2, .iload_n 1, 1), (3, .invokevirtual 404, 3), (6, .istore 4, 2), (8, .aload_n 0, 1), (9, .iconst 1, 1), (10, .iload_n 2, 1), (11, .invokevirtual 404, 3), (14, .istore 5, 2), (16, .iload_n 3, 1), (17, .ifCond .ne 8, 3), (20, .iload 4, 2), (22, .goto 5, 3), (25, .iload 5, 2), (27, .istore 6, 2), (29, .iload 6, 2), (31, .iconst (-1), 1), (32, .if_icmp .ne 6, 3), (35, .bipush (-20), 2), (37, .ireturn, 1), (38, .iload 4, 2), (40, .iconst (-1), 1), (41, .if_icmp .eq 9, 3)]
theorem zhdX12_gameOf_0 : dzC ztdX12_gameOf_0 0 (cX12_gameOf.data.toList.drop 0) = true := by decide +kernel
theorem dX12_gameOf_0 : decode cX12_gameOf 0 = .ok (.aload_n 0, 1) := dzr zhdX12_gameOf_0 0 rfl
theorem dX12_gameOf_1 : decode cX12_gameOf 1 = .ok (.iconst 0, 1) := dzr zhdX12_gameOf_0 1 rfl
theorem dX12_gameOf_2 : decode cX12_gameOf 2 = .ok (.iload_n 1, 1) := dzr zhdX12_gameOf_0 2 rfl
theorem dX12_gameOf_3 : decode cX12_gameOf 3 = .ok (.invokevirtual 404, 3) := dzr zhdX12_gameOf_0 3 rfl
theorem dX12_gameOf_6 : decode cX12_gameOf 6 = .ok (.istore 4, 2) := dzr zhdX12_gameOf_0 4 rfl
theorem dX12_gameOf_8 : decode cX12_gameOf 8 = .ok (.aload_n 0, 1) := dzr zhdX12_gameOf_0 5 rfl
theorem dX12_gameOf_9 : decode cX12_gameOf 9 = .ok (.iconst 1, 1) := dzr zhdX12_gameOf_0 6 rfl
theorem dX12_gameOf_10 : decode cX12_gameOf 10 = .ok (.iload_n 2, 1) := dzr zhdX12_gameOf_0 7 rfl
theorem dX12_gameOf_11 : decode cX12_gameOf 11 = .ok (.invokevirtual 404, 3) := dzr zhdX12_gameOf_0 8 rfl
theorem dX12_gameOf_14 : decode cX12_gameOf 14 = .ok (.istore 5, 2) := dzr zhdX12_gameOf_0 9 rfl
theorem dX12_gameOf_16 : decode cX12_gameOf 16 = .ok (.iload_n 3, 1) := dzr zhdX12_gameOf_0 10 rfl
theorem dX12_gameOf_17 : decode cX12_gameOf 17 = .ok (.ifCond .ne 8, 3) := dzr zhdX12_gameOf_0 11 rfl
theorem dX12_gameOf_20 : decode cX12_gameOf 20 = .ok (.iload 4, 2) := dzr zhdX12_gameOf_0 12 rfl
theorem dX12_gameOf_22 : decode cX12_gameOf 22 = .ok (.goto 5, 3) := dzr zhdX12_gameOf_0 13 rfl
theorem dX12_gameOf_25 : decode cX12_gameOf 25 = .ok (.iload 5, 2) := dzr zhdX12_gameOf_0 14 rfl
theorem dX12_gameOf_27 : decode cX12_gameOf 27 = .ok (.istore 6, 2) := dzr zhdX12_gameOf_0 15 rfl
theorem dX12_gameOf_29 : decode cX12_gameOf 29 = .ok (.iload 6, 2) := dzr zhdX12_gameOf_0 16 rfl
theorem dX12_gameOf_31 : decode cX12_gameOf 31 = .ok (.iconst (-1), 1) := dzr zhdX12_gameOf_0 17 rfl
theorem dX12_gameOf_32 : decode cX12_gameOf 32 = .ok (.if_icmp .ne 6, 3) := dzr zhdX12_gameOf_0 18 rfl
theorem dX12_gameOf_35 : decode cX12_gameOf 35 = .ok (.bipush (-20), 2) := dzr zhdX12_gameOf_0 19 rfl
theorem dX12_gameOf_37 : decode cX12_gameOf 37 = .ok (.ireturn, 1) := dzr zhdX12_gameOf_0 20 rfl
theorem dX12_gameOf_38 : decode cX12_gameOf 38 = .ok (.iload 4, 2) := dzr zhdX12_gameOf_0 21 rfl
theorem dX12_gameOf_40 : decode cX12_gameOf 40 = .ok (.iconst (-1), 1) := dzr zhdX12_gameOf_0 22 rfl
theorem dX12_gameOf_41 : decode cX12_gameOf 41 = .ok (.if_icmp .eq 9, 3) := dzr zhdX12_gameOf_0 23 rfl
def ztdX12_gameOf_44 : List (Nat × Instr × Nat) := [(44, .iload 5, 2), (46, .iconst (-1), 1), (47, .if_icmp .ne 7, 3), (50, .iconst 0, 1), (51, .goto 24, 3), (54, .aload_n 0, 1), (55, .iload 4, 2), (57, .iload 5, 2), (59, .invokevirtual 304, 3), (62, .aload_n 0, 1), (63, .getfield 58, 3), (66, .bipush 36, 2), (68, .iload 6, 2), (70, .iadd, 1), (71, .iaload, 1), (72, .iconst 3, 1), (73, .idiv, 1), (74, .isub, 1), (75, .ireturn, 1)]
theorem zhdX12_gameOf_44 : dzC ztdX12_gameOf_44 44 (cX12_gameOf.data.toList.drop 44) = true := by decide +kernel
theorem dX12_gameOf_44 : decode cX12_gameOf 44 = .ok (.iload 5, 2) := dzr zhdX12_gameOf_44 0 rfl
theorem dX12_gameOf_46 : decode cX12_gameOf 46 = .ok (.iconst (-1), 1) := dzr zhdX12_gameOf_44 1 rfl
theorem dX12_gameOf_47 : decode cX12_gameOf 47 = .ok (.if_icmp .ne 7, 3) := dzr zhdX12_gameOf_44 2 rfl
theorem dX12_gameOf_50 : decode cX12_gameOf 50 = .ok (.iconst 0, 1) := dzr zhdX12_gameOf_44 3 rfl
theorem dX12_gameOf_51 : decode cX12_gameOf 51 = .ok (.goto 24, 3) := dzr zhdX12_gameOf_44 4 rfl
theorem dX12_gameOf_54 : decode cX12_gameOf 54 = .ok (.aload_n 0, 1) := dzr zhdX12_gameOf_44 5 rfl
theorem dX12_gameOf_55 : decode cX12_gameOf 55 = .ok (.iload 4, 2) := dzr zhdX12_gameOf_44 6 rfl
theorem dX12_gameOf_57 : decode cX12_gameOf 57 = .ok (.iload 5, 2) := dzr zhdX12_gameOf_44 7 rfl
theorem dX12_gameOf_59 : decode cX12_gameOf 59 = .ok (.invokevirtual 304, 3) := dzr zhdX12_gameOf_44 8 rfl
theorem dX12_gameOf_62 : decode cX12_gameOf 62 = .ok (.aload_n 0, 1) := dzr zhdX12_gameOf_44 9 rfl
theorem dX12_gameOf_63 : decode cX12_gameOf 63 = .ok (.getfield 58, 3) := dzr zhdX12_gameOf_44 10 rfl
theorem dX12_gameOf_66 : decode cX12_gameOf 66 = .ok (.bipush 36, 2) := dzr zhdX12_gameOf_44 11 rfl
theorem dX12_gameOf_68 : decode cX12_gameOf 68 = .ok (.iload 6, 2) := dzr zhdX12_gameOf_44 12 rfl
theorem dX12_gameOf_70 : decode cX12_gameOf 70 = .ok (.iadd, 1) := dzr zhdX12_gameOf_44 13 rfl
theorem dX12_gameOf_71 : decode cX12_gameOf 71 = .ok (.iaload, 1) := dzr zhdX12_gameOf_44 14 rfl
theorem dX12_gameOf_72 : decode cX12_gameOf 72 = .ok (.iconst 3, 1) := dzr zhdX12_gameOf_44 15 rfl
theorem dX12_gameOf_73 : decode cX12_gameOf 73 = .ok (.idiv, 1) := dzr zhdX12_gameOf_44 16 rfl
theorem dX12_gameOf_74 : decode cX12_gameOf 74 = .ok (.isub, 1) := dzr zhdX12_gameOf_44 17 rfl
theorem dX12_gameOf_75 : decode cX12_gameOf 75 = .ok (.ireturn, 1) := dzr zhdX12_gameOf_44 18 rfl
theorem ggX12_game_X12_in : GoodIn wsX12_game wsX12_in := (bg_up (bg_law (bi_wsL_law0_r16 _ (List.mem_of_getElem? (i := 21) rfl))))
theorem gX12_game_X12_in : GoodIn wsX12_game (va_wsS RX12 211 yX12_in wsX12_in) := goodIn_app (bg_up (bg_cons (bi_wsL_law0_r16 _ (List.mem_of_getElem? (i := 19) rfl)) (bg_cons (bi_wsL_law0_r16 _ (List.mem_of_getElem? (i := 20) rfl)) (bg_cons (bi_wsL_law0_r1 _ (List.mem_of_getElem? (i := 5) rfl)) bg_nil)))) (bg_up (bg_law (bi_wsL_law0_r16 _ (List.mem_of_getElem? (i := 21) rfl))))
theorem ggX12_game_X12_gameOf : GoodIn wsX12_game wsX12_gameOf := (bg_up (bg_law (bi_wsL_law0_r51 _ (List.mem_of_getElem? (i := 4) rfl))))
theorem gX12_game_X12_gameOf : GoodIn wsX12_game (wsV RX12 407 RX12 yX12_gameOf wsX12_gameOf) := goodIn_app (bg_up (bg_cons (bi_wsL_law0_r51 _ (List.mem_of_getElem? (i := 1) rfl)) (bg_cons (bi_wsL_law0_r51 _ (List.mem_of_getElem? (i := 2) rfl)) (bg_cons (bi_wsL_law0_r51 _ (List.mem_of_getElem? (i := 3) rfl)) (bg_cons (bi_wsL_law0_r1 _ (List.mem_of_getElem? (i := 5) rfl)) bg_nil))))) (bg_up (bg_law (bi_wsL_law0_r51 _ (List.mem_of_getElem? (i := 4) rfl))))
def ztdX12_game_0 : List (Nat × Instr × Nat) := [(0, .aload_n 0, 1), (1, .getfield 252, 3), (4, .ifCond .eq 30, 3), (7, .iload_n 1, 1), (8, .iconst 0, 1), (9, .iconst 4, 1), (10, .invokestatic 211, 3), (13, .ifCond .eq 21, 3), (16, .iload_n 2, 1), (17, .iconst 0, 1), (18, .iconst 4, 1), (19, .invokestatic 211, 3), (22, .ifCond .eq 12, 3), (25, .iload_n 3, 1), (26, .iconst 0, 1), (27, .iconst 1, 1), (28, .invokestatic 211, 3), (31, .ifCond .ne 9, 3), (34, .ldc_w 363, 3), (37, .goto 10, 3), (40, .aload_n 0, 1), (41, .iload_n 1, 1), (42, .iload_n 2, 1), (43, .iload_n 3, 1)]
theorem zhdX12_game_0 : dzC ztdX12_game_0 0 (cX12_game.data.toList.drop 0) = true := by decide +kernel
theorem dX12_game_0 : decode cX12_game 0 = .ok (.aload_n 0, 1) := dzr zhdX12_game_0 0 rfl
theorem dX12_game_1 : decode cX12_game 1 = .ok (.getfield 252, 3) := dzr zhdX12_game_0 1 rfl
theorem dX12_game_4 : decode cX12_game 4 = .ok (.ifCond .eq 30, 3) := dzr zhdX12_game_0 2 rfl
theorem dX12_game_7 : decode cX12_game 7 = .ok (.iload_n 1, 1) := dzr zhdX12_game_0 3 rfl
theorem dX12_game_8 : decode cX12_game 8 = .ok (.iconst 0, 1) := dzr zhdX12_game_0 4 rfl
theorem dX12_game_9 : decode cX12_game 9 = .ok (.iconst 4, 1) := dzr zhdX12_game_0 5 rfl
theorem dX12_game_10 : decode cX12_game 10 = .ok (.invokestatic 211, 3) := dzr zhdX12_game_0 6 rfl
theorem dX12_game_13 : decode cX12_game 13 = .ok (.ifCond .eq 21, 3) := dzr zhdX12_game_0 7 rfl
theorem dX12_game_16 : decode cX12_game 16 = .ok (.iload_n 2, 1) := dzr zhdX12_game_0 8 rfl
theorem dX12_game_17 : decode cX12_game 17 = .ok (.iconst 0, 1) := dzr zhdX12_game_0 9 rfl
theorem dX12_game_18 : decode cX12_game 18 = .ok (.iconst 4, 1) := dzr zhdX12_game_0 10 rfl
theorem dX12_game_19 : decode cX12_game 19 = .ok (.invokestatic 211, 3) := dzr zhdX12_game_0 11 rfl
theorem dX12_game_22 : decode cX12_game 22 = .ok (.ifCond .eq 12, 3) := dzr zhdX12_game_0 12 rfl
theorem dX12_game_25 : decode cX12_game 25 = .ok (.iload_n 3, 1) := dzr zhdX12_game_0 13 rfl
theorem dX12_game_26 : decode cX12_game 26 = .ok (.iconst 0, 1) := dzr zhdX12_game_0 14 rfl
theorem dX12_game_27 : decode cX12_game 27 = .ok (.iconst 1, 1) := dzr zhdX12_game_0 15 rfl
theorem dX12_game_28 : decode cX12_game 28 = .ok (.invokestatic 211, 3) := dzr zhdX12_game_0 16 rfl
theorem dX12_game_31 : decode cX12_game 31 = .ok (.ifCond .ne 9, 3) := dzr zhdX12_game_0 17 rfl
theorem dX12_game_34 : decode cX12_game 34 = .ok (.ldc_w 363, 3) := dzr zhdX12_game_0 18 rfl
theorem dX12_game_37 : decode cX12_game 37 = .ok (.goto 10, 3) := dzr zhdX12_game_0 19 rfl
theorem dX12_game_40 : decode cX12_game 40 = .ok (.aload_n 0, 1) := dzr zhdX12_game_0 20 rfl
theorem dX12_game_41 : decode cX12_game 41 = .ok (.iload_n 1, 1) := dzr zhdX12_game_0 21 rfl
theorem dX12_game_42 : decode cX12_game 42 = .ok (.iload_n 2, 1) := dzr zhdX12_game_0 22 rfl
theorem dX12_game_43 : decode cX12_game 43 = .ok (.iload_n 3, 1) := dzr zhdX12_game_0 23 rfl
def ztdX12_game_44 : List (Nat × Instr × Nat) := [(44, .invokevirtual 407, 3), (47, .ireturn, 1)]
theorem zhdX12_game_44 : dzC ztdX12_game_44 44 (cX12_game.data.toList.drop 44) = true := by decide +kernel
theorem dX12_game_44 : decode cX12_game 44 = .ok (.invokevirtual 407, 3) := dzr zhdX12_game_44 0 rfl
theorem dX12_game_47 : decode cX12_game 47 = .ok (.ireturn, 1) := dzr zhdX12_game_44 1 rfl
theorem ggX12_manyOf_X12_of : GoodIn wsX12_manyOf wsX12_of := (bg_up (bg_law (bi_wsL_law0_r22 _ (List.mem_of_getElem? (i := 21) rfl))))
theorem gX12_manyOf_X12_of : GoodIn wsX12_manyOf (wsV RX12 258 RX12 yX12_of wsX12_of) := goodIn_app (bg_up (bg_cons (bi_wsL_law0_r22 _ (List.mem_of_getElem? (i := 18) rfl)) (bg_cons (bi_wsL_law0_r22 _ (List.mem_of_getElem? (i := 19) rfl)) (bg_cons (bi_wsL_law0_r22 _ (List.mem_of_getElem? (i := 20) rfl)) (bg_cons (bi_wsL_law0_r1 _ (List.mem_of_getElem? (i := 5) rfl)) bg_nil))))) (bg_up (bg_law (bi_wsL_law0_r22 _ (List.mem_of_getElem? (i := 21) rfl))))
def ztdX12_manyOf_0 : List (Nat × Instr × Nat) := [(0, .iconst 0, 1), (1, .istore_n 2, 1), (2, .iconst 0, 1), (3, .istore_n 3, 1), (4, .iload_n 3, 1), (5, .aload_n 0, 1), (6, .getfield 252, 3), (9, .if_icmp .ge 27, 3), (12, .iload_n 2, 1), (13, .aload_n 0, 1), (14, .iload_n 3, 1), (15, .iconst 0, 1), (16, .invokevirtual 258, 3), (19, .iload_n 1, 1), (20, .if_icmp .ne 7, 3), (23, .iconst 1, 1), (24, .goto 4, 3), (27, .iconst 0, 1), (28, .iadd, 1), (29, .istore_n 2, 1), (30, .iinc 3 1, 3), (33, .goto (-29), 3), (36, .iload_n 2, 1), (37, .ireturn, 1)]
theorem zhdX12_manyOf_0 : dzC ztdX12_manyOf_0 0 (cX12_manyOf.data.toList.drop 0) = true := by decide +kernel
theorem dX12_manyOf_0 : decode cX12_manyOf 0 = .ok (.iconst 0, 1) := dzr zhdX12_manyOf_0 0 rfl
theorem dX12_manyOf_1 : decode cX12_manyOf 1 = .ok (.istore_n 2, 1) := dzr zhdX12_manyOf_0 1 rfl
theorem dX12_manyOf_2 : decode cX12_manyOf 2 = .ok (.iconst 0, 1) := dzr zhdX12_manyOf_0 2 rfl
theorem dX12_manyOf_3 : decode cX12_manyOf 3 = .ok (.istore_n 3, 1) := dzr zhdX12_manyOf_0 3 rfl
theorem dX12_manyOf_4 : decode cX12_manyOf 4 = .ok (.iload_n 3, 1) := dzr zhdX12_manyOf_0 4 rfl
theorem dX12_manyOf_5 : decode cX12_manyOf 5 = .ok (.aload_n 0, 1) := dzr zhdX12_manyOf_0 5 rfl
theorem dX12_manyOf_6 : decode cX12_manyOf 6 = .ok (.getfield 252, 3) := dzr zhdX12_manyOf_0 6 rfl
theorem dX12_manyOf_9 : decode cX12_manyOf 9 = .ok (.if_icmp .ge 27, 3) := dzr zhdX12_manyOf_0 7 rfl
theorem dX12_manyOf_12 : decode cX12_manyOf 12 = .ok (.iload_n 2, 1) := dzr zhdX12_manyOf_0 8 rfl
theorem dX12_manyOf_13 : decode cX12_manyOf 13 = .ok (.aload_n 0, 1) := dzr zhdX12_manyOf_0 9 rfl
theorem dX12_manyOf_14 : decode cX12_manyOf 14 = .ok (.iload_n 3, 1) := dzr zhdX12_manyOf_0 10 rfl
theorem dX12_manyOf_15 : decode cX12_manyOf 15 = .ok (.iconst 0, 1) := dzr zhdX12_manyOf_0 11 rfl
theorem dX12_manyOf_16 : decode cX12_manyOf 16 = .ok (.invokevirtual 258, 3) := dzr zhdX12_manyOf_0 12 rfl
theorem dX12_manyOf_19 : decode cX12_manyOf 19 = .ok (.iload_n 1, 1) := dzr zhdX12_manyOf_0 13 rfl
theorem dX12_manyOf_20 : decode cX12_manyOf 20 = .ok (.if_icmp .ne 7, 3) := dzr zhdX12_manyOf_0 14 rfl
theorem dX12_manyOf_23 : decode cX12_manyOf 23 = .ok (.iconst 1, 1) := dzr zhdX12_manyOf_0 15 rfl
theorem dX12_manyOf_24 : decode cX12_manyOf 24 = .ok (.goto 4, 3) := dzr zhdX12_manyOf_0 16 rfl
theorem dX12_manyOf_27 : decode cX12_manyOf 27 = .ok (.iconst 0, 1) := dzr zhdX12_manyOf_0 17 rfl
theorem dX12_manyOf_28 : decode cX12_manyOf 28 = .ok (.iadd, 1) := dzr zhdX12_manyOf_0 18 rfl
theorem dX12_manyOf_29 : decode cX12_manyOf 29 = .ok (.istore_n 2, 1) := dzr zhdX12_manyOf_0 19 rfl
theorem dX12_manyOf_30 : decode cX12_manyOf 30 = .ok (.iinc 3 1, 3) := dzr zhdX12_manyOf_0 20 rfl
theorem dX12_manyOf_33 : decode cX12_manyOf 33 = .ok (.goto (-29), 3) := dzr zhdX12_manyOf_0 21 rfl
theorem dX12_manyOf_36 : decode cX12_manyOf 36 = .ok (.iload_n 2, 1) := dzr zhdX12_manyOf_0 22 rfl
theorem dX12_manyOf_37 : decode cX12_manyOf 37 = .ok (.ireturn, 1) := dzr zhdX12_manyOf_0 23 rfl
theorem ggX12_leastOf_X12_manyOf : GoodIn wsX12_leastOf wsX12_manyOf := (bg_up (bg_law (bi_wsL_law0_r52 _ (List.mem_of_getElem? (i := 2) rfl))))
theorem gX12_leastOf_X12_manyOf : GoodIn wsX12_leastOf (wsV RX12 410 RX12 yX12_manyOf wsX12_manyOf) := goodIn_app (bg_up (bg_cons (bi_wsL_law0_r51 _ (List.mem_of_getElem? (i := 23) rfl)) (bg_cons (bi_wsL_law0_r52 _ (List.mem_of_getElem? (i := 0) rfl)) (bg_cons (bi_wsL_law0_r52 _ (List.mem_of_getElem? (i := 1) rfl)) (bg_cons (bi_wsL_law0_r1 _ (List.mem_of_getElem? (i := 5) rfl)) bg_nil))))) (bg_up (bg_law (bi_wsL_law0_r52 _ (List.mem_of_getElem? (i := 2) rfl))))
theorem ggX12_leastOf_X12_gameOf : GoodIn wsX12_leastOf wsX12_gameOf := (bg_up (bg_law (bi_wsL_law0_r51 _ (List.mem_of_getElem? (i := 4) rfl))))
theorem gX12_leastOf_X12_gameOf : GoodIn wsX12_leastOf (wsV RX12 407 RX12 yX12_gameOf wsX12_gameOf) := goodIn_app (bg_up (bg_cons (bi_wsL_law0_r51 _ (List.mem_of_getElem? (i := 1) rfl)) (bg_cons (bi_wsL_law0_r51 _ (List.mem_of_getElem? (i := 2) rfl)) (bg_cons (bi_wsL_law0_r51 _ (List.mem_of_getElem? (i := 3) rfl)) (bg_cons (bi_wsL_law0_r1 _ (List.mem_of_getElem? (i := 5) rfl)) bg_nil))))) (bg_up (bg_law (bi_wsL_law0_r51 _ (List.mem_of_getElem? (i := 4) rfl))))
def ztdX12_leastOf_0 : List (Nat × Instr × Nat) := [(0, .bipush 99, 2), (2, .istore_n 3, 1), (3, .iconst 0, 1), (4, .istore 4, 2), (6, .iload 4, 2), (8, .aload_n 0, 1), (9, .iconst 1, 1), (10, .iload_n 1, 1), (11, .isub, 1), (12, .invokevirtual 410, 3), (15, .if_icmp .ge 37, 3), (18, .iload_n 3, 1), (19, .iload_n 1, 1), (20, .ifCond .ne 14, 3), (23, .aload_n 0, 1), (24, .iload_n 2, 1), (25, .iload 4, 2), (27, .iconst 0, 1), (28, .invokevirtual 407, 3), (31, .goto 11, 3), (34, .aload_n 0, 1), (35, .iload 4, 2), (37, .iload_n 2, 1), (38, .iconst 1, 1)]
theorem zhdX12_leastOf_0 : dzC ztdX12_leastOf_0 0 (cX12_leastOf.data.toList.drop 0) = true := by decide +kernel
theorem dX12_leastOf_0 : decode cX12_leastOf 0 = .ok (.bipush 99, 2) := dzr zhdX12_leastOf_0 0 rfl
theorem dX12_leastOf_2 : decode cX12_leastOf 2 = .ok (.istore_n 3, 1) := dzr zhdX12_leastOf_0 1 rfl
theorem dX12_leastOf_3 : decode cX12_leastOf 3 = .ok (.iconst 0, 1) := dzr zhdX12_leastOf_0 2 rfl
theorem dX12_leastOf_4 : decode cX12_leastOf 4 = .ok (.istore 4, 2) := dzr zhdX12_leastOf_0 3 rfl
theorem dX12_leastOf_6 : decode cX12_leastOf 6 = .ok (.iload 4, 2) := dzr zhdX12_leastOf_0 4 rfl
theorem dX12_leastOf_8 : decode cX12_leastOf 8 = .ok (.aload_n 0, 1) := dzr zhdX12_leastOf_0 5 rfl
theorem dX12_leastOf_9 : decode cX12_leastOf 9 = .ok (.iconst 1, 1) := dzr zhdX12_leastOf_0 6 rfl
theorem dX12_leastOf_10 : decode cX12_leastOf 10 = .ok (.iload_n 1, 1) := dzr zhdX12_leastOf_0 7 rfl
theorem dX12_leastOf_11 : decode cX12_leastOf 11 = .ok (.isub, 1) := dzr zhdX12_leastOf_0 8 rfl
theorem dX12_leastOf_12 : decode cX12_leastOf 12 = .ok (.invokevirtual 410, 3) := dzr zhdX12_leastOf_0 9 rfl
theorem dX12_leastOf_15 : decode cX12_leastOf 15 = .ok (.if_icmp .ge 37, 3) := dzr zhdX12_leastOf_0 10 rfl
theorem dX12_leastOf_18 : decode cX12_leastOf 18 = .ok (.iload_n 3, 1) := dzr zhdX12_leastOf_0 11 rfl
theorem dX12_leastOf_19 : decode cX12_leastOf 19 = .ok (.iload_n 1, 1) := dzr zhdX12_leastOf_0 12 rfl
theorem dX12_leastOf_20 : decode cX12_leastOf 20 = .ok (.ifCond .ne 14, 3) := dzr zhdX12_leastOf_0 13 rfl
theorem dX12_leastOf_23 : decode cX12_leastOf 23 = .ok (.aload_n 0, 1) := dzr zhdX12_leastOf_0 14 rfl
theorem dX12_leastOf_24 : decode cX12_leastOf 24 = .ok (.iload_n 2, 1) := dzr zhdX12_leastOf_0 15 rfl
theorem dX12_leastOf_25 : decode cX12_leastOf 25 = .ok (.iload 4, 2) := dzr zhdX12_leastOf_0 16 rfl
theorem dX12_leastOf_27 : decode cX12_leastOf 27 = .ok (.iconst 0, 1) := dzr zhdX12_leastOf_0 17 rfl
theorem dX12_leastOf_28 : decode cX12_leastOf 28 = .ok (.invokevirtual 407, 3) := dzr zhdX12_leastOf_0 18 rfl
theorem dX12_leastOf_31 : decode cX12_leastOf 31 = .ok (.goto 11, 3) := dzr zhdX12_leastOf_0 19 rfl
theorem dX12_leastOf_34 : decode cX12_leastOf 34 = .ok (.aload_n 0, 1) := dzr zhdX12_leastOf_0 20 rfl
theorem dX12_leastOf_35 : decode cX12_leastOf 35 = .ok (.iload 4, 2) := dzr zhdX12_leastOf_0 21 rfl
theorem dX12_leastOf_37 : decode cX12_leastOf 37 = .ok (.iload_n 2, 1) := dzr zhdX12_leastOf_0 22 rfl
theorem dX12_leastOf_38 : decode cX12_leastOf 38 = .ok (.iconst 1, 1) := dzr zhdX12_leastOf_0 23 rfl
def ztdX12_leastOf_39 : List (Nat × Instr × Nat) := [(39, .invokevirtual 407, 3), (42, .invokestatic 280, 3), (45, .istore_n 3, 1), (46, .iinc 4 1, 3), (49, .goto (-43), 3), (52, .iload_n 3, 1), (53, .ireturn, 1)]
theorem zhdX12_leastOf_39 : dzC ztdX12_leastOf_39 39 (cX12_leastOf.data.toList.drop 39) = true := by decide +kernel
theorem dX12_leastOf_39 : decode cX12_leastOf 39 = .ok (.invokevirtual 407, 3) := dzr zhdX12_leastOf_39 0 rfl
theorem dX12_leastOf_42 : decode cX12_leastOf 42 = .ok (.invokestatic 280, 3) := dzr zhdX12_leastOf_39 1 rfl
theorem dX12_leastOf_45 : decode cX12_leastOf 45 = .ok (.istore_n 3, 1) := dzr zhdX12_leastOf_39 2 rfl
theorem dX12_leastOf_46 : decode cX12_leastOf 46 = .ok (.iinc 4 1, 3) := dzr zhdX12_leastOf_39 3 rfl
theorem dX12_leastOf_49 : decode cX12_leastOf 49 = .ok (.goto (-43), 3) := dzr zhdX12_leastOf_39 4 rfl
theorem dX12_leastOf_52 : decode cX12_leastOf 52 = .ok (.iload_n 3, 1) := dzr zhdX12_leastOf_39 5 rfl
theorem dX12_leastOf_53 : decode cX12_leastOf 53 = .ok (.ireturn, 1) := dzr zhdX12_leastOf_39 6 rfl
theorem ggX12_sure_X12_in : GoodIn wsX12_sure wsX12_in := (bg_up (bg_law (bi_wsL_law0_r16 _ (List.mem_of_getElem? (i := 21) rfl))))
theorem gX12_sure_X12_in : GoodIn wsX12_sure (va_wsS RX12 211 yX12_in wsX12_in) := goodIn_app (bg_up (bg_cons (bi_wsL_law0_r16 _ (List.mem_of_getElem? (i := 19) rfl)) (bg_cons (bi_wsL_law0_r16 _ (List.mem_of_getElem? (i := 20) rfl)) (bg_cons (bi_wsL_law0_r1 _ (List.mem_of_getElem? (i := 5) rfl)) bg_nil)))) (bg_up (bg_law (bi_wsL_law0_r16 _ (List.mem_of_getElem? (i := 21) rfl))))
theorem ggX12_sure_X12_manyOf : GoodIn wsX12_sure wsX12_manyOf := (bg_up (bg_law (bi_wsL_law0_r52 _ (List.mem_of_getElem? (i := 2) rfl))))
theorem gX12_sure_X12_manyOf : GoodIn wsX12_sure (wsV RX12 410 RX12 yX12_manyOf wsX12_manyOf) := goodIn_app (bg_up (bg_cons (bi_wsL_law0_r51 _ (List.mem_of_getElem? (i := 23) rfl)) (bg_cons (bi_wsL_law0_r52 _ (List.mem_of_getElem? (i := 0) rfl)) (bg_cons (bi_wsL_law0_r52 _ (List.mem_of_getElem? (i := 1) rfl)) (bg_cons (bi_wsL_law0_r1 _ (List.mem_of_getElem? (i := 5) rfl)) bg_nil))))) (bg_up (bg_law (bi_wsL_law0_r52 _ (List.mem_of_getElem? (i := 2) rfl))))
theorem ggX12_sure_X12_leastOf : GoodIn wsX12_sure wsX12_leastOf := (bg_up (bg_law (bi_wsL_law0_r52 _ (List.mem_of_getElem? (i := 6) rfl))))
theorem gX12_sure_X12_leastOf : GoodIn wsX12_sure (wsV RX12 413 RX12 yX12_leastOf wsX12_leastOf) := goodIn_app (bg_up (bg_cons (bi_wsL_law0_r52 _ (List.mem_of_getElem? (i := 3) rfl)) (bg_cons (bi_wsL_law0_r52 _ (List.mem_of_getElem? (i := 4) rfl)) (bg_cons (bi_wsL_law0_r52 _ (List.mem_of_getElem? (i := 5) rfl)) (bg_cons (bi_wsL_law0_r1 _ (List.mem_of_getElem? (i := 5) rfl)) bg_nil))))) (bg_up (bg_law (bi_wsL_law0_r52 _ (List.mem_of_getElem? (i := 6) rfl))))
def ztdX12_sure_0 : List (Nat × Instr × Nat) := [(0, .aload_n 0, 1), (1, .getfield 252, 3), (4, .ifCond .eq 12, 3), (7, .iload_n 1, 1), (8, .iconst 0, 1), (9, .iconst 1, 1), (10, .invokestatic 211, 3), (13, .ifCond .ne 7, 3), (16, .ldc_w 363, 3), (19, .ireturn, 1), (20, .ldc_w 363, 3), (23, .istore_n 2, 1), (24, .iconst 0, 1), (25, .istore_n 3, 1), (26, .iload_n 3, 1), (27, .aload_n 0, 1), (28, .iload_n 1, 1), (29, .invokevirtual 410, 3), (32, .if_icmp .ge 20, 3), (35, .iload_n 2, 1), (36, .aload_n 0, 1), (37, .iload_n 1, 1), (38, .iload_n 3, 1), (39, .invokevirtual 413, 3)]
theorem zhdX12_sure_0 : dzC ztdX12_sure_0 0 (cX12_sure.data.toList.drop 0) = true := by decide +kernel
theorem dX12_sure_0 : decode cX12_sure 0 = .ok (.aload_n 0, 1) := dzr zhdX12_sure_0 0 rfl
theorem dX12_sure_1 : decode cX12_sure 1 = .ok (.getfield 252, 3) := dzr zhdX12_sure_0 1 rfl
theorem dX12_sure_4 : decode cX12_sure 4 = .ok (.ifCond .eq 12, 3) := dzr zhdX12_sure_0 2 rfl
theorem dX12_sure_7 : decode cX12_sure 7 = .ok (.iload_n 1, 1) := dzr zhdX12_sure_0 3 rfl
theorem dX12_sure_8 : decode cX12_sure 8 = .ok (.iconst 0, 1) := dzr zhdX12_sure_0 4 rfl
theorem dX12_sure_9 : decode cX12_sure 9 = .ok (.iconst 1, 1) := dzr zhdX12_sure_0 5 rfl
theorem dX12_sure_10 : decode cX12_sure 10 = .ok (.invokestatic 211, 3) := dzr zhdX12_sure_0 6 rfl
theorem dX12_sure_13 : decode cX12_sure 13 = .ok (.ifCond .ne 7, 3) := dzr zhdX12_sure_0 7 rfl
theorem dX12_sure_16 : decode cX12_sure 16 = .ok (.ldc_w 363, 3) := dzr zhdX12_sure_0 8 rfl
theorem dX12_sure_19 : decode cX12_sure 19 = .ok (.ireturn, 1) := dzr zhdX12_sure_0 9 rfl
theorem dX12_sure_20 : decode cX12_sure 20 = .ok (.ldc_w 363, 3) := dzr zhdX12_sure_0 10 rfl
theorem dX12_sure_23 : decode cX12_sure 23 = .ok (.istore_n 2, 1) := dzr zhdX12_sure_0 11 rfl
theorem dX12_sure_24 : decode cX12_sure 24 = .ok (.iconst 0, 1) := dzr zhdX12_sure_0 12 rfl
theorem dX12_sure_25 : decode cX12_sure 25 = .ok (.istore_n 3, 1) := dzr zhdX12_sure_0 13 rfl
theorem dX12_sure_26 : decode cX12_sure 26 = .ok (.iload_n 3, 1) := dzr zhdX12_sure_0 14 rfl
theorem dX12_sure_27 : decode cX12_sure 27 = .ok (.aload_n 0, 1) := dzr zhdX12_sure_0 15 rfl
theorem dX12_sure_28 : decode cX12_sure 28 = .ok (.iload_n 1, 1) := dzr zhdX12_sure_0 16 rfl
theorem dX12_sure_29 : decode cX12_sure 29 = .ok (.invokevirtual 410, 3) := dzr zhdX12_sure_0 17 rfl
theorem dX12_sure_32 : decode cX12_sure 32 = .ok (.if_icmp .ge 20, 3) := dzr zhdX12_sure_0 18 rfl
theorem dX12_sure_35 : decode cX12_sure 35 = .ok (.iload_n 2, 1) := dzr zhdX12_sure_0 19 rfl
theorem dX12_sure_36 : decode cX12_sure 36 = .ok (.aload_n 0, 1) := dzr zhdX12_sure_0 20 rfl
theorem dX12_sure_37 : decode cX12_sure 37 = .ok (.iload_n 1, 1) := dzr zhdX12_sure_0 21 rfl
theorem dX12_sure_38 : decode cX12_sure 38 = .ok (.iload_n 3, 1) := dzr zhdX12_sure_0 22 rfl
theorem dX12_sure_39 : decode cX12_sure 39 = .ok (.invokevirtual 413, 3) := dzr zhdX12_sure_0 23 rfl
def ztdX12_sure_42 : List (Nat × Instr × Nat) := [(42, .invokestatic 282, 3), (45, .istore_n 2, 1), (46, .iinc 3 1, 3), (49, .goto (-23), 3), (52, .iload_n 2, 1), (53, .ireturn, 1)]
theorem zhdX12_sure_42 : dzC ztdX12_sure_42 42 (cX12_sure.data.toList.drop 42) = true := by decide +kernel
theorem dX12_sure_42 : decode cX12_sure 42 = .ok (.invokestatic 282, 3) := dzr zhdX12_sure_42 0 rfl
theorem dX12_sure_45 : decode cX12_sure 45 = .ok (.istore_n 2, 1) := dzr zhdX12_sure_42 1 rfl
theorem dX12_sure_46 : decode cX12_sure 46 = .ok (.iinc 3 1, 3) := dzr zhdX12_sure_42 2 rfl
theorem dX12_sure_49 : decode cX12_sure 49 = .ok (.goto (-23), 3) := dzr zhdX12_sure_42 3 rfl
theorem dX12_sure_52 : decode cX12_sure 52 = .ok (.iload_n 2, 1) := dzr zhdX12_sure_42 4 rfl
theorem dX12_sure_53 : decode cX12_sure 53 = .ok (.ireturn, 1) := dzr zhdX12_sure_42 5 rfl
theorem ggX12_isRest_X12_manyOf : GoodIn wsX12_isRest wsX12_manyOf := (bg_up (bg_law (bi_wsL_law0_r52 _ (List.mem_of_getElem? (i := 2) rfl))))
theorem gX12_isRest_X12_manyOf : GoodIn wsX12_isRest (wsV RX12 410 RX12 yX12_manyOf wsX12_manyOf) := goodIn_app (bg_up (bg_cons (bi_wsL_law0_r51 _ (List.mem_of_getElem? (i := 23) rfl)) (bg_cons (bi_wsL_law0_r52 _ (List.mem_of_getElem? (i := 0) rfl)) (bg_cons (bi_wsL_law0_r52 _ (List.mem_of_getElem? (i := 1) rfl)) (bg_cons (bi_wsL_law0_r1 _ (List.mem_of_getElem? (i := 5) rfl)) bg_nil))))) (bg_up (bg_law (bi_wsL_law0_r52 _ (List.mem_of_getElem? (i := 2) rfl))))
theorem ggX12_isRest_X12_gameOf : GoodIn wsX12_isRest wsX12_gameOf := (bg_up (bg_law (bi_wsL_law0_r51 _ (List.mem_of_getElem? (i := 4) rfl))))
theorem gX12_isRest_X12_gameOf : GoodIn wsX12_isRest (wsV RX12 407 RX12 yX12_gameOf wsX12_gameOf) := goodIn_app (bg_up (bg_cons (bi_wsL_law0_r51 _ (List.mem_of_getElem? (i := 1) rfl)) (bg_cons (bi_wsL_law0_r51 _ (List.mem_of_getElem? (i := 2) rfl)) (bg_cons (bi_wsL_law0_r51 _ (List.mem_of_getElem? (i := 3) rfl)) (bg_cons (bi_wsL_law0_r1 _ (List.mem_of_getElem? (i := 5) rfl)) bg_nil))))) (bg_up (bg_law (bi_wsL_law0_r51 _ (List.mem_of_getElem? (i := 4) rfl))))
def ztdX12_isRest_0 : List (Nat × Instr × Nat) := [(0, .iconst 1, 1), (1, .istore_n 3, 1), (2, .iconst 0, 1), (3, .istore 4, 2), (5, .iload 4, 2), (7, .aload_n 0, 1), (8, .iconst 0, 1), (9, .invokevirtual 410, 3), (12, .if_icmp .ge 37, 3), (15, .iload_n 3, 1), (16, .ifCond .eq 25, 3), (19, .aload_n 0, 1), (20, .iload 4, 2), (22, .iload_n 2, 1), (23, .iconst 0, 1), (24, .invokevirtual 407, 3), (27, .aload_n 0, 1), (28, .iload_n 1, 1), (29, .iload_n 2, 1), (30, .iconst 0, 1), (31, .invokevirtual 407, 3), (34, .if_icmp .gt 7, 3), (37, .iconst 1, 1), (38, .goto 4, 3)]
theorem zhdX12_isRest_0 : dzC ztdX12_isRest_0 0 (cX12_isRest.data.toList.drop 0) = true := by decide +kernel
theorem dX12_isRest_0 : decode cX12_isRest 0 = .ok (.iconst 1, 1) := dzr zhdX12_isRest_0 0 rfl
theorem dX12_isRest_1 : decode cX12_isRest 1 = .ok (.istore_n 3, 1) := dzr zhdX12_isRest_0 1 rfl
theorem dX12_isRest_2 : decode cX12_isRest 2 = .ok (.iconst 0, 1) := dzr zhdX12_isRest_0 2 rfl
theorem dX12_isRest_3 : decode cX12_isRest 3 = .ok (.istore 4, 2) := dzr zhdX12_isRest_0 3 rfl
theorem dX12_isRest_5 : decode cX12_isRest 5 = .ok (.iload 4, 2) := dzr zhdX12_isRest_0 4 rfl
theorem dX12_isRest_7 : decode cX12_isRest 7 = .ok (.aload_n 0, 1) := dzr zhdX12_isRest_0 5 rfl
theorem dX12_isRest_8 : decode cX12_isRest 8 = .ok (.iconst 0, 1) := dzr zhdX12_isRest_0 6 rfl
theorem dX12_isRest_9 : decode cX12_isRest 9 = .ok (.invokevirtual 410, 3) := dzr zhdX12_isRest_0 7 rfl
theorem dX12_isRest_12 : decode cX12_isRest 12 = .ok (.if_icmp .ge 37, 3) := dzr zhdX12_isRest_0 8 rfl
theorem dX12_isRest_15 : decode cX12_isRest 15 = .ok (.iload_n 3, 1) := dzr zhdX12_isRest_0 9 rfl
theorem dX12_isRest_16 : decode cX12_isRest 16 = .ok (.ifCond .eq 25, 3) := dzr zhdX12_isRest_0 10 rfl
theorem dX12_isRest_19 : decode cX12_isRest 19 = .ok (.aload_n 0, 1) := dzr zhdX12_isRest_0 11 rfl
theorem dX12_isRest_20 : decode cX12_isRest 20 = .ok (.iload 4, 2) := dzr zhdX12_isRest_0 12 rfl
theorem dX12_isRest_22 : decode cX12_isRest 22 = .ok (.iload_n 2, 1) := dzr zhdX12_isRest_0 13 rfl
theorem dX12_isRest_23 : decode cX12_isRest 23 = .ok (.iconst 0, 1) := dzr zhdX12_isRest_0 14 rfl
theorem dX12_isRest_24 : decode cX12_isRest 24 = .ok (.invokevirtual 407, 3) := dzr zhdX12_isRest_0 15 rfl
theorem dX12_isRest_27 : decode cX12_isRest 27 = .ok (.aload_n 0, 1) := dzr zhdX12_isRest_0 16 rfl
theorem dX12_isRest_28 : decode cX12_isRest 28 = .ok (.iload_n 1, 1) := dzr zhdX12_isRest_0 17 rfl
theorem dX12_isRest_29 : decode cX12_isRest 29 = .ok (.iload_n 2, 1) := dzr zhdX12_isRest_0 18 rfl
theorem dX12_isRest_30 : decode cX12_isRest 30 = .ok (.iconst 0, 1) := dzr zhdX12_isRest_0 19 rfl
theorem dX12_isRest_31 : decode cX12_isRest 31 = .ok (.invokevirtual 407, 3) := dzr zhdX12_isRest_0 20 rfl
theorem dX12_isRest_34 : decode cX12_isRest 34 = .ok (.if_icmp .gt 7, 3) := dzr zhdX12_isRest_0 21 rfl
theorem dX12_isRest_37 : decode cX12_isRest 37 = .ok (.iconst 1, 1) := dzr zhdX12_isRest_0 22 rfl
theorem dX12_isRest_38 : decode cX12_isRest 38 = .ok (.goto 4, 3) := dzr zhdX12_isRest_0 23 rfl
def ztdX12_isRest_41 : List (Nat × Instr × Nat) := [(41, .iconst 0, 1), (42, .istore_n 3, 1), (43, .iinc 4 1, 3), (46, .goto (-41), 3), (49, .iconst 0, 1), (50, .istore 4, 2), (52, .iload 4, 2), (54, .aload_n 0, 1), (55, .iconst 1, 1), (56, .invokevirtual 410, 3), (59, .if_icmp .ge 37, 3), (62, .iload_n 3, 1), (63, .ifCond .eq 25, 3), (66, .aload_n 0, 1), (67, .iload_n 1, 1), (68, .iload 4, 2), (70, .iconst 1, 1), (71, .invokevirtual 407, 3), (74, .aload_n 0, 1), (75, .iload_n 1, 1), (76, .iload_n 2, 1), (77, .iconst 1, 1), (78, .invokevirtual 407, 3), (81, .if_icmp .gt 7, 3)]
theorem zhdX12_isRest_41 : dzC ztdX12_isRest_41 41 (cX12_isRest.data.toList.drop 41) = true := by decide +kernel
theorem dX12_isRest_41 : decode cX12_isRest 41 = .ok (.iconst 0, 1) := dzr zhdX12_isRest_41 0 rfl
theorem dX12_isRest_42 : decode cX12_isRest 42 = .ok (.istore_n 3, 1) := dzr zhdX12_isRest_41 1 rfl
theorem dX12_isRest_43 : decode cX12_isRest 43 = .ok (.iinc 4 1, 3) := dzr zhdX12_isRest_41 2 rfl
theorem dX12_isRest_46 : decode cX12_isRest 46 = .ok (.goto (-41), 3) := dzr zhdX12_isRest_41 3 rfl
theorem dX12_isRest_49 : decode cX12_isRest 49 = .ok (.iconst 0, 1) := dzr zhdX12_isRest_41 4 rfl
theorem dX12_isRest_50 : decode cX12_isRest 50 = .ok (.istore 4, 2) := dzr zhdX12_isRest_41 5 rfl
theorem dX12_isRest_52 : decode cX12_isRest 52 = .ok (.iload 4, 2) := dzr zhdX12_isRest_41 6 rfl
theorem dX12_isRest_54 : decode cX12_isRest 54 = .ok (.aload_n 0, 1) := dzr zhdX12_isRest_41 7 rfl
theorem dX12_isRest_55 : decode cX12_isRest 55 = .ok (.iconst 1, 1) := dzr zhdX12_isRest_41 8 rfl
theorem dX12_isRest_56 : decode cX12_isRest 56 = .ok (.invokevirtual 410, 3) := dzr zhdX12_isRest_41 9 rfl
theorem dX12_isRest_59 : decode cX12_isRest 59 = .ok (.if_icmp .ge 37, 3) := dzr zhdX12_isRest_41 10 rfl
theorem dX12_isRest_62 : decode cX12_isRest 62 = .ok (.iload_n 3, 1) := dzr zhdX12_isRest_41 11 rfl
theorem dX12_isRest_63 : decode cX12_isRest 63 = .ok (.ifCond .eq 25, 3) := dzr zhdX12_isRest_41 12 rfl
theorem dX12_isRest_66 : decode cX12_isRest 66 = .ok (.aload_n 0, 1) := dzr zhdX12_isRest_41 13 rfl
theorem dX12_isRest_67 : decode cX12_isRest 67 = .ok (.iload_n 1, 1) := dzr zhdX12_isRest_41 14 rfl
theorem dX12_isRest_68 : decode cX12_isRest 68 = .ok (.iload 4, 2) := dzr zhdX12_isRest_41 15 rfl
theorem dX12_isRest_70 : decode cX12_isRest 70 = .ok (.iconst 1, 1) := dzr zhdX12_isRest_41 16 rfl
theorem dX12_isRest_71 : decode cX12_isRest 71 = .ok (.invokevirtual 407, 3) := dzr zhdX12_isRest_41 17 rfl
theorem dX12_isRest_74 : decode cX12_isRest 74 = .ok (.aload_n 0, 1) := dzr zhdX12_isRest_41 18 rfl
theorem dX12_isRest_75 : decode cX12_isRest 75 = .ok (.iload_n 1, 1) := dzr zhdX12_isRest_41 19 rfl
theorem dX12_isRest_76 : decode cX12_isRest 76 = .ok (.iload_n 2, 1) := dzr zhdX12_isRest_41 20 rfl
theorem dX12_isRest_77 : decode cX12_isRest 77 = .ok (.iconst 1, 1) := dzr zhdX12_isRest_41 21 rfl
theorem dX12_isRest_78 : decode cX12_isRest 78 = .ok (.invokevirtual 407, 3) := dzr zhdX12_isRest_41 22 rfl
theorem dX12_isRest_81 : decode cX12_isRest 81 = .ok (.if_icmp .gt 7, 3) := dzr zhdX12_isRest_41 23 rfl
def ztdX12_isRest_84 : List (Nat × Instr × Nat) := [(84, .iconst 1, 1), (85, .goto 4, 3), (88, .iconst 0, 1), (89, .istore_n 3, 1), (90, .iinc 4 1, 3), (93, .goto (-41), 3), (96, .iload_n 3, 1), (97, .ireturn, 1)]
theorem zhdX12_isRest_84 : dzC ztdX12_isRest_84 84 (cX12_isRest.data.toList.drop 84) = true := by decide +kernel
theorem dX12_isRest_84 : decode cX12_isRest 84 = .ok (.iconst 1, 1) := dzr zhdX12_isRest_84 0 rfl
theorem dX12_isRest_85 : decode cX12_isRest 85 = .ok (.goto 4, 3) := dzr zhdX12_isRest_84 1 rfl
theorem dX12_isRest_88 : decode cX12_isRest 88 = .ok (.iconst 0, 1) := dzr zhdX12_isRest_84 2 rfl
theorem dX12_isRest_89 : decode cX12_isRest 89 = .ok (.istore_n 3, 1) := dzr zhdX12_isRest_84 3 rfl
theorem dX12_isRest_90 : decode cX12_isRest 90 = .ok (.iinc 4 1, 3) := dzr zhdX12_isRest_84 4 rfl
theorem dX12_isRest_93 : decode cX12_isRest 93 = .ok (.goto (-41), 3) := dzr zhdX12_isRest_84 5 rfl
theorem dX12_isRest_96 : decode cX12_isRest 96 = .ok (.iload_n 3, 1) := dzr zhdX12_isRest_84 6 rfl
theorem dX12_isRest_97 : decode cX12_isRest 97 = .ok (.ireturn, 1) := dzr zhdX12_isRest_84 7 rfl
theorem ggX12_rests_X12_manyOf : GoodIn wsX12_rests wsX12_manyOf := (bg_up (bg_law (bi_wsL_law0_r52 _ (List.mem_of_getElem? (i := 2) rfl))))
theorem gX12_rests_X12_manyOf : GoodIn wsX12_rests (wsV RX12 410 RX12 yX12_manyOf wsX12_manyOf) := goodIn_app (bg_up (bg_cons (bi_wsL_law0_r51 _ (List.mem_of_getElem? (i := 23) rfl)) (bg_cons (bi_wsL_law0_r52 _ (List.mem_of_getElem? (i := 0) rfl)) (bg_cons (bi_wsL_law0_r52 _ (List.mem_of_getElem? (i := 1) rfl)) (bg_cons (bi_wsL_law0_r1 _ (List.mem_of_getElem? (i := 5) rfl)) bg_nil))))) (bg_up (bg_law (bi_wsL_law0_r52 _ (List.mem_of_getElem? (i := 2) rfl))))
theorem ggX12_rests_X12_isRest : GoodIn wsX12_rests wsX12_isRest := (bg_up (bg_law (bi_wsL_law0_r52 _ (List.mem_of_getElem? (i := 23) rfl))))
theorem gX12_rests_X12_isRest : GoodIn wsX12_rests (wsV RX12 416 RX12 yX12_isRest wsX12_isRest) := goodIn_app (bg_up (bg_cons (bi_wsL_law0_r52 _ (List.mem_of_getElem? (i := 20) rfl)) (bg_cons (bi_wsL_law0_r52 _ (List.mem_of_getElem? (i := 21) rfl)) (bg_cons (bi_wsL_law0_r52 _ (List.mem_of_getElem? (i := 22) rfl)) (bg_cons (bi_wsL_law0_r1 _ (List.mem_of_getElem? (i := 5) rfl)) bg_nil))))) (bg_up (bg_law (bi_wsL_law0_r52 _ (List.mem_of_getElem? (i := 23) rfl))))
def ztdX12_rests_0 : List (Nat × Instr × Nat) := [(0, .aload_n 0, 1), (1, .getfield 252, 3), (4, .ifCond .eq 8, 3), (7, .iload_n 1, 1), (8, .iconst (-1), 1), (9, .if_icmp .ge 5, 3), (12, .iconst (-1), 1), (13, .ireturn, 1), (14, .iconst 0, 1), (15, .istore_n 2, 1), (16, .iconst 0, 1), (17, .istore_n 3, 1), (18, .iload_n 3, 1), (19, .aload_n 0, 1), (20, .iconst 0, 1), (21, .invokevirtual 410, 3), (24, .if_icmp .ge 54, 3), (27, .iconst 0, 1), (28, .istore 4, 2), (30, .iload 4, 2), (32, .aload_n 0, 1), (33, .iconst 1, 1), (34, .invokevirtual 410, 3), (37, .if_icmp .ge 35, 3)]
theorem zhdX12_rests_0 : dzC ztdX12_rests_0 0 (cX12_rests.data.toList.drop 0) = true := by decide +kernel
theorem dX12_rests_0 : decode cX12_rests 0 = .ok (.aload_n 0, 1) := dzr zhdX12_rests_0 0 rfl
theorem dX12_rests_1 : decode cX12_rests 1 = .ok (.getfield 252, 3) := dzr zhdX12_rests_0 1 rfl
theorem dX12_rests_4 : decode cX12_rests 4 = .ok (.ifCond .eq 8, 3) := dzr zhdX12_rests_0 2 rfl
theorem dX12_rests_7 : decode cX12_rests 7 = .ok (.iload_n 1, 1) := dzr zhdX12_rests_0 3 rfl
theorem dX12_rests_8 : decode cX12_rests 8 = .ok (.iconst (-1), 1) := dzr zhdX12_rests_0 4 rfl
theorem dX12_rests_9 : decode cX12_rests 9 = .ok (.if_icmp .ge 5, 3) := dzr zhdX12_rests_0 5 rfl
theorem dX12_rests_12 : decode cX12_rests 12 = .ok (.iconst (-1), 1) := dzr zhdX12_rests_0 6 rfl
theorem dX12_rests_13 : decode cX12_rests 13 = .ok (.ireturn, 1) := dzr zhdX12_rests_0 7 rfl
theorem dX12_rests_14 : decode cX12_rests 14 = .ok (.iconst 0, 1) := dzr zhdX12_rests_0 8 rfl
theorem dX12_rests_15 : decode cX12_rests 15 = .ok (.istore_n 2, 1) := dzr zhdX12_rests_0 9 rfl
theorem dX12_rests_16 : decode cX12_rests 16 = .ok (.iconst 0, 1) := dzr zhdX12_rests_0 10 rfl
theorem dX12_rests_17 : decode cX12_rests 17 = .ok (.istore_n 3, 1) := dzr zhdX12_rests_0 11 rfl
theorem dX12_rests_18 : decode cX12_rests 18 = .ok (.iload_n 3, 1) := dzr zhdX12_rests_0 12 rfl
theorem dX12_rests_19 : decode cX12_rests 19 = .ok (.aload_n 0, 1) := dzr zhdX12_rests_0 13 rfl
theorem dX12_rests_20 : decode cX12_rests 20 = .ok (.iconst 0, 1) := dzr zhdX12_rests_0 14 rfl
theorem dX12_rests_21 : decode cX12_rests 21 = .ok (.invokevirtual 410, 3) := dzr zhdX12_rests_0 15 rfl
theorem dX12_rests_24 : decode cX12_rests 24 = .ok (.if_icmp .ge 54, 3) := dzr zhdX12_rests_0 16 rfl
theorem dX12_rests_27 : decode cX12_rests 27 = .ok (.iconst 0, 1) := dzr zhdX12_rests_0 17 rfl
theorem dX12_rests_28 : decode cX12_rests 28 = .ok (.istore 4, 2) := dzr zhdX12_rests_0 18 rfl
theorem dX12_rests_30 : decode cX12_rests 30 = .ok (.iload 4, 2) := dzr zhdX12_rests_0 19 rfl
theorem dX12_rests_32 : decode cX12_rests 32 = .ok (.aload_n 0, 1) := dzr zhdX12_rests_0 20 rfl
theorem dX12_rests_33 : decode cX12_rests 33 = .ok (.iconst 1, 1) := dzr zhdX12_rests_0 21 rfl
theorem dX12_rests_34 : decode cX12_rests 34 = .ok (.invokevirtual 410, 3) := dzr zhdX12_rests_0 22 rfl
theorem dX12_rests_37 : decode cX12_rests 37 = .ok (.if_icmp .ge 35, 3) := dzr zhdX12_rests_0 23 rfl
def ztdX12_rests_40 : List (Nat × Instr × Nat) := [(40, .aload_n 0, 1), (41, .iload_n 3, 1), (42, .iload 4, 2), (44, .invokevirtual 416, 3), (47, .ifCond .eq 19, 3), (50, .iload_n 2, 1), (51, .iload_n 1, 1), (52, .if_icmp .ne 11, 3), (55, .bipush 10, 2), (57, .iload_n 3, 1), (58, .imul, 1), (59, .iload 4, 2), (61, .iadd, 1), (62, .ireturn, 1), (63, .iinc 2 1, 3), (66, .iinc 4 1, 3), (69, .goto (-39), 3), (72, .iinc 3 1, 3), (75, .goto (-57), 3), (78, .iload_n 1, 1), (79, .iconst (-1), 1), (80, .if_icmp .ne 7, 3), (83, .iload_n 2, 1), (84, .goto 4, 3)]
theorem zhdX12_rests_40 : dzC ztdX12_rests_40 40 (cX12_rests.data.toList.drop 40) = true := by decide +kernel
theorem dX12_rests_40 : decode cX12_rests 40 = .ok (.aload_n 0, 1) := dzr zhdX12_rests_40 0 rfl
theorem dX12_rests_41 : decode cX12_rests 41 = .ok (.iload_n 3, 1) := dzr zhdX12_rests_40 1 rfl
theorem dX12_rests_42 : decode cX12_rests 42 = .ok (.iload 4, 2) := dzr zhdX12_rests_40 2 rfl
theorem dX12_rests_44 : decode cX12_rests 44 = .ok (.invokevirtual 416, 3) := dzr zhdX12_rests_40 3 rfl
theorem dX12_rests_47 : decode cX12_rests 47 = .ok (.ifCond .eq 19, 3) := dzr zhdX12_rests_40 4 rfl
theorem dX12_rests_50 : decode cX12_rests 50 = .ok (.iload_n 2, 1) := dzr zhdX12_rests_40 5 rfl
theorem dX12_rests_51 : decode cX12_rests 51 = .ok (.iload_n 1, 1) := dzr zhdX12_rests_40 6 rfl
theorem dX12_rests_52 : decode cX12_rests 52 = .ok (.if_icmp .ne 11, 3) := dzr zhdX12_rests_40 7 rfl
theorem dX12_rests_55 : decode cX12_rests 55 = .ok (.bipush 10, 2) := dzr zhdX12_rests_40 8 rfl
theorem dX12_rests_57 : decode cX12_rests 57 = .ok (.iload_n 3, 1) := dzr zhdX12_rests_40 9 rfl
theorem dX12_rests_58 : decode cX12_rests 58 = .ok (.imul, 1) := dzr zhdX12_rests_40 10 rfl
theorem dX12_rests_59 : decode cX12_rests 59 = .ok (.iload 4, 2) := dzr zhdX12_rests_40 11 rfl
theorem dX12_rests_61 : decode cX12_rests 61 = .ok (.iadd, 1) := dzr zhdX12_rests_40 12 rfl
theorem dX12_rests_62 : decode cX12_rests 62 = .ok (.ireturn, 1) := dzr zhdX12_rests_40 13 rfl
theorem dX12_rests_63 : decode cX12_rests 63 = .ok (.iinc 2 1, 3) := dzr zhdX12_rests_40 14 rfl
theorem dX12_rests_66 : decode cX12_rests 66 = .ok (.iinc 4 1, 3) := dzr zhdX12_rests_40 15 rfl
theorem dX12_rests_69 : decode cX12_rests 69 = .ok (.goto (-39), 3) := dzr zhdX12_rests_40 16 rfl
theorem dX12_rests_72 : decode cX12_rests 72 = .ok (.iinc 3 1, 3) := dzr zhdX12_rests_40 17 rfl
theorem dX12_rests_75 : decode cX12_rests 75 = .ok (.goto (-57), 3) := dzr zhdX12_rests_40 18 rfl
theorem dX12_rests_78 : decode cX12_rests 78 = .ok (.iload_n 1, 1) := dzr zhdX12_rests_40 19 rfl
theorem dX12_rests_79 : decode cX12_rests 79 = .ok (.iconst (-1), 1) := dzr zhdX12_rests_40 20 rfl
theorem dX12_rests_80 : decode cX12_rests 80 = .ok (.if_icmp .ne 7, 3) := dzr zhdX12_rests_40 21 rfl
theorem dX12_rests_83 : decode cX12_rests 83 = .ok (.iload_n 2, 1) := dzr zhdX12_rests_40 22 rfl
theorem dX12_rests_84 : decode cX12_rests 84 = .ok (.goto 4, 3) := dzr zhdX12_rests_40 23 rfl
def ztdX12_rests_87 : List (Nat × Instr × Nat) := [(87, .iconst (-1), 1), (88, .ireturn, 1)]
theorem zhdX12_rests_87 : dzC ztdX12_rests_87 87 (cX12_rests.data.toList.drop 87) = true := by decide +kernel
theorem dX12_rests_87 : decode cX12_rests 87 = .ok (.iconst (-1), 1) := dzr zhdX12_rests_87 0 rfl
theorem dX12_rests_88 : decode cX12_rests 88 = .ok (.ireturn, 1) := dzr zhdX12_rests_87 1 rfl
theorem ggX12_oddsFrom_X12_riseFrom : GoodIn wsX12_oddsFrom wsX12_riseFrom := (bg_up (bg_law (bi_wsL_law0_r32 _ (List.mem_of_getElem? (i := 10) rfl))))
theorem gX12_oddsFrom_X12_riseFrom : GoodIn wsX12_oddsFrom (wsV RX12 297 RX12 yX12_riseFrom wsX12_riseFrom) := goodIn_app (bg_up (bg_cons (bi_wsL_law0_r32 _ (List.mem_of_getElem? (i := 7) rfl)) (bg_cons (bi_wsL_law0_r32 _ (List.mem_of_getElem? (i := 8) rfl)) (bg_cons (bi_wsL_law0_r32 _ (List.mem_of_getElem? (i := 9) rfl)) (bg_cons (bi_wsL_law0_r1 _ (List.mem_of_getElem? (i := 5) rfl)) bg_nil))))) (bg_up (bg_law (bi_wsL_law0_r32 _ (List.mem_of_getElem? (i := 10) rfl))))
theorem ggX12_oddsFrom_X12_held : GoodIn wsX12_oddsFrom wsX12_held := (bg_up (bg_law (bi_wsL_law0_r33 _ (List.mem_of_getElem? (i := 19) rfl))))
theorem gX12_oddsFrom_X12_held : GoodIn wsX12_oddsFrom (va_wsS RX12 307 yX12_held wsX12_held) := goodIn_app (bg_up (bg_cons (bi_wsL_law0_r33 _ (List.mem_of_getElem? (i := 17) rfl)) (bg_cons (bi_wsL_law0_r33 _ (List.mem_of_getElem? (i := 18) rfl)) (bg_cons (bi_wsL_law0_r1 _ (List.mem_of_getElem? (i := 5) rfl)) bg_nil)))) (bg_up (bg_law (bi_wsL_law0_r33 _ (List.mem_of_getElem? (i := 19) rfl))))
theorem ggX12_oddsFrom_X12_oddsFrom : GoodIn wsX12_oddsFrom wsX12_oddsFrom := (bg_up (bg_law (bi_wsL_law0_r54 _ (List.mem_of_getElem? (i := 9) rfl))))
theorem gX12_oddsFrom_X12_oddsFrom : GoodIn wsX12_oddsFrom (wsV RX12 421 RX12 yX12_oddsFrom wsX12_oddsFrom) := goodIn_app (bg_up (bg_cons (bi_wsL_law0_r54 _ (List.mem_of_getElem? (i := 6) rfl)) (bg_cons (bi_wsL_law0_r54 _ (List.mem_of_getElem? (i := 7) rfl)) (bg_cons (bi_wsL_law0_r54 _ (List.mem_of_getElem? (i := 8) rfl)) (bg_cons (bi_wsL_law0_r1 _ (List.mem_of_getElem? (i := 5) rfl)) bg_nil))))) (bg_up (bg_law (bi_wsL_law0_r54 _ (List.mem_of_getElem? (i := 9) rfl))))
def ztdX12_oddsFrom_0 : List (Nat × Instr × Nat) := [(0, .iload 5, 2), (2, .ifCond .ne 5, 3), (5, .iconst 0, 1), (6, .ireturn, 1), (7, .iload 8, 2), (9, .i2l, 1), (10, .iload 7, 2), (12, .i2l, 1), (13, .lmul, 1), (14, .ldc2_w 419, 3), (17, .ldiv, 1), (18, .l2i, 1), (19, .istore 9, 2), (21, .iconst 0, 1), (22, .istore 10, 2), (24, .iconst 0, 1), (25, .istore 11, 2), (27, .iload 11, 2), (29, .iconst 2, 1), (30, .if_icmp .ge 103, 3), (33, .iload 11, 2), (35, .iconst 1, 1), (36, .if_icmp .ne 10, 3), (39, .iload 6, 2)]
theorem zhdX12_oddsFrom_0 : dzC ztdX12_oddsFrom_0 0 (cX12_oddsFrom.data.toList.drop 0) = true := by decide +kernel
theorem dX12_oddsFrom_0 : decode cX12_oddsFrom 0 = .ok (.iload 5, 2) := dzr zhdX12_oddsFrom_0 0 rfl
theorem dX12_oddsFrom_2 : decode cX12_oddsFrom 2 = .ok (.ifCond .ne 5, 3) := dzr zhdX12_oddsFrom_0 1 rfl
theorem dX12_oddsFrom_5 : decode cX12_oddsFrom 5 = .ok (.iconst 0, 1) := dzr zhdX12_oddsFrom_0 2 rfl
theorem dX12_oddsFrom_6 : decode cX12_oddsFrom 6 = .ok (.ireturn, 1) := dzr zhdX12_oddsFrom_0 3 rfl
theorem dX12_oddsFrom_7 : decode cX12_oddsFrom 7 = .ok (.iload 8, 2) := dzr zhdX12_oddsFrom_0 4 rfl
theorem dX12_oddsFrom_9 : decode cX12_oddsFrom 9 = .ok (.i2l, 1) := dzr zhdX12_oddsFrom_0 5 rfl
theorem dX12_oddsFrom_10 : decode cX12_oddsFrom 10 = .ok (.iload 7, 2) := dzr zhdX12_oddsFrom_0 6 rfl
theorem dX12_oddsFrom_12 : decode cX12_oddsFrom 12 = .ok (.i2l, 1) := dzr zhdX12_oddsFrom_0 7 rfl
theorem dX12_oddsFrom_13 : decode cX12_oddsFrom 13 = .ok (.lmul, 1) := dzr zhdX12_oddsFrom_0 8 rfl
theorem dX12_oddsFrom_14 : decode cX12_oddsFrom 14 = .ok (.ldc2_w 419, 3) := dzr zhdX12_oddsFrom_0 9 rfl
theorem dX12_oddsFrom_17 : decode cX12_oddsFrom 17 = .ok (.ldiv, 1) := dzr zhdX12_oddsFrom_0 10 rfl
theorem dX12_oddsFrom_18 : decode cX12_oddsFrom 18 = .ok (.l2i, 1) := dzr zhdX12_oddsFrom_0 11 rfl
theorem dX12_oddsFrom_19 : decode cX12_oddsFrom 19 = .ok (.istore 9, 2) := dzr zhdX12_oddsFrom_0 12 rfl
theorem dX12_oddsFrom_21 : decode cX12_oddsFrom 21 = .ok (.iconst 0, 1) := dzr zhdX12_oddsFrom_0 13 rfl
theorem dX12_oddsFrom_22 : decode cX12_oddsFrom 22 = .ok (.istore 10, 2) := dzr zhdX12_oddsFrom_0 14 rfl
theorem dX12_oddsFrom_24 : decode cX12_oddsFrom 24 = .ok (.iconst 0, 1) := dzr zhdX12_oddsFrom_0 15 rfl
theorem dX12_oddsFrom_25 : decode cX12_oddsFrom 25 = .ok (.istore 11, 2) := dzr zhdX12_oddsFrom_0 16 rfl
theorem dX12_oddsFrom_27 : decode cX12_oddsFrom 27 = .ok (.iload 11, 2) := dzr zhdX12_oddsFrom_0 17 rfl
theorem dX12_oddsFrom_29 : decode cX12_oddsFrom 29 = .ok (.iconst 2, 1) := dzr zhdX12_oddsFrom_0 18 rfl
theorem dX12_oddsFrom_30 : decode cX12_oddsFrom 30 = .ok (.if_icmp .ge 103, 3) := dzr zhdX12_oddsFrom_0 19 rfl
theorem dX12_oddsFrom_33 : decode cX12_oddsFrom 33 = .ok (.iload 11, 2) := dzr zhdX12_oddsFrom_0 20 rfl
theorem dX12_oddsFrom_35 : decode cX12_oddsFrom 35 = .ok (.iconst 1, 1) := dzr zhdX12_oddsFrom_0 21 rfl
theorem dX12_oddsFrom_36 : decode cX12_oddsFrom 36 = .ok (.if_icmp .ne 10, 3) := dzr zhdX12_oddsFrom_0 22 rfl
theorem dX12_oddsFrom_39 : decode cX12_oddsFrom 39 = .ok (.iload 6, 2) := dzr zhdX12_oddsFrom_0 23 rfl
def ztdX12_oddsFrom_41 : List (Nat × Instr × Nat) := [(41, .iconst 2, 1), (42, .idiv, 1), (43, .goto 27, 3), (46, .iload 6, 2), (48, .aload_n 0, 1), (49, .iload_n 1, 1), (50, .iload_n 2, 1), (51, .iload 6, 2), (53, .aload_n 0, 1), (54, .getfield 58, 3), (57, .bipush 68, 2), (59, .iaload, 1), (60, .iload 4, 2), (62, .iadd, 1), (63, .invokevirtual 297, 3), (66, .iadd, 1), (67, .invokestatic 307, 3), (70, .istore 12, 2), (72, .iload 11, 2), (74, .iconst 1, 1), (75, .if_icmp .ne 8, 3), (78, .iload 9, 2), (80, .goto 8, 3), (83, .iload 8, 2)]
theorem zhdX12_oddsFrom_41 : dzC ztdX12_oddsFrom_41 41 (cX12_oddsFrom.data.toList.drop 41) = true := by decide +kernel
theorem dX12_oddsFrom_41 : decode cX12_oddsFrom 41 = .ok (.iconst 2, 1) := dzr zhdX12_oddsFrom_41 0 rfl
theorem dX12_oddsFrom_42 : decode cX12_oddsFrom 42 = .ok (.idiv, 1) := dzr zhdX12_oddsFrom_41 1 rfl
theorem dX12_oddsFrom_43 : decode cX12_oddsFrom 43 = .ok (.goto 27, 3) := dzr zhdX12_oddsFrom_41 2 rfl
theorem dX12_oddsFrom_46 : decode cX12_oddsFrom 46 = .ok (.iload 6, 2) := dzr zhdX12_oddsFrom_41 3 rfl
theorem dX12_oddsFrom_48 : decode cX12_oddsFrom 48 = .ok (.aload_n 0, 1) := dzr zhdX12_oddsFrom_41 4 rfl
theorem dX12_oddsFrom_49 : decode cX12_oddsFrom 49 = .ok (.iload_n 1, 1) := dzr zhdX12_oddsFrom_41 5 rfl
theorem dX12_oddsFrom_50 : decode cX12_oddsFrom 50 = .ok (.iload_n 2, 1) := dzr zhdX12_oddsFrom_41 6 rfl
theorem dX12_oddsFrom_51 : decode cX12_oddsFrom 51 = .ok (.iload 6, 2) := dzr zhdX12_oddsFrom_41 7 rfl
theorem dX12_oddsFrom_53 : decode cX12_oddsFrom 53 = .ok (.aload_n 0, 1) := dzr zhdX12_oddsFrom_41 8 rfl
theorem dX12_oddsFrom_54 : decode cX12_oddsFrom 54 = .ok (.getfield 58, 3) := dzr zhdX12_oddsFrom_41 9 rfl
theorem dX12_oddsFrom_57 : decode cX12_oddsFrom 57 = .ok (.bipush 68, 2) := dzr zhdX12_oddsFrom_41 10 rfl
theorem dX12_oddsFrom_59 : decode cX12_oddsFrom 59 = .ok (.iaload, 1) := dzr zhdX12_oddsFrom_41 11 rfl
theorem dX12_oddsFrom_60 : decode cX12_oddsFrom 60 = .ok (.iload 4, 2) := dzr zhdX12_oddsFrom_41 12 rfl
theorem dX12_oddsFrom_62 : decode cX12_oddsFrom 62 = .ok (.iadd, 1) := dzr zhdX12_oddsFrom_41 13 rfl
theorem dX12_oddsFrom_63 : decode cX12_oddsFrom 63 = .ok (.invokevirtual 297, 3) := dzr zhdX12_oddsFrom_41 14 rfl
theorem dX12_oddsFrom_66 : decode cX12_oddsFrom 66 = .ok (.iadd, 1) := dzr zhdX12_oddsFrom_41 15 rfl
theorem dX12_oddsFrom_67 : decode cX12_oddsFrom 67 = .ok (.invokestatic 307, 3) := dzr zhdX12_oddsFrom_41 16 rfl
theorem dX12_oddsFrom_70 : decode cX12_oddsFrom 70 = .ok (.istore 12, 2) := dzr zhdX12_oddsFrom_41 17 rfl
theorem dX12_oddsFrom_72 : decode cX12_oddsFrom 72 = .ok (.iload 11, 2) := dzr zhdX12_oddsFrom_41 18 rfl
theorem dX12_oddsFrom_74 : decode cX12_oddsFrom 74 = .ok (.iconst 1, 1) := dzr zhdX12_oddsFrom_41 19 rfl
theorem dX12_oddsFrom_75 : decode cX12_oddsFrom 75 = .ok (.if_icmp .ne 8, 3) := dzr zhdX12_oddsFrom_41 20 rfl
theorem dX12_oddsFrom_78 : decode cX12_oddsFrom 78 = .ok (.iload 9, 2) := dzr zhdX12_oddsFrom_41 21 rfl
theorem dX12_oddsFrom_80 : decode cX12_oddsFrom 80 = .ok (.goto 8, 3) := dzr zhdX12_oddsFrom_41 22 rfl
theorem dX12_oddsFrom_83 : decode cX12_oddsFrom 83 = .ok (.iload 8, 2) := dzr zhdX12_oddsFrom_41 23 rfl
def ztdX12_oddsFrom_85 : List (Nat × Instr × Nat) := [(85, .iload 9, 2), (87, .isub, 1), (88, .istore 13, 2), (90, .iload 10, 2), (92, .iload 12, 2), (94, .iload_n 3, 1), (95, .if_icmp .lt 8, 3), (98, .iload 13, 2), (100, .goto 24, 3), (103, .aload_n 0, 1), (104, .iload_n 1, 1), (105, .iload_n 2, 1), (106, .iload_n 3, 1), (107, .iload 4, 2), (109, .iconst 1, 1), (110, .iadd, 1), (111, .iload 5, 2), (113, .iconst 1, 1), (114, .isub, 1), (115, .iload 12, 2), (117, .iload 7, 2), (119, .iload 13, 2), (121, .invokevirtual 421, 3), (124, .iadd, 1)]
theorem zhdX12_oddsFrom_85 : dzC ztdX12_oddsFrom_85 85 (cX12_oddsFrom.data.toList.drop 85) = true := by decide +kernel
theorem dX12_oddsFrom_85 : decode cX12_oddsFrom 85 = .ok (.iload 9, 2) := dzr zhdX12_oddsFrom_85 0 rfl
theorem dX12_oddsFrom_87 : decode cX12_oddsFrom 87 = .ok (.isub, 1) := dzr zhdX12_oddsFrom_85 1 rfl
theorem dX12_oddsFrom_88 : decode cX12_oddsFrom 88 = .ok (.istore 13, 2) := dzr zhdX12_oddsFrom_85 2 rfl
theorem dX12_oddsFrom_90 : decode cX12_oddsFrom 90 = .ok (.iload 10, 2) := dzr zhdX12_oddsFrom_85 3 rfl
theorem dX12_oddsFrom_92 : decode cX12_oddsFrom 92 = .ok (.iload 12, 2) := dzr zhdX12_oddsFrom_85 4 rfl
theorem dX12_oddsFrom_94 : decode cX12_oddsFrom 94 = .ok (.iload_n 3, 1) := dzr zhdX12_oddsFrom_85 5 rfl
theorem dX12_oddsFrom_95 : decode cX12_oddsFrom 95 = .ok (.if_icmp .lt 8, 3) := dzr zhdX12_oddsFrom_85 6 rfl
theorem dX12_oddsFrom_98 : decode cX12_oddsFrom 98 = .ok (.iload 13, 2) := dzr zhdX12_oddsFrom_85 7 rfl
theorem dX12_oddsFrom_100 : decode cX12_oddsFrom 100 = .ok (.goto 24, 3) := dzr zhdX12_oddsFrom_85 8 rfl
theorem dX12_oddsFrom_103 : decode cX12_oddsFrom 103 = .ok (.aload_n 0, 1) := dzr zhdX12_oddsFrom_85 9 rfl
theorem dX12_oddsFrom_104 : decode cX12_oddsFrom 104 = .ok (.iload_n 1, 1) := dzr zhdX12_oddsFrom_85 10 rfl
theorem dX12_oddsFrom_105 : decode cX12_oddsFrom 105 = .ok (.iload_n 2, 1) := dzr zhdX12_oddsFrom_85 11 rfl
theorem dX12_oddsFrom_106 : decode cX12_oddsFrom 106 = .ok (.iload_n 3, 1) := dzr zhdX12_oddsFrom_85 12 rfl
theorem dX12_oddsFrom_107 : decode cX12_oddsFrom 107 = .ok (.iload 4, 2) := dzr zhdX12_oddsFrom_85 13 rfl
theorem dX12_oddsFrom_109 : decode cX12_oddsFrom 109 = .ok (.iconst 1, 1) := dzr zhdX12_oddsFrom_85 14 rfl
theorem dX12_oddsFrom_110 : decode cX12_oddsFrom 110 = .ok (.iadd, 1) := dzr zhdX12_oddsFrom_85 15 rfl
theorem dX12_oddsFrom_111 : decode cX12_oddsFrom 111 = .ok (.iload 5, 2) := dzr zhdX12_oddsFrom_85 16 rfl
theorem dX12_oddsFrom_113 : decode cX12_oddsFrom 113 = .ok (.iconst 1, 1) := dzr zhdX12_oddsFrom_85 17 rfl
theorem dX12_oddsFrom_114 : decode cX12_oddsFrom 114 = .ok (.isub, 1) := dzr zhdX12_oddsFrom_85 18 rfl
theorem dX12_oddsFrom_115 : decode cX12_oddsFrom 115 = .ok (.iload 12, 2) := dzr zhdX12_oddsFrom_85 19 rfl
theorem dX12_oddsFrom_117 : decode cX12_oddsFrom 117 = .ok (.iload 7, 2) := dzr zhdX12_oddsFrom_85 20 rfl
theorem dX12_oddsFrom_119 : decode cX12_oddsFrom 119 = .ok (.iload 13, 2) := dzr zhdX12_oddsFrom_85 21 rfl
theorem dX12_oddsFrom_121 : decode cX12_oddsFrom 121 = .ok (.invokevirtual 421, 3) := dzr zhdX12_oddsFrom_85 22 rfl
theorem dX12_oddsFrom_124 : decode cX12_oddsFrom 124 = .ok (.iadd, 1) := dzr zhdX12_oddsFrom_85 23 rfl
def ztdX12_oddsFrom_125 : List (Nat × Instr × Nat) := [(125, .istore 10, 2), (127, .iinc 11 1, 3), (130, .goto (-103), 3), (133, .iload 10, 2), (135, .ireturn, 1)]
theorem zhdX12_oddsFrom_125 : dzC ztdX12_oddsFrom_125 125 (cX12_oddsFrom.data.toList.drop 125) = true := by decide +kernel
theorem dX12_oddsFrom_125 : decode cX12_oddsFrom 125 = .ok (.istore 10, 2) := dzr zhdX12_oddsFrom_125 0 rfl
theorem dX12_oddsFrom_127 : decode cX12_oddsFrom 127 = .ok (.iinc 11 1, 3) := dzr zhdX12_oddsFrom_125 1 rfl
theorem dX12_oddsFrom_130 : decode cX12_oddsFrom 130 = .ok (.goto (-103), 3) := dzr zhdX12_oddsFrom_125 2 rfl
theorem dX12_oddsFrom_133 : decode cX12_oddsFrom 133 = .ok (.iload 10, 2) := dzr zhdX12_oddsFrom_125 3 rfl
theorem dX12_oddsFrom_135 : decode cX12_oddsFrom 135 = .ok (.ireturn, 1) := dzr zhdX12_oddsFrom_125 4 rfl
theorem ggX12_odds_X12_isMatter : GoodIn wsX12_odds wsX12_isMatter := (bg_up (bg_law (bi_wsL_law0_r26 _ (List.mem_of_getElem? (i := 13) rfl))))
theorem gX12_odds_X12_isMatter : GoodIn wsX12_odds (wsV RX12 331 RX12 yX12_isMatter wsX12_isMatter) := goodIn_app (bg_up (bg_cons (bi_wsL_law0_r26 _ (List.mem_of_getElem? (i := 10) rfl)) (bg_cons (bi_wsL_law0_r26 _ (List.mem_of_getElem? (i := 11) rfl)) (bg_cons (bi_wsL_law0_r26 _ (List.mem_of_getElem? (i := 12) rfl)) (bg_cons (bi_wsL_law0_r1 _ (List.mem_of_getElem? (i := 5) rfl)) bg_nil))))) (bg_up (bg_law (bi_wsL_law0_r26 _ (List.mem_of_getElem? (i := 13) rfl))))
theorem ggX12_odds_X12_areTwo : GoodIn wsX12_odds wsX12_areTwo := (bg_up (bg_law (bi_wsL_law0_r27 _ (List.mem_of_getElem? (i := 13) rfl))))
theorem gX12_odds_X12_areTwo : GoodIn wsX12_odds (wsV RX12 316 RX12 yX12_areTwo wsX12_areTwo) := goodIn_app (bg_up (bg_cons (bi_wsL_law0_r27 _ (List.mem_of_getElem? (i := 10) rfl)) (bg_cons (bi_wsL_law0_r27 _ (List.mem_of_getElem? (i := 11) rfl)) (bg_cons (bi_wsL_law0_r27 _ (List.mem_of_getElem? (i := 12) rfl)) (bg_cons (bi_wsL_law0_r1 _ (List.mem_of_getElem? (i := 5) rfl)) bg_nil))))) (bg_up (bg_law (bi_wsL_law0_r27 _ (List.mem_of_getElem? (i := 13) rfl))))
theorem ggX12_odds_X12_in : GoodIn wsX12_odds wsX12_in := (bg_up (bg_law (bi_wsL_law0_r16 _ (List.mem_of_getElem? (i := 21) rfl))))
theorem gX12_odds_X12_in : GoodIn wsX12_odds (va_wsS RX12 211 yX12_in wsX12_in) := goodIn_app (bg_up (bg_cons (bi_wsL_law0_r16 _ (List.mem_of_getElem? (i := 19) rfl)) (bg_cons (bi_wsL_law0_r16 _ (List.mem_of_getElem? (i := 20) rfl)) (bg_cons (bi_wsL_law0_r1 _ (List.mem_of_getElem? (i := 5) rfl)) bg_nil)))) (bg_up (bg_law (bi_wsL_law0_r16 _ (List.mem_of_getElem? (i := 21) rfl))))
theorem ggX12_odds_X12_pairAt : GoodIn wsX12_odds wsX12_pairAt := (bg_up (bg_law (bi_wsL_law0_r27 _ (List.mem_of_getElem? (i := 16) rfl))))
theorem gX12_odds_X12_pairAt : GoodIn wsX12_odds (va_wsS RX12 294 yX12_pairAt wsX12_pairAt) := goodIn_app (bg_up (bg_cons (bi_wsL_law0_r27 _ (List.mem_of_getElem? (i := 14) rfl)) (bg_cons (bi_wsL_law0_r27 _ (List.mem_of_getElem? (i := 15) rfl)) (bg_cons (bi_wsL_law0_r1 _ (List.mem_of_getElem? (i := 5) rfl)) bg_nil)))) (bg_up (bg_law (bi_wsL_law0_r27 _ (List.mem_of_getElem? (i := 16) rfl))))
theorem ggX12_odds_X12_oddsFrom : GoodIn wsX12_odds wsX12_oddsFrom := (bg_up (bg_law (bi_wsL_law0_r54 _ (List.mem_of_getElem? (i := 9) rfl))))
theorem gX12_odds_X12_oddsFrom : GoodIn wsX12_odds (wsV RX12 421 RX12 yX12_oddsFrom wsX12_oddsFrom) := goodIn_app (bg_up (bg_cons (bi_wsL_law0_r54 _ (List.mem_of_getElem? (i := 6) rfl)) (bg_cons (bi_wsL_law0_r54 _ (List.mem_of_getElem? (i := 7) rfl)) (bg_cons (bi_wsL_law0_r54 _ (List.mem_of_getElem? (i := 8) rfl)) (bg_cons (bi_wsL_law0_r1 _ (List.mem_of_getElem? (i := 5) rfl)) bg_nil))))) (bg_up (bg_law (bi_wsL_law0_r54 _ (List.mem_of_getElem? (i := 9) rfl))))
def ztdX12_odds_0 : List (Nat × Instr × Nat) := [(0, .aload_n 0, 1), (1, .iload_n 1, 1), (2, .invokevirtual 331, 3), (5, .ifCond .eq 34, 3), (8, .aload_n 0, 1), (9, .iload_n 2, 1), (10, .iload_n 3, 1), (11, .invokevirtual 316, 3), (14, .ifCond .eq 25, 3), (17, .iload 4, 2), (19, .iconst 0, 1), (20, .bipush 8, 2), (22, .invokestatic 211, 3), (25, .ifCond .eq 14, 3), (28, .iload 5, 2), (30, .iconst 0, 1), (31, .bipush 100, 2), (33, .invokestatic 211, 3), (36, .ifCond .ne 5, 3), (39, .iconst (-1), 1), (40, .ireturn, 1), (41, .aload_n 0, 1), (42, .iload_n 2, 1), (43, .iload_n 3, 1)]
theorem zhdX12_odds_0 : dzC ztdX12_odds_0 0 (cX12_odds.data.toList.drop 0) = true := by decide +kernel
theorem dX12_odds_0 : decode cX12_odds 0 = .ok (.aload_n 0, 1) := dzr zhdX12_odds_0 0 rfl
theorem dX12_odds_1 : decode cX12_odds 1 = .ok (.iload_n 1, 1) := dzr zhdX12_odds_0 1 rfl
theorem dX12_odds_2 : decode cX12_odds 2 = .ok (.invokevirtual 331, 3) := dzr zhdX12_odds_0 2 rfl
theorem dX12_odds_5 : decode cX12_odds 5 = .ok (.ifCond .eq 34, 3) := dzr zhdX12_odds_0 3 rfl
theorem dX12_odds_8 : decode cX12_odds 8 = .ok (.aload_n 0, 1) := dzr zhdX12_odds_0 4 rfl
theorem dX12_odds_9 : decode cX12_odds 9 = .ok (.iload_n 2, 1) := dzr zhdX12_odds_0 5 rfl
theorem dX12_odds_10 : decode cX12_odds 10 = .ok (.iload_n 3, 1) := dzr zhdX12_odds_0 6 rfl
theorem dX12_odds_11 : decode cX12_odds 11 = .ok (.invokevirtual 316, 3) := dzr zhdX12_odds_0 7 rfl
theorem dX12_odds_14 : decode cX12_odds 14 = .ok (.ifCond .eq 25, 3) := dzr zhdX12_odds_0 8 rfl
theorem dX12_odds_17 : decode cX12_odds 17 = .ok (.iload 4, 2) := dzr zhdX12_odds_0 9 rfl
theorem dX12_odds_19 : decode cX12_odds 19 = .ok (.iconst 0, 1) := dzr zhdX12_odds_0 10 rfl
theorem dX12_odds_20 : decode cX12_odds 20 = .ok (.bipush 8, 2) := dzr zhdX12_odds_0 11 rfl
theorem dX12_odds_22 : decode cX12_odds 22 = .ok (.invokestatic 211, 3) := dzr zhdX12_odds_0 12 rfl
theorem dX12_odds_25 : decode cX12_odds 25 = .ok (.ifCond .eq 14, 3) := dzr zhdX12_odds_0 13 rfl
theorem dX12_odds_28 : decode cX12_odds 28 = .ok (.iload 5, 2) := dzr zhdX12_odds_0 14 rfl
theorem dX12_odds_30 : decode cX12_odds 30 = .ok (.iconst 0, 1) := dzr zhdX12_odds_0 15 rfl
theorem dX12_odds_31 : decode cX12_odds 31 = .ok (.bipush 100, 2) := dzr zhdX12_odds_0 16 rfl
theorem dX12_odds_33 : decode cX12_odds 33 = .ok (.invokestatic 211, 3) := dzr zhdX12_odds_0 17 rfl
theorem dX12_odds_36 : decode cX12_odds 36 = .ok (.ifCond .ne 5, 3) := dzr zhdX12_odds_0 18 rfl
theorem dX12_odds_39 : decode cX12_odds 39 = .ok (.iconst (-1), 1) := dzr zhdX12_odds_0 19 rfl
theorem dX12_odds_40 : decode cX12_odds 40 = .ok (.ireturn, 1) := dzr zhdX12_odds_0 20 rfl
theorem dX12_odds_41 : decode cX12_odds 41 = .ok (.aload_n 0, 1) := dzr zhdX12_odds_0 21 rfl
theorem dX12_odds_42 : decode cX12_odds 42 = .ok (.iload_n 2, 1) := dzr zhdX12_odds_0 22 rfl
theorem dX12_odds_43 : decode cX12_odds 43 = .ok (.iload_n 3, 1) := dzr zhdX12_odds_0 23 rfl
def ztdX12_odds_44 : List (Nat × Instr × Nat) := [(44, .aload_n 0, 1), (45, .getfield 55, 3), (48, .iconst 2, 1), (49, .iload_n 1, 1), (50, .imul, 1), (51, .iconst 1, 1), (52, .iadd, 1), (53, .iaload, 1), (54, .iconst 0, 1), (55, .iload 4, 2), (57, .aload_n 0, 1), (58, .getfield 58, 3), (61, .iload_n 2, 1), (62, .iload_n 3, 1), (63, .invokestatic 294, 3), (66, .iaload, 1), (67, .iload 5, 2), (69, .ldc_w 425, 3), (72, .invokevirtual 421, 3), (75, .ireturn, 1)]
theorem zhdX12_odds_44 : dzC ztdX12_odds_44 44 (cX12_odds.data.toList.drop 44) = true := by decide +kernel
theorem dX12_odds_44 : decode cX12_odds 44 = .ok (.aload_n 0, 1) := dzr zhdX12_odds_44 0 rfl
theorem dX12_odds_45 : decode cX12_odds 45 = .ok (.getfield 55, 3) := dzr zhdX12_odds_44 1 rfl
theorem dX12_odds_48 : decode cX12_odds 48 = .ok (.iconst 2, 1) := dzr zhdX12_odds_44 2 rfl
theorem dX12_odds_49 : decode cX12_odds 49 = .ok (.iload_n 1, 1) := dzr zhdX12_odds_44 3 rfl
theorem dX12_odds_50 : decode cX12_odds 50 = .ok (.imul, 1) := dzr zhdX12_odds_44 4 rfl
theorem dX12_odds_51 : decode cX12_odds 51 = .ok (.iconst 1, 1) := dzr zhdX12_odds_44 5 rfl
theorem dX12_odds_52 : decode cX12_odds 52 = .ok (.iadd, 1) := dzr zhdX12_odds_44 6 rfl
theorem dX12_odds_53 : decode cX12_odds 53 = .ok (.iaload, 1) := dzr zhdX12_odds_44 7 rfl
theorem dX12_odds_54 : decode cX12_odds 54 = .ok (.iconst 0, 1) := dzr zhdX12_odds_44 8 rfl
theorem dX12_odds_55 : decode cX12_odds 55 = .ok (.iload 4, 2) := dzr zhdX12_odds_44 9 rfl
theorem dX12_odds_57 : decode cX12_odds 57 = .ok (.aload_n 0, 1) := dzr zhdX12_odds_44 10 rfl
theorem dX12_odds_58 : decode cX12_odds 58 = .ok (.getfield 58, 3) := dzr zhdX12_odds_44 11 rfl
theorem dX12_odds_61 : decode cX12_odds 61 = .ok (.iload_n 2, 1) := dzr zhdX12_odds_44 12 rfl
theorem dX12_odds_62 : decode cX12_odds 62 = .ok (.iload_n 3, 1) := dzr zhdX12_odds_44 13 rfl
theorem dX12_odds_63 : decode cX12_odds 63 = .ok (.invokestatic 294, 3) := dzr zhdX12_odds_44 14 rfl
theorem dX12_odds_66 : decode cX12_odds 66 = .ok (.iaload, 1) := dzr zhdX12_odds_44 15 rfl
theorem dX12_odds_67 : decode cX12_odds 67 = .ok (.iload 5, 2) := dzr zhdX12_odds_44 16 rfl
theorem dX12_odds_69 : decode cX12_odds 69 = .ok (.ldc_w 425, 3) := dzr zhdX12_odds_44 17 rfl
theorem dX12_odds_72 : decode cX12_odds 72 = .ok (.invokevirtual 421, 3) := dzr zhdX12_odds_44 18 rfl
theorem dX12_odds_75 : decode cX12_odds 75 = .ok (.ireturn, 1) := dzr zhdX12_odds_44 19 rfl
theorem ggX12_shares_X12_in : GoodIn wsX12_shares wsX12_in := (bg_up (bg_law (bi_wsL_law0_r16 _ (List.mem_of_getElem? (i := 21) rfl))))
theorem gX12_shares_X12_in : GoodIn wsX12_shares (va_wsS RX12 211 yX12_in wsX12_in) := goodIn_app (bg_up (bg_cons (bi_wsL_law0_r16 _ (List.mem_of_getElem? (i := 19) rfl)) (bg_cons (bi_wsL_law0_r16 _ (List.mem_of_getElem? (i := 20) rfl)) (bg_cons (bi_wsL_law0_r1 _ (List.mem_of_getElem? (i := 5) rfl)) bg_nil)))) (bg_up (bg_law (bi_wsL_law0_r16 _ (List.mem_of_getElem? (i := 21) rfl))))
theorem ggX12_shares_X12_of : GoodIn wsX12_shares wsX12_of := (bg_up (bg_law (bi_wsL_law0_r22 _ (List.mem_of_getElem? (i := 21) rfl))))
theorem gX12_shares_X12_of : GoodIn wsX12_shares (wsV RX12 258 RX12 yX12_of wsX12_of) := goodIn_app (bg_up (bg_cons (bi_wsL_law0_r22 _ (List.mem_of_getElem? (i := 18) rfl)) (bg_cons (bi_wsL_law0_r22 _ (List.mem_of_getElem? (i := 19) rfl)) (bg_cons (bi_wsL_law0_r22 _ (List.mem_of_getElem? (i := 20) rfl)) (bg_cons (bi_wsL_law0_r1 _ (List.mem_of_getElem? (i := 5) rfl)) bg_nil))))) (bg_up (bg_law (bi_wsL_law0_r22 _ (List.mem_of_getElem? (i := 21) rfl))))
def ztdX12_shares_0 : List (Nat × Instr × Nat) := [(0, .aload_n 0, 1), (1, .getfield 252, 3), (4, .ifCond .eq 23, 3), (7, .iload_n 1, 1), (8, .iconst 0, 1), (9, .iconst 1, 1), (10, .invokestatic 211, 3), (13, .ifCond .eq 14, 3), (16, .iload_n 2, 1), (17, .iconst 0, 1), (18, .sipush 999, 3), (21, .invokestatic 211, 3), (24, .ifCond .ne 5, 3), (27, .iconst (-1), 1), (28, .ireturn, 1), (29, .iconst 0, 1), (30, .istore_n 3, 1), (31, .iconst 0, 1), (32, .istore 4, 2), (34, .iconst 0, 1), (35, .istore 5, 2), (37, .iload 5, 2), (39, .aload_n 0, 1), (40, .getfield 252, 3)]
theorem zhdX12_shares_0 : dzC ztdX12_shares_0 0 (cX12_shares.data.toList.drop 0) = true := by decide +kernel
theorem dX12_shares_0 : decode cX12_shares 0 = .ok (.aload_n 0, 1) := dzr zhdX12_shares_0 0 rfl
theorem dX12_shares_1 : decode cX12_shares 1 = .ok (.getfield 252, 3) := dzr zhdX12_shares_0 1 rfl
theorem dX12_shares_4 : decode cX12_shares 4 = .ok (.ifCond .eq 23, 3) := dzr zhdX12_shares_0 2 rfl
theorem dX12_shares_7 : decode cX12_shares 7 = .ok (.iload_n 1, 1) := dzr zhdX12_shares_0 3 rfl
theorem dX12_shares_8 : decode cX12_shares 8 = .ok (.iconst 0, 1) := dzr zhdX12_shares_0 4 rfl
theorem dX12_shares_9 : decode cX12_shares 9 = .ok (.iconst 1, 1) := dzr zhdX12_shares_0 5 rfl
theorem dX12_shares_10 : decode cX12_shares 10 = .ok (.invokestatic 211, 3) := dzr zhdX12_shares_0 6 rfl
theorem dX12_shares_13 : decode cX12_shares 13 = .ok (.ifCond .eq 14, 3) := dzr zhdX12_shares_0 7 rfl
theorem dX12_shares_16 : decode cX12_shares 16 = .ok (.iload_n 2, 1) := dzr zhdX12_shares_0 8 rfl
theorem dX12_shares_17 : decode cX12_shares 17 = .ok (.iconst 0, 1) := dzr zhdX12_shares_0 9 rfl
theorem dX12_shares_18 : decode cX12_shares 18 = .ok (.sipush 999, 3) := dzr zhdX12_shares_0 10 rfl
theorem dX12_shares_21 : decode cX12_shares 21 = .ok (.invokestatic 211, 3) := dzr zhdX12_shares_0 11 rfl
theorem dX12_shares_24 : decode cX12_shares 24 = .ok (.ifCond .ne 5, 3) := dzr zhdX12_shares_0 12 rfl
theorem dX12_shares_27 : decode cX12_shares 27 = .ok (.iconst (-1), 1) := dzr zhdX12_shares_0 13 rfl
theorem dX12_shares_28 : decode cX12_shares 28 = .ok (.ireturn, 1) := dzr zhdX12_shares_0 14 rfl
theorem dX12_shares_29 : decode cX12_shares 29 = .ok (.iconst 0, 1) := dzr zhdX12_shares_0 15 rfl
theorem dX12_shares_30 : decode cX12_shares 30 = .ok (.istore_n 3, 1) := dzr zhdX12_shares_0 16 rfl
theorem dX12_shares_31 : decode cX12_shares 31 = .ok (.iconst 0, 1) := dzr zhdX12_shares_0 17 rfl
theorem dX12_shares_32 : decode cX12_shares 32 = .ok (.istore 4, 2) := dzr zhdX12_shares_0 18 rfl
theorem dX12_shares_34 : decode cX12_shares 34 = .ok (.iconst 0, 1) := dzr zhdX12_shares_0 19 rfl
theorem dX12_shares_35 : decode cX12_shares 35 = .ok (.istore 5, 2) := dzr zhdX12_shares_0 20 rfl
theorem dX12_shares_37 : decode cX12_shares 37 = .ok (.iload 5, 2) := dzr zhdX12_shares_0 21 rfl
theorem dX12_shares_39 : decode cX12_shares 39 = .ok (.aload_n 0, 1) := dzr zhdX12_shares_0 22 rfl
theorem dX12_shares_40 : decode cX12_shares 40 = .ok (.getfield 252, 3) := dzr zhdX12_shares_0 23 rfl
def ztdX12_shares_43 : List (Nat × Instr × Nat) := [(43, .if_icmp .ge 52, 3), (46, .iload_n 3, 1), (47, .aload_n 0, 1), (48, .getfield 58, 3), (51, .bipush 36, 2), (53, .iload 5, 2), (55, .iadd, 1), (56, .iaload, 1), (57, .iadd, 1), (58, .istore_n 3, 1), (59, .iload 4, 2), (61, .aload_n 0, 1), (62, .iload 5, 2), (64, .iconst 0, 1), (65, .invokevirtual 258, 3), (68, .iload_n 1, 1), (69, .if_icmp .ne 16, 3), (72, .aload_n 0, 1), (73, .getfield 58, 3), (76, .bipush 36, 2), (78, .iload 5, 2), (80, .iadd, 1), (81, .iaload, 1), (82, .goto 4, 3)]
theorem zhdX12_shares_43 : dzC ztdX12_shares_43 43 (cX12_shares.data.toList.drop 43) = true := by decide +kernel
theorem dX12_shares_43 : decode cX12_shares 43 = .ok (.if_icmp .ge 52, 3) := dzr zhdX12_shares_43 0 rfl
theorem dX12_shares_46 : decode cX12_shares 46 = .ok (.iload_n 3, 1) := dzr zhdX12_shares_43 1 rfl
theorem dX12_shares_47 : decode cX12_shares 47 = .ok (.aload_n 0, 1) := dzr zhdX12_shares_43 2 rfl
theorem dX12_shares_48 : decode cX12_shares 48 = .ok (.getfield 58, 3) := dzr zhdX12_shares_43 3 rfl
theorem dX12_shares_51 : decode cX12_shares 51 = .ok (.bipush 36, 2) := dzr zhdX12_shares_43 4 rfl
theorem dX12_shares_53 : decode cX12_shares 53 = .ok (.iload 5, 2) := dzr zhdX12_shares_43 5 rfl
theorem dX12_shares_55 : decode cX12_shares 55 = .ok (.iadd, 1) := dzr zhdX12_shares_43 6 rfl
theorem dX12_shares_56 : decode cX12_shares 56 = .ok (.iaload, 1) := dzr zhdX12_shares_43 7 rfl
theorem dX12_shares_57 : decode cX12_shares 57 = .ok (.iadd, 1) := dzr zhdX12_shares_43 8 rfl
theorem dX12_shares_58 : decode cX12_shares 58 = .ok (.istore_n 3, 1) := dzr zhdX12_shares_43 9 rfl
theorem dX12_shares_59 : decode cX12_shares 59 = .ok (.iload 4, 2) := dzr zhdX12_shares_43 10 rfl
theorem dX12_shares_61 : decode cX12_shares 61 = .ok (.aload_n 0, 1) := dzr zhdX12_shares_43 11 rfl
theorem dX12_shares_62 : decode cX12_shares 62 = .ok (.iload 5, 2) := dzr zhdX12_shares_43 12 rfl
theorem dX12_shares_64 : decode cX12_shares 64 = .ok (.iconst 0, 1) := dzr zhdX12_shares_43 13 rfl
theorem dX12_shares_65 : decode cX12_shares 65 = .ok (.invokevirtual 258, 3) := dzr zhdX12_shares_43 14 rfl
theorem dX12_shares_68 : decode cX12_shares 68 = .ok (.iload_n 1, 1) := dzr zhdX12_shares_43 15 rfl
theorem dX12_shares_69 : decode cX12_shares 69 = .ok (.if_icmp .ne 16, 3) := dzr zhdX12_shares_43 16 rfl
theorem dX12_shares_72 : decode cX12_shares 72 = .ok (.aload_n 0, 1) := dzr zhdX12_shares_43 17 rfl
theorem dX12_shares_73 : decode cX12_shares 73 = .ok (.getfield 58, 3) := dzr zhdX12_shares_43 18 rfl
theorem dX12_shares_76 : decode cX12_shares 76 = .ok (.bipush 36, 2) := dzr zhdX12_shares_43 19 rfl
theorem dX12_shares_78 : decode cX12_shares 78 = .ok (.iload 5, 2) := dzr zhdX12_shares_43 20 rfl
theorem dX12_shares_80 : decode cX12_shares 80 = .ok (.iadd, 1) := dzr zhdX12_shares_43 21 rfl
theorem dX12_shares_81 : decode cX12_shares 81 = .ok (.iaload, 1) := dzr zhdX12_shares_43 22 rfl
theorem dX12_shares_82 : decode cX12_shares 82 = .ok (.goto 4, 3) := dzr zhdX12_shares_43 23 rfl
def ztdX12_shares_85 : List (Nat × Instr × Nat) := [(85, .iconst 0, 1), (86, .iadd, 1), (87, .istore 4, 2), (89, .iinc 5 1, 3), (92, .goto (-55), 3), (95, .iload_n 3, 1), (96, .ifCond .ne 7, 3), (99, .iconst 0, 1), (100, .goto 9, 3), (103, .iload_n 2, 1), (104, .iload 4, 2), (106, .imul, 1), (107, .iload_n 3, 1), (108, .idiv, 1), (109, .ireturn, 1)]
theorem zhdX12_shares_85 : dzC ztdX12_shares_85 85 (cX12_shares.data.toList.drop 85) = true := by decide +kernel
theorem dX12_shares_85 : decode cX12_shares 85 = .ok (.iconst 0, 1) := dzr zhdX12_shares_85 0 rfl
theorem dX12_shares_86 : decode cX12_shares 86 = .ok (.iadd, 1) := dzr zhdX12_shares_85 1 rfl
theorem dX12_shares_87 : decode cX12_shares 87 = .ok (.istore 4, 2) := dzr zhdX12_shares_85 2 rfl
theorem dX12_shares_89 : decode cX12_shares 89 = .ok (.iinc 5 1, 3) := dzr zhdX12_shares_85 3 rfl
theorem dX12_shares_92 : decode cX12_shares 92 = .ok (.goto (-55), 3) := dzr zhdX12_shares_85 4 rfl
theorem dX12_shares_95 : decode cX12_shares 95 = .ok (.iload_n 3, 1) := dzr zhdX12_shares_85 5 rfl
theorem dX12_shares_96 : decode cX12_shares 96 = .ok (.ifCond .ne 7, 3) := dzr zhdX12_shares_85 6 rfl
theorem dX12_shares_99 : decode cX12_shares 99 = .ok (.iconst 0, 1) := dzr zhdX12_shares_85 7 rfl
theorem dX12_shares_100 : decode cX12_shares 100 = .ok (.goto 9, 3) := dzr zhdX12_shares_85 8 rfl
theorem dX12_shares_103 : decode cX12_shares 103 = .ok (.iload_n 2, 1) := dzr zhdX12_shares_85 9 rfl
theorem dX12_shares_104 : decode cX12_shares 104 = .ok (.iload 4, 2) := dzr zhdX12_shares_85 10 rfl
theorem dX12_shares_106 : decode cX12_shares 106 = .ok (.imul, 1) := dzr zhdX12_shares_85 11 rfl
theorem dX12_shares_107 : decode cX12_shares 107 = .ok (.iload_n 3, 1) := dzr zhdX12_shares_85 12 rfl
theorem dX12_shares_108 : decode cX12_shares 108 = .ok (.idiv, 1) := dzr zhdX12_shares_85 13 rfl
theorem dX12_shares_109 : decode cX12_shares 109 = .ok (.ireturn, 1) := dzr zhdX12_shares_85 14 rfl
theorem ggX12_metSet_X12_isFree : GoodIn wsX12_metSet wsX12_isFree := (bg_up (bg_law (bi_wsL_law0_r25 _ (List.mem_of_getElem? (i := 15) rfl))))
theorem gX12_metSet_X12_isFree : GoodIn wsX12_metSet (wsV RX12 313 RX12 yX12_isFree wsX12_isFree) := goodIn_app (bg_up (bg_cons (bi_wsL_law0_r25 _ (List.mem_of_getElem? (i := 12) rfl)) (bg_cons (bi_wsL_law0_r25 _ (List.mem_of_getElem? (i := 13) rfl)) (bg_cons (bi_wsL_law0_r25 _ (List.mem_of_getElem? (i := 14) rfl)) (bg_cons (bi_wsL_law0_r1 _ (List.mem_of_getElem? (i := 5) rfl)) bg_nil))))) (bg_up (bg_law (bi_wsL_law0_r25 _ (List.mem_of_getElem? (i := 15) rfl))))
def ztdX12_metSet_0 : List (Nat × Instr × Nat) := [(0, .iconst 0, 1), (1, .istore_n 1, 1), (2, .iconst 0, 1), (3, .istore_n 2, 1), (4, .iload_n 2, 1), (5, .aload_n 0, 1), (6, .getfield 252, 3), (9, .if_icmp .ge 27, 3), (12, .iload_n 1, 1), (13, .aload_n 0, 1), (14, .iload_n 2, 1), (15, .invokevirtual 313, 3), (18, .ifCond .eq 7, 3), (21, .iconst 0, 1), (22, .goto 6, 3), (25, .iconst 1, 1), (26, .iload_n 2, 1), (27, .ishl, 1), (28, .ior, 1), (29, .istore_n 1, 1), (30, .iinc 2 1, 3), (33, .goto (-29), 3), (36, .iload_n 1, 1), (37, .ireturn, 1)]
theorem zhdX12_metSet_0 : dzC ztdX12_metSet_0 0 (cX12_metSet.data.toList.drop 0) = true := by decide +kernel
theorem dX12_metSet_0 : decode cX12_metSet 0 = .ok (.iconst 0, 1) := dzr zhdX12_metSet_0 0 rfl
theorem dX12_metSet_1 : decode cX12_metSet 1 = .ok (.istore_n 1, 1) := dzr zhdX12_metSet_0 1 rfl
theorem dX12_metSet_2 : decode cX12_metSet 2 = .ok (.iconst 0, 1) := dzr zhdX12_metSet_0 2 rfl
theorem dX12_metSet_3 : decode cX12_metSet 3 = .ok (.istore_n 2, 1) := dzr zhdX12_metSet_0 3 rfl
theorem dX12_metSet_4 : decode cX12_metSet 4 = .ok (.iload_n 2, 1) := dzr zhdX12_metSet_0 4 rfl
theorem dX12_metSet_5 : decode cX12_metSet 5 = .ok (.aload_n 0, 1) := dzr zhdX12_metSet_0 5 rfl
theorem dX12_metSet_6 : decode cX12_metSet 6 = .ok (.getfield 252, 3) := dzr zhdX12_metSet_0 6 rfl
theorem dX12_metSet_9 : decode cX12_metSet 9 = .ok (.if_icmp .ge 27, 3) := dzr zhdX12_metSet_0 7 rfl
theorem dX12_metSet_12 : decode cX12_metSet 12 = .ok (.iload_n 1, 1) := dzr zhdX12_metSet_0 8 rfl
theorem dX12_metSet_13 : decode cX12_metSet 13 = .ok (.aload_n 0, 1) := dzr zhdX12_metSet_0 9 rfl
theorem dX12_metSet_14 : decode cX12_metSet 14 = .ok (.iload_n 2, 1) := dzr zhdX12_metSet_0 10 rfl
theorem dX12_metSet_15 : decode cX12_metSet 15 = .ok (.invokevirtual 313, 3) := dzr zhdX12_metSet_0 11 rfl
theorem dX12_metSet_18 : decode cX12_metSet 18 = .ok (.ifCond .eq 7, 3) := dzr zhdX12_metSet_0 12 rfl
theorem dX12_metSet_21 : decode cX12_metSet 21 = .ok (.iconst 0, 1) := dzr zhdX12_metSet_0 13 rfl
theorem dX12_metSet_22 : decode cX12_metSet 22 = .ok (.goto 6, 3) := dzr zhdX12_metSet_0 14 rfl
theorem dX12_metSet_25 : decode cX12_metSet 25 = .ok (.iconst 1, 1) := dzr zhdX12_metSet_0 15 rfl
theorem dX12_metSet_26 : decode cX12_metSet 26 = .ok (.iload_n 2, 1) := dzr zhdX12_metSet_0 16 rfl
theorem dX12_metSet_27 : decode cX12_metSet 27 = .ok (.ishl, 1) := dzr zhdX12_metSet_0 17 rfl
theorem dX12_metSet_28 : decode cX12_metSet 28 = .ok (.ior, 1) := dzr zhdX12_metSet_0 18 rfl
theorem dX12_metSet_29 : decode cX12_metSet 29 = .ok (.istore_n 1, 1) := dzr zhdX12_metSet_0 19 rfl
theorem dX12_metSet_30 : decode cX12_metSet 30 = .ok (.iinc 2 1, 3) := dzr zhdX12_metSet_0 20 rfl
theorem dX12_metSet_33 : decode cX12_metSet 33 = .ok (.goto (-29), 3) := dzr zhdX12_metSet_0 21 rfl
theorem dX12_metSet_36 : decode cX12_metSet 36 = .ok (.iload_n 1, 1) := dzr zhdX12_metSet_0 22 rfl
theorem dX12_metSet_37 : decode cX12_metSet 37 = .ok (.ireturn, 1) := dzr zhdX12_metSet_0 23 rfl
def ztdX12_signedSet_0 : List (Nat × Instr × Nat) := [(0, .iconst 0, 1), (1, .istore_n 1, 1), (2, .iconst 0, 1), (3, .istore_n 2, 1), (4, .iload_n 2, 1), (5, .aload_n 0, 1), (6, .getfield 255, 3), (9, .if_icmp .ge 32, 3), (12, .iload_n 1, 1), (13, .aload_n 0, 1), (14, .getfield 58, 3), (17, .bipush 60, 2), (19, .iload_n 2, 1), (20, .iadd, 1), (21, .iaload, 1), (22, .iconst (-1), 1), (23, .if_icmp .ne 7, 3), (26, .iconst 0, 1), (27, .goto 6, 3), (30, .iconst 1, 1), (31, .iload_n 2, 1), (32, .ishl, 1), (33, .ior, 1), (34, .istore_n 1, 1)]
theorem zhdX12_signedSet_0 : dzC ztdX12_signedSet_0 0 (cX12_signedSet.data.toList.drop 0) = true := by decide +kernel
theorem dX12_signedSet_0 : decode cX12_signedSet 0 = .ok (.iconst 0, 1) := dzr zhdX12_signedSet_0 0 rfl
theorem dX12_signedSet_1 : decode cX12_signedSet 1 = .ok (.istore_n 1, 1) := dzr zhdX12_signedSet_0 1 rfl
theorem dX12_signedSet_2 : decode cX12_signedSet 2 = .ok (.iconst 0, 1) := dzr zhdX12_signedSet_0 2 rfl
theorem dX12_signedSet_3 : decode cX12_signedSet 3 = .ok (.istore_n 2, 1) := dzr zhdX12_signedSet_0 3 rfl
theorem dX12_signedSet_4 : decode cX12_signedSet 4 = .ok (.iload_n 2, 1) := dzr zhdX12_signedSet_0 4 rfl
theorem dX12_signedSet_5 : decode cX12_signedSet 5 = .ok (.aload_n 0, 1) := dzr zhdX12_signedSet_0 5 rfl
theorem dX12_signedSet_6 : decode cX12_signedSet 6 = .ok (.getfield 255, 3) := dzr zhdX12_signedSet_0 6 rfl
theorem dX12_signedSet_9 : decode cX12_signedSet 9 = .ok (.if_icmp .ge 32, 3) := dzr zhdX12_signedSet_0 7 rfl
theorem dX12_signedSet_12 : decode cX12_signedSet 12 = .ok (.iload_n 1, 1) := dzr zhdX12_signedSet_0 8 rfl
theorem dX12_signedSet_13 : decode cX12_signedSet 13 = .ok (.aload_n 0, 1) := dzr zhdX12_signedSet_0 9 rfl
theorem dX12_signedSet_14 : decode cX12_signedSet 14 = .ok (.getfield 58, 3) := dzr zhdX12_signedSet_0 10 rfl
theorem dX12_signedSet_17 : decode cX12_signedSet 17 = .ok (.bipush 60, 2) := dzr zhdX12_signedSet_0 11 rfl
theorem dX12_signedSet_19 : decode cX12_signedSet 19 = .ok (.iload_n 2, 1) := dzr zhdX12_signedSet_0 12 rfl
theorem dX12_signedSet_20 : decode cX12_signedSet 20 = .ok (.iadd, 1) := dzr zhdX12_signedSet_0 13 rfl
theorem dX12_signedSet_21 : decode cX12_signedSet 21 = .ok (.iaload, 1) := dzr zhdX12_signedSet_0 14 rfl
theorem dX12_signedSet_22 : decode cX12_signedSet 22 = .ok (.iconst (-1), 1) := dzr zhdX12_signedSet_0 15 rfl
theorem dX12_signedSet_23 : decode cX12_signedSet 23 = .ok (.if_icmp .ne 7, 3) := dzr zhdX12_signedSet_0 16 rfl
theorem dX12_signedSet_26 : decode cX12_signedSet 26 = .ok (.iconst 0, 1) := dzr zhdX12_signedSet_0 17 rfl
theorem dX12_signedSet_27 : decode cX12_signedSet 27 = .ok (.goto 6, 3) := dzr zhdX12_signedSet_0 18 rfl
theorem dX12_signedSet_30 : decode cX12_signedSet 30 = .ok (.iconst 1, 1) := dzr zhdX12_signedSet_0 19 rfl
theorem dX12_signedSet_31 : decode cX12_signedSet 31 = .ok (.iload_n 2, 1) := dzr zhdX12_signedSet_0 20 rfl
theorem dX12_signedSet_32 : decode cX12_signedSet 32 = .ok (.ishl, 1) := dzr zhdX12_signedSet_0 21 rfl
theorem dX12_signedSet_33 : decode cX12_signedSet 33 = .ok (.ior, 1) := dzr zhdX12_signedSet_0 22 rfl
theorem dX12_signedSet_34 : decode cX12_signedSet 34 = .ok (.istore_n 1, 1) := dzr zhdX12_signedSet_0 23 rfl
def ztdX12_signedSet_35 : List (Nat × Instr × Nat) := [(35, .iinc 2 1, 3), (38, .goto (-34), 3), (41, .iload_n 1, 1), (42, .ireturn, 1)]
theorem zhdX12_signedSet_35 : dzC ztdX12_signedSet_35 35 (cX12_signedSet.data.toList.drop 35) = true := by decide +kernel
theorem dX12_signedSet_35 : decode cX12_signedSet 35 = .ok (.iinc 2 1, 3) := dzr zhdX12_signedSet_35 0 rfl
theorem dX12_signedSet_38 : decode cX12_signedSet 38 = .ok (.goto (-34), 3) := dzr zhdX12_signedSet_35 1 rfl
theorem dX12_signedSet_41 : decode cX12_signedSet 41 = .ok (.iload_n 1, 1) := dzr zhdX12_signedSet_35 2 rfl
theorem dX12_signedSet_42 : decode cX12_signedSet 42 = .ok (.ireturn, 1) := dzr zhdX12_signedSet_35 3 rfl
theorem ggX12_topPair_X12_areTwo : GoodIn wsX12_topPair wsX12_areTwo := (bg_up (bg_law (bi_wsL_law0_r27 _ (List.mem_of_getElem? (i := 13) rfl))))
theorem gX12_topPair_X12_areTwo : GoodIn wsX12_topPair (wsV RX12 316 RX12 yX12_areTwo wsX12_areTwo) := goodIn_app (bg_up (bg_cons (bi_wsL_law0_r27 _ (List.mem_of_getElem? (i := 10) rfl)) (bg_cons (bi_wsL_law0_r27 _ (List.mem_of_getElem? (i := 11) rfl)) (bg_cons (bi_wsL_law0_r27 _ (List.mem_of_getElem? (i := 12) rfl)) (bg_cons (bi_wsL_law0_r1 _ (List.mem_of_getElem? (i := 5) rfl)) bg_nil))))) (bg_up (bg_law (bi_wsL_law0_r27 _ (List.mem_of_getElem? (i := 13) rfl))))
theorem ggX12_topPair_X12_pairAt : GoodIn wsX12_topPair wsX12_pairAt := (bg_up (bg_law (bi_wsL_law0_r27 _ (List.mem_of_getElem? (i := 16) rfl))))
theorem gX12_topPair_X12_pairAt : GoodIn wsX12_topPair (va_wsS RX12 294 yX12_pairAt wsX12_pairAt) := goodIn_app (bg_up (bg_cons (bi_wsL_law0_r27 _ (List.mem_of_getElem? (i := 14) rfl)) (bg_cons (bi_wsL_law0_r27 _ (List.mem_of_getElem? (i := 15) rfl)) (bg_cons (bi_wsL_law0_r1 _ (List.mem_of_getElem? (i := 5) rfl)) bg_nil)))) (bg_up (bg_law (bi_wsL_law0_r27 _ (List.mem_of_getElem? (i := 16) rfl))))
theorem ggX12_topPair_X12_codeOf : GoodIn wsX12_topPair wsX12_codeOf := (bg_up (bg_law (bi_wsL_law0_r34 _ (List.mem_of_getElem? (i := 2) rfl))))
theorem gX12_topPair_X12_codeOf : GoodIn wsX12_topPair (va_wsS RX12 301 yX12_codeOf wsX12_codeOf) := goodIn_app (bg_up (bg_cons (bi_wsL_law0_r34 _ (List.mem_of_getElem? (i := 0) rfl)) (bg_cons (bi_wsL_law0_r34 _ (List.mem_of_getElem? (i := 1) rfl)) (bg_cons (bi_wsL_law0_r1 _ (List.mem_of_getElem? (i := 5) rfl)) bg_nil)))) (bg_up (bg_law (bi_wsL_law0_r34 _ (List.mem_of_getElem? (i := 2) rfl))))
def ztdX12_topPair_0 : List (Nat × Instr × Nat) := [(0, .iconst (-1), 1), (1, .istore_n 2, 1), (2, .iconst 0, 1), (3, .istore_n 3, 1), (4, .iconst 0, 1), (5, .istore 4, 2), (7, .iload 4, 2), (9, .aload_n 0, 1), (10, .getfield 252, 3), (13, .if_icmp .ge 87, 3), (16, .iload 4, 2), (18, .iconst 1, 1), (19, .iadd, 1), (20, .istore 5, 2), (22, .iload 5, 2), (24, .aload_n 0, 1), (25, .getfield 252, 3), (28, .if_icmp .ge 66, 3), (31, .aload_n 0, 1), (32, .iload 4, 2), (34, .iload 5, 2), (36, .invokevirtual 316, 3), (39, .ifCond .eq 49, 3), (42, .iload_n 2, 1)]
theorem zhdX12_topPair_0 : dzC ztdX12_topPair_0 0 (cX12_topPair.data.toList.drop 0) = true := by decide +kernel
theorem dX12_topPair_0 : decode cX12_topPair 0 = .ok (.iconst (-1), 1) := dzr zhdX12_topPair_0 0 rfl
theorem dX12_topPair_1 : decode cX12_topPair 1 = .ok (.istore_n 2, 1) := dzr zhdX12_topPair_0 1 rfl
theorem dX12_topPair_2 : decode cX12_topPair 2 = .ok (.iconst 0, 1) := dzr zhdX12_topPair_0 2 rfl
theorem dX12_topPair_3 : decode cX12_topPair 3 = .ok (.istore_n 3, 1) := dzr zhdX12_topPair_0 3 rfl
theorem dX12_topPair_4 : decode cX12_topPair 4 = .ok (.iconst 0, 1) := dzr zhdX12_topPair_0 4 rfl
theorem dX12_topPair_5 : decode cX12_topPair 5 = .ok (.istore 4, 2) := dzr zhdX12_topPair_0 5 rfl
theorem dX12_topPair_7 : decode cX12_topPair 7 = .ok (.iload 4, 2) := dzr zhdX12_topPair_0 6 rfl
theorem dX12_topPair_9 : decode cX12_topPair 9 = .ok (.aload_n 0, 1) := dzr zhdX12_topPair_0 7 rfl
theorem dX12_topPair_10 : decode cX12_topPair 10 = .ok (.getfield 252, 3) := dzr zhdX12_topPair_0 8 rfl
theorem dX12_topPair_13 : decode cX12_topPair 13 = .ok (.if_icmp .ge 87, 3) := dzr zhdX12_topPair_0 9 rfl
theorem dX12_topPair_16 : decode cX12_topPair 16 = .ok (.iload 4, 2) := dzr zhdX12_topPair_0 10 rfl
theorem dX12_topPair_18 : decode cX12_topPair 18 = .ok (.iconst 1, 1) := dzr zhdX12_topPair_0 11 rfl
theorem dX12_topPair_19 : decode cX12_topPair 19 = .ok (.iadd, 1) := dzr zhdX12_topPair_0 12 rfl
theorem dX12_topPair_20 : decode cX12_topPair 20 = .ok (.istore 5, 2) := dzr zhdX12_topPair_0 13 rfl
theorem dX12_topPair_22 : decode cX12_topPair 22 = .ok (.iload 5, 2) := dzr zhdX12_topPair_0 14 rfl
theorem dX12_topPair_24 : decode cX12_topPair 24 = .ok (.aload_n 0, 1) := dzr zhdX12_topPair_0 15 rfl
theorem dX12_topPair_25 : decode cX12_topPair 25 = .ok (.getfield 252, 3) := dzr zhdX12_topPair_0 16 rfl
theorem dX12_topPair_28 : decode cX12_topPair 28 = .ok (.if_icmp .ge 66, 3) := dzr zhdX12_topPair_0 17 rfl
theorem dX12_topPair_31 : decode cX12_topPair 31 = .ok (.aload_n 0, 1) := dzr zhdX12_topPair_0 18 rfl
theorem dX12_topPair_32 : decode cX12_topPair 32 = .ok (.iload 4, 2) := dzr zhdX12_topPair_0 19 rfl
theorem dX12_topPair_34 : decode cX12_topPair 34 = .ok (.iload 5, 2) := dzr zhdX12_topPair_0 20 rfl
theorem dX12_topPair_36 : decode cX12_topPair 36 = .ok (.invokevirtual 316, 3) := dzr zhdX12_topPair_0 21 rfl
theorem dX12_topPair_39 : decode cX12_topPair 39 = .ok (.ifCond .eq 49, 3) := dzr zhdX12_topPair_0 22 rfl
theorem dX12_topPair_42 : decode cX12_topPair 42 = .ok (.iload_n 2, 1) := dzr zhdX12_topPair_0 23 rfl
def ztdX12_topPair_43 : List (Nat × Instr × Nat) := [(43, .iconst (-1), 1), (44, .if_icmp .eq 21, 3), (47, .iload_n 1, 1), (48, .aload_n 0, 1), (49, .getfield 58, 3), (52, .iload 4, 2), (54, .iload 5, 2), (56, .invokestatic 294, 3), (59, .iaload, 1), (60, .imul, 1), (61, .iload_n 3, 1), (62, .if_icmp .le 26, 3), (65, .iload 4, 2), (67, .iload 5, 2), (69, .invokestatic 301, 3), (72, .istore_n 2, 1), (73, .iload_n 1, 1), (74, .aload_n 0, 1), (75, .getfield 58, 3), (78, .iload 4, 2), (80, .iload 5, 2), (82, .invokestatic 294, 3), (85, .iaload, 1), (86, .imul, 1)]
theorem zhdX12_topPair_43 : dzC ztdX12_topPair_43 43 (cX12_topPair.data.toList.drop 43) = true := by decide +kernel
theorem dX12_topPair_43 : decode cX12_topPair 43 = .ok (.iconst (-1), 1) := dzr zhdX12_topPair_43 0 rfl
theorem dX12_topPair_44 : decode cX12_topPair 44 = .ok (.if_icmp .eq 21, 3) := dzr zhdX12_topPair_43 1 rfl
theorem dX12_topPair_47 : decode cX12_topPair 47 = .ok (.iload_n 1, 1) := dzr zhdX12_topPair_43 2 rfl
theorem dX12_topPair_48 : decode cX12_topPair 48 = .ok (.aload_n 0, 1) := dzr zhdX12_topPair_43 3 rfl
theorem dX12_topPair_49 : decode cX12_topPair 49 = .ok (.getfield 58, 3) := dzr zhdX12_topPair_43 4 rfl
theorem dX12_topPair_52 : decode cX12_topPair 52 = .ok (.iload 4, 2) := dzr zhdX12_topPair_43 5 rfl
theorem dX12_topPair_54 : decode cX12_topPair 54 = .ok (.iload 5, 2) := dzr zhdX12_topPair_43 6 rfl
theorem dX12_topPair_56 : decode cX12_topPair 56 = .ok (.invokestatic 294, 3) := dzr zhdX12_topPair_43 7 rfl
theorem dX12_topPair_59 : decode cX12_topPair 59 = .ok (.iaload, 1) := dzr zhdX12_topPair_43 8 rfl
theorem dX12_topPair_60 : decode cX12_topPair 60 = .ok (.imul, 1) := dzr zhdX12_topPair_43 9 rfl
theorem dX12_topPair_61 : decode cX12_topPair 61 = .ok (.iload_n 3, 1) := dzr zhdX12_topPair_43 10 rfl
theorem dX12_topPair_62 : decode cX12_topPair 62 = .ok (.if_icmp .le 26, 3) := dzr zhdX12_topPair_43 11 rfl
theorem dX12_topPair_65 : decode cX12_topPair 65 = .ok (.iload 4, 2) := dzr zhdX12_topPair_43 12 rfl
theorem dX12_topPair_67 : decode cX12_topPair 67 = .ok (.iload 5, 2) := dzr zhdX12_topPair_43 13 rfl
theorem dX12_topPair_69 : decode cX12_topPair 69 = .ok (.invokestatic 301, 3) := dzr zhdX12_topPair_43 14 rfl
theorem dX12_topPair_72 : decode cX12_topPair 72 = .ok (.istore_n 2, 1) := dzr zhdX12_topPair_43 15 rfl
theorem dX12_topPair_73 : decode cX12_topPair 73 = .ok (.iload_n 1, 1) := dzr zhdX12_topPair_43 16 rfl
theorem dX12_topPair_74 : decode cX12_topPair 74 = .ok (.aload_n 0, 1) := dzr zhdX12_topPair_43 17 rfl
theorem dX12_topPair_75 : decode cX12_topPair 75 = .ok (.getfield 58, 3) := dzr zhdX12_topPair_43 18 rfl
theorem dX12_topPair_78 : decode cX12_topPair 78 = .ok (.iload 4, 2) := dzr zhdX12_topPair_43 19 rfl
theorem dX12_topPair_80 : decode cX12_topPair 80 = .ok (.iload 5, 2) := dzr zhdX12_topPair_43 20 rfl
theorem dX12_topPair_82 : decode cX12_topPair 82 = .ok (.invokestatic 294, 3) := dzr zhdX12_topPair_43 21 rfl
theorem dX12_topPair_85 : decode cX12_topPair 85 = .ok (.iaload, 1) := dzr zhdX12_topPair_43 22 rfl
theorem dX12_topPair_86 : decode cX12_topPair 86 = .ok (.imul, 1) := dzr zhdX12_topPair_43 23 rfl
def ztdX12_topPair_87 : List (Nat × Instr × Nat) := [(87, .istore_n 3, 1), (88, .iinc 5 1, 3), (91, .goto (-69), 3), (94, .iinc 4 1, 3), (97, .goto (-90), 3), (100, .iload_n 2, 1), (101, .ireturn, 1)]
theorem zhdX12_topPair_87 : dzC ztdX12_topPair_87 87 (cX12_topPair.data.toList.drop 87) = true := by decide +kernel
theorem dX12_topPair_87 : decode cX12_topPair 87 = .ok (.istore_n 3, 1) := dzr zhdX12_topPair_87 0 rfl
theorem dX12_topPair_88 : decode cX12_topPair 88 = .ok (.iinc 5 1, 3) := dzr zhdX12_topPair_87 1 rfl
theorem dX12_topPair_91 : decode cX12_topPair 91 = .ok (.goto (-69), 3) := dzr zhdX12_topPair_87 2 rfl
theorem dX12_topPair_94 : decode cX12_topPair 94 = .ok (.iinc 4 1, 3) := dzr zhdX12_topPair_87 3 rfl
theorem dX12_topPair_97 : decode cX12_topPair 97 = .ok (.goto (-90), 3) := dzr zhdX12_topPair_87 4 rfl
theorem dX12_topPair_100 : decode cX12_topPair 100 = .ok (.iload_n 2, 1) := dzr zhdX12_topPair_87 5 rfl
theorem dX12_topPair_101 : decode cX12_topPair 101 = .ok (.ireturn, 1) := dzr zhdX12_topPair_87 6 rfl
def ztdX12_topGlove_0 : List (Nat × Instr × Nat) := [(0, .iconst 0, 1), (1, .istore_n 2, 1), (2, .iconst 1, 1), (3, .istore_n 3, 1), (4, .iload_n 3, 1), (5, .aload_n 0, 1), (6, .getfield 252, 3), (9, .if_icmp .ge 34, 3), (12, .aload_n 0, 1), (13, .getfield 58, 3), (16, .iload_n 1, 1), (17, .iload_n 3, 1), (18, .iadd, 1), (19, .iaload, 1), (20, .aload_n 0, 1), (21, .getfield 58, 3), (24, .iload_n 1, 1), (25, .iload_n 2, 1), (26, .iadd, 1), (27, .iaload, 1), (28, .if_icmp .le 7, 3), (31, .iload_n 3, 1), (32, .goto 4, 3), (35, .iload_n 2, 1)]
theorem zhdX12_topGlove_0 : dzC ztdX12_topGlove_0 0 (cX12_topGlove.data.toList.drop 0) = true := by decide +kernel
theorem dX12_topGlove_0 : decode cX12_topGlove 0 = .ok (.iconst 0, 1) := dzr zhdX12_topGlove_0 0 rfl
theorem dX12_topGlove_1 : decode cX12_topGlove 1 = .ok (.istore_n 2, 1) := dzr zhdX12_topGlove_0 1 rfl
theorem dX12_topGlove_2 : decode cX12_topGlove 2 = .ok (.iconst 1, 1) := dzr zhdX12_topGlove_0 2 rfl
theorem dX12_topGlove_3 : decode cX12_topGlove 3 = .ok (.istore_n 3, 1) := dzr zhdX12_topGlove_0 3 rfl
theorem dX12_topGlove_4 : decode cX12_topGlove 4 = .ok (.iload_n 3, 1) := dzr zhdX12_topGlove_0 4 rfl
theorem dX12_topGlove_5 : decode cX12_topGlove 5 = .ok (.aload_n 0, 1) := dzr zhdX12_topGlove_0 5 rfl
theorem dX12_topGlove_6 : decode cX12_topGlove 6 = .ok (.getfield 252, 3) := dzr zhdX12_topGlove_0 6 rfl
theorem dX12_topGlove_9 : decode cX12_topGlove 9 = .ok (.if_icmp .ge 34, 3) := dzr zhdX12_topGlove_0 7 rfl
theorem dX12_topGlove_12 : decode cX12_topGlove 12 = .ok (.aload_n 0, 1) := dzr zhdX12_topGlove_0 8 rfl
theorem dX12_topGlove_13 : decode cX12_topGlove 13 = .ok (.getfield 58, 3) := dzr zhdX12_topGlove_0 9 rfl
theorem dX12_topGlove_16 : decode cX12_topGlove 16 = .ok (.iload_n 1, 1) := dzr zhdX12_topGlove_0 10 rfl
theorem dX12_topGlove_17 : decode cX12_topGlove 17 = .ok (.iload_n 3, 1) := dzr zhdX12_topGlove_0 11 rfl
theorem dX12_topGlove_18 : decode cX12_topGlove 18 = .ok (.iadd, 1) := dzr zhdX12_topGlove_0 12 rfl
theorem dX12_topGlove_19 : decode cX12_topGlove 19 = .ok (.iaload, 1) := dzr zhdX12_topGlove_0 13 rfl
theorem dX12_topGlove_20 : decode cX12_topGlove 20 = .ok (.aload_n 0, 1) := dzr zhdX12_topGlove_0 14 rfl
theorem dX12_topGlove_21 : decode cX12_topGlove 21 = .ok (.getfield 58, 3) := dzr zhdX12_topGlove_0 15 rfl
theorem dX12_topGlove_24 : decode cX12_topGlove 24 = .ok (.iload_n 1, 1) := dzr zhdX12_topGlove_0 16 rfl
theorem dX12_topGlove_25 : decode cX12_topGlove 25 = .ok (.iload_n 2, 1) := dzr zhdX12_topGlove_0 17 rfl
theorem dX12_topGlove_26 : decode cX12_topGlove 26 = .ok (.iadd, 1) := dzr zhdX12_topGlove_0 18 rfl
theorem dX12_topGlove_27 : decode cX12_topGlove 27 = .ok (.iaload, 1) := dzr zhdX12_topGlove_0 19 rfl
theorem dX12_topGlove_28 : decode cX12_topGlove 28 = .ok (.if_icmp .le 7, 3) := dzr zhdX12_topGlove_0 20 rfl
theorem dX12_topGlove_31 : decode cX12_topGlove 31 = .ok (.iload_n 3, 1) := dzr zhdX12_topGlove_0 21 rfl
theorem dX12_topGlove_32 : decode cX12_topGlove 32 = .ok (.goto 4, 3) := dzr zhdX12_topGlove_0 22 rfl
theorem dX12_topGlove_35 : decode cX12_topGlove 35 = .ok (.iload_n 2, 1) := dzr zhdX12_topGlove_0 23 rfl
def ztdX12_topGlove_36 : List (Nat × Instr × Nat) := [(36, .istore_n 2, 1), (37, .iinc 3 1, 3), (40, .goto (-36), 3), (43, .iload_n 2, 1), (44, .ireturn, 1)]
theorem zhdX12_topGlove_36 : dzC ztdX12_topGlove_36 36 (cX12_topGlove.data.toList.drop 36) = true := by decide +kernel
theorem dX12_topGlove_36 : decode cX12_topGlove 36 = .ok (.istore_n 2, 1) := dzr zhdX12_topGlove_36 0 rfl
theorem dX12_topGlove_37 : decode cX12_topGlove 37 = .ok (.iinc 3 1, 3) := dzr zhdX12_topGlove_36 1 rfl
theorem dX12_topGlove_40 : decode cX12_topGlove 40 = .ok (.goto (-36), 3) := dzr zhdX12_topGlove_36 2 rfl
theorem dX12_topGlove_43 : decode cX12_topGlove 43 = .ok (.iload_n 2, 1) := dzr zhdX12_topGlove_36 3 rfl
theorem dX12_topGlove_44 : decode cX12_topGlove 44 = .ok (.ireturn, 1) := dzr zhdX12_topGlove_36 4 rfl
def ztdX12_heaviest_0 : List (Nat × Instr × Nat) := [(0, .aload_n 0, 1), (1, .getfield 255, 3), (4, .ifCond .ne 7, 3), (7, .iconst (-1), 1), (8, .goto 4, 3), (11, .iconst 0, 1), (12, .istore_n 1, 1), (13, .iconst 1, 1), (14, .istore_n 2, 1), (15, .iload_n 2, 1), (16, .aload_n 0, 1), (17, .getfield 255, 3), (20, .if_icmp .ge 38, 3), (23, .aload_n 0, 1), (24, .getfield 55, 3), (27, .iconst 2, 1), (28, .iload_n 2, 1), (29, .imul, 1), (30, .iconst 0, 1), (31, .iadd, 1), (32, .iaload, 1), (33, .aload_n 0, 1), (34, .getfield 55, 3), (37, .iconst 2, 1)]
theorem zhdX12_heaviest_0 : dzC ztdX12_heaviest_0 0 (cX12_heaviest.data.toList.drop 0) = true := by decide +kernel
theorem dX12_heaviest_0 : decode cX12_heaviest 0 = .ok (.aload_n 0, 1) := dzr zhdX12_heaviest_0 0 rfl
theorem dX12_heaviest_1 : decode cX12_heaviest 1 = .ok (.getfield 255, 3) := dzr zhdX12_heaviest_0 1 rfl
theorem dX12_heaviest_4 : decode cX12_heaviest 4 = .ok (.ifCond .ne 7, 3) := dzr zhdX12_heaviest_0 2 rfl
theorem dX12_heaviest_7 : decode cX12_heaviest 7 = .ok (.iconst (-1), 1) := dzr zhdX12_heaviest_0 3 rfl
theorem dX12_heaviest_8 : decode cX12_heaviest 8 = .ok (.goto 4, 3) := dzr zhdX12_heaviest_0 4 rfl
theorem dX12_heaviest_11 : decode cX12_heaviest 11 = .ok (.iconst 0, 1) := dzr zhdX12_heaviest_0 5 rfl
theorem dX12_heaviest_12 : decode cX12_heaviest 12 = .ok (.istore_n 1, 1) := dzr zhdX12_heaviest_0 6 rfl
theorem dX12_heaviest_13 : decode cX12_heaviest 13 = .ok (.iconst 1, 1) := dzr zhdX12_heaviest_0 7 rfl
theorem dX12_heaviest_14 : decode cX12_heaviest 14 = .ok (.istore_n 2, 1) := dzr zhdX12_heaviest_0 8 rfl
theorem dX12_heaviest_15 : decode cX12_heaviest 15 = .ok (.iload_n 2, 1) := dzr zhdX12_heaviest_0 9 rfl
theorem dX12_heaviest_16 : decode cX12_heaviest 16 = .ok (.aload_n 0, 1) := dzr zhdX12_heaviest_0 10 rfl
theorem dX12_heaviest_17 : decode cX12_heaviest 17 = .ok (.getfield 255, 3) := dzr zhdX12_heaviest_0 11 rfl
theorem dX12_heaviest_20 : decode cX12_heaviest 20 = .ok (.if_icmp .ge 38, 3) := dzr zhdX12_heaviest_0 12 rfl
theorem dX12_heaviest_23 : decode cX12_heaviest 23 = .ok (.aload_n 0, 1) := dzr zhdX12_heaviest_0 13 rfl
theorem dX12_heaviest_24 : decode cX12_heaviest 24 = .ok (.getfield 55, 3) := dzr zhdX12_heaviest_0 14 rfl
theorem dX12_heaviest_27 : decode cX12_heaviest 27 = .ok (.iconst 2, 1) := dzr zhdX12_heaviest_0 15 rfl
theorem dX12_heaviest_28 : decode cX12_heaviest 28 = .ok (.iload_n 2, 1) := dzr zhdX12_heaviest_0 16 rfl
theorem dX12_heaviest_29 : decode cX12_heaviest 29 = .ok (.imul, 1) := dzr zhdX12_heaviest_0 17 rfl
theorem dX12_heaviest_30 : decode cX12_heaviest 30 = .ok (.iconst 0, 1) := dzr zhdX12_heaviest_0 18 rfl
theorem dX12_heaviest_31 : decode cX12_heaviest 31 = .ok (.iadd, 1) := dzr zhdX12_heaviest_0 19 rfl
theorem dX12_heaviest_32 : decode cX12_heaviest 32 = .ok (.iaload, 1) := dzr zhdX12_heaviest_0 20 rfl
theorem dX12_heaviest_33 : decode cX12_heaviest 33 = .ok (.aload_n 0, 1) := dzr zhdX12_heaviest_0 21 rfl
theorem dX12_heaviest_34 : decode cX12_heaviest 34 = .ok (.getfield 55, 3) := dzr zhdX12_heaviest_0 22 rfl
theorem dX12_heaviest_37 : decode cX12_heaviest 37 = .ok (.iconst 2, 1) := dzr zhdX12_heaviest_0 23 rfl
def ztdX12_heaviest_38 : List (Nat × Instr × Nat) := [(38, .iload_n 1, 1), (39, .imul, 1), (40, .iconst 0, 1), (41, .iadd, 1), (42, .iaload, 1), (43, .if_icmp .le 7, 3), (46, .iload_n 2, 1), (47, .goto 4, 3), (50, .iload_n 1, 1), (51, .istore_n 1, 1), (52, .iinc 2 1, 3), (55, .goto (-40), 3), (58, .iload_n 1, 1), (59, .ireturn, 1)]
theorem zhdX12_heaviest_38 : dzC ztdX12_heaviest_38 38 (cX12_heaviest.data.toList.drop 38) = true := by decide +kernel
theorem dX12_heaviest_38 : decode cX12_heaviest 38 = .ok (.iload_n 1, 1) := dzr zhdX12_heaviest_38 0 rfl
theorem dX12_heaviest_39 : decode cX12_heaviest 39 = .ok (.imul, 1) := dzr zhdX12_heaviest_38 1 rfl
theorem dX12_heaviest_40 : decode cX12_heaviest 40 = .ok (.iconst 0, 1) := dzr zhdX12_heaviest_38 2 rfl
theorem dX12_heaviest_41 : decode cX12_heaviest 41 = .ok (.iadd, 1) := dzr zhdX12_heaviest_38 3 rfl
theorem dX12_heaviest_42 : decode cX12_heaviest 42 = .ok (.iaload, 1) := dzr zhdX12_heaviest_38 4 rfl
theorem dX12_heaviest_43 : decode cX12_heaviest 43 = .ok (.if_icmp .le 7, 3) := dzr zhdX12_heaviest_38 5 rfl
theorem dX12_heaviest_46 : decode cX12_heaviest 46 = .ok (.iload_n 2, 1) := dzr zhdX12_heaviest_38 6 rfl
theorem dX12_heaviest_47 : decode cX12_heaviest 47 = .ok (.goto 4, 3) := dzr zhdX12_heaviest_38 7 rfl
theorem dX12_heaviest_50 : decode cX12_heaviest 50 = .ok (.iload_n 1, 1) := dzr zhdX12_heaviest_38 8 rfl
theorem dX12_heaviest_51 : decode cX12_heaviest 51 = .ok (.istore_n 1, 1) := dzr zhdX12_heaviest_38 9 rfl
theorem dX12_heaviest_52 : decode cX12_heaviest 52 = .ok (.iinc 2 1, 3) := dzr zhdX12_heaviest_38 10 rfl
theorem dX12_heaviest_55 : decode cX12_heaviest 55 = .ok (.goto (-40), 3) := dzr zhdX12_heaviest_38 11 rfl
theorem dX12_heaviest_58 : decode cX12_heaviest 58 = .ok (.iload_n 1, 1) := dzr zhdX12_heaviest_38 12 rfl
theorem dX12_heaviest_59 : decode cX12_heaviest 59 = .ok (.ireturn, 1) := dzr zhdX12_heaviest_38 13 rfl
def ztdX12_bound_0 : List (Nat × Instr × Nat) := [(0, .iconst 0, 1), (1, .istore_n 1, 1), (2, .iconst 0, 1), (3, .istore_n 2, 1), (4, .iload_n 2, 1), (5, .aload_n 0, 1), (6, .getfield 255, 3), (9, .if_icmp .ge 39, 3), (12, .iload_n 1, 1), (13, .aload_n 0, 1), (14, .getfield 58, 3), (17, .bipush 60, 2), (19, .iload_n 2, 1), (20, .iadd, 1), (21, .iaload, 1), (22, .iconst (-1), 1), (23, .if_icmp .ne 7, 3), (26, .iconst 0, 1), (27, .goto 13, 3), (30, .aload_n 0, 1), (31, .getfield 55, 3), (34, .iconst 2, 1), (35, .iload_n 2, 1), (36, .imul, 1)]
theorem zhdX12_bound_0 : dzC ztdX12_bound_0 0 (cX12_bound.data.toList.drop 0) = true := by decide +kernel
theorem dX12_bound_0 : decode cX12_bound 0 = .ok (.iconst 0, 1) := dzr zhdX12_bound_0 0 rfl
theorem dX12_bound_1 : decode cX12_bound 1 = .ok (.istore_n 1, 1) := dzr zhdX12_bound_0 1 rfl
theorem dX12_bound_2 : decode cX12_bound 2 = .ok (.iconst 0, 1) := dzr zhdX12_bound_0 2 rfl
theorem dX12_bound_3 : decode cX12_bound 3 = .ok (.istore_n 2, 1) := dzr zhdX12_bound_0 3 rfl
theorem dX12_bound_4 : decode cX12_bound 4 = .ok (.iload_n 2, 1) := dzr zhdX12_bound_0 4 rfl
theorem dX12_bound_5 : decode cX12_bound 5 = .ok (.aload_n 0, 1) := dzr zhdX12_bound_0 5 rfl
theorem dX12_bound_6 : decode cX12_bound 6 = .ok (.getfield 255, 3) := dzr zhdX12_bound_0 6 rfl
theorem dX12_bound_9 : decode cX12_bound 9 = .ok (.if_icmp .ge 39, 3) := dzr zhdX12_bound_0 7 rfl
theorem dX12_bound_12 : decode cX12_bound 12 = .ok (.iload_n 1, 1) := dzr zhdX12_bound_0 8 rfl
theorem dX12_bound_13 : decode cX12_bound 13 = .ok (.aload_n 0, 1) := dzr zhdX12_bound_0 9 rfl
theorem dX12_bound_14 : decode cX12_bound 14 = .ok (.getfield 58, 3) := dzr zhdX12_bound_0 10 rfl
theorem dX12_bound_17 : decode cX12_bound 17 = .ok (.bipush 60, 2) := dzr zhdX12_bound_0 11 rfl
theorem dX12_bound_19 : decode cX12_bound 19 = .ok (.iload_n 2, 1) := dzr zhdX12_bound_0 12 rfl
theorem dX12_bound_20 : decode cX12_bound 20 = .ok (.iadd, 1) := dzr zhdX12_bound_0 13 rfl
theorem dX12_bound_21 : decode cX12_bound 21 = .ok (.iaload, 1) := dzr zhdX12_bound_0 14 rfl
theorem dX12_bound_22 : decode cX12_bound 22 = .ok (.iconst (-1), 1) := dzr zhdX12_bound_0 15 rfl
theorem dX12_bound_23 : decode cX12_bound 23 = .ok (.if_icmp .ne 7, 3) := dzr zhdX12_bound_0 16 rfl
theorem dX12_bound_26 : decode cX12_bound 26 = .ok (.iconst 0, 1) := dzr zhdX12_bound_0 17 rfl
theorem dX12_bound_27 : decode cX12_bound 27 = .ok (.goto 13, 3) := dzr zhdX12_bound_0 18 rfl
theorem dX12_bound_30 : decode cX12_bound 30 = .ok (.aload_n 0, 1) := dzr zhdX12_bound_0 19 rfl
theorem dX12_bound_31 : decode cX12_bound 31 = .ok (.getfield 55, 3) := dzr zhdX12_bound_0 20 rfl
theorem dX12_bound_34 : decode cX12_bound 34 = .ok (.iconst 2, 1) := dzr zhdX12_bound_0 21 rfl
theorem dX12_bound_35 : decode cX12_bound 35 = .ok (.iload_n 2, 1) := dzr zhdX12_bound_0 22 rfl
theorem dX12_bound_36 : decode cX12_bound 36 = .ok (.imul, 1) := dzr zhdX12_bound_0 23 rfl
def ztdX12_bound_37 : List (Nat × Instr × Nat) := [(37, .iconst 0, 1), (38, .iadd, 1), (39, .iaload, 1), (40, .iadd, 1), (41, .istore_n 1, 1), (42, .iinc 2 1, 3), (45, .goto (-41), 3), (48, .iload_n 1, 1), (49, .ireturn, 1)]
theorem zhdX12_bound_37 : dzC ztdX12_bound_37 37 (cX12_bound.data.toList.drop 37) = true := by decide +kernel
theorem dX12_bound_37 : decode cX12_bound 37 = .ok (.iconst 0, 1) := dzr zhdX12_bound_37 0 rfl
theorem dX12_bound_38 : decode cX12_bound 38 = .ok (.iadd, 1) := dzr zhdX12_bound_37 1 rfl
theorem dX12_bound_39 : decode cX12_bound 39 = .ok (.iaload, 1) := dzr zhdX12_bound_37 2 rfl
theorem dX12_bound_40 : decode cX12_bound 40 = .ok (.iadd, 1) := dzr zhdX12_bound_37 3 rfl
theorem dX12_bound_41 : decode cX12_bound 41 = .ok (.istore_n 1, 1) := dzr zhdX12_bound_37 4 rfl
theorem dX12_bound_42 : decode cX12_bound 42 = .ok (.iinc 2 1, 3) := dzr zhdX12_bound_37 5 rfl
theorem dX12_bound_45 : decode cX12_bound 45 = .ok (.goto (-41), 3) := dzr zhdX12_bound_37 6 rfl
theorem dX12_bound_48 : decode cX12_bound 48 = .ok (.iload_n 1, 1) := dzr zhdX12_bound_37 7 rfl
theorem dX12_bound_49 : decode cX12_bound 49 = .ok (.ireturn, 1) := dzr zhdX12_bound_37 8 rfl
def ztdX12_due_0 : List (Nat × Instr × Nat) := [(0, .iconst 0, 1), (1, .istore_n 1, 1), (2, .iconst 0, 1), (3, .istore_n 2, 1), (4, .iload_n 2, 1), (5, .bipush 36, 2), (7, .if_icmp .ge 22, 3), (10, .iload_n 1, 1), (11, .aload_n 0, 1), (12, .getfield 58, 3), (15, .iconst 0, 1), (16, .iload_n 2, 1), (17, .iadd, 1), (18, .iaload, 1), (19, .invokestatic 282, 3), (22, .istore_n 1, 1), (23, .iinc 2 1, 3), (26, .goto (-22), 3), (29, .iconst 0, 1), (30, .istore_n 2, 1), (31, .iconst 0, 1), (32, .istore_n 3, 1), (33, .iload_n 3, 1), (34, .aload_n 0, 1)]
theorem zhdX12_due_0 : dzC ztdX12_due_0 0 (cX12_due.data.toList.drop 0) = true := by decide +kernel
theorem dX12_due_0 : decode cX12_due 0 = .ok (.iconst 0, 1) := dzr zhdX12_due_0 0 rfl
theorem dX12_due_1 : decode cX12_due 1 = .ok (.istore_n 1, 1) := dzr zhdX12_due_0 1 rfl
theorem dX12_due_2 : decode cX12_due 2 = .ok (.iconst 0, 1) := dzr zhdX12_due_0 2 rfl
theorem dX12_due_3 : decode cX12_due 3 = .ok (.istore_n 2, 1) := dzr zhdX12_due_0 3 rfl
theorem dX12_due_4 : decode cX12_due 4 = .ok (.iload_n 2, 1) := dzr zhdX12_due_0 4 rfl
theorem dX12_due_5 : decode cX12_due 5 = .ok (.bipush 36, 2) := dzr zhdX12_due_0 5 rfl
theorem dX12_due_7 : decode cX12_due 7 = .ok (.if_icmp .ge 22, 3) := dzr zhdX12_due_0 6 rfl
theorem dX12_due_10 : decode cX12_due 10 = .ok (.iload_n 1, 1) := dzr zhdX12_due_0 7 rfl
theorem dX12_due_11 : decode cX12_due 11 = .ok (.aload_n 0, 1) := dzr zhdX12_due_0 8 rfl
theorem dX12_due_12 : decode cX12_due 12 = .ok (.getfield 58, 3) := dzr zhdX12_due_0 9 rfl
theorem dX12_due_15 : decode cX12_due 15 = .ok (.iconst 0, 1) := dzr zhdX12_due_0 10 rfl
theorem dX12_due_16 : decode cX12_due 16 = .ok (.iload_n 2, 1) := dzr zhdX12_due_0 11 rfl
theorem dX12_due_17 : decode cX12_due 17 = .ok (.iadd, 1) := dzr zhdX12_due_0 12 rfl
theorem dX12_due_18 : decode cX12_due 18 = .ok (.iaload, 1) := dzr zhdX12_due_0 13 rfl
theorem dX12_due_19 : decode cX12_due 19 = .ok (.invokestatic 282, 3) := dzr zhdX12_due_0 14 rfl
theorem dX12_due_22 : decode cX12_due 22 = .ok (.istore_n 1, 1) := dzr zhdX12_due_0 15 rfl
theorem dX12_due_23 : decode cX12_due 23 = .ok (.iinc 2 1, 3) := dzr zhdX12_due_0 16 rfl
theorem dX12_due_26 : decode cX12_due 26 = .ok (.goto (-22), 3) := dzr zhdX12_due_0 17 rfl
theorem dX12_due_29 : decode cX12_due 29 = .ok (.iconst 0, 1) := dzr zhdX12_due_0 18 rfl
theorem dX12_due_30 : decode cX12_due 30 = .ok (.istore_n 2, 1) := dzr zhdX12_due_0 19 rfl
theorem dX12_due_31 : decode cX12_due 31 = .ok (.iconst 0, 1) := dzr zhdX12_due_0 20 rfl
theorem dX12_due_32 : decode cX12_due 32 = .ok (.istore_n 3, 1) := dzr zhdX12_due_0 21 rfl
theorem dX12_due_33 : decode cX12_due 33 = .ok (.iload_n 3, 1) := dzr zhdX12_due_0 22 rfl
theorem dX12_due_34 : decode cX12_due 34 = .ok (.aload_n 0, 1) := dzr zhdX12_due_0 23 rfl
def ztdX12_due_35 : List (Nat × Instr × Nat) := [(35, .getfield 255, 3), (38, .if_icmp .ge 46, 3), (41, .iload_n 2, 1), (42, .aload_n 0, 1), (43, .getfield 58, 3), (46, .bipush 60, 2), (48, .iload_n 3, 1), (49, .iadd, 1), (50, .iaload, 1), (51, .iconst (-1), 1), (52, .if_icmp .ne 23, 3), (55, .aload_n 0, 1), (56, .getfield 55, 3), (59, .iconst 2, 1), (60, .iload_n 3, 1), (61, .imul, 1), (62, .iconst 1, 1), (63, .iadd, 1), (64, .iaload, 1), (65, .iload_n 1, 1), (66, .if_icmp .gt 9, 3), (69, .iconst 1, 1), (70, .iload_n 3, 1), (71, .ishl, 1)]
theorem zhdX12_due_35 : dzC ztdX12_due_35 35 (cX12_due.data.toList.drop 35) = true := by decide +kernel
theorem dX12_due_35 : decode cX12_due 35 = .ok (.getfield 255, 3) := dzr zhdX12_due_35 0 rfl
theorem dX12_due_38 : decode cX12_due 38 = .ok (.if_icmp .ge 46, 3) := dzr zhdX12_due_35 1 rfl
theorem dX12_due_41 : decode cX12_due 41 = .ok (.iload_n 2, 1) := dzr zhdX12_due_35 2 rfl
theorem dX12_due_42 : decode cX12_due 42 = .ok (.aload_n 0, 1) := dzr zhdX12_due_35 3 rfl
theorem dX12_due_43 : decode cX12_due 43 = .ok (.getfield 58, 3) := dzr zhdX12_due_35 4 rfl
theorem dX12_due_46 : decode cX12_due 46 = .ok (.bipush 60, 2) := dzr zhdX12_due_35 5 rfl
theorem dX12_due_48 : decode cX12_due 48 = .ok (.iload_n 3, 1) := dzr zhdX12_due_35 6 rfl
theorem dX12_due_49 : decode cX12_due 49 = .ok (.iadd, 1) := dzr zhdX12_due_35 7 rfl
theorem dX12_due_50 : decode cX12_due 50 = .ok (.iaload, 1) := dzr zhdX12_due_35 8 rfl
theorem dX12_due_51 : decode cX12_due 51 = .ok (.iconst (-1), 1) := dzr zhdX12_due_35 9 rfl
theorem dX12_due_52 : decode cX12_due 52 = .ok (.if_icmp .ne 23, 3) := dzr zhdX12_due_35 10 rfl
theorem dX12_due_55 : decode cX12_due 55 = .ok (.aload_n 0, 1) := dzr zhdX12_due_35 11 rfl
theorem dX12_due_56 : decode cX12_due 56 = .ok (.getfield 55, 3) := dzr zhdX12_due_35 12 rfl
theorem dX12_due_59 : decode cX12_due 59 = .ok (.iconst 2, 1) := dzr zhdX12_due_35 13 rfl
theorem dX12_due_60 : decode cX12_due 60 = .ok (.iload_n 3, 1) := dzr zhdX12_due_35 14 rfl
theorem dX12_due_61 : decode cX12_due 61 = .ok (.imul, 1) := dzr zhdX12_due_35 15 rfl
theorem dX12_due_62 : decode cX12_due 62 = .ok (.iconst 1, 1) := dzr zhdX12_due_35 16 rfl
theorem dX12_due_63 : decode cX12_due 63 = .ok (.iadd, 1) := dzr zhdX12_due_35 17 rfl
theorem dX12_due_64 : decode cX12_due 64 = .ok (.iaload, 1) := dzr zhdX12_due_35 18 rfl
theorem dX12_due_65 : decode cX12_due 65 = .ok (.iload_n 1, 1) := dzr zhdX12_due_35 19 rfl
theorem dX12_due_66 : decode cX12_due 66 = .ok (.if_icmp .gt 9, 3) := dzr zhdX12_due_35 20 rfl
theorem dX12_due_69 : decode cX12_due 69 = .ok (.iconst 1, 1) := dzr zhdX12_due_35 21 rfl
theorem dX12_due_70 : decode cX12_due 70 = .ok (.iload_n 3, 1) := dzr zhdX12_due_35 22 rfl
theorem dX12_due_71 : decode cX12_due 71 = .ok (.ishl, 1) := dzr zhdX12_due_35 23 rfl
def ztdX12_due_72 : List (Nat × Instr × Nat) := [(72, .goto 4, 3), (75, .iconst 0, 1), (76, .ior, 1), (77, .istore_n 2, 1), (78, .iinc 3 1, 3), (81, .goto (-48), 3), (84, .iload_n 2, 1), (85, .ireturn, 1)]
theorem zhdX12_due_72 : dzC ztdX12_due_72 72 (cX12_due.data.toList.drop 72) = true := by decide +kernel
theorem dX12_due_72 : decode cX12_due 72 = .ok (.goto 4, 3) := dzr zhdX12_due_72 0 rfl
theorem dX12_due_75 : decode cX12_due 75 = .ok (.iconst 0, 1) := dzr zhdX12_due_72 1 rfl
theorem dX12_due_76 : decode cX12_due 76 = .ok (.ior, 1) := dzr zhdX12_due_72 2 rfl
theorem dX12_due_77 : decode cX12_due 77 = .ok (.istore_n 2, 1) := dzr zhdX12_due_72 3 rfl
theorem dX12_due_78 : decode cX12_due 78 = .ok (.iinc 3 1, 3) := dzr zhdX12_due_72 4 rfl
theorem dX12_due_81 : decode cX12_due 81 = .ok (.goto (-48), 3) := dzr zhdX12_due_72 5 rfl
theorem dX12_due_84 : decode cX12_due 84 = .ok (.iload_n 2, 1) := dzr zhdX12_due_72 6 rfl
theorem dX12_due_85 : decode cX12_due 85 = .ok (.ireturn, 1) := dzr zhdX12_due_72 7 rfl
theorem ggX12_most_X12_metSet : GoodIn wsX12_most wsX12_metSet := (bg_up (bg_law (bi_wsL_law0_r57 _ (List.mem_of_getElem? (i := 6) rfl))))
theorem gX12_most_X12_metSet : GoodIn wsX12_most (wsV RX12 426 RX12 yX12_metSet wsX12_metSet) := goodIn_app (bg_up (bg_cons (bi_wsL_law0_r57 _ (List.mem_of_getElem? (i := 3) rfl)) (bg_cons (bi_wsL_law0_r57 _ (List.mem_of_getElem? (i := 4) rfl)) (bg_cons (bi_wsL_law0_r57 _ (List.mem_of_getElem? (i := 5) rfl)) (bg_cons (bi_wsL_law0_r1 _ (List.mem_of_getElem? (i := 5) rfl)) bg_nil))))) (bg_up (bg_law (bi_wsL_law0_r57 _ (List.mem_of_getElem? (i := 6) rfl))))
theorem ggX12_most_X12_signedSet : GoodIn wsX12_most wsX12_signedSet := (bg_up (bg_law (bi_wsL_law0_r57 _ (List.mem_of_getElem? (i := 10) rfl))))
theorem gX12_most_X12_signedSet : GoodIn wsX12_most (wsV RX12 429 RX12 yX12_signedSet wsX12_signedSet) := goodIn_app (bg_up (bg_cons (bi_wsL_law0_r57 _ (List.mem_of_getElem? (i := 7) rfl)) (bg_cons (bi_wsL_law0_r57 _ (List.mem_of_getElem? (i := 8) rfl)) (bg_cons (bi_wsL_law0_r57 _ (List.mem_of_getElem? (i := 9) rfl)) (bg_cons (bi_wsL_law0_r1 _ (List.mem_of_getElem? (i := 5) rfl)) bg_nil))))) (bg_up (bg_law (bi_wsL_law0_r57 _ (List.mem_of_getElem? (i := 10) rfl))))
theorem ggX12_most_X12_topPair : GoodIn wsX12_most wsX12_topPair := (bg_up (bg_law (bi_wsL_law0_r57 _ (List.mem_of_getElem? (i := 14) rfl))))
theorem gX12_most_X12_topPair : GoodIn wsX12_most (wsV RX12 432 RX12 yX12_topPair wsX12_topPair) := goodIn_app (bg_up (bg_cons (bi_wsL_law0_r57 _ (List.mem_of_getElem? (i := 11) rfl)) (bg_cons (bi_wsL_law0_r57 _ (List.mem_of_getElem? (i := 12) rfl)) (bg_cons (bi_wsL_law0_r57 _ (List.mem_of_getElem? (i := 13) rfl)) (bg_cons (bi_wsL_law0_r1 _ (List.mem_of_getElem? (i := 5) rfl)) bg_nil))))) (bg_up (bg_law (bi_wsL_law0_r57 _ (List.mem_of_getElem? (i := 14) rfl))))
theorem ggX12_most_X12_topGlove : GoodIn wsX12_most wsX12_topGlove := (bg_up (bg_law (bi_wsL_law0_r57 _ (List.mem_of_getElem? (i := 18) rfl))))
theorem gX12_most_X12_topGlove : GoodIn wsX12_most (wsV RX12 435 RX12 yX12_topGlove wsX12_topGlove) := goodIn_app (bg_up (bg_cons (bi_wsL_law0_r57 _ (List.mem_of_getElem? (i := 15) rfl)) (bg_cons (bi_wsL_law0_r57 _ (List.mem_of_getElem? (i := 16) rfl)) (bg_cons (bi_wsL_law0_r57 _ (List.mem_of_getElem? (i := 17) rfl)) (bg_cons (bi_wsL_law0_r1 _ (List.mem_of_getElem? (i := 5) rfl)) bg_nil))))) (bg_up (bg_law (bi_wsL_law0_r57 _ (List.mem_of_getElem? (i := 18) rfl))))
theorem ggX12_most_X12_heaviest : GoodIn wsX12_most wsX12_heaviest := (bg_up (bg_law (bi_wsL_law0_r57 _ (List.mem_of_getElem? (i := 22) rfl))))
theorem gX12_most_X12_heaviest : GoodIn wsX12_most (wsV RX12 438 RX12 yX12_heaviest wsX12_heaviest) := goodIn_app (bg_up (bg_cons (bi_wsL_law0_r57 _ (List.mem_of_getElem? (i := 19) rfl)) (bg_cons (bi_wsL_law0_r57 _ (List.mem_of_getElem? (i := 20) rfl)) (bg_cons (bi_wsL_law0_r57 _ (List.mem_of_getElem? (i := 21) rfl)) (bg_cons (bi_wsL_law0_r1 _ (List.mem_of_getElem? (i := 5) rfl)) bg_nil))))) (bg_up (bg_law (bi_wsL_law0_r57 _ (List.mem_of_getElem? (i := 22) rfl))))
theorem ggX12_most_X12_bound : GoodIn wsX12_most wsX12_bound := (bg_up (bg_law (bi_wsL_law0_r58 _ (List.mem_of_getElem? (i := 2) rfl))))
theorem gX12_most_X12_bound : GoodIn wsX12_most (wsV RX12 441 RX12 yX12_bound wsX12_bound) := goodIn_app (bg_up (bg_cons (bi_wsL_law0_r57 _ (List.mem_of_getElem? (i := 23) rfl)) (bg_cons (bi_wsL_law0_r58 _ (List.mem_of_getElem? (i := 0) rfl)) (bg_cons (bi_wsL_law0_r58 _ (List.mem_of_getElem? (i := 1) rfl)) (bg_cons (bi_wsL_law0_r1 _ (List.mem_of_getElem? (i := 5) rfl)) bg_nil))))) (bg_up (bg_law (bi_wsL_law0_r58 _ (List.mem_of_getElem? (i := 2) rfl))))
theorem ggX12_most_X12_due : GoodIn wsX12_most wsX12_due := (bg_up (bg_law (bi_wsL_law0_r58 _ (List.mem_of_getElem? (i := 6) rfl))))
theorem gX12_most_X12_due : GoodIn wsX12_most (wsV RX12 444 RX12 yX12_due wsX12_due) := goodIn_app (bg_up (bg_cons (bi_wsL_law0_r58 _ (List.mem_of_getElem? (i := 3) rfl)) (bg_cons (bi_wsL_law0_r58 _ (List.mem_of_getElem? (i := 4) rfl)) (bg_cons (bi_wsL_law0_r58 _ (List.mem_of_getElem? (i := 5) rfl)) (bg_cons (bi_wsL_law0_r1 _ (List.mem_of_getElem? (i := 5) rfl)) bg_nil))))) (bg_up (bg_law (bi_wsL_law0_r58 _ (List.mem_of_getElem? (i := 6) rfl))))
theorem dX12_most_10 : decode cX12_most 10 = .ok (.tableswitch 101 0 8 #[50, 55, 60, 66, 72, 79, 86, 91, 96], 50) := by decide +kernel
def ztdX12_most_0 : List (Nat × Instr × Nat) := [(0, .aload_n 0, 1), (1, .getfield 252, 3), (4, .ifCond .ne 5, 3), (7, .iconst (-1), 1), (8, .ireturn, 1), (9, .iload_n 1, 1), (60, .aload_n 0, 1), (61, .invokevirtual 426, 3), (64, .ireturn, 1), (65, .aload_n 0, 1), (66, .invokevirtual 429, 3), (69, .ireturn, 1), (70, .aload_n 0, 1), (71, .iconst 1, 1), (72, .invokevirtual 432, 3), (75, .ireturn, 1), (76, .aload_n 0, 1), (77, .iconst (-1), 1), (78, .invokevirtual 432, 3), (81, .ireturn, 1), (82, .aload_n 0, 1), (83, .bipush 36, 2), (85, .invokevirtual 435, 3), (88, .ireturn, 1)]
theorem zhdX12_most_0 : dzC ztdX12_most_0 0 (cX12_most.data.toList.drop 0) = true := by decide +kernel
theorem dX12_most_0 : decode cX12_most 0 = .ok (.aload_n 0, 1) := dzr zhdX12_most_0 0 rfl
theorem dX12_most_1 : decode cX12_most 1 = .ok (.getfield 252, 3) := dzr zhdX12_most_0 1 rfl
theorem dX12_most_4 : decode cX12_most 4 = .ok (.ifCond .ne 5, 3) := dzr zhdX12_most_0 2 rfl
theorem dX12_most_7 : decode cX12_most 7 = .ok (.iconst (-1), 1) := dzr zhdX12_most_0 3 rfl
theorem dX12_most_8 : decode cX12_most 8 = .ok (.ireturn, 1) := dzr zhdX12_most_0 4 rfl
theorem dX12_most_9 : decode cX12_most 9 = .ok (.iload_n 1, 1) := dzr zhdX12_most_0 5 rfl
theorem dX12_most_60 : decode cX12_most 60 = .ok (.aload_n 0, 1) := dzr zhdX12_most_0 6 rfl
theorem dX12_most_61 : decode cX12_most 61 = .ok (.invokevirtual 426, 3) := dzr zhdX12_most_0 7 rfl
theorem dX12_most_64 : decode cX12_most 64 = .ok (.ireturn, 1) := dzr zhdX12_most_0 8 rfl
theorem dX12_most_65 : decode cX12_most 65 = .ok (.aload_n 0, 1) := dzr zhdX12_most_0 9 rfl
theorem dX12_most_66 : decode cX12_most 66 = .ok (.invokevirtual 429, 3) := dzr zhdX12_most_0 10 rfl
theorem dX12_most_69 : decode cX12_most 69 = .ok (.ireturn, 1) := dzr zhdX12_most_0 11 rfl
theorem dX12_most_70 : decode cX12_most 70 = .ok (.aload_n 0, 1) := dzr zhdX12_most_0 12 rfl
theorem dX12_most_71 : decode cX12_most 71 = .ok (.iconst 1, 1) := dzr zhdX12_most_0 13 rfl
theorem dX12_most_72 : decode cX12_most 72 = .ok (.invokevirtual 432, 3) := dzr zhdX12_most_0 14 rfl
theorem dX12_most_75 : decode cX12_most 75 = .ok (.ireturn, 1) := dzr zhdX12_most_0 15 rfl
theorem dX12_most_76 : decode cX12_most 76 = .ok (.aload_n 0, 1) := dzr zhdX12_most_0 16 rfl
theorem dX12_most_77 : decode cX12_most 77 = .ok (.iconst (-1), 1) := dzr zhdX12_most_0 17 rfl
theorem dX12_most_78 : decode cX12_most 78 = .ok (.invokevirtual 432, 3) := dzr zhdX12_most_0 18 rfl
theorem dX12_most_81 : decode cX12_most 81 = .ok (.ireturn, 1) := dzr zhdX12_most_0 19 rfl
theorem dX12_most_82 : decode cX12_most 82 = .ok (.aload_n 0, 1) := dzr zhdX12_most_0 20 rfl
theorem dX12_most_83 : decode cX12_most 83 = .ok (.bipush 36, 2) := dzr zhdX12_most_0 21 rfl
theorem dX12_most_85 : decode cX12_most 85 = .ok (.invokevirtual 435, 3) := dzr zhdX12_most_0 22 rfl
theorem dX12_most_88 : decode cX12_most 88 = .ok (.ireturn, 1) := dzr zhdX12_most_0 23 rfl
def ztdX12_most_89 : List (Nat × Instr × Nat) := [(89, .aload_n 0, 1), (90, .bipush 42, 2), (92, .invokevirtual 435, 3), (95, .ireturn, 1), (96, .aload_n 0, 1), (97, .invokevirtual 438, 3), (100, .ireturn, 1), (101, .aload_n 0, 1), (102, .invokevirtual 441, 3), (105, .ireturn, 1), (106, .aload_n 0, 1), (107, .invokevirtual 444, 3), (110, .ireturn, 1), (111, .iconst (-1), 1), (112, .ireturn, 1)]
theorem zhdX12_most_89 : dzC ztdX12_most_89 89 (cX12_most.data.toList.drop 89) = true := by decide +kernel
theorem dX12_most_89 : decode cX12_most 89 = .ok (.aload_n 0, 1) := dzr zhdX12_most_89 0 rfl
theorem dX12_most_90 : decode cX12_most 90 = .ok (.bipush 42, 2) := dzr zhdX12_most_89 1 rfl
theorem dX12_most_92 : decode cX12_most 92 = .ok (.invokevirtual 435, 3) := dzr zhdX12_most_89 2 rfl
theorem dX12_most_95 : decode cX12_most 95 = .ok (.ireturn, 1) := dzr zhdX12_most_89 3 rfl
theorem dX12_most_96 : decode cX12_most 96 = .ok (.aload_n 0, 1) := dzr zhdX12_most_89 4 rfl
theorem dX12_most_97 : decode cX12_most 97 = .ok (.invokevirtual 438, 3) := dzr zhdX12_most_89 5 rfl
theorem dX12_most_100 : decode cX12_most 100 = .ok (.ireturn, 1) := dzr zhdX12_most_89 6 rfl
theorem dX12_most_101 : decode cX12_most 101 = .ok (.aload_n 0, 1) := dzr zhdX12_most_89 7 rfl
theorem dX12_most_102 : decode cX12_most 102 = .ok (.invokevirtual 441, 3) := dzr zhdX12_most_89 8 rfl
theorem dX12_most_105 : decode cX12_most 105 = .ok (.ireturn, 1) := dzr zhdX12_most_89 9 rfl
theorem dX12_most_106 : decode cX12_most 106 = .ok (.aload_n 0, 1) := dzr zhdX12_most_89 10 rfl
theorem dX12_most_107 : decode cX12_most 107 = .ok (.invokevirtual 444, 3) := dzr zhdX12_most_89 11 rfl
theorem dX12_most_110 : decode cX12_most 110 = .ok (.ireturn, 1) := dzr zhdX12_most_89 12 rfl
theorem dX12_most_111 : decode cX12_most 111 = .ok (.iconst (-1), 1) := dzr zhdX12_most_89 13 rfl
theorem dX12_most_112 : decode cX12_most 112 = .ok (.ireturn, 1) := dzr zhdX12_most_89 14 rfl
theorem ggX12_allies_X12_isGlove : GoodIn wsX12_allies wsX12_isGlove := (bg_up (bg_law (bi_wsL_law0_r25 _ (List.mem_of_getElem? (i := 11) rfl))))
theorem gX12_allies_X12_isGlove : GoodIn wsX12_allies (wsV RX12 277 RX12 yX12_isGlove wsX12_isGlove) := goodIn_app (bg_up (bg_cons (bi_wsL_law0_r25 _ (List.mem_of_getElem? (i := 8) rfl)) (bg_cons (bi_wsL_law0_r25 _ (List.mem_of_getElem? (i := 9) rfl)) (bg_cons (bi_wsL_law0_r25 _ (List.mem_of_getElem? (i := 10) rfl)) (bg_cons (bi_wsL_law0_r1 _ (List.mem_of_getElem? (i := 5) rfl)) bg_nil))))) (bg_up (bg_law (bi_wsL_law0_r25 _ (List.mem_of_getElem? (i := 11) rfl))))
theorem ggX12_allies_X12_areTwo : GoodIn wsX12_allies wsX12_areTwo := (bg_up (bg_law (bi_wsL_law0_r27 _ (List.mem_of_getElem? (i := 13) rfl))))
theorem gX12_allies_X12_areTwo : GoodIn wsX12_allies (wsV RX12 316 RX12 yX12_areTwo wsX12_areTwo) := goodIn_app (bg_up (bg_cons (bi_wsL_law0_r27 _ (List.mem_of_getElem? (i := 10) rfl)) (bg_cons (bi_wsL_law0_r27 _ (List.mem_of_getElem? (i := 11) rfl)) (bg_cons (bi_wsL_law0_r27 _ (List.mem_of_getElem? (i := 12) rfl)) (bg_cons (bi_wsL_law0_r1 _ (List.mem_of_getElem? (i := 5) rfl)) bg_nil))))) (bg_up (bg_law (bi_wsL_law0_r27 _ (List.mem_of_getElem? (i := 13) rfl))))
theorem ggX12_allies_X12_areAllies : GoodIn wsX12_allies wsX12_areAllies := (bg_up (bg_law (bi_wsL_law0_r32 _ (List.mem_of_getElem? (i := 14) rfl))))
theorem gX12_allies_X12_areAllies : GoodIn wsX12_allies (wsV RX12 287 RX12 yX12_areAllies wsX12_areAllies) := goodIn_app (bg_up (bg_cons (bi_wsL_law0_r32 _ (List.mem_of_getElem? (i := 11) rfl)) (bg_cons (bi_wsL_law0_r32 _ (List.mem_of_getElem? (i := 12) rfl)) (bg_cons (bi_wsL_law0_r32 _ (List.mem_of_getElem? (i := 13) rfl)) (bg_cons (bi_wsL_law0_r1 _ (List.mem_of_getElem? (i := 5) rfl)) bg_nil))))) (bg_up (bg_law (bi_wsL_law0_r32 _ (List.mem_of_getElem? (i := 14) rfl))))
def ztdX12_allies_0 : List (Nat × Instr × Nat) := [(0, .aload_n 0, 1), (1, .iload_n 1, 1), (2, .invokevirtual 277, 3), (5, .ifCond .ne 5, 3), (8, .iconst (-1), 1), (9, .ireturn, 1), (10, .iconst 0, 1), (11, .istore_n 2, 1), (12, .iconst 0, 1), (13, .istore_n 3, 1), (14, .iload_n 3, 1), (15, .aload_n 0, 1), (16, .getfield 252, 3), (19, .if_icmp .ge 37, 3), (22, .iload_n 2, 1), (23, .aload_n 0, 1), (24, .iload_n 1, 1), (25, .iload_n 3, 1), (26, .invokevirtual 316, 3), (29, .ifCond .eq 18, 3), (32, .aload_n 0, 1), (33, .iload_n 1, 1), (34, .iload_n 3, 1), (35, .invokevirtual 287, 3)]
theorem zhdX12_allies_0 : dzC ztdX12_allies_0 0 (cX12_allies.data.toList.drop 0) = true := by decide +kernel
theorem dX12_allies_0 : decode cX12_allies 0 = .ok (.aload_n 0, 1) := dzr zhdX12_allies_0 0 rfl
theorem dX12_allies_1 : decode cX12_allies 1 = .ok (.iload_n 1, 1) := dzr zhdX12_allies_0 1 rfl
theorem dX12_allies_2 : decode cX12_allies 2 = .ok (.invokevirtual 277, 3) := dzr zhdX12_allies_0 2 rfl
theorem dX12_allies_5 : decode cX12_allies 5 = .ok (.ifCond .ne 5, 3) := dzr zhdX12_allies_0 3 rfl
theorem dX12_allies_8 : decode cX12_allies 8 = .ok (.iconst (-1), 1) := dzr zhdX12_allies_0 4 rfl
theorem dX12_allies_9 : decode cX12_allies 9 = .ok (.ireturn, 1) := dzr zhdX12_allies_0 5 rfl
theorem dX12_allies_10 : decode cX12_allies 10 = .ok (.iconst 0, 1) := dzr zhdX12_allies_0 6 rfl
theorem dX12_allies_11 : decode cX12_allies 11 = .ok (.istore_n 2, 1) := dzr zhdX12_allies_0 7 rfl
theorem dX12_allies_12 : decode cX12_allies 12 = .ok (.iconst 0, 1) := dzr zhdX12_allies_0 8 rfl
theorem dX12_allies_13 : decode cX12_allies 13 = .ok (.istore_n 3, 1) := dzr zhdX12_allies_0 9 rfl
theorem dX12_allies_14 : decode cX12_allies 14 = .ok (.iload_n 3, 1) := dzr zhdX12_allies_0 10 rfl
theorem dX12_allies_15 : decode cX12_allies 15 = .ok (.aload_n 0, 1) := dzr zhdX12_allies_0 11 rfl
theorem dX12_allies_16 : decode cX12_allies 16 = .ok (.getfield 252, 3) := dzr zhdX12_allies_0 12 rfl
theorem dX12_allies_19 : decode cX12_allies 19 = .ok (.if_icmp .ge 37, 3) := dzr zhdX12_allies_0 13 rfl
theorem dX12_allies_22 : decode cX12_allies 22 = .ok (.iload_n 2, 1) := dzr zhdX12_allies_0 14 rfl
theorem dX12_allies_23 : decode cX12_allies 23 = .ok (.aload_n 0, 1) := dzr zhdX12_allies_0 15 rfl
theorem dX12_allies_24 : decode cX12_allies 24 = .ok (.iload_n 1, 1) := dzr zhdX12_allies_0 16 rfl
theorem dX12_allies_25 : decode cX12_allies 25 = .ok (.iload_n 3, 1) := dzr zhdX12_allies_0 17 rfl
theorem dX12_allies_26 : decode cX12_allies 26 = .ok (.invokevirtual 316, 3) := dzr zhdX12_allies_0 18 rfl
theorem dX12_allies_29 : decode cX12_allies 29 = .ok (.ifCond .eq 18, 3) := dzr zhdX12_allies_0 19 rfl
theorem dX12_allies_32 : decode cX12_allies 32 = .ok (.aload_n 0, 1) := dzr zhdX12_allies_0 20 rfl
theorem dX12_allies_33 : decode cX12_allies 33 = .ok (.iload_n 1, 1) := dzr zhdX12_allies_0 21 rfl
theorem dX12_allies_34 : decode cX12_allies 34 = .ok (.iload_n 3, 1) := dzr zhdX12_allies_0 22 rfl
theorem dX12_allies_35 : decode cX12_allies 35 = .ok (.invokevirtual 287, 3) := dzr zhdX12_allies_0 23 rfl
def ztdX12_allies_38 : List (Nat × Instr × Nat) := [(38, .ifCond .eq 9, 3), (41, .iconst 1, 1), (42, .iload_n 3, 1), (43, .ishl, 1), (44, .goto 4, 3), (47, .iconst 0, 1), (48, .ior, 1), (49, .istore_n 2, 1), (50, .iinc 3 1, 3), (53, .goto (-39), 3), (56, .iload_n 2, 1), (57, .ireturn, 1)]
theorem zhdX12_allies_38 : dzC ztdX12_allies_38 38 (cX12_allies.data.toList.drop 38) = true := by decide +kernel
theorem dX12_allies_38 : decode cX12_allies 38 = .ok (.ifCond .eq 9, 3) := dzr zhdX12_allies_38 0 rfl
theorem dX12_allies_41 : decode cX12_allies 41 = .ok (.iconst 1, 1) := dzr zhdX12_allies_38 1 rfl
theorem dX12_allies_42 : decode cX12_allies 42 = .ok (.iload_n 3, 1) := dzr zhdX12_allies_38 2 rfl
theorem dX12_allies_43 : decode cX12_allies 43 = .ok (.ishl, 1) := dzr zhdX12_allies_38 3 rfl
theorem dX12_allies_44 : decode cX12_allies 44 = .ok (.goto 4, 3) := dzr zhdX12_allies_38 4 rfl
theorem dX12_allies_47 : decode cX12_allies 47 = .ok (.iconst 0, 1) := dzr zhdX12_allies_38 5 rfl
theorem dX12_allies_48 : decode cX12_allies 48 = .ok (.ior, 1) := dzr zhdX12_allies_38 6 rfl
theorem dX12_allies_49 : decode cX12_allies 49 = .ok (.istore_n 2, 1) := dzr zhdX12_allies_38 7 rfl
theorem dX12_allies_50 : decode cX12_allies 50 = .ok (.iinc 3 1, 3) := dzr zhdX12_allies_38 8 rfl
theorem dX12_allies_53 : decode cX12_allies 53 = .ok (.goto (-39), 3) := dzr zhdX12_allies_38 9 rfl
theorem dX12_allies_56 : decode cX12_allies 56 = .ok (.iload_n 2, 1) := dzr zhdX12_allies_38 10 rfl
theorem dX12_allies_57 : decode cX12_allies 57 = .ok (.ireturn, 1) := dzr zhdX12_allies_38 11 rfl
def ztdX12_image_0 : List (Nat × Instr × Nat) := [(0, .aload_n 0, 1), (1, .getfield 252, 3), (4, .ifCond .ne 5, 3), (7, .iconst (-1), 1), (8, .ireturn, 1), (9, .iconst 0, 1), (10, .istore_n 1, 1), (11, .iload_n 1, 1), (12, .sipush 250, 3), (15, .if_icmp .ge 21, 3), (18, .aload_n 0, 1), (19, .getfield 93, 3), (22, .iload_n 1, 1), (23, .aload_n 0, 1), (24, .getfield 58, 3), (27, .iload_n 1, 1), (28, .iaload, 1), (29, .iastore, 1), (30, .iinc 1 1, 3), (33, .goto (-22), 3), (36, .aload_n 0, 1), (37, .iconst 1, 1), (38, .putfield 267, 3), (41, .aload_n 0, 1)]
theorem zhdX12_image_0 : dzC ztdX12_image_0 0 (cX12_image.data.toList.drop 0) = true := by decide +kernel
theorem dX12_image_0 : decode cX12_image 0 = .ok (.aload_n 0, 1) := dzr zhdX12_image_0 0 rfl
theorem dX12_image_1 : decode cX12_image 1 = .ok (.getfield 252, 3) := dzr zhdX12_image_0 1 rfl
theorem dX12_image_4 : decode cX12_image 4 = .ok (.ifCond .ne 5, 3) := dzr zhdX12_image_0 2 rfl
theorem dX12_image_7 : decode cX12_image 7 = .ok (.iconst (-1), 1) := dzr zhdX12_image_0 3 rfl
theorem dX12_image_8 : decode cX12_image 8 = .ok (.ireturn, 1) := dzr zhdX12_image_0 4 rfl
theorem dX12_image_9 : decode cX12_image 9 = .ok (.iconst 0, 1) := dzr zhdX12_image_0 5 rfl
theorem dX12_image_10 : decode cX12_image 10 = .ok (.istore_n 1, 1) := dzr zhdX12_image_0 6 rfl
theorem dX12_image_11 : decode cX12_image 11 = .ok (.iload_n 1, 1) := dzr zhdX12_image_0 7 rfl
theorem dX12_image_12 : decode cX12_image 12 = .ok (.sipush 250, 3) := dzr zhdX12_image_0 8 rfl
theorem dX12_image_15 : decode cX12_image 15 = .ok (.if_icmp .ge 21, 3) := dzr zhdX12_image_0 9 rfl
theorem dX12_image_18 : decode cX12_image 18 = .ok (.aload_n 0, 1) := dzr zhdX12_image_0 10 rfl
theorem dX12_image_19 : decode cX12_image 19 = .ok (.getfield 93, 3) := dzr zhdX12_image_0 11 rfl
theorem dX12_image_22 : decode cX12_image 22 = .ok (.iload_n 1, 1) := dzr zhdX12_image_0 12 rfl
theorem dX12_image_23 : decode cX12_image 23 = .ok (.aload_n 0, 1) := dzr zhdX12_image_0 13 rfl
theorem dX12_image_24 : decode cX12_image 24 = .ok (.getfield 58, 3) := dzr zhdX12_image_0 14 rfl
theorem dX12_image_27 : decode cX12_image 27 = .ok (.iload_n 1, 1) := dzr zhdX12_image_0 15 rfl
theorem dX12_image_28 : decode cX12_image 28 = .ok (.iaload, 1) := dzr zhdX12_image_0 16 rfl
theorem dX12_image_29 : decode cX12_image 29 = .ok (.iastore, 1) := dzr zhdX12_image_0 17 rfl
theorem dX12_image_30 : decode cX12_image 30 = .ok (.iinc 1 1, 3) := dzr zhdX12_image_0 18 rfl
theorem dX12_image_33 : decode cX12_image 33 = .ok (.goto (-22), 3) := dzr zhdX12_image_0 19 rfl
theorem dX12_image_36 : decode cX12_image 36 = .ok (.aload_n 0, 1) := dzr zhdX12_image_0 20 rfl
theorem dX12_image_37 : decode cX12_image 37 = .ok (.iconst 1, 1) := dzr zhdX12_image_0 21 rfl
theorem dX12_image_38 : decode cX12_image 38 = .ok (.putfield 267, 3) := dzr zhdX12_image_0 22 rfl
theorem dX12_image_41 : decode cX12_image 41 = .ok (.aload_n 0, 1) := dzr zhdX12_image_0 23 rfl
def ztdX12_image_42 : List (Nat × Instr × Nat) := [(42, .getfield 58, 3), (45, .bipush 68, 2), (47, .iaload, 1), (48, .ireturn, 1)]
theorem zhdX12_image_42 : dzC ztdX12_image_42 42 (cX12_image.data.toList.drop 42) = true := by decide +kernel
theorem dX12_image_42 : decode cX12_image 42 = .ok (.getfield 58, 3) := dzr zhdX12_image_42 0 rfl
theorem dX12_image_45 : decode cX12_image 45 = .ok (.bipush 68, 2) := dzr zhdX12_image_42 1 rfl
theorem dX12_image_47 : decode cX12_image 47 = .ok (.iaload, 1) := dzr zhdX12_image_42 2 rfl
theorem dX12_image_48 : decode cX12_image 48 = .ok (.ireturn, 1) := dzr zhdX12_image_42 3 rfl
def ztdX12_back_0 : List (Nat × Instr × Nat) := [(0, .aload_n 0, 1), (1, .getfield 267, 3), (4, .ifCond .ne 5, 3), (7, .iconst (-1), 1), (8, .ireturn, 1), (9, .iconst 0, 1), (10, .istore_n 1, 1), (11, .iload_n 1, 1), (12, .sipush 250, 3), (15, .if_icmp .ge 21, 3), (18, .aload_n 0, 1), (19, .getfield 58, 3), (22, .iload_n 1, 1), (23, .aload_n 0, 1), (24, .getfield 93, 3), (27, .iload_n 1, 1), (28, .iaload, 1), (29, .iastore, 1), (30, .iinc 1 1, 3), (33, .goto (-22), 3), (36, .aload_n 0, 1), (37, .iconst 0, 1), (38, .putfield 264, 3), (41, .aload_n 0, 1)]
theorem zhdX12_back_0 : dzC ztdX12_back_0 0 (cX12_back.data.toList.drop 0) = true := by decide +kernel
theorem dX12_back_0 : decode cX12_back 0 = .ok (.aload_n 0, 1) := dzr zhdX12_back_0 0 rfl
theorem dX12_back_1 : decode cX12_back 1 = .ok (.getfield 267, 3) := dzr zhdX12_back_0 1 rfl
theorem dX12_back_4 : decode cX12_back 4 = .ok (.ifCond .ne 5, 3) := dzr zhdX12_back_0 2 rfl
theorem dX12_back_7 : decode cX12_back 7 = .ok (.iconst (-1), 1) := dzr zhdX12_back_0 3 rfl
theorem dX12_back_8 : decode cX12_back 8 = .ok (.ireturn, 1) := dzr zhdX12_back_0 4 rfl
theorem dX12_back_9 : decode cX12_back 9 = .ok (.iconst 0, 1) := dzr zhdX12_back_0 5 rfl
theorem dX12_back_10 : decode cX12_back 10 = .ok (.istore_n 1, 1) := dzr zhdX12_back_0 6 rfl
theorem dX12_back_11 : decode cX12_back 11 = .ok (.iload_n 1, 1) := dzr zhdX12_back_0 7 rfl
theorem dX12_back_12 : decode cX12_back 12 = .ok (.sipush 250, 3) := dzr zhdX12_back_0 8 rfl
theorem dX12_back_15 : decode cX12_back 15 = .ok (.if_icmp .ge 21, 3) := dzr zhdX12_back_0 9 rfl
theorem dX12_back_18 : decode cX12_back 18 = .ok (.aload_n 0, 1) := dzr zhdX12_back_0 10 rfl
theorem dX12_back_19 : decode cX12_back 19 = .ok (.getfield 58, 3) := dzr zhdX12_back_0 11 rfl
theorem dX12_back_22 : decode cX12_back 22 = .ok (.iload_n 1, 1) := dzr zhdX12_back_0 12 rfl
theorem dX12_back_23 : decode cX12_back 23 = .ok (.aload_n 0, 1) := dzr zhdX12_back_0 13 rfl
theorem dX12_back_24 : decode cX12_back 24 = .ok (.getfield 93, 3) := dzr zhdX12_back_0 14 rfl
theorem dX12_back_27 : decode cX12_back 27 = .ok (.iload_n 1, 1) := dzr zhdX12_back_0 15 rfl
theorem dX12_back_28 : decode cX12_back 28 = .ok (.iaload, 1) := dzr zhdX12_back_0 16 rfl
theorem dX12_back_29 : decode cX12_back 29 = .ok (.iastore, 1) := dzr zhdX12_back_0 17 rfl
theorem dX12_back_30 : decode cX12_back 30 = .ok (.iinc 1 1, 3) := dzr zhdX12_back_0 18 rfl
theorem dX12_back_33 : decode cX12_back 33 = .ok (.goto (-22), 3) := dzr zhdX12_back_0 19 rfl
theorem dX12_back_36 : decode cX12_back 36 = .ok (.aload_n 0, 1) := dzr zhdX12_back_0 20 rfl
theorem dX12_back_37 : decode cX12_back 37 = .ok (.iconst 0, 1) := dzr zhdX12_back_0 21 rfl
theorem dX12_back_38 : decode cX12_back 38 = .ok (.putfield 264, 3) := dzr zhdX12_back_0 22 rfl
theorem dX12_back_41 : decode cX12_back 41 = .ok (.aload_n 0, 1) := dzr zhdX12_back_0 23 rfl
def ztdX12_back_42 : List (Nat × Instr × Nat) := [(42, .getfield 58, 3), (45, .bipush 68, 2), (47, .iaload, 1), (48, .ireturn, 1)]
theorem zhdX12_back_42 : dzC ztdX12_back_42 42 (cX12_back.data.toList.drop 42) = true := by decide +kernel
theorem dX12_back_42 : decode cX12_back 42 = .ok (.getfield 58, 3) := dzr zhdX12_back_42 0 rfl
theorem dX12_back_45 : decode cX12_back 45 = .ok (.bipush 68, 2) := dzr zhdX12_back_42 1 rfl
theorem dX12_back_47 : decode cX12_back 47 = .ok (.iaload, 1) := dzr zhdX12_back_42 2 rfl
theorem dX12_back_48 : decode cX12_back 48 = .ok (.ireturn, 1) := dzr zhdX12_back_42 3 rfl
theorem ggX12_count_X12_warmthOfAll : GoodIn wsX12_count wsX12_warmthOfAll := (bg_up (bg_law (bi_wsL_law0_r39 _ (List.mem_of_getElem? (i := 12) rfl))))
theorem gX12_count_X12_warmthOfAll : GoodIn wsX12_count (wsV RX12 328 RX12 yX12_warmthOfAll wsX12_warmthOfAll) := goodIn_app (bg_up (bg_cons (bi_wsL_law0_r39 _ (List.mem_of_getElem? (i := 9) rfl)) (bg_cons (bi_wsL_law0_r39 _ (List.mem_of_getElem? (i := 10) rfl)) (bg_cons (bi_wsL_law0_r39 _ (List.mem_of_getElem? (i := 11) rfl)) (bg_cons (bi_wsL_law0_r1 _ (List.mem_of_getElem? (i := 5) rfl)) bg_nil))))) (bg_up (bg_law (bi_wsL_law0_r39 _ (List.mem_of_getElem? (i := 12) rfl))))
theorem ggX12_count_X12_metMany : GoodIn wsX12_count wsX12_metMany := (bg_up (bg_law (bi_wsL_law0_r39 _ (List.mem_of_getElem? (i := 0) rfl))))
theorem gX12_count_X12_metMany : GoodIn wsX12_count (wsV RX12 322 RX12 yX12_metMany wsX12_metMany) := goodIn_app (bg_up (bg_cons (bi_wsL_law0_r38 _ (List.mem_of_getElem? (i := 21) rfl)) (bg_cons (bi_wsL_law0_r38 _ (List.mem_of_getElem? (i := 22) rfl)) (bg_cons (bi_wsL_law0_r38 _ (List.mem_of_getElem? (i := 23) rfl)) (bg_cons (bi_wsL_law0_r1 _ (List.mem_of_getElem? (i := 5) rfl)) bg_nil))))) (bg_up (bg_law (bi_wsL_law0_r39 _ (List.mem_of_getElem? (i := 0) rfl))))
theorem dX12_count_1 : decode cX12_count 1 = .ok (.tableswitch 129 0 11 #[63, 68, 73, 78, 83, 88, 96, 101, 106, 111, 116, 124], 63) := by decide +kernel
def ztdX12_count_0 : List (Nat × Instr × Nat) := [(0, .iload_n 1, 1), (64, .aload_n 0, 1), (65, .getfield 252, 3), (68, .ireturn, 1), (69, .aload_n 0, 1), (70, .getfield 255, 3), (73, .ireturn, 1), (74, .aload_n 0, 1), (75, .getfield 274, 3), (78, .ireturn, 1), (79, .aload_n 0, 1), (80, .getfield 103, 3), (83, .ireturn, 1), (84, .aload_n 0, 1), (85, .getfield 64, 3), (88, .ireturn, 1), (89, .aload_n 0, 1), (90, .getfield 58, 3), (93, .bipush 68, 2), (95, .iaload, 1), (96, .ireturn, 1), (97, .aload_n 0, 1), (98, .invokevirtual 328, 3), (101, .ireturn, 1)]
theorem zhdX12_count_0 : dzC ztdX12_count_0 0 (cX12_count.data.toList.drop 0) = true := by decide +kernel
theorem dX12_count_0 : decode cX12_count 0 = .ok (.iload_n 1, 1) := dzr zhdX12_count_0 0 rfl
theorem dX12_count_64 : decode cX12_count 64 = .ok (.aload_n 0, 1) := dzr zhdX12_count_0 1 rfl
theorem dX12_count_65 : decode cX12_count 65 = .ok (.getfield 252, 3) := dzr zhdX12_count_0 2 rfl
theorem dX12_count_68 : decode cX12_count 68 = .ok (.ireturn, 1) := dzr zhdX12_count_0 3 rfl
theorem dX12_count_69 : decode cX12_count 69 = .ok (.aload_n 0, 1) := dzr zhdX12_count_0 4 rfl
theorem dX12_count_70 : decode cX12_count 70 = .ok (.getfield 255, 3) := dzr zhdX12_count_0 5 rfl
theorem dX12_count_73 : decode cX12_count 73 = .ok (.ireturn, 1) := dzr zhdX12_count_0 6 rfl
theorem dX12_count_74 : decode cX12_count 74 = .ok (.aload_n 0, 1) := dzr zhdX12_count_0 7 rfl
theorem dX12_count_75 : decode cX12_count 75 = .ok (.getfield 274, 3) := dzr zhdX12_count_0 8 rfl
theorem dX12_count_78 : decode cX12_count 78 = .ok (.ireturn, 1) := dzr zhdX12_count_0 9 rfl
theorem dX12_count_79 : decode cX12_count 79 = .ok (.aload_n 0, 1) := dzr zhdX12_count_0 10 rfl
theorem dX12_count_80 : decode cX12_count 80 = .ok (.getfield 103, 3) := dzr zhdX12_count_0 11 rfl
theorem dX12_count_83 : decode cX12_count 83 = .ok (.ireturn, 1) := dzr zhdX12_count_0 12 rfl
theorem dX12_count_84 : decode cX12_count 84 = .ok (.aload_n 0, 1) := dzr zhdX12_count_0 13 rfl
theorem dX12_count_85 : decode cX12_count 85 = .ok (.getfield 64, 3) := dzr zhdX12_count_0 14 rfl
theorem dX12_count_88 : decode cX12_count 88 = .ok (.ireturn, 1) := dzr zhdX12_count_0 15 rfl
theorem dX12_count_89 : decode cX12_count 89 = .ok (.aload_n 0, 1) := dzr zhdX12_count_0 16 rfl
theorem dX12_count_90 : decode cX12_count 90 = .ok (.getfield 58, 3) := dzr zhdX12_count_0 17 rfl
theorem dX12_count_93 : decode cX12_count 93 = .ok (.bipush 68, 2) := dzr zhdX12_count_0 18 rfl
theorem dX12_count_95 : decode cX12_count 95 = .ok (.iaload, 1) := dzr zhdX12_count_0 19 rfl
theorem dX12_count_96 : decode cX12_count 96 = .ok (.ireturn, 1) := dzr zhdX12_count_0 20 rfl
theorem dX12_count_97 : decode cX12_count 97 = .ok (.aload_n 0, 1) := dzr zhdX12_count_0 21 rfl
theorem dX12_count_98 : decode cX12_count 98 = .ok (.invokevirtual 328, 3) := dzr zhdX12_count_0 22 rfl
theorem dX12_count_101 : decode cX12_count 101 = .ok (.ireturn, 1) := dzr zhdX12_count_0 23 rfl
def ztdX12_count_102 : List (Nat × Instr × Nat) := [(102, .aload_n 0, 1), (103, .invokevirtual 322, 3), (106, .ireturn, 1), (107, .aload_n 0, 1), (108, .getfield 68, 3), (111, .ireturn, 1), (112, .aload_n 0, 1), (113, .getfield 261, 3), (116, .ireturn, 1), (117, .aload_n 0, 1), (118, .getfield 58, 3), (121, .bipush 69, 2), (123, .iaload, 1), (124, .ireturn, 1), (125, .aload_n 0, 1), (126, .getfield 264, 3), (129, .ireturn, 1), (130, .ldc_w 363, 3), (133, .ireturn, 1)]
theorem zhdX12_count_102 : dzC ztdX12_count_102 102 (cX12_count.data.toList.drop 102) = true := by decide +kernel
theorem dX12_count_102 : decode cX12_count 102 = .ok (.aload_n 0, 1) := dzr zhdX12_count_102 0 rfl
theorem dX12_count_103 : decode cX12_count 103 = .ok (.invokevirtual 322, 3) := dzr zhdX12_count_102 1 rfl
theorem dX12_count_106 : decode cX12_count 106 = .ok (.ireturn, 1) := dzr zhdX12_count_102 2 rfl
theorem dX12_count_107 : decode cX12_count 107 = .ok (.aload_n 0, 1) := dzr zhdX12_count_102 3 rfl
theorem dX12_count_108 : decode cX12_count 108 = .ok (.getfield 68, 3) := dzr zhdX12_count_102 4 rfl
theorem dX12_count_111 : decode cX12_count 111 = .ok (.ireturn, 1) := dzr zhdX12_count_102 5 rfl
theorem dX12_count_112 : decode cX12_count 112 = .ok (.aload_n 0, 1) := dzr zhdX12_count_102 6 rfl
theorem dX12_count_113 : decode cX12_count 113 = .ok (.getfield 261, 3) := dzr zhdX12_count_102 7 rfl
theorem dX12_count_116 : decode cX12_count 116 = .ok (.ireturn, 1) := dzr zhdX12_count_102 8 rfl
theorem dX12_count_117 : decode cX12_count 117 = .ok (.aload_n 0, 1) := dzr zhdX12_count_102 9 rfl
theorem dX12_count_118 : decode cX12_count 118 = .ok (.getfield 58, 3) := dzr zhdX12_count_102 10 rfl
theorem dX12_count_121 : decode cX12_count 121 = .ok (.bipush 69, 2) := dzr zhdX12_count_102 11 rfl
theorem dX12_count_123 : decode cX12_count 123 = .ok (.iaload, 1) := dzr zhdX12_count_102 12 rfl
theorem dX12_count_124 : decode cX12_count 124 = .ok (.ireturn, 1) := dzr zhdX12_count_102 13 rfl
theorem dX12_count_125 : decode cX12_count 125 = .ok (.aload_n 0, 1) := dzr zhdX12_count_102 14 rfl
theorem dX12_count_126 : decode cX12_count 126 = .ok (.getfield 264, 3) := dzr zhdX12_count_102 15 rfl
theorem dX12_count_129 : decode cX12_count 129 = .ok (.ireturn, 1) := dzr zhdX12_count_102 16 rfl
theorem dX12_count_130 : decode cX12_count 130 = .ok (.ldc_w 363, 3) := dzr zhdX12_count_102 17 rfl
theorem dX12_count_133 : decode cX12_count 133 = .ok (.ireturn, 1) := dzr zhdX12_count_102 18 rfl
def ztdJ6_bitCount_0f7a4_0 : List (Nat × Instr × Nat) := [(0, .iload_n 0, 1), (1, .iload_n 0, 1), (2, .iconst 1, 1), (3, .iushr, 1), (4, .ldc_w 265, 3), (7, .iand, 1), (8, .isub, 1), (9, .istore_n 0, 1), (10, .iload_n 0, 1), (11, .ldc_w 266, 3), (14, .iand, 1), (15, .iload_n 0, 1), (16, .iconst 2, 1), (17, .iushr, 1), (18, .ldc_w 266, 3), (21, .iand, 1), (22, .iadd, 1), (23, .istore_n 0, 1), (24, .iload_n 0, 1), (25, .iload_n 0, 1), (26, .iconst 4, 1), (27, .iushr, 1), (28, .iadd, 1), (29, .ldc_w 267, 3)]
theorem zhdJ6_bitCount_0f7a4_0 : dzC ztdJ6_bitCount_0f7a4_0 0 (cJ6_bitCount_0f7a4.data.toList.drop 0) = true := by decide +kernel
theorem dJ6_bitCount_0f7a4_0 : decode cJ6_bitCount_0f7a4 0 = .ok (.iload_n 0, 1) := dzr zhdJ6_bitCount_0f7a4_0 0 rfl
theorem dJ6_bitCount_0f7a4_1 : decode cJ6_bitCount_0f7a4 1 = .ok (.iload_n 0, 1) := dzr zhdJ6_bitCount_0f7a4_0 1 rfl
theorem dJ6_bitCount_0f7a4_2 : decode cJ6_bitCount_0f7a4 2 = .ok (.iconst 1, 1) := dzr zhdJ6_bitCount_0f7a4_0 2 rfl
theorem dJ6_bitCount_0f7a4_3 : decode cJ6_bitCount_0f7a4 3 = .ok (.iushr, 1) := dzr zhdJ6_bitCount_0f7a4_0 3 rfl
theorem dJ6_bitCount_0f7a4_4 : decode cJ6_bitCount_0f7a4 4 = .ok (.ldc_w 265, 3) := dzr zhdJ6_bitCount_0f7a4_0 4 rfl
theorem dJ6_bitCount_0f7a4_7 : decode cJ6_bitCount_0f7a4 7 = .ok (.iand, 1) := dzr zhdJ6_bitCount_0f7a4_0 5 rfl
theorem dJ6_bitCount_0f7a4_8 : decode cJ6_bitCount_0f7a4 8 = .ok (.isub, 1) := dzr zhdJ6_bitCount_0f7a4_0 6 rfl
theorem dJ6_bitCount_0f7a4_9 : decode cJ6_bitCount_0f7a4 9 = .ok (.istore_n 0, 1) := dzr zhdJ6_bitCount_0f7a4_0 7 rfl
theorem dJ6_bitCount_0f7a4_10 : decode cJ6_bitCount_0f7a4 10 = .ok (.iload_n 0, 1) := dzr zhdJ6_bitCount_0f7a4_0 8 rfl
theorem dJ6_bitCount_0f7a4_11 : decode cJ6_bitCount_0f7a4 11 = .ok (.ldc_w 266, 3) := dzr zhdJ6_bitCount_0f7a4_0 9 rfl
theorem dJ6_bitCount_0f7a4_14 : decode cJ6_bitCount_0f7a4 14 = .ok (.iand, 1) := dzr zhdJ6_bitCount_0f7a4_0 10 rfl
theorem dJ6_bitCount_0f7a4_15 : decode cJ6_bitCount_0f7a4 15 = .ok (.iload_n 0, 1) := dzr zhdJ6_bitCount_0f7a4_0 11 rfl
theorem dJ6_bitCount_0f7a4_16 : decode cJ6_bitCount_0f7a4 16 = .ok (.iconst 2, 1) := dzr zhdJ6_bitCount_0f7a4_0 12 rfl
theorem dJ6_bitCount_0f7a4_17 : decode cJ6_bitCount_0f7a4 17 = .ok (.iushr, 1) := dzr zhdJ6_bitCount_0f7a4_0 13 rfl
theorem dJ6_bitCount_0f7a4_18 : decode cJ6_bitCount_0f7a4 18 = .ok (.ldc_w 266, 3) := dzr zhdJ6_bitCount_0f7a4_0 14 rfl
theorem dJ6_bitCount_0f7a4_21 : decode cJ6_bitCount_0f7a4 21 = .ok (.iand, 1) := dzr zhdJ6_bitCount_0f7a4_0 15 rfl
theorem dJ6_bitCount_0f7a4_22 : decode cJ6_bitCount_0f7a4 22 = .ok (.iadd, 1) := dzr zhdJ6_bitCount_0f7a4_0 16 rfl
theorem dJ6_bitCount_0f7a4_23 : decode cJ6_bitCount_0f7a4 23 = .ok (.istore_n 0, 1) := dzr zhdJ6_bitCount_0f7a4_0 17 rfl
theorem dJ6_bitCount_0f7a4_24 : decode cJ6_bitCount_0f7a4 24 = .ok (.iload_n 0, 1) := dzr zhdJ6_bitCount_0f7a4_0 18 rfl
theorem dJ6_bitCount_0f7a4_25 : decode cJ6_bitCount_0f7a4 25 = .ok (.iload_n 0, 1) := dzr zhdJ6_bitCount_0f7a4_0 19 rfl
theorem dJ6_bitCount_0f7a4_26 : decode cJ6_bitCount_0f7a4 26 = .ok (.iconst 4, 1) := dzr zhdJ6_bitCount_0f7a4_0 20 rfl
theorem dJ6_bitCount_0f7a4_27 : decode cJ6_bitCount_0f7a4 27 = .ok (.iushr, 1) := dzr zhdJ6_bitCount_0f7a4_0 21 rfl
theorem dJ6_bitCount_0f7a4_28 : decode cJ6_bitCount_0f7a4 28 = .ok (.iadd, 1) := dzr zhdJ6_bitCount_0f7a4_0 22 rfl
theorem dJ6_bitCount_0f7a4_29 : decode cJ6_bitCount_0f7a4 29 = .ok (.ldc_w 267, 3) := dzr zhdJ6_bitCount_0f7a4_0 23 rfl
def ztdJ6_bitCount_0f7a4_32 : List (Nat × Instr × Nat) := [(32, .iand, 1), (33, .istore_n 0, 1), (34, .iload_n 0, 1), (35, .iload_n 0, 1), (36, .bipush 8, 2), (38, .iushr, 1), (39, .iadd, 1), (40, .istore_n 0, 1), (41, .iload_n 0, 1), (42, .iload_n 0, 1), (43, .bipush 16, 2), (45, .iushr, 1), (46, .iadd, 1), (47, .istore_n 0, 1), (48, .iload_n 0, 1), (49, .bipush 63, 2), (51, .iand, 1), (52, .ireturn, 1)]
theorem zhdJ6_bitCount_0f7a4_32 : dzC ztdJ6_bitCount_0f7a4_32 32 (cJ6_bitCount_0f7a4.data.toList.drop 32) = true := by decide +kernel
theorem dJ6_bitCount_0f7a4_32 : decode cJ6_bitCount_0f7a4 32 = .ok (.iand, 1) := dzr zhdJ6_bitCount_0f7a4_32 0 rfl
theorem dJ6_bitCount_0f7a4_33 : decode cJ6_bitCount_0f7a4 33 = .ok (.istore_n 0, 1) := dzr zhdJ6_bitCount_0f7a4_32 1 rfl
theorem dJ6_bitCount_0f7a4_34 : decode cJ6_bitCount_0f7a4 34 = .ok (.iload_n 0, 1) := dzr zhdJ6_bitCount_0f7a4_32 2 rfl
theorem dJ6_bitCount_0f7a4_35 : decode cJ6_bitCount_0f7a4 35 = .ok (.iload_n 0, 1) := dzr zhdJ6_bitCount_0f7a4_32 3 rfl
theorem dJ6_bitCount_0f7a4_36 : decode cJ6_bitCount_0f7a4 36 = .ok (.bipush 8, 2) := dzr zhdJ6_bitCount_0f7a4_32 4 rfl
theorem dJ6_bitCount_0f7a4_38 : decode cJ6_bitCount_0f7a4 38 = .ok (.iushr, 1) := dzr zhdJ6_bitCount_0f7a4_32 5 rfl
theorem dJ6_bitCount_0f7a4_39 : decode cJ6_bitCount_0f7a4 39 = .ok (.iadd, 1) := dzr zhdJ6_bitCount_0f7a4_32 6 rfl
theorem dJ6_bitCount_0f7a4_40 : decode cJ6_bitCount_0f7a4 40 = .ok (.istore_n 0, 1) := dzr zhdJ6_bitCount_0f7a4_32 7 rfl
theorem dJ6_bitCount_0f7a4_41 : decode cJ6_bitCount_0f7a4 41 = .ok (.iload_n 0, 1) := dzr zhdJ6_bitCount_0f7a4_32 8 rfl
theorem dJ6_bitCount_0f7a4_42 : decode cJ6_bitCount_0f7a4 42 = .ok (.iload_n 0, 1) := dzr zhdJ6_bitCount_0f7a4_32 9 rfl
theorem dJ6_bitCount_0f7a4_43 : decode cJ6_bitCount_0f7a4 43 = .ok (.bipush 16, 2) := dzr zhdJ6_bitCount_0f7a4_32 10 rfl
theorem dJ6_bitCount_0f7a4_45 : decode cJ6_bitCount_0f7a4 45 = .ok (.iushr, 1) := dzr zhdJ6_bitCount_0f7a4_32 11 rfl
theorem dJ6_bitCount_0f7a4_46 : decode cJ6_bitCount_0f7a4 46 = .ok (.iadd, 1) := dzr zhdJ6_bitCount_0f7a4_32 12 rfl
theorem dJ6_bitCount_0f7a4_47 : decode cJ6_bitCount_0f7a4 47 = .ok (.istore_n 0, 1) := dzr zhdJ6_bitCount_0f7a4_32 13 rfl
theorem dJ6_bitCount_0f7a4_48 : decode cJ6_bitCount_0f7a4 48 = .ok (.iload_n 0, 1) := dzr zhdJ6_bitCount_0f7a4_32 14 rfl
theorem dJ6_bitCount_0f7a4_49 : decode cJ6_bitCount_0f7a4 49 = .ok (.bipush 63, 2) := dzr zhdJ6_bitCount_0f7a4_32 15 rfl
theorem dJ6_bitCount_0f7a4_51 : decode cJ6_bitCount_0f7a4 51 = .ok (.iand, 1) := dzr zhdJ6_bitCount_0f7a4_32 16 rfl
theorem dJ6_bitCount_0f7a4_52 : decode cJ6_bitCount_0f7a4 52 = .ok (.ireturn, 1) := dzr zhdJ6_bitCount_0f7a4_32 17 rfl
def ztdJ9_abs_0f7a4_0 : List (Nat × Instr × Nat) := [(0, .iload_n 0, 1), (1, .ifCond .ge 8, 3), (4, .iload_n 0, 1), (5, .ineg, 1), (6, .goto 4, 3), (9, .iload_n 0, 1), (10, .ireturn, 1)]
theorem zhdJ9_abs_0f7a4_0 : dzC ztdJ9_abs_0f7a4_0 0 (cJ9_abs_0f7a4.data.toList.drop 0) = true := by decide +kernel
theorem dJ9_abs_0f7a4_0 : decode cJ9_abs_0f7a4 0 = .ok (.iload_n 0, 1) := dzr zhdJ9_abs_0f7a4_0 0 rfl
theorem dJ9_abs_0f7a4_1 : decode cJ9_abs_0f7a4 1 = .ok (.ifCond .ge 8, 3) := dzr zhdJ9_abs_0f7a4_0 1 rfl
theorem dJ9_abs_0f7a4_4 : decode cJ9_abs_0f7a4 4 = .ok (.iload_n 0, 1) := dzr zhdJ9_abs_0f7a4_0 2 rfl
theorem dJ9_abs_0f7a4_5 : decode cJ9_abs_0f7a4 5 = .ok (.ineg, 1) := dzr zhdJ9_abs_0f7a4_0 3 rfl
theorem dJ9_abs_0f7a4_6 : decode cJ9_abs_0f7a4 6 = .ok (.goto 4, 3) := dzr zhdJ9_abs_0f7a4_0 4 rfl
theorem dJ9_abs_0f7a4_9 : decode cJ9_abs_0f7a4 9 = .ok (.iload_n 0, 1) := dzr zhdJ9_abs_0f7a4_0 5 rfl
theorem dJ9_abs_0f7a4_10 : decode cJ9_abs_0f7a4 10 = .ok (.ireturn, 1) := dzr zhdJ9_abs_0f7a4_0 6 rfl
def ztdJ9_max_7cf53_0 : List (Nat × Instr × Nat) := [(0, .iload_n 0, 1), (1, .iload_n 1, 1), (2, .if_icmp .lt 7, 3), (5, .iload_n 0, 1), (6, .goto 4, 3), (9, .iload_n 1, 1), (10, .ireturn, 1)]
theorem zhdJ9_max_7cf53_0 : dzC ztdJ9_max_7cf53_0 0 (cJ9_max_7cf53.data.toList.drop 0) = true := by decide +kernel
theorem dJ9_max_7cf53_0 : decode cJ9_max_7cf53 0 = .ok (.iload_n 0, 1) := dzr zhdJ9_max_7cf53_0 0 rfl
theorem dJ9_max_7cf53_1 : decode cJ9_max_7cf53 1 = .ok (.iload_n 1, 1) := dzr zhdJ9_max_7cf53_0 1 rfl
theorem dJ9_max_7cf53_2 : decode cJ9_max_7cf53 2 = .ok (.if_icmp .lt 7, 3) := dzr zhdJ9_max_7cf53_0 2 rfl
theorem dJ9_max_7cf53_5 : decode cJ9_max_7cf53 5 = .ok (.iload_n 0, 1) := dzr zhdJ9_max_7cf53_0 3 rfl
theorem dJ9_max_7cf53_6 : decode cJ9_max_7cf53 6 = .ok (.goto 4, 3) := dzr zhdJ9_max_7cf53_0 4 rfl
theorem dJ9_max_7cf53_9 : decode cJ9_max_7cf53 9 = .ok (.iload_n 1, 1) := dzr zhdJ9_max_7cf53_0 5 rfl
theorem dJ9_max_7cf53_10 : decode cJ9_max_7cf53 10 = .ok (.ireturn, 1) := dzr zhdJ9_max_7cf53_0 6 rfl
def ztdJ9_max_f86c9_0 : List (Nat × Instr × Nat) := [(0, .lload_n 0, 1), (1, .lload_n 2, 1), (2, .lcmp, 1), (3, .ifCond .lt 7, 3), (6, .lload_n 0, 1), (7, .goto 4, 3), (10, .lload_n 2, 1), (11, .lreturn, 1)]
theorem zhdJ9_max_f86c9_0 : dzC ztdJ9_max_f86c9_0 0 (cJ9_max_f86c9.data.toList.drop 0) = true := by decide +kernel
theorem dJ9_max_f86c9_0 : decode cJ9_max_f86c9 0 = .ok (.lload_n 0, 1) := dzr zhdJ9_max_f86c9_0 0 rfl
theorem dJ9_max_f86c9_1 : decode cJ9_max_f86c9 1 = .ok (.lload_n 2, 1) := dzr zhdJ9_max_f86c9_0 1 rfl
theorem dJ9_max_f86c9_2 : decode cJ9_max_f86c9 2 = .ok (.lcmp, 1) := dzr zhdJ9_max_f86c9_0 2 rfl
theorem dJ9_max_f86c9_3 : decode cJ9_max_f86c9 3 = .ok (.ifCond .lt 7, 3) := dzr zhdJ9_max_f86c9_0 3 rfl
theorem dJ9_max_f86c9_6 : decode cJ9_max_f86c9 6 = .ok (.lload_n 0, 1) := dzr zhdJ9_max_f86c9_0 4 rfl
theorem dJ9_max_f86c9_7 : decode cJ9_max_f86c9 7 = .ok (.goto 4, 3) := dzr zhdJ9_max_f86c9_0 5 rfl
theorem dJ9_max_f86c9_10 : decode cJ9_max_f86c9 10 = .ok (.lload_n 2, 1) := dzr zhdJ9_max_f86c9_0 6 rfl
theorem dJ9_max_f86c9_11 : decode cJ9_max_f86c9 11 = .ok (.lreturn, 1) := dzr zhdJ9_max_f86c9_0 7 rfl
def ztdJ9_min_7cf53_0 : List (Nat × Instr × Nat) := [(0, .iload_n 0, 1), (1, .iload_n 1, 1), (2, .if_icmp .gt 7, 3), (5, .iload_n 0, 1), (6, .goto 4, 3), (9, .iload_n 1, 1), (10, .ireturn, 1)]
theorem zhdJ9_min_7cf53_0 : dzC ztdJ9_min_7cf53_0 0 (cJ9_min_7cf53.data.toList.drop 0) = true := by decide +kernel
theorem dJ9_min_7cf53_0 : decode cJ9_min_7cf53 0 = .ok (.iload_n 0, 1) := dzr zhdJ9_min_7cf53_0 0 rfl
theorem dJ9_min_7cf53_1 : decode cJ9_min_7cf53 1 = .ok (.iload_n 1, 1) := dzr zhdJ9_min_7cf53_0 1 rfl
theorem dJ9_min_7cf53_2 : decode cJ9_min_7cf53 2 = .ok (.if_icmp .gt 7, 3) := dzr zhdJ9_min_7cf53_0 2 rfl
theorem dJ9_min_7cf53_5 : decode cJ9_min_7cf53 5 = .ok (.iload_n 0, 1) := dzr zhdJ9_min_7cf53_0 3 rfl
theorem dJ9_min_7cf53_6 : decode cJ9_min_7cf53 6 = .ok (.goto 4, 3) := dzr zhdJ9_min_7cf53_0 4 rfl
theorem dJ9_min_7cf53_9 : decode cJ9_min_7cf53 9 = .ok (.iload_n 1, 1) := dzr zhdJ9_min_7cf53_0 5 rfl
theorem dJ9_min_7cf53_10 : decode cJ9_min_7cf53 10 = .ok (.ireturn, 1) := dzr zhdJ9_min_7cf53_0 6 rfl
def ztdJ9_min_f86c9_0 : List (Nat × Instr × Nat) := [(0, .lload_n 0, 1), (1, .lload_n 2, 1), (2, .lcmp, 1), (3, .ifCond .gt 7, 3), (6, .lload_n 0, 1), (7, .goto 4, 3), (10, .lload_n 2, 1), (11, .lreturn, 1)]
theorem zhdJ9_min_f86c9_0 : dzC ztdJ9_min_f86c9_0 0 (cJ9_min_f86c9.data.toList.drop 0) = true := by decide +kernel
theorem dJ9_min_f86c9_0 : decode cJ9_min_f86c9 0 = .ok (.lload_n 0, 1) := dzr zhdJ9_min_f86c9_0 0 rfl
theorem dJ9_min_f86c9_1 : decode cJ9_min_f86c9 1 = .ok (.lload_n 2, 1) := dzr zhdJ9_min_f86c9_0 1 rfl
theorem dJ9_min_f86c9_2 : decode cJ9_min_f86c9 2 = .ok (.lcmp, 1) := dzr zhdJ9_min_f86c9_0 2 rfl
theorem dJ9_min_f86c9_3 : decode cJ9_min_f86c9 3 = .ok (.ifCond .gt 7, 3) := dzr zhdJ9_min_f86c9_0 3 rfl
theorem dJ9_min_f86c9_6 : decode cJ9_min_f86c9 6 = .ok (.lload_n 0, 1) := dzr zhdJ9_min_f86c9_0 4 rfl
theorem dJ9_min_f86c9_7 : decode cJ9_min_f86c9 7 = .ok (.goto 4, 3) := dzr zhdJ9_min_f86c9_0 5 rfl
theorem dJ9_min_f86c9_10 : decode cJ9_min_f86c9 10 = .ok (.lload_n 2, 1) := dzr zhdJ9_min_f86c9_0 6 rfl
theorem dJ9_min_f86c9_11 : decode cJ9_min_f86c9 11 = .ok (.lreturn, 1) := dzr zhdJ9_min_f86c9_0 7 rfl
