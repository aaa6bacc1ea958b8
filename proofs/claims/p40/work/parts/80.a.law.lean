theorem ggL_glove_X11_glove : GoodIn wsL_glove wsX11_glove := (bg_up (bg_law (bi_wsL_law0_r24 _ (List.mem_of_getElem? (i := 2) rfl))))
theorem gL_glove_X11_glove : GoodIn wsL_glove (wsV RL 7 RX11 yX11_glove wsX11_glove) := goodIn_app (bg_up (bg_cons (bi_wsL_law0_r23 _ (List.mem_of_getElem? (i := 23) rfl)) (bg_cons (bi_wsL_law0_r24 _ (List.mem_of_getElem? (i := 0) rfl)) (bg_cons (bi_wsL_law0_r24 _ (List.mem_of_getElem? (i := 1) rfl)) (bg_cons (bi_wsL_law0_r1 _ (List.mem_of_getElem? (i := 2) rfl)) bg_nil))))) (bg_up (bg_law (bi_wsL_law0_r24 _ (List.mem_of_getElem? (i := 2) rfl))))
def ztdL_glove_0 : List (Nat × Instr × Nat) := [(0, .aload_n 3, 1), (1, .iconst 0, 1), (2, .aload_n 0, 1), (3, .iload_n 1, 1), (4, .iload_n 2, 1), (5, .invokevirtual 7, 3), (8, .i2l, 1), (9, .lastore, 1), (10, .goto 7, 3), (13, .astore 4, 2), (15, .iconst 1, 1), (16, .ireturn, 1), (17, .iconst 0, 1), (18, .ireturn, 1)]
theorem zhdL_glove_0 : dzC ztdL_glove_0 0 (cL_glove.data.toList.drop 0) = true := by decide +kernel
theorem dL_glove_0 : decode cL_glove 0 = .ok (.aload_n 3, 1) := dzr zhdL_glove_0 0 rfl
theorem dL_glove_1 : decode cL_glove 1 = .ok (.iconst 0, 1) := dzr zhdL_glove_0 1 rfl
theorem dL_glove_2 : decode cL_glove 2 = .ok (.aload_n 0, 1) := dzr zhdL_glove_0 2 rfl
theorem dL_glove_3 : decode cL_glove 3 = .ok (.iload_n 1, 1) := dzr zhdL_glove_0 3 rfl
theorem dL_glove_4 : decode cL_glove 4 = .ok (.iload_n 2, 1) := dzr zhdL_glove_0 4 rfl
theorem dL_glove_5 : decode cL_glove 5 = .ok (.invokevirtual 7, 3) := dzr zhdL_glove_0 5 rfl
theorem dL_glove_8 : decode cL_glove 8 = .ok (.i2l, 1) := dzr zhdL_glove_0 6 rfl
theorem dL_glove_9 : decode cL_glove 9 = .ok (.lastore, 1) := dzr zhdL_glove_0 7 rfl
theorem dL_glove_10 : decode cL_glove 10 = .ok (.goto 7, 3) := dzr zhdL_glove_0 8 rfl
theorem dL_glove_13 : decode cL_glove 13 = .ok (.astore 4, 2) := dzr zhdL_glove_0 9 rfl
theorem dL_glove_15 : decode cL_glove 15 = .ok (.iconst 1, 1) := dzr zhdL_glove_0 10 rfl
theorem dL_glove_16 : decode cL_glove 16 = .ok (.ireturn, 1) := dzr zhdL_glove_0 11 rfl
theorem dL_glove_17 : decode cL_glove 17 = .ok (.iconst 0, 1) := dzr zhdL_glove_0 12 rfl
theorem dL_glove_18 : decode cL_glove 18 = .ok (.ireturn, 1) := dzr zhdL_glove_0 13 rfl
theorem ggL_law_X11_init : GoodIn wsL_law wsX11_init := (bg_law (bi_wsL_law0_r1 _ (List.mem_of_getElem? (i := 10) rfl)))
theorem gL_law_X11_init : GoodIn wsL_law (wsX11_init) := (bg_law (bi_wsL_law0_r1 _ (List.mem_of_getElem? (i := 10) rfl)))
theorem ggL_law_X12_init : GoodIn wsL_law wsX12_init := (bg_law (bi_wsL_law0_r6 _ (List.mem_of_getElem? (i := 21) rfl)))
theorem gL_law_X12_init : GoodIn wsL_law (wsX12_init) := (bg_law (bi_wsL_law0_r6 _ (List.mem_of_getElem? (i := 21) rfl)))
theorem ggL_law_X11_feed : GoodIn wsL_law wsX11_feed := (bg_law (bi_wsL_law0_r8 _ (List.mem_of_getElem? (i := 6) rfl)))
theorem gL_law_X11_feed : GoodIn wsL_law (wsV RL 19 RX11 yX11_feed wsX11_feed) := goodIn_app (bg_cons (bi_wsL_law0_r8 _ (List.mem_of_getElem? (i := 3) rfl)) (bg_cons (bi_wsL_law0_r8 _ (List.mem_of_getElem? (i := 4) rfl)) (bg_cons (bi_wsL_law0_r8 _ (List.mem_of_getElem? (i := 5) rfl)) (bg_cons (bi_wsL_law0_r1 _ (List.mem_of_getElem? (i := 2) rfl)) bg_nil)))) (bg_law (bi_wsL_law0_r8 _ (List.mem_of_getElem? (i := 6) rfl)))
theorem ggL_law_X12_feed : GoodIn wsL_law wsX12_feed := (bg_law (bi_wsL_law0_r8 _ (List.mem_of_getElem? (i := 19) rfl)))
theorem gL_law_X12_feed : GoodIn wsL_law (wsV RL 23 RX12 yX12_feed wsX12_feed) := goodIn_app (bg_cons (bi_wsL_law0_r8 _ (List.mem_of_getElem? (i := 16) rfl)) (bg_cons (bi_wsL_law0_r8 _ (List.mem_of_getElem? (i := 17) rfl)) (bg_cons (bi_wsL_law0_r8 _ (List.mem_of_getElem? (i := 18) rfl)) (bg_cons (bi_wsL_law0_r1 _ (List.mem_of_getElem? (i := 5) rfl)) bg_nil)))) (bg_law (bi_wsL_law0_r8 _ (List.mem_of_getElem? (i := 19) rfl)))
theorem ggL_law_X11_end : GoodIn wsL_law wsX11_end := (bg_law (bi_wsL_law0_r9 _ (List.mem_of_getElem? (i := 3) rfl)))
theorem gL_law_X11_end : GoodIn wsL_law (wsV RL 24 RX11 yX11_end wsX11_end) := goodIn_app (bg_cons (bi_wsL_law0_r9 _ (List.mem_of_getElem? (i := 0) rfl)) (bg_cons (bi_wsL_law0_r9 _ (List.mem_of_getElem? (i := 1) rfl)) (bg_cons (bi_wsL_law0_r9 _ (List.mem_of_getElem? (i := 2) rfl)) (bg_cons (bi_wsL_law0_r1 _ (List.mem_of_getElem? (i := 2) rfl)) bg_nil)))) (bg_law (bi_wsL_law0_r9 _ (List.mem_of_getElem? (i := 3) rfl)))
theorem ggL_law_X12_end : GoodIn wsL_law wsX12_end := (bg_law (bi_wsL_law0_r9 _ (List.mem_of_getElem? (i := 7) rfl)))
theorem gL_law_X12_end : GoodIn wsL_law (wsV RL 28 RX12 yX12_end wsX12_end) := goodIn_app (bg_cons (bi_wsL_law0_r9 _ (List.mem_of_getElem? (i := 4) rfl)) (bg_cons (bi_wsL_law0_r9 _ (List.mem_of_getElem? (i := 5) rfl)) (bg_cons (bi_wsL_law0_r9 _ (List.mem_of_getElem? (i := 6) rfl)) (bg_cons (bi_wsL_law0_r1 _ (List.mem_of_getElem? (i := 5) rfl)) bg_nil)))) (bg_law (bi_wsL_law0_r9 _ (List.mem_of_getElem? (i := 7) rfl)))
theorem ggL_law_X11_fault : GoodIn wsL_law wsX11_fault := (bg_law (bi_wsL_law0_r9 _ (List.mem_of_getElem? (i := 11) rfl)))
theorem gL_law_X11_fault : GoodIn wsL_law (wsV RL 29 RX11 yX11_fault wsX11_fault) := goodIn_app (bg_cons (bi_wsL_law0_r9 _ (List.mem_of_getElem? (i := 8) rfl)) (bg_cons (bi_wsL_law0_r9 _ (List.mem_of_getElem? (i := 9) rfl)) (bg_cons (bi_wsL_law0_r9 _ (List.mem_of_getElem? (i := 10) rfl)) (bg_cons (bi_wsL_law0_r1 _ (List.mem_of_getElem? (i := 2) rfl)) bg_nil)))) (bg_law (bi_wsL_law0_r9 _ (List.mem_of_getElem? (i := 11) rfl)))
theorem ggL_law_X12_fault : GoodIn wsL_law wsX12_fault := (bg_law (bi_wsL_law0_r14 _ (List.mem_of_getElem? (i := 23) rfl)))
theorem gL_law_X12_fault : GoodIn wsL_law (wsV RL 33 RX12 yX12_fault wsX12_fault) := goodIn_app (bg_cons (bi_wsL_law0_r14 _ (List.mem_of_getElem? (i := 20) rfl)) (bg_cons (bi_wsL_law0_r14 _ (List.mem_of_getElem? (i := 21) rfl)) (bg_cons (bi_wsL_law0_r14 _ (List.mem_of_getElem? (i := 22) rfl)) (bg_cons (bi_wsL_law0_r1 _ (List.mem_of_getElem? (i := 5) rfl)) bg_nil)))) (bg_law (bi_wsL_law0_r14 _ (List.mem_of_getElem? (i := 23) rfl)))
theorem ggL_law_X11_text : GoodIn wsL_law wsX11_text := (bg_law (bi_wsL_law0_r20 _ (List.mem_of_getElem? (i := 5) rfl)))
theorem gL_law_X11_text : GoodIn wsL_law (wsV RL 34 RX11 yX11_text wsX11_text) := goodIn_app (bg_cons (bi_wsL_law0_r20 _ (List.mem_of_getElem? (i := 2) rfl)) (bg_cons (bi_wsL_law0_r20 _ (List.mem_of_getElem? (i := 3) rfl)) (bg_cons (bi_wsL_law0_r20 _ (List.mem_of_getElem? (i := 4) rfl)) (bg_cons (bi_wsL_law0_r1 _ (List.mem_of_getElem? (i := 2) rfl)) bg_nil)))) (bg_law (bi_wsL_law0_r20 _ (List.mem_of_getElem? (i := 5) rfl)))
theorem ggL_law_X12_text : GoodIn wsL_law wsX12_text := (bg_law (bi_wsL_law0_r22 _ (List.mem_of_getElem? (i := 7) rfl)))
theorem gL_law_X12_text : GoodIn wsL_law (wsV RL 37 RX12 yX12_text wsX12_text) := goodIn_app (bg_cons (bi_wsL_law0_r22 _ (List.mem_of_getElem? (i := 4) rfl)) (bg_cons (bi_wsL_law0_r22 _ (List.mem_of_getElem? (i := 5) rfl)) (bg_cons (bi_wsL_law0_r22 _ (List.mem_of_getElem? (i := 6) rfl)) (bg_cons (bi_wsL_law0_r1 _ (List.mem_of_getElem? (i := 5) rfl)) bg_nil)))) (bg_law (bi_wsL_law0_r22 _ (List.mem_of_getElem? (i := 7) rfl)))
theorem ggL_law_X11_rule : GoodIn wsL_law wsX11_rule := (bg_law (bi_wsL_law0_r23 _ (List.mem_of_getElem? (i := 1) rfl)))
theorem gL_law_X11_rule : GoodIn wsL_law (wsV RL 38 RX11 yX11_rule wsX11_rule) := goodIn_app (bg_cons (bi_wsL_law0_r22 _ (List.mem_of_getElem? (i := 22) rfl)) (bg_cons (bi_wsL_law0_r22 _ (List.mem_of_getElem? (i := 23) rfl)) (bg_cons (bi_wsL_law0_r23 _ (List.mem_of_getElem? (i := 0) rfl)) (bg_cons (bi_wsL_law0_r1 _ (List.mem_of_getElem? (i := 2) rfl)) bg_nil)))) (bg_law (bi_wsL_law0_r23 _ (List.mem_of_getElem? (i := 1) rfl)))
theorem ggL_law_X12_rule : GoodIn wsL_law wsX12_rule := (bg_law (bi_wsL_law0_r23 _ (List.mem_of_getElem? (i := 17) rfl)))
theorem gL_law_X12_rule : GoodIn wsL_law (wsV RL 41 RX12 yX12_rule wsX12_rule) := goodIn_app (bg_cons (bi_wsL_law0_r23 _ (List.mem_of_getElem? (i := 14) rfl)) (bg_cons (bi_wsL_law0_r23 _ (List.mem_of_getElem? (i := 15) rfl)) (bg_cons (bi_wsL_law0_r23 _ (List.mem_of_getElem? (i := 16) rfl)) (bg_cons (bi_wsL_law0_r1 _ (List.mem_of_getElem? (i := 5) rfl)) bg_nil)))) (bg_law (bi_wsL_law0_r23 _ (List.mem_of_getElem? (i := 17) rfl)))
theorem ggL_law_L_glove : GoodIn wsL_law wsL_glove := (bg_law (bi_wsL_law0_r23 _ (List.mem_of_getElem? (i := 21) rfl)))
theorem gL_law_L_glove : GoodIn wsL_law (va_wsS RL 42 yL_glove wsL_glove) := goodIn_app (bg_cons (bi_wsL_law0_r23 _ (List.mem_of_getElem? (i := 18) rfl)) (bg_cons (bi_wsL_law0_r23 _ (List.mem_of_getElem? (i := 19) rfl)) (bg_cons (bi_wsL_law0_r23 _ (List.mem_of_getElem? (i := 20) rfl)) bg_nil))) (bg_law (bi_wsL_law0_r23 _ (List.mem_of_getElem? (i := 21) rfl)))
theorem ggL_law_X12_glove : GoodIn wsL_law wsX12_glove := (bg_law (bi_wsL_law0_r25 _ (List.mem_of_getElem? (i := 6) rfl)))
theorem gL_law_X12_glove : GoodIn wsL_law (wsV RL 47 RX12 yX12_glove wsX12_glove) := goodIn_app (bg_cons (bi_wsL_law0_r25 _ (List.mem_of_getElem? (i := 3) rfl)) (bg_cons (bi_wsL_law0_r25 _ (List.mem_of_getElem? (i := 4) rfl)) (bg_cons (bi_wsL_law0_r25 _ (List.mem_of_getElem? (i := 5) rfl)) (bg_cons (bi_wsL_law0_r1 _ (List.mem_of_getElem? (i := 5) rfl)) bg_nil)))) (bg_law (bi_wsL_law0_r25 _ (List.mem_of_getElem? (i := 6) rfl)))
theorem ggL_law_X11_matter : GoodIn wsL_law wsX11_matter := (bg_law (bi_wsL_law0_r25 _ (List.mem_of_getElem? (i := 19) rfl)))
theorem gL_law_X11_matter : GoodIn wsL_law (wsV RL 48 RX11 yX11_matter wsX11_matter) := goodIn_app (bg_cons (bi_wsL_law0_r25 _ (List.mem_of_getElem? (i := 16) rfl)) (bg_cons (bi_wsL_law0_r25 _ (List.mem_of_getElem? (i := 17) rfl)) (bg_cons (bi_wsL_law0_r25 _ (List.mem_of_getElem? (i := 18) rfl)) (bg_cons (bi_wsL_law0_r1 _ (List.mem_of_getElem? (i := 2) rfl)) bg_nil)))) (bg_law (bi_wsL_law0_r25 _ (List.mem_of_getElem? (i := 19) rfl)))
theorem ggL_law_X12_matter : GoodIn wsL_law wsX12_matter := (bg_law (bi_wsL_law0_r26 _ (List.mem_of_getElem? (i := 9) rfl)))
theorem gL_law_X12_matter : GoodIn wsL_law (wsV RL 51 RX12 yX12_matter wsX12_matter) := goodIn_app (bg_cons (bi_wsL_law0_r26 _ (List.mem_of_getElem? (i := 6) rfl)) (bg_cons (bi_wsL_law0_r26 _ (List.mem_of_getElem? (i := 7) rfl)) (bg_cons (bi_wsL_law0_r26 _ (List.mem_of_getElem? (i := 8) rfl)) (bg_cons (bi_wsL_law0_r1 _ (List.mem_of_getElem? (i := 5) rfl)) bg_nil)))) (bg_law (bi_wsL_law0_r26 _ (List.mem_of_getElem? (i := 9) rfl)))
theorem ggL_law_X11_warmth : GoodIn wsL_law wsX11_warmth := (bg_law (bi_wsL_law0_r26 _ (List.mem_of_getElem? (i := 17) rfl)))
theorem gL_law_X11_warmth : GoodIn wsL_law (wsV RL 52 RX11 yX11_warmth wsX11_warmth) := goodIn_app (bg_cons (bi_wsL_law0_r26 _ (List.mem_of_getElem? (i := 14) rfl)) (bg_cons (bi_wsL_law0_r26 _ (List.mem_of_getElem? (i := 15) rfl)) (bg_cons (bi_wsL_law0_r26 _ (List.mem_of_getElem? (i := 16) rfl)) (bg_cons (bi_wsL_law0_r1 _ (List.mem_of_getElem? (i := 2) rfl)) bg_nil)))) (bg_law (bi_wsL_law0_r26 _ (List.mem_of_getElem? (i := 17) rfl)))
theorem ggL_law_X12_warmth : GoodIn wsL_law wsX12_warmth := (bg_law (bi_wsL_law0_r27 _ (List.mem_of_getElem? (i := 9) rfl)))
theorem gL_law_X12_warmth : GoodIn wsL_law (wsV RL 55 RX12 yX12_warmth wsX12_warmth) := goodIn_app (bg_cons (bi_wsL_law0_r27 _ (List.mem_of_getElem? (i := 6) rfl)) (bg_cons (bi_wsL_law0_r27 _ (List.mem_of_getElem? (i := 7) rfl)) (bg_cons (bi_wsL_law0_r27 _ (List.mem_of_getElem? (i := 8) rfl)) (bg_cons (bi_wsL_law0_r1 _ (List.mem_of_getElem? (i := 5) rfl)) bg_nil)))) (bg_law (bi_wsL_law0_r27 _ (List.mem_of_getElem? (i := 9) rfl)))
theorem ggL_law_X11_law : GoodIn wsL_law wsX11_law := (bg_law (bi_wsL_law0_r28 _ (List.mem_of_getElem? (i := 3) rfl)))
theorem gL_law_X11_law : GoodIn wsL_law (wsV RL 56 RX11 yX11_law wsX11_law) := goodIn_app (bg_cons (bi_wsL_law0_r28 _ (List.mem_of_getElem? (i := 0) rfl)) (bg_cons (bi_wsL_law0_r28 _ (List.mem_of_getElem? (i := 1) rfl)) (bg_cons (bi_wsL_law0_r28 _ (List.mem_of_getElem? (i := 2) rfl)) (bg_cons (bi_wsL_law0_r1 _ (List.mem_of_getElem? (i := 2) rfl)) bg_nil)))) (bg_law (bi_wsL_law0_r28 _ (List.mem_of_getElem? (i := 3) rfl)))
theorem ggL_law_X12_law : GoodIn wsL_law wsX12_law := (bg_law (bi_wsL_law0_r28 _ (List.mem_of_getElem? (i := 8) rfl)))
theorem gL_law_X12_law : GoodIn wsL_law (wsV RL 59 RX12 yX12_law wsX12_law) := goodIn_app (bg_cons (bi_wsL_law0_r28 _ (List.mem_of_getElem? (i := 5) rfl)) (bg_cons (bi_wsL_law0_r28 _ (List.mem_of_getElem? (i := 6) rfl)) (bg_cons (bi_wsL_law0_r28 _ (List.mem_of_getElem? (i := 7) rfl)) (bg_cons (bi_wsL_law0_r1 _ (List.mem_of_getElem? (i := 5) rfl)) bg_nil)))) (bg_law (bi_wsL_law0_r28 _ (List.mem_of_getElem? (i := 8) rfl)))
theorem ggL_law_X11_meets : GoodIn wsL_law wsX11_meets := (bg_law (bi_wsL_law0_r28 _ (List.mem_of_getElem? (i := 12) rfl)))
theorem gL_law_X11_meets : GoodIn wsL_law (wsV RL 60 RX11 yX11_meets wsX11_meets) := goodIn_app (bg_cons (bi_wsL_law0_r28 _ (List.mem_of_getElem? (i := 9) rfl)) (bg_cons (bi_wsL_law0_r28 _ (List.mem_of_getElem? (i := 10) rfl)) (bg_cons (bi_wsL_law0_r28 _ (List.mem_of_getElem? (i := 11) rfl)) (bg_cons (bi_wsL_law0_r1 _ (List.mem_of_getElem? (i := 2) rfl)) bg_nil)))) (bg_law (bi_wsL_law0_r28 _ (List.mem_of_getElem? (i := 12) rfl)))
theorem ggL_law_X12_meets : GoodIn wsL_law wsX12_meets := (bg_law (bi_wsL_law0_r31 _ (List.mem_of_getElem? (i := 14) rfl)))
theorem gL_law_X12_meets : GoodIn wsL_law (wsV RL 63 RX12 yX12_meets wsX12_meets) := goodIn_app (bg_cons (bi_wsL_law0_r31 _ (List.mem_of_getElem? (i := 11) rfl)) (bg_cons (bi_wsL_law0_r31 _ (List.mem_of_getElem? (i := 12) rfl)) (bg_cons (bi_wsL_law0_r31 _ (List.mem_of_getElem? (i := 13) rfl)) (bg_cons (bi_wsL_law0_r1 _ (List.mem_of_getElem? (i := 5) rfl)) bg_nil)))) (bg_law (bi_wsL_law0_r31 _ (List.mem_of_getElem? (i := 14) rfl)))
theorem ggL_law_X11_loosen : GoodIn wsL_law wsX11_loosen := (bg_law (bi_wsL_law0_r34 _ (List.mem_of_getElem? (i := 6) rfl)))
theorem gL_law_X11_loosen : GoodIn wsL_law (wsV RL 64 RX11 yX11_loosen wsX11_loosen) := goodIn_app (bg_cons (bi_wsL_law0_r34 _ (List.mem_of_getElem? (i := 3) rfl)) (bg_cons (bi_wsL_law0_r34 _ (List.mem_of_getElem? (i := 4) rfl)) (bg_cons (bi_wsL_law0_r34 _ (List.mem_of_getElem? (i := 5) rfl)) (bg_cons (bi_wsL_law0_r1 _ (List.mem_of_getElem? (i := 2) rfl)) bg_nil)))) (bg_law (bi_wsL_law0_r34 _ (List.mem_of_getElem? (i := 6) rfl)))
theorem ggL_law_X12_loosen : GoodIn wsL_law wsX12_loosen := (bg_law (bi_wsL_law0_r34 _ (List.mem_of_getElem? (i := 14) rfl)))
theorem gL_law_X12_loosen : GoodIn wsL_law (wsV RL 67 RX12 yX12_loosen wsX12_loosen) := goodIn_app (bg_cons (bi_wsL_law0_r34 _ (List.mem_of_getElem? (i := 11) rfl)) (bg_cons (bi_wsL_law0_r34 _ (List.mem_of_getElem? (i := 12) rfl)) (bg_cons (bi_wsL_law0_r34 _ (List.mem_of_getElem? (i := 13) rfl)) (bg_cons (bi_wsL_law0_r1 _ (List.mem_of_getElem? (i := 5) rfl)) bg_nil)))) (bg_law (bi_wsL_law0_r34 _ (List.mem_of_getElem? (i := 14) rfl)))
theorem ggL_law_X11_stuff : GoodIn wsL_law wsX11_stuff := (bg_law (bi_wsL_law0_r34 _ (List.mem_of_getElem? (i := 18) rfl)))
theorem gL_law_X11_stuff : GoodIn wsL_law (wsV RL 68 RX11 yX11_stuff wsX11_stuff) := goodIn_app (bg_cons (bi_wsL_law0_r34 _ (List.mem_of_getElem? (i := 15) rfl)) (bg_cons (bi_wsL_law0_r34 _ (List.mem_of_getElem? (i := 16) rfl)) (bg_cons (bi_wsL_law0_r34 _ (List.mem_of_getElem? (i := 17) rfl)) (bg_cons (bi_wsL_law0_r1 _ (List.mem_of_getElem? (i := 2) rfl)) bg_nil)))) (bg_law (bi_wsL_law0_r34 _ (List.mem_of_getElem? (i := 18) rfl)))
theorem ggL_law_X12_stuff : GoodIn wsL_law wsX12_stuff := (bg_law (bi_wsL_law0_r35 _ (List.mem_of_getElem? (i := 2) rfl)))
theorem gL_law_X12_stuff : GoodIn wsL_law (wsV RL 71 RX12 yX12_stuff wsX12_stuff) := goodIn_app (bg_cons (bi_wsL_law0_r34 _ (List.mem_of_getElem? (i := 23) rfl)) (bg_cons (bi_wsL_law0_r35 _ (List.mem_of_getElem? (i := 0) rfl)) (bg_cons (bi_wsL_law0_r35 _ (List.mem_of_getElem? (i := 1) rfl)) (bg_cons (bi_wsL_law0_r1 _ (List.mem_of_getElem? (i := 5) rfl)) bg_nil)))) (bg_law (bi_wsL_law0_r35 _ (List.mem_of_getElem? (i := 2) rfl)))
theorem ggL_law_X11_swallow : GoodIn wsL_law wsX11_swallow := (bg_law (bi_wsL_law0_r35 _ (List.mem_of_getElem? (i := 6) rfl)))
theorem gL_law_X11_swallow : GoodIn wsL_law (wsV RL 72 RX11 yX11_swallow wsX11_swallow) := goodIn_app (bg_cons (bi_wsL_law0_r35 _ (List.mem_of_getElem? (i := 3) rfl)) (bg_cons (bi_wsL_law0_r35 _ (List.mem_of_getElem? (i := 4) rfl)) (bg_cons (bi_wsL_law0_r35 _ (List.mem_of_getElem? (i := 5) rfl)) (bg_cons (bi_wsL_law0_r1 _ (List.mem_of_getElem? (i := 2) rfl)) bg_nil)))) (bg_law (bi_wsL_law0_r35 _ (List.mem_of_getElem? (i := 6) rfl)))
theorem ggL_law_X12_swallow : GoodIn wsL_law wsX12_swallow := (bg_law (bi_wsL_law0_r35 _ (List.mem_of_getElem? (i := 14) rfl)))
theorem gL_law_X12_swallow : GoodIn wsL_law (wsV RL 76 RX12 yX12_swallow wsX12_swallow) := goodIn_app (bg_cons (bi_wsL_law0_r35 _ (List.mem_of_getElem? (i := 11) rfl)) (bg_cons (bi_wsL_law0_r35 _ (List.mem_of_getElem? (i := 12) rfl)) (bg_cons (bi_wsL_law0_r35 _ (List.mem_of_getElem? (i := 13) rfl)) (bg_cons (bi_wsL_law0_r1 _ (List.mem_of_getElem? (i := 5) rfl)) bg_nil)))) (bg_law (bi_wsL_law0_r35 _ (List.mem_of_getElem? (i := 14) rfl)))
theorem ggL_law_X11_tear : GoodIn wsL_law wsX11_tear := (bg_law (bi_wsL_law0_r35 _ (List.mem_of_getElem? (i := 18) rfl)))
theorem gL_law_X11_tear : GoodIn wsL_law (wsV RL 77 RX11 yX11_tear wsX11_tear) := goodIn_app (bg_cons (bi_wsL_law0_r35 _ (List.mem_of_getElem? (i := 15) rfl)) (bg_cons (bi_wsL_law0_r35 _ (List.mem_of_getElem? (i := 16) rfl)) (bg_cons (bi_wsL_law0_r35 _ (List.mem_of_getElem? (i := 17) rfl)) (bg_cons (bi_wsL_law0_r1 _ (List.mem_of_getElem? (i := 2) rfl)) bg_nil)))) (bg_law (bi_wsL_law0_r35 _ (List.mem_of_getElem? (i := 18) rfl)))
theorem ggL_law_X12_tear : GoodIn wsL_law wsX12_tear := (bg_law (bi_wsL_law0_r36 _ (List.mem_of_getElem? (i := 6) rfl)))
theorem gL_law_X12_tear : GoodIn wsL_law (wsV RL 80 RX12 yX12_tear wsX12_tear) := goodIn_app (bg_cons (bi_wsL_law0_r36 _ (List.mem_of_getElem? (i := 3) rfl)) (bg_cons (bi_wsL_law0_r36 _ (List.mem_of_getElem? (i := 4) rfl)) (bg_cons (bi_wsL_law0_r36 _ (List.mem_of_getElem? (i := 5) rfl)) (bg_cons (bi_wsL_law0_r1 _ (List.mem_of_getElem? (i := 5) rfl)) bg_nil)))) (bg_law (bi_wsL_law0_r36 _ (List.mem_of_getElem? (i := 6) rfl)))
theorem ggL_law_X11_give : GoodIn wsL_law wsX11_give := (bg_law (bi_wsL_law0_r36 _ (List.mem_of_getElem? (i := 10) rfl)))
theorem gL_law_X11_give : GoodIn wsL_law (wsV RL 81 RX11 yX11_give wsX11_give) := goodIn_app (bg_cons (bi_wsL_law0_r36 _ (List.mem_of_getElem? (i := 7) rfl)) (bg_cons (bi_wsL_law0_r36 _ (List.mem_of_getElem? (i := 8) rfl)) (bg_cons (bi_wsL_law0_r36 _ (List.mem_of_getElem? (i := 9) rfl)) (bg_cons (bi_wsL_law0_r1 _ (List.mem_of_getElem? (i := 2) rfl)) bg_nil)))) (bg_law (bi_wsL_law0_r36 _ (List.mem_of_getElem? (i := 10) rfl)))
theorem ggL_law_X12_give : GoodIn wsL_law wsX12_give := (bg_law (bi_wsL_law0_r36 _ (List.mem_of_getElem? (i := 14) rfl)))
theorem gL_law_X12_give : GoodIn wsL_law (wsV RL 84 RX12 yX12_give wsX12_give) := goodIn_app (bg_cons (bi_wsL_law0_r36 _ (List.mem_of_getElem? (i := 11) rfl)) (bg_cons (bi_wsL_law0_r36 _ (List.mem_of_getElem? (i := 12) rfl)) (bg_cons (bi_wsL_law0_r36 _ (List.mem_of_getElem? (i := 13) rfl)) (bg_cons (bi_wsL_law0_r1 _ (List.mem_of_getElem? (i := 5) rfl)) bg_nil)))) (bg_law (bi_wsL_law0_r36 _ (List.mem_of_getElem? (i := 14) rfl)))
theorem ggL_law_X11_days : GoodIn wsL_law wsX11_days := (bg_law (bi_wsL_law0_r36 _ (List.mem_of_getElem? (i := 18) rfl)))
theorem gL_law_X11_days : GoodIn wsL_law (wsV RL 85 RX11 yX11_days wsX11_days) := goodIn_app (bg_cons (bi_wsL_law0_r36 _ (List.mem_of_getElem? (i := 15) rfl)) (bg_cons (bi_wsL_law0_r36 _ (List.mem_of_getElem? (i := 16) rfl)) (bg_cons (bi_wsL_law0_r36 _ (List.mem_of_getElem? (i := 17) rfl)) (bg_cons (bi_wsL_law0_r1 _ (List.mem_of_getElem? (i := 2) rfl)) bg_nil)))) (bg_law (bi_wsL_law0_r36 _ (List.mem_of_getElem? (i := 18) rfl)))
theorem ggL_law_X12_days : GoodIn wsL_law wsX12_days := (bg_law (bi_wsL_law0_r38 _ (List.mem_of_getElem? (i := 12) rfl)))
theorem gL_law_X12_days : GoodIn wsL_law (wsV RL 88 RX12 yX12_days wsX12_days) := goodIn_app (bg_cons (bi_wsL_law0_r38 _ (List.mem_of_getElem? (i := 9) rfl)) (bg_cons (bi_wsL_law0_r38 _ (List.mem_of_getElem? (i := 10) rfl)) (bg_cons (bi_wsL_law0_r38 _ (List.mem_of_getElem? (i := 11) rfl)) (bg_cons (bi_wsL_law0_r1 _ (List.mem_of_getElem? (i := 5) rfl)) bg_nil)))) (bg_law (bi_wsL_law0_r38 _ (List.mem_of_getElem? (i := 12) rfl)))
theorem ggL_law_X11_spite : GoodIn wsL_law wsX11_spite := (bg_law (bi_wsL_law0_r39 _ (List.mem_of_getElem? (i := 16) rfl)))
theorem gL_law_X11_spite : GoodIn wsL_law (wsV RL 89 RX11 yX11_spite wsX11_spite) := goodIn_app (bg_cons (bi_wsL_law0_r39 _ (List.mem_of_getElem? (i := 13) rfl)) (bg_cons (bi_wsL_law0_r39 _ (List.mem_of_getElem? (i := 14) rfl)) (bg_cons (bi_wsL_law0_r39 _ (List.mem_of_getElem? (i := 15) rfl)) (bg_cons (bi_wsL_law0_r1 _ (List.mem_of_getElem? (i := 2) rfl)) bg_nil)))) (bg_law (bi_wsL_law0_r39 _ (List.mem_of_getElem? (i := 16) rfl)))
theorem ggL_law_X12_spite : GoodIn wsL_law wsX12_spite := (bg_law (bi_wsL_law0_r39 _ (List.mem_of_getElem? (i := 20) rfl)))
theorem gL_law_X12_spite : GoodIn wsL_law (wsV RL 92 RX12 yX12_spite wsX12_spite) := goodIn_app (bg_cons (bi_wsL_law0_r39 _ (List.mem_of_getElem? (i := 17) rfl)) (bg_cons (bi_wsL_law0_r39 _ (List.mem_of_getElem? (i := 18) rfl)) (bg_cons (bi_wsL_law0_r39 _ (List.mem_of_getElem? (i := 19) rfl)) (bg_cons (bi_wsL_law0_r1 _ (List.mem_of_getElem? (i := 5) rfl)) bg_nil)))) (bg_law (bi_wsL_law0_r39 _ (List.mem_of_getElem? (i := 20) rfl)))
theorem ggL_law_X11_years : GoodIn wsL_law wsX11_years := (bg_law (bi_wsL_law0_r40 _ (List.mem_of_getElem? (i := 0) rfl)))
theorem gL_law_X11_years : GoodIn wsL_law (wsV RL 95 RX11 yX11_years wsX11_years) := goodIn_app (bg_cons (bi_wsL_law0_r39 _ (List.mem_of_getElem? (i := 21) rfl)) (bg_cons (bi_wsL_law0_r39 _ (List.mem_of_getElem? (i := 22) rfl)) (bg_cons (bi_wsL_law0_r39 _ (List.mem_of_getElem? (i := 23) rfl)) (bg_cons (bi_wsL_law0_r1 _ (List.mem_of_getElem? (i := 2) rfl)) bg_nil)))) (bg_law (bi_wsL_law0_r40 _ (List.mem_of_getElem? (i := 0) rfl)))
theorem ggL_law_X12_years : GoodIn wsL_law wsX12_years := (bg_law (bi_wsL_law0_r40 _ (List.mem_of_getElem? (i := 14) rfl)))
theorem gL_law_X12_years : GoodIn wsL_law (wsV RL 99 RX12 yX12_years wsX12_years) := goodIn_app (bg_cons (bi_wsL_law0_r40 _ (List.mem_of_getElem? (i := 11) rfl)) (bg_cons (bi_wsL_law0_r40 _ (List.mem_of_getElem? (i := 12) rfl)) (bg_cons (bi_wsL_law0_r40 _ (List.mem_of_getElem? (i := 13) rfl)) (bg_cons (bi_wsL_law0_r1 _ (List.mem_of_getElem? (i := 5) rfl)) bg_nil)))) (bg_law (bi_wsL_law0_r40 _ (List.mem_of_getElem? (i := 14) rfl)))
theorem ggL_law_X11_status : GoodIn wsL_law wsX11_status := (bg_law (bi_wsL_law0_r41 _ (List.mem_of_getElem? (i := 5) rfl)))
theorem gL_law_X11_status : GoodIn wsL_law (wsV RL 100 RX11 yX11_status wsX11_status) := goodIn_app (bg_cons (bi_wsL_law0_r41 _ (List.mem_of_getElem? (i := 2) rfl)) (bg_cons (bi_wsL_law0_r41 _ (List.mem_of_getElem? (i := 3) rfl)) (bg_cons (bi_wsL_law0_r41 _ (List.mem_of_getElem? (i := 4) rfl)) (bg_cons (bi_wsL_law0_r1 _ (List.mem_of_getElem? (i := 2) rfl)) bg_nil)))) (bg_law (bi_wsL_law0_r41 _ (List.mem_of_getElem? (i := 5) rfl)))
theorem ggL_law_X12_status : GoodIn wsL_law wsX12_status := (bg_law (bi_wsL_law0_r41 _ (List.mem_of_getElem? (i := 9) rfl)))
theorem gL_law_X12_status : GoodIn wsL_law (wsV RL 103 RX12 yX12_status wsX12_status) := goodIn_app (bg_cons (bi_wsL_law0_r41 _ (List.mem_of_getElem? (i := 6) rfl)) (bg_cons (bi_wsL_law0_r41 _ (List.mem_of_getElem? (i := 7) rfl)) (bg_cons (bi_wsL_law0_r41 _ (List.mem_of_getElem? (i := 8) rfl)) (bg_cons (bi_wsL_law0_r1 _ (List.mem_of_getElem? (i := 5) rfl)) bg_nil)))) (bg_law (bi_wsL_law0_r41 _ (List.mem_of_getElem? (i := 9) rfl)))
theorem ggL_law_X11_undo : GoodIn wsL_law wsX11_undo := (bg_law (bi_wsL_law0_r41 _ (List.mem_of_getElem? (i := 13) rfl)))
theorem gL_law_X11_undo : GoodIn wsL_law (wsV RL 104 RX11 yX11_undo wsX11_undo) := goodIn_app (bg_cons (bi_wsL_law0_r41 _ (List.mem_of_getElem? (i := 10) rfl)) (bg_cons (bi_wsL_law0_r41 _ (List.mem_of_getElem? (i := 11) rfl)) (bg_cons (bi_wsL_law0_r41 _ (List.mem_of_getElem? (i := 12) rfl)) (bg_cons (bi_wsL_law0_r1 _ (List.mem_of_getElem? (i := 2) rfl)) bg_nil)))) (bg_law (bi_wsL_law0_r41 _ (List.mem_of_getElem? (i := 13) rfl)))
theorem ggL_law_X12_undo : GoodIn wsL_law wsX12_undo := (bg_law (bi_wsL_law0_r41 _ (List.mem_of_getElem? (i := 22) rfl)))
theorem gL_law_X12_undo : GoodIn wsL_law (wsV RL 107 RX12 yX12_undo wsX12_undo) := goodIn_app (bg_cons (bi_wsL_law0_r41 _ (List.mem_of_getElem? (i := 19) rfl)) (bg_cons (bi_wsL_law0_r41 _ (List.mem_of_getElem? (i := 20) rfl)) (bg_cons (bi_wsL_law0_r41 _ (List.mem_of_getElem? (i := 21) rfl)) (bg_cons (bi_wsL_law0_r1 _ (List.mem_of_getElem? (i := 5) rfl)) bg_nil)))) (bg_law (bi_wsL_law0_r41 _ (List.mem_of_getElem? (i := 22) rfl)))
theorem ggL_law_X11_log : GoodIn wsL_law wsX11_log := (bg_law (bi_wsL_law0_r42 _ (List.mem_of_getElem? (i := 2) rfl)))
theorem gL_law_X11_log : GoodIn wsL_law (wsV RL 108 RX11 yX11_log wsX11_log) := goodIn_app (bg_cons (bi_wsL_law0_r41 _ (List.mem_of_getElem? (i := 23) rfl)) (bg_cons (bi_wsL_law0_r42 _ (List.mem_of_getElem? (i := 0) rfl)) (bg_cons (bi_wsL_law0_r42 _ (List.mem_of_getElem? (i := 1) rfl)) (bg_cons (bi_wsL_law0_r1 _ (List.mem_of_getElem? (i := 2) rfl)) bg_nil)))) (bg_law (bi_wsL_law0_r42 _ (List.mem_of_getElem? (i := 2) rfl)))
theorem ggL_law_X12_log : GoodIn wsL_law wsX12_log := (bg_law (bi_wsL_law0_r42 _ (List.mem_of_getElem? (i := 14) rfl)))
theorem gL_law_X12_log : GoodIn wsL_law (wsV RL 111 RX12 yX12_log wsX12_log) := goodIn_app (bg_cons (bi_wsL_law0_r42 _ (List.mem_of_getElem? (i := 11) rfl)) (bg_cons (bi_wsL_law0_r42 _ (List.mem_of_getElem? (i := 12) rfl)) (bg_cons (bi_wsL_law0_r42 _ (List.mem_of_getElem? (i := 13) rfl)) (bg_cons (bi_wsL_law0_r1 _ (List.mem_of_getElem? (i := 5) rfl)) bg_nil)))) (bg_law (bi_wsL_law0_r42 _ (List.mem_of_getElem? (i := 14) rfl)))
theorem ggL_law_X11_rises : GoodIn wsL_law wsX11_rises := (bg_law (bi_wsL_law0_r42 _ (List.mem_of_getElem? (i := 18) rfl)))
theorem gL_law_X11_rises : GoodIn wsL_law (wsV RL 112 RX11 yX11_rises wsX11_rises) := goodIn_app (bg_cons (bi_wsL_law0_r42 _ (List.mem_of_getElem? (i := 15) rfl)) (bg_cons (bi_wsL_law0_r42 _ (List.mem_of_getElem? (i := 16) rfl)) (bg_cons (bi_wsL_law0_r42 _ (List.mem_of_getElem? (i := 17) rfl)) (bg_cons (bi_wsL_law0_r1 _ (List.mem_of_getElem? (i := 2) rfl)) bg_nil)))) (bg_law (bi_wsL_law0_r42 _ (List.mem_of_getElem? (i := 18) rfl)))
theorem ggL_law_X12_rises : GoodIn wsL_law wsX12_rises := (bg_law (bi_wsL_law0_r43 _ (List.mem_of_getElem? (i := 3) rfl)))
theorem gL_law_X12_rises : GoodIn wsL_law (wsV RL 115 RX12 yX12_rises wsX12_rises) := goodIn_app (bg_cons (bi_wsL_law0_r43 _ (List.mem_of_getElem? (i := 0) rfl)) (bg_cons (bi_wsL_law0_r43 _ (List.mem_of_getElem? (i := 1) rfl)) (bg_cons (bi_wsL_law0_r43 _ (List.mem_of_getElem? (i := 2) rfl)) (bg_cons (bi_wsL_law0_r1 _ (List.mem_of_getElem? (i := 5) rfl)) bg_nil)))) (bg_law (bi_wsL_law0_r43 _ (List.mem_of_getElem? (i := 3) rfl)))
theorem ggL_law_X11_later : GoodIn wsL_law wsX11_later := (bg_law (bi_wsL_law0_r43 _ (List.mem_of_getElem? (i := 8) rfl)))
theorem gL_law_X11_later : GoodIn wsL_law (wsV RL 116 RX11 yX11_later wsX11_later) := goodIn_app (bg_cons (bi_wsL_law0_r43 _ (List.mem_of_getElem? (i := 5) rfl)) (bg_cons (bi_wsL_law0_r43 _ (List.mem_of_getElem? (i := 6) rfl)) (bg_cons (bi_wsL_law0_r43 _ (List.mem_of_getElem? (i := 7) rfl)) (bg_cons (bi_wsL_law0_r1 _ (List.mem_of_getElem? (i := 2) rfl)) bg_nil)))) (bg_law (bi_wsL_law0_r43 _ (List.mem_of_getElem? (i := 8) rfl)))
theorem ggL_law_X12_later : GoodIn wsL_law wsX12_later := (bg_law (bi_wsL_law0_r43 _ (List.mem_of_getElem? (i := 13) rfl)))
theorem gL_law_X12_later : GoodIn wsL_law (wsV RL 120 RX12 yX12_later wsX12_later) := goodIn_app (bg_cons (bi_wsL_law0_r43 _ (List.mem_of_getElem? (i := 10) rfl)) (bg_cons (bi_wsL_law0_r43 _ (List.mem_of_getElem? (i := 11) rfl)) (bg_cons (bi_wsL_law0_r43 _ (List.mem_of_getElem? (i := 12) rfl)) (bg_cons (bi_wsL_law0_r1 _ (List.mem_of_getElem? (i := 5) rfl)) bg_nil)))) (bg_law (bi_wsL_law0_r43 _ (List.mem_of_getElem? (i := 13) rfl)))
theorem ggL_law_X11_soonest : GoodIn wsL_law wsX11_soonest := (bg_law (bi_wsL_law0_r43 _ (List.mem_of_getElem? (i := 17) rfl)))
theorem gL_law_X11_soonest : GoodIn wsL_law (wsV RL 121 RX11 yX11_soonest wsX11_soonest) := goodIn_app (bg_cons (bi_wsL_law0_r43 _ (List.mem_of_getElem? (i := 14) rfl)) (bg_cons (bi_wsL_law0_r43 _ (List.mem_of_getElem? (i := 15) rfl)) (bg_cons (bi_wsL_law0_r43 _ (List.mem_of_getElem? (i := 16) rfl)) (bg_cons (bi_wsL_law0_r1 _ (List.mem_of_getElem? (i := 2) rfl)) bg_nil)))) (bg_law (bi_wsL_law0_r43 _ (List.mem_of_getElem? (i := 17) rfl)))
theorem ggL_law_X12_soonest : GoodIn wsL_law wsX12_soonest := (bg_law (bi_wsL_law0_r44 _ (List.mem_of_getElem? (i := 1) rfl)))
theorem gL_law_X12_soonest : GoodIn wsL_law (wsV RL 124 RX12 yX12_soonest wsX12_soonest) := goodIn_app (bg_cons (bi_wsL_law0_r43 _ (List.mem_of_getElem? (i := 22) rfl)) (bg_cons (bi_wsL_law0_r43 _ (List.mem_of_getElem? (i := 23) rfl)) (bg_cons (bi_wsL_law0_r44 _ (List.mem_of_getElem? (i := 0) rfl)) (bg_cons (bi_wsL_law0_r1 _ (List.mem_of_getElem? (i := 5) rfl)) bg_nil)))) (bg_law (bi_wsL_law0_r44 _ (List.mem_of_getElem? (i := 1) rfl)))
theorem ggL_law_X11_pairs : GoodIn wsL_law wsX11_pairs := (bg_law (bi_wsL_law0_r44 _ (List.mem_of_getElem? (i := 9) rfl)))
theorem gL_law_X11_pairs : GoodIn wsL_law (wsV RL 125 RX11 yX11_pairs wsX11_pairs) := goodIn_app (bg_cons (bi_wsL_law0_r44 _ (List.mem_of_getElem? (i := 6) rfl)) (bg_cons (bi_wsL_law0_r44 _ (List.mem_of_getElem? (i := 7) rfl)) (bg_cons (bi_wsL_law0_r44 _ (List.mem_of_getElem? (i := 8) rfl)) (bg_cons (bi_wsL_law0_r1 _ (List.mem_of_getElem? (i := 2) rfl)) bg_nil)))) (bg_law (bi_wsL_law0_r44 _ (List.mem_of_getElem? (i := 9) rfl)))
theorem ggL_law_X12_pairs : GoodIn wsL_law wsX12_pairs := (bg_law (bi_wsL_law0_r45 _ (List.mem_of_getElem? (i := 10) rfl)))
theorem gL_law_X12_pairs : GoodIn wsL_law (wsV RL 128 RX12 yX12_pairs wsX12_pairs) := goodIn_app (bg_cons (bi_wsL_law0_r45 _ (List.mem_of_getElem? (i := 7) rfl)) (bg_cons (bi_wsL_law0_r45 _ (List.mem_of_getElem? (i := 8) rfl)) (bg_cons (bi_wsL_law0_r45 _ (List.mem_of_getElem? (i := 9) rfl)) (bg_cons (bi_wsL_law0_r1 _ (List.mem_of_getElem? (i := 5) rfl)) bg_nil)))) (bg_law (bi_wsL_law0_r45 _ (List.mem_of_getElem? (i := 10) rfl)))
theorem ggL_law_X11_allKnow : GoodIn wsL_law wsX11_allKnow := (bg_law (bi_wsL_law0_r46 _ (List.mem_of_getElem? (i := 5) rfl)))
theorem gL_law_X11_allKnow : GoodIn wsL_law (wsV RL 129 RX11 yX11_allKnow wsX11_allKnow) := goodIn_app (bg_cons (bi_wsL_law0_r46 _ (List.mem_of_getElem? (i := 2) rfl)) (bg_cons (bi_wsL_law0_r46 _ (List.mem_of_getElem? (i := 3) rfl)) (bg_cons (bi_wsL_law0_r46 _ (List.mem_of_getElem? (i := 4) rfl)) (bg_cons (bi_wsL_law0_r1 _ (List.mem_of_getElem? (i := 2) rfl)) bg_nil)))) (bg_law (bi_wsL_law0_r46 _ (List.mem_of_getElem? (i := 5) rfl)))
theorem ggL_law_X12_allKnow : GoodIn wsL_law wsX12_allKnow := (bg_law (bi_wsL_law0_r46 _ (List.mem_of_getElem? (i := 23) rfl)))
theorem gL_law_X12_allKnow : GoodIn wsL_law (wsV RL 132 RX12 yX12_allKnow wsX12_allKnow) := goodIn_app (bg_cons (bi_wsL_law0_r46 _ (List.mem_of_getElem? (i := 20) rfl)) (bg_cons (bi_wsL_law0_r46 _ (List.mem_of_getElem? (i := 21) rfl)) (bg_cons (bi_wsL_law0_r46 _ (List.mem_of_getElem? (i := 22) rfl)) (bg_cons (bi_wsL_law0_r1 _ (List.mem_of_getElem? (i := 5) rfl)) bg_nil)))) (bg_law (bi_wsL_law0_r46 _ (List.mem_of_getElem? (i := 23) rfl)))
theorem ggL_law_X11_seen : GoodIn wsL_law wsX11_seen := (bg_law (bi_wsL_law0_r47 _ (List.mem_of_getElem? (i := 11) rfl)))
theorem gL_law_X11_seen : GoodIn wsL_law (wsV RL 133 RX11 yX11_seen wsX11_seen) := goodIn_app (bg_cons (bi_wsL_law0_r47 _ (List.mem_of_getElem? (i := 8) rfl)) (bg_cons (bi_wsL_law0_r47 _ (List.mem_of_getElem? (i := 9) rfl)) (bg_cons (bi_wsL_law0_r47 _ (List.mem_of_getElem? (i := 10) rfl)) (bg_cons (bi_wsL_law0_r1 _ (List.mem_of_getElem? (i := 2) rfl)) bg_nil)))) (bg_law (bi_wsL_law0_r47 _ (List.mem_of_getElem? (i := 11) rfl)))
theorem ggL_law_X12_seen : GoodIn wsL_law wsX12_seen := (bg_law (bi_wsL_law0_r48 _ (List.mem_of_getElem? (i := 3) rfl)))
theorem gL_law_X12_seen : GoodIn wsL_law (wsV RL 137 RX12 yX12_seen wsX12_seen) := goodIn_app (bg_cons (bi_wsL_law0_r48 _ (List.mem_of_getElem? (i := 0) rfl)) (bg_cons (bi_wsL_law0_r48 _ (List.mem_of_getElem? (i := 1) rfl)) (bg_cons (bi_wsL_law0_r48 _ (List.mem_of_getElem? (i := 2) rfl)) (bg_cons (bi_wsL_law0_r1 _ (List.mem_of_getElem? (i := 5) rfl)) bg_nil)))) (bg_law (bi_wsL_law0_r48 _ (List.mem_of_getElem? (i := 3) rfl)))
theorem ggL_law_X11_fits : GoodIn wsL_law wsX11_fits := (bg_law (bi_wsL_law0_r48 _ (List.mem_of_getElem? (i := 7) rfl)))
theorem gL_law_X11_fits : GoodIn wsL_law (wsV RL 138 RX11 yX11_fits wsX11_fits) := goodIn_app (bg_cons (bi_wsL_law0_r48 _ (List.mem_of_getElem? (i := 4) rfl)) (bg_cons (bi_wsL_law0_r48 _ (List.mem_of_getElem? (i := 5) rfl)) (bg_cons (bi_wsL_law0_r48 _ (List.mem_of_getElem? (i := 6) rfl)) (bg_cons (bi_wsL_law0_r1 _ (List.mem_of_getElem? (i := 2) rfl)) bg_nil)))) (bg_law (bi_wsL_law0_r48 _ (List.mem_of_getElem? (i := 7) rfl)))
theorem ggL_law_X12_fits : GoodIn wsL_law wsX12_fits := (bg_law (bi_wsL_law0_r49 _ (List.mem_of_getElem? (i := 0) rfl)))
theorem gL_law_X12_fits : GoodIn wsL_law (wsV RL 141 RX12 yX12_fits wsX12_fits) := goodIn_app (bg_cons (bi_wsL_law0_r48 _ (List.mem_of_getElem? (i := 21) rfl)) (bg_cons (bi_wsL_law0_r48 _ (List.mem_of_getElem? (i := 22) rfl)) (bg_cons (bi_wsL_law0_r48 _ (List.mem_of_getElem? (i := 23) rfl)) (bg_cons (bi_wsL_law0_r1 _ (List.mem_of_getElem? (i := 5) rfl)) bg_nil)))) (bg_law (bi_wsL_law0_r49 _ (List.mem_of_getElem? (i := 0) rfl)))
theorem ggL_law_X11_ask : GoodIn wsL_law wsX11_ask := (bg_law (bi_wsL_law0_r49 _ (List.mem_of_getElem? (i := 12) rfl)))
theorem gL_law_X11_ask : GoodIn wsL_law (wsV RL 142 RX11 yX11_ask wsX11_ask) := goodIn_app (bg_cons (bi_wsL_law0_r49 _ (List.mem_of_getElem? (i := 9) rfl)) (bg_cons (bi_wsL_law0_r49 _ (List.mem_of_getElem? (i := 10) rfl)) (bg_cons (bi_wsL_law0_r49 _ (List.mem_of_getElem? (i := 11) rfl)) (bg_cons (bi_wsL_law0_r1 _ (List.mem_of_getElem? (i := 2) rfl)) bg_nil)))) (bg_law (bi_wsL_law0_r49 _ (List.mem_of_getElem? (i := 12) rfl)))
theorem ggL_law_X12_ask : GoodIn wsL_law wsX12_ask := (bg_law (bi_wsL_law0_r50 _ (List.mem_of_getElem? (i := 4) rfl)))
theorem gL_law_X12_ask : GoodIn wsL_law (wsV RL 145 RX12 yX12_ask wsX12_ask) := goodIn_app (bg_cons (bi_wsL_law0_r50 _ (List.mem_of_getElem? (i := 1) rfl)) (bg_cons (bi_wsL_law0_r50 _ (List.mem_of_getElem? (i := 2) rfl)) (bg_cons (bi_wsL_law0_r50 _ (List.mem_of_getElem? (i := 3) rfl)) (bg_cons (bi_wsL_law0_r1 _ (List.mem_of_getElem? (i := 5) rfl)) bg_nil)))) (bg_law (bi_wsL_law0_r50 _ (List.mem_of_getElem? (i := 4) rfl)))
theorem ggL_law_X11_game : GoodIn wsL_law wsX11_game := (bg_law (bi_wsL_law0_r50 _ (List.mem_of_getElem? (i := 10) rfl)))
theorem gL_law_X11_game : GoodIn wsL_law (wsV RL 146 RX11 yX11_game wsX11_game) := goodIn_app (bg_cons (bi_wsL_law0_r50 _ (List.mem_of_getElem? (i := 7) rfl)) (bg_cons (bi_wsL_law0_r50 _ (List.mem_of_getElem? (i := 8) rfl)) (bg_cons (bi_wsL_law0_r50 _ (List.mem_of_getElem? (i := 9) rfl)) (bg_cons (bi_wsL_law0_r1 _ (List.mem_of_getElem? (i := 2) rfl)) bg_nil)))) (bg_law (bi_wsL_law0_r50 _ (List.mem_of_getElem? (i := 10) rfl)))
theorem ggL_law_X12_game : GoodIn wsL_law wsX12_game := (bg_law (bi_wsL_law0_r51 _ (List.mem_of_getElem? (i := 0) rfl)))
theorem gL_law_X12_game : GoodIn wsL_law (wsV RL 149 RX12 yX12_game wsX12_game) := goodIn_app (bg_cons (bi_wsL_law0_r50 _ (List.mem_of_getElem? (i := 21) rfl)) (bg_cons (bi_wsL_law0_r50 _ (List.mem_of_getElem? (i := 22) rfl)) (bg_cons (bi_wsL_law0_r50 _ (List.mem_of_getElem? (i := 23) rfl)) (bg_cons (bi_wsL_law0_r1 _ (List.mem_of_getElem? (i := 5) rfl)) bg_nil)))) (bg_law (bi_wsL_law0_r51 _ (List.mem_of_getElem? (i := 0) rfl)))
theorem ggL_law_X11_sure : GoodIn wsL_law wsX11_sure := (bg_law (bi_wsL_law0_r51 _ (List.mem_of_getElem? (i := 12) rfl)))
theorem gL_law_X11_sure : GoodIn wsL_law (wsV RL 150 RX11 yX11_sure wsX11_sure) := goodIn_app (bg_cons (bi_wsL_law0_r51 _ (List.mem_of_getElem? (i := 9) rfl)) (bg_cons (bi_wsL_law0_r51 _ (List.mem_of_getElem? (i := 10) rfl)) (bg_cons (bi_wsL_law0_r51 _ (List.mem_of_getElem? (i := 11) rfl)) (bg_cons (bi_wsL_law0_r1 _ (List.mem_of_getElem? (i := 2) rfl)) bg_nil)))) (bg_law (bi_wsL_law0_r51 _ (List.mem_of_getElem? (i := 12) rfl)))
theorem ggL_law_X12_sure : GoodIn wsL_law wsX12_sure := (bg_law (bi_wsL_law0_r51 _ (List.mem_of_getElem? (i := 22) rfl)))
theorem gL_law_X12_sure : GoodIn wsL_law (wsV RL 153 RX12 yX12_sure wsX12_sure) := goodIn_app (bg_cons (bi_wsL_law0_r51 _ (List.mem_of_getElem? (i := 19) rfl)) (bg_cons (bi_wsL_law0_r51 _ (List.mem_of_getElem? (i := 20) rfl)) (bg_cons (bi_wsL_law0_r51 _ (List.mem_of_getElem? (i := 21) rfl)) (bg_cons (bi_wsL_law0_r1 _ (List.mem_of_getElem? (i := 5) rfl)) bg_nil)))) (bg_law (bi_wsL_law0_r51 _ (List.mem_of_getElem? (i := 22) rfl)))
theorem ggL_law_X11_rests : GoodIn wsL_law wsX11_rests := (bg_law (bi_wsL_law0_r52 _ (List.mem_of_getElem? (i := 10) rfl)))
theorem gL_law_X11_rests : GoodIn wsL_law (wsV RL 154 RX11 yX11_rests wsX11_rests) := goodIn_app (bg_cons (bi_wsL_law0_r52 _ (List.mem_of_getElem? (i := 7) rfl)) (bg_cons (bi_wsL_law0_r52 _ (List.mem_of_getElem? (i := 8) rfl)) (bg_cons (bi_wsL_law0_r52 _ (List.mem_of_getElem? (i := 9) rfl)) (bg_cons (bi_wsL_law0_r1 _ (List.mem_of_getElem? (i := 2) rfl)) bg_nil)))) (bg_law (bi_wsL_law0_r52 _ (List.mem_of_getElem? (i := 10) rfl)))
theorem ggL_law_X12_rests : GoodIn wsL_law wsX12_rests := (bg_law (bi_wsL_law0_r52 _ (List.mem_of_getElem? (i := 19) rfl)))
theorem gL_law_X12_rests : GoodIn wsL_law (wsV RL 157 RX12 yX12_rests wsX12_rests) := goodIn_app (bg_cons (bi_wsL_law0_r52 _ (List.mem_of_getElem? (i := 16) rfl)) (bg_cons (bi_wsL_law0_r52 _ (List.mem_of_getElem? (i := 17) rfl)) (bg_cons (bi_wsL_law0_r52 _ (List.mem_of_getElem? (i := 18) rfl)) (bg_cons (bi_wsL_law0_r1 _ (List.mem_of_getElem? (i := 5) rfl)) bg_nil)))) (bg_law (bi_wsL_law0_r52 _ (List.mem_of_getElem? (i := 19) rfl)))
theorem ggL_law_X11_odds : GoodIn wsL_law wsX11_odds := (bg_law (bi_wsL_law0_r53 _ (List.mem_of_getElem? (i := 3) rfl)))
theorem gL_law_X11_odds : GoodIn wsL_law (wsV RL 158 RX11 yX11_odds wsX11_odds) := goodIn_app (bg_cons (bi_wsL_law0_r53 _ (List.mem_of_getElem? (i := 0) rfl)) (bg_cons (bi_wsL_law0_r53 _ (List.mem_of_getElem? (i := 1) rfl)) (bg_cons (bi_wsL_law0_r53 _ (List.mem_of_getElem? (i := 2) rfl)) (bg_cons (bi_wsL_law0_r1 _ (List.mem_of_getElem? (i := 2) rfl)) bg_nil)))) (bg_law (bi_wsL_law0_r53 _ (List.mem_of_getElem? (i := 3) rfl)))
theorem ggL_law_X12_odds : GoodIn wsL_law wsX12_odds := (bg_law (bi_wsL_law0_r54 _ (List.mem_of_getElem? (i := 4) rfl)))
theorem gL_law_X12_odds : GoodIn wsL_law (wsV RL 161 RX12 yX12_odds wsX12_odds) := goodIn_app (bg_cons (bi_wsL_law0_r54 _ (List.mem_of_getElem? (i := 1) rfl)) (bg_cons (bi_wsL_law0_r54 _ (List.mem_of_getElem? (i := 2) rfl)) (bg_cons (bi_wsL_law0_r54 _ (List.mem_of_getElem? (i := 3) rfl)) (bg_cons (bi_wsL_law0_r1 _ (List.mem_of_getElem? (i := 5) rfl)) bg_nil)))) (bg_law (bi_wsL_law0_r54 _ (List.mem_of_getElem? (i := 4) rfl)))
theorem ggL_law_X11_shares : GoodIn wsL_law wsX11_shares := (bg_law (bi_wsL_law0_r54 _ (List.mem_of_getElem? (i := 14) rfl)))
theorem gL_law_X11_shares : GoodIn wsL_law (wsV RL 162 RX11 yX11_shares wsX11_shares) := goodIn_app (bg_cons (bi_wsL_law0_r54 _ (List.mem_of_getElem? (i := 11) rfl)) (bg_cons (bi_wsL_law0_r54 _ (List.mem_of_getElem? (i := 12) rfl)) (bg_cons (bi_wsL_law0_r54 _ (List.mem_of_getElem? (i := 13) rfl)) (bg_cons (bi_wsL_law0_r1 _ (List.mem_of_getElem? (i := 2) rfl)) bg_nil)))) (bg_law (bi_wsL_law0_r54 _ (List.mem_of_getElem? (i := 14) rfl)))
theorem ggL_law_X12_shares : GoodIn wsL_law wsX12_shares := (bg_law (bi_wsL_law0_r54 _ (List.mem_of_getElem? (i := 23) rfl)))
theorem gL_law_X12_shares : GoodIn wsL_law (wsV RL 165 RX12 yX12_shares wsX12_shares) := goodIn_app (bg_cons (bi_wsL_law0_r54 _ (List.mem_of_getElem? (i := 20) rfl)) (bg_cons (bi_wsL_law0_r54 _ (List.mem_of_getElem? (i := 21) rfl)) (bg_cons (bi_wsL_law0_r54 _ (List.mem_of_getElem? (i := 22) rfl)) (bg_cons (bi_wsL_law0_r1 _ (List.mem_of_getElem? (i := 5) rfl)) bg_nil)))) (bg_law (bi_wsL_law0_r54 _ (List.mem_of_getElem? (i := 23) rfl)))
theorem ggL_law_X11_most : GoodIn wsL_law wsX11_most := (bg_law (bi_wsL_law0_r55 _ (List.mem_of_getElem? (i := 3) rfl)))
theorem gL_law_X11_most : GoodIn wsL_law (wsV RL 166 RX11 yX11_most wsX11_most) := goodIn_app (bg_cons (bi_wsL_law0_r55 _ (List.mem_of_getElem? (i := 0) rfl)) (bg_cons (bi_wsL_law0_r55 _ (List.mem_of_getElem? (i := 1) rfl)) (bg_cons (bi_wsL_law0_r55 _ (List.mem_of_getElem? (i := 2) rfl)) (bg_cons (bi_wsL_law0_r1 _ (List.mem_of_getElem? (i := 2) rfl)) bg_nil)))) (bg_law (bi_wsL_law0_r55 _ (List.mem_of_getElem? (i := 3) rfl)))
theorem ggL_law_X12_most : GoodIn wsL_law wsX12_most := (bg_law (bi_wsL_law0_r57 _ (List.mem_of_getElem? (i := 2) rfl)))
theorem gL_law_X12_most : GoodIn wsL_law (wsV RL 169 RX12 yX12_most wsX12_most) := goodIn_app (bg_cons (bi_wsL_law0_r56 _ (List.mem_of_getElem? (i := 23) rfl)) (bg_cons (bi_wsL_law0_r57 _ (List.mem_of_getElem? (i := 0) rfl)) (bg_cons (bi_wsL_law0_r57 _ (List.mem_of_getElem? (i := 1) rfl)) (bg_cons (bi_wsL_law0_r1 _ (List.mem_of_getElem? (i := 5) rfl)) bg_nil)))) (bg_law (bi_wsL_law0_r57 _ (List.mem_of_getElem? (i := 2) rfl)))
theorem ggL_law_X11_allies : GoodIn wsL_law wsX11_allies := (bg_law (bi_wsL_law0_r58 _ (List.mem_of_getElem? (i := 10) rfl)))
theorem gL_law_X11_allies : GoodIn wsL_law (wsV RL 170 RX11 yX11_allies wsX11_allies) := goodIn_app (bg_cons (bi_wsL_law0_r58 _ (List.mem_of_getElem? (i := 7) rfl)) (bg_cons (bi_wsL_law0_r58 _ (List.mem_of_getElem? (i := 8) rfl)) (bg_cons (bi_wsL_law0_r58 _ (List.mem_of_getElem? (i := 9) rfl)) (bg_cons (bi_wsL_law0_r1 _ (List.mem_of_getElem? (i := 2) rfl)) bg_nil)))) (bg_law (bi_wsL_law0_r58 _ (List.mem_of_getElem? (i := 10) rfl)))
theorem ggL_law_X12_allies : GoodIn wsL_law wsX12_allies := (bg_law (bi_wsL_law0_r58 _ (List.mem_of_getElem? (i := 15) rfl)))
theorem gL_law_X12_allies : GoodIn wsL_law (wsV RL 173 RX12 yX12_allies wsX12_allies) := goodIn_app (bg_cons (bi_wsL_law0_r58 _ (List.mem_of_getElem? (i := 12) rfl)) (bg_cons (bi_wsL_law0_r58 _ (List.mem_of_getElem? (i := 13) rfl)) (bg_cons (bi_wsL_law0_r58 _ (List.mem_of_getElem? (i := 14) rfl)) (bg_cons (bi_wsL_law0_r1 _ (List.mem_of_getElem? (i := 5) rfl)) bg_nil)))) (bg_law (bi_wsL_law0_r58 _ (List.mem_of_getElem? (i := 15) rfl)))
theorem ggL_law_X11_image : GoodIn wsL_law wsX11_image := (bg_law (bi_wsL_law0_r58 _ (List.mem_of_getElem? (i := 19) rfl)))
theorem gL_law_X11_image : GoodIn wsL_law (wsV RL 174 RX11 yX11_image wsX11_image) := goodIn_app (bg_cons (bi_wsL_law0_r58 _ (List.mem_of_getElem? (i := 16) rfl)) (bg_cons (bi_wsL_law0_r58 _ (List.mem_of_getElem? (i := 17) rfl)) (bg_cons (bi_wsL_law0_r58 _ (List.mem_of_getElem? (i := 18) rfl)) (bg_cons (bi_wsL_law0_r1 _ (List.mem_of_getElem? (i := 2) rfl)) bg_nil)))) (bg_law (bi_wsL_law0_r58 _ (List.mem_of_getElem? (i := 19) rfl)))
theorem ggL_law_X12_image : GoodIn wsL_law wsX12_image := (bg_law (bi_wsL_law0_r59 _ (List.mem_of_getElem? (i := 4) rfl)))
theorem gL_law_X12_image : GoodIn wsL_law (wsV RL 177 RX12 yX12_image wsX12_image) := goodIn_app (bg_cons (bi_wsL_law0_r59 _ (List.mem_of_getElem? (i := 1) rfl)) (bg_cons (bi_wsL_law0_r59 _ (List.mem_of_getElem? (i := 2) rfl)) (bg_cons (bi_wsL_law0_r59 _ (List.mem_of_getElem? (i := 3) rfl)) (bg_cons (bi_wsL_law0_r1 _ (List.mem_of_getElem? (i := 5) rfl)) bg_nil)))) (bg_law (bi_wsL_law0_r59 _ (List.mem_of_getElem? (i := 4) rfl)))
theorem ggL_law_X11_back : GoodIn wsL_law wsX11_back := (bg_law (bi_wsL_law0_r59 _ (List.mem_of_getElem? (i := 8) rfl)))
theorem gL_law_X11_back : GoodIn wsL_law (wsV RL 178 RX11 yX11_back wsX11_back) := goodIn_app (bg_cons (bi_wsL_law0_r59 _ (List.mem_of_getElem? (i := 5) rfl)) (bg_cons (bi_wsL_law0_r59 _ (List.mem_of_getElem? (i := 6) rfl)) (bg_cons (bi_wsL_law0_r59 _ (List.mem_of_getElem? (i := 7) rfl)) (bg_cons (bi_wsL_law0_r1 _ (List.mem_of_getElem? (i := 2) rfl)) bg_nil)))) (bg_law (bi_wsL_law0_r59 _ (List.mem_of_getElem? (i := 8) rfl)))
theorem ggL_law_X12_back : GoodIn wsL_law wsX12_back := (bg_law (bi_wsL_law0_r59 _ (List.mem_of_getElem? (i := 12) rfl)))
theorem gL_law_X12_back : GoodIn wsL_law (wsV RL 181 RX12 yX12_back wsX12_back) := goodIn_app (bg_cons (bi_wsL_law0_r59 _ (List.mem_of_getElem? (i := 9) rfl)) (bg_cons (bi_wsL_law0_r59 _ (List.mem_of_getElem? (i := 10) rfl)) (bg_cons (bi_wsL_law0_r59 _ (List.mem_of_getElem? (i := 11) rfl)) (bg_cons (bi_wsL_law0_r1 _ (List.mem_of_getElem? (i := 5) rfl)) bg_nil)))) (bg_law (bi_wsL_law0_r59 _ (List.mem_of_getElem? (i := 12) rfl)))
theorem ggL_law_X11_count : GoodIn wsL_law wsX11_count := (bg_law (bi_wsL_law0_r59 _ (List.mem_of_getElem? (i := 16) rfl)))
theorem gL_law_X11_count : GoodIn wsL_law (wsV RL 182 RX11 yX11_count wsX11_count) := goodIn_app (bg_cons (bi_wsL_law0_r59 _ (List.mem_of_getElem? (i := 13) rfl)) (bg_cons (bi_wsL_law0_r59 _ (List.mem_of_getElem? (i := 14) rfl)) (bg_cons (bi_wsL_law0_r59 _ (List.mem_of_getElem? (i := 15) rfl)) (bg_cons (bi_wsL_law0_r1 _ (List.mem_of_getElem? (i := 2) rfl)) bg_nil)))) (bg_law (bi_wsL_law0_r59 _ (List.mem_of_getElem? (i := 16) rfl)))
theorem ggL_law_X12_count : GoodIn wsL_law wsX12_count := (bg_law (bi_wsL_law0_r59 _ (List.mem_of_getElem? (i := 21) rfl)))
theorem gL_law_X12_count : GoodIn wsL_law (wsV RL 185 RX12 yX12_count wsX12_count) := goodIn_app (bg_cons (bi_wsL_law0_r59 _ (List.mem_of_getElem? (i := 18) rfl)) (bg_cons (bi_wsL_law0_r59 _ (List.mem_of_getElem? (i := 19) rfl)) (bg_cons (bi_wsL_law0_r59 _ (List.mem_of_getElem? (i := 20) rfl)) (bg_cons (bi_wsL_law0_r1 _ (List.mem_of_getElem? (i := 5) rfl)) bg_nil)))) (bg_law (bi_wsL_law0_r59 _ (List.mem_of_getElem? (i := 21) rfl)))
theorem dL_law_17 : decode cL_law 17 = .ok (.newarray .long, 2) := by decide +kernel
theorem dL_law_40 : decode cL_law 40 = .ok (.tableswitch 1462 0 38 #[172, 245, 270, 295, 320, 345, 385, 422, 459, 484, 521, 546, 583, 596, 621, 646, 671, 696, 765, 790, 803, 840, 877, 926, 963, 988, 1001, 1078, 1115, 1152, 1201, 1226, 1251, 1324, 1361, 1386, 1411, 1424, 1437], 172) := by decide +kernel
def ztdL_law_0 : List (Nat × Instr × Nat) := [(0, .new 8, 3), (3, .dup, 1), (4, .invokespecial 15, 3), (7, .astore_n 1, 1), (8, .new 16, 3), (11, .dup, 1), (12, .invokespecial 18, 3), (15, .astore_n 2, 1), (16, .iconst 1, 1), (19, .astore_n 3, 1), (20, .iconst 0, 1), (21, .istore 4, 2), (23, .iload 4, 2), (25, .aload_n 0, 1), (26, .arraylength, 1), (27, .bipush 6, 2), (29, .isub, 1), (30, .if_icmp .gt 1478, 3), (33, .aload_n 0, 1), (34, .iload 4, 2), (36, .iaload, 1), (37, .bipush 63, 2), (39, .iand, 1), (212, .aload_n 1, 1)]
theorem zhdL_law_0 : dzC ztdL_law_0 0 (cL_law.data.toList.drop 0) = true := by decide +kernel
theorem dL_law_0 : decode cL_law 0 = .ok (.new 8, 3) := dzr zhdL_law_0 0 rfl
theorem dL_law_3 : decode cL_law 3 = .ok (.dup, 1) := dzr zhdL_law_0 1 rfl
theorem dL_law_4 : decode cL_law 4 = .ok (.invokespecial 15, 3) := dzr zhdL_law_0 2 rfl
theorem dL_law_7 : decode cL_law 7 = .ok (.astore_n 1, 1) := dzr zhdL_law_0 3 rfl
theorem dL_law_8 : decode cL_law 8 = .ok (.new 16, 3) := dzr zhdL_law_0 4 rfl
theorem dL_law_11 : decode cL_law 11 = .ok (.dup, 1) := dzr zhdL_law_0 5 rfl
theorem dL_law_12 : decode cL_law 12 = .ok (.invokespecial 18, 3) := dzr zhdL_law_0 6 rfl
theorem dL_law_15 : decode cL_law 15 = .ok (.astore_n 2, 1) := dzr zhdL_law_0 7 rfl
theorem dL_law_16 : decode cL_law 16 = .ok (.iconst 1, 1) := dzr zhdL_law_0 8 rfl
theorem dL_law_19 : decode cL_law 19 = .ok (.astore_n 3, 1) := dzr zhdL_law_0 9 rfl
theorem dL_law_20 : decode cL_law 20 = .ok (.iconst 0, 1) := dzr zhdL_law_0 10 rfl
theorem dL_law_21 : decode cL_law 21 = .ok (.istore 4, 2) := dzr zhdL_law_0 11 rfl
theorem dL_law_23 : decode cL_law 23 = .ok (.iload 4, 2) := dzr zhdL_law_0 12 rfl
theorem dL_law_25 : decode cL_law 25 = .ok (.aload_n 0, 1) := dzr zhdL_law_0 13 rfl
theorem dL_law_26 : decode cL_law 26 = .ok (.arraylength, 1) := dzr zhdL_law_0 14 rfl
theorem dL_law_27 : decode cL_law 27 = .ok (.bipush 6, 2) := dzr zhdL_law_0 15 rfl
theorem dL_law_29 : decode cL_law 29 = .ok (.isub, 1) := dzr zhdL_law_0 16 rfl
theorem dL_law_30 : decode cL_law 30 = .ok (.if_icmp .gt 1478, 3) := dzr zhdL_law_0 17 rfl
theorem dL_law_33 : decode cL_law 33 = .ok (.aload_n 0, 1) := dzr zhdL_law_0 18 rfl
theorem dL_law_34 : decode cL_law 34 = .ok (.iload 4, 2) := dzr zhdL_law_0 19 rfl
theorem dL_law_36 : decode cL_law 36 = .ok (.iaload, 1) := dzr zhdL_law_0 20 rfl
theorem dL_law_37 : decode cL_law 37 = .ok (.bipush 63, 2) := dzr zhdL_law_0 21 rfl
theorem dL_law_39 : decode cL_law 39 = .ok (.iand, 1) := dzr zhdL_law_0 22 rfl
theorem dL_law_212 : decode cL_law 212 = .ok (.aload_n 1, 1) := dzr zhdL_law_0 23 rfl
def ztdL_law_213 : List (Nat × Instr × Nat) := [(213, .aload_n 0, 1), (214, .iload 4, 2), (216, .iconst 1, 1), (217, .iadd, 1), (218, .iaload, 1), (219, .aload_n 0, 1), (220, .iload 4, 2), (222, .iconst 2, 1), (223, .iadd, 1), (224, .iaload, 1), (225, .aload_n 0, 1), (226, .iload 4, 2), (228, .iconst 3, 1), (229, .iadd, 1), (230, .iaload, 1), (231, .aload_n 0, 1), (232, .iload 4, 2), (234, .iconst 4, 1), (235, .iadd, 1), (236, .iaload, 1), (237, .aload_n 0, 1), (238, .iload 4, 2), (240, .iconst 5, 1), (241, .iadd, 1)]
theorem zhdL_law_213 : dzC ztdL_law_213 213 (cL_law.data.toList.drop 213) = true := by decide +kernel
theorem dL_law_213 : decode cL_law 213 = .ok (.aload_n 0, 1) := dzr zhdL_law_213 0 rfl
theorem dL_law_214 : decode cL_law 214 = .ok (.iload 4, 2) := dzr zhdL_law_213 1 rfl
theorem dL_law_216 : decode cL_law 216 = .ok (.iconst 1, 1) := dzr zhdL_law_213 2 rfl
theorem dL_law_217 : decode cL_law 217 = .ok (.iadd, 1) := dzr zhdL_law_213 3 rfl
theorem dL_law_218 : decode cL_law 218 = .ok (.iaload, 1) := dzr zhdL_law_213 4 rfl
theorem dL_law_219 : decode cL_law 219 = .ok (.aload_n 0, 1) := dzr zhdL_law_213 5 rfl
theorem dL_law_220 : decode cL_law 220 = .ok (.iload 4, 2) := dzr zhdL_law_213 6 rfl
theorem dL_law_222 : decode cL_law 222 = .ok (.iconst 2, 1) := dzr zhdL_law_213 7 rfl
theorem dL_law_223 : decode cL_law 223 = .ok (.iadd, 1) := dzr zhdL_law_213 8 rfl
theorem dL_law_224 : decode cL_law 224 = .ok (.iaload, 1) := dzr zhdL_law_213 9 rfl
theorem dL_law_225 : decode cL_law 225 = .ok (.aload_n 0, 1) := dzr zhdL_law_213 10 rfl
theorem dL_law_226 : decode cL_law 226 = .ok (.iload 4, 2) := dzr zhdL_law_213 11 rfl
theorem dL_law_228 : decode cL_law 228 = .ok (.iconst 3, 1) := dzr zhdL_law_213 12 rfl
theorem dL_law_229 : decode cL_law 229 = .ok (.iadd, 1) := dzr zhdL_law_213 13 rfl
theorem dL_law_230 : decode cL_law 230 = .ok (.iaload, 1) := dzr zhdL_law_213 14 rfl
theorem dL_law_231 : decode cL_law 231 = .ok (.aload_n 0, 1) := dzr zhdL_law_213 15 rfl
theorem dL_law_232 : decode cL_law 232 = .ok (.iload 4, 2) := dzr zhdL_law_213 16 rfl
theorem dL_law_234 : decode cL_law 234 = .ok (.iconst 4, 1) := dzr zhdL_law_213 17 rfl
theorem dL_law_235 : decode cL_law 235 = .ok (.iadd, 1) := dzr zhdL_law_213 18 rfl
theorem dL_law_236 : decode cL_law 236 = .ok (.iaload, 1) := dzr zhdL_law_213 19 rfl
theorem dL_law_237 : decode cL_law 237 = .ok (.aload_n 0, 1) := dzr zhdL_law_213 20 rfl
theorem dL_law_238 : decode cL_law 238 = .ok (.iload 4, 2) := dzr zhdL_law_213 21 rfl
theorem dL_law_240 : decode cL_law 240 = .ok (.iconst 5, 1) := dzr zhdL_law_213 22 rfl
theorem dL_law_241 : decode cL_law 241 = .ok (.iadd, 1) := dzr zhdL_law_213 23 rfl
def ztdL_law_242 : List (Nat × Instr × Nat) := [(242, .iaload, 1), (243, .invokevirtual 19, 3), (246, .pop, 1), (247, .aload_n 2, 1), (248, .aload_n 0, 1), (249, .iload 4, 2), (251, .iconst 1, 1), (252, .iadd, 1), (253, .iaload, 1), (254, .aload_n 0, 1), (255, .iload 4, 2), (257, .iconst 2, 1), (258, .iadd, 1), (259, .iaload, 1), (260, .aload_n 0, 1), (261, .iload 4, 2), (263, .iconst 3, 1), (264, .iadd, 1), (265, .iaload, 1), (266, .aload_n 0, 1), (267, .iload 4, 2), (269, .iconst 4, 1), (270, .iadd, 1), (271, .iaload, 1)]
theorem zhdL_law_242 : dzC ztdL_law_242 242 (cL_law.data.toList.drop 242) = true := by decide +kernel
theorem dL_law_242 : decode cL_law 242 = .ok (.iaload, 1) := dzr zhdL_law_242 0 rfl
theorem dL_law_243 : decode cL_law 243 = .ok (.invokevirtual 19, 3) := dzr zhdL_law_242 1 rfl
theorem dL_law_246 : decode cL_law 246 = .ok (.pop, 1) := dzr zhdL_law_242 2 rfl
theorem dL_law_247 : decode cL_law 247 = .ok (.aload_n 2, 1) := dzr zhdL_law_242 3 rfl
theorem dL_law_248 : decode cL_law 248 = .ok (.aload_n 0, 1) := dzr zhdL_law_242 4 rfl
theorem dL_law_249 : decode cL_law 249 = .ok (.iload 4, 2) := dzr zhdL_law_242 5 rfl
theorem dL_law_251 : decode cL_law 251 = .ok (.iconst 1, 1) := dzr zhdL_law_242 6 rfl
theorem dL_law_252 : decode cL_law 252 = .ok (.iadd, 1) := dzr zhdL_law_242 7 rfl
theorem dL_law_253 : decode cL_law 253 = .ok (.iaload, 1) := dzr zhdL_law_242 8 rfl
theorem dL_law_254 : decode cL_law 254 = .ok (.aload_n 0, 1) := dzr zhdL_law_242 9 rfl
theorem dL_law_255 : decode cL_law 255 = .ok (.iload 4, 2) := dzr zhdL_law_242 10 rfl
theorem dL_law_257 : decode cL_law 257 = .ok (.iconst 2, 1) := dzr zhdL_law_242 11 rfl
theorem dL_law_258 : decode cL_law 258 = .ok (.iadd, 1) := dzr zhdL_law_242 12 rfl
theorem dL_law_259 : decode cL_law 259 = .ok (.iaload, 1) := dzr zhdL_law_242 13 rfl
theorem dL_law_260 : decode cL_law 260 = .ok (.aload_n 0, 1) := dzr zhdL_law_242 14 rfl
theorem dL_law_261 : decode cL_law 261 = .ok (.iload 4, 2) := dzr zhdL_law_242 15 rfl
theorem dL_law_263 : decode cL_law 263 = .ok (.iconst 3, 1) := dzr zhdL_law_242 16 rfl
theorem dL_law_264 : decode cL_law 264 = .ok (.iadd, 1) := dzr zhdL_law_242 17 rfl
theorem dL_law_265 : decode cL_law 265 = .ok (.iaload, 1) := dzr zhdL_law_242 18 rfl
theorem dL_law_266 : decode cL_law 266 = .ok (.aload_n 0, 1) := dzr zhdL_law_242 19 rfl
theorem dL_law_267 : decode cL_law 267 = .ok (.iload 4, 2) := dzr zhdL_law_242 20 rfl
theorem dL_law_269 : decode cL_law 269 = .ok (.iconst 4, 1) := dzr zhdL_law_242 21 rfl
theorem dL_law_270 : decode cL_law 270 = .ok (.iadd, 1) := dzr zhdL_law_242 22 rfl
theorem dL_law_271 : decode cL_law 271 = .ok (.iaload, 1) := dzr zhdL_law_242 23 rfl
def ztdL_law_272 : List (Nat × Instr × Nat) := [(272, .aload_n 0, 1), (273, .iload 4, 2), (275, .iconst 5, 1), (276, .iadd, 1), (277, .iaload, 1), (278, .invokevirtual 23, 3), (281, .pop, 1), (282, .goto 1220, 3), (285, .aload_n 1, 1), (286, .aload_n 0, 1), (287, .iload 4, 2), (289, .iconst 1, 1), (290, .iadd, 1), (291, .iaload, 1), (292, .invokevirtual 24, 3), (295, .pop, 1), (296, .aload_n 2, 1), (297, .aload_n 0, 1), (298, .iload 4, 2), (300, .iconst 1, 1), (301, .iadd, 1), (302, .iaload, 1), (303, .invokevirtual 28, 3), (306, .pop, 1)]
theorem zhdL_law_272 : dzC ztdL_law_272 272 (cL_law.data.toList.drop 272) = true := by decide +kernel
theorem dL_law_272 : decode cL_law 272 = .ok (.aload_n 0, 1) := dzr zhdL_law_272 0 rfl
theorem dL_law_273 : decode cL_law 273 = .ok (.iload 4, 2) := dzr zhdL_law_272 1 rfl
theorem dL_law_275 : decode cL_law 275 = .ok (.iconst 5, 1) := dzr zhdL_law_272 2 rfl
theorem dL_law_276 : decode cL_law 276 = .ok (.iadd, 1) := dzr zhdL_law_272 3 rfl
theorem dL_law_277 : decode cL_law 277 = .ok (.iaload, 1) := dzr zhdL_law_272 4 rfl
theorem dL_law_278 : decode cL_law 278 = .ok (.invokevirtual 23, 3) := dzr zhdL_law_272 5 rfl
theorem dL_law_281 : decode cL_law 281 = .ok (.pop, 1) := dzr zhdL_law_272 6 rfl
theorem dL_law_282 : decode cL_law 282 = .ok (.goto 1220, 3) := dzr zhdL_law_272 7 rfl
theorem dL_law_285 : decode cL_law 285 = .ok (.aload_n 1, 1) := dzr zhdL_law_272 8 rfl
theorem dL_law_286 : decode cL_law 286 = .ok (.aload_n 0, 1) := dzr zhdL_law_272 9 rfl
theorem dL_law_287 : decode cL_law 287 = .ok (.iload 4, 2) := dzr zhdL_law_272 10 rfl
theorem dL_law_289 : decode cL_law 289 = .ok (.iconst 1, 1) := dzr zhdL_law_272 11 rfl
theorem dL_law_290 : decode cL_law 290 = .ok (.iadd, 1) := dzr zhdL_law_272 12 rfl
theorem dL_law_291 : decode cL_law 291 = .ok (.iaload, 1) := dzr zhdL_law_272 13 rfl
theorem dL_law_292 : decode cL_law 292 = .ok (.invokevirtual 24, 3) := dzr zhdL_law_272 14 rfl
theorem dL_law_295 : decode cL_law 295 = .ok (.pop, 1) := dzr zhdL_law_272 15 rfl
theorem dL_law_296 : decode cL_law 296 = .ok (.aload_n 2, 1) := dzr zhdL_law_272 16 rfl
theorem dL_law_297 : decode cL_law 297 = .ok (.aload_n 0, 1) := dzr zhdL_law_272 17 rfl
theorem dL_law_298 : decode cL_law 298 = .ok (.iload 4, 2) := dzr zhdL_law_272 18 rfl
theorem dL_law_300 : decode cL_law 300 = .ok (.iconst 1, 1) := dzr zhdL_law_272 19 rfl
theorem dL_law_301 : decode cL_law 301 = .ok (.iadd, 1) := dzr zhdL_law_272 20 rfl
theorem dL_law_302 : decode cL_law 302 = .ok (.iaload, 1) := dzr zhdL_law_272 21 rfl
theorem dL_law_303 : decode cL_law 303 = .ok (.invokevirtual 28, 3) := dzr zhdL_law_272 22 rfl
theorem dL_law_306 : decode cL_law 306 = .ok (.pop, 1) := dzr zhdL_law_272 23 rfl
def ztdL_law_307 : List (Nat × Instr × Nat) := [(307, .goto 1195, 3), (310, .aload_n 1, 1), (311, .aload_n 0, 1), (312, .iload 4, 2), (314, .iconst 1, 1), (315, .iadd, 1), (316, .iaload, 1), (317, .invokevirtual 29, 3), (320, .pop, 1), (321, .aload_n 2, 1), (322, .aload_n 0, 1), (323, .iload 4, 2), (325, .iconst 1, 1), (326, .iadd, 1), (327, .iaload, 1), (328, .invokevirtual 33, 3), (331, .pop, 1), (332, .goto 1170, 3), (335, .aload_n 1, 1), (336, .aload_n 0, 1), (337, .iload 4, 2), (339, .iconst 1, 1), (340, .iadd, 1), (341, .iaload, 1)]
theorem zhdL_law_307 : dzC ztdL_law_307 307 (cL_law.data.toList.drop 307) = true := by decide +kernel
theorem dL_law_307 : decode cL_law 307 = .ok (.goto 1195, 3) := dzr zhdL_law_307 0 rfl
theorem dL_law_310 : decode cL_law 310 = .ok (.aload_n 1, 1) := dzr zhdL_law_307 1 rfl
theorem dL_law_311 : decode cL_law 311 = .ok (.aload_n 0, 1) := dzr zhdL_law_307 2 rfl
theorem dL_law_312 : decode cL_law 312 = .ok (.iload 4, 2) := dzr zhdL_law_307 3 rfl
theorem dL_law_314 : decode cL_law 314 = .ok (.iconst 1, 1) := dzr zhdL_law_307 4 rfl
theorem dL_law_315 : decode cL_law 315 = .ok (.iadd, 1) := dzr zhdL_law_307 5 rfl
theorem dL_law_316 : decode cL_law 316 = .ok (.iaload, 1) := dzr zhdL_law_307 6 rfl
theorem dL_law_317 : decode cL_law 317 = .ok (.invokevirtual 29, 3) := dzr zhdL_law_307 7 rfl
theorem dL_law_320 : decode cL_law 320 = .ok (.pop, 1) := dzr zhdL_law_307 8 rfl
theorem dL_law_321 : decode cL_law 321 = .ok (.aload_n 2, 1) := dzr zhdL_law_307 9 rfl
theorem dL_law_322 : decode cL_law 322 = .ok (.aload_n 0, 1) := dzr zhdL_law_307 10 rfl
theorem dL_law_323 : decode cL_law 323 = .ok (.iload 4, 2) := dzr zhdL_law_307 11 rfl
theorem dL_law_325 : decode cL_law 325 = .ok (.iconst 1, 1) := dzr zhdL_law_307 12 rfl
theorem dL_law_326 : decode cL_law 326 = .ok (.iadd, 1) := dzr zhdL_law_307 13 rfl
theorem dL_law_327 : decode cL_law 327 = .ok (.iaload, 1) := dzr zhdL_law_307 14 rfl
theorem dL_law_328 : decode cL_law 328 = .ok (.invokevirtual 33, 3) := dzr zhdL_law_307 15 rfl
theorem dL_law_331 : decode cL_law 331 = .ok (.pop, 1) := dzr zhdL_law_307 16 rfl
theorem dL_law_332 : decode cL_law 332 = .ok (.goto 1170, 3) := dzr zhdL_law_307 17 rfl
theorem dL_law_335 : decode cL_law 335 = .ok (.aload_n 1, 1) := dzr zhdL_law_307 18 rfl
theorem dL_law_336 : decode cL_law 336 = .ok (.aload_n 0, 1) := dzr zhdL_law_307 19 rfl
theorem dL_law_337 : decode cL_law 337 = .ok (.iload 4, 2) := dzr zhdL_law_307 20 rfl
theorem dL_law_339 : decode cL_law 339 = .ok (.iconst 1, 1) := dzr zhdL_law_307 21 rfl
theorem dL_law_340 : decode cL_law 340 = .ok (.iadd, 1) := dzr zhdL_law_307 22 rfl
theorem dL_law_341 : decode cL_law 341 = .ok (.iaload, 1) := dzr zhdL_law_307 23 rfl
def ztdL_law_342 : List (Nat × Instr × Nat) := [(342, .invokevirtual 34, 3), (345, .pop, 1), (346, .aload_n 2, 1), (347, .aload_n 0, 1), (348, .iload 4, 2), (350, .iconst 1, 1), (351, .iadd, 1), (352, .iaload, 1), (353, .invokevirtual 37, 3), (356, .pop, 1), (357, .goto 1145, 3), (360, .aload_n 1, 1), (361, .aload_n 0, 1), (362, .iload 4, 2), (364, .iconst 1, 1), (365, .iadd, 1), (366, .iaload, 1), (367, .invokevirtual 38, 3), (370, .pop, 1), (371, .aload_n 2, 1), (372, .aload_n 0, 1), (373, .iload 4, 2), (375, .iconst 1, 1), (376, .iadd, 1)]
theorem zhdL_law_342 : dzC ztdL_law_342 342 (cL_law.data.toList.drop 342) = true := by decide +kernel
theorem dL_law_342 : decode cL_law 342 = .ok (.invokevirtual 34, 3) := dzr zhdL_law_342 0 rfl
theorem dL_law_345 : decode cL_law 345 = .ok (.pop, 1) := dzr zhdL_law_342 1 rfl
theorem dL_law_346 : decode cL_law 346 = .ok (.aload_n 2, 1) := dzr zhdL_law_342 2 rfl
theorem dL_law_347 : decode cL_law 347 = .ok (.aload_n 0, 1) := dzr zhdL_law_342 3 rfl
theorem dL_law_348 : decode cL_law 348 = .ok (.iload 4, 2) := dzr zhdL_law_342 4 rfl
theorem dL_law_350 : decode cL_law 350 = .ok (.iconst 1, 1) := dzr zhdL_law_342 5 rfl
theorem dL_law_351 : decode cL_law 351 = .ok (.iadd, 1) := dzr zhdL_law_342 6 rfl
theorem dL_law_352 : decode cL_law 352 = .ok (.iaload, 1) := dzr zhdL_law_342 7 rfl
theorem dL_law_353 : decode cL_law 353 = .ok (.invokevirtual 37, 3) := dzr zhdL_law_342 8 rfl
theorem dL_law_356 : decode cL_law 356 = .ok (.pop, 1) := dzr zhdL_law_342 9 rfl
theorem dL_law_357 : decode cL_law 357 = .ok (.goto 1145, 3) := dzr zhdL_law_342 10 rfl
theorem dL_law_360 : decode cL_law 360 = .ok (.aload_n 1, 1) := dzr zhdL_law_342 11 rfl
theorem dL_law_361 : decode cL_law 361 = .ok (.aload_n 0, 1) := dzr zhdL_law_342 12 rfl
theorem dL_law_362 : decode cL_law 362 = .ok (.iload 4, 2) := dzr zhdL_law_342 13 rfl
theorem dL_law_364 : decode cL_law 364 = .ok (.iconst 1, 1) := dzr zhdL_law_342 14 rfl
theorem dL_law_365 : decode cL_law 365 = .ok (.iadd, 1) := dzr zhdL_law_342 15 rfl
theorem dL_law_366 : decode cL_law 366 = .ok (.iaload, 1) := dzr zhdL_law_342 16 rfl
theorem dL_law_367 : decode cL_law 367 = .ok (.invokevirtual 38, 3) := dzr zhdL_law_342 17 rfl
theorem dL_law_370 : decode cL_law 370 = .ok (.pop, 1) := dzr zhdL_law_342 18 rfl
theorem dL_law_371 : decode cL_law 371 = .ok (.aload_n 2, 1) := dzr zhdL_law_342 19 rfl
theorem dL_law_372 : decode cL_law 372 = .ok (.aload_n 0, 1) := dzr zhdL_law_342 20 rfl
theorem dL_law_373 : decode cL_law 373 = .ok (.iload 4, 2) := dzr zhdL_law_342 21 rfl
theorem dL_law_375 : decode cL_law 375 = .ok (.iconst 1, 1) := dzr zhdL_law_342 22 rfl
theorem dL_law_376 : decode cL_law 376 = .ok (.iadd, 1) := dzr zhdL_law_342 23 rfl
def ztdL_law_377 : List (Nat × Instr × Nat) := [(377, .iaload, 1), (378, .invokevirtual 41, 3), (381, .pop, 1), (382, .goto 1120, 3), (385, .aload_n 1, 1), (386, .aload_n 0, 1), (387, .iload 4, 2), (389, .iconst 1, 1), (390, .iadd, 1), (391, .iaload, 1), (392, .aload_n 0, 1), (393, .iload 4, 2), (395, .iconst 2, 1), (396, .iadd, 1), (397, .iaload, 1), (398, .aload_n 3, 1), (399, .invokestatic 42, 3), (402, .istore 5, 2), (404, .aload_n 2, 1), (405, .aload_n 0, 1), (406, .iload 4, 2), (408, .iconst 1, 1), (409, .iadd, 1), (410, .iaload, 1)]
theorem zhdL_law_377 : dzC ztdL_law_377 377 (cL_law.data.toList.drop 377) = true := by decide +kernel
theorem dL_law_377 : decode cL_law 377 = .ok (.iaload, 1) := dzr zhdL_law_377 0 rfl
theorem dL_law_378 : decode cL_law 378 = .ok (.invokevirtual 41, 3) := dzr zhdL_law_377 1 rfl
theorem dL_law_381 : decode cL_law 381 = .ok (.pop, 1) := dzr zhdL_law_377 2 rfl
theorem dL_law_382 : decode cL_law 382 = .ok (.goto 1120, 3) := dzr zhdL_law_377 3 rfl
theorem dL_law_385 : decode cL_law 385 = .ok (.aload_n 1, 1) := dzr zhdL_law_377 4 rfl
theorem dL_law_386 : decode cL_law 386 = .ok (.aload_n 0, 1) := dzr zhdL_law_377 5 rfl
theorem dL_law_387 : decode cL_law 387 = .ok (.iload 4, 2) := dzr zhdL_law_377 6 rfl
theorem dL_law_389 : decode cL_law 389 = .ok (.iconst 1, 1) := dzr zhdL_law_377 7 rfl
theorem dL_law_390 : decode cL_law 390 = .ok (.iadd, 1) := dzr zhdL_law_377 8 rfl
theorem dL_law_391 : decode cL_law 391 = .ok (.iaload, 1) := dzr zhdL_law_377 9 rfl
theorem dL_law_392 : decode cL_law 392 = .ok (.aload_n 0, 1) := dzr zhdL_law_377 10 rfl
theorem dL_law_393 : decode cL_law 393 = .ok (.iload 4, 2) := dzr zhdL_law_377 11 rfl
theorem dL_law_395 : decode cL_law 395 = .ok (.iconst 2, 1) := dzr zhdL_law_377 12 rfl
theorem dL_law_396 : decode cL_law 396 = .ok (.iadd, 1) := dzr zhdL_law_377 13 rfl
theorem dL_law_397 : decode cL_law 397 = .ok (.iaload, 1) := dzr zhdL_law_377 14 rfl
theorem dL_law_398 : decode cL_law 398 = .ok (.aload_n 3, 1) := dzr zhdL_law_377 15 rfl
theorem dL_law_399 : decode cL_law 399 = .ok (.invokestatic 42, 3) := dzr zhdL_law_377 16 rfl
theorem dL_law_402 : decode cL_law 402 = .ok (.istore 5, 2) := dzr zhdL_law_377 17 rfl
theorem dL_law_404 : decode cL_law 404 = .ok (.aload_n 2, 1) := dzr zhdL_law_377 18 rfl
theorem dL_law_405 : decode cL_law 405 = .ok (.aload_n 0, 1) := dzr zhdL_law_377 19 rfl
theorem dL_law_406 : decode cL_law 406 = .ok (.iload 4, 2) := dzr zhdL_law_377 20 rfl
theorem dL_law_408 : decode cL_law 408 = .ok (.iconst 1, 1) := dzr zhdL_law_377 21 rfl
theorem dL_law_409 : decode cL_law 409 = .ok (.iadd, 1) := dzr zhdL_law_377 22 rfl
theorem dL_law_410 : decode cL_law 410 = .ok (.iaload, 1) := dzr zhdL_law_377 23 rfl
def ztdL_law_411 : List (Nat × Instr × Nat) := [(411, .aload_n 0, 1), (412, .iload 4, 2), (414, .iconst 2, 1), (415, .iadd, 1), (416, .iaload, 1), (417, .invokevirtual 47, 3), (420, .istore 6, 2), (422, .goto 1080, 3), (425, .aload_n 1, 1), (426, .aload_n 0, 1), (427, .iload 4, 2), (429, .iconst 1, 1), (430, .iadd, 1), (431, .iaload, 1), (432, .aload_n 0, 1), (433, .iload 4, 2), (435, .iconst 2, 1), (436, .iadd, 1), (437, .iaload, 1), (438, .invokevirtual 48, 3), (441, .pop, 1), (442, .aload_n 2, 1), (443, .aload_n 0, 1), (444, .iload 4, 2)]
theorem zhdL_law_411 : dzC ztdL_law_411 411 (cL_law.data.toList.drop 411) = true := by decide +kernel
theorem dL_law_411 : decode cL_law 411 = .ok (.aload_n 0, 1) := dzr zhdL_law_411 0 rfl
theorem dL_law_412 : decode cL_law 412 = .ok (.iload 4, 2) := dzr zhdL_law_411 1 rfl
theorem dL_law_414 : decode cL_law 414 = .ok (.iconst 2, 1) := dzr zhdL_law_411 2 rfl
theorem dL_law_415 : decode cL_law 415 = .ok (.iadd, 1) := dzr zhdL_law_411 3 rfl
theorem dL_law_416 : decode cL_law 416 = .ok (.iaload, 1) := dzr zhdL_law_411 4 rfl
theorem dL_law_417 : decode cL_law 417 = .ok (.invokevirtual 47, 3) := dzr zhdL_law_411 5 rfl
theorem dL_law_420 : decode cL_law 420 = .ok (.istore 6, 2) := dzr zhdL_law_411 6 rfl
theorem dL_law_422 : decode cL_law 422 = .ok (.goto 1080, 3) := dzr zhdL_law_411 7 rfl
theorem dL_law_425 : decode cL_law 425 = .ok (.aload_n 1, 1) := dzr zhdL_law_411 8 rfl
theorem dL_law_426 : decode cL_law 426 = .ok (.aload_n 0, 1) := dzr zhdL_law_411 9 rfl
theorem dL_law_427 : decode cL_law 427 = .ok (.iload 4, 2) := dzr zhdL_law_411 10 rfl
theorem dL_law_429 : decode cL_law 429 = .ok (.iconst 1, 1) := dzr zhdL_law_411 11 rfl
theorem dL_law_430 : decode cL_law 430 = .ok (.iadd, 1) := dzr zhdL_law_411 12 rfl
theorem dL_law_431 : decode cL_law 431 = .ok (.iaload, 1) := dzr zhdL_law_411 13 rfl
theorem dL_law_432 : decode cL_law 432 = .ok (.aload_n 0, 1) := dzr zhdL_law_411 14 rfl
theorem dL_law_433 : decode cL_law 433 = .ok (.iload 4, 2) := dzr zhdL_law_411 15 rfl
theorem dL_law_435 : decode cL_law 435 = .ok (.iconst 2, 1) := dzr zhdL_law_411 16 rfl
theorem dL_law_436 : decode cL_law 436 = .ok (.iadd, 1) := dzr zhdL_law_411 17 rfl
theorem dL_law_437 : decode cL_law 437 = .ok (.iaload, 1) := dzr zhdL_law_411 18 rfl
theorem dL_law_438 : decode cL_law 438 = .ok (.invokevirtual 48, 3) := dzr zhdL_law_411 19 rfl
theorem dL_law_441 : decode cL_law 441 = .ok (.pop, 1) := dzr zhdL_law_411 20 rfl
theorem dL_law_442 : decode cL_law 442 = .ok (.aload_n 2, 1) := dzr zhdL_law_411 21 rfl
theorem dL_law_443 : decode cL_law 443 = .ok (.aload_n 0, 1) := dzr zhdL_law_411 22 rfl
theorem dL_law_444 : decode cL_law 444 = .ok (.iload 4, 2) := dzr zhdL_law_411 23 rfl
def ztdL_law_446 : List (Nat × Instr × Nat) := [(446, .iconst 1, 1), (447, .iadd, 1), (448, .iaload, 1), (449, .aload_n 0, 1), (450, .iload 4, 2), (452, .iconst 2, 1), (453, .iadd, 1), (454, .iaload, 1), (455, .invokevirtual 51, 3), (458, .pop, 1), (459, .goto 1043, 3), (462, .aload_n 1, 1), (463, .aload_n 0, 1), (464, .iload 4, 2), (466, .iconst 1, 1), (467, .iadd, 1), (468, .iaload, 1), (469, .aload_n 0, 1), (470, .iload 4, 2), (472, .iconst 2, 1), (473, .iadd, 1), (474, .iaload, 1), (475, .invokevirtual 52, 3), (478, .pop, 1)]
theorem zhdL_law_446 : dzC ztdL_law_446 446 (cL_law.data.toList.drop 446) = true := by decide +kernel
theorem dL_law_446 : decode cL_law 446 = .ok (.iconst 1, 1) := dzr zhdL_law_446 0 rfl
theorem dL_law_447 : decode cL_law 447 = .ok (.iadd, 1) := dzr zhdL_law_446 1 rfl
theorem dL_law_448 : decode cL_law 448 = .ok (.iaload, 1) := dzr zhdL_law_446 2 rfl
theorem dL_law_449 : decode cL_law 449 = .ok (.aload_n 0, 1) := dzr zhdL_law_446 3 rfl
theorem dL_law_450 : decode cL_law 450 = .ok (.iload 4, 2) := dzr zhdL_law_446 4 rfl
theorem dL_law_452 : decode cL_law 452 = .ok (.iconst 2, 1) := dzr zhdL_law_446 5 rfl
theorem dL_law_453 : decode cL_law 453 = .ok (.iadd, 1) := dzr zhdL_law_446 6 rfl
theorem dL_law_454 : decode cL_law 454 = .ok (.iaload, 1) := dzr zhdL_law_446 7 rfl
theorem dL_law_455 : decode cL_law 455 = .ok (.invokevirtual 51, 3) := dzr zhdL_law_446 8 rfl
theorem dL_law_458 : decode cL_law 458 = .ok (.pop, 1) := dzr zhdL_law_446 9 rfl
theorem dL_law_459 : decode cL_law 459 = .ok (.goto 1043, 3) := dzr zhdL_law_446 10 rfl
theorem dL_law_462 : decode cL_law 462 = .ok (.aload_n 1, 1) := dzr zhdL_law_446 11 rfl
theorem dL_law_463 : decode cL_law 463 = .ok (.aload_n 0, 1) := dzr zhdL_law_446 12 rfl
theorem dL_law_464 : decode cL_law 464 = .ok (.iload 4, 2) := dzr zhdL_law_446 13 rfl
theorem dL_law_466 : decode cL_law 466 = .ok (.iconst 1, 1) := dzr zhdL_law_446 14 rfl
theorem dL_law_467 : decode cL_law 467 = .ok (.iadd, 1) := dzr zhdL_law_446 15 rfl
theorem dL_law_468 : decode cL_law 468 = .ok (.iaload, 1) := dzr zhdL_law_446 16 rfl
theorem dL_law_469 : decode cL_law 469 = .ok (.aload_n 0, 1) := dzr zhdL_law_446 17 rfl
theorem dL_law_470 : decode cL_law 470 = .ok (.iload 4, 2) := dzr zhdL_law_446 18 rfl
theorem dL_law_472 : decode cL_law 472 = .ok (.iconst 2, 1) := dzr zhdL_law_446 19 rfl
theorem dL_law_473 : decode cL_law 473 = .ok (.iadd, 1) := dzr zhdL_law_446 20 rfl
theorem dL_law_474 : decode cL_law 474 = .ok (.iaload, 1) := dzr zhdL_law_446 21 rfl
theorem dL_law_475 : decode cL_law 475 = .ok (.invokevirtual 52, 3) := dzr zhdL_law_446 22 rfl
theorem dL_law_478 : decode cL_law 478 = .ok (.pop, 1) := dzr zhdL_law_446 23 rfl
def ztdL_law_479 : List (Nat × Instr × Nat) := [(479, .aload_n 2, 1), (480, .aload_n 0, 1), (481, .iload 4, 2), (483, .iconst 1, 1), (484, .iadd, 1), (485, .iaload, 1), (486, .aload_n 0, 1), (487, .iload 4, 2), (489, .iconst 2, 1), (490, .iadd, 1), (491, .iaload, 1), (492, .invokevirtual 55, 3), (495, .pop, 1), (496, .goto 1006, 3), (499, .aload_n 1, 1), (500, .aload_n 0, 1), (501, .iload 4, 2), (503, .iconst 1, 1), (504, .iadd, 1), (505, .iaload, 1), (506, .invokevirtual 56, 3), (509, .pop, 1), (510, .aload_n 2, 1), (511, .aload_n 0, 1)]
theorem zhdL_law_479 : dzC ztdL_law_479 479 (cL_law.data.toList.drop 479) = true := by decide +kernel
theorem dL_law_479 : decode cL_law 479 = .ok (.aload_n 2, 1) := dzr zhdL_law_479 0 rfl
theorem dL_law_480 : decode cL_law 480 = .ok (.aload_n 0, 1) := dzr zhdL_law_479 1 rfl
theorem dL_law_481 : decode cL_law 481 = .ok (.iload 4, 2) := dzr zhdL_law_479 2 rfl
theorem dL_law_483 : decode cL_law 483 = .ok (.iconst 1, 1) := dzr zhdL_law_479 3 rfl
theorem dL_law_484 : decode cL_law 484 = .ok (.iadd, 1) := dzr zhdL_law_479 4 rfl
theorem dL_law_485 : decode cL_law 485 = .ok (.iaload, 1) := dzr zhdL_law_479 5 rfl
theorem dL_law_486 : decode cL_law 486 = .ok (.aload_n 0, 1) := dzr zhdL_law_479 6 rfl
theorem dL_law_487 : decode cL_law 487 = .ok (.iload 4, 2) := dzr zhdL_law_479 7 rfl
theorem dL_law_489 : decode cL_law 489 = .ok (.iconst 2, 1) := dzr zhdL_law_479 8 rfl
theorem dL_law_490 : decode cL_law 490 = .ok (.iadd, 1) := dzr zhdL_law_479 9 rfl
theorem dL_law_491 : decode cL_law 491 = .ok (.iaload, 1) := dzr zhdL_law_479 10 rfl
theorem dL_law_492 : decode cL_law 492 = .ok (.invokevirtual 55, 3) := dzr zhdL_law_479 11 rfl
theorem dL_law_495 : decode cL_law 495 = .ok (.pop, 1) := dzr zhdL_law_479 12 rfl
theorem dL_law_496 : decode cL_law 496 = .ok (.goto 1006, 3) := dzr zhdL_law_479 13 rfl
theorem dL_law_499 : decode cL_law 499 = .ok (.aload_n 1, 1) := dzr zhdL_law_479 14 rfl
theorem dL_law_500 : decode cL_law 500 = .ok (.aload_n 0, 1) := dzr zhdL_law_479 15 rfl
theorem dL_law_501 : decode cL_law 501 = .ok (.iload 4, 2) := dzr zhdL_law_479 16 rfl
theorem dL_law_503 : decode cL_law 503 = .ok (.iconst 1, 1) := dzr zhdL_law_479 17 rfl
theorem dL_law_504 : decode cL_law 504 = .ok (.iadd, 1) := dzr zhdL_law_479 18 rfl
theorem dL_law_505 : decode cL_law 505 = .ok (.iaload, 1) := dzr zhdL_law_479 19 rfl
theorem dL_law_506 : decode cL_law 506 = .ok (.invokevirtual 56, 3) := dzr zhdL_law_479 20 rfl
theorem dL_law_509 : decode cL_law 509 = .ok (.pop, 1) := dzr zhdL_law_479 21 rfl
theorem dL_law_510 : decode cL_law 510 = .ok (.aload_n 2, 1) := dzr zhdL_law_479 22 rfl
theorem dL_law_511 : decode cL_law 511 = .ok (.aload_n 0, 1) := dzr zhdL_law_479 23 rfl
def ztdL_law_512 : List (Nat × Instr × Nat) := [(512, .iload 4, 2), (514, .iconst 1, 1), (515, .iadd, 1), (516, .iaload, 1), (517, .invokevirtual 59, 3), (520, .pop, 1), (521, .goto 981, 3), (524, .aload_n 1, 1), (525, .aload_n 0, 1), (526, .iload 4, 2), (528, .iconst 1, 1), (529, .iadd, 1), (530, .iaload, 1), (531, .aload_n 0, 1), (532, .iload 4, 2), (534, .iconst 2, 1), (535, .iadd, 1), (536, .iaload, 1), (537, .invokevirtual 60, 3), (540, .pop, 1), (541, .aload_n 2, 1), (542, .aload_n 0, 1), (543, .iload 4, 2), (545, .iconst 1, 1)]
theorem zhdL_law_512 : dzC ztdL_law_512 512 (cL_law.data.toList.drop 512) = true := by decide +kernel
theorem dL_law_512 : decode cL_law 512 = .ok (.iload 4, 2) := dzr zhdL_law_512 0 rfl
theorem dL_law_514 : decode cL_law 514 = .ok (.iconst 1, 1) := dzr zhdL_law_512 1 rfl
theorem dL_law_515 : decode cL_law 515 = .ok (.iadd, 1) := dzr zhdL_law_512 2 rfl
theorem dL_law_516 : decode cL_law 516 = .ok (.iaload, 1) := dzr zhdL_law_512 3 rfl
theorem dL_law_517 : decode cL_law 517 = .ok (.invokevirtual 59, 3) := dzr zhdL_law_512 4 rfl
theorem dL_law_520 : decode cL_law 520 = .ok (.pop, 1) := dzr zhdL_law_512 5 rfl
theorem dL_law_521 : decode cL_law 521 = .ok (.goto 981, 3) := dzr zhdL_law_512 6 rfl
theorem dL_law_524 : decode cL_law 524 = .ok (.aload_n 1, 1) := dzr zhdL_law_512 7 rfl
theorem dL_law_525 : decode cL_law 525 = .ok (.aload_n 0, 1) := dzr zhdL_law_512 8 rfl
theorem dL_law_526 : decode cL_law 526 = .ok (.iload 4, 2) := dzr zhdL_law_512 9 rfl
theorem dL_law_528 : decode cL_law 528 = .ok (.iconst 1, 1) := dzr zhdL_law_512 10 rfl
theorem dL_law_529 : decode cL_law 529 = .ok (.iadd, 1) := dzr zhdL_law_512 11 rfl
theorem dL_law_530 : decode cL_law 530 = .ok (.iaload, 1) := dzr zhdL_law_512 12 rfl
theorem dL_law_531 : decode cL_law 531 = .ok (.aload_n 0, 1) := dzr zhdL_law_512 13 rfl
theorem dL_law_532 : decode cL_law 532 = .ok (.iload 4, 2) := dzr zhdL_law_512 14 rfl
theorem dL_law_534 : decode cL_law 534 = .ok (.iconst 2, 1) := dzr zhdL_law_512 15 rfl
theorem dL_law_535 : decode cL_law 535 = .ok (.iadd, 1) := dzr zhdL_law_512 16 rfl
theorem dL_law_536 : decode cL_law 536 = .ok (.iaload, 1) := dzr zhdL_law_512 17 rfl
theorem dL_law_537 : decode cL_law 537 = .ok (.invokevirtual 60, 3) := dzr zhdL_law_512 18 rfl
theorem dL_law_540 : decode cL_law 540 = .ok (.pop, 1) := dzr zhdL_law_512 19 rfl
theorem dL_law_541 : decode cL_law 541 = .ok (.aload_n 2, 1) := dzr zhdL_law_512 20 rfl
theorem dL_law_542 : decode cL_law 542 = .ok (.aload_n 0, 1) := dzr zhdL_law_512 21 rfl
theorem dL_law_543 : decode cL_law 543 = .ok (.iload 4, 2) := dzr zhdL_law_512 22 rfl
theorem dL_law_545 : decode cL_law 545 = .ok (.iconst 1, 1) := dzr zhdL_law_512 23 rfl
def ztdL_law_546 : List (Nat × Instr × Nat) := [(546, .iadd, 1), (547, .iaload, 1), (548, .aload_n 0, 1), (549, .iload 4, 2), (551, .iconst 2, 1), (552, .iadd, 1), (553, .iaload, 1), (554, .invokevirtual 63, 3), (557, .pop, 1), (558, .goto 944, 3), (561, .aload_n 1, 1), (562, .aload_n 0, 1), (563, .iload 4, 2), (565, .iconst 1, 1), (566, .iadd, 1), (567, .iaload, 1), (568, .invokevirtual 64, 3), (571, .pop, 1), (572, .aload_n 2, 1), (573, .aload_n 0, 1), (574, .iload 4, 2), (576, .iconst 1, 1), (577, .iadd, 1), (578, .iaload, 1)]
theorem zhdL_law_546 : dzC ztdL_law_546 546 (cL_law.data.toList.drop 546) = true := by decide +kernel
theorem dL_law_546 : decode cL_law 546 = .ok (.iadd, 1) := dzr zhdL_law_546 0 rfl
theorem dL_law_547 : decode cL_law 547 = .ok (.iaload, 1) := dzr zhdL_law_546 1 rfl
theorem dL_law_548 : decode cL_law 548 = .ok (.aload_n 0, 1) := dzr zhdL_law_546 2 rfl
theorem dL_law_549 : decode cL_law 549 = .ok (.iload 4, 2) := dzr zhdL_law_546 3 rfl
theorem dL_law_551 : decode cL_law 551 = .ok (.iconst 2, 1) := dzr zhdL_law_546 4 rfl
theorem dL_law_552 : decode cL_law 552 = .ok (.iadd, 1) := dzr zhdL_law_546 5 rfl
theorem dL_law_553 : decode cL_law 553 = .ok (.iaload, 1) := dzr zhdL_law_546 6 rfl
theorem dL_law_554 : decode cL_law 554 = .ok (.invokevirtual 63, 3) := dzr zhdL_law_546 7 rfl
theorem dL_law_557 : decode cL_law 557 = .ok (.pop, 1) := dzr zhdL_law_546 8 rfl
theorem dL_law_558 : decode cL_law 558 = .ok (.goto 944, 3) := dzr zhdL_law_546 9 rfl
theorem dL_law_561 : decode cL_law 561 = .ok (.aload_n 1, 1) := dzr zhdL_law_546 10 rfl
theorem dL_law_562 : decode cL_law 562 = .ok (.aload_n 0, 1) := dzr zhdL_law_546 11 rfl
theorem dL_law_563 : decode cL_law 563 = .ok (.iload 4, 2) := dzr zhdL_law_546 12 rfl
theorem dL_law_565 : decode cL_law 565 = .ok (.iconst 1, 1) := dzr zhdL_law_546 13 rfl
theorem dL_law_566 : decode cL_law 566 = .ok (.iadd, 1) := dzr zhdL_law_546 14 rfl
theorem dL_law_567 : decode cL_law 567 = .ok (.iaload, 1) := dzr zhdL_law_546 15 rfl
theorem dL_law_568 : decode cL_law 568 = .ok (.invokevirtual 64, 3) := dzr zhdL_law_546 16 rfl
theorem dL_law_571 : decode cL_law 571 = .ok (.pop, 1) := dzr zhdL_law_546 17 rfl
theorem dL_law_572 : decode cL_law 572 = .ok (.aload_n 2, 1) := dzr zhdL_law_546 18 rfl
theorem dL_law_573 : decode cL_law 573 = .ok (.aload_n 0, 1) := dzr zhdL_law_546 19 rfl
theorem dL_law_574 : decode cL_law 574 = .ok (.iload 4, 2) := dzr zhdL_law_546 20 rfl
theorem dL_law_576 : decode cL_law 576 = .ok (.iconst 1, 1) := dzr zhdL_law_546 21 rfl
theorem dL_law_577 : decode cL_law 577 = .ok (.iadd, 1) := dzr zhdL_law_546 22 rfl
theorem dL_law_578 : decode cL_law 578 = .ok (.iaload, 1) := dzr zhdL_law_546 23 rfl
def ztdL_law_579 : List (Nat × Instr × Nat) := [(579, .invokevirtual 67, 3), (582, .pop, 1), (583, .goto 919, 3), (586, .aload_n 1, 1), (587, .aload_n 0, 1), (588, .iload 4, 2), (590, .iconst 1, 1), (591, .iadd, 1), (592, .iaload, 1), (593, .aload_n 0, 1), (594, .iload 4, 2), (596, .iconst 2, 1), (597, .iadd, 1), (598, .iaload, 1), (599, .invokevirtual 68, 3), (602, .pop, 1), (603, .aload_n 2, 1), (604, .aload_n 0, 1), (605, .iload 4, 2), (607, .iconst 1, 1), (608, .iadd, 1), (609, .iaload, 1), (610, .aload_n 0, 1), (611, .iload 4, 2)]
theorem zhdL_law_579 : dzC ztdL_law_579 579 (cL_law.data.toList.drop 579) = true := by decide +kernel
theorem dL_law_579 : decode cL_law 579 = .ok (.invokevirtual 67, 3) := dzr zhdL_law_579 0 rfl
theorem dL_law_582 : decode cL_law 582 = .ok (.pop, 1) := dzr zhdL_law_579 1 rfl
theorem dL_law_583 : decode cL_law 583 = .ok (.goto 919, 3) := dzr zhdL_law_579 2 rfl
theorem dL_law_586 : decode cL_law 586 = .ok (.aload_n 1, 1) := dzr zhdL_law_579 3 rfl
theorem dL_law_587 : decode cL_law 587 = .ok (.aload_n 0, 1) := dzr zhdL_law_579 4 rfl
theorem dL_law_588 : decode cL_law 588 = .ok (.iload 4, 2) := dzr zhdL_law_579 5 rfl
theorem dL_law_590 : decode cL_law 590 = .ok (.iconst 1, 1) := dzr zhdL_law_579 6 rfl
theorem dL_law_591 : decode cL_law 591 = .ok (.iadd, 1) := dzr zhdL_law_579 7 rfl
theorem dL_law_592 : decode cL_law 592 = .ok (.iaload, 1) := dzr zhdL_law_579 8 rfl
theorem dL_law_593 : decode cL_law 593 = .ok (.aload_n 0, 1) := dzr zhdL_law_579 9 rfl
theorem dL_law_594 : decode cL_law 594 = .ok (.iload 4, 2) := dzr zhdL_law_579 10 rfl
theorem dL_law_596 : decode cL_law 596 = .ok (.iconst 2, 1) := dzr zhdL_law_579 11 rfl
theorem dL_law_597 : decode cL_law 597 = .ok (.iadd, 1) := dzr zhdL_law_579 12 rfl
theorem dL_law_598 : decode cL_law 598 = .ok (.iaload, 1) := dzr zhdL_law_579 13 rfl
theorem dL_law_599 : decode cL_law 599 = .ok (.invokevirtual 68, 3) := dzr zhdL_law_579 14 rfl
theorem dL_law_602 : decode cL_law 602 = .ok (.pop, 1) := dzr zhdL_law_579 15 rfl
theorem dL_law_603 : decode cL_law 603 = .ok (.aload_n 2, 1) := dzr zhdL_law_579 16 rfl
theorem dL_law_604 : decode cL_law 604 = .ok (.aload_n 0, 1) := dzr zhdL_law_579 17 rfl
theorem dL_law_605 : decode cL_law 605 = .ok (.iload 4, 2) := dzr zhdL_law_579 18 rfl
theorem dL_law_607 : decode cL_law 607 = .ok (.iconst 1, 1) := dzr zhdL_law_579 19 rfl
theorem dL_law_608 : decode cL_law 608 = .ok (.iadd, 1) := dzr zhdL_law_579 20 rfl
theorem dL_law_609 : decode cL_law 609 = .ok (.iaload, 1) := dzr zhdL_law_579 21 rfl
theorem dL_law_610 : decode cL_law 610 = .ok (.aload_n 0, 1) := dzr zhdL_law_579 22 rfl
theorem dL_law_611 : decode cL_law 611 = .ok (.iload 4, 2) := dzr zhdL_law_579 23 rfl
def ztdL_law_613 : List (Nat × Instr × Nat) := [(613, .iconst 2, 1), (614, .iadd, 1), (615, .iaload, 1), (616, .invokevirtual 71, 3), (619, .pop, 1), (620, .goto 882, 3), (623, .aload_n 1, 1), (624, .invokevirtual 72, 3), (627, .pop, 1), (628, .aload_n 2, 1), (629, .invokevirtual 76, 3), (632, .pop, 1), (633, .goto 869, 3), (636, .aload_n 1, 1), (637, .aload_n 0, 1), (638, .iload 4, 2), (640, .iconst 1, 1), (641, .iadd, 1), (642, .iaload, 1), (643, .invokevirtual 77, 3), (646, .pop, 1), (647, .aload_n 2, 1), (648, .aload_n 0, 1), (649, .iload 4, 2)]
theorem zhdL_law_613 : dzC ztdL_law_613 613 (cL_law.data.toList.drop 613) = true := by decide +kernel
theorem dL_law_613 : decode cL_law 613 = .ok (.iconst 2, 1) := dzr zhdL_law_613 0 rfl
theorem dL_law_614 : decode cL_law 614 = .ok (.iadd, 1) := dzr zhdL_law_613 1 rfl
theorem dL_law_615 : decode cL_law 615 = .ok (.iaload, 1) := dzr zhdL_law_613 2 rfl
theorem dL_law_616 : decode cL_law 616 = .ok (.invokevirtual 71, 3) := dzr zhdL_law_613 3 rfl
theorem dL_law_619 : decode cL_law 619 = .ok (.pop, 1) := dzr zhdL_law_613 4 rfl
theorem dL_law_620 : decode cL_law 620 = .ok (.goto 882, 3) := dzr zhdL_law_613 5 rfl
theorem dL_law_623 : decode cL_law 623 = .ok (.aload_n 1, 1) := dzr zhdL_law_613 6 rfl
theorem dL_law_624 : decode cL_law 624 = .ok (.invokevirtual 72, 3) := dzr zhdL_law_613 7 rfl
theorem dL_law_627 : decode cL_law 627 = .ok (.pop, 1) := dzr zhdL_law_613 8 rfl
theorem dL_law_628 : decode cL_law 628 = .ok (.aload_n 2, 1) := dzr zhdL_law_613 9 rfl
theorem dL_law_629 : decode cL_law 629 = .ok (.invokevirtual 76, 3) := dzr zhdL_law_613 10 rfl
theorem dL_law_632 : decode cL_law 632 = .ok (.pop, 1) := dzr zhdL_law_613 11 rfl
theorem dL_law_633 : decode cL_law 633 = .ok (.goto 869, 3) := dzr zhdL_law_613 12 rfl
theorem dL_law_636 : decode cL_law 636 = .ok (.aload_n 1, 1) := dzr zhdL_law_613 13 rfl
theorem dL_law_637 : decode cL_law 637 = .ok (.aload_n 0, 1) := dzr zhdL_law_613 14 rfl
theorem dL_law_638 : decode cL_law 638 = .ok (.iload 4, 2) := dzr zhdL_law_613 15 rfl
theorem dL_law_640 : decode cL_law 640 = .ok (.iconst 1, 1) := dzr zhdL_law_613 16 rfl
theorem dL_law_641 : decode cL_law 641 = .ok (.iadd, 1) := dzr zhdL_law_613 17 rfl
theorem dL_law_642 : decode cL_law 642 = .ok (.iaload, 1) := dzr zhdL_law_613 18 rfl
theorem dL_law_643 : decode cL_law 643 = .ok (.invokevirtual 77, 3) := dzr zhdL_law_613 19 rfl
theorem dL_law_646 : decode cL_law 646 = .ok (.pop, 1) := dzr zhdL_law_613 20 rfl
theorem dL_law_647 : decode cL_law 647 = .ok (.aload_n 2, 1) := dzr zhdL_law_613 21 rfl
theorem dL_law_648 : decode cL_law 648 = .ok (.aload_n 0, 1) := dzr zhdL_law_613 22 rfl
theorem dL_law_649 : decode cL_law 649 = .ok (.iload 4, 2) := dzr zhdL_law_613 23 rfl
def ztdL_law_651 : List (Nat × Instr × Nat) := [(651, .iconst 1, 1), (652, .iadd, 1), (653, .iaload, 1), (654, .invokevirtual 80, 3), (657, .pop, 1), (658, .goto 844, 3), (661, .aload_n 1, 1), (662, .aload_n 0, 1), (663, .iload 4, 2), (665, .iconst 1, 1), (666, .iadd, 1), (667, .iaload, 1), (668, .invokevirtual 81, 3), (671, .pop, 1), (672, .aload_n 2, 1), (673, .aload_n 0, 1), (674, .iload 4, 2), (676, .iconst 1, 1), (677, .iadd, 1), (678, .iaload, 1), (679, .invokevirtual 84, 3), (682, .pop, 1), (683, .goto 819, 3), (686, .aload_n 1, 1)]
theorem zhdL_law_651 : dzC ztdL_law_651 651 (cL_law.data.toList.drop 651) = true := by decide +kernel
theorem dL_law_651 : decode cL_law 651 = .ok (.iconst 1, 1) := dzr zhdL_law_651 0 rfl
theorem dL_law_652 : decode cL_law 652 = .ok (.iadd, 1) := dzr zhdL_law_651 1 rfl
theorem dL_law_653 : decode cL_law 653 = .ok (.iaload, 1) := dzr zhdL_law_651 2 rfl
theorem dL_law_654 : decode cL_law 654 = .ok (.invokevirtual 80, 3) := dzr zhdL_law_651 3 rfl
theorem dL_law_657 : decode cL_law 657 = .ok (.pop, 1) := dzr zhdL_law_651 4 rfl
theorem dL_law_658 : decode cL_law 658 = .ok (.goto 844, 3) := dzr zhdL_law_651 5 rfl
theorem dL_law_661 : decode cL_law 661 = .ok (.aload_n 1, 1) := dzr zhdL_law_651 6 rfl
theorem dL_law_662 : decode cL_law 662 = .ok (.aload_n 0, 1) := dzr zhdL_law_651 7 rfl
theorem dL_law_663 : decode cL_law 663 = .ok (.iload 4, 2) := dzr zhdL_law_651 8 rfl
theorem dL_law_665 : decode cL_law 665 = .ok (.iconst 1, 1) := dzr zhdL_law_651 9 rfl
theorem dL_law_666 : decode cL_law 666 = .ok (.iadd, 1) := dzr zhdL_law_651 10 rfl
theorem dL_law_667 : decode cL_law 667 = .ok (.iaload, 1) := dzr zhdL_law_651 11 rfl
theorem dL_law_668 : decode cL_law 668 = .ok (.invokevirtual 81, 3) := dzr zhdL_law_651 12 rfl
theorem dL_law_671 : decode cL_law 671 = .ok (.pop, 1) := dzr zhdL_law_651 13 rfl
theorem dL_law_672 : decode cL_law 672 = .ok (.aload_n 2, 1) := dzr zhdL_law_651 14 rfl
theorem dL_law_673 : decode cL_law 673 = .ok (.aload_n 0, 1) := dzr zhdL_law_651 15 rfl
theorem dL_law_674 : decode cL_law 674 = .ok (.iload 4, 2) := dzr zhdL_law_651 16 rfl
theorem dL_law_676 : decode cL_law 676 = .ok (.iconst 1, 1) := dzr zhdL_law_651 17 rfl
theorem dL_law_677 : decode cL_law 677 = .ok (.iadd, 1) := dzr zhdL_law_651 18 rfl
theorem dL_law_678 : decode cL_law 678 = .ok (.iaload, 1) := dzr zhdL_law_651 19 rfl
theorem dL_law_679 : decode cL_law 679 = .ok (.invokevirtual 84, 3) := dzr zhdL_law_651 20 rfl
theorem dL_law_682 : decode cL_law 682 = .ok (.pop, 1) := dzr zhdL_law_651 21 rfl
theorem dL_law_683 : decode cL_law 683 = .ok (.goto 819, 3) := dzr zhdL_law_651 22 rfl
theorem dL_law_686 : decode cL_law 686 = .ok (.aload_n 1, 1) := dzr zhdL_law_651 23 rfl
def ztdL_law_687 : List (Nat × Instr × Nat) := [(687, .aload_n 0, 1), (688, .iload 4, 2), (690, .iconst 1, 1), (691, .iadd, 1), (692, .iaload, 1), (693, .invokevirtual 85, 3), (696, .pop, 1), (697, .aload_n 2, 1), (698, .aload_n 0, 1), (699, .iload 4, 2), (701, .iconst 1, 1), (702, .iadd, 1), (703, .iaload, 1), (704, .invokevirtual 88, 3), (707, .pop, 1), (708, .goto 794, 3), (711, .aload_n 1, 1), (712, .aload_n 0, 1), (713, .iload 4, 2), (715, .iconst 1, 1), (716, .iadd, 1), (717, .iaload, 1), (718, .invokevirtual 89, 3), (721, .pop, 1)]
theorem zhdL_law_687 : dzC ztdL_law_687 687 (cL_law.data.toList.drop 687) = true := by decide +kernel
theorem dL_law_687 : decode cL_law 687 = .ok (.aload_n 0, 1) := dzr zhdL_law_687 0 rfl
theorem dL_law_688 : decode cL_law 688 = .ok (.iload 4, 2) := dzr zhdL_law_687 1 rfl
theorem dL_law_690 : decode cL_law 690 = .ok (.iconst 1, 1) := dzr zhdL_law_687 2 rfl
theorem dL_law_691 : decode cL_law 691 = .ok (.iadd, 1) := dzr zhdL_law_687 3 rfl
theorem dL_law_692 : decode cL_law 692 = .ok (.iaload, 1) := dzr zhdL_law_687 4 rfl
theorem dL_law_693 : decode cL_law 693 = .ok (.invokevirtual 85, 3) := dzr zhdL_law_687 5 rfl
theorem dL_law_696 : decode cL_law 696 = .ok (.pop, 1) := dzr zhdL_law_687 6 rfl
theorem dL_law_697 : decode cL_law 697 = .ok (.aload_n 2, 1) := dzr zhdL_law_687 7 rfl
theorem dL_law_698 : decode cL_law 698 = .ok (.aload_n 0, 1) := dzr zhdL_law_687 8 rfl
theorem dL_law_699 : decode cL_law 699 = .ok (.iload 4, 2) := dzr zhdL_law_687 9 rfl
theorem dL_law_701 : decode cL_law 701 = .ok (.iconst 1, 1) := dzr zhdL_law_687 10 rfl
theorem dL_law_702 : decode cL_law 702 = .ok (.iadd, 1) := dzr zhdL_law_687 11 rfl
theorem dL_law_703 : decode cL_law 703 = .ok (.iaload, 1) := dzr zhdL_law_687 12 rfl
theorem dL_law_704 : decode cL_law 704 = .ok (.invokevirtual 88, 3) := dzr zhdL_law_687 13 rfl
theorem dL_law_707 : decode cL_law 707 = .ok (.pop, 1) := dzr zhdL_law_687 14 rfl
theorem dL_law_708 : decode cL_law 708 = .ok (.goto 794, 3) := dzr zhdL_law_687 15 rfl
theorem dL_law_711 : decode cL_law 711 = .ok (.aload_n 1, 1) := dzr zhdL_law_687 16 rfl
theorem dL_law_712 : decode cL_law 712 = .ok (.aload_n 0, 1) := dzr zhdL_law_687 17 rfl
theorem dL_law_713 : decode cL_law 713 = .ok (.iload 4, 2) := dzr zhdL_law_687 18 rfl
theorem dL_law_715 : decode cL_law 715 = .ok (.iconst 1, 1) := dzr zhdL_law_687 19 rfl
theorem dL_law_716 : decode cL_law 716 = .ok (.iadd, 1) := dzr zhdL_law_687 20 rfl
theorem dL_law_717 : decode cL_law 717 = .ok (.iaload, 1) := dzr zhdL_law_687 21 rfl
theorem dL_law_718 : decode cL_law 718 = .ok (.invokevirtual 89, 3) := dzr zhdL_law_687 22 rfl
theorem dL_law_721 : decode cL_law 721 = .ok (.pop, 1) := dzr zhdL_law_687 23 rfl
def ztdL_law_722 : List (Nat × Instr × Nat) := [(722, .aload_n 2, 1), (723, .aload_n 0, 1), (724, .iload 4, 2), (726, .iconst 1, 1), (727, .iadd, 1), (728, .iaload, 1), (729, .invokevirtual 92, 3), (732, .pop, 1), (733, .goto 769, 3), (736, .aload_n 1, 1), (737, .aload_n 0, 1), (738, .iload 4, 2), (740, .iconst 1, 1), (741, .iadd, 1), (742, .iaload, 1), (743, .aload_n 0, 1), (744, .iload 4, 2), (746, .iconst 2, 1), (747, .iadd, 1), (748, .iaload, 1), (749, .i2l, 1), (750, .bipush 32, 2), (752, .lshl, 1), (753, .aload_n 0, 1)]
theorem zhdL_law_722 : dzC ztdL_law_722 722 (cL_law.data.toList.drop 722) = true := by decide +kernel
theorem dL_law_722 : decode cL_law 722 = .ok (.aload_n 2, 1) := dzr zhdL_law_722 0 rfl
theorem dL_law_723 : decode cL_law 723 = .ok (.aload_n 0, 1) := dzr zhdL_law_722 1 rfl
theorem dL_law_724 : decode cL_law 724 = .ok (.iload 4, 2) := dzr zhdL_law_722 2 rfl
theorem dL_law_726 : decode cL_law 726 = .ok (.iconst 1, 1) := dzr zhdL_law_722 3 rfl
theorem dL_law_727 : decode cL_law 727 = .ok (.iadd, 1) := dzr zhdL_law_722 4 rfl
theorem dL_law_728 : decode cL_law 728 = .ok (.iaload, 1) := dzr zhdL_law_722 5 rfl
theorem dL_law_729 : decode cL_law 729 = .ok (.invokevirtual 92, 3) := dzr zhdL_law_722 6 rfl
theorem dL_law_732 : decode cL_law 732 = .ok (.pop, 1) := dzr zhdL_law_722 7 rfl
theorem dL_law_733 : decode cL_law 733 = .ok (.goto 769, 3) := dzr zhdL_law_722 8 rfl
theorem dL_law_736 : decode cL_law 736 = .ok (.aload_n 1, 1) := dzr zhdL_law_722 9 rfl
theorem dL_law_737 : decode cL_law 737 = .ok (.aload_n 0, 1) := dzr zhdL_law_722 10 rfl
theorem dL_law_738 : decode cL_law 738 = .ok (.iload 4, 2) := dzr zhdL_law_722 11 rfl
theorem dL_law_740 : decode cL_law 740 = .ok (.iconst 1, 1) := dzr zhdL_law_722 12 rfl
theorem dL_law_741 : decode cL_law 741 = .ok (.iadd, 1) := dzr zhdL_law_722 13 rfl
theorem dL_law_742 : decode cL_law 742 = .ok (.iaload, 1) := dzr zhdL_law_722 14 rfl
theorem dL_law_743 : decode cL_law 743 = .ok (.aload_n 0, 1) := dzr zhdL_law_722 15 rfl
theorem dL_law_744 : decode cL_law 744 = .ok (.iload 4, 2) := dzr zhdL_law_722 16 rfl
theorem dL_law_746 : decode cL_law 746 = .ok (.iconst 2, 1) := dzr zhdL_law_722 17 rfl
theorem dL_law_747 : decode cL_law 747 = .ok (.iadd, 1) := dzr zhdL_law_722 18 rfl
theorem dL_law_748 : decode cL_law 748 = .ok (.iaload, 1) := dzr zhdL_law_722 19 rfl
theorem dL_law_749 : decode cL_law 749 = .ok (.i2l, 1) := dzr zhdL_law_722 20 rfl
theorem dL_law_750 : decode cL_law 750 = .ok (.bipush 32, 2) := dzr zhdL_law_722 21 rfl
theorem dL_law_752 : decode cL_law 752 = .ok (.lshl, 1) := dzr zhdL_law_722 22 rfl
theorem dL_law_753 : decode cL_law 753 = .ok (.aload_n 0, 1) := dzr zhdL_law_722 23 rfl
def ztdL_law_754 : List (Nat × Instr × Nat) := [(754, .iload 4, 2), (756, .iconst 3, 1), (757, .iadd, 1), (758, .iaload, 1), (759, .i2l, 1), (760, .ldc2_w 93, 3), (763, .land, 1), (764, .lor, 1), (765, .invokevirtual 95, 3), (768, .pop, 1), (769, .aload_n 2, 1), (770, .aload_n 0, 1), (771, .iload 4, 2), (773, .iconst 1, 1), (774, .iadd, 1), (775, .iaload, 1), (776, .aload_n 0, 1), (777, .iload 4, 2), (779, .iconst 2, 1), (780, .iadd, 1), (781, .iaload, 1), (782, .i2l, 1), (783, .bipush 32, 2), (785, .lshl, 1)]
theorem zhdL_law_754 : dzC ztdL_law_754 754 (cL_law.data.toList.drop 754) = true := by decide +kernel
theorem dL_law_754 : decode cL_law 754 = .ok (.iload 4, 2) := dzr zhdL_law_754 0 rfl
theorem dL_law_756 : decode cL_law 756 = .ok (.iconst 3, 1) := dzr zhdL_law_754 1 rfl
theorem dL_law_757 : decode cL_law 757 = .ok (.iadd, 1) := dzr zhdL_law_754 2 rfl
theorem dL_law_758 : decode cL_law 758 = .ok (.iaload, 1) := dzr zhdL_law_754 3 rfl
theorem dL_law_759 : decode cL_law 759 = .ok (.i2l, 1) := dzr zhdL_law_754 4 rfl
theorem dL_law_760 : decode cL_law 760 = .ok (.ldc2_w 93, 3) := dzr zhdL_law_754 5 rfl
theorem dL_law_763 : decode cL_law 763 = .ok (.land, 1) := dzr zhdL_law_754 6 rfl
theorem dL_law_764 : decode cL_law 764 = .ok (.lor, 1) := dzr zhdL_law_754 7 rfl
theorem dL_law_765 : decode cL_law 765 = .ok (.invokevirtual 95, 3) := dzr zhdL_law_754 8 rfl
theorem dL_law_768 : decode cL_law 768 = .ok (.pop, 1) := dzr zhdL_law_754 9 rfl
theorem dL_law_769 : decode cL_law 769 = .ok (.aload_n 2, 1) := dzr zhdL_law_754 10 rfl
theorem dL_law_770 : decode cL_law 770 = .ok (.aload_n 0, 1) := dzr zhdL_law_754 11 rfl
theorem dL_law_771 : decode cL_law 771 = .ok (.iload 4, 2) := dzr zhdL_law_754 12 rfl
theorem dL_law_773 : decode cL_law 773 = .ok (.iconst 1, 1) := dzr zhdL_law_754 13 rfl
theorem dL_law_774 : decode cL_law 774 = .ok (.iadd, 1) := dzr zhdL_law_754 14 rfl
theorem dL_law_775 : decode cL_law 775 = .ok (.iaload, 1) := dzr zhdL_law_754 15 rfl
theorem dL_law_776 : decode cL_law 776 = .ok (.aload_n 0, 1) := dzr zhdL_law_754 16 rfl
theorem dL_law_777 : decode cL_law 777 = .ok (.iload 4, 2) := dzr zhdL_law_754 17 rfl
theorem dL_law_779 : decode cL_law 779 = .ok (.iconst 2, 1) := dzr zhdL_law_754 18 rfl
theorem dL_law_780 : decode cL_law 780 = .ok (.iadd, 1) := dzr zhdL_law_754 19 rfl
theorem dL_law_781 : decode cL_law 781 = .ok (.iaload, 1) := dzr zhdL_law_754 20 rfl
theorem dL_law_782 : decode cL_law 782 = .ok (.i2l, 1) := dzr zhdL_law_754 21 rfl
theorem dL_law_783 : decode cL_law 783 = .ok (.bipush 32, 2) := dzr zhdL_law_754 22 rfl
theorem dL_law_785 : decode cL_law 785 = .ok (.lshl, 1) := dzr zhdL_law_754 23 rfl
def ztdL_law_786 : List (Nat × Instr × Nat) := [(786, .aload_n 0, 1), (787, .iload 4, 2), (789, .iconst 3, 1), (790, .iadd, 1), (791, .iaload, 1), (792, .i2l, 1), (793, .ldc2_w 93, 3), (796, .land, 1), (797, .lor, 1), (798, .invokevirtual 99, 3), (801, .pop, 1), (802, .goto 700, 3), (805, .aload_n 1, 1), (806, .aload_n 0, 1), (807, .iload 4, 2), (809, .iconst 1, 1), (810, .iadd, 1), (811, .iaload, 1), (812, .invokevirtual 100, 3), (815, .pop, 1), (816, .aload_n 2, 1), (817, .aload_n 0, 1), (818, .iload 4, 2), (820, .iconst 1, 1)]
theorem zhdL_law_786 : dzC ztdL_law_786 786 (cL_law.data.toList.drop 786) = true := by decide +kernel
theorem dL_law_786 : decode cL_law 786 = .ok (.aload_n 0, 1) := dzr zhdL_law_786 0 rfl
theorem dL_law_787 : decode cL_law 787 = .ok (.iload 4, 2) := dzr zhdL_law_786 1 rfl
theorem dL_law_789 : decode cL_law 789 = .ok (.iconst 3, 1) := dzr zhdL_law_786 2 rfl
theorem dL_law_790 : decode cL_law 790 = .ok (.iadd, 1) := dzr zhdL_law_786 3 rfl
theorem dL_law_791 : decode cL_law 791 = .ok (.iaload, 1) := dzr zhdL_law_786 4 rfl
theorem dL_law_792 : decode cL_law 792 = .ok (.i2l, 1) := dzr zhdL_law_786 5 rfl
theorem dL_law_793 : decode cL_law 793 = .ok (.ldc2_w 93, 3) := dzr zhdL_law_786 6 rfl
theorem dL_law_796 : decode cL_law 796 = .ok (.land, 1) := dzr zhdL_law_786 7 rfl
theorem dL_law_797 : decode cL_law 797 = .ok (.lor, 1) := dzr zhdL_law_786 8 rfl
theorem dL_law_798 : decode cL_law 798 = .ok (.invokevirtual 99, 3) := dzr zhdL_law_786 9 rfl
theorem dL_law_801 : decode cL_law 801 = .ok (.pop, 1) := dzr zhdL_law_786 10 rfl
theorem dL_law_802 : decode cL_law 802 = .ok (.goto 700, 3) := dzr zhdL_law_786 11 rfl
theorem dL_law_805 : decode cL_law 805 = .ok (.aload_n 1, 1) := dzr zhdL_law_786 12 rfl
theorem dL_law_806 : decode cL_law 806 = .ok (.aload_n 0, 1) := dzr zhdL_law_786 13 rfl
theorem dL_law_807 : decode cL_law 807 = .ok (.iload 4, 2) := dzr zhdL_law_786 14 rfl
theorem dL_law_809 : decode cL_law 809 = .ok (.iconst 1, 1) := dzr zhdL_law_786 15 rfl
theorem dL_law_810 : decode cL_law 810 = .ok (.iadd, 1) := dzr zhdL_law_786 16 rfl
theorem dL_law_811 : decode cL_law 811 = .ok (.iaload, 1) := dzr zhdL_law_786 17 rfl
theorem dL_law_812 : decode cL_law 812 = .ok (.invokevirtual 100, 3) := dzr zhdL_law_786 18 rfl
theorem dL_law_815 : decode cL_law 815 = .ok (.pop, 1) := dzr zhdL_law_786 19 rfl
theorem dL_law_816 : decode cL_law 816 = .ok (.aload_n 2, 1) := dzr zhdL_law_786 20 rfl
theorem dL_law_817 : decode cL_law 817 = .ok (.aload_n 0, 1) := dzr zhdL_law_786 21 rfl
theorem dL_law_818 : decode cL_law 818 = .ok (.iload 4, 2) := dzr zhdL_law_786 22 rfl
theorem dL_law_820 : decode cL_law 820 = .ok (.iconst 1, 1) := dzr zhdL_law_786 23 rfl
def ztdL_law_821 : List (Nat × Instr × Nat) := [(821, .iadd, 1), (822, .iaload, 1), (823, .invokevirtual 103, 3), (826, .pop, 1), (827, .goto 675, 3), (830, .aload_n 1, 1), (831, .invokevirtual 104, 3), (834, .pop, 1), (835, .aload_n 2, 1), (836, .invokevirtual 107, 3), (839, .pop, 1), (840, .goto 662, 3), (843, .aload_n 1, 1), (844, .aload_n 0, 1), (845, .iload 4, 2), (847, .iconst 1, 1), (848, .iadd, 1), (849, .iaload, 1), (850, .aload_n 0, 1), (851, .iload 4, 2), (853, .iconst 2, 1), (854, .iadd, 1), (855, .iaload, 1), (856, .invokevirtual 108, 3)]
theorem zhdL_law_821 : dzC ztdL_law_821 821 (cL_law.data.toList.drop 821) = true := by decide +kernel
theorem dL_law_821 : decode cL_law 821 = .ok (.iadd, 1) := dzr zhdL_law_821 0 rfl
theorem dL_law_822 : decode cL_law 822 = .ok (.iaload, 1) := dzr zhdL_law_821 1 rfl
theorem dL_law_823 : decode cL_law 823 = .ok (.invokevirtual 103, 3) := dzr zhdL_law_821 2 rfl
theorem dL_law_826 : decode cL_law 826 = .ok (.pop, 1) := dzr zhdL_law_821 3 rfl
theorem dL_law_827 : decode cL_law 827 = .ok (.goto 675, 3) := dzr zhdL_law_821 4 rfl
theorem dL_law_830 : decode cL_law 830 = .ok (.aload_n 1, 1) := dzr zhdL_law_821 5 rfl
theorem dL_law_831 : decode cL_law 831 = .ok (.invokevirtual 104, 3) := dzr zhdL_law_821 6 rfl
theorem dL_law_834 : decode cL_law 834 = .ok (.pop, 1) := dzr zhdL_law_821 7 rfl
theorem dL_law_835 : decode cL_law 835 = .ok (.aload_n 2, 1) := dzr zhdL_law_821 8 rfl
theorem dL_law_836 : decode cL_law 836 = .ok (.invokevirtual 107, 3) := dzr zhdL_law_821 9 rfl
theorem dL_law_839 : decode cL_law 839 = .ok (.pop, 1) := dzr zhdL_law_821 10 rfl
theorem dL_law_840 : decode cL_law 840 = .ok (.goto 662, 3) := dzr zhdL_law_821 11 rfl
theorem dL_law_843 : decode cL_law 843 = .ok (.aload_n 1, 1) := dzr zhdL_law_821 12 rfl
theorem dL_law_844 : decode cL_law 844 = .ok (.aload_n 0, 1) := dzr zhdL_law_821 13 rfl
theorem dL_law_845 : decode cL_law 845 = .ok (.iload 4, 2) := dzr zhdL_law_821 14 rfl
theorem dL_law_847 : decode cL_law 847 = .ok (.iconst 1, 1) := dzr zhdL_law_821 15 rfl
theorem dL_law_848 : decode cL_law 848 = .ok (.iadd, 1) := dzr zhdL_law_821 16 rfl
theorem dL_law_849 : decode cL_law 849 = .ok (.iaload, 1) := dzr zhdL_law_821 17 rfl
theorem dL_law_850 : decode cL_law 850 = .ok (.aload_n 0, 1) := dzr zhdL_law_821 18 rfl
theorem dL_law_851 : decode cL_law 851 = .ok (.iload 4, 2) := dzr zhdL_law_821 19 rfl
theorem dL_law_853 : decode cL_law 853 = .ok (.iconst 2, 1) := dzr zhdL_law_821 20 rfl
theorem dL_law_854 : decode cL_law 854 = .ok (.iadd, 1) := dzr zhdL_law_821 21 rfl
theorem dL_law_855 : decode cL_law 855 = .ok (.iaload, 1) := dzr zhdL_law_821 22 rfl
theorem dL_law_856 : decode cL_law 856 = .ok (.invokevirtual 108, 3) := dzr zhdL_law_821 23 rfl
def ztdL_law_859 : List (Nat × Instr × Nat) := [(859, .pop, 1), (860, .aload_n 2, 1), (861, .aload_n 0, 1), (862, .iload 4, 2), (864, .iconst 1, 1), (865, .iadd, 1), (866, .iaload, 1), (867, .aload_n 0, 1), (868, .iload 4, 2), (870, .iconst 2, 1), (871, .iadd, 1), (872, .iaload, 1), (873, .invokevirtual 111, 3), (876, .pop, 1), (877, .goto 625, 3), (880, .aload_n 1, 1), (881, .aload_n 0, 1), (882, .iload 4, 2), (884, .iconst 1, 1), (885, .iadd, 1), (886, .iaload, 1), (887, .aload_n 0, 1), (888, .iload 4, 2), (890, .iconst 2, 1)]
theorem zhdL_law_859 : dzC ztdL_law_859 859 (cL_law.data.toList.drop 859) = true := by decide +kernel
theorem dL_law_859 : decode cL_law 859 = .ok (.pop, 1) := dzr zhdL_law_859 0 rfl
theorem dL_law_860 : decode cL_law 860 = .ok (.aload_n 2, 1) := dzr zhdL_law_859 1 rfl
theorem dL_law_861 : decode cL_law 861 = .ok (.aload_n 0, 1) := dzr zhdL_law_859 2 rfl
theorem dL_law_862 : decode cL_law 862 = .ok (.iload 4, 2) := dzr zhdL_law_859 3 rfl
theorem dL_law_864 : decode cL_law 864 = .ok (.iconst 1, 1) := dzr zhdL_law_859 4 rfl
theorem dL_law_865 : decode cL_law 865 = .ok (.iadd, 1) := dzr zhdL_law_859 5 rfl
theorem dL_law_866 : decode cL_law 866 = .ok (.iaload, 1) := dzr zhdL_law_859 6 rfl
theorem dL_law_867 : decode cL_law 867 = .ok (.aload_n 0, 1) := dzr zhdL_law_859 7 rfl
theorem dL_law_868 : decode cL_law 868 = .ok (.iload 4, 2) := dzr zhdL_law_859 8 rfl
theorem dL_law_870 : decode cL_law 870 = .ok (.iconst 2, 1) := dzr zhdL_law_859 9 rfl
theorem dL_law_871 : decode cL_law 871 = .ok (.iadd, 1) := dzr zhdL_law_859 10 rfl
theorem dL_law_872 : decode cL_law 872 = .ok (.iaload, 1) := dzr zhdL_law_859 11 rfl
theorem dL_law_873 : decode cL_law 873 = .ok (.invokevirtual 111, 3) := dzr zhdL_law_859 12 rfl
theorem dL_law_876 : decode cL_law 876 = .ok (.pop, 1) := dzr zhdL_law_859 13 rfl
theorem dL_law_877 : decode cL_law 877 = .ok (.goto 625, 3) := dzr zhdL_law_859 14 rfl
theorem dL_law_880 : decode cL_law 880 = .ok (.aload_n 1, 1) := dzr zhdL_law_859 15 rfl
theorem dL_law_881 : decode cL_law 881 = .ok (.aload_n 0, 1) := dzr zhdL_law_859 16 rfl
theorem dL_law_882 : decode cL_law 882 = .ok (.iload 4, 2) := dzr zhdL_law_859 17 rfl
theorem dL_law_884 : decode cL_law 884 = .ok (.iconst 1, 1) := dzr zhdL_law_859 18 rfl
theorem dL_law_885 : decode cL_law 885 = .ok (.iadd, 1) := dzr zhdL_law_859 19 rfl
theorem dL_law_886 : decode cL_law 886 = .ok (.iaload, 1) := dzr zhdL_law_859 20 rfl
theorem dL_law_887 : decode cL_law 887 = .ok (.aload_n 0, 1) := dzr zhdL_law_859 21 rfl
theorem dL_law_888 : decode cL_law 888 = .ok (.iload 4, 2) := dzr zhdL_law_859 22 rfl
theorem dL_law_890 : decode cL_law 890 = .ok (.iconst 2, 1) := dzr zhdL_law_859 23 rfl
def ztdL_law_891 : List (Nat × Instr × Nat) := [(891, .iadd, 1), (892, .iaload, 1), (893, .invokevirtual 112, 3), (896, .pop, 1), (897, .aload_n 2, 1), (898, .aload_n 0, 1), (899, .iload 4, 2), (901, .iconst 1, 1), (902, .iadd, 1), (903, .iaload, 1), (904, .aload_n 0, 1), (905, .iload 4, 2), (907, .iconst 2, 1), (908, .iadd, 1), (909, .iaload, 1), (910, .invokevirtual 115, 3), (913, .pop, 1), (914, .goto 588, 3), (917, .aload_n 1, 1), (918, .aload_n 0, 1), (919, .iload 4, 2), (921, .iconst 1, 1), (922, .iadd, 1), (923, .iaload, 1)]
theorem zhdL_law_891 : dzC ztdL_law_891 891 (cL_law.data.toList.drop 891) = true := by decide +kernel
theorem dL_law_891 : decode cL_law 891 = .ok (.iadd, 1) := dzr zhdL_law_891 0 rfl
theorem dL_law_892 : decode cL_law 892 = .ok (.iaload, 1) := dzr zhdL_law_891 1 rfl
theorem dL_law_893 : decode cL_law 893 = .ok (.invokevirtual 112, 3) := dzr zhdL_law_891 2 rfl
theorem dL_law_896 : decode cL_law 896 = .ok (.pop, 1) := dzr zhdL_law_891 3 rfl
theorem dL_law_897 : decode cL_law 897 = .ok (.aload_n 2, 1) := dzr zhdL_law_891 4 rfl
theorem dL_law_898 : decode cL_law 898 = .ok (.aload_n 0, 1) := dzr zhdL_law_891 5 rfl
theorem dL_law_899 : decode cL_law 899 = .ok (.iload 4, 2) := dzr zhdL_law_891 6 rfl
theorem dL_law_901 : decode cL_law 901 = .ok (.iconst 1, 1) := dzr zhdL_law_891 7 rfl
theorem dL_law_902 : decode cL_law 902 = .ok (.iadd, 1) := dzr zhdL_law_891 8 rfl
theorem dL_law_903 : decode cL_law 903 = .ok (.iaload, 1) := dzr zhdL_law_891 9 rfl
theorem dL_law_904 : decode cL_law 904 = .ok (.aload_n 0, 1) := dzr zhdL_law_891 10 rfl
theorem dL_law_905 : decode cL_law 905 = .ok (.iload 4, 2) := dzr zhdL_law_891 11 rfl
theorem dL_law_907 : decode cL_law 907 = .ok (.iconst 2, 1) := dzr zhdL_law_891 12 rfl
theorem dL_law_908 : decode cL_law 908 = .ok (.iadd, 1) := dzr zhdL_law_891 13 rfl
theorem dL_law_909 : decode cL_law 909 = .ok (.iaload, 1) := dzr zhdL_law_891 14 rfl
theorem dL_law_910 : decode cL_law 910 = .ok (.invokevirtual 115, 3) := dzr zhdL_law_891 15 rfl
theorem dL_law_913 : decode cL_law 913 = .ok (.pop, 1) := dzr zhdL_law_891 16 rfl
theorem dL_law_914 : decode cL_law 914 = .ok (.goto 588, 3) := dzr zhdL_law_891 17 rfl
theorem dL_law_917 : decode cL_law 917 = .ok (.aload_n 1, 1) := dzr zhdL_law_891 18 rfl
theorem dL_law_918 : decode cL_law 918 = .ok (.aload_n 0, 1) := dzr zhdL_law_891 19 rfl
theorem dL_law_919 : decode cL_law 919 = .ok (.iload 4, 2) := dzr zhdL_law_891 20 rfl
theorem dL_law_921 : decode cL_law 921 = .ok (.iconst 1, 1) := dzr zhdL_law_891 21 rfl
theorem dL_law_922 : decode cL_law 922 = .ok (.iadd, 1) := dzr zhdL_law_891 22 rfl
theorem dL_law_923 : decode cL_law 923 = .ok (.iaload, 1) := dzr zhdL_law_891 23 rfl
def ztdL_law_924 : List (Nat × Instr × Nat) := [(924, .aload_n 0, 1), (925, .iload 4, 2), (927, .iconst 2, 1), (928, .iadd, 1), (929, .iaload, 1), (930, .aload_n 0, 1), (931, .iload 4, 2), (933, .iconst 3, 1), (934, .iadd, 1), (935, .iaload, 1), (936, .invokevirtual 116, 3), (939, .pop, 1), (940, .aload_n 2, 1), (941, .aload_n 0, 1), (942, .iload 4, 2), (944, .iconst 1, 1), (945, .iadd, 1), (946, .iaload, 1), (947, .aload_n 0, 1), (948, .iload 4, 2), (950, .iconst 2, 1), (951, .iadd, 1), (952, .iaload, 1), (953, .aload_n 0, 1)]
theorem zhdL_law_924 : dzC ztdL_law_924 924 (cL_law.data.toList.drop 924) = true := by decide +kernel
theorem dL_law_924 : decode cL_law 924 = .ok (.aload_n 0, 1) := dzr zhdL_law_924 0 rfl
theorem dL_law_925 : decode cL_law 925 = .ok (.iload 4, 2) := dzr zhdL_law_924 1 rfl
theorem dL_law_927 : decode cL_law 927 = .ok (.iconst 2, 1) := dzr zhdL_law_924 2 rfl
theorem dL_law_928 : decode cL_law 928 = .ok (.iadd, 1) := dzr zhdL_law_924 3 rfl
theorem dL_law_929 : decode cL_law 929 = .ok (.iaload, 1) := dzr zhdL_law_924 4 rfl
theorem dL_law_930 : decode cL_law 930 = .ok (.aload_n 0, 1) := dzr zhdL_law_924 5 rfl
theorem dL_law_931 : decode cL_law 931 = .ok (.iload 4, 2) := dzr zhdL_law_924 6 rfl
theorem dL_law_933 : decode cL_law 933 = .ok (.iconst 3, 1) := dzr zhdL_law_924 7 rfl
theorem dL_law_934 : decode cL_law 934 = .ok (.iadd, 1) := dzr zhdL_law_924 8 rfl
theorem dL_law_935 : decode cL_law 935 = .ok (.iaload, 1) := dzr zhdL_law_924 9 rfl
theorem dL_law_936 : decode cL_law 936 = .ok (.invokevirtual 116, 3) := dzr zhdL_law_924 10 rfl
theorem dL_law_939 : decode cL_law 939 = .ok (.pop, 1) := dzr zhdL_law_924 11 rfl
theorem dL_law_940 : decode cL_law 940 = .ok (.aload_n 2, 1) := dzr zhdL_law_924 12 rfl
theorem dL_law_941 : decode cL_law 941 = .ok (.aload_n 0, 1) := dzr zhdL_law_924 13 rfl
theorem dL_law_942 : decode cL_law 942 = .ok (.iload 4, 2) := dzr zhdL_law_924 14 rfl
theorem dL_law_944 : decode cL_law 944 = .ok (.iconst 1, 1) := dzr zhdL_law_924 15 rfl
theorem dL_law_945 : decode cL_law 945 = .ok (.iadd, 1) := dzr zhdL_law_924 16 rfl
theorem dL_law_946 : decode cL_law 946 = .ok (.iaload, 1) := dzr zhdL_law_924 17 rfl
theorem dL_law_947 : decode cL_law 947 = .ok (.aload_n 0, 1) := dzr zhdL_law_924 18 rfl
theorem dL_law_948 : decode cL_law 948 = .ok (.iload 4, 2) := dzr zhdL_law_924 19 rfl
theorem dL_law_950 : decode cL_law 950 = .ok (.iconst 2, 1) := dzr zhdL_law_924 20 rfl
theorem dL_law_951 : decode cL_law 951 = .ok (.iadd, 1) := dzr zhdL_law_924 21 rfl
theorem dL_law_952 : decode cL_law 952 = .ok (.iaload, 1) := dzr zhdL_law_924 22 rfl
theorem dL_law_953 : decode cL_law 953 = .ok (.aload_n 0, 1) := dzr zhdL_law_924 23 rfl
def ztdL_law_954 : List (Nat × Instr × Nat) := [(954, .iload 4, 2), (956, .iconst 3, 1), (957, .iadd, 1), (958, .iaload, 1), (959, .invokevirtual 120, 3), (962, .pop, 1), (963, .goto 539, 3), (966, .aload_n 1, 1), (967, .aload_n 0, 1), (968, .iload 4, 2), (970, .iconst 1, 1), (971, .iadd, 1), (972, .iaload, 1), (973, .aload_n 0, 1), (974, .iload 4, 2), (976, .iconst 2, 1), (977, .iadd, 1), (978, .iaload, 1), (979, .invokevirtual 121, 3), (982, .pop, 1), (983, .aload_n 2, 1), (984, .aload_n 0, 1), (985, .iload 4, 2), (987, .iconst 1, 1)]
theorem zhdL_law_954 : dzC ztdL_law_954 954 (cL_law.data.toList.drop 954) = true := by decide +kernel
theorem dL_law_954 : decode cL_law 954 = .ok (.iload 4, 2) := dzr zhdL_law_954 0 rfl
theorem dL_law_956 : decode cL_law 956 = .ok (.iconst 3, 1) := dzr zhdL_law_954 1 rfl
theorem dL_law_957 : decode cL_law 957 = .ok (.iadd, 1) := dzr zhdL_law_954 2 rfl
theorem dL_law_958 : decode cL_law 958 = .ok (.iaload, 1) := dzr zhdL_law_954 3 rfl
theorem dL_law_959 : decode cL_law 959 = .ok (.invokevirtual 120, 3) := dzr zhdL_law_954 4 rfl
theorem dL_law_962 : decode cL_law 962 = .ok (.pop, 1) := dzr zhdL_law_954 5 rfl
theorem dL_law_963 : decode cL_law 963 = .ok (.goto 539, 3) := dzr zhdL_law_954 6 rfl
theorem dL_law_966 : decode cL_law 966 = .ok (.aload_n 1, 1) := dzr zhdL_law_954 7 rfl
theorem dL_law_967 : decode cL_law 967 = .ok (.aload_n 0, 1) := dzr zhdL_law_954 8 rfl
theorem dL_law_968 : decode cL_law 968 = .ok (.iload 4, 2) := dzr zhdL_law_954 9 rfl
theorem dL_law_970 : decode cL_law 970 = .ok (.iconst 1, 1) := dzr zhdL_law_954 10 rfl
theorem dL_law_971 : decode cL_law 971 = .ok (.iadd, 1) := dzr zhdL_law_954 11 rfl
theorem dL_law_972 : decode cL_law 972 = .ok (.iaload, 1) := dzr zhdL_law_954 12 rfl
theorem dL_law_973 : decode cL_law 973 = .ok (.aload_n 0, 1) := dzr zhdL_law_954 13 rfl
theorem dL_law_974 : decode cL_law 974 = .ok (.iload 4, 2) := dzr zhdL_law_954 14 rfl
theorem dL_law_976 : decode cL_law 976 = .ok (.iconst 2, 1) := dzr zhdL_law_954 15 rfl
theorem dL_law_977 : decode cL_law 977 = .ok (.iadd, 1) := dzr zhdL_law_954 16 rfl
theorem dL_law_978 : decode cL_law 978 = .ok (.iaload, 1) := dzr zhdL_law_954 17 rfl
theorem dL_law_979 : decode cL_law 979 = .ok (.invokevirtual 121, 3) := dzr zhdL_law_954 18 rfl
theorem dL_law_982 : decode cL_law 982 = .ok (.pop, 1) := dzr zhdL_law_954 19 rfl
theorem dL_law_983 : decode cL_law 983 = .ok (.aload_n 2, 1) := dzr zhdL_law_954 20 rfl
theorem dL_law_984 : decode cL_law 984 = .ok (.aload_n 0, 1) := dzr zhdL_law_954 21 rfl
theorem dL_law_985 : decode cL_law 985 = .ok (.iload 4, 2) := dzr zhdL_law_954 22 rfl
theorem dL_law_987 : decode cL_law 987 = .ok (.iconst 1, 1) := dzr zhdL_law_954 23 rfl
def ztdL_law_988 : List (Nat × Instr × Nat) := [(988, .iadd, 1), (989, .iaload, 1), (990, .aload_n 0, 1), (991, .iload 4, 2), (993, .iconst 2, 1), (994, .iadd, 1), (995, .iaload, 1), (996, .invokevirtual 124, 3), (999, .pop, 1), (1000, .goto 502, 3), (1003, .aload_n 1, 1), (1004, .aload_n 0, 1), (1005, .iload 4, 2), (1007, .iconst 1, 1), (1008, .iadd, 1), (1009, .iaload, 1), (1010, .invokevirtual 125, 3), (1013, .pop, 1), (1014, .aload_n 2, 1), (1015, .aload_n 0, 1), (1016, .iload 4, 2), (1018, .iconst 1, 1), (1019, .iadd, 1), (1020, .iaload, 1)]
theorem zhdL_law_988 : dzC ztdL_law_988 988 (cL_law.data.toList.drop 988) = true := by decide +kernel
theorem dL_law_988 : decode cL_law 988 = .ok (.iadd, 1) := dzr zhdL_law_988 0 rfl
theorem dL_law_989 : decode cL_law 989 = .ok (.iaload, 1) := dzr zhdL_law_988 1 rfl
theorem dL_law_990 : decode cL_law 990 = .ok (.aload_n 0, 1) := dzr zhdL_law_988 2 rfl
theorem dL_law_991 : decode cL_law 991 = .ok (.iload 4, 2) := dzr zhdL_law_988 3 rfl
theorem dL_law_993 : decode cL_law 993 = .ok (.iconst 2, 1) := dzr zhdL_law_988 4 rfl
theorem dL_law_994 : decode cL_law 994 = .ok (.iadd, 1) := dzr zhdL_law_988 5 rfl
theorem dL_law_995 : decode cL_law 995 = .ok (.iaload, 1) := dzr zhdL_law_988 6 rfl
theorem dL_law_996 : decode cL_law 996 = .ok (.invokevirtual 124, 3) := dzr zhdL_law_988 7 rfl
theorem dL_law_999 : decode cL_law 999 = .ok (.pop, 1) := dzr zhdL_law_988 8 rfl
theorem dL_law_1000 : decode cL_law 1000 = .ok (.goto 502, 3) := dzr zhdL_law_988 9 rfl
theorem dL_law_1003 : decode cL_law 1003 = .ok (.aload_n 1, 1) := dzr zhdL_law_988 10 rfl
theorem dL_law_1004 : decode cL_law 1004 = .ok (.aload_n 0, 1) := dzr zhdL_law_988 11 rfl
theorem dL_law_1005 : decode cL_law 1005 = .ok (.iload 4, 2) := dzr zhdL_law_988 12 rfl
theorem dL_law_1007 : decode cL_law 1007 = .ok (.iconst 1, 1) := dzr zhdL_law_988 13 rfl
theorem dL_law_1008 : decode cL_law 1008 = .ok (.iadd, 1) := dzr zhdL_law_988 14 rfl
theorem dL_law_1009 : decode cL_law 1009 = .ok (.iaload, 1) := dzr zhdL_law_988 15 rfl
theorem dL_law_1010 : decode cL_law 1010 = .ok (.invokevirtual 125, 3) := dzr zhdL_law_988 16 rfl
theorem dL_law_1013 : decode cL_law 1013 = .ok (.pop, 1) := dzr zhdL_law_988 17 rfl
theorem dL_law_1014 : decode cL_law 1014 = .ok (.aload_n 2, 1) := dzr zhdL_law_988 18 rfl
theorem dL_law_1015 : decode cL_law 1015 = .ok (.aload_n 0, 1) := dzr zhdL_law_988 19 rfl
theorem dL_law_1016 : decode cL_law 1016 = .ok (.iload 4, 2) := dzr zhdL_law_988 20 rfl
theorem dL_law_1018 : decode cL_law 1018 = .ok (.iconst 1, 1) := dzr zhdL_law_988 21 rfl
theorem dL_law_1019 : decode cL_law 1019 = .ok (.iadd, 1) := dzr zhdL_law_988 22 rfl
theorem dL_law_1020 : decode cL_law 1020 = .ok (.iaload, 1) := dzr zhdL_law_988 23 rfl
def ztdL_law_1021 : List (Nat × Instr × Nat) := [(1021, .invokevirtual 128, 3), (1024, .pop, 1), (1025, .goto 477, 3), (1028, .aload_n 1, 1), (1029, .invokevirtual 129, 3), (1032, .pop, 1), (1033, .aload_n 2, 1), (1034, .invokevirtual 132, 3), (1037, .pop, 1), (1038, .goto 464, 3), (1041, .aload_n 1, 1), (1042, .aload_n 0, 1), (1043, .iload 4, 2), (1045, .iconst 1, 1), (1046, .iadd, 1), (1047, .iaload, 1), (1048, .aload_n 0, 1), (1049, .iload 4, 2), (1051, .iconst 2, 1), (1052, .iadd, 1), (1053, .iaload, 1), (1054, .aload_n 0, 1), (1055, .iload 4, 2), (1057, .iconst 3, 1)]
theorem zhdL_law_1021 : dzC ztdL_law_1021 1021 (cL_law.data.toList.drop 1021) = true := by decide +kernel
theorem dL_law_1021 : decode cL_law 1021 = .ok (.invokevirtual 128, 3) := dzr zhdL_law_1021 0 rfl
theorem dL_law_1024 : decode cL_law 1024 = .ok (.pop, 1) := dzr zhdL_law_1021 1 rfl
theorem dL_law_1025 : decode cL_law 1025 = .ok (.goto 477, 3) := dzr zhdL_law_1021 2 rfl
theorem dL_law_1028 : decode cL_law 1028 = .ok (.aload_n 1, 1) := dzr zhdL_law_1021 3 rfl
theorem dL_law_1029 : decode cL_law 1029 = .ok (.invokevirtual 129, 3) := dzr zhdL_law_1021 4 rfl
theorem dL_law_1032 : decode cL_law 1032 = .ok (.pop, 1) := dzr zhdL_law_1021 5 rfl
theorem dL_law_1033 : decode cL_law 1033 = .ok (.aload_n 2, 1) := dzr zhdL_law_1021 6 rfl
theorem dL_law_1034 : decode cL_law 1034 = .ok (.invokevirtual 132, 3) := dzr zhdL_law_1021 7 rfl
theorem dL_law_1037 : decode cL_law 1037 = .ok (.pop, 1) := dzr zhdL_law_1021 8 rfl
theorem dL_law_1038 : decode cL_law 1038 = .ok (.goto 464, 3) := dzr zhdL_law_1021 9 rfl
theorem dL_law_1041 : decode cL_law 1041 = .ok (.aload_n 1, 1) := dzr zhdL_law_1021 10 rfl
theorem dL_law_1042 : decode cL_law 1042 = .ok (.aload_n 0, 1) := dzr zhdL_law_1021 11 rfl
theorem dL_law_1043 : decode cL_law 1043 = .ok (.iload 4, 2) := dzr zhdL_law_1021 12 rfl
theorem dL_law_1045 : decode cL_law 1045 = .ok (.iconst 1, 1) := dzr zhdL_law_1021 13 rfl
theorem dL_law_1046 : decode cL_law 1046 = .ok (.iadd, 1) := dzr zhdL_law_1021 14 rfl
theorem dL_law_1047 : decode cL_law 1047 = .ok (.iaload, 1) := dzr zhdL_law_1021 15 rfl
theorem dL_law_1048 : decode cL_law 1048 = .ok (.aload_n 0, 1) := dzr zhdL_law_1021 16 rfl
theorem dL_law_1049 : decode cL_law 1049 = .ok (.iload 4, 2) := dzr zhdL_law_1021 17 rfl
theorem dL_law_1051 : decode cL_law 1051 = .ok (.iconst 2, 1) := dzr zhdL_law_1021 18 rfl
theorem dL_law_1052 : decode cL_law 1052 = .ok (.iadd, 1) := dzr zhdL_law_1021 19 rfl
theorem dL_law_1053 : decode cL_law 1053 = .ok (.iaload, 1) := dzr zhdL_law_1021 20 rfl
theorem dL_law_1054 : decode cL_law 1054 = .ok (.aload_n 0, 1) := dzr zhdL_law_1021 21 rfl
theorem dL_law_1055 : decode cL_law 1055 = .ok (.iload 4, 2) := dzr zhdL_law_1021 22 rfl
theorem dL_law_1057 : decode cL_law 1057 = .ok (.iconst 3, 1) := dzr zhdL_law_1021 23 rfl
def ztdL_law_1058 : List (Nat × Instr × Nat) := [(1058, .iadd, 1), (1059, .iaload, 1), (1060, .aload_n 0, 1), (1061, .iload 4, 2), (1063, .iconst 4, 1), (1064, .iadd, 1), (1065, .iaload, 1), (1066, .ifCond .eq 7, 3), (1069, .iconst 1, 1), (1070, .goto 4, 3), (1073, .iconst 0, 1), (1074, .invokevirtual 133, 3), (1077, .pop, 1), (1078, .aload_n 2, 1), (1079, .aload_n 0, 1), (1080, .iload 4, 2), (1082, .iconst 1, 1), (1083, .iadd, 1), (1084, .iaload, 1), (1085, .aload_n 0, 1), (1086, .iload 4, 2), (1088, .iconst 2, 1), (1089, .iadd, 1), (1090, .iaload, 1)]
theorem zhdL_law_1058 : dzC ztdL_law_1058 1058 (cL_law.data.toList.drop 1058) = true := by decide +kernel
theorem dL_law_1058 : decode cL_law 1058 = .ok (.iadd, 1) := dzr zhdL_law_1058 0 rfl
theorem dL_law_1059 : decode cL_law 1059 = .ok (.iaload, 1) := dzr zhdL_law_1058 1 rfl
theorem dL_law_1060 : decode cL_law 1060 = .ok (.aload_n 0, 1) := dzr zhdL_law_1058 2 rfl
theorem dL_law_1061 : decode cL_law 1061 = .ok (.iload 4, 2) := dzr zhdL_law_1058 3 rfl
theorem dL_law_1063 : decode cL_law 1063 = .ok (.iconst 4, 1) := dzr zhdL_law_1058 4 rfl
theorem dL_law_1064 : decode cL_law 1064 = .ok (.iadd, 1) := dzr zhdL_law_1058 5 rfl
theorem dL_law_1065 : decode cL_law 1065 = .ok (.iaload, 1) := dzr zhdL_law_1058 6 rfl
theorem dL_law_1066 : decode cL_law 1066 = .ok (.ifCond .eq 7, 3) := dzr zhdL_law_1058 7 rfl
theorem dL_law_1069 : decode cL_law 1069 = .ok (.iconst 1, 1) := dzr zhdL_law_1058 8 rfl
theorem dL_law_1070 : decode cL_law 1070 = .ok (.goto 4, 3) := dzr zhdL_law_1058 9 rfl
theorem dL_law_1073 : decode cL_law 1073 = .ok (.iconst 0, 1) := dzr zhdL_law_1058 10 rfl
theorem dL_law_1074 : decode cL_law 1074 = .ok (.invokevirtual 133, 3) := dzr zhdL_law_1058 11 rfl
theorem dL_law_1077 : decode cL_law 1077 = .ok (.pop, 1) := dzr zhdL_law_1058 12 rfl
theorem dL_law_1078 : decode cL_law 1078 = .ok (.aload_n 2, 1) := dzr zhdL_law_1058 13 rfl
theorem dL_law_1079 : decode cL_law 1079 = .ok (.aload_n 0, 1) := dzr zhdL_law_1058 14 rfl
theorem dL_law_1080 : decode cL_law 1080 = .ok (.iload 4, 2) := dzr zhdL_law_1058 15 rfl
theorem dL_law_1082 : decode cL_law 1082 = .ok (.iconst 1, 1) := dzr zhdL_law_1058 16 rfl
theorem dL_law_1083 : decode cL_law 1083 = .ok (.iadd, 1) := dzr zhdL_law_1058 17 rfl
theorem dL_law_1084 : decode cL_law 1084 = .ok (.iaload, 1) := dzr zhdL_law_1058 18 rfl
theorem dL_law_1085 : decode cL_law 1085 = .ok (.aload_n 0, 1) := dzr zhdL_law_1058 19 rfl
theorem dL_law_1086 : decode cL_law 1086 = .ok (.iload 4, 2) := dzr zhdL_law_1058 20 rfl
theorem dL_law_1088 : decode cL_law 1088 = .ok (.iconst 2, 1) := dzr zhdL_law_1058 21 rfl
theorem dL_law_1089 : decode cL_law 1089 = .ok (.iadd, 1) := dzr zhdL_law_1058 22 rfl
theorem dL_law_1090 : decode cL_law 1090 = .ok (.iaload, 1) := dzr zhdL_law_1058 23 rfl
def ztdL_law_1091 : List (Nat × Instr × Nat) := [(1091, .aload_n 0, 1), (1092, .iload 4, 2), (1094, .iconst 3, 1), (1095, .iadd, 1), (1096, .iaload, 1), (1097, .aload_n 0, 1), (1098, .iload 4, 2), (1100, .iconst 4, 1), (1101, .iadd, 1), (1102, .iaload, 1), (1103, .ifCond .eq 7, 3), (1106, .iconst 1, 1), (1107, .goto 4, 3), (1110, .iconst 0, 1), (1111, .invokevirtual 137, 3), (1114, .pop, 1), (1115, .goto 387, 3), (1118, .aload_n 1, 1), (1119, .aload_n 0, 1), (1120, .iload 4, 2), (1122, .iconst 1, 1), (1123, .iadd, 1), (1124, .iaload, 1), (1125, .aload_n 0, 1)]
theorem zhdL_law_1091 : dzC ztdL_law_1091 1091 (cL_law.data.toList.drop 1091) = true := by decide +kernel
theorem dL_law_1091 : decode cL_law 1091 = .ok (.aload_n 0, 1) := dzr zhdL_law_1091 0 rfl
theorem dL_law_1092 : decode cL_law 1092 = .ok (.iload 4, 2) := dzr zhdL_law_1091 1 rfl
theorem dL_law_1094 : decode cL_law 1094 = .ok (.iconst 3, 1) := dzr zhdL_law_1091 2 rfl
theorem dL_law_1095 : decode cL_law 1095 = .ok (.iadd, 1) := dzr zhdL_law_1091 3 rfl
theorem dL_law_1096 : decode cL_law 1096 = .ok (.iaload, 1) := dzr zhdL_law_1091 4 rfl
theorem dL_law_1097 : decode cL_law 1097 = .ok (.aload_n 0, 1) := dzr zhdL_law_1091 5 rfl
theorem dL_law_1098 : decode cL_law 1098 = .ok (.iload 4, 2) := dzr zhdL_law_1091 6 rfl
theorem dL_law_1100 : decode cL_law 1100 = .ok (.iconst 4, 1) := dzr zhdL_law_1091 7 rfl
theorem dL_law_1101 : decode cL_law 1101 = .ok (.iadd, 1) := dzr zhdL_law_1091 8 rfl
theorem dL_law_1102 : decode cL_law 1102 = .ok (.iaload, 1) := dzr zhdL_law_1091 9 rfl
theorem dL_law_1103 : decode cL_law 1103 = .ok (.ifCond .eq 7, 3) := dzr zhdL_law_1091 10 rfl
theorem dL_law_1106 : decode cL_law 1106 = .ok (.iconst 1, 1) := dzr zhdL_law_1091 11 rfl
theorem dL_law_1107 : decode cL_law 1107 = .ok (.goto 4, 3) := dzr zhdL_law_1091 12 rfl
theorem dL_law_1110 : decode cL_law 1110 = .ok (.iconst 0, 1) := dzr zhdL_law_1091 13 rfl
theorem dL_law_1111 : decode cL_law 1111 = .ok (.invokevirtual 137, 3) := dzr zhdL_law_1091 14 rfl
theorem dL_law_1114 : decode cL_law 1114 = .ok (.pop, 1) := dzr zhdL_law_1091 15 rfl
theorem dL_law_1115 : decode cL_law 1115 = .ok (.goto 387, 3) := dzr zhdL_law_1091 16 rfl
theorem dL_law_1118 : decode cL_law 1118 = .ok (.aload_n 1, 1) := dzr zhdL_law_1091 17 rfl
theorem dL_law_1119 : decode cL_law 1119 = .ok (.aload_n 0, 1) := dzr zhdL_law_1091 18 rfl
theorem dL_law_1120 : decode cL_law 1120 = .ok (.iload 4, 2) := dzr zhdL_law_1091 19 rfl
theorem dL_law_1122 : decode cL_law 1122 = .ok (.iconst 1, 1) := dzr zhdL_law_1091 20 rfl
theorem dL_law_1123 : decode cL_law 1123 = .ok (.iadd, 1) := dzr zhdL_law_1091 21 rfl
theorem dL_law_1124 : decode cL_law 1124 = .ok (.iaload, 1) := dzr zhdL_law_1091 22 rfl
theorem dL_law_1125 : decode cL_law 1125 = .ok (.aload_n 0, 1) := dzr zhdL_law_1091 23 rfl
def ztdL_law_1126 : List (Nat × Instr × Nat) := [(1126, .iload 4, 2), (1128, .iconst 2, 1), (1129, .iadd, 1), (1130, .iaload, 1), (1131, .invokevirtual 138, 3), (1134, .pop, 1), (1135, .aload_n 2, 1), (1136, .aload_n 0, 1), (1137, .iload 4, 2), (1139, .iconst 1, 1), (1140, .iadd, 1), (1141, .iaload, 1), (1142, .aload_n 0, 1), (1143, .iload 4, 2), (1145, .iconst 2, 1), (1146, .iadd, 1), (1147, .iaload, 1), (1148, .invokevirtual 141, 3), (1151, .pop, 1), (1152, .goto 350, 3), (1155, .aload_n 1, 1), (1156, .aload_n 0, 1), (1157, .iload 4, 2), (1159, .iconst 1, 1)]
theorem zhdL_law_1126 : dzC ztdL_law_1126 1126 (cL_law.data.toList.drop 1126) = true := by decide +kernel
theorem dL_law_1126 : decode cL_law 1126 = .ok (.iload 4, 2) := dzr zhdL_law_1126 0 rfl
theorem dL_law_1128 : decode cL_law 1128 = .ok (.iconst 2, 1) := dzr zhdL_law_1126 1 rfl
theorem dL_law_1129 : decode cL_law 1129 = .ok (.iadd, 1) := dzr zhdL_law_1126 2 rfl
theorem dL_law_1130 : decode cL_law 1130 = .ok (.iaload, 1) := dzr zhdL_law_1126 3 rfl
theorem dL_law_1131 : decode cL_law 1131 = .ok (.invokevirtual 138, 3) := dzr zhdL_law_1126 4 rfl
theorem dL_law_1134 : decode cL_law 1134 = .ok (.pop, 1) := dzr zhdL_law_1126 5 rfl
theorem dL_law_1135 : decode cL_law 1135 = .ok (.aload_n 2, 1) := dzr zhdL_law_1126 6 rfl
theorem dL_law_1136 : decode cL_law 1136 = .ok (.aload_n 0, 1) := dzr zhdL_law_1126 7 rfl
theorem dL_law_1137 : decode cL_law 1137 = .ok (.iload 4, 2) := dzr zhdL_law_1126 8 rfl
theorem dL_law_1139 : decode cL_law 1139 = .ok (.iconst 1, 1) := dzr zhdL_law_1126 9 rfl
theorem dL_law_1140 : decode cL_law 1140 = .ok (.iadd, 1) := dzr zhdL_law_1126 10 rfl
theorem dL_law_1141 : decode cL_law 1141 = .ok (.iaload, 1) := dzr zhdL_law_1126 11 rfl
theorem dL_law_1142 : decode cL_law 1142 = .ok (.aload_n 0, 1) := dzr zhdL_law_1126 12 rfl
theorem dL_law_1143 : decode cL_law 1143 = .ok (.iload 4, 2) := dzr zhdL_law_1126 13 rfl
theorem dL_law_1145 : decode cL_law 1145 = .ok (.iconst 2, 1) := dzr zhdL_law_1126 14 rfl
theorem dL_law_1146 : decode cL_law 1146 = .ok (.iadd, 1) := dzr zhdL_law_1126 15 rfl
theorem dL_law_1147 : decode cL_law 1147 = .ok (.iaload, 1) := dzr zhdL_law_1126 16 rfl
theorem dL_law_1148 : decode cL_law 1148 = .ok (.invokevirtual 141, 3) := dzr zhdL_law_1126 17 rfl
theorem dL_law_1151 : decode cL_law 1151 = .ok (.pop, 1) := dzr zhdL_law_1126 18 rfl
theorem dL_law_1152 : decode cL_law 1152 = .ok (.goto 350, 3) := dzr zhdL_law_1126 19 rfl
theorem dL_law_1155 : decode cL_law 1155 = .ok (.aload_n 1, 1) := dzr zhdL_law_1126 20 rfl
theorem dL_law_1156 : decode cL_law 1156 = .ok (.aload_n 0, 1) := dzr zhdL_law_1126 21 rfl
theorem dL_law_1157 : decode cL_law 1157 = .ok (.iload 4, 2) := dzr zhdL_law_1126 22 rfl
theorem dL_law_1159 : decode cL_law 1159 = .ok (.iconst 1, 1) := dzr zhdL_law_1126 23 rfl
def ztdL_law_1160 : List (Nat × Instr × Nat) := [(1160, .iadd, 1), (1161, .iaload, 1), (1162, .aload_n 0, 1), (1163, .iload 4, 2), (1165, .iconst 2, 1), (1166, .iadd, 1), (1167, .iaload, 1), (1168, .invokevirtual 142, 3), (1171, .pop, 1), (1172, .aload_n 2, 1), (1173, .aload_n 0, 1), (1174, .iload 4, 2), (1176, .iconst 1, 1), (1177, .iadd, 1), (1178, .iaload, 1), (1179, .aload_n 0, 1), (1180, .iload 4, 2), (1182, .iconst 2, 1), (1183, .iadd, 1), (1184, .iaload, 1), (1185, .invokevirtual 145, 3), (1188, .pop, 1), (1189, .goto 313, 3), (1192, .aload_n 1, 1)]
theorem zhdL_law_1160 : dzC ztdL_law_1160 1160 (cL_law.data.toList.drop 1160) = true := by decide +kernel
theorem dL_law_1160 : decode cL_law 1160 = .ok (.iadd, 1) := dzr zhdL_law_1160 0 rfl
theorem dL_law_1161 : decode cL_law 1161 = .ok (.iaload, 1) := dzr zhdL_law_1160 1 rfl
theorem dL_law_1162 : decode cL_law 1162 = .ok (.aload_n 0, 1) := dzr zhdL_law_1160 2 rfl
theorem dL_law_1163 : decode cL_law 1163 = .ok (.iload 4, 2) := dzr zhdL_law_1160 3 rfl
theorem dL_law_1165 : decode cL_law 1165 = .ok (.iconst 2, 1) := dzr zhdL_law_1160 4 rfl
theorem dL_law_1166 : decode cL_law 1166 = .ok (.iadd, 1) := dzr zhdL_law_1160 5 rfl
theorem dL_law_1167 : decode cL_law 1167 = .ok (.iaload, 1) := dzr zhdL_law_1160 6 rfl
theorem dL_law_1168 : decode cL_law 1168 = .ok (.invokevirtual 142, 3) := dzr zhdL_law_1160 7 rfl
theorem dL_law_1171 : decode cL_law 1171 = .ok (.pop, 1) := dzr zhdL_law_1160 8 rfl
theorem dL_law_1172 : decode cL_law 1172 = .ok (.aload_n 2, 1) := dzr zhdL_law_1160 9 rfl
theorem dL_law_1173 : decode cL_law 1173 = .ok (.aload_n 0, 1) := dzr zhdL_law_1160 10 rfl
theorem dL_law_1174 : decode cL_law 1174 = .ok (.iload 4, 2) := dzr zhdL_law_1160 11 rfl
theorem dL_law_1176 : decode cL_law 1176 = .ok (.iconst 1, 1) := dzr zhdL_law_1160 12 rfl
theorem dL_law_1177 : decode cL_law 1177 = .ok (.iadd, 1) := dzr zhdL_law_1160 13 rfl
theorem dL_law_1178 : decode cL_law 1178 = .ok (.iaload, 1) := dzr zhdL_law_1160 14 rfl
theorem dL_law_1179 : decode cL_law 1179 = .ok (.aload_n 0, 1) := dzr zhdL_law_1160 15 rfl
theorem dL_law_1180 : decode cL_law 1180 = .ok (.iload 4, 2) := dzr zhdL_law_1160 16 rfl
theorem dL_law_1182 : decode cL_law 1182 = .ok (.iconst 2, 1) := dzr zhdL_law_1160 17 rfl
theorem dL_law_1183 : decode cL_law 1183 = .ok (.iadd, 1) := dzr zhdL_law_1160 18 rfl
theorem dL_law_1184 : decode cL_law 1184 = .ok (.iaload, 1) := dzr zhdL_law_1160 19 rfl
theorem dL_law_1185 : decode cL_law 1185 = .ok (.invokevirtual 145, 3) := dzr zhdL_law_1160 20 rfl
theorem dL_law_1188 : decode cL_law 1188 = .ok (.pop, 1) := dzr zhdL_law_1160 21 rfl
theorem dL_law_1189 : decode cL_law 1189 = .ok (.goto 313, 3) := dzr zhdL_law_1160 22 rfl
theorem dL_law_1192 : decode cL_law 1192 = .ok (.aload_n 1, 1) := dzr zhdL_law_1160 23 rfl
def ztdL_law_1193 : List (Nat × Instr × Nat) := [(1193, .aload_n 0, 1), (1194, .iload 4, 2), (1196, .iconst 1, 1), (1197, .iadd, 1), (1198, .iaload, 1), (1199, .aload_n 0, 1), (1200, .iload 4, 2), (1202, .iconst 2, 1), (1203, .iadd, 1), (1204, .iaload, 1), (1205, .aload_n 0, 1), (1206, .iload 4, 2), (1208, .iconst 3, 1), (1209, .iadd, 1), (1210, .iaload, 1), (1211, .invokevirtual 146, 3), (1214, .pop, 1), (1215, .aload_n 2, 1), (1216, .aload_n 0, 1), (1217, .iload 4, 2), (1219, .iconst 1, 1), (1220, .iadd, 1), (1221, .iaload, 1), (1222, .aload_n 0, 1)]
theorem zhdL_law_1193 : dzC ztdL_law_1193 1193 (cL_law.data.toList.drop 1193) = true := by decide +kernel
theorem dL_law_1193 : decode cL_law 1193 = .ok (.aload_n 0, 1) := dzr zhdL_law_1193 0 rfl
theorem dL_law_1194 : decode cL_law 1194 = .ok (.iload 4, 2) := dzr zhdL_law_1193 1 rfl
theorem dL_law_1196 : decode cL_law 1196 = .ok (.iconst 1, 1) := dzr zhdL_law_1193 2 rfl
theorem dL_law_1197 : decode cL_law 1197 = .ok (.iadd, 1) := dzr zhdL_law_1193 3 rfl
theorem dL_law_1198 : decode cL_law 1198 = .ok (.iaload, 1) := dzr zhdL_law_1193 4 rfl
theorem dL_law_1199 : decode cL_law 1199 = .ok (.aload_n 0, 1) := dzr zhdL_law_1193 5 rfl
theorem dL_law_1200 : decode cL_law 1200 = .ok (.iload 4, 2) := dzr zhdL_law_1193 6 rfl
theorem dL_law_1202 : decode cL_law 1202 = .ok (.iconst 2, 1) := dzr zhdL_law_1193 7 rfl
theorem dL_law_1203 : decode cL_law 1203 = .ok (.iadd, 1) := dzr zhdL_law_1193 8 rfl
theorem dL_law_1204 : decode cL_law 1204 = .ok (.iaload, 1) := dzr zhdL_law_1193 9 rfl
theorem dL_law_1205 : decode cL_law 1205 = .ok (.aload_n 0, 1) := dzr zhdL_law_1193 10 rfl
theorem dL_law_1206 : decode cL_law 1206 = .ok (.iload 4, 2) := dzr zhdL_law_1193 11 rfl
theorem dL_law_1208 : decode cL_law 1208 = .ok (.iconst 3, 1) := dzr zhdL_law_1193 12 rfl
theorem dL_law_1209 : decode cL_law 1209 = .ok (.iadd, 1) := dzr zhdL_law_1193 13 rfl
theorem dL_law_1210 : decode cL_law 1210 = .ok (.iaload, 1) := dzr zhdL_law_1193 14 rfl
theorem dL_law_1211 : decode cL_law 1211 = .ok (.invokevirtual 146, 3) := dzr zhdL_law_1193 15 rfl
theorem dL_law_1214 : decode cL_law 1214 = .ok (.pop, 1) := dzr zhdL_law_1193 16 rfl
theorem dL_law_1215 : decode cL_law 1215 = .ok (.aload_n 2, 1) := dzr zhdL_law_1193 17 rfl
theorem dL_law_1216 : decode cL_law 1216 = .ok (.aload_n 0, 1) := dzr zhdL_law_1193 18 rfl
theorem dL_law_1217 : decode cL_law 1217 = .ok (.iload 4, 2) := dzr zhdL_law_1193 19 rfl
theorem dL_law_1219 : decode cL_law 1219 = .ok (.iconst 1, 1) := dzr zhdL_law_1193 20 rfl
theorem dL_law_1220 : decode cL_law 1220 = .ok (.iadd, 1) := dzr zhdL_law_1193 21 rfl
theorem dL_law_1221 : decode cL_law 1221 = .ok (.iaload, 1) := dzr zhdL_law_1193 22 rfl
theorem dL_law_1222 : decode cL_law 1222 = .ok (.aload_n 0, 1) := dzr zhdL_law_1193 23 rfl
def ztdL_law_1223 : List (Nat × Instr × Nat) := [(1223, .iload 4, 2), (1225, .iconst 2, 1), (1226, .iadd, 1), (1227, .iaload, 1), (1228, .aload_n 0, 1), (1229, .iload 4, 2), (1231, .iconst 3, 1), (1232, .iadd, 1), (1233, .iaload, 1), (1234, .invokevirtual 149, 3), (1237, .pop, 1), (1238, .goto 264, 3), (1241, .aload_n 1, 1), (1242, .aload_n 0, 1), (1243, .iload 4, 2), (1245, .iconst 1, 1), (1246, .iadd, 1), (1247, .iaload, 1), (1248, .invokevirtual 150, 3), (1251, .pop, 1), (1252, .aload_n 2, 1), (1253, .aload_n 0, 1), (1254, .iload 4, 2), (1256, .iconst 1, 1)]
theorem zhdL_law_1223 : dzC ztdL_law_1223 1223 (cL_law.data.toList.drop 1223) = true := by decide +kernel
theorem dL_law_1223 : decode cL_law 1223 = .ok (.iload 4, 2) := dzr zhdL_law_1223 0 rfl
theorem dL_law_1225 : decode cL_law 1225 = .ok (.iconst 2, 1) := dzr zhdL_law_1223 1 rfl
theorem dL_law_1226 : decode cL_law 1226 = .ok (.iadd, 1) := dzr zhdL_law_1223 2 rfl
theorem dL_law_1227 : decode cL_law 1227 = .ok (.iaload, 1) := dzr zhdL_law_1223 3 rfl
theorem dL_law_1228 : decode cL_law 1228 = .ok (.aload_n 0, 1) := dzr zhdL_law_1223 4 rfl
theorem dL_law_1229 : decode cL_law 1229 = .ok (.iload 4, 2) := dzr zhdL_law_1223 5 rfl
theorem dL_law_1231 : decode cL_law 1231 = .ok (.iconst 3, 1) := dzr zhdL_law_1223 6 rfl
theorem dL_law_1232 : decode cL_law 1232 = .ok (.iadd, 1) := dzr zhdL_law_1223 7 rfl
theorem dL_law_1233 : decode cL_law 1233 = .ok (.iaload, 1) := dzr zhdL_law_1223 8 rfl
theorem dL_law_1234 : decode cL_law 1234 = .ok (.invokevirtual 149, 3) := dzr zhdL_law_1223 9 rfl
theorem dL_law_1237 : decode cL_law 1237 = .ok (.pop, 1) := dzr zhdL_law_1223 10 rfl
theorem dL_law_1238 : decode cL_law 1238 = .ok (.goto 264, 3) := dzr zhdL_law_1223 11 rfl
theorem dL_law_1241 : decode cL_law 1241 = .ok (.aload_n 1, 1) := dzr zhdL_law_1223 12 rfl
theorem dL_law_1242 : decode cL_law 1242 = .ok (.aload_n 0, 1) := dzr zhdL_law_1223 13 rfl
theorem dL_law_1243 : decode cL_law 1243 = .ok (.iload 4, 2) := dzr zhdL_law_1223 14 rfl
theorem dL_law_1245 : decode cL_law 1245 = .ok (.iconst 1, 1) := dzr zhdL_law_1223 15 rfl
theorem dL_law_1246 : decode cL_law 1246 = .ok (.iadd, 1) := dzr zhdL_law_1223 16 rfl
theorem dL_law_1247 : decode cL_law 1247 = .ok (.iaload, 1) := dzr zhdL_law_1223 17 rfl
theorem dL_law_1248 : decode cL_law 1248 = .ok (.invokevirtual 150, 3) := dzr zhdL_law_1223 18 rfl
theorem dL_law_1251 : decode cL_law 1251 = .ok (.pop, 1) := dzr zhdL_law_1223 19 rfl
theorem dL_law_1252 : decode cL_law 1252 = .ok (.aload_n 2, 1) := dzr zhdL_law_1223 20 rfl
theorem dL_law_1253 : decode cL_law 1253 = .ok (.aload_n 0, 1) := dzr zhdL_law_1223 21 rfl
theorem dL_law_1254 : decode cL_law 1254 = .ok (.iload 4, 2) := dzr zhdL_law_1223 22 rfl
theorem dL_law_1256 : decode cL_law 1256 = .ok (.iconst 1, 1) := dzr zhdL_law_1223 23 rfl
def ztdL_law_1257 : List (Nat × Instr × Nat) := [(1257, .iadd, 1), (1258, .iaload, 1), (1259, .invokevirtual 153, 3), (1262, .pop, 1), (1263, .goto 239, 3), (1266, .aload_n 1, 1), (1267, .aload_n 0, 1), (1268, .iload 4, 2), (1270, .iconst 1, 1), (1271, .iadd, 1), (1272, .iaload, 1), (1273, .invokevirtual 154, 3), (1276, .pop, 1), (1277, .aload_n 2, 1), (1278, .aload_n 0, 1), (1279, .iload 4, 2), (1281, .iconst 1, 1), (1282, .iadd, 1), (1283, .iaload, 1), (1284, .invokevirtual 157, 3), (1287, .pop, 1), (1288, .goto 214, 3), (1291, .aload_n 1, 1), (1292, .aload_n 0, 1)]
theorem zhdL_law_1257 : dzC ztdL_law_1257 1257 (cL_law.data.toList.drop 1257) = true := by decide +kernel
theorem dL_law_1257 : decode cL_law 1257 = .ok (.iadd, 1) := dzr zhdL_law_1257 0 rfl
theorem dL_law_1258 : decode cL_law 1258 = .ok (.iaload, 1) := dzr zhdL_law_1257 1 rfl
theorem dL_law_1259 : decode cL_law 1259 = .ok (.invokevirtual 153, 3) := dzr zhdL_law_1257 2 rfl
theorem dL_law_1262 : decode cL_law 1262 = .ok (.pop, 1) := dzr zhdL_law_1257 3 rfl
theorem dL_law_1263 : decode cL_law 1263 = .ok (.goto 239, 3) := dzr zhdL_law_1257 4 rfl
theorem dL_law_1266 : decode cL_law 1266 = .ok (.aload_n 1, 1) := dzr zhdL_law_1257 5 rfl
theorem dL_law_1267 : decode cL_law 1267 = .ok (.aload_n 0, 1) := dzr zhdL_law_1257 6 rfl
theorem dL_law_1268 : decode cL_law 1268 = .ok (.iload 4, 2) := dzr zhdL_law_1257 7 rfl
theorem dL_law_1270 : decode cL_law 1270 = .ok (.iconst 1, 1) := dzr zhdL_law_1257 8 rfl
theorem dL_law_1271 : decode cL_law 1271 = .ok (.iadd, 1) := dzr zhdL_law_1257 9 rfl
theorem dL_law_1272 : decode cL_law 1272 = .ok (.iaload, 1) := dzr zhdL_law_1257 10 rfl
theorem dL_law_1273 : decode cL_law 1273 = .ok (.invokevirtual 154, 3) := dzr zhdL_law_1257 11 rfl
theorem dL_law_1276 : decode cL_law 1276 = .ok (.pop, 1) := dzr zhdL_law_1257 12 rfl
theorem dL_law_1277 : decode cL_law 1277 = .ok (.aload_n 2, 1) := dzr zhdL_law_1257 13 rfl
theorem dL_law_1278 : decode cL_law 1278 = .ok (.aload_n 0, 1) := dzr zhdL_law_1257 14 rfl
theorem dL_law_1279 : decode cL_law 1279 = .ok (.iload 4, 2) := dzr zhdL_law_1257 15 rfl
theorem dL_law_1281 : decode cL_law 1281 = .ok (.iconst 1, 1) := dzr zhdL_law_1257 16 rfl
theorem dL_law_1282 : decode cL_law 1282 = .ok (.iadd, 1) := dzr zhdL_law_1257 17 rfl
theorem dL_law_1283 : decode cL_law 1283 = .ok (.iaload, 1) := dzr zhdL_law_1257 18 rfl
theorem dL_law_1284 : decode cL_law 1284 = .ok (.invokevirtual 157, 3) := dzr zhdL_law_1257 19 rfl
theorem dL_law_1287 : decode cL_law 1287 = .ok (.pop, 1) := dzr zhdL_law_1257 20 rfl
theorem dL_law_1288 : decode cL_law 1288 = .ok (.goto 214, 3) := dzr zhdL_law_1257 21 rfl
theorem dL_law_1291 : decode cL_law 1291 = .ok (.aload_n 1, 1) := dzr zhdL_law_1257 22 rfl
theorem dL_law_1292 : decode cL_law 1292 = .ok (.aload_n 0, 1) := dzr zhdL_law_1257 23 rfl
def ztdL_law_1293 : List (Nat × Instr × Nat) := [(1293, .iload 4, 2), (1295, .iconst 1, 1), (1296, .iadd, 1), (1297, .iaload, 1), (1298, .aload_n 0, 1), (1299, .iload 4, 2), (1301, .iconst 2, 1), (1302, .iadd, 1), (1303, .iaload, 1), (1304, .aload_n 0, 1), (1305, .iload 4, 2), (1307, .iconst 3, 1), (1308, .iadd, 1), (1309, .iaload, 1), (1310, .aload_n 0, 1), (1311, .iload 4, 2), (1313, .iconst 4, 1), (1314, .iadd, 1), (1315, .iaload, 1), (1316, .aload_n 0, 1), (1317, .iload 4, 2), (1319, .iconst 5, 1), (1320, .iadd, 1), (1321, .iaload, 1)]
theorem zhdL_law_1293 : dzC ztdL_law_1293 1293 (cL_law.data.toList.drop 1293) = true := by decide +kernel
theorem dL_law_1293 : decode cL_law 1293 = .ok (.iload 4, 2) := dzr zhdL_law_1293 0 rfl
theorem dL_law_1295 : decode cL_law 1295 = .ok (.iconst 1, 1) := dzr zhdL_law_1293 1 rfl
theorem dL_law_1296 : decode cL_law 1296 = .ok (.iadd, 1) := dzr zhdL_law_1293 2 rfl
theorem dL_law_1297 : decode cL_law 1297 = .ok (.iaload, 1) := dzr zhdL_law_1293 3 rfl
theorem dL_law_1298 : decode cL_law 1298 = .ok (.aload_n 0, 1) := dzr zhdL_law_1293 4 rfl
theorem dL_law_1299 : decode cL_law 1299 = .ok (.iload 4, 2) := dzr zhdL_law_1293 5 rfl
theorem dL_law_1301 : decode cL_law 1301 = .ok (.iconst 2, 1) := dzr zhdL_law_1293 6 rfl
theorem dL_law_1302 : decode cL_law 1302 = .ok (.iadd, 1) := dzr zhdL_law_1293 7 rfl
theorem dL_law_1303 : decode cL_law 1303 = .ok (.iaload, 1) := dzr zhdL_law_1293 8 rfl
theorem dL_law_1304 : decode cL_law 1304 = .ok (.aload_n 0, 1) := dzr zhdL_law_1293 9 rfl
theorem dL_law_1305 : decode cL_law 1305 = .ok (.iload 4, 2) := dzr zhdL_law_1293 10 rfl
theorem dL_law_1307 : decode cL_law 1307 = .ok (.iconst 3, 1) := dzr zhdL_law_1293 11 rfl
theorem dL_law_1308 : decode cL_law 1308 = .ok (.iadd, 1) := dzr zhdL_law_1293 12 rfl
theorem dL_law_1309 : decode cL_law 1309 = .ok (.iaload, 1) := dzr zhdL_law_1293 13 rfl
theorem dL_law_1310 : decode cL_law 1310 = .ok (.aload_n 0, 1) := dzr zhdL_law_1293 14 rfl
theorem dL_law_1311 : decode cL_law 1311 = .ok (.iload 4, 2) := dzr zhdL_law_1293 15 rfl
theorem dL_law_1313 : decode cL_law 1313 = .ok (.iconst 4, 1) := dzr zhdL_law_1293 16 rfl
theorem dL_law_1314 : decode cL_law 1314 = .ok (.iadd, 1) := dzr zhdL_law_1293 17 rfl
theorem dL_law_1315 : decode cL_law 1315 = .ok (.iaload, 1) := dzr zhdL_law_1293 18 rfl
theorem dL_law_1316 : decode cL_law 1316 = .ok (.aload_n 0, 1) := dzr zhdL_law_1293 19 rfl
theorem dL_law_1317 : decode cL_law 1317 = .ok (.iload 4, 2) := dzr zhdL_law_1293 20 rfl
theorem dL_law_1319 : decode cL_law 1319 = .ok (.iconst 5, 1) := dzr zhdL_law_1293 21 rfl
theorem dL_law_1320 : decode cL_law 1320 = .ok (.iadd, 1) := dzr zhdL_law_1293 22 rfl
theorem dL_law_1321 : decode cL_law 1321 = .ok (.iaload, 1) := dzr zhdL_law_1293 23 rfl
def ztdL_law_1322 : List (Nat × Instr × Nat) := [(1322, .invokevirtual 158, 3), (1325, .pop, 1), (1326, .aload_n 2, 1), (1327, .aload_n 0, 1), (1328, .iload 4, 2), (1330, .iconst 1, 1), (1331, .iadd, 1), (1332, .iaload, 1), (1333, .aload_n 0, 1), (1334, .iload 4, 2), (1336, .iconst 2, 1), (1337, .iadd, 1), (1338, .iaload, 1), (1339, .aload_n 0, 1), (1340, .iload 4, 2), (1342, .iconst 3, 1), (1343, .iadd, 1), (1344, .iaload, 1), (1345, .aload_n 0, 1), (1346, .iload 4, 2), (1348, .iconst 4, 1), (1349, .iadd, 1), (1350, .iaload, 1), (1351, .aload_n 0, 1)]
theorem zhdL_law_1322 : dzC ztdL_law_1322 1322 (cL_law.data.toList.drop 1322) = true := by decide +kernel
theorem dL_law_1322 : decode cL_law 1322 = .ok (.invokevirtual 158, 3) := dzr zhdL_law_1322 0 rfl
theorem dL_law_1325 : decode cL_law 1325 = .ok (.pop, 1) := dzr zhdL_law_1322 1 rfl
theorem dL_law_1326 : decode cL_law 1326 = .ok (.aload_n 2, 1) := dzr zhdL_law_1322 2 rfl
theorem dL_law_1327 : decode cL_law 1327 = .ok (.aload_n 0, 1) := dzr zhdL_law_1322 3 rfl
theorem dL_law_1328 : decode cL_law 1328 = .ok (.iload 4, 2) := dzr zhdL_law_1322 4 rfl
theorem dL_law_1330 : decode cL_law 1330 = .ok (.iconst 1, 1) := dzr zhdL_law_1322 5 rfl
theorem dL_law_1331 : decode cL_law 1331 = .ok (.iadd, 1) := dzr zhdL_law_1322 6 rfl
theorem dL_law_1332 : decode cL_law 1332 = .ok (.iaload, 1) := dzr zhdL_law_1322 7 rfl
theorem dL_law_1333 : decode cL_law 1333 = .ok (.aload_n 0, 1) := dzr zhdL_law_1322 8 rfl
theorem dL_law_1334 : decode cL_law 1334 = .ok (.iload 4, 2) := dzr zhdL_law_1322 9 rfl
theorem dL_law_1336 : decode cL_law 1336 = .ok (.iconst 2, 1) := dzr zhdL_law_1322 10 rfl
theorem dL_law_1337 : decode cL_law 1337 = .ok (.iadd, 1) := dzr zhdL_law_1322 11 rfl
theorem dL_law_1338 : decode cL_law 1338 = .ok (.iaload, 1) := dzr zhdL_law_1322 12 rfl
theorem dL_law_1339 : decode cL_law 1339 = .ok (.aload_n 0, 1) := dzr zhdL_law_1322 13 rfl
theorem dL_law_1340 : decode cL_law 1340 = .ok (.iload 4, 2) := dzr zhdL_law_1322 14 rfl
theorem dL_law_1342 : decode cL_law 1342 = .ok (.iconst 3, 1) := dzr zhdL_law_1322 15 rfl
theorem dL_law_1343 : decode cL_law 1343 = .ok (.iadd, 1) := dzr zhdL_law_1322 16 rfl
theorem dL_law_1344 : decode cL_law 1344 = .ok (.iaload, 1) := dzr zhdL_law_1322 17 rfl
theorem dL_law_1345 : decode cL_law 1345 = .ok (.aload_n 0, 1) := dzr zhdL_law_1322 18 rfl
theorem dL_law_1346 : decode cL_law 1346 = .ok (.iload 4, 2) := dzr zhdL_law_1322 19 rfl
theorem dL_law_1348 : decode cL_law 1348 = .ok (.iconst 4, 1) := dzr zhdL_law_1322 20 rfl
theorem dL_law_1349 : decode cL_law 1349 = .ok (.iadd, 1) := dzr zhdL_law_1322 21 rfl
theorem dL_law_1350 : decode cL_law 1350 = .ok (.iaload, 1) := dzr zhdL_law_1322 22 rfl
theorem dL_law_1351 : decode cL_law 1351 = .ok (.aload_n 0, 1) := dzr zhdL_law_1322 23 rfl
def ztdL_law_1352 : List (Nat × Instr × Nat) := [(1352, .iload 4, 2), (1354, .iconst 5, 1), (1355, .iadd, 1), (1356, .iaload, 1), (1357, .invokevirtual 161, 3), (1360, .pop, 1), (1361, .goto 141, 3), (1364, .aload_n 1, 1), (1365, .aload_n 0, 1), (1366, .iload 4, 2), (1368, .iconst 1, 1), (1369, .iadd, 1), (1370, .iaload, 1), (1371, .aload_n 0, 1), (1372, .iload 4, 2), (1374, .iconst 2, 1), (1375, .iadd, 1), (1376, .iaload, 1), (1377, .invokevirtual 162, 3), (1380, .pop, 1), (1381, .aload_n 2, 1), (1382, .aload_n 0, 1), (1383, .iload 4, 2), (1385, .iconst 1, 1)]
theorem zhdL_law_1352 : dzC ztdL_law_1352 1352 (cL_law.data.toList.drop 1352) = true := by decide +kernel
theorem dL_law_1352 : decode cL_law 1352 = .ok (.iload 4, 2) := dzr zhdL_law_1352 0 rfl
theorem dL_law_1354 : decode cL_law 1354 = .ok (.iconst 5, 1) := dzr zhdL_law_1352 1 rfl
theorem dL_law_1355 : decode cL_law 1355 = .ok (.iadd, 1) := dzr zhdL_law_1352 2 rfl
theorem dL_law_1356 : decode cL_law 1356 = .ok (.iaload, 1) := dzr zhdL_law_1352 3 rfl
theorem dL_law_1357 : decode cL_law 1357 = .ok (.invokevirtual 161, 3) := dzr zhdL_law_1352 4 rfl
theorem dL_law_1360 : decode cL_law 1360 = .ok (.pop, 1) := dzr zhdL_law_1352 5 rfl
theorem dL_law_1361 : decode cL_law 1361 = .ok (.goto 141, 3) := dzr zhdL_law_1352 6 rfl
theorem dL_law_1364 : decode cL_law 1364 = .ok (.aload_n 1, 1) := dzr zhdL_law_1352 7 rfl
theorem dL_law_1365 : decode cL_law 1365 = .ok (.aload_n 0, 1) := dzr zhdL_law_1352 8 rfl
theorem dL_law_1366 : decode cL_law 1366 = .ok (.iload 4, 2) := dzr zhdL_law_1352 9 rfl
theorem dL_law_1368 : decode cL_law 1368 = .ok (.iconst 1, 1) := dzr zhdL_law_1352 10 rfl
theorem dL_law_1369 : decode cL_law 1369 = .ok (.iadd, 1) := dzr zhdL_law_1352 11 rfl
theorem dL_law_1370 : decode cL_law 1370 = .ok (.iaload, 1) := dzr zhdL_law_1352 12 rfl
theorem dL_law_1371 : decode cL_law 1371 = .ok (.aload_n 0, 1) := dzr zhdL_law_1352 13 rfl
theorem dL_law_1372 : decode cL_law 1372 = .ok (.iload 4, 2) := dzr zhdL_law_1352 14 rfl
theorem dL_law_1374 : decode cL_law 1374 = .ok (.iconst 2, 1) := dzr zhdL_law_1352 15 rfl
theorem dL_law_1375 : decode cL_law 1375 = .ok (.iadd, 1) := dzr zhdL_law_1352 16 rfl
theorem dL_law_1376 : decode cL_law 1376 = .ok (.iaload, 1) := dzr zhdL_law_1352 17 rfl
theorem dL_law_1377 : decode cL_law 1377 = .ok (.invokevirtual 162, 3) := dzr zhdL_law_1352 18 rfl
theorem dL_law_1380 : decode cL_law 1380 = .ok (.pop, 1) := dzr zhdL_law_1352 19 rfl
theorem dL_law_1381 : decode cL_law 1381 = .ok (.aload_n 2, 1) := dzr zhdL_law_1352 20 rfl
theorem dL_law_1382 : decode cL_law 1382 = .ok (.aload_n 0, 1) := dzr zhdL_law_1352 21 rfl
theorem dL_law_1383 : decode cL_law 1383 = .ok (.iload 4, 2) := dzr zhdL_law_1352 22 rfl
theorem dL_law_1385 : decode cL_law 1385 = .ok (.iconst 1, 1) := dzr zhdL_law_1352 23 rfl
def ztdL_law_1386 : List (Nat × Instr × Nat) := [(1386, .iadd, 1), (1387, .iaload, 1), (1388, .aload_n 0, 1), (1389, .iload 4, 2), (1391, .iconst 2, 1), (1392, .iadd, 1), (1393, .iaload, 1), (1394, .invokevirtual 165, 3), (1397, .pop, 1), (1398, .goto 104, 3), (1401, .aload_n 1, 1), (1402, .aload_n 0, 1), (1403, .iload 4, 2), (1405, .iconst 1, 1), (1406, .iadd, 1), (1407, .iaload, 1), (1408, .invokevirtual 166, 3), (1411, .pop, 1), (1412, .aload_n 2, 1), (1413, .aload_n 0, 1), (1414, .iload 4, 2), (1416, .iconst 1, 1), (1417, .iadd, 1), (1418, .iaload, 1)]
theorem zhdL_law_1386 : dzC ztdL_law_1386 1386 (cL_law.data.toList.drop 1386) = true := by decide +kernel
theorem dL_law_1386 : decode cL_law 1386 = .ok (.iadd, 1) := dzr zhdL_law_1386 0 rfl
theorem dL_law_1387 : decode cL_law 1387 = .ok (.iaload, 1) := dzr zhdL_law_1386 1 rfl
theorem dL_law_1388 : decode cL_law 1388 = .ok (.aload_n 0, 1) := dzr zhdL_law_1386 2 rfl
theorem dL_law_1389 : decode cL_law 1389 = .ok (.iload 4, 2) := dzr zhdL_law_1386 3 rfl
theorem dL_law_1391 : decode cL_law 1391 = .ok (.iconst 2, 1) := dzr zhdL_law_1386 4 rfl
theorem dL_law_1392 : decode cL_law 1392 = .ok (.iadd, 1) := dzr zhdL_law_1386 5 rfl
theorem dL_law_1393 : decode cL_law 1393 = .ok (.iaload, 1) := dzr zhdL_law_1386 6 rfl
theorem dL_law_1394 : decode cL_law 1394 = .ok (.invokevirtual 165, 3) := dzr zhdL_law_1386 7 rfl
theorem dL_law_1397 : decode cL_law 1397 = .ok (.pop, 1) := dzr zhdL_law_1386 8 rfl
theorem dL_law_1398 : decode cL_law 1398 = .ok (.goto 104, 3) := dzr zhdL_law_1386 9 rfl
theorem dL_law_1401 : decode cL_law 1401 = .ok (.aload_n 1, 1) := dzr zhdL_law_1386 10 rfl
theorem dL_law_1402 : decode cL_law 1402 = .ok (.aload_n 0, 1) := dzr zhdL_law_1386 11 rfl
theorem dL_law_1403 : decode cL_law 1403 = .ok (.iload 4, 2) := dzr zhdL_law_1386 12 rfl
theorem dL_law_1405 : decode cL_law 1405 = .ok (.iconst 1, 1) := dzr zhdL_law_1386 13 rfl
theorem dL_law_1406 : decode cL_law 1406 = .ok (.iadd, 1) := dzr zhdL_law_1386 14 rfl
theorem dL_law_1407 : decode cL_law 1407 = .ok (.iaload, 1) := dzr zhdL_law_1386 15 rfl
theorem dL_law_1408 : decode cL_law 1408 = .ok (.invokevirtual 166, 3) := dzr zhdL_law_1386 16 rfl
theorem dL_law_1411 : decode cL_law 1411 = .ok (.pop, 1) := dzr zhdL_law_1386 17 rfl
theorem dL_law_1412 : decode cL_law 1412 = .ok (.aload_n 2, 1) := dzr zhdL_law_1386 18 rfl
theorem dL_law_1413 : decode cL_law 1413 = .ok (.aload_n 0, 1) := dzr zhdL_law_1386 19 rfl
theorem dL_law_1414 : decode cL_law 1414 = .ok (.iload 4, 2) := dzr zhdL_law_1386 20 rfl
theorem dL_law_1416 : decode cL_law 1416 = .ok (.iconst 1, 1) := dzr zhdL_law_1386 21 rfl
theorem dL_law_1417 : decode cL_law 1417 = .ok (.iadd, 1) := dzr zhdL_law_1386 22 rfl
theorem dL_law_1418 : decode cL_law 1418 = .ok (.iaload, 1) := dzr zhdL_law_1386 23 rfl
def ztdL_law_1419 : List (Nat × Instr × Nat) := [(1419, .invokevirtual 169, 3), (1422, .pop, 1), (1423, .goto 79, 3), (1426, .aload_n 1, 1), (1427, .aload_n 0, 1), (1428, .iload 4, 2), (1430, .iconst 1, 1), (1431, .iadd, 1), (1432, .iaload, 1), (1433, .invokevirtual 170, 3), (1436, .pop, 1), (1437, .aload_n 2, 1), (1438, .aload_n 0, 1), (1439, .iload 4, 2), (1441, .iconst 1, 1), (1442, .iadd, 1), (1443, .iaload, 1), (1444, .invokevirtual 173, 3), (1447, .pop, 1), (1448, .goto 54, 3), (1451, .aload_n 1, 1), (1452, .invokevirtual 174, 3), (1455, .pop, 1), (1456, .aload_n 2, 1)]
theorem zhdL_law_1419 : dzC ztdL_law_1419 1419 (cL_law.data.toList.drop 1419) = true := by decide +kernel
theorem dL_law_1419 : decode cL_law 1419 = .ok (.invokevirtual 169, 3) := dzr zhdL_law_1419 0 rfl
theorem dL_law_1422 : decode cL_law 1422 = .ok (.pop, 1) := dzr zhdL_law_1419 1 rfl
theorem dL_law_1423 : decode cL_law 1423 = .ok (.goto 79, 3) := dzr zhdL_law_1419 2 rfl
theorem dL_law_1426 : decode cL_law 1426 = .ok (.aload_n 1, 1) := dzr zhdL_law_1419 3 rfl
theorem dL_law_1427 : decode cL_law 1427 = .ok (.aload_n 0, 1) := dzr zhdL_law_1419 4 rfl
theorem dL_law_1428 : decode cL_law 1428 = .ok (.iload 4, 2) := dzr zhdL_law_1419 5 rfl
theorem dL_law_1430 : decode cL_law 1430 = .ok (.iconst 1, 1) := dzr zhdL_law_1419 6 rfl
theorem dL_law_1431 : decode cL_law 1431 = .ok (.iadd, 1) := dzr zhdL_law_1419 7 rfl
theorem dL_law_1432 : decode cL_law 1432 = .ok (.iaload, 1) := dzr zhdL_law_1419 8 rfl
theorem dL_law_1433 : decode cL_law 1433 = .ok (.invokevirtual 170, 3) := dzr zhdL_law_1419 9 rfl
theorem dL_law_1436 : decode cL_law 1436 = .ok (.pop, 1) := dzr zhdL_law_1419 10 rfl
theorem dL_law_1437 : decode cL_law 1437 = .ok (.aload_n 2, 1) := dzr zhdL_law_1419 11 rfl
theorem dL_law_1438 : decode cL_law 1438 = .ok (.aload_n 0, 1) := dzr zhdL_law_1419 12 rfl
theorem dL_law_1439 : decode cL_law 1439 = .ok (.iload 4, 2) := dzr zhdL_law_1419 13 rfl
theorem dL_law_1441 : decode cL_law 1441 = .ok (.iconst 1, 1) := dzr zhdL_law_1419 14 rfl
theorem dL_law_1442 : decode cL_law 1442 = .ok (.iadd, 1) := dzr zhdL_law_1419 15 rfl
theorem dL_law_1443 : decode cL_law 1443 = .ok (.iaload, 1) := dzr zhdL_law_1419 16 rfl
theorem dL_law_1444 : decode cL_law 1444 = .ok (.invokevirtual 173, 3) := dzr zhdL_law_1419 17 rfl
theorem dL_law_1447 : decode cL_law 1447 = .ok (.pop, 1) := dzr zhdL_law_1419 18 rfl
theorem dL_law_1448 : decode cL_law 1448 = .ok (.goto 54, 3) := dzr zhdL_law_1419 19 rfl
theorem dL_law_1451 : decode cL_law 1451 = .ok (.aload_n 1, 1) := dzr zhdL_law_1419 20 rfl
theorem dL_law_1452 : decode cL_law 1452 = .ok (.invokevirtual 174, 3) := dzr zhdL_law_1419 21 rfl
theorem dL_law_1455 : decode cL_law 1455 = .ok (.pop, 1) := dzr zhdL_law_1419 22 rfl
theorem dL_law_1456 : decode cL_law 1456 = .ok (.aload_n 2, 1) := dzr zhdL_law_1419 23 rfl
def ztdL_law_1457 : List (Nat × Instr × Nat) := [(1457, .invokevirtual 177, 3), (1460, .pop, 1), (1461, .goto 41, 3), (1464, .aload_n 1, 1), (1465, .invokevirtual 178, 3), (1468, .pop, 1), (1469, .aload_n 2, 1), (1470, .invokevirtual 181, 3), (1473, .pop, 1), (1474, .goto 28, 3), (1477, .aload_n 1, 1), (1478, .aload_n 0, 1), (1479, .iload 4, 2), (1481, .iconst 1, 1), (1482, .iadd, 1), (1483, .iaload, 1), (1484, .invokevirtual 182, 3), (1487, .aload_n 2, 1), (1488, .aload_n 0, 1), (1489, .iload 4, 2), (1491, .iconst 1, 1), (1492, .iadd, 1), (1493, .iaload, 1), (1494, .invokevirtual 185, 3)]
theorem zhdL_law_1457 : dzC ztdL_law_1457 1457 (cL_law.data.toList.drop 1457) = true := by decide +kernel
theorem dL_law_1457 : decode cL_law 1457 = .ok (.invokevirtual 177, 3) := dzr zhdL_law_1457 0 rfl
theorem dL_law_1460 : decode cL_law 1460 = .ok (.pop, 1) := dzr zhdL_law_1457 1 rfl
theorem dL_law_1461 : decode cL_law 1461 = .ok (.goto 41, 3) := dzr zhdL_law_1457 2 rfl
theorem dL_law_1464 : decode cL_law 1464 = .ok (.aload_n 1, 1) := dzr zhdL_law_1457 3 rfl
theorem dL_law_1465 : decode cL_law 1465 = .ok (.invokevirtual 178, 3) := dzr zhdL_law_1457 4 rfl
theorem dL_law_1468 : decode cL_law 1468 = .ok (.pop, 1) := dzr zhdL_law_1457 5 rfl
theorem dL_law_1469 : decode cL_law 1469 = .ok (.aload_n 2, 1) := dzr zhdL_law_1457 6 rfl
theorem dL_law_1470 : decode cL_law 1470 = .ok (.invokevirtual 181, 3) := dzr zhdL_law_1457 7 rfl
theorem dL_law_1473 : decode cL_law 1473 = .ok (.pop, 1) := dzr zhdL_law_1457 8 rfl
theorem dL_law_1474 : decode cL_law 1474 = .ok (.goto 28, 3) := dzr zhdL_law_1457 9 rfl
theorem dL_law_1477 : decode cL_law 1477 = .ok (.aload_n 1, 1) := dzr zhdL_law_1457 10 rfl
theorem dL_law_1478 : decode cL_law 1478 = .ok (.aload_n 0, 1) := dzr zhdL_law_1457 11 rfl
theorem dL_law_1479 : decode cL_law 1479 = .ok (.iload 4, 2) := dzr zhdL_law_1457 12 rfl
theorem dL_law_1481 : decode cL_law 1481 = .ok (.iconst 1, 1) := dzr zhdL_law_1457 13 rfl
theorem dL_law_1482 : decode cL_law 1482 = .ok (.iadd, 1) := dzr zhdL_law_1457 14 rfl
theorem dL_law_1483 : decode cL_law 1483 = .ok (.iaload, 1) := dzr zhdL_law_1457 15 rfl
theorem dL_law_1484 : decode cL_law 1484 = .ok (.invokevirtual 182, 3) := dzr zhdL_law_1457 16 rfl
theorem dL_law_1487 : decode cL_law 1487 = .ok (.aload_n 2, 1) := dzr zhdL_law_1457 17 rfl
theorem dL_law_1488 : decode cL_law 1488 = .ok (.aload_n 0, 1) := dzr zhdL_law_1457 18 rfl
theorem dL_law_1489 : decode cL_law 1489 = .ok (.iload 4, 2) := dzr zhdL_law_1457 19 rfl
theorem dL_law_1491 : decode cL_law 1491 = .ok (.iconst 1, 1) := dzr zhdL_law_1457 20 rfl
theorem dL_law_1492 : decode cL_law 1492 = .ok (.iadd, 1) := dzr zhdL_law_1457 21 rfl
theorem dL_law_1493 : decode cL_law 1493 = .ok (.iaload, 1) := dzr zhdL_law_1457 22 rfl
theorem dL_law_1494 : decode cL_law 1494 = .ok (.invokevirtual 185, 3) := dzr zhdL_law_1457 23 rfl
def ztdL_law_1497 : List (Nat × Instr × Nat) := [(1497, .if_icmp .eq 5, 3), (1500, .iconst 0, 1), (1501, .ireturn, 1), (1502, .iinc 4 6, 3), (1505, .goto (-1482), 3), (1508, .iconst 1, 1), (1509, .ireturn, 1)]
theorem zhdL_law_1497 : dzC ztdL_law_1497 1497 (cL_law.data.toList.drop 1497) = true := by decide +kernel
theorem dL_law_1497 : decode cL_law 1497 = .ok (.if_icmp .eq 5, 3) := dzr zhdL_law_1497 0 rfl
theorem dL_law_1500 : decode cL_law 1500 = .ok (.iconst 0, 1) := dzr zhdL_law_1497 1 rfl
theorem dL_law_1501 : decode cL_law 1501 = .ok (.ireturn, 1) := dzr zhdL_law_1497 2 rfl
theorem dL_law_1502 : decode cL_law 1502 = .ok (.iinc 4 6, 3) := dzr zhdL_law_1497 3 rfl
theorem dL_law_1505 : decode cL_law 1505 = .ok (.goto (-1482), 3) := dzr zhdL_law_1497 4 rfl
theorem dL_law_1508 : decode cL_law 1508 = .ok (.iconst 1, 1) := dzr zhdL_law_1497 5 rfl
theorem dL_law_1509 : decode cL_law 1509 = .ok (.ireturn, 1) := dzr zhdL_law_1497 6 rfl
