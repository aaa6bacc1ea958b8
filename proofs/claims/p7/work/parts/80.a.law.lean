theorem ggL_glove_X11_glove : GoodIn wsL_glove wsX11_glove := (bg_up (bg_law (bi_wsL_law0_r24 _ (List.mem_of_getElem? (i := 2) rfl))))
theorem gL_glove_X11_glove : GoodIn wsL_glove (wsV RL 7 RX11 yX11_glove wsX11_glove) := goodIn_app (bg_up (bg_cons (bi_wsL_law0_r23 _ (List.mem_of_getElem? (i := 23) rfl)) (bg_cons (bi_wsL_law0_r24 _ (List.mem_of_getElem? (i := 0) rfl)) (bg_cons (bi_wsL_law0_r24 _ (List.mem_of_getElem? (i := 1) rfl)) (bg_cons (bi_wsL_law0_r1 _ (List.mem_of_getElem? (i := 2) rfl)) bg_nil))))) (bg_up (bg_law (bi_wsL_law0_r24 _ (List.mem_of_getElem? (i := 2) rfl))))
theorem dL_glove_0 : decode cL_glove 0 = .ok (.aload_n 3, 1) := by decide +kernel
theorem dL_glove_1 : decode cL_glove 1 = .ok (.iconst 0, 1) := by decide +kernel
theorem dL_glove_2 : decode cL_glove 2 = .ok (.aload_n 0, 1) := by decide +kernel
theorem dL_glove_3 : decode cL_glove 3 = .ok (.iload_n 1, 1) := by decide +kernel
theorem dL_glove_4 : decode cL_glove 4 = .ok (.iload_n 2, 1) := by decide +kernel
theorem dL_glove_5 : decode cL_glove 5 = .ok (.invokevirtual 7, 3) := by decide +kernel
theorem dL_glove_8 : decode cL_glove 8 = .ok (.i2l, 1) := by decide +kernel
theorem dL_glove_9 : decode cL_glove 9 = .ok (.lastore, 1) := by decide +kernel
theorem dL_glove_10 : decode cL_glove 10 = .ok (.goto 7, 3) := by decide +kernel
theorem dL_glove_13 : decode cL_glove 13 = .ok (.astore 4, 2) := by decide +kernel
theorem dL_glove_15 : decode cL_glove 15 = .ok (.iconst 1, 1) := by decide +kernel
theorem dL_glove_16 : decode cL_glove 16 = .ok (.ireturn, 1) := by decide +kernel
theorem dL_glove_17 : decode cL_glove 17 = .ok (.iconst 0, 1) := by decide +kernel
theorem dL_glove_18 : decode cL_glove 18 = .ok (.ireturn, 1) := by decide +kernel
theorem ggL_law_X11_init : GoodIn wsL_law wsX11_init := (bg_law (bi_wsL_law0_r1 _ (List.mem_of_getElem? (i := 10) rfl)))
theorem gL_law_X11_init : GoodIn wsL_law (wsX11_init) := (bg_law (bi_wsL_law0_r1 _ (List.mem_of_getElem? (i := 10) rfl)))
theorem ggL_law_X12_init : GoodIn wsL_law wsX12_init := (bg_law (bi_wsL_law0_r6 _ (List.mem_of_getElem? (i := 21) rfl)))
theorem gL_law_X12_init : GoodIn wsL_law (wsX12_init) := (bg_law (bi_wsL_law0_r6 _ (List.mem_of_getElem? (i := 21) rfl)))
theorem ggL_law_X11_feed : GoodIn wsL_law wsX11_feed := (bg_law (bi_wsL_law0_r8 _ (List.mem_of_getElem? (i := 6) rfl)))
theorem gL_law_X11_feed : GoodIn wsL_law (wsV RL 19 RX11 yX11_feed wsX11_feed) := goodIn_app (bg_cons (bi_wsL_law0_r8 _ (List.mem_of_getElem? (i := 3) rfl)) (bg_cons (bi_wsL_law0_r8 _ (List.mem_of_getElem? (i := 4) rfl)) (bg_cons (bi_wsL_law0_r8 _ (List.mem_of_getElem? (i := 5) rfl)) (bg_cons (bi_wsL_law0_r1 _ (List.mem_of_getElem? (i := 2) rfl)) bg_nil)))) (bg_law (bi_wsL_law0_r8 _ (List.mem_of_getElem? (i := 6) rfl)))
theorem ggL_law_X12_feed : GoodIn wsL_law wsX12_feed := (bg_law (bi_wsL_law0_r8 _ (List.mem_of_getElem? (i := 19) rfl)))
theorem gL_law_X12_feed : GoodIn wsL_law (wsV RL 23 RX12 yX12_feed wsX12_feed) := goodIn_app (bg_cons (bi_wsL_law0_r8 _ (List.mem_of_getElem? (i := 16) rfl)) (bg_cons (bi_wsL_law0_r8 _ (List.mem_of_getElem? (i := 17) rfl)) (bg_cons (bi_wsL_law0_r8 _ (List.mem_of_getElem? (i := 18) rfl)) (bg_cons (bi_wsL_law0_r1 _ (List.mem_of_getElem? (i := 5) rfl)) bg_nil)))) (bg_law (bi_wsL_law0_r8 _ (List.mem_of_getElem? (i := 19) rfl)))
theorem ggL_law_X11_end : GoodIn wsL_law wsX11_end := (bg_law (bi_wsL_law0_r9 _ (List.mem_of_getElem? (i := 3) rfl)))
theorem gL_law_X11_end : GoodIn wsL_law (wsV RL 24 RX11 yX11_end wsX11_end) := goodIn_app (bg_cons (bi_wsL_law0_r9 _ (List.mem_of_getElem? (i := 0) rfl)) (bg_cons (bi_wsL_law0_r9 _ (List.mem_of_getElem? (i := 1) rfl)) (bg_cons (bi_wsL_law0_r9 _ (List.mem_of_getElem? (i := 2) rfl)) (bg_cons (bi_wsL_law0_r1 _ (List.mem_of_getElem? (i := 2) rfl)) bg_nil)))) (bg_law (bi_wsL_law0_r9 _ (List.mem_of_getElem? (i := 3) rfl)))
theorem ggL_law_X12_end : GoodIn wsL_law wsX12_end := (bg_law (bi_wsL_law0_r9 _ (List.mem_of_getElem? (i := 7) rfl)))
theorem gL_law_X12_end : GoodIn wsL_law (wsV RL 28 RX12 yX12_end wsX12_end) := goodIn_app (bg_cons (bi_wsL_law0_r9 _ (List.mem_of_getElem? (i := 4) rfl)) (bg_cons (bi_wsL_law0_r9 _ (List.mem_of_getElem? (i := 5) rfl)) (bg_cons (bi_wsL_law0_r9 _ (List.mem_of_getElem? (i := 6) rfl)) (bg_cons (bi_wsL_law0_r1 _ (List.mem_of_getElem? (i := 5) rfl)) bg_nil)))) (bg_law (bi_wsL_law0_r9 _ (List.mem_of_getElem? (i := 7) rfl)))
theorem ggL_law_X11_fault : GoodIn wsL_law wsX11_fault := (bg_law (bi_wsL_law0_r9 _ (List.mem_of_getElem? (i := 11) rfl)))
theorem gL_law_X11_fault : GoodIn wsL_law (wsV RL 29 RX11 yX11_fault wsX11_fault) := goodIn_app (bg_cons (bi_wsL_law0_r9 _ (List.mem_of_getElem? (i := 8) rfl)) (bg_cons (bi_wsL_law0_r9 _ (List.mem_of_getElem? (i := 9) rfl)) (bg_cons (bi_wsL_law0_r9 _ (List.mem_of_getElem? (i := 10) rfl)) (bg_cons (bi_wsL_law0_r1 _ (List.mem_of_getElem? (i := 2) rfl)) bg_nil)))) (bg_law (bi_wsL_law0_r9 _ (List.mem_of_getElem? (i := 11) rfl)))
theorem ggL_law_X12_fault : GoodIn wsL_law wsX12_fault := (bg_law (bi_wsL_law0_r14 _ (List.mem_of_getElem? (i := 23) rfl)))
theorem gL_law_X12_fault : GoodIn wsL_law (wsV RL 33 RX12 yX12_fault wsX12_fault) := goodIn_app (bg_cons (bi_wsL_law0_r14 _ (List.mem_of_getElem? (i := 20) rfl)) (bg_cons (bi_wsL_law0_r14 _ (List.mem_of_getElem? (i := 21) rfl)) (bg_cons (bi_wsL_law0_r14 _ (List.mem_of_getElem? (i := 22) rfl)) (bg_cons (bi_wsL_law0_r1 _ (List.mem_of_getElem? (i := 5) rfl)) bg_nil)))) (bg_law (bi_wsL_law0_r14 _ (List.mem_of_getElem? (i := 23) rfl)))
theorem ggL_law_X11_text : GoodIn wsL_law wsX11_text := (bg_law (bi_wsL_law0_r20 _ (List.mem_of_getElem? (i := 5) rfl)))
theorem gL_law_X11_text : GoodIn wsL_law (wsV RL 34 RX11 yX11_text wsX11_text) := goodIn_app (bg_cons (bi_wsL_law0_r20 _ (List.mem_of_getElem? (i := 2) rfl)) (bg_cons (bi_wsL_law0_r20 _ (List.mem_of_getElem? (i := 3) rfl)) (bg_cons (bi_wsL_law0_r20 _ (List.mem_of_getElem? (i := 4) rfl)) (bg_cons (bi_wsL_law0_r1 _ (List.mem_of_getElem? (i := 2) rfl)) bg_nil)))) (bg_law (bi_wsL_law0_r20 _ (List.mem_of_getElem? (i := 5) rfl)))
theorem ggL_law_X12_text : GoodIn wsL_law wsX12_text := (bg_law (bi_wsL_law0_r22 _ (List.mem_of_getElem? (i := 7) rfl)))
theorem gL_law_X12_text : GoodIn wsL_law (wsV RL 37 RX12 yX12_text wsX12_text) := goodIn_app (bg_cons (bi_wsL_law0_r22 _ (List.mem_of_getElem? (i := 4) rfl)) (bg_cons (bi_wsL_law0_r22 _ (List.mem_of_getElem? (i := 5) rfl)) (bg_cons (bi_wsL_law0_r22 _ (List.mem_of_getElem? (i := 6) rfl)) (bg_cons (bi_wsL_law0_r1 _ (List.mem_of_getElem? (i := 5) rfl)) bg_nil)))) (bg_law (bi_wsL_law0_r22 _ (List.mem_of_getElem? (i := 7) rfl)))
theorem ggL_law_X11_rule : GoodIn wsL_law wsX11_rule := (bg_law (bi_wsL_law0_r23 _ (List.mem_of_getElem? (i := 1) rfl)))
theorem gL_law_X11_rule : GoodIn wsL_law (wsV RL 38 RX11 yX11_rule wsX11_rule) := goodIn_app (bg_cons (bi_wsL_law0_r22 _ (List.mem_of_getElem? (i := 22) rfl)) (bg_cons (bi_wsL_law0_r22 _ (List.mem_of_getElem? (i := 23) rfl)) (bg_cons (bi_wsL_law0_r23 _ (List.mem_of_getElem? (i := 0) rfl)) (bg_cons (bi_wsL_law0_r1 _ (List.mem_of_getElem? (i := 2) rfl)) bg_nil)))) (bg_law (bi_wsL_law0_r23 _ (List.mem_of_getElem? (i := 1) rfl)))
theorem ggL_law_X12_rule : GoodIn wsL_law wsX12_rule := (bg_law (bi_wsL_law0_r23 _ (List.mem_of_getElem? (i := 17) rfl)))
theorem gL_law_X12_rule : GoodIn wsL_law (wsV RL 41 RX12 yX12_rule wsX12_rule) := goodIn_app (bg_cons (bi_wsL_law0_r23 _ (List.mem_of_getElem? (i := 14) rfl)) (bg_cons (bi_wsL_law0_r23 _ (List.mem_of_getElem? (i := 15) rfl)) (bg_cons (bi_wsL_law0_r23 _ (List.mem_of_getElem? (i := 16) rfl)) (bg_cons (bi_wsL_law0_r1 _ (List.mem_of_getElem? (i := 5) rfl)) bg_nil)))) (bg_law (bi_wsL_law0_r23 _ (List.mem_of_getElem? (i := 17) rfl)))
theorem ggL_law_L_glove : GoodIn wsL_law wsL_glove := (bg_law (bi_wsL_law0_r23 _ (List.mem_of_getElem? (i := 21) rfl)))
theorem gL_law_L_glove : GoodIn wsL_law (va_wsS RL 42 yL_glove wsL_glove) := goodIn_app (bg_cons (bi_wsL_law0_r23 _ (List.mem_of_getElem? (i := 18) rfl)) (bg_cons (bi_wsL_law0_r23 _ (List.mem_of_getElem? (i := 19) rfl)) (bg_cons (bi_wsL_law0_r23 _ (List.mem_of_getElem? (i := 20) rfl)) bg_nil))) (bg_law (bi_wsL_law0_r23 _ (List.mem_of_getElem? (i := 21) rfl)))
theorem ggL_law_X12_glove : GoodIn wsL_law wsX12_glove := (bg_law (bi_wsL_law0_r25 _ (List.mem_of_getElem? (i := 6) rfl)))
theorem gL_law_X12_glove : GoodIn wsL_law (wsV RL 47 RX12 yX12_glove wsX12_glove) := goodIn_app (bg_cons (bi_wsL_law0_r25 _ (List.mem_of_getElem? (i := 3) rfl)) (bg_cons (bi_wsL_law0_r25 _ (List.mem_of_getElem? (i := 4) rfl)) (bg_cons (bi_wsL_law0_r25 _ (List.mem_of_getElem? (i := 5) rfl)) (bg_cons (bi_wsL_law0_r1 _ (List.mem_of_getElem? (i := 5) rfl)) bg_nil)))) (bg_law (bi_wsL_law0_r25 _ (List.mem_of_getElem? (i := 6) rfl)))
theorem ggL_law_X12_thrown : GoodIn wsL_law wsX12_thrown := (bg_law (bi_wsL_law0_r25 _ (List.mem_of_getElem? (i := 19) rfl)))
theorem gL_law_X12_thrown : GoodIn wsL_law (wsV RL 48 RX12 yX12_thrown wsX12_thrown) := goodIn_app (bg_cons (bi_wsL_law0_r25 _ (List.mem_of_getElem? (i := 16) rfl)) (bg_cons (bi_wsL_law0_r25 _ (List.mem_of_getElem? (i := 17) rfl)) (bg_cons (bi_wsL_law0_r25 _ (List.mem_of_getElem? (i := 18) rfl)) (bg_cons (bi_wsL_law0_r1 _ (List.mem_of_getElem? (i := 5) rfl)) bg_nil)))) (bg_law (bi_wsL_law0_r25 _ (List.mem_of_getElem? (i := 19) rfl)))
theorem ggL_law_X11_matter : GoodIn wsL_law wsX11_matter := (bg_law (bi_wsL_law0_r25 _ (List.mem_of_getElem? (i := 23) rfl)))
theorem gL_law_X11_matter : GoodIn wsL_law (wsV RL 52 RX11 yX11_matter wsX11_matter) := goodIn_app (bg_cons (bi_wsL_law0_r25 _ (List.mem_of_getElem? (i := 20) rfl)) (bg_cons (bi_wsL_law0_r25 _ (List.mem_of_getElem? (i := 21) rfl)) (bg_cons (bi_wsL_law0_r25 _ (List.mem_of_getElem? (i := 22) rfl)) (bg_cons (bi_wsL_law0_r1 _ (List.mem_of_getElem? (i := 2) rfl)) bg_nil)))) (bg_law (bi_wsL_law0_r25 _ (List.mem_of_getElem? (i := 23) rfl)))
theorem ggL_law_X12_matter : GoodIn wsL_law wsX12_matter := (bg_law (bi_wsL_law0_r26 _ (List.mem_of_getElem? (i := 13) rfl)))
theorem gL_law_X12_matter : GoodIn wsL_law (wsV RL 55 RX12 yX12_matter wsX12_matter) := goodIn_app (bg_cons (bi_wsL_law0_r26 _ (List.mem_of_getElem? (i := 10) rfl)) (bg_cons (bi_wsL_law0_r26 _ (List.mem_of_getElem? (i := 11) rfl)) (bg_cons (bi_wsL_law0_r26 _ (List.mem_of_getElem? (i := 12) rfl)) (bg_cons (bi_wsL_law0_r1 _ (List.mem_of_getElem? (i := 5) rfl)) bg_nil)))) (bg_law (bi_wsL_law0_r26 _ (List.mem_of_getElem? (i := 13) rfl)))
theorem ggL_law_X11_warmth : GoodIn wsL_law wsX11_warmth := (bg_law (bi_wsL_law0_r26 _ (List.mem_of_getElem? (i := 21) rfl)))
theorem gL_law_X11_warmth : GoodIn wsL_law (wsV RL 56 RX11 yX11_warmth wsX11_warmth) := goodIn_app (bg_cons (bi_wsL_law0_r26 _ (List.mem_of_getElem? (i := 18) rfl)) (bg_cons (bi_wsL_law0_r26 _ (List.mem_of_getElem? (i := 19) rfl)) (bg_cons (bi_wsL_law0_r26 _ (List.mem_of_getElem? (i := 20) rfl)) (bg_cons (bi_wsL_law0_r1 _ (List.mem_of_getElem? (i := 2) rfl)) bg_nil)))) (bg_law (bi_wsL_law0_r26 _ (List.mem_of_getElem? (i := 21) rfl)))
theorem ggL_law_X12_warmth : GoodIn wsL_law wsX12_warmth := (bg_law (bi_wsL_law0_r27 _ (List.mem_of_getElem? (i := 13) rfl)))
theorem gL_law_X12_warmth : GoodIn wsL_law (wsV RL 59 RX12 yX12_warmth wsX12_warmth) := goodIn_app (bg_cons (bi_wsL_law0_r27 _ (List.mem_of_getElem? (i := 10) rfl)) (bg_cons (bi_wsL_law0_r27 _ (List.mem_of_getElem? (i := 11) rfl)) (bg_cons (bi_wsL_law0_r27 _ (List.mem_of_getElem? (i := 12) rfl)) (bg_cons (bi_wsL_law0_r1 _ (List.mem_of_getElem? (i := 5) rfl)) bg_nil)))) (bg_law (bi_wsL_law0_r27 _ (List.mem_of_getElem? (i := 13) rfl)))
theorem ggL_law_X11_law : GoodIn wsL_law wsX11_law := (bg_law (bi_wsL_law0_r28 _ (List.mem_of_getElem? (i := 7) rfl)))
theorem gL_law_X11_law : GoodIn wsL_law (wsV RL 60 RX11 yX11_law wsX11_law) := goodIn_app (bg_cons (bi_wsL_law0_r28 _ (List.mem_of_getElem? (i := 4) rfl)) (bg_cons (bi_wsL_law0_r28 _ (List.mem_of_getElem? (i := 5) rfl)) (bg_cons (bi_wsL_law0_r28 _ (List.mem_of_getElem? (i := 6) rfl)) (bg_cons (bi_wsL_law0_r1 _ (List.mem_of_getElem? (i := 2) rfl)) bg_nil)))) (bg_law (bi_wsL_law0_r28 _ (List.mem_of_getElem? (i := 7) rfl)))
theorem ggL_law_X12_law : GoodIn wsL_law wsX12_law := (bg_law (bi_wsL_law0_r28 _ (List.mem_of_getElem? (i := 12) rfl)))
theorem gL_law_X12_law : GoodIn wsL_law (wsV RL 63 RX12 yX12_law wsX12_law) := goodIn_app (bg_cons (bi_wsL_law0_r28 _ (List.mem_of_getElem? (i := 9) rfl)) (bg_cons (bi_wsL_law0_r28 _ (List.mem_of_getElem? (i := 10) rfl)) (bg_cons (bi_wsL_law0_r28 _ (List.mem_of_getElem? (i := 11) rfl)) (bg_cons (bi_wsL_law0_r1 _ (List.mem_of_getElem? (i := 5) rfl)) bg_nil)))) (bg_law (bi_wsL_law0_r28 _ (List.mem_of_getElem? (i := 12) rfl)))
theorem ggL_law_X11_meets : GoodIn wsL_law wsX11_meets := (bg_law (bi_wsL_law0_r28 _ (List.mem_of_getElem? (i := 16) rfl)))
theorem gL_law_X11_meets : GoodIn wsL_law (wsV RL 64 RX11 yX11_meets wsX11_meets) := goodIn_app (bg_cons (bi_wsL_law0_r28 _ (List.mem_of_getElem? (i := 13) rfl)) (bg_cons (bi_wsL_law0_r28 _ (List.mem_of_getElem? (i := 14) rfl)) (bg_cons (bi_wsL_law0_r28 _ (List.mem_of_getElem? (i := 15) rfl)) (bg_cons (bi_wsL_law0_r1 _ (List.mem_of_getElem? (i := 2) rfl)) bg_nil)))) (bg_law (bi_wsL_law0_r28 _ (List.mem_of_getElem? (i := 16) rfl)))
theorem ggL_law_X12_meets : GoodIn wsL_law wsX12_meets := (bg_law (bi_wsL_law0_r31 _ (List.mem_of_getElem? (i := 18) rfl)))
theorem gL_law_X12_meets : GoodIn wsL_law (wsV RL 67 RX12 yX12_meets wsX12_meets) := goodIn_app (bg_cons (bi_wsL_law0_r31 _ (List.mem_of_getElem? (i := 15) rfl)) (bg_cons (bi_wsL_law0_r31 _ (List.mem_of_getElem? (i := 16) rfl)) (bg_cons (bi_wsL_law0_r31 _ (List.mem_of_getElem? (i := 17) rfl)) (bg_cons (bi_wsL_law0_r1 _ (List.mem_of_getElem? (i := 5) rfl)) bg_nil)))) (bg_law (bi_wsL_law0_r31 _ (List.mem_of_getElem? (i := 18) rfl)))
theorem ggL_law_X11_loosen : GoodIn wsL_law wsX11_loosen := (bg_law (bi_wsL_law0_r34 _ (List.mem_of_getElem? (i := 10) rfl)))
theorem gL_law_X11_loosen : GoodIn wsL_law (wsV RL 68 RX11 yX11_loosen wsX11_loosen) := goodIn_app (bg_cons (bi_wsL_law0_r34 _ (List.mem_of_getElem? (i := 7) rfl)) (bg_cons (bi_wsL_law0_r34 _ (List.mem_of_getElem? (i := 8) rfl)) (bg_cons (bi_wsL_law0_r34 _ (List.mem_of_getElem? (i := 9) rfl)) (bg_cons (bi_wsL_law0_r1 _ (List.mem_of_getElem? (i := 2) rfl)) bg_nil)))) (bg_law (bi_wsL_law0_r34 _ (List.mem_of_getElem? (i := 10) rfl)))
theorem ggL_law_X12_loosen : GoodIn wsL_law wsX12_loosen := (bg_law (bi_wsL_law0_r34 _ (List.mem_of_getElem? (i := 18) rfl)))
theorem gL_law_X12_loosen : GoodIn wsL_law (wsV RL 71 RX12 yX12_loosen wsX12_loosen) := goodIn_app (bg_cons (bi_wsL_law0_r34 _ (List.mem_of_getElem? (i := 15) rfl)) (bg_cons (bi_wsL_law0_r34 _ (List.mem_of_getElem? (i := 16) rfl)) (bg_cons (bi_wsL_law0_r34 _ (List.mem_of_getElem? (i := 17) rfl)) (bg_cons (bi_wsL_law0_r1 _ (List.mem_of_getElem? (i := 5) rfl)) bg_nil)))) (bg_law (bi_wsL_law0_r34 _ (List.mem_of_getElem? (i := 18) rfl)))
theorem ggL_law_X11_stuff : GoodIn wsL_law wsX11_stuff := (bg_law (bi_wsL_law0_r34 _ (List.mem_of_getElem? (i := 22) rfl)))
theorem gL_law_X11_stuff : GoodIn wsL_law (wsV RL 72 RX11 yX11_stuff wsX11_stuff) := goodIn_app (bg_cons (bi_wsL_law0_r34 _ (List.mem_of_getElem? (i := 19) rfl)) (bg_cons (bi_wsL_law0_r34 _ (List.mem_of_getElem? (i := 20) rfl)) (bg_cons (bi_wsL_law0_r34 _ (List.mem_of_getElem? (i := 21) rfl)) (bg_cons (bi_wsL_law0_r1 _ (List.mem_of_getElem? (i := 2) rfl)) bg_nil)))) (bg_law (bi_wsL_law0_r34 _ (List.mem_of_getElem? (i := 22) rfl)))
theorem ggL_law_X12_stuff : GoodIn wsL_law wsX12_stuff := (bg_law (bi_wsL_law0_r35 _ (List.mem_of_getElem? (i := 6) rfl)))
theorem gL_law_X12_stuff : GoodIn wsL_law (wsV RL 75 RX12 yX12_stuff wsX12_stuff) := goodIn_app (bg_cons (bi_wsL_law0_r35 _ (List.mem_of_getElem? (i := 3) rfl)) (bg_cons (bi_wsL_law0_r35 _ (List.mem_of_getElem? (i := 4) rfl)) (bg_cons (bi_wsL_law0_r35 _ (List.mem_of_getElem? (i := 5) rfl)) (bg_cons (bi_wsL_law0_r1 _ (List.mem_of_getElem? (i := 5) rfl)) bg_nil)))) (bg_law (bi_wsL_law0_r35 _ (List.mem_of_getElem? (i := 6) rfl)))
theorem ggL_law_X11_swallow : GoodIn wsL_law wsX11_swallow := (bg_law (bi_wsL_law0_r35 _ (List.mem_of_getElem? (i := 10) rfl)))
theorem gL_law_X11_swallow : GoodIn wsL_law (wsV RL 76 RX11 yX11_swallow wsX11_swallow) := goodIn_app (bg_cons (bi_wsL_law0_r35 _ (List.mem_of_getElem? (i := 7) rfl)) (bg_cons (bi_wsL_law0_r35 _ (List.mem_of_getElem? (i := 8) rfl)) (bg_cons (bi_wsL_law0_r35 _ (List.mem_of_getElem? (i := 9) rfl)) (bg_cons (bi_wsL_law0_r1 _ (List.mem_of_getElem? (i := 2) rfl)) bg_nil)))) (bg_law (bi_wsL_law0_r35 _ (List.mem_of_getElem? (i := 10) rfl)))
theorem ggL_law_X12_swallow : GoodIn wsL_law wsX12_swallow := (bg_law (bi_wsL_law0_r35 _ (List.mem_of_getElem? (i := 18) rfl)))
theorem gL_law_X12_swallow : GoodIn wsL_law (wsV RL 79 RX12 yX12_swallow wsX12_swallow) := goodIn_app (bg_cons (bi_wsL_law0_r35 _ (List.mem_of_getElem? (i := 15) rfl)) (bg_cons (bi_wsL_law0_r35 _ (List.mem_of_getElem? (i := 16) rfl)) (bg_cons (bi_wsL_law0_r35 _ (List.mem_of_getElem? (i := 17) rfl)) (bg_cons (bi_wsL_law0_r1 _ (List.mem_of_getElem? (i := 5) rfl)) bg_nil)))) (bg_law (bi_wsL_law0_r35 _ (List.mem_of_getElem? (i := 18) rfl)))
theorem ggL_law_X11_tear : GoodIn wsL_law wsX11_tear := (bg_law (bi_wsL_law0_r35 _ (List.mem_of_getElem? (i := 22) rfl)))
theorem gL_law_X11_tear : GoodIn wsL_law (wsV RL 80 RX11 yX11_tear wsX11_tear) := goodIn_app (bg_cons (bi_wsL_law0_r35 _ (List.mem_of_getElem? (i := 19) rfl)) (bg_cons (bi_wsL_law0_r35 _ (List.mem_of_getElem? (i := 20) rfl)) (bg_cons (bi_wsL_law0_r35 _ (List.mem_of_getElem? (i := 21) rfl)) (bg_cons (bi_wsL_law0_r1 _ (List.mem_of_getElem? (i := 2) rfl)) bg_nil)))) (bg_law (bi_wsL_law0_r35 _ (List.mem_of_getElem? (i := 22) rfl)))
theorem ggL_law_X12_tear : GoodIn wsL_law wsX12_tear := (bg_law (bi_wsL_law0_r36 _ (List.mem_of_getElem? (i := 10) rfl)))
theorem gL_law_X12_tear : GoodIn wsL_law (wsV RL 83 RX12 yX12_tear wsX12_tear) := goodIn_app (bg_cons (bi_wsL_law0_r36 _ (List.mem_of_getElem? (i := 7) rfl)) (bg_cons (bi_wsL_law0_r36 _ (List.mem_of_getElem? (i := 8) rfl)) (bg_cons (bi_wsL_law0_r36 _ (List.mem_of_getElem? (i := 9) rfl)) (bg_cons (bi_wsL_law0_r1 _ (List.mem_of_getElem? (i := 5) rfl)) bg_nil)))) (bg_law (bi_wsL_law0_r36 _ (List.mem_of_getElem? (i := 10) rfl)))
theorem ggL_law_X11_give : GoodIn wsL_law wsX11_give := (bg_law (bi_wsL_law0_r36 _ (List.mem_of_getElem? (i := 14) rfl)))
theorem gL_law_X11_give : GoodIn wsL_law (wsV RL 84 RX11 yX11_give wsX11_give) := goodIn_app (bg_cons (bi_wsL_law0_r36 _ (List.mem_of_getElem? (i := 11) rfl)) (bg_cons (bi_wsL_law0_r36 _ (List.mem_of_getElem? (i := 12) rfl)) (bg_cons (bi_wsL_law0_r36 _ (List.mem_of_getElem? (i := 13) rfl)) (bg_cons (bi_wsL_law0_r1 _ (List.mem_of_getElem? (i := 2) rfl)) bg_nil)))) (bg_law (bi_wsL_law0_r36 _ (List.mem_of_getElem? (i := 14) rfl)))
theorem ggL_law_X12_give : GoodIn wsL_law wsX12_give := (bg_law (bi_wsL_law0_r36 _ (List.mem_of_getElem? (i := 18) rfl)))
theorem gL_law_X12_give : GoodIn wsL_law (wsV RL 87 RX12 yX12_give wsX12_give) := goodIn_app (bg_cons (bi_wsL_law0_r36 _ (List.mem_of_getElem? (i := 15) rfl)) (bg_cons (bi_wsL_law0_r36 _ (List.mem_of_getElem? (i := 16) rfl)) (bg_cons (bi_wsL_law0_r36 _ (List.mem_of_getElem? (i := 17) rfl)) (bg_cons (bi_wsL_law0_r1 _ (List.mem_of_getElem? (i := 5) rfl)) bg_nil)))) (bg_law (bi_wsL_law0_r36 _ (List.mem_of_getElem? (i := 18) rfl)))
theorem ggL_law_X11_days : GoodIn wsL_law wsX11_days := (bg_law (bi_wsL_law0_r36 _ (List.mem_of_getElem? (i := 22) rfl)))
theorem gL_law_X11_days : GoodIn wsL_law (wsV RL 88 RX11 yX11_days wsX11_days) := goodIn_app (bg_cons (bi_wsL_law0_r36 _ (List.mem_of_getElem? (i := 19) rfl)) (bg_cons (bi_wsL_law0_r36 _ (List.mem_of_getElem? (i := 20) rfl)) (bg_cons (bi_wsL_law0_r36 _ (List.mem_of_getElem? (i := 21) rfl)) (bg_cons (bi_wsL_law0_r1 _ (List.mem_of_getElem? (i := 2) rfl)) bg_nil)))) (bg_law (bi_wsL_law0_r36 _ (List.mem_of_getElem? (i := 22) rfl)))
theorem ggL_law_X12_days : GoodIn wsL_law wsX12_days := (bg_law (bi_wsL_law0_r38 _ (List.mem_of_getElem? (i := 16) rfl)))
theorem gL_law_X12_days : GoodIn wsL_law (wsV RL 91 RX12 yX12_days wsX12_days) := goodIn_app (bg_cons (bi_wsL_law0_r38 _ (List.mem_of_getElem? (i := 13) rfl)) (bg_cons (bi_wsL_law0_r38 _ (List.mem_of_getElem? (i := 14) rfl)) (bg_cons (bi_wsL_law0_r38 _ (List.mem_of_getElem? (i := 15) rfl)) (bg_cons (bi_wsL_law0_r1 _ (List.mem_of_getElem? (i := 5) rfl)) bg_nil)))) (bg_law (bi_wsL_law0_r38 _ (List.mem_of_getElem? (i := 16) rfl)))
theorem ggL_law_X11_spite : GoodIn wsL_law wsX11_spite := (bg_law (bi_wsL_law0_r39 _ (List.mem_of_getElem? (i := 20) rfl)))
theorem gL_law_X11_spite : GoodIn wsL_law (wsV RL 92 RX11 yX11_spite wsX11_spite) := goodIn_app (bg_cons (bi_wsL_law0_r39 _ (List.mem_of_getElem? (i := 17) rfl)) (bg_cons (bi_wsL_law0_r39 _ (List.mem_of_getElem? (i := 18) rfl)) (bg_cons (bi_wsL_law0_r39 _ (List.mem_of_getElem? (i := 19) rfl)) (bg_cons (bi_wsL_law0_r1 _ (List.mem_of_getElem? (i := 2) rfl)) bg_nil)))) (bg_law (bi_wsL_law0_r39 _ (List.mem_of_getElem? (i := 20) rfl)))
theorem ggL_law_X12_spite : GoodIn wsL_law wsX12_spite := (bg_law (bi_wsL_law0_r40 _ (List.mem_of_getElem? (i := 0) rfl)))
theorem gL_law_X12_spite : GoodIn wsL_law (wsV RL 95 RX12 yX12_spite wsX12_spite) := goodIn_app (bg_cons (bi_wsL_law0_r39 _ (List.mem_of_getElem? (i := 21) rfl)) (bg_cons (bi_wsL_law0_r39 _ (List.mem_of_getElem? (i := 22) rfl)) (bg_cons (bi_wsL_law0_r39 _ (List.mem_of_getElem? (i := 23) rfl)) (bg_cons (bi_wsL_law0_r1 _ (List.mem_of_getElem? (i := 5) rfl)) bg_nil)))) (bg_law (bi_wsL_law0_r40 _ (List.mem_of_getElem? (i := 0) rfl)))
theorem ggL_law_X11_years : GoodIn wsL_law wsX11_years := (bg_law (bi_wsL_law0_r40 _ (List.mem_of_getElem? (i := 4) rfl)))
theorem gL_law_X11_years : GoodIn wsL_law (wsV RL 98 RX11 yX11_years wsX11_years) := goodIn_app (bg_cons (bi_wsL_law0_r40 _ (List.mem_of_getElem? (i := 1) rfl)) (bg_cons (bi_wsL_law0_r40 _ (List.mem_of_getElem? (i := 2) rfl)) (bg_cons (bi_wsL_law0_r40 _ (List.mem_of_getElem? (i := 3) rfl)) (bg_cons (bi_wsL_law0_r1 _ (List.mem_of_getElem? (i := 2) rfl)) bg_nil)))) (bg_law (bi_wsL_law0_r40 _ (List.mem_of_getElem? (i := 4) rfl)))
theorem ggL_law_X12_years : GoodIn wsL_law wsX12_years := (bg_law (bi_wsL_law0_r40 _ (List.mem_of_getElem? (i := 18) rfl)))
theorem gL_law_X12_years : GoodIn wsL_law (wsV RL 102 RX12 yX12_years wsX12_years) := goodIn_app (bg_cons (bi_wsL_law0_r40 _ (List.mem_of_getElem? (i := 15) rfl)) (bg_cons (bi_wsL_law0_r40 _ (List.mem_of_getElem? (i := 16) rfl)) (bg_cons (bi_wsL_law0_r40 _ (List.mem_of_getElem? (i := 17) rfl)) (bg_cons (bi_wsL_law0_r1 _ (List.mem_of_getElem? (i := 5) rfl)) bg_nil)))) (bg_law (bi_wsL_law0_r40 _ (List.mem_of_getElem? (i := 18) rfl)))
theorem ggL_law_X11_status : GoodIn wsL_law wsX11_status := (bg_law (bi_wsL_law0_r41 _ (List.mem_of_getElem? (i := 9) rfl)))
theorem gL_law_X11_status : GoodIn wsL_law (wsV RL 103 RX11 yX11_status wsX11_status) := goodIn_app (bg_cons (bi_wsL_law0_r41 _ (List.mem_of_getElem? (i := 6) rfl)) (bg_cons (bi_wsL_law0_r41 _ (List.mem_of_getElem? (i := 7) rfl)) (bg_cons (bi_wsL_law0_r41 _ (List.mem_of_getElem? (i := 8) rfl)) (bg_cons (bi_wsL_law0_r1 _ (List.mem_of_getElem? (i := 2) rfl)) bg_nil)))) (bg_law (bi_wsL_law0_r41 _ (List.mem_of_getElem? (i := 9) rfl)))
theorem ggL_law_X12_status : GoodIn wsL_law wsX12_status := (bg_law (bi_wsL_law0_r41 _ (List.mem_of_getElem? (i := 13) rfl)))
theorem gL_law_X12_status : GoodIn wsL_law (wsV RL 106 RX12 yX12_status wsX12_status) := goodIn_app (bg_cons (bi_wsL_law0_r41 _ (List.mem_of_getElem? (i := 10) rfl)) (bg_cons (bi_wsL_law0_r41 _ (List.mem_of_getElem? (i := 11) rfl)) (bg_cons (bi_wsL_law0_r41 _ (List.mem_of_getElem? (i := 12) rfl)) (bg_cons (bi_wsL_law0_r1 _ (List.mem_of_getElem? (i := 5) rfl)) bg_nil)))) (bg_law (bi_wsL_law0_r41 _ (List.mem_of_getElem? (i := 13) rfl)))
theorem ggL_law_X11_undo : GoodIn wsL_law wsX11_undo := (bg_law (bi_wsL_law0_r41 _ (List.mem_of_getElem? (i := 17) rfl)))
theorem gL_law_X11_undo : GoodIn wsL_law (wsV RL 107 RX11 yX11_undo wsX11_undo) := goodIn_app (bg_cons (bi_wsL_law0_r41 _ (List.mem_of_getElem? (i := 14) rfl)) (bg_cons (bi_wsL_law0_r41 _ (List.mem_of_getElem? (i := 15) rfl)) (bg_cons (bi_wsL_law0_r41 _ (List.mem_of_getElem? (i := 16) rfl)) (bg_cons (bi_wsL_law0_r1 _ (List.mem_of_getElem? (i := 2) rfl)) bg_nil)))) (bg_law (bi_wsL_law0_r41 _ (List.mem_of_getElem? (i := 17) rfl)))
theorem ggL_law_X12_undo : GoodIn wsL_law wsX12_undo := (bg_law (bi_wsL_law0_r42 _ (List.mem_of_getElem? (i := 2) rfl)))
theorem gL_law_X12_undo : GoodIn wsL_law (wsV RL 110 RX12 yX12_undo wsX12_undo) := goodIn_app (bg_cons (bi_wsL_law0_r41 _ (List.mem_of_getElem? (i := 23) rfl)) (bg_cons (bi_wsL_law0_r42 _ (List.mem_of_getElem? (i := 0) rfl)) (bg_cons (bi_wsL_law0_r42 _ (List.mem_of_getElem? (i := 1) rfl)) (bg_cons (bi_wsL_law0_r1 _ (List.mem_of_getElem? (i := 5) rfl)) bg_nil)))) (bg_law (bi_wsL_law0_r42 _ (List.mem_of_getElem? (i := 2) rfl)))
theorem ggL_law_X11_log : GoodIn wsL_law wsX11_log := (bg_law (bi_wsL_law0_r42 _ (List.mem_of_getElem? (i := 6) rfl)))
theorem gL_law_X11_log : GoodIn wsL_law (wsV RL 111 RX11 yX11_log wsX11_log) := goodIn_app (bg_cons (bi_wsL_law0_r42 _ (List.mem_of_getElem? (i := 3) rfl)) (bg_cons (bi_wsL_law0_r42 _ (List.mem_of_getElem? (i := 4) rfl)) (bg_cons (bi_wsL_law0_r42 _ (List.mem_of_getElem? (i := 5) rfl)) (bg_cons (bi_wsL_law0_r1 _ (List.mem_of_getElem? (i := 2) rfl)) bg_nil)))) (bg_law (bi_wsL_law0_r42 _ (List.mem_of_getElem? (i := 6) rfl)))
theorem ggL_law_X12_log : GoodIn wsL_law wsX12_log := (bg_law (bi_wsL_law0_r42 _ (List.mem_of_getElem? (i := 18) rfl)))
theorem gL_law_X12_log : GoodIn wsL_law (wsV RL 114 RX12 yX12_log wsX12_log) := goodIn_app (bg_cons (bi_wsL_law0_r42 _ (List.mem_of_getElem? (i := 15) rfl)) (bg_cons (bi_wsL_law0_r42 _ (List.mem_of_getElem? (i := 16) rfl)) (bg_cons (bi_wsL_law0_r42 _ (List.mem_of_getElem? (i := 17) rfl)) (bg_cons (bi_wsL_law0_r1 _ (List.mem_of_getElem? (i := 5) rfl)) bg_nil)))) (bg_law (bi_wsL_law0_r42 _ (List.mem_of_getElem? (i := 18) rfl)))
theorem ggL_law_X11_rises : GoodIn wsL_law wsX11_rises := (bg_law (bi_wsL_law0_r42 _ (List.mem_of_getElem? (i := 22) rfl)))
theorem gL_law_X11_rises : GoodIn wsL_law (wsV RL 115 RX11 yX11_rises wsX11_rises) := goodIn_app (bg_cons (bi_wsL_law0_r42 _ (List.mem_of_getElem? (i := 19) rfl)) (bg_cons (bi_wsL_law0_r42 _ (List.mem_of_getElem? (i := 20) rfl)) (bg_cons (bi_wsL_law0_r42 _ (List.mem_of_getElem? (i := 21) rfl)) (bg_cons (bi_wsL_law0_r1 _ (List.mem_of_getElem? (i := 2) rfl)) bg_nil)))) (bg_law (bi_wsL_law0_r42 _ (List.mem_of_getElem? (i := 22) rfl)))
theorem ggL_law_X12_rises : GoodIn wsL_law wsX12_rises := (bg_law (bi_wsL_law0_r43 _ (List.mem_of_getElem? (i := 7) rfl)))
theorem gL_law_X12_rises : GoodIn wsL_law (wsV RL 118 RX12 yX12_rises wsX12_rises) := goodIn_app (bg_cons (bi_wsL_law0_r43 _ (List.mem_of_getElem? (i := 4) rfl)) (bg_cons (bi_wsL_law0_r43 _ (List.mem_of_getElem? (i := 5) rfl)) (bg_cons (bi_wsL_law0_r43 _ (List.mem_of_getElem? (i := 6) rfl)) (bg_cons (bi_wsL_law0_r1 _ (List.mem_of_getElem? (i := 5) rfl)) bg_nil)))) (bg_law (bi_wsL_law0_r43 _ (List.mem_of_getElem? (i := 7) rfl)))
theorem ggL_law_X11_later : GoodIn wsL_law wsX11_later := (bg_law (bi_wsL_law0_r43 _ (List.mem_of_getElem? (i := 12) rfl)))
theorem gL_law_X11_later : GoodIn wsL_law (wsV RL 119 RX11 yX11_later wsX11_later) := goodIn_app (bg_cons (bi_wsL_law0_r43 _ (List.mem_of_getElem? (i := 9) rfl)) (bg_cons (bi_wsL_law0_r43 _ (List.mem_of_getElem? (i := 10) rfl)) (bg_cons (bi_wsL_law0_r43 _ (List.mem_of_getElem? (i := 11) rfl)) (bg_cons (bi_wsL_law0_r1 _ (List.mem_of_getElem? (i := 2) rfl)) bg_nil)))) (bg_law (bi_wsL_law0_r43 _ (List.mem_of_getElem? (i := 12) rfl)))
theorem ggL_law_X12_later : GoodIn wsL_law wsX12_later := (bg_law (bi_wsL_law0_r43 _ (List.mem_of_getElem? (i := 17) rfl)))
theorem gL_law_X12_later : GoodIn wsL_law (wsV RL 123 RX12 yX12_later wsX12_later) := goodIn_app (bg_cons (bi_wsL_law0_r43 _ (List.mem_of_getElem? (i := 14) rfl)) (bg_cons (bi_wsL_law0_r43 _ (List.mem_of_getElem? (i := 15) rfl)) (bg_cons (bi_wsL_law0_r43 _ (List.mem_of_getElem? (i := 16) rfl)) (bg_cons (bi_wsL_law0_r1 _ (List.mem_of_getElem? (i := 5) rfl)) bg_nil)))) (bg_law (bi_wsL_law0_r43 _ (List.mem_of_getElem? (i := 17) rfl)))
theorem ggL_law_X11_soonest : GoodIn wsL_law wsX11_soonest := (bg_law (bi_wsL_law0_r43 _ (List.mem_of_getElem? (i := 21) rfl)))
theorem gL_law_X11_soonest : GoodIn wsL_law (wsV RL 124 RX11 yX11_soonest wsX11_soonest) := goodIn_app (bg_cons (bi_wsL_law0_r43 _ (List.mem_of_getElem? (i := 18) rfl)) (bg_cons (bi_wsL_law0_r43 _ (List.mem_of_getElem? (i := 19) rfl)) (bg_cons (bi_wsL_law0_r43 _ (List.mem_of_getElem? (i := 20) rfl)) (bg_cons (bi_wsL_law0_r1 _ (List.mem_of_getElem? (i := 2) rfl)) bg_nil)))) (bg_law (bi_wsL_law0_r43 _ (List.mem_of_getElem? (i := 21) rfl)))
theorem ggL_law_X12_soonest : GoodIn wsL_law wsX12_soonest := (bg_law (bi_wsL_law0_r44 _ (List.mem_of_getElem? (i := 5) rfl)))
theorem gL_law_X12_soonest : GoodIn wsL_law (wsV RL 127 RX12 yX12_soonest wsX12_soonest) := goodIn_app (bg_cons (bi_wsL_law0_r44 _ (List.mem_of_getElem? (i := 2) rfl)) (bg_cons (bi_wsL_law0_r44 _ (List.mem_of_getElem? (i := 3) rfl)) (bg_cons (bi_wsL_law0_r44 _ (List.mem_of_getElem? (i := 4) rfl)) (bg_cons (bi_wsL_law0_r1 _ (List.mem_of_getElem? (i := 5) rfl)) bg_nil)))) (bg_law (bi_wsL_law0_r44 _ (List.mem_of_getElem? (i := 5) rfl)))
theorem ggL_law_X11_pairs : GoodIn wsL_law wsX11_pairs := (bg_law (bi_wsL_law0_r44 _ (List.mem_of_getElem? (i := 13) rfl)))
theorem gL_law_X11_pairs : GoodIn wsL_law (wsV RL 128 RX11 yX11_pairs wsX11_pairs) := goodIn_app (bg_cons (bi_wsL_law0_r44 _ (List.mem_of_getElem? (i := 10) rfl)) (bg_cons (bi_wsL_law0_r44 _ (List.mem_of_getElem? (i := 11) rfl)) (bg_cons (bi_wsL_law0_r44 _ (List.mem_of_getElem? (i := 12) rfl)) (bg_cons (bi_wsL_law0_r1 _ (List.mem_of_getElem? (i := 2) rfl)) bg_nil)))) (bg_law (bi_wsL_law0_r44 _ (List.mem_of_getElem? (i := 13) rfl)))
theorem ggL_law_X12_pairs : GoodIn wsL_law wsX12_pairs := (bg_law (bi_wsL_law0_r45 _ (List.mem_of_getElem? (i := 14) rfl)))
theorem gL_law_X12_pairs : GoodIn wsL_law (wsV RL 131 RX12 yX12_pairs wsX12_pairs) := goodIn_app (bg_cons (bi_wsL_law0_r45 _ (List.mem_of_getElem? (i := 11) rfl)) (bg_cons (bi_wsL_law0_r45 _ (List.mem_of_getElem? (i := 12) rfl)) (bg_cons (bi_wsL_law0_r45 _ (List.mem_of_getElem? (i := 13) rfl)) (bg_cons (bi_wsL_law0_r1 _ (List.mem_of_getElem? (i := 5) rfl)) bg_nil)))) (bg_law (bi_wsL_law0_r45 _ (List.mem_of_getElem? (i := 14) rfl)))
theorem ggL_law_X11_allKnow : GoodIn wsL_law wsX11_allKnow := (bg_law (bi_wsL_law0_r46 _ (List.mem_of_getElem? (i := 9) rfl)))
theorem gL_law_X11_allKnow : GoodIn wsL_law (wsV RL 132 RX11 yX11_allKnow wsX11_allKnow) := goodIn_app (bg_cons (bi_wsL_law0_r46 _ (List.mem_of_getElem? (i := 6) rfl)) (bg_cons (bi_wsL_law0_r46 _ (List.mem_of_getElem? (i := 7) rfl)) (bg_cons (bi_wsL_law0_r46 _ (List.mem_of_getElem? (i := 8) rfl)) (bg_cons (bi_wsL_law0_r1 _ (List.mem_of_getElem? (i := 2) rfl)) bg_nil)))) (bg_law (bi_wsL_law0_r46 _ (List.mem_of_getElem? (i := 9) rfl)))
theorem ggL_law_X12_allKnow : GoodIn wsL_law wsX12_allKnow := (bg_law (bi_wsL_law0_r47 _ (List.mem_of_getElem? (i := 3) rfl)))
theorem gL_law_X12_allKnow : GoodIn wsL_law (wsV RL 135 RX12 yX12_allKnow wsX12_allKnow) := goodIn_app (bg_cons (bi_wsL_law0_r47 _ (List.mem_of_getElem? (i := 0) rfl)) (bg_cons (bi_wsL_law0_r47 _ (List.mem_of_getElem? (i := 1) rfl)) (bg_cons (bi_wsL_law0_r47 _ (List.mem_of_getElem? (i := 2) rfl)) (bg_cons (bi_wsL_law0_r1 _ (List.mem_of_getElem? (i := 5) rfl)) bg_nil)))) (bg_law (bi_wsL_law0_r47 _ (List.mem_of_getElem? (i := 3) rfl)))
theorem ggL_law_X11_seen : GoodIn wsL_law wsX11_seen := (bg_law (bi_wsL_law0_r47 _ (List.mem_of_getElem? (i := 15) rfl)))
theorem gL_law_X11_seen : GoodIn wsL_law (wsV RL 136 RX11 yX11_seen wsX11_seen) := goodIn_app (bg_cons (bi_wsL_law0_r47 _ (List.mem_of_getElem? (i := 12) rfl)) (bg_cons (bi_wsL_law0_r47 _ (List.mem_of_getElem? (i := 13) rfl)) (bg_cons (bi_wsL_law0_r47 _ (List.mem_of_getElem? (i := 14) rfl)) (bg_cons (bi_wsL_law0_r1 _ (List.mem_of_getElem? (i := 2) rfl)) bg_nil)))) (bg_law (bi_wsL_law0_r47 _ (List.mem_of_getElem? (i := 15) rfl)))
theorem ggL_law_X12_seen : GoodIn wsL_law wsX12_seen := (bg_law (bi_wsL_law0_r48 _ (List.mem_of_getElem? (i := 7) rfl)))
theorem gL_law_X12_seen : GoodIn wsL_law (wsV RL 140 RX12 yX12_seen wsX12_seen) := goodIn_app (bg_cons (bi_wsL_law0_r48 _ (List.mem_of_getElem? (i := 4) rfl)) (bg_cons (bi_wsL_law0_r48 _ (List.mem_of_getElem? (i := 5) rfl)) (bg_cons (bi_wsL_law0_r48 _ (List.mem_of_getElem? (i := 6) rfl)) (bg_cons (bi_wsL_law0_r1 _ (List.mem_of_getElem? (i := 5) rfl)) bg_nil)))) (bg_law (bi_wsL_law0_r48 _ (List.mem_of_getElem? (i := 7) rfl)))
theorem ggL_law_X11_fits : GoodIn wsL_law wsX11_fits := (bg_law (bi_wsL_law0_r48 _ (List.mem_of_getElem? (i := 11) rfl)))
theorem gL_law_X11_fits : GoodIn wsL_law (wsV RL 141 RX11 yX11_fits wsX11_fits) := goodIn_app (bg_cons (bi_wsL_law0_r48 _ (List.mem_of_getElem? (i := 8) rfl)) (bg_cons (bi_wsL_law0_r48 _ (List.mem_of_getElem? (i := 9) rfl)) (bg_cons (bi_wsL_law0_r48 _ (List.mem_of_getElem? (i := 10) rfl)) (bg_cons (bi_wsL_law0_r1 _ (List.mem_of_getElem? (i := 2) rfl)) bg_nil)))) (bg_law (bi_wsL_law0_r48 _ (List.mem_of_getElem? (i := 11) rfl)))
theorem ggL_law_X12_fits : GoodIn wsL_law wsX12_fits := (bg_law (bi_wsL_law0_r49 _ (List.mem_of_getElem? (i := 4) rfl)))
theorem gL_law_X12_fits : GoodIn wsL_law (wsV RL 144 RX12 yX12_fits wsX12_fits) := goodIn_app (bg_cons (bi_wsL_law0_r49 _ (List.mem_of_getElem? (i := 1) rfl)) (bg_cons (bi_wsL_law0_r49 _ (List.mem_of_getElem? (i := 2) rfl)) (bg_cons (bi_wsL_law0_r49 _ (List.mem_of_getElem? (i := 3) rfl)) (bg_cons (bi_wsL_law0_r1 _ (List.mem_of_getElem? (i := 5) rfl)) bg_nil)))) (bg_law (bi_wsL_law0_r49 _ (List.mem_of_getElem? (i := 4) rfl)))
theorem ggL_law_X11_ask : GoodIn wsL_law wsX11_ask := (bg_law (bi_wsL_law0_r49 _ (List.mem_of_getElem? (i := 16) rfl)))
theorem gL_law_X11_ask : GoodIn wsL_law (wsV RL 145 RX11 yX11_ask wsX11_ask) := goodIn_app (bg_cons (bi_wsL_law0_r49 _ (List.mem_of_getElem? (i := 13) rfl)) (bg_cons (bi_wsL_law0_r49 _ (List.mem_of_getElem? (i := 14) rfl)) (bg_cons (bi_wsL_law0_r49 _ (List.mem_of_getElem? (i := 15) rfl)) (bg_cons (bi_wsL_law0_r1 _ (List.mem_of_getElem? (i := 2) rfl)) bg_nil)))) (bg_law (bi_wsL_law0_r49 _ (List.mem_of_getElem? (i := 16) rfl)))
theorem ggL_law_X12_ask : GoodIn wsL_law wsX12_ask := (bg_law (bi_wsL_law0_r50 _ (List.mem_of_getElem? (i := 8) rfl)))
theorem gL_law_X12_ask : GoodIn wsL_law (wsV RL 148 RX12 yX12_ask wsX12_ask) := goodIn_app (bg_cons (bi_wsL_law0_r50 _ (List.mem_of_getElem? (i := 5) rfl)) (bg_cons (bi_wsL_law0_r50 _ (List.mem_of_getElem? (i := 6) rfl)) (bg_cons (bi_wsL_law0_r50 _ (List.mem_of_getElem? (i := 7) rfl)) (bg_cons (bi_wsL_law0_r1 _ (List.mem_of_getElem? (i := 5) rfl)) bg_nil)))) (bg_law (bi_wsL_law0_r50 _ (List.mem_of_getElem? (i := 8) rfl)))
theorem ggL_law_X11_game : GoodIn wsL_law wsX11_game := (bg_law (bi_wsL_law0_r50 _ (List.mem_of_getElem? (i := 14) rfl)))
theorem gL_law_X11_game : GoodIn wsL_law (wsV RL 149 RX11 yX11_game wsX11_game) := goodIn_app (bg_cons (bi_wsL_law0_r50 _ (List.mem_of_getElem? (i := 11) rfl)) (bg_cons (bi_wsL_law0_r50 _ (List.mem_of_getElem? (i := 12) rfl)) (bg_cons (bi_wsL_law0_r50 _ (List.mem_of_getElem? (i := 13) rfl)) (bg_cons (bi_wsL_law0_r1 _ (List.mem_of_getElem? (i := 2) rfl)) bg_nil)))) (bg_law (bi_wsL_law0_r50 _ (List.mem_of_getElem? (i := 14) rfl)))
theorem ggL_law_X12_game : GoodIn wsL_law wsX12_game := (bg_law (bi_wsL_law0_r51 _ (List.mem_of_getElem? (i := 4) rfl)))
theorem gL_law_X12_game : GoodIn wsL_law (wsV RL 152 RX12 yX12_game wsX12_game) := goodIn_app (bg_cons (bi_wsL_law0_r51 _ (List.mem_of_getElem? (i := 1) rfl)) (bg_cons (bi_wsL_law0_r51 _ (List.mem_of_getElem? (i := 2) rfl)) (bg_cons (bi_wsL_law0_r51 _ (List.mem_of_getElem? (i := 3) rfl)) (bg_cons (bi_wsL_law0_r1 _ (List.mem_of_getElem? (i := 5) rfl)) bg_nil)))) (bg_law (bi_wsL_law0_r51 _ (List.mem_of_getElem? (i := 4) rfl)))
theorem ggL_law_X11_sure : GoodIn wsL_law wsX11_sure := (bg_law (bi_wsL_law0_r51 _ (List.mem_of_getElem? (i := 16) rfl)))
theorem gL_law_X11_sure : GoodIn wsL_law (wsV RL 153 RX11 yX11_sure wsX11_sure) := goodIn_app (bg_cons (bi_wsL_law0_r51 _ (List.mem_of_getElem? (i := 13) rfl)) (bg_cons (bi_wsL_law0_r51 _ (List.mem_of_getElem? (i := 14) rfl)) (bg_cons (bi_wsL_law0_r51 _ (List.mem_of_getElem? (i := 15) rfl)) (bg_cons (bi_wsL_law0_r1 _ (List.mem_of_getElem? (i := 2) rfl)) bg_nil)))) (bg_law (bi_wsL_law0_r51 _ (List.mem_of_getElem? (i := 16) rfl)))
theorem ggL_law_X12_sure : GoodIn wsL_law wsX12_sure := (bg_law (bi_wsL_law0_r52 _ (List.mem_of_getElem? (i := 2) rfl)))
theorem gL_law_X12_sure : GoodIn wsL_law (wsV RL 156 RX12 yX12_sure wsX12_sure) := goodIn_app (bg_cons (bi_wsL_law0_r51 _ (List.mem_of_getElem? (i := 23) rfl)) (bg_cons (bi_wsL_law0_r52 _ (List.mem_of_getElem? (i := 0) rfl)) (bg_cons (bi_wsL_law0_r52 _ (List.mem_of_getElem? (i := 1) rfl)) (bg_cons (bi_wsL_law0_r1 _ (List.mem_of_getElem? (i := 5) rfl)) bg_nil)))) (bg_law (bi_wsL_law0_r52 _ (List.mem_of_getElem? (i := 2) rfl)))
theorem ggL_law_X11_rests : GoodIn wsL_law wsX11_rests := (bg_law (bi_wsL_law0_r52 _ (List.mem_of_getElem? (i := 14) rfl)))
theorem gL_law_X11_rests : GoodIn wsL_law (wsV RL 157 RX11 yX11_rests wsX11_rests) := goodIn_app (bg_cons (bi_wsL_law0_r52 _ (List.mem_of_getElem? (i := 11) rfl)) (bg_cons (bi_wsL_law0_r52 _ (List.mem_of_getElem? (i := 12) rfl)) (bg_cons (bi_wsL_law0_r52 _ (List.mem_of_getElem? (i := 13) rfl)) (bg_cons (bi_wsL_law0_r1 _ (List.mem_of_getElem? (i := 2) rfl)) bg_nil)))) (bg_law (bi_wsL_law0_r52 _ (List.mem_of_getElem? (i := 14) rfl)))
theorem ggL_law_X12_rests : GoodIn wsL_law wsX12_rests := (bg_law (bi_wsL_law0_r52 _ (List.mem_of_getElem? (i := 23) rfl)))
theorem gL_law_X12_rests : GoodIn wsL_law (wsV RL 160 RX12 yX12_rests wsX12_rests) := goodIn_app (bg_cons (bi_wsL_law0_r52 _ (List.mem_of_getElem? (i := 20) rfl)) (bg_cons (bi_wsL_law0_r52 _ (List.mem_of_getElem? (i := 21) rfl)) (bg_cons (bi_wsL_law0_r52 _ (List.mem_of_getElem? (i := 22) rfl)) (bg_cons (bi_wsL_law0_r1 _ (List.mem_of_getElem? (i := 5) rfl)) bg_nil)))) (bg_law (bi_wsL_law0_r52 _ (List.mem_of_getElem? (i := 23) rfl)))
theorem ggL_law_X11_odds : GoodIn wsL_law wsX11_odds := (bg_law (bi_wsL_law0_r53 _ (List.mem_of_getElem? (i := 7) rfl)))
theorem gL_law_X11_odds : GoodIn wsL_law (wsV RL 161 RX11 yX11_odds wsX11_odds) := goodIn_app (bg_cons (bi_wsL_law0_r53 _ (List.mem_of_getElem? (i := 4) rfl)) (bg_cons (bi_wsL_law0_r53 _ (List.mem_of_getElem? (i := 5) rfl)) (bg_cons (bi_wsL_law0_r53 _ (List.mem_of_getElem? (i := 6) rfl)) (bg_cons (bi_wsL_law0_r1 _ (List.mem_of_getElem? (i := 2) rfl)) bg_nil)))) (bg_law (bi_wsL_law0_r53 _ (List.mem_of_getElem? (i := 7) rfl)))
theorem ggL_law_X12_odds : GoodIn wsL_law wsX12_odds := (bg_law (bi_wsL_law0_r54 _ (List.mem_of_getElem? (i := 8) rfl)))
theorem gL_law_X12_odds : GoodIn wsL_law (wsV RL 164 RX12 yX12_odds wsX12_odds) := goodIn_app (bg_cons (bi_wsL_law0_r54 _ (List.mem_of_getElem? (i := 5) rfl)) (bg_cons (bi_wsL_law0_r54 _ (List.mem_of_getElem? (i := 6) rfl)) (bg_cons (bi_wsL_law0_r54 _ (List.mem_of_getElem? (i := 7) rfl)) (bg_cons (bi_wsL_law0_r1 _ (List.mem_of_getElem? (i := 5) rfl)) bg_nil)))) (bg_law (bi_wsL_law0_r54 _ (List.mem_of_getElem? (i := 8) rfl)))
theorem ggL_law_X11_shares : GoodIn wsL_law wsX11_shares := (bg_law (bi_wsL_law0_r54 _ (List.mem_of_getElem? (i := 18) rfl)))
theorem gL_law_X11_shares : GoodIn wsL_law (wsV RL 165 RX11 yX11_shares wsX11_shares) := goodIn_app (bg_cons (bi_wsL_law0_r54 _ (List.mem_of_getElem? (i := 15) rfl)) (bg_cons (bi_wsL_law0_r54 _ (List.mem_of_getElem? (i := 16) rfl)) (bg_cons (bi_wsL_law0_r54 _ (List.mem_of_getElem? (i := 17) rfl)) (bg_cons (bi_wsL_law0_r1 _ (List.mem_of_getElem? (i := 2) rfl)) bg_nil)))) (bg_law (bi_wsL_law0_r54 _ (List.mem_of_getElem? (i := 18) rfl)))
theorem ggL_law_X12_shares : GoodIn wsL_law wsX12_shares := (bg_law (bi_wsL_law0_r55 _ (List.mem_of_getElem? (i := 3) rfl)))
theorem gL_law_X12_shares : GoodIn wsL_law (wsV RL 168 RX12 yX12_shares wsX12_shares) := goodIn_app (bg_cons (bi_wsL_law0_r55 _ (List.mem_of_getElem? (i := 0) rfl)) (bg_cons (bi_wsL_law0_r55 _ (List.mem_of_getElem? (i := 1) rfl)) (bg_cons (bi_wsL_law0_r55 _ (List.mem_of_getElem? (i := 2) rfl)) (bg_cons (bi_wsL_law0_r1 _ (List.mem_of_getElem? (i := 5) rfl)) bg_nil)))) (bg_law (bi_wsL_law0_r55 _ (List.mem_of_getElem? (i := 3) rfl)))
theorem ggL_law_X11_most : GoodIn wsL_law wsX11_most := (bg_law (bi_wsL_law0_r55 _ (List.mem_of_getElem? (i := 7) rfl)))
theorem gL_law_X11_most : GoodIn wsL_law (wsV RL 169 RX11 yX11_most wsX11_most) := goodIn_app (bg_cons (bi_wsL_law0_r55 _ (List.mem_of_getElem? (i := 4) rfl)) (bg_cons (bi_wsL_law0_r55 _ (List.mem_of_getElem? (i := 5) rfl)) (bg_cons (bi_wsL_law0_r55 _ (List.mem_of_getElem? (i := 6) rfl)) (bg_cons (bi_wsL_law0_r1 _ (List.mem_of_getElem? (i := 2) rfl)) bg_nil)))) (bg_law (bi_wsL_law0_r55 _ (List.mem_of_getElem? (i := 7) rfl)))
theorem ggL_law_X12_most : GoodIn wsL_law wsX12_most := (bg_law (bi_wsL_law0_r57 _ (List.mem_of_getElem? (i := 6) rfl)))
theorem gL_law_X12_most : GoodIn wsL_law (wsV RL 172 RX12 yX12_most wsX12_most) := goodIn_app (bg_cons (bi_wsL_law0_r57 _ (List.mem_of_getElem? (i := 3) rfl)) (bg_cons (bi_wsL_law0_r57 _ (List.mem_of_getElem? (i := 4) rfl)) (bg_cons (bi_wsL_law0_r57 _ (List.mem_of_getElem? (i := 5) rfl)) (bg_cons (bi_wsL_law0_r1 _ (List.mem_of_getElem? (i := 5) rfl)) bg_nil)))) (bg_law (bi_wsL_law0_r57 _ (List.mem_of_getElem? (i := 6) rfl)))
theorem ggL_law_X11_allies : GoodIn wsL_law wsX11_allies := (bg_law (bi_wsL_law0_r58 _ (List.mem_of_getElem? (i := 14) rfl)))
theorem gL_law_X11_allies : GoodIn wsL_law (wsV RL 173 RX11 yX11_allies wsX11_allies) := goodIn_app (bg_cons (bi_wsL_law0_r58 _ (List.mem_of_getElem? (i := 11) rfl)) (bg_cons (bi_wsL_law0_r58 _ (List.mem_of_getElem? (i := 12) rfl)) (bg_cons (bi_wsL_law0_r58 _ (List.mem_of_getElem? (i := 13) rfl)) (bg_cons (bi_wsL_law0_r1 _ (List.mem_of_getElem? (i := 2) rfl)) bg_nil)))) (bg_law (bi_wsL_law0_r58 _ (List.mem_of_getElem? (i := 14) rfl)))
theorem ggL_law_X12_allies : GoodIn wsL_law wsX12_allies := (bg_law (bi_wsL_law0_r58 _ (List.mem_of_getElem? (i := 19) rfl)))
theorem gL_law_X12_allies : GoodIn wsL_law (wsV RL 176 RX12 yX12_allies wsX12_allies) := goodIn_app (bg_cons (bi_wsL_law0_r58 _ (List.mem_of_getElem? (i := 16) rfl)) (bg_cons (bi_wsL_law0_r58 _ (List.mem_of_getElem? (i := 17) rfl)) (bg_cons (bi_wsL_law0_r58 _ (List.mem_of_getElem? (i := 18) rfl)) (bg_cons (bi_wsL_law0_r1 _ (List.mem_of_getElem? (i := 5) rfl)) bg_nil)))) (bg_law (bi_wsL_law0_r58 _ (List.mem_of_getElem? (i := 19) rfl)))
theorem ggL_law_X11_image : GoodIn wsL_law wsX11_image := (bg_law (bi_wsL_law0_r58 _ (List.mem_of_getElem? (i := 23) rfl)))
theorem gL_law_X11_image : GoodIn wsL_law (wsV RL 177 RX11 yX11_image wsX11_image) := goodIn_app (bg_cons (bi_wsL_law0_r58 _ (List.mem_of_getElem? (i := 20) rfl)) (bg_cons (bi_wsL_law0_r58 _ (List.mem_of_getElem? (i := 21) rfl)) (bg_cons (bi_wsL_law0_r58 _ (List.mem_of_getElem? (i := 22) rfl)) (bg_cons (bi_wsL_law0_r1 _ (List.mem_of_getElem? (i := 2) rfl)) bg_nil)))) (bg_law (bi_wsL_law0_r58 _ (List.mem_of_getElem? (i := 23) rfl)))
theorem ggL_law_X12_image : GoodIn wsL_law wsX12_image := (bg_law (bi_wsL_law0_r59 _ (List.mem_of_getElem? (i := 8) rfl)))
theorem gL_law_X12_image : GoodIn wsL_law (wsV RL 180 RX12 yX12_image wsX12_image) := goodIn_app (bg_cons (bi_wsL_law0_r59 _ (List.mem_of_getElem? (i := 5) rfl)) (bg_cons (bi_wsL_law0_r59 _ (List.mem_of_getElem? (i := 6) rfl)) (bg_cons (bi_wsL_law0_r59 _ (List.mem_of_getElem? (i := 7) rfl)) (bg_cons (bi_wsL_law0_r1 _ (List.mem_of_getElem? (i := 5) rfl)) bg_nil)))) (bg_law (bi_wsL_law0_r59 _ (List.mem_of_getElem? (i := 8) rfl)))
theorem ggL_law_X11_back : GoodIn wsL_law wsX11_back := (bg_law (bi_wsL_law0_r59 _ (List.mem_of_getElem? (i := 12) rfl)))
theorem gL_law_X11_back : GoodIn wsL_law (wsV RL 181 RX11 yX11_back wsX11_back) := goodIn_app (bg_cons (bi_wsL_law0_r59 _ (List.mem_of_getElem? (i := 9) rfl)) (bg_cons (bi_wsL_law0_r59 _ (List.mem_of_getElem? (i := 10) rfl)) (bg_cons (bi_wsL_law0_r59 _ (List.mem_of_getElem? (i := 11) rfl)) (bg_cons (bi_wsL_law0_r1 _ (List.mem_of_getElem? (i := 2) rfl)) bg_nil)))) (bg_law (bi_wsL_law0_r59 _ (List.mem_of_getElem? (i := 12) rfl)))
theorem ggL_law_X12_back : GoodIn wsL_law wsX12_back := (bg_law (bi_wsL_law0_r59 _ (List.mem_of_getElem? (i := 16) rfl)))
theorem gL_law_X12_back : GoodIn wsL_law (wsV RL 184 RX12 yX12_back wsX12_back) := goodIn_app (bg_cons (bi_wsL_law0_r59 _ (List.mem_of_getElem? (i := 13) rfl)) (bg_cons (bi_wsL_law0_r59 _ (List.mem_of_getElem? (i := 14) rfl)) (bg_cons (bi_wsL_law0_r59 _ (List.mem_of_getElem? (i := 15) rfl)) (bg_cons (bi_wsL_law0_r1 _ (List.mem_of_getElem? (i := 5) rfl)) bg_nil)))) (bg_law (bi_wsL_law0_r59 _ (List.mem_of_getElem? (i := 16) rfl)))
theorem ggL_law_X11_count : GoodIn wsL_law wsX11_count := (bg_law (bi_wsL_law0_r59 _ (List.mem_of_getElem? (i := 20) rfl)))
theorem gL_law_X11_count : GoodIn wsL_law (wsV RL 185 RX11 yX11_count wsX11_count) := goodIn_app (bg_cons (bi_wsL_law0_r59 _ (List.mem_of_getElem? (i := 17) rfl)) (bg_cons (bi_wsL_law0_r59 _ (List.mem_of_getElem? (i := 18) rfl)) (bg_cons (bi_wsL_law0_r59 _ (List.mem_of_getElem? (i := 19) rfl)) (bg_cons (bi_wsL_law0_r1 _ (List.mem_of_getElem? (i := 2) rfl)) bg_nil)))) (bg_law (bi_wsL_law0_r59 _ (List.mem_of_getElem? (i := 20) rfl)))
theorem ggL_law_X12_count : GoodIn wsL_law wsX12_count := (bg_law (bi_wsL_law0_r60 _ (List.mem_of_getElem? (i := 1) rfl)))
theorem gL_law_X12_count : GoodIn wsL_law (wsV RL 188 RX12 yX12_count wsX12_count) := goodIn_app (bg_cons (bi_wsL_law0_r59 _ (List.mem_of_getElem? (i := 22) rfl)) (bg_cons (bi_wsL_law0_r59 _ (List.mem_of_getElem? (i := 23) rfl)) (bg_cons (bi_wsL_law0_r60 _ (List.mem_of_getElem? (i := 0) rfl)) (bg_cons (bi_wsL_law0_r1 _ (List.mem_of_getElem? (i := 5) rfl)) bg_nil)))) (bg_law (bi_wsL_law0_r60 _ (List.mem_of_getElem? (i := 1) rfl)))
set_option maxRecDepth 100000 in
theorem dLg_0 : decode cL_law 0 = .ok (.new 8, 3) ∧ decode cL_law 3 = .ok (.dup, 1) ∧ decode cL_law 4 = .ok (.invokespecial 15, 3) ∧ decode cL_law 7 = .ok (.astore_n 1, 1) ∧ decode cL_law 8 = .ok (.new 16, 3) ∧ decode cL_law 11 = .ok (.dup, 1) := by decide +kernel
theorem dL_law_0 : decode cL_law 0 = .ok (.new 8, 3) := dLg_0.1
theorem dL_law_3 : decode cL_law 3 = .ok (.dup, 1) := dLg_0.2.1
theorem dL_law_4 : decode cL_law 4 = .ok (.invokespecial 15, 3) := dLg_0.2.2.1
theorem dL_law_7 : decode cL_law 7 = .ok (.astore_n 1, 1) := dLg_0.2.2.2.1
theorem dL_law_8 : decode cL_law 8 = .ok (.new 16, 3) := dLg_0.2.2.2.2.1
theorem dL_law_11 : decode cL_law 11 = .ok (.dup, 1) := dLg_0.2.2.2.2.2
set_option maxRecDepth 100000 in
theorem dLg_1 : decode cL_law 12 = .ok (.invokespecial 18, 3) ∧ decode cL_law 15 = .ok (.astore_n 2, 1) ∧ decode cL_law 16 = .ok (.iconst 1, 1) ∧ decode cL_law 17 = .ok (.newarray .long, 2) ∧ decode cL_law 19 = .ok (.astore_n 3, 1) ∧ decode cL_law 20 = .ok (.iconst 0, 1) := by decide +kernel
theorem dL_law_12 : decode cL_law 12 = .ok (.invokespecial 18, 3) := dLg_1.1
theorem dL_law_15 : decode cL_law 15 = .ok (.astore_n 2, 1) := dLg_1.2.1
theorem dL_law_16 : decode cL_law 16 = .ok (.iconst 1, 1) := dLg_1.2.2.1
theorem dL_law_17 : decode cL_law 17 = .ok (.newarray .long, 2) := dLg_1.2.2.2.1
theorem dL_law_19 : decode cL_law 19 = .ok (.astore_n 3, 1) := dLg_1.2.2.2.2.1
theorem dL_law_20 : decode cL_law 20 = .ok (.iconst 0, 1) := dLg_1.2.2.2.2.2
set_option maxRecDepth 100000 in
theorem dLg_2 : decode cL_law 21 = .ok (.istore 4, 2) ∧ decode cL_law 23 = .ok (.iload 4, 2) ∧ decode cL_law 25 = .ok (.aload_n 0, 1) ∧ decode cL_law 26 = .ok (.arraylength, 1) ∧ decode cL_law 27 = .ok (.bipush 6, 2) ∧ decode cL_law 29 = .ok (.isub, 1) := by decide +kernel
theorem dL_law_21 : decode cL_law 21 = .ok (.istore 4, 2) := dLg_2.1
theorem dL_law_23 : decode cL_law 23 = .ok (.iload 4, 2) := dLg_2.2.1
theorem dL_law_25 : decode cL_law 25 = .ok (.aload_n 0, 1) := dLg_2.2.2.1
theorem dL_law_26 : decode cL_law 26 = .ok (.arraylength, 1) := dLg_2.2.2.2.1
theorem dL_law_27 : decode cL_law 27 = .ok (.bipush 6, 2) := dLg_2.2.2.2.2.1
theorem dL_law_29 : decode cL_law 29 = .ok (.isub, 1) := dLg_2.2.2.2.2.2
set_option maxRecDepth 100000 in
theorem dLg_3 : decode cL_law 30 = .ok (.if_icmp .gt 1506, 3) ∧ decode cL_law 33 = .ok (.aload_n 0, 1) ∧ decode cL_law 34 = .ok (.iload 4, 2) ∧ decode cL_law 36 = .ok (.iaload, 1) ∧ decode cL_law 37 = .ok (.bipush 63, 2) ∧ decode cL_law 39 = .ok (.iand, 1) := by decide +kernel
theorem dL_law_30 : decode cL_law 30 = .ok (.if_icmp .gt 1506, 3) := dLg_3.1
theorem dL_law_33 : decode cL_law 33 = .ok (.aload_n 0, 1) := dLg_3.2.1
theorem dL_law_34 : decode cL_law 34 = .ok (.iload 4, 2) := dLg_3.2.2.1
theorem dL_law_36 : decode cL_law 36 = .ok (.iaload, 1) := dLg_3.2.2.2.1
theorem dL_law_37 : decode cL_law 37 = .ok (.bipush 63, 2) := dLg_3.2.2.2.2.1
theorem dL_law_39 : decode cL_law 39 = .ok (.iand, 1) := dLg_3.2.2.2.2.2
set_option maxRecDepth 100000 in
theorem dLg_4 : decode cL_law 40 = .ok (.tableswitch 1490 0 38 #[172, 245, 270, 295, 320, 345, 413, 450, 487, 512, 549, 574, 611, 624, 649, 674, 699, 724, 793, 818, 831, 868, 905, 954, 991, 1016, 1029, 1106, 1143, 1180, 1229, 1254, 1279, 1352, 1389, 1414, 1439, 1452, 1465], 172) ∧ decode cL_law 212 = .ok (.aload_n 1, 1) ∧ decode cL_law 213 = .ok (.aload_n 0, 1) ∧ decode cL_law 214 = .ok (.iload 4, 2) ∧ decode cL_law 216 = .ok (.iconst 1, 1) ∧ decode cL_law 217 = .ok (.iadd, 1) := by decide +kernel
theorem dL_law_40 : decode cL_law 40 = .ok (.tableswitch 1490 0 38 #[172, 245, 270, 295, 320, 345, 413, 450, 487, 512, 549, 574, 611, 624, 649, 674, 699, 724, 793, 818, 831, 868, 905, 954, 991, 1016, 1029, 1106, 1143, 1180, 1229, 1254, 1279, 1352, 1389, 1414, 1439, 1452, 1465], 172) := dLg_4.1
theorem dL_law_212 : decode cL_law 212 = .ok (.aload_n 1, 1) := dLg_4.2.1
theorem dL_law_213 : decode cL_law 213 = .ok (.aload_n 0, 1) := dLg_4.2.2.1
theorem dL_law_214 : decode cL_law 214 = .ok (.iload 4, 2) := dLg_4.2.2.2.1
theorem dL_law_216 : decode cL_law 216 = .ok (.iconst 1, 1) := dLg_4.2.2.2.2.1
theorem dL_law_217 : decode cL_law 217 = .ok (.iadd, 1) := dLg_4.2.2.2.2.2
set_option maxRecDepth 100000 in
theorem dLg_5 : decode cL_law 218 = .ok (.iaload, 1) ∧ decode cL_law 219 = .ok (.aload_n 0, 1) ∧ decode cL_law 220 = .ok (.iload 4, 2) ∧ decode cL_law 222 = .ok (.iconst 2, 1) ∧ decode cL_law 223 = .ok (.iadd, 1) ∧ decode cL_law 224 = .ok (.iaload, 1) := by decide +kernel
theorem dL_law_218 : decode cL_law 218 = .ok (.iaload, 1) := dLg_5.1
theorem dL_law_219 : decode cL_law 219 = .ok (.aload_n 0, 1) := dLg_5.2.1
theorem dL_law_220 : decode cL_law 220 = .ok (.iload 4, 2) := dLg_5.2.2.1
theorem dL_law_222 : decode cL_law 222 = .ok (.iconst 2, 1) := dLg_5.2.2.2.1
theorem dL_law_223 : decode cL_law 223 = .ok (.iadd, 1) := dLg_5.2.2.2.2.1
theorem dL_law_224 : decode cL_law 224 = .ok (.iaload, 1) := dLg_5.2.2.2.2.2
set_option maxRecDepth 100000 in
theorem dLg_6 : decode cL_law 225 = .ok (.aload_n 0, 1) ∧ decode cL_law 226 = .ok (.iload 4, 2) ∧ decode cL_law 228 = .ok (.iconst 3, 1) ∧ decode cL_law 229 = .ok (.iadd, 1) ∧ decode cL_law 230 = .ok (.iaload, 1) ∧ decode cL_law 231 = .ok (.aload_n 0, 1) := by decide +kernel
theorem dL_law_225 : decode cL_law 225 = .ok (.aload_n 0, 1) := dLg_6.1
theorem dL_law_226 : decode cL_law 226 = .ok (.iload 4, 2) := dLg_6.2.1
theorem dL_law_228 : decode cL_law 228 = .ok (.iconst 3, 1) := dLg_6.2.2.1
theorem dL_law_229 : decode cL_law 229 = .ok (.iadd, 1) := dLg_6.2.2.2.1
theorem dL_law_230 : decode cL_law 230 = .ok (.iaload, 1) := dLg_6.2.2.2.2.1
theorem dL_law_231 : decode cL_law 231 = .ok (.aload_n 0, 1) := dLg_6.2.2.2.2.2
set_option maxRecDepth 100000 in
theorem dLg_7 : decode cL_law 232 = .ok (.iload 4, 2) ∧ decode cL_law 234 = .ok (.iconst 4, 1) ∧ decode cL_law 235 = .ok (.iadd, 1) ∧ decode cL_law 236 = .ok (.iaload, 1) ∧ decode cL_law 237 = .ok (.aload_n 0, 1) ∧ decode cL_law 238 = .ok (.iload 4, 2) := by decide +kernel
theorem dL_law_232 : decode cL_law 232 = .ok (.iload 4, 2) := dLg_7.1
theorem dL_law_234 : decode cL_law 234 = .ok (.iconst 4, 1) := dLg_7.2.1
theorem dL_law_235 : decode cL_law 235 = .ok (.iadd, 1) := dLg_7.2.2.1
theorem dL_law_236 : decode cL_law 236 = .ok (.iaload, 1) := dLg_7.2.2.2.1
theorem dL_law_237 : decode cL_law 237 = .ok (.aload_n 0, 1) := dLg_7.2.2.2.2.1
theorem dL_law_238 : decode cL_law 238 = .ok (.iload 4, 2) := dLg_7.2.2.2.2.2
set_option maxRecDepth 100000 in
theorem dLg_8 : decode cL_law 240 = .ok (.iconst 5, 1) ∧ decode cL_law 241 = .ok (.iadd, 1) ∧ decode cL_law 242 = .ok (.iaload, 1) ∧ decode cL_law 243 = .ok (.invokevirtual 19, 3) ∧ decode cL_law 246 = .ok (.pop, 1) ∧ decode cL_law 247 = .ok (.aload_n 2, 1) := by decide +kernel
theorem dL_law_240 : decode cL_law 240 = .ok (.iconst 5, 1) := dLg_8.1
theorem dL_law_241 : decode cL_law 241 = .ok (.iadd, 1) := dLg_8.2.1
theorem dL_law_242 : decode cL_law 242 = .ok (.iaload, 1) := dLg_8.2.2.1
theorem dL_law_243 : decode cL_law 243 = .ok (.invokevirtual 19, 3) := dLg_8.2.2.2.1
theorem dL_law_246 : decode cL_law 246 = .ok (.pop, 1) := dLg_8.2.2.2.2.1
theorem dL_law_247 : decode cL_law 247 = .ok (.aload_n 2, 1) := dLg_8.2.2.2.2.2
set_option maxRecDepth 100000 in
theorem dLg_9 : decode cL_law 248 = .ok (.aload_n 0, 1) ∧ decode cL_law 249 = .ok (.iload 4, 2) ∧ decode cL_law 251 = .ok (.iconst 1, 1) ∧ decode cL_law 252 = .ok (.iadd, 1) ∧ decode cL_law 253 = .ok (.iaload, 1) ∧ decode cL_law 254 = .ok (.aload_n 0, 1) := by decide +kernel
theorem dL_law_248 : decode cL_law 248 = .ok (.aload_n 0, 1) := dLg_9.1
theorem dL_law_249 : decode cL_law 249 = .ok (.iload 4, 2) := dLg_9.2.1
theorem dL_law_251 : decode cL_law 251 = .ok (.iconst 1, 1) := dLg_9.2.2.1
theorem dL_law_252 : decode cL_law 252 = .ok (.iadd, 1) := dLg_9.2.2.2.1
theorem dL_law_253 : decode cL_law 253 = .ok (.iaload, 1) := dLg_9.2.2.2.2.1
theorem dL_law_254 : decode cL_law 254 = .ok (.aload_n 0, 1) := dLg_9.2.2.2.2.2
set_option maxRecDepth 100000 in
theorem dLg_10 : decode cL_law 255 = .ok (.iload 4, 2) ∧ decode cL_law 257 = .ok (.iconst 2, 1) ∧ decode cL_law 258 = .ok (.iadd, 1) ∧ decode cL_law 259 = .ok (.iaload, 1) ∧ decode cL_law 260 = .ok (.aload_n 0, 1) ∧ decode cL_law 261 = .ok (.iload 4, 2) := by decide +kernel
theorem dL_law_255 : decode cL_law 255 = .ok (.iload 4, 2) := dLg_10.1
theorem dL_law_257 : decode cL_law 257 = .ok (.iconst 2, 1) := dLg_10.2.1
theorem dL_law_258 : decode cL_law 258 = .ok (.iadd, 1) := dLg_10.2.2.1
theorem dL_law_259 : decode cL_law 259 = .ok (.iaload, 1) := dLg_10.2.2.2.1
theorem dL_law_260 : decode cL_law 260 = .ok (.aload_n 0, 1) := dLg_10.2.2.2.2.1
theorem dL_law_261 : decode cL_law 261 = .ok (.iload 4, 2) := dLg_10.2.2.2.2.2
set_option maxRecDepth 100000 in
theorem dLg_11 : decode cL_law 263 = .ok (.iconst 3, 1) ∧ decode cL_law 264 = .ok (.iadd, 1) ∧ decode cL_law 265 = .ok (.iaload, 1) ∧ decode cL_law 266 = .ok (.aload_n 0, 1) ∧ decode cL_law 267 = .ok (.iload 4, 2) ∧ decode cL_law 269 = .ok (.iconst 4, 1) := by decide +kernel
theorem dL_law_263 : decode cL_law 263 = .ok (.iconst 3, 1) := dLg_11.1
theorem dL_law_264 : decode cL_law 264 = .ok (.iadd, 1) := dLg_11.2.1
theorem dL_law_265 : decode cL_law 265 = .ok (.iaload, 1) := dLg_11.2.2.1
theorem dL_law_266 : decode cL_law 266 = .ok (.aload_n 0, 1) := dLg_11.2.2.2.1
theorem dL_law_267 : decode cL_law 267 = .ok (.iload 4, 2) := dLg_11.2.2.2.2.1
theorem dL_law_269 : decode cL_law 269 = .ok (.iconst 4, 1) := dLg_11.2.2.2.2.2
set_option maxRecDepth 100000 in
theorem dLg_12 : decode cL_law 270 = .ok (.iadd, 1) ∧ decode cL_law 271 = .ok (.iaload, 1) ∧ decode cL_law 272 = .ok (.aload_n 0, 1) ∧ decode cL_law 273 = .ok (.iload 4, 2) ∧ decode cL_law 275 = .ok (.iconst 5, 1) ∧ decode cL_law 276 = .ok (.iadd, 1) := by decide +kernel
theorem dL_law_270 : decode cL_law 270 = .ok (.iadd, 1) := dLg_12.1
theorem dL_law_271 : decode cL_law 271 = .ok (.iaload, 1) := dLg_12.2.1
theorem dL_law_272 : decode cL_law 272 = .ok (.aload_n 0, 1) := dLg_12.2.2.1
theorem dL_law_273 : decode cL_law 273 = .ok (.iload 4, 2) := dLg_12.2.2.2.1
theorem dL_law_275 : decode cL_law 275 = .ok (.iconst 5, 1) := dLg_12.2.2.2.2.1
theorem dL_law_276 : decode cL_law 276 = .ok (.iadd, 1) := dLg_12.2.2.2.2.2
set_option maxRecDepth 100000 in
theorem dLg_13 : decode cL_law 277 = .ok (.iaload, 1) ∧ decode cL_law 278 = .ok (.invokevirtual 23, 3) ∧ decode cL_law 281 = .ok (.pop, 1) ∧ decode cL_law 282 = .ok (.goto 1248, 3) ∧ decode cL_law 285 = .ok (.aload_n 1, 1) ∧ decode cL_law 286 = .ok (.aload_n 0, 1) := by decide +kernel
theorem dL_law_277 : decode cL_law 277 = .ok (.iaload, 1) := dLg_13.1
theorem dL_law_278 : decode cL_law 278 = .ok (.invokevirtual 23, 3) := dLg_13.2.1
theorem dL_law_281 : decode cL_law 281 = .ok (.pop, 1) := dLg_13.2.2.1
theorem dL_law_282 : decode cL_law 282 = .ok (.goto 1248, 3) := dLg_13.2.2.2.1
theorem dL_law_285 : decode cL_law 285 = .ok (.aload_n 1, 1) := dLg_13.2.2.2.2.1
theorem dL_law_286 : decode cL_law 286 = .ok (.aload_n 0, 1) := dLg_13.2.2.2.2.2
set_option maxRecDepth 100000 in
theorem dLg_14 : decode cL_law 287 = .ok (.iload 4, 2) ∧ decode cL_law 289 = .ok (.iconst 1, 1) ∧ decode cL_law 290 = .ok (.iadd, 1) ∧ decode cL_law 291 = .ok (.iaload, 1) ∧ decode cL_law 292 = .ok (.invokevirtual 24, 3) ∧ decode cL_law 295 = .ok (.pop, 1) := by decide +kernel
theorem dL_law_287 : decode cL_law 287 = .ok (.iload 4, 2) := dLg_14.1
theorem dL_law_289 : decode cL_law 289 = .ok (.iconst 1, 1) := dLg_14.2.1
theorem dL_law_290 : decode cL_law 290 = .ok (.iadd, 1) := dLg_14.2.2.1
theorem dL_law_291 : decode cL_law 291 = .ok (.iaload, 1) := dLg_14.2.2.2.1
theorem dL_law_292 : decode cL_law 292 = .ok (.invokevirtual 24, 3) := dLg_14.2.2.2.2.1
theorem dL_law_295 : decode cL_law 295 = .ok (.pop, 1) := dLg_14.2.2.2.2.2
set_option maxRecDepth 100000 in
theorem dLg_15 : decode cL_law 296 = .ok (.aload_n 2, 1) ∧ decode cL_law 297 = .ok (.aload_n 0, 1) ∧ decode cL_law 298 = .ok (.iload 4, 2) ∧ decode cL_law 300 = .ok (.iconst 1, 1) ∧ decode cL_law 301 = .ok (.iadd, 1) ∧ decode cL_law 302 = .ok (.iaload, 1) := by decide +kernel
theorem dL_law_296 : decode cL_law 296 = .ok (.aload_n 2, 1) := dLg_15.1
theorem dL_law_297 : decode cL_law 297 = .ok (.aload_n 0, 1) := dLg_15.2.1
theorem dL_law_298 : decode cL_law 298 = .ok (.iload 4, 2) := dLg_15.2.2.1
theorem dL_law_300 : decode cL_law 300 = .ok (.iconst 1, 1) := dLg_15.2.2.2.1
theorem dL_law_301 : decode cL_law 301 = .ok (.iadd, 1) := dLg_15.2.2.2.2.1
theorem dL_law_302 : decode cL_law 302 = .ok (.iaload, 1) := dLg_15.2.2.2.2.2
set_option maxRecDepth 100000 in
theorem dLg_16 : decode cL_law 303 = .ok (.invokevirtual 28, 3) ∧ decode cL_law 306 = .ok (.pop, 1) ∧ decode cL_law 307 = .ok (.goto 1223, 3) ∧ decode cL_law 310 = .ok (.aload_n 1, 1) ∧ decode cL_law 311 = .ok (.aload_n 0, 1) ∧ decode cL_law 312 = .ok (.iload 4, 2) := by decide +kernel
theorem dL_law_303 : decode cL_law 303 = .ok (.invokevirtual 28, 3) := dLg_16.1
theorem dL_law_306 : decode cL_law 306 = .ok (.pop, 1) := dLg_16.2.1
theorem dL_law_307 : decode cL_law 307 = .ok (.goto 1223, 3) := dLg_16.2.2.1
theorem dL_law_310 : decode cL_law 310 = .ok (.aload_n 1, 1) := dLg_16.2.2.2.1
theorem dL_law_311 : decode cL_law 311 = .ok (.aload_n 0, 1) := dLg_16.2.2.2.2.1
theorem dL_law_312 : decode cL_law 312 = .ok (.iload 4, 2) := dLg_16.2.2.2.2.2
set_option maxRecDepth 100000 in
theorem dLg_17 : decode cL_law 314 = .ok (.iconst 1, 1) ∧ decode cL_law 315 = .ok (.iadd, 1) ∧ decode cL_law 316 = .ok (.iaload, 1) ∧ decode cL_law 317 = .ok (.invokevirtual 29, 3) ∧ decode cL_law 320 = .ok (.pop, 1) ∧ decode cL_law 321 = .ok (.aload_n 2, 1) := by decide +kernel
theorem dL_law_314 : decode cL_law 314 = .ok (.iconst 1, 1) := dLg_17.1
theorem dL_law_315 : decode cL_law 315 = .ok (.iadd, 1) := dLg_17.2.1
theorem dL_law_316 : decode cL_law 316 = .ok (.iaload, 1) := dLg_17.2.2.1
theorem dL_law_317 : decode cL_law 317 = .ok (.invokevirtual 29, 3) := dLg_17.2.2.2.1
theorem dL_law_320 : decode cL_law 320 = .ok (.pop, 1) := dLg_17.2.2.2.2.1
theorem dL_law_321 : decode cL_law 321 = .ok (.aload_n 2, 1) := dLg_17.2.2.2.2.2
set_option maxRecDepth 100000 in
theorem dLg_18 : decode cL_law 322 = .ok (.aload_n 0, 1) ∧ decode cL_law 323 = .ok (.iload 4, 2) ∧ decode cL_law 325 = .ok (.iconst 1, 1) ∧ decode cL_law 326 = .ok (.iadd, 1) ∧ decode cL_law 327 = .ok (.iaload, 1) ∧ decode cL_law 328 = .ok (.invokevirtual 33, 3) := by decide +kernel
theorem dL_law_322 : decode cL_law 322 = .ok (.aload_n 0, 1) := dLg_18.1
theorem dL_law_323 : decode cL_law 323 = .ok (.iload 4, 2) := dLg_18.2.1
theorem dL_law_325 : decode cL_law 325 = .ok (.iconst 1, 1) := dLg_18.2.2.1
theorem dL_law_326 : decode cL_law 326 = .ok (.iadd, 1) := dLg_18.2.2.2.1
theorem dL_law_327 : decode cL_law 327 = .ok (.iaload, 1) := dLg_18.2.2.2.2.1
theorem dL_law_328 : decode cL_law 328 = .ok (.invokevirtual 33, 3) := dLg_18.2.2.2.2.2
set_option maxRecDepth 100000 in
theorem dLg_19 : decode cL_law 331 = .ok (.pop, 1) ∧ decode cL_law 332 = .ok (.goto 1198, 3) ∧ decode cL_law 335 = .ok (.aload_n 1, 1) ∧ decode cL_law 336 = .ok (.aload_n 0, 1) ∧ decode cL_law 337 = .ok (.iload 4, 2) ∧ decode cL_law 339 = .ok (.iconst 1, 1) := by decide +kernel
theorem dL_law_331 : decode cL_law 331 = .ok (.pop, 1) := dLg_19.1
theorem dL_law_332 : decode cL_law 332 = .ok (.goto 1198, 3) := dLg_19.2.1
theorem dL_law_335 : decode cL_law 335 = .ok (.aload_n 1, 1) := dLg_19.2.2.1
theorem dL_law_336 : decode cL_law 336 = .ok (.aload_n 0, 1) := dLg_19.2.2.2.1
theorem dL_law_337 : decode cL_law 337 = .ok (.iload 4, 2) := dLg_19.2.2.2.2.1
theorem dL_law_339 : decode cL_law 339 = .ok (.iconst 1, 1) := dLg_19.2.2.2.2.2
set_option maxRecDepth 100000 in
theorem dLg_20 : decode cL_law 340 = .ok (.iadd, 1) ∧ decode cL_law 341 = .ok (.iaload, 1) ∧ decode cL_law 342 = .ok (.invokevirtual 34, 3) ∧ decode cL_law 345 = .ok (.pop, 1) ∧ decode cL_law 346 = .ok (.aload_n 2, 1) ∧ decode cL_law 347 = .ok (.aload_n 0, 1) := by decide +kernel
theorem dL_law_340 : decode cL_law 340 = .ok (.iadd, 1) := dLg_20.1
theorem dL_law_341 : decode cL_law 341 = .ok (.iaload, 1) := dLg_20.2.1
theorem dL_law_342 : decode cL_law 342 = .ok (.invokevirtual 34, 3) := dLg_20.2.2.1
theorem dL_law_345 : decode cL_law 345 = .ok (.pop, 1) := dLg_20.2.2.2.1
theorem dL_law_346 : decode cL_law 346 = .ok (.aload_n 2, 1) := dLg_20.2.2.2.2.1
theorem dL_law_347 : decode cL_law 347 = .ok (.aload_n 0, 1) := dLg_20.2.2.2.2.2
set_option maxRecDepth 100000 in
theorem dLg_21 : decode cL_law 348 = .ok (.iload 4, 2) ∧ decode cL_law 350 = .ok (.iconst 1, 1) ∧ decode cL_law 351 = .ok (.iadd, 1) ∧ decode cL_law 352 = .ok (.iaload, 1) ∧ decode cL_law 353 = .ok (.invokevirtual 37, 3) ∧ decode cL_law 356 = .ok (.pop, 1) := by decide +kernel
theorem dL_law_348 : decode cL_law 348 = .ok (.iload 4, 2) := dLg_21.1
theorem dL_law_350 : decode cL_law 350 = .ok (.iconst 1, 1) := dLg_21.2.1
theorem dL_law_351 : decode cL_law 351 = .ok (.iadd, 1) := dLg_21.2.2.1
theorem dL_law_352 : decode cL_law 352 = .ok (.iaload, 1) := dLg_21.2.2.2.1
theorem dL_law_353 : decode cL_law 353 = .ok (.invokevirtual 37, 3) := dLg_21.2.2.2.2.1
theorem dL_law_356 : decode cL_law 356 = .ok (.pop, 1) := dLg_21.2.2.2.2.2
set_option maxRecDepth 100000 in
theorem dLg_22 : decode cL_law 357 = .ok (.goto 1173, 3) ∧ decode cL_law 360 = .ok (.aload_n 1, 1) ∧ decode cL_law 361 = .ok (.aload_n 0, 1) ∧ decode cL_law 362 = .ok (.iload 4, 2) ∧ decode cL_law 364 = .ok (.iconst 1, 1) ∧ decode cL_law 365 = .ok (.iadd, 1) := by decide +kernel
theorem dL_law_357 : decode cL_law 357 = .ok (.goto 1173, 3) := dLg_22.1
theorem dL_law_360 : decode cL_law 360 = .ok (.aload_n 1, 1) := dLg_22.2.1
theorem dL_law_361 : decode cL_law 361 = .ok (.aload_n 0, 1) := dLg_22.2.2.1
theorem dL_law_362 : decode cL_law 362 = .ok (.iload 4, 2) := dLg_22.2.2.2.1
theorem dL_law_364 : decode cL_law 364 = .ok (.iconst 1, 1) := dLg_22.2.2.2.2.1
theorem dL_law_365 : decode cL_law 365 = .ok (.iadd, 1) := dLg_22.2.2.2.2.2
set_option maxRecDepth 100000 in
theorem dLg_23 : decode cL_law 366 = .ok (.iaload, 1) ∧ decode cL_law 367 = .ok (.invokevirtual 38, 3) ∧ decode cL_law 370 = .ok (.pop, 1) ∧ decode cL_law 371 = .ok (.aload_n 2, 1) ∧ decode cL_law 372 = .ok (.aload_n 0, 1) ∧ decode cL_law 373 = .ok (.iload 4, 2) := by decide +kernel
theorem dL_law_366 : decode cL_law 366 = .ok (.iaload, 1) := dLg_23.1
theorem dL_law_367 : decode cL_law 367 = .ok (.invokevirtual 38, 3) := dLg_23.2.1
theorem dL_law_370 : decode cL_law 370 = .ok (.pop, 1) := dLg_23.2.2.1
theorem dL_law_371 : decode cL_law 371 = .ok (.aload_n 2, 1) := dLg_23.2.2.2.1
theorem dL_law_372 : decode cL_law 372 = .ok (.aload_n 0, 1) := dLg_23.2.2.2.2.1
theorem dL_law_373 : decode cL_law 373 = .ok (.iload 4, 2) := dLg_23.2.2.2.2.2
set_option maxRecDepth 100000 in
theorem dLg_24 : decode cL_law 375 = .ok (.iconst 1, 1) ∧ decode cL_law 376 = .ok (.iadd, 1) ∧ decode cL_law 377 = .ok (.iaload, 1) ∧ decode cL_law 378 = .ok (.invokevirtual 41, 3) ∧ decode cL_law 381 = .ok (.pop, 1) ∧ decode cL_law 382 = .ok (.goto 1148, 3) := by decide +kernel
theorem dL_law_375 : decode cL_law 375 = .ok (.iconst 1, 1) := dLg_24.1
theorem dL_law_376 : decode cL_law 376 = .ok (.iadd, 1) := dLg_24.2.1
theorem dL_law_377 : decode cL_law 377 = .ok (.iaload, 1) := dLg_24.2.2.1
theorem dL_law_378 : decode cL_law 378 = .ok (.invokevirtual 41, 3) := dLg_24.2.2.2.1
theorem dL_law_381 : decode cL_law 381 = .ok (.pop, 1) := dLg_24.2.2.2.2.1
theorem dL_law_382 : decode cL_law 382 = .ok (.goto 1148, 3) := dLg_24.2.2.2.2.2
set_option maxRecDepth 100000 in
theorem dLg_25 : decode cL_law 385 = .ok (.aload_n 1, 1) ∧ decode cL_law 386 = .ok (.aload_n 0, 1) ∧ decode cL_law 387 = .ok (.iload 4, 2) ∧ decode cL_law 389 = .ok (.iconst 1, 1) ∧ decode cL_law 390 = .ok (.iadd, 1) ∧ decode cL_law 391 = .ok (.iaload, 1) := by decide +kernel
theorem dL_law_385 : decode cL_law 385 = .ok (.aload_n 1, 1) := dLg_25.1
theorem dL_law_386 : decode cL_law 386 = .ok (.aload_n 0, 1) := dLg_25.2.1
theorem dL_law_387 : decode cL_law 387 = .ok (.iload 4, 2) := dLg_25.2.2.1
theorem dL_law_389 : decode cL_law 389 = .ok (.iconst 1, 1) := dLg_25.2.2.2.1
theorem dL_law_390 : decode cL_law 390 = .ok (.iadd, 1) := dLg_25.2.2.2.2.1
theorem dL_law_391 : decode cL_law 391 = .ok (.iaload, 1) := dLg_25.2.2.2.2.2
set_option maxRecDepth 100000 in
theorem dLg_26 : decode cL_law 392 = .ok (.aload_n 0, 1) ∧ decode cL_law 393 = .ok (.iload 4, 2) ∧ decode cL_law 395 = .ok (.iconst 2, 1) ∧ decode cL_law 396 = .ok (.iadd, 1) ∧ decode cL_law 397 = .ok (.iaload, 1) ∧ decode cL_law 398 = .ok (.aload_n 3, 1) := by decide +kernel
theorem dL_law_392 : decode cL_law 392 = .ok (.aload_n 0, 1) := dLg_26.1
theorem dL_law_393 : decode cL_law 393 = .ok (.iload 4, 2) := dLg_26.2.1
theorem dL_law_395 : decode cL_law 395 = .ok (.iconst 2, 1) := dLg_26.2.2.1
theorem dL_law_396 : decode cL_law 396 = .ok (.iadd, 1) := dLg_26.2.2.2.1
theorem dL_law_397 : decode cL_law 397 = .ok (.iaload, 1) := dLg_26.2.2.2.2.1
theorem dL_law_398 : decode cL_law 398 = .ok (.aload_n 3, 1) := dLg_26.2.2.2.2.2
set_option maxRecDepth 100000 in
theorem dLg_27 : decode cL_law 399 = .ok (.invokestatic 42, 3) ∧ decode cL_law 402 = .ok (.istore 5, 2) ∧ decode cL_law 404 = .ok (.aload_n 2, 1) ∧ decode cL_law 405 = .ok (.aload_n 0, 1) ∧ decode cL_law 406 = .ok (.iload 4, 2) ∧ decode cL_law 408 = .ok (.iconst 1, 1) := by decide +kernel
theorem dL_law_399 : decode cL_law 399 = .ok (.invokestatic 42, 3) := dLg_27.1
theorem dL_law_402 : decode cL_law 402 = .ok (.istore 5, 2) := dLg_27.2.1
theorem dL_law_404 : decode cL_law 404 = .ok (.aload_n 2, 1) := dLg_27.2.2.1
theorem dL_law_405 : decode cL_law 405 = .ok (.aload_n 0, 1) := dLg_27.2.2.2.1
theorem dL_law_406 : decode cL_law 406 = .ok (.iload 4, 2) := dLg_27.2.2.2.2.1
theorem dL_law_408 : decode cL_law 408 = .ok (.iconst 1, 1) := dLg_27.2.2.2.2.2
set_option maxRecDepth 100000 in
theorem dLg_28 : decode cL_law 409 = .ok (.iadd, 1) ∧ decode cL_law 410 = .ok (.iaload, 1) ∧ decode cL_law 411 = .ok (.aload_n 0, 1) ∧ decode cL_law 412 = .ok (.iload 4, 2) ∧ decode cL_law 414 = .ok (.iconst 2, 1) ∧ decode cL_law 415 = .ok (.iadd, 1) := by decide +kernel
theorem dL_law_409 : decode cL_law 409 = .ok (.iadd, 1) := dLg_28.1
theorem dL_law_410 : decode cL_law 410 = .ok (.iaload, 1) := dLg_28.2.1
theorem dL_law_411 : decode cL_law 411 = .ok (.aload_n 0, 1) := dLg_28.2.2.1
theorem dL_law_412 : decode cL_law 412 = .ok (.iload 4, 2) := dLg_28.2.2.2.1
theorem dL_law_414 : decode cL_law 414 = .ok (.iconst 2, 1) := dLg_28.2.2.2.2.1
theorem dL_law_415 : decode cL_law 415 = .ok (.iadd, 1) := dLg_28.2.2.2.2.2
set_option maxRecDepth 100000 in
theorem dLg_29 : decode cL_law 416 = .ok (.iaload, 1) ∧ decode cL_law 417 = .ok (.invokevirtual 47, 3) ∧ decode cL_law 420 = .ok (.istore 6, 2) ∧ decode cL_law 422 = .ok (.aload_n 2, 1) ∧ decode cL_law 423 = .ok (.invokevirtual 48, 3) ∧ decode cL_law 426 = .ok (.iload 5, 2) := by decide +kernel
theorem dL_law_416 : decode cL_law 416 = .ok (.iaload, 1) := dLg_29.1
theorem dL_law_417 : decode cL_law 417 = .ok (.invokevirtual 47, 3) := dLg_29.2.1
theorem dL_law_420 : decode cL_law 420 = .ok (.istore 6, 2) := dLg_29.2.2.1
theorem dL_law_422 : decode cL_law 422 = .ok (.aload_n 2, 1) := dLg_29.2.2.2.1
theorem dL_law_423 : decode cL_law 423 = .ok (.invokevirtual 48, 3) := dLg_29.2.2.2.2.1
theorem dL_law_426 : decode cL_law 426 = .ok (.iload 5, 2) := dLg_29.2.2.2.2.2
set_option maxRecDepth 100000 in
theorem dLg_30 : decode cL_law 428 = .ok (.if_icmp .eq 5, 3) ∧ decode cL_law 431 = .ok (.iconst 0, 1) ∧ decode cL_law 432 = .ok (.ireturn, 1) ∧ decode cL_law 433 = .ok (.iload 5, 2) ∧ decode cL_law 435 = .ok (.ifCond .ne 15, 3) ∧ decode cL_law 438 = .ok (.aload_n 3, 1) := by decide +kernel
theorem dL_law_428 : decode cL_law 428 = .ok (.if_icmp .eq 5, 3) := dLg_30.1
theorem dL_law_431 : decode cL_law 431 = .ok (.iconst 0, 1) := dLg_30.2.1
theorem dL_law_432 : decode cL_law 432 = .ok (.ireturn, 1) := dLg_30.2.2.1
theorem dL_law_433 : decode cL_law 433 = .ok (.iload 5, 2) := dLg_30.2.2.2.1
theorem dL_law_435 : decode cL_law 435 = .ok (.ifCond .ne 15, 3) := dLg_30.2.2.2.2.1
theorem dL_law_438 : decode cL_law 438 = .ok (.aload_n 3, 1) := dLg_30.2.2.2.2.2
set_option maxRecDepth 100000 in
theorem dLg_31 : decode cL_law 439 = .ok (.iconst 0, 1) ∧ decode cL_law 440 = .ok (.laload, 1) ∧ decode cL_law 441 = .ok (.iload 6, 2) ∧ decode cL_law 443 = .ok (.i2l, 1) ∧ decode cL_law 444 = .ok (.lcmp, 1) ∧ decode cL_law 445 = .ok (.ifCond .eq 5, 3) := by decide +kernel
theorem dL_law_439 : decode cL_law 439 = .ok (.iconst 0, 1) := dLg_31.1
theorem dL_law_440 : decode cL_law 440 = .ok (.laload, 1) := dLg_31.2.1
theorem dL_law_441 : decode cL_law 441 = .ok (.iload 6, 2) := dLg_31.2.2.1
theorem dL_law_443 : decode cL_law 443 = .ok (.i2l, 1) := dLg_31.2.2.2.1
theorem dL_law_444 : decode cL_law 444 = .ok (.lcmp, 1) := dLg_31.2.2.2.2.1
theorem dL_law_445 : decode cL_law 445 = .ok (.ifCond .eq 5, 3) := dLg_31.2.2.2.2.2
set_option maxRecDepth 100000 in
theorem dLg_32 : decode cL_law 448 = .ok (.iconst 0, 1) ∧ decode cL_law 449 = .ok (.ireturn, 1) ∧ decode cL_law 450 = .ok (.goto 1080, 3) ∧ decode cL_law 453 = .ok (.aload_n 1, 1) ∧ decode cL_law 454 = .ok (.aload_n 0, 1) ∧ decode cL_law 455 = .ok (.iload 4, 2) := by decide +kernel
theorem dL_law_448 : decode cL_law 448 = .ok (.iconst 0, 1) := dLg_32.1
theorem dL_law_449 : decode cL_law 449 = .ok (.ireturn, 1) := dLg_32.2.1
theorem dL_law_450 : decode cL_law 450 = .ok (.goto 1080, 3) := dLg_32.2.2.1
theorem dL_law_453 : decode cL_law 453 = .ok (.aload_n 1, 1) := dLg_32.2.2.2.1
theorem dL_law_454 : decode cL_law 454 = .ok (.aload_n 0, 1) := dLg_32.2.2.2.2.1
theorem dL_law_455 : decode cL_law 455 = .ok (.iload 4, 2) := dLg_32.2.2.2.2.2
set_option maxRecDepth 100000 in
theorem dLg_33 : decode cL_law 457 = .ok (.iconst 1, 1) ∧ decode cL_law 458 = .ok (.iadd, 1) ∧ decode cL_law 459 = .ok (.iaload, 1) ∧ decode cL_law 460 = .ok (.aload_n 0, 1) ∧ decode cL_law 461 = .ok (.iload 4, 2) ∧ decode cL_law 463 = .ok (.iconst 2, 1) := by decide +kernel
theorem dL_law_457 : decode cL_law 457 = .ok (.iconst 1, 1) := dLg_33.1
theorem dL_law_458 : decode cL_law 458 = .ok (.iadd, 1) := dLg_33.2.1
theorem dL_law_459 : decode cL_law 459 = .ok (.iaload, 1) := dLg_33.2.2.1
theorem dL_law_460 : decode cL_law 460 = .ok (.aload_n 0, 1) := dLg_33.2.2.2.1
theorem dL_law_461 : decode cL_law 461 = .ok (.iload 4, 2) := dLg_33.2.2.2.2.1
theorem dL_law_463 : decode cL_law 463 = .ok (.iconst 2, 1) := dLg_33.2.2.2.2.2
set_option maxRecDepth 100000 in
theorem dLg_34 : decode cL_law 464 = .ok (.iadd, 1) ∧ decode cL_law 465 = .ok (.iaload, 1) ∧ decode cL_law 466 = .ok (.invokevirtual 52, 3) ∧ decode cL_law 469 = .ok (.pop, 1) ∧ decode cL_law 470 = .ok (.aload_n 2, 1) ∧ decode cL_law 471 = .ok (.aload_n 0, 1) := by decide +kernel
theorem dL_law_464 : decode cL_law 464 = .ok (.iadd, 1) := dLg_34.1
theorem dL_law_465 : decode cL_law 465 = .ok (.iaload, 1) := dLg_34.2.1
theorem dL_law_466 : decode cL_law 466 = .ok (.invokevirtual 52, 3) := dLg_34.2.2.1
theorem dL_law_469 : decode cL_law 469 = .ok (.pop, 1) := dLg_34.2.2.2.1
theorem dL_law_470 : decode cL_law 470 = .ok (.aload_n 2, 1) := dLg_34.2.2.2.2.1
theorem dL_law_471 : decode cL_law 471 = .ok (.aload_n 0, 1) := dLg_34.2.2.2.2.2
set_option maxRecDepth 100000 in
theorem dLg_35 : decode cL_law 472 = .ok (.iload 4, 2) ∧ decode cL_law 474 = .ok (.iconst 1, 1) ∧ decode cL_law 475 = .ok (.iadd, 1) ∧ decode cL_law 476 = .ok (.iaload, 1) ∧ decode cL_law 477 = .ok (.aload_n 0, 1) ∧ decode cL_law 478 = .ok (.iload 4, 2) := by decide +kernel
theorem dL_law_472 : decode cL_law 472 = .ok (.iload 4, 2) := dLg_35.1
theorem dL_law_474 : decode cL_law 474 = .ok (.iconst 1, 1) := dLg_35.2.1
theorem dL_law_475 : decode cL_law 475 = .ok (.iadd, 1) := dLg_35.2.2.1
theorem dL_law_476 : decode cL_law 476 = .ok (.iaload, 1) := dLg_35.2.2.2.1
theorem dL_law_477 : decode cL_law 477 = .ok (.aload_n 0, 1) := dLg_35.2.2.2.2.1
theorem dL_law_478 : decode cL_law 478 = .ok (.iload 4, 2) := dLg_35.2.2.2.2.2
set_option maxRecDepth 100000 in
theorem dLg_36 : decode cL_law 480 = .ok (.iconst 2, 1) ∧ decode cL_law 481 = .ok (.iadd, 1) ∧ decode cL_law 482 = .ok (.iaload, 1) ∧ decode cL_law 483 = .ok (.invokevirtual 55, 3) ∧ decode cL_law 486 = .ok (.pop, 1) ∧ decode cL_law 487 = .ok (.goto 1043, 3) := by decide +kernel
theorem dL_law_480 : decode cL_law 480 = .ok (.iconst 2, 1) := dLg_36.1
theorem dL_law_481 : decode cL_law 481 = .ok (.iadd, 1) := dLg_36.2.1
theorem dL_law_482 : decode cL_law 482 = .ok (.iaload, 1) := dLg_36.2.2.1
theorem dL_law_483 : decode cL_law 483 = .ok (.invokevirtual 55, 3) := dLg_36.2.2.2.1
theorem dL_law_486 : decode cL_law 486 = .ok (.pop, 1) := dLg_36.2.2.2.2.1
theorem dL_law_487 : decode cL_law 487 = .ok (.goto 1043, 3) := dLg_36.2.2.2.2.2
set_option maxRecDepth 100000 in
theorem dLg_37 : decode cL_law 490 = .ok (.aload_n 1, 1) ∧ decode cL_law 491 = .ok (.aload_n 0, 1) ∧ decode cL_law 492 = .ok (.iload 4, 2) ∧ decode cL_law 494 = .ok (.iconst 1, 1) ∧ decode cL_law 495 = .ok (.iadd, 1) ∧ decode cL_law 496 = .ok (.iaload, 1) := by decide +kernel
theorem dL_law_490 : decode cL_law 490 = .ok (.aload_n 1, 1) := dLg_37.1
theorem dL_law_491 : decode cL_law 491 = .ok (.aload_n 0, 1) := dLg_37.2.1
theorem dL_law_492 : decode cL_law 492 = .ok (.iload 4, 2) := dLg_37.2.2.1
theorem dL_law_494 : decode cL_law 494 = .ok (.iconst 1, 1) := dLg_37.2.2.2.1
theorem dL_law_495 : decode cL_law 495 = .ok (.iadd, 1) := dLg_37.2.2.2.2.1
theorem dL_law_496 : decode cL_law 496 = .ok (.iaload, 1) := dLg_37.2.2.2.2.2
set_option maxRecDepth 100000 in
theorem dLg_38 : decode cL_law 497 = .ok (.aload_n 0, 1) ∧ decode cL_law 498 = .ok (.iload 4, 2) ∧ decode cL_law 500 = .ok (.iconst 2, 1) ∧ decode cL_law 501 = .ok (.iadd, 1) ∧ decode cL_law 502 = .ok (.iaload, 1) ∧ decode cL_law 503 = .ok (.invokevirtual 56, 3) := by decide +kernel
theorem dL_law_497 : decode cL_law 497 = .ok (.aload_n 0, 1) := dLg_38.1
theorem dL_law_498 : decode cL_law 498 = .ok (.iload 4, 2) := dLg_38.2.1
theorem dL_law_500 : decode cL_law 500 = .ok (.iconst 2, 1) := dLg_38.2.2.1
theorem dL_law_501 : decode cL_law 501 = .ok (.iadd, 1) := dLg_38.2.2.2.1
theorem dL_law_502 : decode cL_law 502 = .ok (.iaload, 1) := dLg_38.2.2.2.2.1
theorem dL_law_503 : decode cL_law 503 = .ok (.invokevirtual 56, 3) := dLg_38.2.2.2.2.2
set_option maxRecDepth 100000 in
theorem dLg_39 : decode cL_law 506 = .ok (.pop, 1) ∧ decode cL_law 507 = .ok (.aload_n 2, 1) ∧ decode cL_law 508 = .ok (.aload_n 0, 1) ∧ decode cL_law 509 = .ok (.iload 4, 2) ∧ decode cL_law 511 = .ok (.iconst 1, 1) ∧ decode cL_law 512 = .ok (.iadd, 1) := by decide +kernel
theorem dL_law_506 : decode cL_law 506 = .ok (.pop, 1) := dLg_39.1
theorem dL_law_507 : decode cL_law 507 = .ok (.aload_n 2, 1) := dLg_39.2.1
theorem dL_law_508 : decode cL_law 508 = .ok (.aload_n 0, 1) := dLg_39.2.2.1
theorem dL_law_509 : decode cL_law 509 = .ok (.iload 4, 2) := dLg_39.2.2.2.1
theorem dL_law_511 : decode cL_law 511 = .ok (.iconst 1, 1) := dLg_39.2.2.2.2.1
theorem dL_law_512 : decode cL_law 512 = .ok (.iadd, 1) := dLg_39.2.2.2.2.2
set_option maxRecDepth 100000 in
theorem dLg_40 : decode cL_law 513 = .ok (.iaload, 1) ∧ decode cL_law 514 = .ok (.aload_n 0, 1) ∧ decode cL_law 515 = .ok (.iload 4, 2) ∧ decode cL_law 517 = .ok (.iconst 2, 1) ∧ decode cL_law 518 = .ok (.iadd, 1) ∧ decode cL_law 519 = .ok (.iaload, 1) := by decide +kernel
theorem dL_law_513 : decode cL_law 513 = .ok (.iaload, 1) := dLg_40.1
theorem dL_law_514 : decode cL_law 514 = .ok (.aload_n 0, 1) := dLg_40.2.1
theorem dL_law_515 : decode cL_law 515 = .ok (.iload 4, 2) := dLg_40.2.2.1
theorem dL_law_517 : decode cL_law 517 = .ok (.iconst 2, 1) := dLg_40.2.2.2.1
theorem dL_law_518 : decode cL_law 518 = .ok (.iadd, 1) := dLg_40.2.2.2.2.1
theorem dL_law_519 : decode cL_law 519 = .ok (.iaload, 1) := dLg_40.2.2.2.2.2
set_option maxRecDepth 100000 in
theorem dLg_41 : decode cL_law 520 = .ok (.invokevirtual 59, 3) ∧ decode cL_law 523 = .ok (.pop, 1) ∧ decode cL_law 524 = .ok (.goto 1006, 3) ∧ decode cL_law 527 = .ok (.aload_n 1, 1) ∧ decode cL_law 528 = .ok (.aload_n 0, 1) ∧ decode cL_law 529 = .ok (.iload 4, 2) := by decide +kernel
theorem dL_law_520 : decode cL_law 520 = .ok (.invokevirtual 59, 3) := dLg_41.1
theorem dL_law_523 : decode cL_law 523 = .ok (.pop, 1) := dLg_41.2.1
theorem dL_law_524 : decode cL_law 524 = .ok (.goto 1006, 3) := dLg_41.2.2.1
theorem dL_law_527 : decode cL_law 527 = .ok (.aload_n 1, 1) := dLg_41.2.2.2.1
theorem dL_law_528 : decode cL_law 528 = .ok (.aload_n 0, 1) := dLg_41.2.2.2.2.1
theorem dL_law_529 : decode cL_law 529 = .ok (.iload 4, 2) := dLg_41.2.2.2.2.2
set_option maxRecDepth 100000 in
theorem dLg_42 : decode cL_law 531 = .ok (.iconst 1, 1) ∧ decode cL_law 532 = .ok (.iadd, 1) ∧ decode cL_law 533 = .ok (.iaload, 1) ∧ decode cL_law 534 = .ok (.invokevirtual 60, 3) ∧ decode cL_law 537 = .ok (.pop, 1) ∧ decode cL_law 538 = .ok (.aload_n 2, 1) := by decide +kernel
theorem dL_law_531 : decode cL_law 531 = .ok (.iconst 1, 1) := dLg_42.1
theorem dL_law_532 : decode cL_law 532 = .ok (.iadd, 1) := dLg_42.2.1
theorem dL_law_533 : decode cL_law 533 = .ok (.iaload, 1) := dLg_42.2.2.1
theorem dL_law_534 : decode cL_law 534 = .ok (.invokevirtual 60, 3) := dLg_42.2.2.2.1
theorem dL_law_537 : decode cL_law 537 = .ok (.pop, 1) := dLg_42.2.2.2.2.1
theorem dL_law_538 : decode cL_law 538 = .ok (.aload_n 2, 1) := dLg_42.2.2.2.2.2
set_option maxRecDepth 100000 in
theorem dLg_43 : decode cL_law 539 = .ok (.aload_n 0, 1) ∧ decode cL_law 540 = .ok (.iload 4, 2) ∧ decode cL_law 542 = .ok (.iconst 1, 1) ∧ decode cL_law 543 = .ok (.iadd, 1) ∧ decode cL_law 544 = .ok (.iaload, 1) ∧ decode cL_law 545 = .ok (.invokevirtual 63, 3) := by decide +kernel
theorem dL_law_539 : decode cL_law 539 = .ok (.aload_n 0, 1) := dLg_43.1
theorem dL_law_540 : decode cL_law 540 = .ok (.iload 4, 2) := dLg_43.2.1
theorem dL_law_542 : decode cL_law 542 = .ok (.iconst 1, 1) := dLg_43.2.2.1
theorem dL_law_543 : decode cL_law 543 = .ok (.iadd, 1) := dLg_43.2.2.2.1
theorem dL_law_544 : decode cL_law 544 = .ok (.iaload, 1) := dLg_43.2.2.2.2.1
theorem dL_law_545 : decode cL_law 545 = .ok (.invokevirtual 63, 3) := dLg_43.2.2.2.2.2
set_option maxRecDepth 100000 in
theorem dLg_44 : decode cL_law 548 = .ok (.pop, 1) ∧ decode cL_law 549 = .ok (.goto 981, 3) ∧ decode cL_law 552 = .ok (.aload_n 1, 1) ∧ decode cL_law 553 = .ok (.aload_n 0, 1) ∧ decode cL_law 554 = .ok (.iload 4, 2) ∧ decode cL_law 556 = .ok (.iconst 1, 1) := by decide +kernel
theorem dL_law_548 : decode cL_law 548 = .ok (.pop, 1) := dLg_44.1
theorem dL_law_549 : decode cL_law 549 = .ok (.goto 981, 3) := dLg_44.2.1
theorem dL_law_552 : decode cL_law 552 = .ok (.aload_n 1, 1) := dLg_44.2.2.1
theorem dL_law_553 : decode cL_law 553 = .ok (.aload_n 0, 1) := dLg_44.2.2.2.1
theorem dL_law_554 : decode cL_law 554 = .ok (.iload 4, 2) := dLg_44.2.2.2.2.1
theorem dL_law_556 : decode cL_law 556 = .ok (.iconst 1, 1) := dLg_44.2.2.2.2.2
set_option maxRecDepth 100000 in
theorem dLg_45 : decode cL_law 557 = .ok (.iadd, 1) ∧ decode cL_law 558 = .ok (.iaload, 1) ∧ decode cL_law 559 = .ok (.aload_n 0, 1) ∧ decode cL_law 560 = .ok (.iload 4, 2) ∧ decode cL_law 562 = .ok (.iconst 2, 1) ∧ decode cL_law 563 = .ok (.iadd, 1) := by decide +kernel
theorem dL_law_557 : decode cL_law 557 = .ok (.iadd, 1) := dLg_45.1
theorem dL_law_558 : decode cL_law 558 = .ok (.iaload, 1) := dLg_45.2.1
theorem dL_law_559 : decode cL_law 559 = .ok (.aload_n 0, 1) := dLg_45.2.2.1
theorem dL_law_560 : decode cL_law 560 = .ok (.iload 4, 2) := dLg_45.2.2.2.1
theorem dL_law_562 : decode cL_law 562 = .ok (.iconst 2, 1) := dLg_45.2.2.2.2.1
theorem dL_law_563 : decode cL_law 563 = .ok (.iadd, 1) := dLg_45.2.2.2.2.2
set_option maxRecDepth 100000 in
theorem dLg_46 : decode cL_law 564 = .ok (.iaload, 1) ∧ decode cL_law 565 = .ok (.invokevirtual 64, 3) ∧ decode cL_law 568 = .ok (.pop, 1) ∧ decode cL_law 569 = .ok (.aload_n 2, 1) ∧ decode cL_law 570 = .ok (.aload_n 0, 1) ∧ decode cL_law 571 = .ok (.iload 4, 2) := by decide +kernel
theorem dL_law_564 : decode cL_law 564 = .ok (.iaload, 1) := dLg_46.1
theorem dL_law_565 : decode cL_law 565 = .ok (.invokevirtual 64, 3) := dLg_46.2.1
theorem dL_law_568 : decode cL_law 568 = .ok (.pop, 1) := dLg_46.2.2.1
theorem dL_law_569 : decode cL_law 569 = .ok (.aload_n 2, 1) := dLg_46.2.2.2.1
theorem dL_law_570 : decode cL_law 570 = .ok (.aload_n 0, 1) := dLg_46.2.2.2.2.1
theorem dL_law_571 : decode cL_law 571 = .ok (.iload 4, 2) := dLg_46.2.2.2.2.2
set_option maxRecDepth 100000 in
theorem dLg_47 : decode cL_law 573 = .ok (.iconst 1, 1) ∧ decode cL_law 574 = .ok (.iadd, 1) ∧ decode cL_law 575 = .ok (.iaload, 1) ∧ decode cL_law 576 = .ok (.aload_n 0, 1) ∧ decode cL_law 577 = .ok (.iload 4, 2) ∧ decode cL_law 579 = .ok (.iconst 2, 1) := by decide +kernel
theorem dL_law_573 : decode cL_law 573 = .ok (.iconst 1, 1) := dLg_47.1
theorem dL_law_574 : decode cL_law 574 = .ok (.iadd, 1) := dLg_47.2.1
theorem dL_law_575 : decode cL_law 575 = .ok (.iaload, 1) := dLg_47.2.2.1
theorem dL_law_576 : decode cL_law 576 = .ok (.aload_n 0, 1) := dLg_47.2.2.2.1
theorem dL_law_577 : decode cL_law 577 = .ok (.iload 4, 2) := dLg_47.2.2.2.2.1
theorem dL_law_579 : decode cL_law 579 = .ok (.iconst 2, 1) := dLg_47.2.2.2.2.2
set_option maxRecDepth 100000 in
theorem dLg_48 : decode cL_law 580 = .ok (.iadd, 1) ∧ decode cL_law 581 = .ok (.iaload, 1) ∧ decode cL_law 582 = .ok (.invokevirtual 67, 3) ∧ decode cL_law 585 = .ok (.pop, 1) ∧ decode cL_law 586 = .ok (.goto 944, 3) ∧ decode cL_law 589 = .ok (.aload_n 1, 1) := by decide +kernel
theorem dL_law_580 : decode cL_law 580 = .ok (.iadd, 1) := dLg_48.1
theorem dL_law_581 : decode cL_law 581 = .ok (.iaload, 1) := dLg_48.2.1
theorem dL_law_582 : decode cL_law 582 = .ok (.invokevirtual 67, 3) := dLg_48.2.2.1
theorem dL_law_585 : decode cL_law 585 = .ok (.pop, 1) := dLg_48.2.2.2.1
theorem dL_law_586 : decode cL_law 586 = .ok (.goto 944, 3) := dLg_48.2.2.2.2.1
theorem dL_law_589 : decode cL_law 589 = .ok (.aload_n 1, 1) := dLg_48.2.2.2.2.2
set_option maxRecDepth 100000 in
theorem dLg_49 : decode cL_law 590 = .ok (.aload_n 0, 1) ∧ decode cL_law 591 = .ok (.iload 4, 2) ∧ decode cL_law 593 = .ok (.iconst 1, 1) ∧ decode cL_law 594 = .ok (.iadd, 1) ∧ decode cL_law 595 = .ok (.iaload, 1) ∧ decode cL_law 596 = .ok (.invokevirtual 68, 3) := by decide +kernel
theorem dL_law_590 : decode cL_law 590 = .ok (.aload_n 0, 1) := dLg_49.1
theorem dL_law_591 : decode cL_law 591 = .ok (.iload 4, 2) := dLg_49.2.1
theorem dL_law_593 : decode cL_law 593 = .ok (.iconst 1, 1) := dLg_49.2.2.1
theorem dL_law_594 : decode cL_law 594 = .ok (.iadd, 1) := dLg_49.2.2.2.1
theorem dL_law_595 : decode cL_law 595 = .ok (.iaload, 1) := dLg_49.2.2.2.2.1
theorem dL_law_596 : decode cL_law 596 = .ok (.invokevirtual 68, 3) := dLg_49.2.2.2.2.2
set_option maxRecDepth 100000 in
theorem dLg_50 : decode cL_law 599 = .ok (.pop, 1) ∧ decode cL_law 600 = .ok (.aload_n 2, 1) ∧ decode cL_law 601 = .ok (.aload_n 0, 1) ∧ decode cL_law 602 = .ok (.iload 4, 2) ∧ decode cL_law 604 = .ok (.iconst 1, 1) ∧ decode cL_law 605 = .ok (.iadd, 1) := by decide +kernel
theorem dL_law_599 : decode cL_law 599 = .ok (.pop, 1) := dLg_50.1
theorem dL_law_600 : decode cL_law 600 = .ok (.aload_n 2, 1) := dLg_50.2.1
theorem dL_law_601 : decode cL_law 601 = .ok (.aload_n 0, 1) := dLg_50.2.2.1
theorem dL_law_602 : decode cL_law 602 = .ok (.iload 4, 2) := dLg_50.2.2.2.1
theorem dL_law_604 : decode cL_law 604 = .ok (.iconst 1, 1) := dLg_50.2.2.2.2.1
theorem dL_law_605 : decode cL_law 605 = .ok (.iadd, 1) := dLg_50.2.2.2.2.2
set_option maxRecDepth 100000 in
theorem dLg_51 : decode cL_law 606 = .ok (.iaload, 1) ∧ decode cL_law 607 = .ok (.invokevirtual 71, 3) ∧ decode cL_law 610 = .ok (.pop, 1) ∧ decode cL_law 611 = .ok (.goto 919, 3) ∧ decode cL_law 614 = .ok (.aload_n 1, 1) ∧ decode cL_law 615 = .ok (.aload_n 0, 1) := by decide +kernel
theorem dL_law_606 : decode cL_law 606 = .ok (.iaload, 1) := dLg_51.1
theorem dL_law_607 : decode cL_law 607 = .ok (.invokevirtual 71, 3) := dLg_51.2.1
theorem dL_law_610 : decode cL_law 610 = .ok (.pop, 1) := dLg_51.2.2.1
theorem dL_law_611 : decode cL_law 611 = .ok (.goto 919, 3) := dLg_51.2.2.2.1
theorem dL_law_614 : decode cL_law 614 = .ok (.aload_n 1, 1) := dLg_51.2.2.2.2.1
theorem dL_law_615 : decode cL_law 615 = .ok (.aload_n 0, 1) := dLg_51.2.2.2.2.2
set_option maxRecDepth 100000 in
theorem dLg_52 : decode cL_law 616 = .ok (.iload 4, 2) ∧ decode cL_law 618 = .ok (.iconst 1, 1) ∧ decode cL_law 619 = .ok (.iadd, 1) ∧ decode cL_law 620 = .ok (.iaload, 1) ∧ decode cL_law 621 = .ok (.aload_n 0, 1) ∧ decode cL_law 622 = .ok (.iload 4, 2) := by decide +kernel
theorem dL_law_616 : decode cL_law 616 = .ok (.iload 4, 2) := dLg_52.1
theorem dL_law_618 : decode cL_law 618 = .ok (.iconst 1, 1) := dLg_52.2.1
theorem dL_law_619 : decode cL_law 619 = .ok (.iadd, 1) := dLg_52.2.2.1
theorem dL_law_620 : decode cL_law 620 = .ok (.iaload, 1) := dLg_52.2.2.2.1
theorem dL_law_621 : decode cL_law 621 = .ok (.aload_n 0, 1) := dLg_52.2.2.2.2.1
theorem dL_law_622 : decode cL_law 622 = .ok (.iload 4, 2) := dLg_52.2.2.2.2.2
set_option maxRecDepth 100000 in
theorem dLg_53 : decode cL_law 624 = .ok (.iconst 2, 1) ∧ decode cL_law 625 = .ok (.iadd, 1) ∧ decode cL_law 626 = .ok (.iaload, 1) ∧ decode cL_law 627 = .ok (.invokevirtual 72, 3) ∧ decode cL_law 630 = .ok (.pop, 1) ∧ decode cL_law 631 = .ok (.aload_n 2, 1) := by decide +kernel
theorem dL_law_624 : decode cL_law 624 = .ok (.iconst 2, 1) := dLg_53.1
theorem dL_law_625 : decode cL_law 625 = .ok (.iadd, 1) := dLg_53.2.1
theorem dL_law_626 : decode cL_law 626 = .ok (.iaload, 1) := dLg_53.2.2.1
theorem dL_law_627 : decode cL_law 627 = .ok (.invokevirtual 72, 3) := dLg_53.2.2.2.1
theorem dL_law_630 : decode cL_law 630 = .ok (.pop, 1) := dLg_53.2.2.2.2.1
theorem dL_law_631 : decode cL_law 631 = .ok (.aload_n 2, 1) := dLg_53.2.2.2.2.2
set_option maxRecDepth 100000 in
theorem dLg_54 : decode cL_law 632 = .ok (.aload_n 0, 1) ∧ decode cL_law 633 = .ok (.iload 4, 2) ∧ decode cL_law 635 = .ok (.iconst 1, 1) ∧ decode cL_law 636 = .ok (.iadd, 1) ∧ decode cL_law 637 = .ok (.iaload, 1) ∧ decode cL_law 638 = .ok (.aload_n 0, 1) := by decide +kernel
theorem dL_law_632 : decode cL_law 632 = .ok (.aload_n 0, 1) := dLg_54.1
theorem dL_law_633 : decode cL_law 633 = .ok (.iload 4, 2) := dLg_54.2.1
theorem dL_law_635 : decode cL_law 635 = .ok (.iconst 1, 1) := dLg_54.2.2.1
theorem dL_law_636 : decode cL_law 636 = .ok (.iadd, 1) := dLg_54.2.2.2.1
theorem dL_law_637 : decode cL_law 637 = .ok (.iaload, 1) := dLg_54.2.2.2.2.1
theorem dL_law_638 : decode cL_law 638 = .ok (.aload_n 0, 1) := dLg_54.2.2.2.2.2
set_option maxRecDepth 100000 in
theorem dLg_55 : decode cL_law 639 = .ok (.iload 4, 2) ∧ decode cL_law 641 = .ok (.iconst 2, 1) ∧ decode cL_law 642 = .ok (.iadd, 1) ∧ decode cL_law 643 = .ok (.iaload, 1) ∧ decode cL_law 644 = .ok (.invokevirtual 75, 3) ∧ decode cL_law 647 = .ok (.pop, 1) := by decide +kernel
theorem dL_law_639 : decode cL_law 639 = .ok (.iload 4, 2) := dLg_55.1
theorem dL_law_641 : decode cL_law 641 = .ok (.iconst 2, 1) := dLg_55.2.1
theorem dL_law_642 : decode cL_law 642 = .ok (.iadd, 1) := dLg_55.2.2.1
theorem dL_law_643 : decode cL_law 643 = .ok (.iaload, 1) := dLg_55.2.2.2.1
theorem dL_law_644 : decode cL_law 644 = .ok (.invokevirtual 75, 3) := dLg_55.2.2.2.2.1
theorem dL_law_647 : decode cL_law 647 = .ok (.pop, 1) := dLg_55.2.2.2.2.2
set_option maxRecDepth 100000 in
theorem dLg_56 : decode cL_law 648 = .ok (.goto 882, 3) ∧ decode cL_law 651 = .ok (.aload_n 1, 1) ∧ decode cL_law 652 = .ok (.invokevirtual 76, 3) ∧ decode cL_law 655 = .ok (.pop, 1) ∧ decode cL_law 656 = .ok (.aload_n 2, 1) ∧ decode cL_law 657 = .ok (.invokevirtual 79, 3) := by decide +kernel
theorem dL_law_648 : decode cL_law 648 = .ok (.goto 882, 3) := dLg_56.1
theorem dL_law_651 : decode cL_law 651 = .ok (.aload_n 1, 1) := dLg_56.2.1
theorem dL_law_652 : decode cL_law 652 = .ok (.invokevirtual 76, 3) := dLg_56.2.2.1
theorem dL_law_655 : decode cL_law 655 = .ok (.pop, 1) := dLg_56.2.2.2.1
theorem dL_law_656 : decode cL_law 656 = .ok (.aload_n 2, 1) := dLg_56.2.2.2.2.1
theorem dL_law_657 : decode cL_law 657 = .ok (.invokevirtual 79, 3) := dLg_56.2.2.2.2.2
set_option maxRecDepth 100000 in
theorem dLg_57 : decode cL_law 660 = .ok (.pop, 1) ∧ decode cL_law 661 = .ok (.goto 869, 3) ∧ decode cL_law 664 = .ok (.aload_n 1, 1) ∧ decode cL_law 665 = .ok (.aload_n 0, 1) ∧ decode cL_law 666 = .ok (.iload 4, 2) ∧ decode cL_law 668 = .ok (.iconst 1, 1) := by decide +kernel
theorem dL_law_660 : decode cL_law 660 = .ok (.pop, 1) := dLg_57.1
theorem dL_law_661 : decode cL_law 661 = .ok (.goto 869, 3) := dLg_57.2.1
theorem dL_law_664 : decode cL_law 664 = .ok (.aload_n 1, 1) := dLg_57.2.2.1
theorem dL_law_665 : decode cL_law 665 = .ok (.aload_n 0, 1) := dLg_57.2.2.2.1
theorem dL_law_666 : decode cL_law 666 = .ok (.iload 4, 2) := dLg_57.2.2.2.2.1
theorem dL_law_668 : decode cL_law 668 = .ok (.iconst 1, 1) := dLg_57.2.2.2.2.2
set_option maxRecDepth 100000 in
theorem dLg_58 : decode cL_law 669 = .ok (.iadd, 1) ∧ decode cL_law 670 = .ok (.iaload, 1) ∧ decode cL_law 671 = .ok (.invokevirtual 80, 3) ∧ decode cL_law 674 = .ok (.pop, 1) ∧ decode cL_law 675 = .ok (.aload_n 2, 1) ∧ decode cL_law 676 = .ok (.aload_n 0, 1) := by decide +kernel
theorem dL_law_669 : decode cL_law 669 = .ok (.iadd, 1) := dLg_58.1
theorem dL_law_670 : decode cL_law 670 = .ok (.iaload, 1) := dLg_58.2.1
theorem dL_law_671 : decode cL_law 671 = .ok (.invokevirtual 80, 3) := dLg_58.2.2.1
theorem dL_law_674 : decode cL_law 674 = .ok (.pop, 1) := dLg_58.2.2.2.1
theorem dL_law_675 : decode cL_law 675 = .ok (.aload_n 2, 1) := dLg_58.2.2.2.2.1
theorem dL_law_676 : decode cL_law 676 = .ok (.aload_n 0, 1) := dLg_58.2.2.2.2.2
set_option maxRecDepth 100000 in
theorem dLg_59 : decode cL_law 677 = .ok (.iload 4, 2) ∧ decode cL_law 679 = .ok (.iconst 1, 1) ∧ decode cL_law 680 = .ok (.iadd, 1) ∧ decode cL_law 681 = .ok (.iaload, 1) ∧ decode cL_law 682 = .ok (.invokevirtual 83, 3) ∧ decode cL_law 685 = .ok (.pop, 1) := by decide +kernel
theorem dL_law_677 : decode cL_law 677 = .ok (.iload 4, 2) := dLg_59.1
theorem dL_law_679 : decode cL_law 679 = .ok (.iconst 1, 1) := dLg_59.2.1
theorem dL_law_680 : decode cL_law 680 = .ok (.iadd, 1) := dLg_59.2.2.1
theorem dL_law_681 : decode cL_law 681 = .ok (.iaload, 1) := dLg_59.2.2.2.1
theorem dL_law_682 : decode cL_law 682 = .ok (.invokevirtual 83, 3) := dLg_59.2.2.2.2.1
theorem dL_law_685 : decode cL_law 685 = .ok (.pop, 1) := dLg_59.2.2.2.2.2
set_option maxRecDepth 100000 in
theorem dLg_60 : decode cL_law 686 = .ok (.goto 844, 3) ∧ decode cL_law 689 = .ok (.aload_n 1, 1) ∧ decode cL_law 690 = .ok (.aload_n 0, 1) ∧ decode cL_law 691 = .ok (.iload 4, 2) ∧ decode cL_law 693 = .ok (.iconst 1, 1) ∧ decode cL_law 694 = .ok (.iadd, 1) := by decide +kernel
theorem dL_law_686 : decode cL_law 686 = .ok (.goto 844, 3) := dLg_60.1
theorem dL_law_689 : decode cL_law 689 = .ok (.aload_n 1, 1) := dLg_60.2.1
theorem dL_law_690 : decode cL_law 690 = .ok (.aload_n 0, 1) := dLg_60.2.2.1
theorem dL_law_691 : decode cL_law 691 = .ok (.iload 4, 2) := dLg_60.2.2.2.1
theorem dL_law_693 : decode cL_law 693 = .ok (.iconst 1, 1) := dLg_60.2.2.2.2.1
theorem dL_law_694 : decode cL_law 694 = .ok (.iadd, 1) := dLg_60.2.2.2.2.2
set_option maxRecDepth 100000 in
theorem dLg_61 : decode cL_law 695 = .ok (.iaload, 1) ∧ decode cL_law 696 = .ok (.invokevirtual 84, 3) ∧ decode cL_law 699 = .ok (.pop, 1) ∧ decode cL_law 700 = .ok (.aload_n 2, 1) ∧ decode cL_law 701 = .ok (.aload_n 0, 1) ∧ decode cL_law 702 = .ok (.iload 4, 2) := by decide +kernel
theorem dL_law_695 : decode cL_law 695 = .ok (.iaload, 1) := dLg_61.1
theorem dL_law_696 : decode cL_law 696 = .ok (.invokevirtual 84, 3) := dLg_61.2.1
theorem dL_law_699 : decode cL_law 699 = .ok (.pop, 1) := dLg_61.2.2.1
theorem dL_law_700 : decode cL_law 700 = .ok (.aload_n 2, 1) := dLg_61.2.2.2.1
theorem dL_law_701 : decode cL_law 701 = .ok (.aload_n 0, 1) := dLg_61.2.2.2.2.1
theorem dL_law_702 : decode cL_law 702 = .ok (.iload 4, 2) := dLg_61.2.2.2.2.2
set_option maxRecDepth 100000 in
theorem dLg_62 : decode cL_law 704 = .ok (.iconst 1, 1) ∧ decode cL_law 705 = .ok (.iadd, 1) ∧ decode cL_law 706 = .ok (.iaload, 1) ∧ decode cL_law 707 = .ok (.invokevirtual 87, 3) ∧ decode cL_law 710 = .ok (.pop, 1) ∧ decode cL_law 711 = .ok (.goto 819, 3) := by decide +kernel
theorem dL_law_704 : decode cL_law 704 = .ok (.iconst 1, 1) := dLg_62.1
theorem dL_law_705 : decode cL_law 705 = .ok (.iadd, 1) := dLg_62.2.1
theorem dL_law_706 : decode cL_law 706 = .ok (.iaload, 1) := dLg_62.2.2.1
theorem dL_law_707 : decode cL_law 707 = .ok (.invokevirtual 87, 3) := dLg_62.2.2.2.1
theorem dL_law_710 : decode cL_law 710 = .ok (.pop, 1) := dLg_62.2.2.2.2.1
theorem dL_law_711 : decode cL_law 711 = .ok (.goto 819, 3) := dLg_62.2.2.2.2.2
set_option maxRecDepth 100000 in
theorem dLg_63 : decode cL_law 714 = .ok (.aload_n 1, 1) ∧ decode cL_law 715 = .ok (.aload_n 0, 1) ∧ decode cL_law 716 = .ok (.iload 4, 2) ∧ decode cL_law 718 = .ok (.iconst 1, 1) ∧ decode cL_law 719 = .ok (.iadd, 1) ∧ decode cL_law 720 = .ok (.iaload, 1) := by decide +kernel
theorem dL_law_714 : decode cL_law 714 = .ok (.aload_n 1, 1) := dLg_63.1
theorem dL_law_715 : decode cL_law 715 = .ok (.aload_n 0, 1) := dLg_63.2.1
theorem dL_law_716 : decode cL_law 716 = .ok (.iload 4, 2) := dLg_63.2.2.1
theorem dL_law_718 : decode cL_law 718 = .ok (.iconst 1, 1) := dLg_63.2.2.2.1
theorem dL_law_719 : decode cL_law 719 = .ok (.iadd, 1) := dLg_63.2.2.2.2.1
theorem dL_law_720 : decode cL_law 720 = .ok (.iaload, 1) := dLg_63.2.2.2.2.2
set_option maxRecDepth 100000 in
theorem dLg_64 : decode cL_law 721 = .ok (.invokevirtual 88, 3) ∧ decode cL_law 724 = .ok (.pop, 1) ∧ decode cL_law 725 = .ok (.aload_n 2, 1) ∧ decode cL_law 726 = .ok (.aload_n 0, 1) ∧ decode cL_law 727 = .ok (.iload 4, 2) ∧ decode cL_law 729 = .ok (.iconst 1, 1) := by decide +kernel
theorem dL_law_721 : decode cL_law 721 = .ok (.invokevirtual 88, 3) := dLg_64.1
theorem dL_law_724 : decode cL_law 724 = .ok (.pop, 1) := dLg_64.2.1
theorem dL_law_725 : decode cL_law 725 = .ok (.aload_n 2, 1) := dLg_64.2.2.1
theorem dL_law_726 : decode cL_law 726 = .ok (.aload_n 0, 1) := dLg_64.2.2.2.1
theorem dL_law_727 : decode cL_law 727 = .ok (.iload 4, 2) := dLg_64.2.2.2.2.1
theorem dL_law_729 : decode cL_law 729 = .ok (.iconst 1, 1) := dLg_64.2.2.2.2.2
set_option maxRecDepth 100000 in
theorem dLg_65 : decode cL_law 730 = .ok (.iadd, 1) ∧ decode cL_law 731 = .ok (.iaload, 1) ∧ decode cL_law 732 = .ok (.invokevirtual 91, 3) ∧ decode cL_law 735 = .ok (.pop, 1) ∧ decode cL_law 736 = .ok (.goto 794, 3) ∧ decode cL_law 739 = .ok (.aload_n 1, 1) := by decide +kernel
theorem dL_law_730 : decode cL_law 730 = .ok (.iadd, 1) := dLg_65.1
theorem dL_law_731 : decode cL_law 731 = .ok (.iaload, 1) := dLg_65.2.1
theorem dL_law_732 : decode cL_law 732 = .ok (.invokevirtual 91, 3) := dLg_65.2.2.1
theorem dL_law_735 : decode cL_law 735 = .ok (.pop, 1) := dLg_65.2.2.2.1
theorem dL_law_736 : decode cL_law 736 = .ok (.goto 794, 3) := dLg_65.2.2.2.2.1
theorem dL_law_739 : decode cL_law 739 = .ok (.aload_n 1, 1) := dLg_65.2.2.2.2.2
set_option maxRecDepth 100000 in
theorem dLg_66 : decode cL_law 740 = .ok (.aload_n 0, 1) ∧ decode cL_law 741 = .ok (.iload 4, 2) ∧ decode cL_law 743 = .ok (.iconst 1, 1) ∧ decode cL_law 744 = .ok (.iadd, 1) ∧ decode cL_law 745 = .ok (.iaload, 1) ∧ decode cL_law 746 = .ok (.invokevirtual 92, 3) := by decide +kernel
theorem dL_law_740 : decode cL_law 740 = .ok (.aload_n 0, 1) := dLg_66.1
theorem dL_law_741 : decode cL_law 741 = .ok (.iload 4, 2) := dLg_66.2.1
theorem dL_law_743 : decode cL_law 743 = .ok (.iconst 1, 1) := dLg_66.2.2.1
theorem dL_law_744 : decode cL_law 744 = .ok (.iadd, 1) := dLg_66.2.2.2.1
theorem dL_law_745 : decode cL_law 745 = .ok (.iaload, 1) := dLg_66.2.2.2.2.1
theorem dL_law_746 : decode cL_law 746 = .ok (.invokevirtual 92, 3) := dLg_66.2.2.2.2.2
set_option maxRecDepth 100000 in
theorem dLg_67 : decode cL_law 749 = .ok (.pop, 1) ∧ decode cL_law 750 = .ok (.aload_n 2, 1) ∧ decode cL_law 751 = .ok (.aload_n 0, 1) ∧ decode cL_law 752 = .ok (.iload 4, 2) ∧ decode cL_law 754 = .ok (.iconst 1, 1) ∧ decode cL_law 755 = .ok (.iadd, 1) := by decide +kernel
theorem dL_law_749 : decode cL_law 749 = .ok (.pop, 1) := dLg_67.1
theorem dL_law_750 : decode cL_law 750 = .ok (.aload_n 2, 1) := dLg_67.2.1
theorem dL_law_751 : decode cL_law 751 = .ok (.aload_n 0, 1) := dLg_67.2.2.1
theorem dL_law_752 : decode cL_law 752 = .ok (.iload 4, 2) := dLg_67.2.2.2.1
theorem dL_law_754 : decode cL_law 754 = .ok (.iconst 1, 1) := dLg_67.2.2.2.2.1
theorem dL_law_755 : decode cL_law 755 = .ok (.iadd, 1) := dLg_67.2.2.2.2.2
set_option maxRecDepth 100000 in
theorem dLg_68 : decode cL_law 756 = .ok (.iaload, 1) ∧ decode cL_law 757 = .ok (.invokevirtual 95, 3) ∧ decode cL_law 760 = .ok (.pop, 1) ∧ decode cL_law 761 = .ok (.goto 769, 3) ∧ decode cL_law 764 = .ok (.aload_n 1, 1) ∧ decode cL_law 765 = .ok (.aload_n 0, 1) := by decide +kernel
theorem dL_law_756 : decode cL_law 756 = .ok (.iaload, 1) := dLg_68.1
theorem dL_law_757 : decode cL_law 757 = .ok (.invokevirtual 95, 3) := dLg_68.2.1
theorem dL_law_760 : decode cL_law 760 = .ok (.pop, 1) := dLg_68.2.2.1
theorem dL_law_761 : decode cL_law 761 = .ok (.goto 769, 3) := dLg_68.2.2.2.1
theorem dL_law_764 : decode cL_law 764 = .ok (.aload_n 1, 1) := dLg_68.2.2.2.2.1
theorem dL_law_765 : decode cL_law 765 = .ok (.aload_n 0, 1) := dLg_68.2.2.2.2.2
set_option maxRecDepth 100000 in
theorem dLg_69 : decode cL_law 766 = .ok (.iload 4, 2) ∧ decode cL_law 768 = .ok (.iconst 1, 1) ∧ decode cL_law 769 = .ok (.iadd, 1) ∧ decode cL_law 770 = .ok (.iaload, 1) ∧ decode cL_law 771 = .ok (.aload_n 0, 1) ∧ decode cL_law 772 = .ok (.iload 4, 2) := by decide +kernel
theorem dL_law_766 : decode cL_law 766 = .ok (.iload 4, 2) := dLg_69.1
theorem dL_law_768 : decode cL_law 768 = .ok (.iconst 1, 1) := dLg_69.2.1
theorem dL_law_769 : decode cL_law 769 = .ok (.iadd, 1) := dLg_69.2.2.1
theorem dL_law_770 : decode cL_law 770 = .ok (.iaload, 1) := dLg_69.2.2.2.1
theorem dL_law_771 : decode cL_law 771 = .ok (.aload_n 0, 1) := dLg_69.2.2.2.2.1
theorem dL_law_772 : decode cL_law 772 = .ok (.iload 4, 2) := dLg_69.2.2.2.2.2
set_option maxRecDepth 100000 in
theorem dLg_70 : decode cL_law 774 = .ok (.iconst 2, 1) ∧ decode cL_law 775 = .ok (.iadd, 1) ∧ decode cL_law 776 = .ok (.iaload, 1) ∧ decode cL_law 777 = .ok (.i2l, 1) ∧ decode cL_law 778 = .ok (.bipush 32, 2) ∧ decode cL_law 780 = .ok (.lshl, 1) := by decide +kernel
theorem dL_law_774 : decode cL_law 774 = .ok (.iconst 2, 1) := dLg_70.1
theorem dL_law_775 : decode cL_law 775 = .ok (.iadd, 1) := dLg_70.2.1
theorem dL_law_776 : decode cL_law 776 = .ok (.iaload, 1) := dLg_70.2.2.1
theorem dL_law_777 : decode cL_law 777 = .ok (.i2l, 1) := dLg_70.2.2.2.1
theorem dL_law_778 : decode cL_law 778 = .ok (.bipush 32, 2) := dLg_70.2.2.2.2.1
theorem dL_law_780 : decode cL_law 780 = .ok (.lshl, 1) := dLg_70.2.2.2.2.2
set_option maxRecDepth 100000 in
theorem dLg_71 : decode cL_law 781 = .ok (.aload_n 0, 1) ∧ decode cL_law 782 = .ok (.iload 4, 2) ∧ decode cL_law 784 = .ok (.iconst 3, 1) ∧ decode cL_law 785 = .ok (.iadd, 1) ∧ decode cL_law 786 = .ok (.iaload, 1) ∧ decode cL_law 787 = .ok (.i2l, 1) := by decide +kernel
theorem dL_law_781 : decode cL_law 781 = .ok (.aload_n 0, 1) := dLg_71.1
theorem dL_law_782 : decode cL_law 782 = .ok (.iload 4, 2) := dLg_71.2.1
theorem dL_law_784 : decode cL_law 784 = .ok (.iconst 3, 1) := dLg_71.2.2.1
theorem dL_law_785 : decode cL_law 785 = .ok (.iadd, 1) := dLg_71.2.2.2.1
theorem dL_law_786 : decode cL_law 786 = .ok (.iaload, 1) := dLg_71.2.2.2.2.1
theorem dL_law_787 : decode cL_law 787 = .ok (.i2l, 1) := dLg_71.2.2.2.2.2
set_option maxRecDepth 100000 in
theorem dLg_72 : decode cL_law 788 = .ok (.ldc2_w 96, 3) ∧ decode cL_law 791 = .ok (.land, 1) ∧ decode cL_law 792 = .ok (.lor, 1) ∧ decode cL_law 793 = .ok (.invokevirtual 98, 3) ∧ decode cL_law 796 = .ok (.pop, 1) ∧ decode cL_law 797 = .ok (.aload_n 2, 1) := by decide +kernel
theorem dL_law_788 : decode cL_law 788 = .ok (.ldc2_w 96, 3) := dLg_72.1
theorem dL_law_791 : decode cL_law 791 = .ok (.land, 1) := dLg_72.2.1
theorem dL_law_792 : decode cL_law 792 = .ok (.lor, 1) := dLg_72.2.2.1
theorem dL_law_793 : decode cL_law 793 = .ok (.invokevirtual 98, 3) := dLg_72.2.2.2.1
theorem dL_law_796 : decode cL_law 796 = .ok (.pop, 1) := dLg_72.2.2.2.2.1
theorem dL_law_797 : decode cL_law 797 = .ok (.aload_n 2, 1) := dLg_72.2.2.2.2.2
set_option maxRecDepth 100000 in
theorem dLg_73 : decode cL_law 798 = .ok (.aload_n 0, 1) ∧ decode cL_law 799 = .ok (.iload 4, 2) ∧ decode cL_law 801 = .ok (.iconst 1, 1) ∧ decode cL_law 802 = .ok (.iadd, 1) ∧ decode cL_law 803 = .ok (.iaload, 1) ∧ decode cL_law 804 = .ok (.aload_n 0, 1) := by decide +kernel
theorem dL_law_798 : decode cL_law 798 = .ok (.aload_n 0, 1) := dLg_73.1
theorem dL_law_799 : decode cL_law 799 = .ok (.iload 4, 2) := dLg_73.2.1
theorem dL_law_801 : decode cL_law 801 = .ok (.iconst 1, 1) := dLg_73.2.2.1
theorem dL_law_802 : decode cL_law 802 = .ok (.iadd, 1) := dLg_73.2.2.2.1
theorem dL_law_803 : decode cL_law 803 = .ok (.iaload, 1) := dLg_73.2.2.2.2.1
theorem dL_law_804 : decode cL_law 804 = .ok (.aload_n 0, 1) := dLg_73.2.2.2.2.2
set_option maxRecDepth 100000 in
theorem dLg_74 : decode cL_law 805 = .ok (.iload 4, 2) ∧ decode cL_law 807 = .ok (.iconst 2, 1) ∧ decode cL_law 808 = .ok (.iadd, 1) ∧ decode cL_law 809 = .ok (.iaload, 1) ∧ decode cL_law 810 = .ok (.i2l, 1) ∧ decode cL_law 811 = .ok (.bipush 32, 2) := by decide +kernel
theorem dL_law_805 : decode cL_law 805 = .ok (.iload 4, 2) := dLg_74.1
theorem dL_law_807 : decode cL_law 807 = .ok (.iconst 2, 1) := dLg_74.2.1
theorem dL_law_808 : decode cL_law 808 = .ok (.iadd, 1) := dLg_74.2.2.1
theorem dL_law_809 : decode cL_law 809 = .ok (.iaload, 1) := dLg_74.2.2.2.1
theorem dL_law_810 : decode cL_law 810 = .ok (.i2l, 1) := dLg_74.2.2.2.2.1
theorem dL_law_811 : decode cL_law 811 = .ok (.bipush 32, 2) := dLg_74.2.2.2.2.2
set_option maxRecDepth 100000 in
theorem dLg_75 : decode cL_law 813 = .ok (.lshl, 1) ∧ decode cL_law 814 = .ok (.aload_n 0, 1) ∧ decode cL_law 815 = .ok (.iload 4, 2) ∧ decode cL_law 817 = .ok (.iconst 3, 1) ∧ decode cL_law 818 = .ok (.iadd, 1) ∧ decode cL_law 819 = .ok (.iaload, 1) := by decide +kernel
theorem dL_law_813 : decode cL_law 813 = .ok (.lshl, 1) := dLg_75.1
theorem dL_law_814 : decode cL_law 814 = .ok (.aload_n 0, 1) := dLg_75.2.1
theorem dL_law_815 : decode cL_law 815 = .ok (.iload 4, 2) := dLg_75.2.2.1
theorem dL_law_817 : decode cL_law 817 = .ok (.iconst 3, 1) := dLg_75.2.2.2.1
theorem dL_law_818 : decode cL_law 818 = .ok (.iadd, 1) := dLg_75.2.2.2.2.1
theorem dL_law_819 : decode cL_law 819 = .ok (.iaload, 1) := dLg_75.2.2.2.2.2
set_option maxRecDepth 100000 in
theorem dLg_76 : decode cL_law 820 = .ok (.i2l, 1) ∧ decode cL_law 821 = .ok (.ldc2_w 96, 3) ∧ decode cL_law 824 = .ok (.land, 1) ∧ decode cL_law 825 = .ok (.lor, 1) ∧ decode cL_law 826 = .ok (.invokevirtual 102, 3) ∧ decode cL_law 829 = .ok (.pop, 1) := by decide +kernel
theorem dL_law_820 : decode cL_law 820 = .ok (.i2l, 1) := dLg_76.1
theorem dL_law_821 : decode cL_law 821 = .ok (.ldc2_w 96, 3) := dLg_76.2.1
theorem dL_law_824 : decode cL_law 824 = .ok (.land, 1) := dLg_76.2.2.1
theorem dL_law_825 : decode cL_law 825 = .ok (.lor, 1) := dLg_76.2.2.2.1
theorem dL_law_826 : decode cL_law 826 = .ok (.invokevirtual 102, 3) := dLg_76.2.2.2.2.1
theorem dL_law_829 : decode cL_law 829 = .ok (.pop, 1) := dLg_76.2.2.2.2.2
set_option maxRecDepth 100000 in
theorem dLg_77 : decode cL_law 830 = .ok (.goto 700, 3) ∧ decode cL_law 833 = .ok (.aload_n 1, 1) ∧ decode cL_law 834 = .ok (.aload_n 0, 1) ∧ decode cL_law 835 = .ok (.iload 4, 2) ∧ decode cL_law 837 = .ok (.iconst 1, 1) ∧ decode cL_law 838 = .ok (.iadd, 1) := by decide +kernel
theorem dL_law_830 : decode cL_law 830 = .ok (.goto 700, 3) := dLg_77.1
theorem dL_law_833 : decode cL_law 833 = .ok (.aload_n 1, 1) := dLg_77.2.1
theorem dL_law_834 : decode cL_law 834 = .ok (.aload_n 0, 1) := dLg_77.2.2.1
theorem dL_law_835 : decode cL_law 835 = .ok (.iload 4, 2) := dLg_77.2.2.2.1
theorem dL_law_837 : decode cL_law 837 = .ok (.iconst 1, 1) := dLg_77.2.2.2.2.1
theorem dL_law_838 : decode cL_law 838 = .ok (.iadd, 1) := dLg_77.2.2.2.2.2
set_option maxRecDepth 100000 in
theorem dLg_78 : decode cL_law 839 = .ok (.iaload, 1) ∧ decode cL_law 840 = .ok (.invokevirtual 103, 3) ∧ decode cL_law 843 = .ok (.pop, 1) ∧ decode cL_law 844 = .ok (.aload_n 2, 1) ∧ decode cL_law 845 = .ok (.aload_n 0, 1) ∧ decode cL_law 846 = .ok (.iload 4, 2) := by decide +kernel
theorem dL_law_839 : decode cL_law 839 = .ok (.iaload, 1) := dLg_78.1
theorem dL_law_840 : decode cL_law 840 = .ok (.invokevirtual 103, 3) := dLg_78.2.1
theorem dL_law_843 : decode cL_law 843 = .ok (.pop, 1) := dLg_78.2.2.1
theorem dL_law_844 : decode cL_law 844 = .ok (.aload_n 2, 1) := dLg_78.2.2.2.1
theorem dL_law_845 : decode cL_law 845 = .ok (.aload_n 0, 1) := dLg_78.2.2.2.2.1
theorem dL_law_846 : decode cL_law 846 = .ok (.iload 4, 2) := dLg_78.2.2.2.2.2
set_option maxRecDepth 100000 in
theorem dLg_79 : decode cL_law 848 = .ok (.iconst 1, 1) ∧ decode cL_law 849 = .ok (.iadd, 1) ∧ decode cL_law 850 = .ok (.iaload, 1) ∧ decode cL_law 851 = .ok (.invokevirtual 106, 3) ∧ decode cL_law 854 = .ok (.pop, 1) ∧ decode cL_law 855 = .ok (.goto 675, 3) := by decide +kernel
theorem dL_law_848 : decode cL_law 848 = .ok (.iconst 1, 1) := dLg_79.1
theorem dL_law_849 : decode cL_law 849 = .ok (.iadd, 1) := dLg_79.2.1
theorem dL_law_850 : decode cL_law 850 = .ok (.iaload, 1) := dLg_79.2.2.1
theorem dL_law_851 : decode cL_law 851 = .ok (.invokevirtual 106, 3) := dLg_79.2.2.2.1
theorem dL_law_854 : decode cL_law 854 = .ok (.pop, 1) := dLg_79.2.2.2.2.1
theorem dL_law_855 : decode cL_law 855 = .ok (.goto 675, 3) := dLg_79.2.2.2.2.2
set_option maxRecDepth 100000 in
theorem dLg_80 : decode cL_law 858 = .ok (.aload_n 1, 1) ∧ decode cL_law 859 = .ok (.invokevirtual 107, 3) ∧ decode cL_law 862 = .ok (.pop, 1) ∧ decode cL_law 863 = .ok (.aload_n 2, 1) ∧ decode cL_law 864 = .ok (.invokevirtual 110, 3) ∧ decode cL_law 867 = .ok (.pop, 1) := by decide +kernel
theorem dL_law_858 : decode cL_law 858 = .ok (.aload_n 1, 1) := dLg_80.1
theorem dL_law_859 : decode cL_law 859 = .ok (.invokevirtual 107, 3) := dLg_80.2.1
theorem dL_law_862 : decode cL_law 862 = .ok (.pop, 1) := dLg_80.2.2.1
theorem dL_law_863 : decode cL_law 863 = .ok (.aload_n 2, 1) := dLg_80.2.2.2.1
theorem dL_law_864 : decode cL_law 864 = .ok (.invokevirtual 110, 3) := dLg_80.2.2.2.2.1
theorem dL_law_867 : decode cL_law 867 = .ok (.pop, 1) := dLg_80.2.2.2.2.2
set_option maxRecDepth 100000 in
theorem dLg_81 : decode cL_law 868 = .ok (.goto 662, 3) ∧ decode cL_law 871 = .ok (.aload_n 1, 1) ∧ decode cL_law 872 = .ok (.aload_n 0, 1) ∧ decode cL_law 873 = .ok (.iload 4, 2) ∧ decode cL_law 875 = .ok (.iconst 1, 1) ∧ decode cL_law 876 = .ok (.iadd, 1) := by decide +kernel
theorem dL_law_868 : decode cL_law 868 = .ok (.goto 662, 3) := dLg_81.1
theorem dL_law_871 : decode cL_law 871 = .ok (.aload_n 1, 1) := dLg_81.2.1
theorem dL_law_872 : decode cL_law 872 = .ok (.aload_n 0, 1) := dLg_81.2.2.1
theorem dL_law_873 : decode cL_law 873 = .ok (.iload 4, 2) := dLg_81.2.2.2.1
theorem dL_law_875 : decode cL_law 875 = .ok (.iconst 1, 1) := dLg_81.2.2.2.2.1
theorem dL_law_876 : decode cL_law 876 = .ok (.iadd, 1) := dLg_81.2.2.2.2.2
set_option maxRecDepth 100000 in
theorem dLg_82 : decode cL_law 877 = .ok (.iaload, 1) ∧ decode cL_law 878 = .ok (.aload_n 0, 1) ∧ decode cL_law 879 = .ok (.iload 4, 2) ∧ decode cL_law 881 = .ok (.iconst 2, 1) ∧ decode cL_law 882 = .ok (.iadd, 1) ∧ decode cL_law 883 = .ok (.iaload, 1) := by decide +kernel
theorem dL_law_877 : decode cL_law 877 = .ok (.iaload, 1) := dLg_82.1
theorem dL_law_878 : decode cL_law 878 = .ok (.aload_n 0, 1) := dLg_82.2.1
theorem dL_law_879 : decode cL_law 879 = .ok (.iload 4, 2) := dLg_82.2.2.1
theorem dL_law_881 : decode cL_law 881 = .ok (.iconst 2, 1) := dLg_82.2.2.2.1
theorem dL_law_882 : decode cL_law 882 = .ok (.iadd, 1) := dLg_82.2.2.2.2.1
theorem dL_law_883 : decode cL_law 883 = .ok (.iaload, 1) := dLg_82.2.2.2.2.2
set_option maxRecDepth 100000 in
theorem dLg_83 : decode cL_law 884 = .ok (.invokevirtual 111, 3) ∧ decode cL_law 887 = .ok (.pop, 1) ∧ decode cL_law 888 = .ok (.aload_n 2, 1) ∧ decode cL_law 889 = .ok (.aload_n 0, 1) ∧ decode cL_law 890 = .ok (.iload 4, 2) ∧ decode cL_law 892 = .ok (.iconst 1, 1) := by decide +kernel
theorem dL_law_884 : decode cL_law 884 = .ok (.invokevirtual 111, 3) := dLg_83.1
theorem dL_law_887 : decode cL_law 887 = .ok (.pop, 1) := dLg_83.2.1
theorem dL_law_888 : decode cL_law 888 = .ok (.aload_n 2, 1) := dLg_83.2.2.1
theorem dL_law_889 : decode cL_law 889 = .ok (.aload_n 0, 1) := dLg_83.2.2.2.1
theorem dL_law_890 : decode cL_law 890 = .ok (.iload 4, 2) := dLg_83.2.2.2.2.1
theorem dL_law_892 : decode cL_law 892 = .ok (.iconst 1, 1) := dLg_83.2.2.2.2.2
set_option maxRecDepth 100000 in
theorem dLg_84 : decode cL_law 893 = .ok (.iadd, 1) ∧ decode cL_law 894 = .ok (.iaload, 1) ∧ decode cL_law 895 = .ok (.aload_n 0, 1) ∧ decode cL_law 896 = .ok (.iload 4, 2) ∧ decode cL_law 898 = .ok (.iconst 2, 1) ∧ decode cL_law 899 = .ok (.iadd, 1) := by decide +kernel
theorem dL_law_893 : decode cL_law 893 = .ok (.iadd, 1) := dLg_84.1
theorem dL_law_894 : decode cL_law 894 = .ok (.iaload, 1) := dLg_84.2.1
theorem dL_law_895 : decode cL_law 895 = .ok (.aload_n 0, 1) := dLg_84.2.2.1
theorem dL_law_896 : decode cL_law 896 = .ok (.iload 4, 2) := dLg_84.2.2.2.1
theorem dL_law_898 : decode cL_law 898 = .ok (.iconst 2, 1) := dLg_84.2.2.2.2.1
theorem dL_law_899 : decode cL_law 899 = .ok (.iadd, 1) := dLg_84.2.2.2.2.2
set_option maxRecDepth 100000 in
theorem dLg_85 : decode cL_law 900 = .ok (.iaload, 1) ∧ decode cL_law 901 = .ok (.invokevirtual 114, 3) ∧ decode cL_law 904 = .ok (.pop, 1) ∧ decode cL_law 905 = .ok (.goto 625, 3) ∧ decode cL_law 908 = .ok (.aload_n 1, 1) ∧ decode cL_law 909 = .ok (.aload_n 0, 1) := by decide +kernel
theorem dL_law_900 : decode cL_law 900 = .ok (.iaload, 1) := dLg_85.1
theorem dL_law_901 : decode cL_law 901 = .ok (.invokevirtual 114, 3) := dLg_85.2.1
theorem dL_law_904 : decode cL_law 904 = .ok (.pop, 1) := dLg_85.2.2.1
theorem dL_law_905 : decode cL_law 905 = .ok (.goto 625, 3) := dLg_85.2.2.2.1
theorem dL_law_908 : decode cL_law 908 = .ok (.aload_n 1, 1) := dLg_85.2.2.2.2.1
theorem dL_law_909 : decode cL_law 909 = .ok (.aload_n 0, 1) := dLg_85.2.2.2.2.2
set_option maxRecDepth 100000 in
theorem dLg_86 : decode cL_law 910 = .ok (.iload 4, 2) ∧ decode cL_law 912 = .ok (.iconst 1, 1) ∧ decode cL_law 913 = .ok (.iadd, 1) ∧ decode cL_law 914 = .ok (.iaload, 1) ∧ decode cL_law 915 = .ok (.aload_n 0, 1) ∧ decode cL_law 916 = .ok (.iload 4, 2) := by decide +kernel
theorem dL_law_910 : decode cL_law 910 = .ok (.iload 4, 2) := dLg_86.1
theorem dL_law_912 : decode cL_law 912 = .ok (.iconst 1, 1) := dLg_86.2.1
theorem dL_law_913 : decode cL_law 913 = .ok (.iadd, 1) := dLg_86.2.2.1
theorem dL_law_914 : decode cL_law 914 = .ok (.iaload, 1) := dLg_86.2.2.2.1
theorem dL_law_915 : decode cL_law 915 = .ok (.aload_n 0, 1) := dLg_86.2.2.2.2.1
theorem dL_law_916 : decode cL_law 916 = .ok (.iload 4, 2) := dLg_86.2.2.2.2.2
set_option maxRecDepth 100000 in
theorem dLg_87 : decode cL_law 918 = .ok (.iconst 2, 1) ∧ decode cL_law 919 = .ok (.iadd, 1) ∧ decode cL_law 920 = .ok (.iaload, 1) ∧ decode cL_law 921 = .ok (.invokevirtual 115, 3) ∧ decode cL_law 924 = .ok (.pop, 1) ∧ decode cL_law 925 = .ok (.aload_n 2, 1) := by decide +kernel
theorem dL_law_918 : decode cL_law 918 = .ok (.iconst 2, 1) := dLg_87.1
theorem dL_law_919 : decode cL_law 919 = .ok (.iadd, 1) := dLg_87.2.1
theorem dL_law_920 : decode cL_law 920 = .ok (.iaload, 1) := dLg_87.2.2.1
theorem dL_law_921 : decode cL_law 921 = .ok (.invokevirtual 115, 3) := dLg_87.2.2.2.1
theorem dL_law_924 : decode cL_law 924 = .ok (.pop, 1) := dLg_87.2.2.2.2.1
theorem dL_law_925 : decode cL_law 925 = .ok (.aload_n 2, 1) := dLg_87.2.2.2.2.2
set_option maxRecDepth 100000 in
theorem dLg_88 : decode cL_law 926 = .ok (.aload_n 0, 1) ∧ decode cL_law 927 = .ok (.iload 4, 2) ∧ decode cL_law 929 = .ok (.iconst 1, 1) ∧ decode cL_law 930 = .ok (.iadd, 1) ∧ decode cL_law 931 = .ok (.iaload, 1) ∧ decode cL_law 932 = .ok (.aload_n 0, 1) := by decide +kernel
theorem dL_law_926 : decode cL_law 926 = .ok (.aload_n 0, 1) := dLg_88.1
theorem dL_law_927 : decode cL_law 927 = .ok (.iload 4, 2) := dLg_88.2.1
theorem dL_law_929 : decode cL_law 929 = .ok (.iconst 1, 1) := dLg_88.2.2.1
theorem dL_law_930 : decode cL_law 930 = .ok (.iadd, 1) := dLg_88.2.2.2.1
theorem dL_law_931 : decode cL_law 931 = .ok (.iaload, 1) := dLg_88.2.2.2.2.1
theorem dL_law_932 : decode cL_law 932 = .ok (.aload_n 0, 1) := dLg_88.2.2.2.2.2
set_option maxRecDepth 100000 in
theorem dLg_89 : decode cL_law 933 = .ok (.iload 4, 2) ∧ decode cL_law 935 = .ok (.iconst 2, 1) ∧ decode cL_law 936 = .ok (.iadd, 1) ∧ decode cL_law 937 = .ok (.iaload, 1) ∧ decode cL_law 938 = .ok (.invokevirtual 118, 3) ∧ decode cL_law 941 = .ok (.pop, 1) := by decide +kernel
theorem dL_law_933 : decode cL_law 933 = .ok (.iload 4, 2) := dLg_89.1
theorem dL_law_935 : decode cL_law 935 = .ok (.iconst 2, 1) := dLg_89.2.1
theorem dL_law_936 : decode cL_law 936 = .ok (.iadd, 1) := dLg_89.2.2.1
theorem dL_law_937 : decode cL_law 937 = .ok (.iaload, 1) := dLg_89.2.2.2.1
theorem dL_law_938 : decode cL_law 938 = .ok (.invokevirtual 118, 3) := dLg_89.2.2.2.2.1
theorem dL_law_941 : decode cL_law 941 = .ok (.pop, 1) := dLg_89.2.2.2.2.2
set_option maxRecDepth 100000 in
theorem dLg_90 : decode cL_law 942 = .ok (.goto 588, 3) ∧ decode cL_law 945 = .ok (.aload_n 1, 1) ∧ decode cL_law 946 = .ok (.aload_n 0, 1) ∧ decode cL_law 947 = .ok (.iload 4, 2) ∧ decode cL_law 949 = .ok (.iconst 1, 1) ∧ decode cL_law 950 = .ok (.iadd, 1) := by decide +kernel
theorem dL_law_942 : decode cL_law 942 = .ok (.goto 588, 3) := dLg_90.1
theorem dL_law_945 : decode cL_law 945 = .ok (.aload_n 1, 1) := dLg_90.2.1
theorem dL_law_946 : decode cL_law 946 = .ok (.aload_n 0, 1) := dLg_90.2.2.1
theorem dL_law_947 : decode cL_law 947 = .ok (.iload 4, 2) := dLg_90.2.2.2.1
theorem dL_law_949 : decode cL_law 949 = .ok (.iconst 1, 1) := dLg_90.2.2.2.2.1
theorem dL_law_950 : decode cL_law 950 = .ok (.iadd, 1) := dLg_90.2.2.2.2.2
set_option maxRecDepth 100000 in
theorem dLg_91 : decode cL_law 951 = .ok (.iaload, 1) ∧ decode cL_law 952 = .ok (.aload_n 0, 1) ∧ decode cL_law 953 = .ok (.iload 4, 2) ∧ decode cL_law 955 = .ok (.iconst 2, 1) ∧ decode cL_law 956 = .ok (.iadd, 1) ∧ decode cL_law 957 = .ok (.iaload, 1) := by decide +kernel
theorem dL_law_951 : decode cL_law 951 = .ok (.iaload, 1) := dLg_91.1
theorem dL_law_952 : decode cL_law 952 = .ok (.aload_n 0, 1) := dLg_91.2.1
theorem dL_law_953 : decode cL_law 953 = .ok (.iload 4, 2) := dLg_91.2.2.1
theorem dL_law_955 : decode cL_law 955 = .ok (.iconst 2, 1) := dLg_91.2.2.2.1
theorem dL_law_956 : decode cL_law 956 = .ok (.iadd, 1) := dLg_91.2.2.2.2.1
theorem dL_law_957 : decode cL_law 957 = .ok (.iaload, 1) := dLg_91.2.2.2.2.2
set_option maxRecDepth 100000 in
theorem dLg_92 : decode cL_law 958 = .ok (.aload_n 0, 1) ∧ decode cL_law 959 = .ok (.iload 4, 2) ∧ decode cL_law 961 = .ok (.iconst 3, 1) ∧ decode cL_law 962 = .ok (.iadd, 1) ∧ decode cL_law 963 = .ok (.iaload, 1) ∧ decode cL_law 964 = .ok (.invokevirtual 119, 3) := by decide +kernel
theorem dL_law_958 : decode cL_law 958 = .ok (.aload_n 0, 1) := dLg_92.1
theorem dL_law_959 : decode cL_law 959 = .ok (.iload 4, 2) := dLg_92.2.1
theorem dL_law_961 : decode cL_law 961 = .ok (.iconst 3, 1) := dLg_92.2.2.1
theorem dL_law_962 : decode cL_law 962 = .ok (.iadd, 1) := dLg_92.2.2.2.1
theorem dL_law_963 : decode cL_law 963 = .ok (.iaload, 1) := dLg_92.2.2.2.2.1
theorem dL_law_964 : decode cL_law 964 = .ok (.invokevirtual 119, 3) := dLg_92.2.2.2.2.2
set_option maxRecDepth 100000 in
theorem dLg_93 : decode cL_law 967 = .ok (.pop, 1) ∧ decode cL_law 968 = .ok (.aload_n 2, 1) ∧ decode cL_law 969 = .ok (.aload_n 0, 1) ∧ decode cL_law 970 = .ok (.iload 4, 2) ∧ decode cL_law 972 = .ok (.iconst 1, 1) ∧ decode cL_law 973 = .ok (.iadd, 1) := by decide +kernel
theorem dL_law_967 : decode cL_law 967 = .ok (.pop, 1) := dLg_93.1
theorem dL_law_968 : decode cL_law 968 = .ok (.aload_n 2, 1) := dLg_93.2.1
theorem dL_law_969 : decode cL_law 969 = .ok (.aload_n 0, 1) := dLg_93.2.2.1
theorem dL_law_970 : decode cL_law 970 = .ok (.iload 4, 2) := dLg_93.2.2.2.1
theorem dL_law_972 : decode cL_law 972 = .ok (.iconst 1, 1) := dLg_93.2.2.2.2.1
theorem dL_law_973 : decode cL_law 973 = .ok (.iadd, 1) := dLg_93.2.2.2.2.2
set_option maxRecDepth 100000 in
theorem dLg_94 : decode cL_law 974 = .ok (.iaload, 1) ∧ decode cL_law 975 = .ok (.aload_n 0, 1) ∧ decode cL_law 976 = .ok (.iload 4, 2) ∧ decode cL_law 978 = .ok (.iconst 2, 1) ∧ decode cL_law 979 = .ok (.iadd, 1) ∧ decode cL_law 980 = .ok (.iaload, 1) := by decide +kernel
theorem dL_law_974 : decode cL_law 974 = .ok (.iaload, 1) := dLg_94.1
theorem dL_law_975 : decode cL_law 975 = .ok (.aload_n 0, 1) := dLg_94.2.1
theorem dL_law_976 : decode cL_law 976 = .ok (.iload 4, 2) := dLg_94.2.2.1
theorem dL_law_978 : decode cL_law 978 = .ok (.iconst 2, 1) := dLg_94.2.2.2.1
theorem dL_law_979 : decode cL_law 979 = .ok (.iadd, 1) := dLg_94.2.2.2.2.1
theorem dL_law_980 : decode cL_law 980 = .ok (.iaload, 1) := dLg_94.2.2.2.2.2
set_option maxRecDepth 100000 in
theorem dLg_95 : decode cL_law 981 = .ok (.aload_n 0, 1) ∧ decode cL_law 982 = .ok (.iload 4, 2) ∧ decode cL_law 984 = .ok (.iconst 3, 1) ∧ decode cL_law 985 = .ok (.iadd, 1) ∧ decode cL_law 986 = .ok (.iaload, 1) ∧ decode cL_law 987 = .ok (.invokevirtual 123, 3) := by decide +kernel
theorem dL_law_981 : decode cL_law 981 = .ok (.aload_n 0, 1) := dLg_95.1
theorem dL_law_982 : decode cL_law 982 = .ok (.iload 4, 2) := dLg_95.2.1
theorem dL_law_984 : decode cL_law 984 = .ok (.iconst 3, 1) := dLg_95.2.2.1
theorem dL_law_985 : decode cL_law 985 = .ok (.iadd, 1) := dLg_95.2.2.2.1
theorem dL_law_986 : decode cL_law 986 = .ok (.iaload, 1) := dLg_95.2.2.2.2.1
theorem dL_law_987 : decode cL_law 987 = .ok (.invokevirtual 123, 3) := dLg_95.2.2.2.2.2
set_option maxRecDepth 100000 in
theorem dLg_96 : decode cL_law 990 = .ok (.pop, 1) ∧ decode cL_law 991 = .ok (.goto 539, 3) ∧ decode cL_law 994 = .ok (.aload_n 1, 1) ∧ decode cL_law 995 = .ok (.aload_n 0, 1) ∧ decode cL_law 996 = .ok (.iload 4, 2) ∧ decode cL_law 998 = .ok (.iconst 1, 1) := by decide +kernel
theorem dL_law_990 : decode cL_law 990 = .ok (.pop, 1) := dLg_96.1
theorem dL_law_991 : decode cL_law 991 = .ok (.goto 539, 3) := dLg_96.2.1
theorem dL_law_994 : decode cL_law 994 = .ok (.aload_n 1, 1) := dLg_96.2.2.1
theorem dL_law_995 : decode cL_law 995 = .ok (.aload_n 0, 1) := dLg_96.2.2.2.1
theorem dL_law_996 : decode cL_law 996 = .ok (.iload 4, 2) := dLg_96.2.2.2.2.1
theorem dL_law_998 : decode cL_law 998 = .ok (.iconst 1, 1) := dLg_96.2.2.2.2.2
set_option maxRecDepth 100000 in
theorem dLg_97 : decode cL_law 999 = .ok (.iadd, 1) ∧ decode cL_law 1000 = .ok (.iaload, 1) ∧ decode cL_law 1001 = .ok (.aload_n 0, 1) ∧ decode cL_law 1002 = .ok (.iload 4, 2) ∧ decode cL_law 1004 = .ok (.iconst 2, 1) ∧ decode cL_law 1005 = .ok (.iadd, 1) := by decide +kernel
theorem dL_law_999 : decode cL_law 999 = .ok (.iadd, 1) := dLg_97.1
theorem dL_law_1000 : decode cL_law 1000 = .ok (.iaload, 1) := dLg_97.2.1
theorem dL_law_1001 : decode cL_law 1001 = .ok (.aload_n 0, 1) := dLg_97.2.2.1
theorem dL_law_1002 : decode cL_law 1002 = .ok (.iload 4, 2) := dLg_97.2.2.2.1
theorem dL_law_1004 : decode cL_law 1004 = .ok (.iconst 2, 1) := dLg_97.2.2.2.2.1
theorem dL_law_1005 : decode cL_law 1005 = .ok (.iadd, 1) := dLg_97.2.2.2.2.2
set_option maxRecDepth 100000 in
theorem dLg_98 : decode cL_law 1006 = .ok (.iaload, 1) ∧ decode cL_law 1007 = .ok (.invokevirtual 124, 3) ∧ decode cL_law 1010 = .ok (.pop, 1) ∧ decode cL_law 1011 = .ok (.aload_n 2, 1) ∧ decode cL_law 1012 = .ok (.aload_n 0, 1) ∧ decode cL_law 1013 = .ok (.iload 4, 2) := by decide +kernel
theorem dL_law_1006 : decode cL_law 1006 = .ok (.iaload, 1) := dLg_98.1
theorem dL_law_1007 : decode cL_law 1007 = .ok (.invokevirtual 124, 3) := dLg_98.2.1
theorem dL_law_1010 : decode cL_law 1010 = .ok (.pop, 1) := dLg_98.2.2.1
theorem dL_law_1011 : decode cL_law 1011 = .ok (.aload_n 2, 1) := dLg_98.2.2.2.1
theorem dL_law_1012 : decode cL_law 1012 = .ok (.aload_n 0, 1) := dLg_98.2.2.2.2.1
theorem dL_law_1013 : decode cL_law 1013 = .ok (.iload 4, 2) := dLg_98.2.2.2.2.2
set_option maxRecDepth 100000 in
theorem dLg_99 : decode cL_law 1015 = .ok (.iconst 1, 1) ∧ decode cL_law 1016 = .ok (.iadd, 1) ∧ decode cL_law 1017 = .ok (.iaload, 1) ∧ decode cL_law 1018 = .ok (.aload_n 0, 1) ∧ decode cL_law 1019 = .ok (.iload 4, 2) ∧ decode cL_law 1021 = .ok (.iconst 2, 1) := by decide +kernel
theorem dL_law_1015 : decode cL_law 1015 = .ok (.iconst 1, 1) := dLg_99.1
theorem dL_law_1016 : decode cL_law 1016 = .ok (.iadd, 1) := dLg_99.2.1
theorem dL_law_1017 : decode cL_law 1017 = .ok (.iaload, 1) := dLg_99.2.2.1
theorem dL_law_1018 : decode cL_law 1018 = .ok (.aload_n 0, 1) := dLg_99.2.2.2.1
theorem dL_law_1019 : decode cL_law 1019 = .ok (.iload 4, 2) := dLg_99.2.2.2.2.1
theorem dL_law_1021 : decode cL_law 1021 = .ok (.iconst 2, 1) := dLg_99.2.2.2.2.2
set_option maxRecDepth 100000 in
theorem dLg_100 : decode cL_law 1022 = .ok (.iadd, 1) ∧ decode cL_law 1023 = .ok (.iaload, 1) ∧ decode cL_law 1024 = .ok (.invokevirtual 127, 3) ∧ decode cL_law 1027 = .ok (.pop, 1) ∧ decode cL_law 1028 = .ok (.goto 502, 3) ∧ decode cL_law 1031 = .ok (.aload_n 1, 1) := by decide +kernel
theorem dL_law_1022 : decode cL_law 1022 = .ok (.iadd, 1) := dLg_100.1
theorem dL_law_1023 : decode cL_law 1023 = .ok (.iaload, 1) := dLg_100.2.1
theorem dL_law_1024 : decode cL_law 1024 = .ok (.invokevirtual 127, 3) := dLg_100.2.2.1
theorem dL_law_1027 : decode cL_law 1027 = .ok (.pop, 1) := dLg_100.2.2.2.1
theorem dL_law_1028 : decode cL_law 1028 = .ok (.goto 502, 3) := dLg_100.2.2.2.2.1
theorem dL_law_1031 : decode cL_law 1031 = .ok (.aload_n 1, 1) := dLg_100.2.2.2.2.2
set_option maxRecDepth 100000 in
theorem dLg_101 : decode cL_law 1032 = .ok (.aload_n 0, 1) ∧ decode cL_law 1033 = .ok (.iload 4, 2) ∧ decode cL_law 1035 = .ok (.iconst 1, 1) ∧ decode cL_law 1036 = .ok (.iadd, 1) ∧ decode cL_law 1037 = .ok (.iaload, 1) ∧ decode cL_law 1038 = .ok (.invokevirtual 128, 3) := by decide +kernel
theorem dL_law_1032 : decode cL_law 1032 = .ok (.aload_n 0, 1) := dLg_101.1
theorem dL_law_1033 : decode cL_law 1033 = .ok (.iload 4, 2) := dLg_101.2.1
theorem dL_law_1035 : decode cL_law 1035 = .ok (.iconst 1, 1) := dLg_101.2.2.1
theorem dL_law_1036 : decode cL_law 1036 = .ok (.iadd, 1) := dLg_101.2.2.2.1
theorem dL_law_1037 : decode cL_law 1037 = .ok (.iaload, 1) := dLg_101.2.2.2.2.1
theorem dL_law_1038 : decode cL_law 1038 = .ok (.invokevirtual 128, 3) := dLg_101.2.2.2.2.2
set_option maxRecDepth 100000 in
theorem dLg_102 : decode cL_law 1041 = .ok (.pop, 1) ∧ decode cL_law 1042 = .ok (.aload_n 2, 1) ∧ decode cL_law 1043 = .ok (.aload_n 0, 1) ∧ decode cL_law 1044 = .ok (.iload 4, 2) ∧ decode cL_law 1046 = .ok (.iconst 1, 1) ∧ decode cL_law 1047 = .ok (.iadd, 1) := by decide +kernel
theorem dL_law_1041 : decode cL_law 1041 = .ok (.pop, 1) := dLg_102.1
theorem dL_law_1042 : decode cL_law 1042 = .ok (.aload_n 2, 1) := dLg_102.2.1
theorem dL_law_1043 : decode cL_law 1043 = .ok (.aload_n 0, 1) := dLg_102.2.2.1
theorem dL_law_1044 : decode cL_law 1044 = .ok (.iload 4, 2) := dLg_102.2.2.2.1
theorem dL_law_1046 : decode cL_law 1046 = .ok (.iconst 1, 1) := dLg_102.2.2.2.2.1
theorem dL_law_1047 : decode cL_law 1047 = .ok (.iadd, 1) := dLg_102.2.2.2.2.2
set_option maxRecDepth 100000 in
theorem dLg_103 : decode cL_law 1048 = .ok (.iaload, 1) ∧ decode cL_law 1049 = .ok (.invokevirtual 131, 3) ∧ decode cL_law 1052 = .ok (.pop, 1) ∧ decode cL_law 1053 = .ok (.goto 477, 3) ∧ decode cL_law 1056 = .ok (.aload_n 1, 1) ∧ decode cL_law 1057 = .ok (.invokevirtual 132, 3) := by decide +kernel
theorem dL_law_1048 : decode cL_law 1048 = .ok (.iaload, 1) := dLg_103.1
theorem dL_law_1049 : decode cL_law 1049 = .ok (.invokevirtual 131, 3) := dLg_103.2.1
theorem dL_law_1052 : decode cL_law 1052 = .ok (.pop, 1) := dLg_103.2.2.1
theorem dL_law_1053 : decode cL_law 1053 = .ok (.goto 477, 3) := dLg_103.2.2.2.1
theorem dL_law_1056 : decode cL_law 1056 = .ok (.aload_n 1, 1) := dLg_103.2.2.2.2.1
theorem dL_law_1057 : decode cL_law 1057 = .ok (.invokevirtual 132, 3) := dLg_103.2.2.2.2.2
set_option maxRecDepth 100000 in
theorem dLg_104 : decode cL_law 1060 = .ok (.pop, 1) ∧ decode cL_law 1061 = .ok (.aload_n 2, 1) ∧ decode cL_law 1062 = .ok (.invokevirtual 135, 3) ∧ decode cL_law 1065 = .ok (.pop, 1) ∧ decode cL_law 1066 = .ok (.goto 464, 3) ∧ decode cL_law 1069 = .ok (.aload_n 1, 1) := by decide +kernel
theorem dL_law_1060 : decode cL_law 1060 = .ok (.pop, 1) := dLg_104.1
theorem dL_law_1061 : decode cL_law 1061 = .ok (.aload_n 2, 1) := dLg_104.2.1
theorem dL_law_1062 : decode cL_law 1062 = .ok (.invokevirtual 135, 3) := dLg_104.2.2.1
theorem dL_law_1065 : decode cL_law 1065 = .ok (.pop, 1) := dLg_104.2.2.2.1
theorem dL_law_1066 : decode cL_law 1066 = .ok (.goto 464, 3) := dLg_104.2.2.2.2.1
theorem dL_law_1069 : decode cL_law 1069 = .ok (.aload_n 1, 1) := dLg_104.2.2.2.2.2
set_option maxRecDepth 100000 in
theorem dLg_105 : decode cL_law 1070 = .ok (.aload_n 0, 1) ∧ decode cL_law 1071 = .ok (.iload 4, 2) ∧ decode cL_law 1073 = .ok (.iconst 1, 1) ∧ decode cL_law 1074 = .ok (.iadd, 1) ∧ decode cL_law 1075 = .ok (.iaload, 1) ∧ decode cL_law 1076 = .ok (.aload_n 0, 1) := by decide +kernel
theorem dL_law_1070 : decode cL_law 1070 = .ok (.aload_n 0, 1) := dLg_105.1
theorem dL_law_1071 : decode cL_law 1071 = .ok (.iload 4, 2) := dLg_105.2.1
theorem dL_law_1073 : decode cL_law 1073 = .ok (.iconst 1, 1) := dLg_105.2.2.1
theorem dL_law_1074 : decode cL_law 1074 = .ok (.iadd, 1) := dLg_105.2.2.2.1
theorem dL_law_1075 : decode cL_law 1075 = .ok (.iaload, 1) := dLg_105.2.2.2.2.1
theorem dL_law_1076 : decode cL_law 1076 = .ok (.aload_n 0, 1) := dLg_105.2.2.2.2.2
set_option maxRecDepth 100000 in
theorem dLg_106 : decode cL_law 1077 = .ok (.iload 4, 2) ∧ decode cL_law 1079 = .ok (.iconst 2, 1) ∧ decode cL_law 1080 = .ok (.iadd, 1) ∧ decode cL_law 1081 = .ok (.iaload, 1) ∧ decode cL_law 1082 = .ok (.aload_n 0, 1) ∧ decode cL_law 1083 = .ok (.iload 4, 2) := by decide +kernel
theorem dL_law_1077 : decode cL_law 1077 = .ok (.iload 4, 2) := dLg_106.1
theorem dL_law_1079 : decode cL_law 1079 = .ok (.iconst 2, 1) := dLg_106.2.1
theorem dL_law_1080 : decode cL_law 1080 = .ok (.iadd, 1) := dLg_106.2.2.1
theorem dL_law_1081 : decode cL_law 1081 = .ok (.iaload, 1) := dLg_106.2.2.2.1
theorem dL_law_1082 : decode cL_law 1082 = .ok (.aload_n 0, 1) := dLg_106.2.2.2.2.1
theorem dL_law_1083 : decode cL_law 1083 = .ok (.iload 4, 2) := dLg_106.2.2.2.2.2
set_option maxRecDepth 100000 in
theorem dLg_107 : decode cL_law 1085 = .ok (.iconst 3, 1) ∧ decode cL_law 1086 = .ok (.iadd, 1) ∧ decode cL_law 1087 = .ok (.iaload, 1) ∧ decode cL_law 1088 = .ok (.aload_n 0, 1) ∧ decode cL_law 1089 = .ok (.iload 4, 2) ∧ decode cL_law 1091 = .ok (.iconst 4, 1) := by decide +kernel
theorem dL_law_1085 : decode cL_law 1085 = .ok (.iconst 3, 1) := dLg_107.1
theorem dL_law_1086 : decode cL_law 1086 = .ok (.iadd, 1) := dLg_107.2.1
theorem dL_law_1087 : decode cL_law 1087 = .ok (.iaload, 1) := dLg_107.2.2.1
theorem dL_law_1088 : decode cL_law 1088 = .ok (.aload_n 0, 1) := dLg_107.2.2.2.1
theorem dL_law_1089 : decode cL_law 1089 = .ok (.iload 4, 2) := dLg_107.2.2.2.2.1
theorem dL_law_1091 : decode cL_law 1091 = .ok (.iconst 4, 1) := dLg_107.2.2.2.2.2
set_option maxRecDepth 100000 in
theorem dLg_108 : decode cL_law 1092 = .ok (.iadd, 1) ∧ decode cL_law 1093 = .ok (.iaload, 1) ∧ decode cL_law 1094 = .ok (.ifCond .eq 7, 3) ∧ decode cL_law 1097 = .ok (.iconst 1, 1) ∧ decode cL_law 1098 = .ok (.goto 4, 3) ∧ decode cL_law 1101 = .ok (.iconst 0, 1) := by decide +kernel
theorem dL_law_1092 : decode cL_law 1092 = .ok (.iadd, 1) := dLg_108.1
theorem dL_law_1093 : decode cL_law 1093 = .ok (.iaload, 1) := dLg_108.2.1
theorem dL_law_1094 : decode cL_law 1094 = .ok (.ifCond .eq 7, 3) := dLg_108.2.2.1
theorem dL_law_1097 : decode cL_law 1097 = .ok (.iconst 1, 1) := dLg_108.2.2.2.1
theorem dL_law_1098 : decode cL_law 1098 = .ok (.goto 4, 3) := dLg_108.2.2.2.2.1
theorem dL_law_1101 : decode cL_law 1101 = .ok (.iconst 0, 1) := dLg_108.2.2.2.2.2
set_option maxRecDepth 100000 in
theorem dLg_109 : decode cL_law 1102 = .ok (.invokevirtual 136, 3) ∧ decode cL_law 1105 = .ok (.pop, 1) ∧ decode cL_law 1106 = .ok (.aload_n 2, 1) ∧ decode cL_law 1107 = .ok (.aload_n 0, 1) ∧ decode cL_law 1108 = .ok (.iload 4, 2) ∧ decode cL_law 1110 = .ok (.iconst 1, 1) := by decide +kernel
theorem dL_law_1102 : decode cL_law 1102 = .ok (.invokevirtual 136, 3) := dLg_109.1
theorem dL_law_1105 : decode cL_law 1105 = .ok (.pop, 1) := dLg_109.2.1
theorem dL_law_1106 : decode cL_law 1106 = .ok (.aload_n 2, 1) := dLg_109.2.2.1
theorem dL_law_1107 : decode cL_law 1107 = .ok (.aload_n 0, 1) := dLg_109.2.2.2.1
theorem dL_law_1108 : decode cL_law 1108 = .ok (.iload 4, 2) := dLg_109.2.2.2.2.1
theorem dL_law_1110 : decode cL_law 1110 = .ok (.iconst 1, 1) := dLg_109.2.2.2.2.2
set_option maxRecDepth 100000 in
theorem dLg_110 : decode cL_law 1111 = .ok (.iadd, 1) ∧ decode cL_law 1112 = .ok (.iaload, 1) ∧ decode cL_law 1113 = .ok (.aload_n 0, 1) ∧ decode cL_law 1114 = .ok (.iload 4, 2) ∧ decode cL_law 1116 = .ok (.iconst 2, 1) ∧ decode cL_law 1117 = .ok (.iadd, 1) := by decide +kernel
theorem dL_law_1111 : decode cL_law 1111 = .ok (.iadd, 1) := dLg_110.1
theorem dL_law_1112 : decode cL_law 1112 = .ok (.iaload, 1) := dLg_110.2.1
theorem dL_law_1113 : decode cL_law 1113 = .ok (.aload_n 0, 1) := dLg_110.2.2.1
theorem dL_law_1114 : decode cL_law 1114 = .ok (.iload 4, 2) := dLg_110.2.2.2.1
theorem dL_law_1116 : decode cL_law 1116 = .ok (.iconst 2, 1) := dLg_110.2.2.2.2.1
theorem dL_law_1117 : decode cL_law 1117 = .ok (.iadd, 1) := dLg_110.2.2.2.2.2
set_option maxRecDepth 100000 in
theorem dLg_111 : decode cL_law 1118 = .ok (.iaload, 1) ∧ decode cL_law 1119 = .ok (.aload_n 0, 1) ∧ decode cL_law 1120 = .ok (.iload 4, 2) ∧ decode cL_law 1122 = .ok (.iconst 3, 1) ∧ decode cL_law 1123 = .ok (.iadd, 1) ∧ decode cL_law 1124 = .ok (.iaload, 1) := by decide +kernel
theorem dL_law_1118 : decode cL_law 1118 = .ok (.iaload, 1) := dLg_111.1
theorem dL_law_1119 : decode cL_law 1119 = .ok (.aload_n 0, 1) := dLg_111.2.1
theorem dL_law_1120 : decode cL_law 1120 = .ok (.iload 4, 2) := dLg_111.2.2.1
theorem dL_law_1122 : decode cL_law 1122 = .ok (.iconst 3, 1) := dLg_111.2.2.2.1
theorem dL_law_1123 : decode cL_law 1123 = .ok (.iadd, 1) := dLg_111.2.2.2.2.1
theorem dL_law_1124 : decode cL_law 1124 = .ok (.iaload, 1) := dLg_111.2.2.2.2.2
set_option maxRecDepth 100000 in
theorem dLg_112 : decode cL_law 1125 = .ok (.aload_n 0, 1) ∧ decode cL_law 1126 = .ok (.iload 4, 2) ∧ decode cL_law 1128 = .ok (.iconst 4, 1) ∧ decode cL_law 1129 = .ok (.iadd, 1) ∧ decode cL_law 1130 = .ok (.iaload, 1) ∧ decode cL_law 1131 = .ok (.ifCond .eq 7, 3) := by decide +kernel
theorem dL_law_1125 : decode cL_law 1125 = .ok (.aload_n 0, 1) := dLg_112.1
theorem dL_law_1126 : decode cL_law 1126 = .ok (.iload 4, 2) := dLg_112.2.1
theorem dL_law_1128 : decode cL_law 1128 = .ok (.iconst 4, 1) := dLg_112.2.2.1
theorem dL_law_1129 : decode cL_law 1129 = .ok (.iadd, 1) := dLg_112.2.2.2.1
theorem dL_law_1130 : decode cL_law 1130 = .ok (.iaload, 1) := dLg_112.2.2.2.2.1
theorem dL_law_1131 : decode cL_law 1131 = .ok (.ifCond .eq 7, 3) := dLg_112.2.2.2.2.2
set_option maxRecDepth 100000 in
theorem dLg_113 : decode cL_law 1134 = .ok (.iconst 1, 1) ∧ decode cL_law 1135 = .ok (.goto 4, 3) ∧ decode cL_law 1138 = .ok (.iconst 0, 1) ∧ decode cL_law 1139 = .ok (.invokevirtual 140, 3) ∧ decode cL_law 1142 = .ok (.pop, 1) ∧ decode cL_law 1143 = .ok (.goto 387, 3) := by decide +kernel
theorem dL_law_1134 : decode cL_law 1134 = .ok (.iconst 1, 1) := dLg_113.1
theorem dL_law_1135 : decode cL_law 1135 = .ok (.goto 4, 3) := dLg_113.2.1
theorem dL_law_1138 : decode cL_law 1138 = .ok (.iconst 0, 1) := dLg_113.2.2.1
theorem dL_law_1139 : decode cL_law 1139 = .ok (.invokevirtual 140, 3) := dLg_113.2.2.2.1
theorem dL_law_1142 : decode cL_law 1142 = .ok (.pop, 1) := dLg_113.2.2.2.2.1
theorem dL_law_1143 : decode cL_law 1143 = .ok (.goto 387, 3) := dLg_113.2.2.2.2.2
set_option maxRecDepth 100000 in
theorem dLg_114 : decode cL_law 1146 = .ok (.aload_n 1, 1) ∧ decode cL_law 1147 = .ok (.aload_n 0, 1) ∧ decode cL_law 1148 = .ok (.iload 4, 2) ∧ decode cL_law 1150 = .ok (.iconst 1, 1) ∧ decode cL_law 1151 = .ok (.iadd, 1) ∧ decode cL_law 1152 = .ok (.iaload, 1) := by decide +kernel
theorem dL_law_1146 : decode cL_law 1146 = .ok (.aload_n 1, 1) := dLg_114.1
theorem dL_law_1147 : decode cL_law 1147 = .ok (.aload_n 0, 1) := dLg_114.2.1
theorem dL_law_1148 : decode cL_law 1148 = .ok (.iload 4, 2) := dLg_114.2.2.1
theorem dL_law_1150 : decode cL_law 1150 = .ok (.iconst 1, 1) := dLg_114.2.2.2.1
theorem dL_law_1151 : decode cL_law 1151 = .ok (.iadd, 1) := dLg_114.2.2.2.2.1
theorem dL_law_1152 : decode cL_law 1152 = .ok (.iaload, 1) := dLg_114.2.2.2.2.2
set_option maxRecDepth 100000 in
theorem dLg_115 : decode cL_law 1153 = .ok (.aload_n 0, 1) ∧ decode cL_law 1154 = .ok (.iload 4, 2) ∧ decode cL_law 1156 = .ok (.iconst 2, 1) ∧ decode cL_law 1157 = .ok (.iadd, 1) ∧ decode cL_law 1158 = .ok (.iaload, 1) ∧ decode cL_law 1159 = .ok (.invokevirtual 141, 3) := by decide +kernel
theorem dL_law_1153 : decode cL_law 1153 = .ok (.aload_n 0, 1) := dLg_115.1
theorem dL_law_1154 : decode cL_law 1154 = .ok (.iload 4, 2) := dLg_115.2.1
theorem dL_law_1156 : decode cL_law 1156 = .ok (.iconst 2, 1) := dLg_115.2.2.1
theorem dL_law_1157 : decode cL_law 1157 = .ok (.iadd, 1) := dLg_115.2.2.2.1
theorem dL_law_1158 : decode cL_law 1158 = .ok (.iaload, 1) := dLg_115.2.2.2.2.1
theorem dL_law_1159 : decode cL_law 1159 = .ok (.invokevirtual 141, 3) := dLg_115.2.2.2.2.2
set_option maxRecDepth 100000 in
theorem dLg_116 : decode cL_law 1162 = .ok (.pop, 1) ∧ decode cL_law 1163 = .ok (.aload_n 2, 1) ∧ decode cL_law 1164 = .ok (.aload_n 0, 1) ∧ decode cL_law 1165 = .ok (.iload 4, 2) ∧ decode cL_law 1167 = .ok (.iconst 1, 1) ∧ decode cL_law 1168 = .ok (.iadd, 1) := by decide +kernel
theorem dL_law_1162 : decode cL_law 1162 = .ok (.pop, 1) := dLg_116.1
theorem dL_law_1163 : decode cL_law 1163 = .ok (.aload_n 2, 1) := dLg_116.2.1
theorem dL_law_1164 : decode cL_law 1164 = .ok (.aload_n 0, 1) := dLg_116.2.2.1
theorem dL_law_1165 : decode cL_law 1165 = .ok (.iload 4, 2) := dLg_116.2.2.2.1
theorem dL_law_1167 : decode cL_law 1167 = .ok (.iconst 1, 1) := dLg_116.2.2.2.2.1
theorem dL_law_1168 : decode cL_law 1168 = .ok (.iadd, 1) := dLg_116.2.2.2.2.2
set_option maxRecDepth 100000 in
theorem dLg_117 : decode cL_law 1169 = .ok (.iaload, 1) ∧ decode cL_law 1170 = .ok (.aload_n 0, 1) ∧ decode cL_law 1171 = .ok (.iload 4, 2) ∧ decode cL_law 1173 = .ok (.iconst 2, 1) ∧ decode cL_law 1174 = .ok (.iadd, 1) ∧ decode cL_law 1175 = .ok (.iaload, 1) := by decide +kernel
theorem dL_law_1169 : decode cL_law 1169 = .ok (.iaload, 1) := dLg_117.1
theorem dL_law_1170 : decode cL_law 1170 = .ok (.aload_n 0, 1) := dLg_117.2.1
theorem dL_law_1171 : decode cL_law 1171 = .ok (.iload 4, 2) := dLg_117.2.2.1
theorem dL_law_1173 : decode cL_law 1173 = .ok (.iconst 2, 1) := dLg_117.2.2.2.1
theorem dL_law_1174 : decode cL_law 1174 = .ok (.iadd, 1) := dLg_117.2.2.2.2.1
theorem dL_law_1175 : decode cL_law 1175 = .ok (.iaload, 1) := dLg_117.2.2.2.2.2
set_option maxRecDepth 100000 in
theorem dLg_118 : decode cL_law 1176 = .ok (.invokevirtual 144, 3) ∧ decode cL_law 1179 = .ok (.pop, 1) ∧ decode cL_law 1180 = .ok (.goto 350, 3) ∧ decode cL_law 1183 = .ok (.aload_n 1, 1) ∧ decode cL_law 1184 = .ok (.aload_n 0, 1) ∧ decode cL_law 1185 = .ok (.iload 4, 2) := by decide +kernel
theorem dL_law_1176 : decode cL_law 1176 = .ok (.invokevirtual 144, 3) := dLg_118.1
theorem dL_law_1179 : decode cL_law 1179 = .ok (.pop, 1) := dLg_118.2.1
theorem dL_law_1180 : decode cL_law 1180 = .ok (.goto 350, 3) := dLg_118.2.2.1
theorem dL_law_1183 : decode cL_law 1183 = .ok (.aload_n 1, 1) := dLg_118.2.2.2.1
theorem dL_law_1184 : decode cL_law 1184 = .ok (.aload_n 0, 1) := dLg_118.2.2.2.2.1
theorem dL_law_1185 : decode cL_law 1185 = .ok (.iload 4, 2) := dLg_118.2.2.2.2.2
set_option maxRecDepth 100000 in
theorem dLg_119 : decode cL_law 1187 = .ok (.iconst 1, 1) ∧ decode cL_law 1188 = .ok (.iadd, 1) ∧ decode cL_law 1189 = .ok (.iaload, 1) ∧ decode cL_law 1190 = .ok (.aload_n 0, 1) ∧ decode cL_law 1191 = .ok (.iload 4, 2) ∧ decode cL_law 1193 = .ok (.iconst 2, 1) := by decide +kernel
theorem dL_law_1187 : decode cL_law 1187 = .ok (.iconst 1, 1) := dLg_119.1
theorem dL_law_1188 : decode cL_law 1188 = .ok (.iadd, 1) := dLg_119.2.1
theorem dL_law_1189 : decode cL_law 1189 = .ok (.iaload, 1) := dLg_119.2.2.1
theorem dL_law_1190 : decode cL_law 1190 = .ok (.aload_n 0, 1) := dLg_119.2.2.2.1
theorem dL_law_1191 : decode cL_law 1191 = .ok (.iload 4, 2) := dLg_119.2.2.2.2.1
theorem dL_law_1193 : decode cL_law 1193 = .ok (.iconst 2, 1) := dLg_119.2.2.2.2.2
set_option maxRecDepth 100000 in
theorem dLg_120 : decode cL_law 1194 = .ok (.iadd, 1) ∧ decode cL_law 1195 = .ok (.iaload, 1) ∧ decode cL_law 1196 = .ok (.invokevirtual 145, 3) ∧ decode cL_law 1199 = .ok (.pop, 1) ∧ decode cL_law 1200 = .ok (.aload_n 2, 1) ∧ decode cL_law 1201 = .ok (.aload_n 0, 1) := by decide +kernel
theorem dL_law_1194 : decode cL_law 1194 = .ok (.iadd, 1) := dLg_120.1
theorem dL_law_1195 : decode cL_law 1195 = .ok (.iaload, 1) := dLg_120.2.1
theorem dL_law_1196 : decode cL_law 1196 = .ok (.invokevirtual 145, 3) := dLg_120.2.2.1
theorem dL_law_1199 : decode cL_law 1199 = .ok (.pop, 1) := dLg_120.2.2.2.1
theorem dL_law_1200 : decode cL_law 1200 = .ok (.aload_n 2, 1) := dLg_120.2.2.2.2.1
theorem dL_law_1201 : decode cL_law 1201 = .ok (.aload_n 0, 1) := dLg_120.2.2.2.2.2
set_option maxRecDepth 100000 in
theorem dLg_121 : decode cL_law 1202 = .ok (.iload 4, 2) ∧ decode cL_law 1204 = .ok (.iconst 1, 1) ∧ decode cL_law 1205 = .ok (.iadd, 1) ∧ decode cL_law 1206 = .ok (.iaload, 1) ∧ decode cL_law 1207 = .ok (.aload_n 0, 1) ∧ decode cL_law 1208 = .ok (.iload 4, 2) := by decide +kernel
theorem dL_law_1202 : decode cL_law 1202 = .ok (.iload 4, 2) := dLg_121.1
theorem dL_law_1204 : decode cL_law 1204 = .ok (.iconst 1, 1) := dLg_121.2.1
theorem dL_law_1205 : decode cL_law 1205 = .ok (.iadd, 1) := dLg_121.2.2.1
theorem dL_law_1206 : decode cL_law 1206 = .ok (.iaload, 1) := dLg_121.2.2.2.1
theorem dL_law_1207 : decode cL_law 1207 = .ok (.aload_n 0, 1) := dLg_121.2.2.2.2.1
theorem dL_law_1208 : decode cL_law 1208 = .ok (.iload 4, 2) := dLg_121.2.2.2.2.2
set_option maxRecDepth 100000 in
theorem dLg_122 : decode cL_law 1210 = .ok (.iconst 2, 1) ∧ decode cL_law 1211 = .ok (.iadd, 1) ∧ decode cL_law 1212 = .ok (.iaload, 1) ∧ decode cL_law 1213 = .ok (.invokevirtual 148, 3) ∧ decode cL_law 1216 = .ok (.pop, 1) ∧ decode cL_law 1217 = .ok (.goto 313, 3) := by decide +kernel
theorem dL_law_1210 : decode cL_law 1210 = .ok (.iconst 2, 1) := dLg_122.1
theorem dL_law_1211 : decode cL_law 1211 = .ok (.iadd, 1) := dLg_122.2.1
theorem dL_law_1212 : decode cL_law 1212 = .ok (.iaload, 1) := dLg_122.2.2.1
theorem dL_law_1213 : decode cL_law 1213 = .ok (.invokevirtual 148, 3) := dLg_122.2.2.2.1
theorem dL_law_1216 : decode cL_law 1216 = .ok (.pop, 1) := dLg_122.2.2.2.2.1
theorem dL_law_1217 : decode cL_law 1217 = .ok (.goto 313, 3) := dLg_122.2.2.2.2.2
set_option maxRecDepth 100000 in
theorem dLg_123 : decode cL_law 1220 = .ok (.aload_n 1, 1) ∧ decode cL_law 1221 = .ok (.aload_n 0, 1) ∧ decode cL_law 1222 = .ok (.iload 4, 2) ∧ decode cL_law 1224 = .ok (.iconst 1, 1) ∧ decode cL_law 1225 = .ok (.iadd, 1) ∧ decode cL_law 1226 = .ok (.iaload, 1) := by decide +kernel
theorem dL_law_1220 : decode cL_law 1220 = .ok (.aload_n 1, 1) := dLg_123.1
theorem dL_law_1221 : decode cL_law 1221 = .ok (.aload_n 0, 1) := dLg_123.2.1
theorem dL_law_1222 : decode cL_law 1222 = .ok (.iload 4, 2) := dLg_123.2.2.1
theorem dL_law_1224 : decode cL_law 1224 = .ok (.iconst 1, 1) := dLg_123.2.2.2.1
theorem dL_law_1225 : decode cL_law 1225 = .ok (.iadd, 1) := dLg_123.2.2.2.2.1
theorem dL_law_1226 : decode cL_law 1226 = .ok (.iaload, 1) := dLg_123.2.2.2.2.2
set_option maxRecDepth 100000 in
theorem dLg_124 : decode cL_law 1227 = .ok (.aload_n 0, 1) ∧ decode cL_law 1228 = .ok (.iload 4, 2) ∧ decode cL_law 1230 = .ok (.iconst 2, 1) ∧ decode cL_law 1231 = .ok (.iadd, 1) ∧ decode cL_law 1232 = .ok (.iaload, 1) ∧ decode cL_law 1233 = .ok (.aload_n 0, 1) := by decide +kernel
theorem dL_law_1227 : decode cL_law 1227 = .ok (.aload_n 0, 1) := dLg_124.1
theorem dL_law_1228 : decode cL_law 1228 = .ok (.iload 4, 2) := dLg_124.2.1
theorem dL_law_1230 : decode cL_law 1230 = .ok (.iconst 2, 1) := dLg_124.2.2.1
theorem dL_law_1231 : decode cL_law 1231 = .ok (.iadd, 1) := dLg_124.2.2.2.1
theorem dL_law_1232 : decode cL_law 1232 = .ok (.iaload, 1) := dLg_124.2.2.2.2.1
theorem dL_law_1233 : decode cL_law 1233 = .ok (.aload_n 0, 1) := dLg_124.2.2.2.2.2
set_option maxRecDepth 100000 in
theorem dLg_125 : decode cL_law 1234 = .ok (.iload 4, 2) ∧ decode cL_law 1236 = .ok (.iconst 3, 1) ∧ decode cL_law 1237 = .ok (.iadd, 1) ∧ decode cL_law 1238 = .ok (.iaload, 1) ∧ decode cL_law 1239 = .ok (.invokevirtual 149, 3) ∧ decode cL_law 1242 = .ok (.pop, 1) := by decide +kernel
theorem dL_law_1234 : decode cL_law 1234 = .ok (.iload 4, 2) := dLg_125.1
theorem dL_law_1236 : decode cL_law 1236 = .ok (.iconst 3, 1) := dLg_125.2.1
theorem dL_law_1237 : decode cL_law 1237 = .ok (.iadd, 1) := dLg_125.2.2.1
theorem dL_law_1238 : decode cL_law 1238 = .ok (.iaload, 1) := dLg_125.2.2.2.1
theorem dL_law_1239 : decode cL_law 1239 = .ok (.invokevirtual 149, 3) := dLg_125.2.2.2.2.1
theorem dL_law_1242 : decode cL_law 1242 = .ok (.pop, 1) := dLg_125.2.2.2.2.2
set_option maxRecDepth 100000 in
theorem dLg_126 : decode cL_law 1243 = .ok (.aload_n 2, 1) ∧ decode cL_law 1244 = .ok (.aload_n 0, 1) ∧ decode cL_law 1245 = .ok (.iload 4, 2) ∧ decode cL_law 1247 = .ok (.iconst 1, 1) ∧ decode cL_law 1248 = .ok (.iadd, 1) ∧ decode cL_law 1249 = .ok (.iaload, 1) := by decide +kernel
theorem dL_law_1243 : decode cL_law 1243 = .ok (.aload_n 2, 1) := dLg_126.1
theorem dL_law_1244 : decode cL_law 1244 = .ok (.aload_n 0, 1) := dLg_126.2.1
theorem dL_law_1245 : decode cL_law 1245 = .ok (.iload 4, 2) := dLg_126.2.2.1
theorem dL_law_1247 : decode cL_law 1247 = .ok (.iconst 1, 1) := dLg_126.2.2.2.1
theorem dL_law_1248 : decode cL_law 1248 = .ok (.iadd, 1) := dLg_126.2.2.2.2.1
theorem dL_law_1249 : decode cL_law 1249 = .ok (.iaload, 1) := dLg_126.2.2.2.2.2
set_option maxRecDepth 100000 in
theorem dLg_127 : decode cL_law 1250 = .ok (.aload_n 0, 1) ∧ decode cL_law 1251 = .ok (.iload 4, 2) ∧ decode cL_law 1253 = .ok (.iconst 2, 1) ∧ decode cL_law 1254 = .ok (.iadd, 1) ∧ decode cL_law 1255 = .ok (.iaload, 1) ∧ decode cL_law 1256 = .ok (.aload_n 0, 1) := by decide +kernel
theorem dL_law_1250 : decode cL_law 1250 = .ok (.aload_n 0, 1) := dLg_127.1
theorem dL_law_1251 : decode cL_law 1251 = .ok (.iload 4, 2) := dLg_127.2.1
theorem dL_law_1253 : decode cL_law 1253 = .ok (.iconst 2, 1) := dLg_127.2.2.1
theorem dL_law_1254 : decode cL_law 1254 = .ok (.iadd, 1) := dLg_127.2.2.2.1
theorem dL_law_1255 : decode cL_law 1255 = .ok (.iaload, 1) := dLg_127.2.2.2.2.1
theorem dL_law_1256 : decode cL_law 1256 = .ok (.aload_n 0, 1) := dLg_127.2.2.2.2.2
set_option maxRecDepth 100000 in
theorem dLg_128 : decode cL_law 1257 = .ok (.iload 4, 2) ∧ decode cL_law 1259 = .ok (.iconst 3, 1) ∧ decode cL_law 1260 = .ok (.iadd, 1) ∧ decode cL_law 1261 = .ok (.iaload, 1) ∧ decode cL_law 1262 = .ok (.invokevirtual 152, 3) ∧ decode cL_law 1265 = .ok (.pop, 1) := by decide +kernel
theorem dL_law_1257 : decode cL_law 1257 = .ok (.iload 4, 2) := dLg_128.1
theorem dL_law_1259 : decode cL_law 1259 = .ok (.iconst 3, 1) := dLg_128.2.1
theorem dL_law_1260 : decode cL_law 1260 = .ok (.iadd, 1) := dLg_128.2.2.1
theorem dL_law_1261 : decode cL_law 1261 = .ok (.iaload, 1) := dLg_128.2.2.2.1
theorem dL_law_1262 : decode cL_law 1262 = .ok (.invokevirtual 152, 3) := dLg_128.2.2.2.2.1
theorem dL_law_1265 : decode cL_law 1265 = .ok (.pop, 1) := dLg_128.2.2.2.2.2
set_option maxRecDepth 100000 in
theorem dLg_129 : decode cL_law 1266 = .ok (.goto 264, 3) ∧ decode cL_law 1269 = .ok (.aload_n 1, 1) ∧ decode cL_law 1270 = .ok (.aload_n 0, 1) ∧ decode cL_law 1271 = .ok (.iload 4, 2) ∧ decode cL_law 1273 = .ok (.iconst 1, 1) ∧ decode cL_law 1274 = .ok (.iadd, 1) := by decide +kernel
theorem dL_law_1266 : decode cL_law 1266 = .ok (.goto 264, 3) := dLg_129.1
theorem dL_law_1269 : decode cL_law 1269 = .ok (.aload_n 1, 1) := dLg_129.2.1
theorem dL_law_1270 : decode cL_law 1270 = .ok (.aload_n 0, 1) := dLg_129.2.2.1
theorem dL_law_1271 : decode cL_law 1271 = .ok (.iload 4, 2) := dLg_129.2.2.2.1
theorem dL_law_1273 : decode cL_law 1273 = .ok (.iconst 1, 1) := dLg_129.2.2.2.2.1
theorem dL_law_1274 : decode cL_law 1274 = .ok (.iadd, 1) := dLg_129.2.2.2.2.2
set_option maxRecDepth 100000 in
theorem dLg_130 : decode cL_law 1275 = .ok (.iaload, 1) ∧ decode cL_law 1276 = .ok (.invokevirtual 153, 3) ∧ decode cL_law 1279 = .ok (.pop, 1) ∧ decode cL_law 1280 = .ok (.aload_n 2, 1) ∧ decode cL_law 1281 = .ok (.aload_n 0, 1) ∧ decode cL_law 1282 = .ok (.iload 4, 2) := by decide +kernel
theorem dL_law_1275 : decode cL_law 1275 = .ok (.iaload, 1) := dLg_130.1
theorem dL_law_1276 : decode cL_law 1276 = .ok (.invokevirtual 153, 3) := dLg_130.2.1
theorem dL_law_1279 : decode cL_law 1279 = .ok (.pop, 1) := dLg_130.2.2.1
theorem dL_law_1280 : decode cL_law 1280 = .ok (.aload_n 2, 1) := dLg_130.2.2.2.1
theorem dL_law_1281 : decode cL_law 1281 = .ok (.aload_n 0, 1) := dLg_130.2.2.2.2.1
theorem dL_law_1282 : decode cL_law 1282 = .ok (.iload 4, 2) := dLg_130.2.2.2.2.2
set_option maxRecDepth 100000 in
theorem dLg_131 : decode cL_law 1284 = .ok (.iconst 1, 1) ∧ decode cL_law 1285 = .ok (.iadd, 1) ∧ decode cL_law 1286 = .ok (.iaload, 1) ∧ decode cL_law 1287 = .ok (.invokevirtual 156, 3) ∧ decode cL_law 1290 = .ok (.pop, 1) ∧ decode cL_law 1291 = .ok (.goto 239, 3) := by decide +kernel
theorem dL_law_1284 : decode cL_law 1284 = .ok (.iconst 1, 1) := dLg_131.1
theorem dL_law_1285 : decode cL_law 1285 = .ok (.iadd, 1) := dLg_131.2.1
theorem dL_law_1286 : decode cL_law 1286 = .ok (.iaload, 1) := dLg_131.2.2.1
theorem dL_law_1287 : decode cL_law 1287 = .ok (.invokevirtual 156, 3) := dLg_131.2.2.2.1
theorem dL_law_1290 : decode cL_law 1290 = .ok (.pop, 1) := dLg_131.2.2.2.2.1
theorem dL_law_1291 : decode cL_law 1291 = .ok (.goto 239, 3) := dLg_131.2.2.2.2.2
set_option maxRecDepth 100000 in
theorem dLg_132 : decode cL_law 1294 = .ok (.aload_n 1, 1) ∧ decode cL_law 1295 = .ok (.aload_n 0, 1) ∧ decode cL_law 1296 = .ok (.iload 4, 2) ∧ decode cL_law 1298 = .ok (.iconst 1, 1) ∧ decode cL_law 1299 = .ok (.iadd, 1) ∧ decode cL_law 1300 = .ok (.iaload, 1) := by decide +kernel
theorem dL_law_1294 : decode cL_law 1294 = .ok (.aload_n 1, 1) := dLg_132.1
theorem dL_law_1295 : decode cL_law 1295 = .ok (.aload_n 0, 1) := dLg_132.2.1
theorem dL_law_1296 : decode cL_law 1296 = .ok (.iload 4, 2) := dLg_132.2.2.1
theorem dL_law_1298 : decode cL_law 1298 = .ok (.iconst 1, 1) := dLg_132.2.2.2.1
theorem dL_law_1299 : decode cL_law 1299 = .ok (.iadd, 1) := dLg_132.2.2.2.2.1
theorem dL_law_1300 : decode cL_law 1300 = .ok (.iaload, 1) := dLg_132.2.2.2.2.2
set_option maxRecDepth 100000 in
theorem dLg_133 : decode cL_law 1301 = .ok (.invokevirtual 157, 3) ∧ decode cL_law 1304 = .ok (.pop, 1) ∧ decode cL_law 1305 = .ok (.aload_n 2, 1) ∧ decode cL_law 1306 = .ok (.aload_n 0, 1) ∧ decode cL_law 1307 = .ok (.iload 4, 2) ∧ decode cL_law 1309 = .ok (.iconst 1, 1) := by decide +kernel
theorem dL_law_1301 : decode cL_law 1301 = .ok (.invokevirtual 157, 3) := dLg_133.1
theorem dL_law_1304 : decode cL_law 1304 = .ok (.pop, 1) := dLg_133.2.1
theorem dL_law_1305 : decode cL_law 1305 = .ok (.aload_n 2, 1) := dLg_133.2.2.1
theorem dL_law_1306 : decode cL_law 1306 = .ok (.aload_n 0, 1) := dLg_133.2.2.2.1
theorem dL_law_1307 : decode cL_law 1307 = .ok (.iload 4, 2) := dLg_133.2.2.2.2.1
theorem dL_law_1309 : decode cL_law 1309 = .ok (.iconst 1, 1) := dLg_133.2.2.2.2.2
set_option maxRecDepth 100000 in
theorem dLg_134 : decode cL_law 1310 = .ok (.iadd, 1) ∧ decode cL_law 1311 = .ok (.iaload, 1) ∧ decode cL_law 1312 = .ok (.invokevirtual 160, 3) ∧ decode cL_law 1315 = .ok (.pop, 1) ∧ decode cL_law 1316 = .ok (.goto 214, 3) ∧ decode cL_law 1319 = .ok (.aload_n 1, 1) := by decide +kernel
theorem dL_law_1310 : decode cL_law 1310 = .ok (.iadd, 1) := dLg_134.1
theorem dL_law_1311 : decode cL_law 1311 = .ok (.iaload, 1) := dLg_134.2.1
theorem dL_law_1312 : decode cL_law 1312 = .ok (.invokevirtual 160, 3) := dLg_134.2.2.1
theorem dL_law_1315 : decode cL_law 1315 = .ok (.pop, 1) := dLg_134.2.2.2.1
theorem dL_law_1316 : decode cL_law 1316 = .ok (.goto 214, 3) := dLg_134.2.2.2.2.1
theorem dL_law_1319 : decode cL_law 1319 = .ok (.aload_n 1, 1) := dLg_134.2.2.2.2.2
set_option maxRecDepth 100000 in
theorem dLg_135 : decode cL_law 1320 = .ok (.aload_n 0, 1) ∧ decode cL_law 1321 = .ok (.iload 4, 2) ∧ decode cL_law 1323 = .ok (.iconst 1, 1) ∧ decode cL_law 1324 = .ok (.iadd, 1) ∧ decode cL_law 1325 = .ok (.iaload, 1) ∧ decode cL_law 1326 = .ok (.aload_n 0, 1) := by decide +kernel
theorem dL_law_1320 : decode cL_law 1320 = .ok (.aload_n 0, 1) := dLg_135.1
theorem dL_law_1321 : decode cL_law 1321 = .ok (.iload 4, 2) := dLg_135.2.1
theorem dL_law_1323 : decode cL_law 1323 = .ok (.iconst 1, 1) := dLg_135.2.2.1
theorem dL_law_1324 : decode cL_law 1324 = .ok (.iadd, 1) := dLg_135.2.2.2.1
theorem dL_law_1325 : decode cL_law 1325 = .ok (.iaload, 1) := dLg_135.2.2.2.2.1
theorem dL_law_1326 : decode cL_law 1326 = .ok (.aload_n 0, 1) := dLg_135.2.2.2.2.2
set_option maxRecDepth 100000 in
theorem dLg_136 : decode cL_law 1327 = .ok (.iload 4, 2) ∧ decode cL_law 1329 = .ok (.iconst 2, 1) ∧ decode cL_law 1330 = .ok (.iadd, 1) ∧ decode cL_law 1331 = .ok (.iaload, 1) ∧ decode cL_law 1332 = .ok (.aload_n 0, 1) ∧ decode cL_law 1333 = .ok (.iload 4, 2) := by decide +kernel
theorem dL_law_1327 : decode cL_law 1327 = .ok (.iload 4, 2) := dLg_136.1
theorem dL_law_1329 : decode cL_law 1329 = .ok (.iconst 2, 1) := dLg_136.2.1
theorem dL_law_1330 : decode cL_law 1330 = .ok (.iadd, 1) := dLg_136.2.2.1
theorem dL_law_1331 : decode cL_law 1331 = .ok (.iaload, 1) := dLg_136.2.2.2.1
theorem dL_law_1332 : decode cL_law 1332 = .ok (.aload_n 0, 1) := dLg_136.2.2.2.2.1
theorem dL_law_1333 : decode cL_law 1333 = .ok (.iload 4, 2) := dLg_136.2.2.2.2.2
set_option maxRecDepth 100000 in
theorem dLg_137 : decode cL_law 1335 = .ok (.iconst 3, 1) ∧ decode cL_law 1336 = .ok (.iadd, 1) ∧ decode cL_law 1337 = .ok (.iaload, 1) ∧ decode cL_law 1338 = .ok (.aload_n 0, 1) ∧ decode cL_law 1339 = .ok (.iload 4, 2) ∧ decode cL_law 1341 = .ok (.iconst 4, 1) := by decide +kernel
theorem dL_law_1335 : decode cL_law 1335 = .ok (.iconst 3, 1) := dLg_137.1
theorem dL_law_1336 : decode cL_law 1336 = .ok (.iadd, 1) := dLg_137.2.1
theorem dL_law_1337 : decode cL_law 1337 = .ok (.iaload, 1) := dLg_137.2.2.1
theorem dL_law_1338 : decode cL_law 1338 = .ok (.aload_n 0, 1) := dLg_137.2.2.2.1
theorem dL_law_1339 : decode cL_law 1339 = .ok (.iload 4, 2) := dLg_137.2.2.2.2.1
theorem dL_law_1341 : decode cL_law 1341 = .ok (.iconst 4, 1) := dLg_137.2.2.2.2.2
set_option maxRecDepth 100000 in
theorem dLg_138 : decode cL_law 1342 = .ok (.iadd, 1) ∧ decode cL_law 1343 = .ok (.iaload, 1) ∧ decode cL_law 1344 = .ok (.aload_n 0, 1) ∧ decode cL_law 1345 = .ok (.iload 4, 2) ∧ decode cL_law 1347 = .ok (.iconst 5, 1) ∧ decode cL_law 1348 = .ok (.iadd, 1) := by decide +kernel
theorem dL_law_1342 : decode cL_law 1342 = .ok (.iadd, 1) := dLg_138.1
theorem dL_law_1343 : decode cL_law 1343 = .ok (.iaload, 1) := dLg_138.2.1
theorem dL_law_1344 : decode cL_law 1344 = .ok (.aload_n 0, 1) := dLg_138.2.2.1
theorem dL_law_1345 : decode cL_law 1345 = .ok (.iload 4, 2) := dLg_138.2.2.2.1
theorem dL_law_1347 : decode cL_law 1347 = .ok (.iconst 5, 1) := dLg_138.2.2.2.2.1
theorem dL_law_1348 : decode cL_law 1348 = .ok (.iadd, 1) := dLg_138.2.2.2.2.2
set_option maxRecDepth 100000 in
theorem dLg_139 : decode cL_law 1349 = .ok (.iaload, 1) ∧ decode cL_law 1350 = .ok (.invokevirtual 161, 3) ∧ decode cL_law 1353 = .ok (.pop, 1) ∧ decode cL_law 1354 = .ok (.aload_n 2, 1) ∧ decode cL_law 1355 = .ok (.aload_n 0, 1) ∧ decode cL_law 1356 = .ok (.iload 4, 2) := by decide +kernel
theorem dL_law_1349 : decode cL_law 1349 = .ok (.iaload, 1) := dLg_139.1
theorem dL_law_1350 : decode cL_law 1350 = .ok (.invokevirtual 161, 3) := dLg_139.2.1
theorem dL_law_1353 : decode cL_law 1353 = .ok (.pop, 1) := dLg_139.2.2.1
theorem dL_law_1354 : decode cL_law 1354 = .ok (.aload_n 2, 1) := dLg_139.2.2.2.1
theorem dL_law_1355 : decode cL_law 1355 = .ok (.aload_n 0, 1) := dLg_139.2.2.2.2.1
theorem dL_law_1356 : decode cL_law 1356 = .ok (.iload 4, 2) := dLg_139.2.2.2.2.2
set_option maxRecDepth 100000 in
theorem dLg_140 : decode cL_law 1358 = .ok (.iconst 1, 1) ∧ decode cL_law 1359 = .ok (.iadd, 1) ∧ decode cL_law 1360 = .ok (.iaload, 1) ∧ decode cL_law 1361 = .ok (.aload_n 0, 1) ∧ decode cL_law 1362 = .ok (.iload 4, 2) ∧ decode cL_law 1364 = .ok (.iconst 2, 1) := by decide +kernel
theorem dL_law_1358 : decode cL_law 1358 = .ok (.iconst 1, 1) := dLg_140.1
theorem dL_law_1359 : decode cL_law 1359 = .ok (.iadd, 1) := dLg_140.2.1
theorem dL_law_1360 : decode cL_law 1360 = .ok (.iaload, 1) := dLg_140.2.2.1
theorem dL_law_1361 : decode cL_law 1361 = .ok (.aload_n 0, 1) := dLg_140.2.2.2.1
theorem dL_law_1362 : decode cL_law 1362 = .ok (.iload 4, 2) := dLg_140.2.2.2.2.1
theorem dL_law_1364 : decode cL_law 1364 = .ok (.iconst 2, 1) := dLg_140.2.2.2.2.2
set_option maxRecDepth 100000 in
theorem dLg_141 : decode cL_law 1365 = .ok (.iadd, 1) ∧ decode cL_law 1366 = .ok (.iaload, 1) ∧ decode cL_law 1367 = .ok (.aload_n 0, 1) ∧ decode cL_law 1368 = .ok (.iload 4, 2) ∧ decode cL_law 1370 = .ok (.iconst 3, 1) ∧ decode cL_law 1371 = .ok (.iadd, 1) := by decide +kernel
theorem dL_law_1365 : decode cL_law 1365 = .ok (.iadd, 1) := dLg_141.1
theorem dL_law_1366 : decode cL_law 1366 = .ok (.iaload, 1) := dLg_141.2.1
theorem dL_law_1367 : decode cL_law 1367 = .ok (.aload_n 0, 1) := dLg_141.2.2.1
theorem dL_law_1368 : decode cL_law 1368 = .ok (.iload 4, 2) := dLg_141.2.2.2.1
theorem dL_law_1370 : decode cL_law 1370 = .ok (.iconst 3, 1) := dLg_141.2.2.2.2.1
theorem dL_law_1371 : decode cL_law 1371 = .ok (.iadd, 1) := dLg_141.2.2.2.2.2
set_option maxRecDepth 100000 in
theorem dLg_142 : decode cL_law 1372 = .ok (.iaload, 1) ∧ decode cL_law 1373 = .ok (.aload_n 0, 1) ∧ decode cL_law 1374 = .ok (.iload 4, 2) ∧ decode cL_law 1376 = .ok (.iconst 4, 1) ∧ decode cL_law 1377 = .ok (.iadd, 1) ∧ decode cL_law 1378 = .ok (.iaload, 1) := by decide +kernel
theorem dL_law_1372 : decode cL_law 1372 = .ok (.iaload, 1) := dLg_142.1
theorem dL_law_1373 : decode cL_law 1373 = .ok (.aload_n 0, 1) := dLg_142.2.1
theorem dL_law_1374 : decode cL_law 1374 = .ok (.iload 4, 2) := dLg_142.2.2.1
theorem dL_law_1376 : decode cL_law 1376 = .ok (.iconst 4, 1) := dLg_142.2.2.2.1
theorem dL_law_1377 : decode cL_law 1377 = .ok (.iadd, 1) := dLg_142.2.2.2.2.1
theorem dL_law_1378 : decode cL_law 1378 = .ok (.iaload, 1) := dLg_142.2.2.2.2.2
set_option maxRecDepth 100000 in
theorem dLg_143 : decode cL_law 1379 = .ok (.aload_n 0, 1) ∧ decode cL_law 1380 = .ok (.iload 4, 2) ∧ decode cL_law 1382 = .ok (.iconst 5, 1) ∧ decode cL_law 1383 = .ok (.iadd, 1) ∧ decode cL_law 1384 = .ok (.iaload, 1) ∧ decode cL_law 1385 = .ok (.invokevirtual 164, 3) := by decide +kernel
theorem dL_law_1379 : decode cL_law 1379 = .ok (.aload_n 0, 1) := dLg_143.1
theorem dL_law_1380 : decode cL_law 1380 = .ok (.iload 4, 2) := dLg_143.2.1
theorem dL_law_1382 : decode cL_law 1382 = .ok (.iconst 5, 1) := dLg_143.2.2.1
theorem dL_law_1383 : decode cL_law 1383 = .ok (.iadd, 1) := dLg_143.2.2.2.1
theorem dL_law_1384 : decode cL_law 1384 = .ok (.iaload, 1) := dLg_143.2.2.2.2.1
theorem dL_law_1385 : decode cL_law 1385 = .ok (.invokevirtual 164, 3) := dLg_143.2.2.2.2.2
set_option maxRecDepth 100000 in
theorem dLg_144 : decode cL_law 1388 = .ok (.pop, 1) ∧ decode cL_law 1389 = .ok (.goto 141, 3) ∧ decode cL_law 1392 = .ok (.aload_n 1, 1) ∧ decode cL_law 1393 = .ok (.aload_n 0, 1) ∧ decode cL_law 1394 = .ok (.iload 4, 2) ∧ decode cL_law 1396 = .ok (.iconst 1, 1) := by decide +kernel
theorem dL_law_1388 : decode cL_law 1388 = .ok (.pop, 1) := dLg_144.1
theorem dL_law_1389 : decode cL_law 1389 = .ok (.goto 141, 3) := dLg_144.2.1
theorem dL_law_1392 : decode cL_law 1392 = .ok (.aload_n 1, 1) := dLg_144.2.2.1
theorem dL_law_1393 : decode cL_law 1393 = .ok (.aload_n 0, 1) := dLg_144.2.2.2.1
theorem dL_law_1394 : decode cL_law 1394 = .ok (.iload 4, 2) := dLg_144.2.2.2.2.1
theorem dL_law_1396 : decode cL_law 1396 = .ok (.iconst 1, 1) := dLg_144.2.2.2.2.2
set_option maxRecDepth 100000 in
theorem dLg_145 : decode cL_law 1397 = .ok (.iadd, 1) ∧ decode cL_law 1398 = .ok (.iaload, 1) ∧ decode cL_law 1399 = .ok (.aload_n 0, 1) ∧ decode cL_law 1400 = .ok (.iload 4, 2) ∧ decode cL_law 1402 = .ok (.iconst 2, 1) ∧ decode cL_law 1403 = .ok (.iadd, 1) := by decide +kernel
theorem dL_law_1397 : decode cL_law 1397 = .ok (.iadd, 1) := dLg_145.1
theorem dL_law_1398 : decode cL_law 1398 = .ok (.iaload, 1) := dLg_145.2.1
theorem dL_law_1399 : decode cL_law 1399 = .ok (.aload_n 0, 1) := dLg_145.2.2.1
theorem dL_law_1400 : decode cL_law 1400 = .ok (.iload 4, 2) := dLg_145.2.2.2.1
theorem dL_law_1402 : decode cL_law 1402 = .ok (.iconst 2, 1) := dLg_145.2.2.2.2.1
theorem dL_law_1403 : decode cL_law 1403 = .ok (.iadd, 1) := dLg_145.2.2.2.2.2
set_option maxRecDepth 100000 in
theorem dLg_146 : decode cL_law 1404 = .ok (.iaload, 1) ∧ decode cL_law 1405 = .ok (.invokevirtual 165, 3) ∧ decode cL_law 1408 = .ok (.pop, 1) ∧ decode cL_law 1409 = .ok (.aload_n 2, 1) ∧ decode cL_law 1410 = .ok (.aload_n 0, 1) ∧ decode cL_law 1411 = .ok (.iload 4, 2) := by decide +kernel
theorem dL_law_1404 : decode cL_law 1404 = .ok (.iaload, 1) := dLg_146.1
theorem dL_law_1405 : decode cL_law 1405 = .ok (.invokevirtual 165, 3) := dLg_146.2.1
theorem dL_law_1408 : decode cL_law 1408 = .ok (.pop, 1) := dLg_146.2.2.1
theorem dL_law_1409 : decode cL_law 1409 = .ok (.aload_n 2, 1) := dLg_146.2.2.2.1
theorem dL_law_1410 : decode cL_law 1410 = .ok (.aload_n 0, 1) := dLg_146.2.2.2.2.1
theorem dL_law_1411 : decode cL_law 1411 = .ok (.iload 4, 2) := dLg_146.2.2.2.2.2
set_option maxRecDepth 100000 in
theorem dLg_147 : decode cL_law 1413 = .ok (.iconst 1, 1) ∧ decode cL_law 1414 = .ok (.iadd, 1) ∧ decode cL_law 1415 = .ok (.iaload, 1) ∧ decode cL_law 1416 = .ok (.aload_n 0, 1) ∧ decode cL_law 1417 = .ok (.iload 4, 2) ∧ decode cL_law 1419 = .ok (.iconst 2, 1) := by decide +kernel
theorem dL_law_1413 : decode cL_law 1413 = .ok (.iconst 1, 1) := dLg_147.1
theorem dL_law_1414 : decode cL_law 1414 = .ok (.iadd, 1) := dLg_147.2.1
theorem dL_law_1415 : decode cL_law 1415 = .ok (.iaload, 1) := dLg_147.2.2.1
theorem dL_law_1416 : decode cL_law 1416 = .ok (.aload_n 0, 1) := dLg_147.2.2.2.1
theorem dL_law_1417 : decode cL_law 1417 = .ok (.iload 4, 2) := dLg_147.2.2.2.2.1
theorem dL_law_1419 : decode cL_law 1419 = .ok (.iconst 2, 1) := dLg_147.2.2.2.2.2
set_option maxRecDepth 100000 in
theorem dLg_148 : decode cL_law 1420 = .ok (.iadd, 1) ∧ decode cL_law 1421 = .ok (.iaload, 1) ∧ decode cL_law 1422 = .ok (.invokevirtual 168, 3) ∧ decode cL_law 1425 = .ok (.pop, 1) ∧ decode cL_law 1426 = .ok (.goto 104, 3) ∧ decode cL_law 1429 = .ok (.aload_n 1, 1) := by decide +kernel
theorem dL_law_1420 : decode cL_law 1420 = .ok (.iadd, 1) := dLg_148.1
theorem dL_law_1421 : decode cL_law 1421 = .ok (.iaload, 1) := dLg_148.2.1
theorem dL_law_1422 : decode cL_law 1422 = .ok (.invokevirtual 168, 3) := dLg_148.2.2.1
theorem dL_law_1425 : decode cL_law 1425 = .ok (.pop, 1) := dLg_148.2.2.2.1
theorem dL_law_1426 : decode cL_law 1426 = .ok (.goto 104, 3) := dLg_148.2.2.2.2.1
theorem dL_law_1429 : decode cL_law 1429 = .ok (.aload_n 1, 1) := dLg_148.2.2.2.2.2
set_option maxRecDepth 100000 in
theorem dLg_149 : decode cL_law 1430 = .ok (.aload_n 0, 1) ∧ decode cL_law 1431 = .ok (.iload 4, 2) ∧ decode cL_law 1433 = .ok (.iconst 1, 1) ∧ decode cL_law 1434 = .ok (.iadd, 1) ∧ decode cL_law 1435 = .ok (.iaload, 1) ∧ decode cL_law 1436 = .ok (.invokevirtual 169, 3) := by decide +kernel
theorem dL_law_1430 : decode cL_law 1430 = .ok (.aload_n 0, 1) := dLg_149.1
theorem dL_law_1431 : decode cL_law 1431 = .ok (.iload 4, 2) := dLg_149.2.1
theorem dL_law_1433 : decode cL_law 1433 = .ok (.iconst 1, 1) := dLg_149.2.2.1
theorem dL_law_1434 : decode cL_law 1434 = .ok (.iadd, 1) := dLg_149.2.2.2.1
theorem dL_law_1435 : decode cL_law 1435 = .ok (.iaload, 1) := dLg_149.2.2.2.2.1
theorem dL_law_1436 : decode cL_law 1436 = .ok (.invokevirtual 169, 3) := dLg_149.2.2.2.2.2
set_option maxRecDepth 100000 in
theorem dLg_150 : decode cL_law 1439 = .ok (.pop, 1) ∧ decode cL_law 1440 = .ok (.aload_n 2, 1) ∧ decode cL_law 1441 = .ok (.aload_n 0, 1) ∧ decode cL_law 1442 = .ok (.iload 4, 2) ∧ decode cL_law 1444 = .ok (.iconst 1, 1) ∧ decode cL_law 1445 = .ok (.iadd, 1) := by decide +kernel
theorem dL_law_1439 : decode cL_law 1439 = .ok (.pop, 1) := dLg_150.1
theorem dL_law_1440 : decode cL_law 1440 = .ok (.aload_n 2, 1) := dLg_150.2.1
theorem dL_law_1441 : decode cL_law 1441 = .ok (.aload_n 0, 1) := dLg_150.2.2.1
theorem dL_law_1442 : decode cL_law 1442 = .ok (.iload 4, 2) := dLg_150.2.2.2.1
theorem dL_law_1444 : decode cL_law 1444 = .ok (.iconst 1, 1) := dLg_150.2.2.2.2.1
theorem dL_law_1445 : decode cL_law 1445 = .ok (.iadd, 1) := dLg_150.2.2.2.2.2
set_option maxRecDepth 100000 in
theorem dLg_151 : decode cL_law 1446 = .ok (.iaload, 1) ∧ decode cL_law 1447 = .ok (.invokevirtual 172, 3) ∧ decode cL_law 1450 = .ok (.pop, 1) ∧ decode cL_law 1451 = .ok (.goto 79, 3) ∧ decode cL_law 1454 = .ok (.aload_n 1, 1) ∧ decode cL_law 1455 = .ok (.aload_n 0, 1) := by decide +kernel
theorem dL_law_1446 : decode cL_law 1446 = .ok (.iaload, 1) := dLg_151.1
theorem dL_law_1447 : decode cL_law 1447 = .ok (.invokevirtual 172, 3) := dLg_151.2.1
theorem dL_law_1450 : decode cL_law 1450 = .ok (.pop, 1) := dLg_151.2.2.1
theorem dL_law_1451 : decode cL_law 1451 = .ok (.goto 79, 3) := dLg_151.2.2.2.1
theorem dL_law_1454 : decode cL_law 1454 = .ok (.aload_n 1, 1) := dLg_151.2.2.2.2.1
theorem dL_law_1455 : decode cL_law 1455 = .ok (.aload_n 0, 1) := dLg_151.2.2.2.2.2
set_option maxRecDepth 100000 in
theorem dLg_152 : decode cL_law 1456 = .ok (.iload 4, 2) ∧ decode cL_law 1458 = .ok (.iconst 1, 1) ∧ decode cL_law 1459 = .ok (.iadd, 1) ∧ decode cL_law 1460 = .ok (.iaload, 1) ∧ decode cL_law 1461 = .ok (.invokevirtual 173, 3) ∧ decode cL_law 1464 = .ok (.pop, 1) := by decide +kernel
theorem dL_law_1456 : decode cL_law 1456 = .ok (.iload 4, 2) := dLg_152.1
theorem dL_law_1458 : decode cL_law 1458 = .ok (.iconst 1, 1) := dLg_152.2.1
theorem dL_law_1459 : decode cL_law 1459 = .ok (.iadd, 1) := dLg_152.2.2.1
theorem dL_law_1460 : decode cL_law 1460 = .ok (.iaload, 1) := dLg_152.2.2.2.1
theorem dL_law_1461 : decode cL_law 1461 = .ok (.invokevirtual 173, 3) := dLg_152.2.2.2.2.1
theorem dL_law_1464 : decode cL_law 1464 = .ok (.pop, 1) := dLg_152.2.2.2.2.2
set_option maxRecDepth 100000 in
theorem dLg_153 : decode cL_law 1465 = .ok (.aload_n 2, 1) ∧ decode cL_law 1466 = .ok (.aload_n 0, 1) ∧ decode cL_law 1467 = .ok (.iload 4, 2) ∧ decode cL_law 1469 = .ok (.iconst 1, 1) ∧ decode cL_law 1470 = .ok (.iadd, 1) ∧ decode cL_law 1471 = .ok (.iaload, 1) := by decide +kernel
theorem dL_law_1465 : decode cL_law 1465 = .ok (.aload_n 2, 1) := dLg_153.1
theorem dL_law_1466 : decode cL_law 1466 = .ok (.aload_n 0, 1) := dLg_153.2.1
theorem dL_law_1467 : decode cL_law 1467 = .ok (.iload 4, 2) := dLg_153.2.2.1
theorem dL_law_1469 : decode cL_law 1469 = .ok (.iconst 1, 1) := dLg_153.2.2.2.1
theorem dL_law_1470 : decode cL_law 1470 = .ok (.iadd, 1) := dLg_153.2.2.2.2.1
theorem dL_law_1471 : decode cL_law 1471 = .ok (.iaload, 1) := dLg_153.2.2.2.2.2
set_option maxRecDepth 100000 in
theorem dLg_154 : decode cL_law 1472 = .ok (.invokevirtual 176, 3) ∧ decode cL_law 1475 = .ok (.pop, 1) ∧ decode cL_law 1476 = .ok (.goto 54, 3) ∧ decode cL_law 1479 = .ok (.aload_n 1, 1) ∧ decode cL_law 1480 = .ok (.invokevirtual 177, 3) ∧ decode cL_law 1483 = .ok (.pop, 1) := by decide +kernel
theorem dL_law_1472 : decode cL_law 1472 = .ok (.invokevirtual 176, 3) := dLg_154.1
theorem dL_law_1475 : decode cL_law 1475 = .ok (.pop, 1) := dLg_154.2.1
theorem dL_law_1476 : decode cL_law 1476 = .ok (.goto 54, 3) := dLg_154.2.2.1
theorem dL_law_1479 : decode cL_law 1479 = .ok (.aload_n 1, 1) := dLg_154.2.2.2.1
theorem dL_law_1480 : decode cL_law 1480 = .ok (.invokevirtual 177, 3) := dLg_154.2.2.2.2.1
theorem dL_law_1483 : decode cL_law 1483 = .ok (.pop, 1) := dLg_154.2.2.2.2.2
set_option maxRecDepth 100000 in
theorem dLg_155 : decode cL_law 1484 = .ok (.aload_n 2, 1) ∧ decode cL_law 1485 = .ok (.invokevirtual 180, 3) ∧ decode cL_law 1488 = .ok (.pop, 1) ∧ decode cL_law 1489 = .ok (.goto 41, 3) ∧ decode cL_law 1492 = .ok (.aload_n 1, 1) ∧ decode cL_law 1493 = .ok (.invokevirtual 181, 3) := by decide +kernel
theorem dL_law_1484 : decode cL_law 1484 = .ok (.aload_n 2, 1) := dLg_155.1
theorem dL_law_1485 : decode cL_law 1485 = .ok (.invokevirtual 180, 3) := dLg_155.2.1
theorem dL_law_1488 : decode cL_law 1488 = .ok (.pop, 1) := dLg_155.2.2.1
theorem dL_law_1489 : decode cL_law 1489 = .ok (.goto 41, 3) := dLg_155.2.2.2.1
theorem dL_law_1492 : decode cL_law 1492 = .ok (.aload_n 1, 1) := dLg_155.2.2.2.2.1
theorem dL_law_1493 : decode cL_law 1493 = .ok (.invokevirtual 181, 3) := dLg_155.2.2.2.2.2
set_option maxRecDepth 100000 in
theorem dLg_156 : decode cL_law 1496 = .ok (.pop, 1) ∧ decode cL_law 1497 = .ok (.aload_n 2, 1) ∧ decode cL_law 1498 = .ok (.invokevirtual 184, 3) ∧ decode cL_law 1501 = .ok (.pop, 1) ∧ decode cL_law 1502 = .ok (.goto 28, 3) ∧ decode cL_law 1505 = .ok (.aload_n 1, 1) := by decide +kernel
theorem dL_law_1496 : decode cL_law 1496 = .ok (.pop, 1) := dLg_156.1
theorem dL_law_1497 : decode cL_law 1497 = .ok (.aload_n 2, 1) := dLg_156.2.1
theorem dL_law_1498 : decode cL_law 1498 = .ok (.invokevirtual 184, 3) := dLg_156.2.2.1
theorem dL_law_1501 : decode cL_law 1501 = .ok (.pop, 1) := dLg_156.2.2.2.1
theorem dL_law_1502 : decode cL_law 1502 = .ok (.goto 28, 3) := dLg_156.2.2.2.2.1
theorem dL_law_1505 : decode cL_law 1505 = .ok (.aload_n 1, 1) := dLg_156.2.2.2.2.2
set_option maxRecDepth 100000 in
theorem dLg_157 : decode cL_law 1506 = .ok (.aload_n 0, 1) ∧ decode cL_law 1507 = .ok (.iload 4, 2) ∧ decode cL_law 1509 = .ok (.iconst 1, 1) ∧ decode cL_law 1510 = .ok (.iadd, 1) ∧ decode cL_law 1511 = .ok (.iaload, 1) ∧ decode cL_law 1512 = .ok (.invokevirtual 185, 3) := by decide +kernel
theorem dL_law_1506 : decode cL_law 1506 = .ok (.aload_n 0, 1) := dLg_157.1
theorem dL_law_1507 : decode cL_law 1507 = .ok (.iload 4, 2) := dLg_157.2.1
theorem dL_law_1509 : decode cL_law 1509 = .ok (.iconst 1, 1) := dLg_157.2.2.1
theorem dL_law_1510 : decode cL_law 1510 = .ok (.iadd, 1) := dLg_157.2.2.2.1
theorem dL_law_1511 : decode cL_law 1511 = .ok (.iaload, 1) := dLg_157.2.2.2.2.1
theorem dL_law_1512 : decode cL_law 1512 = .ok (.invokevirtual 185, 3) := dLg_157.2.2.2.2.2
set_option maxRecDepth 100000 in
theorem dLg_158 : decode cL_law 1515 = .ok (.pop, 1) ∧ decode cL_law 1516 = .ok (.aload_n 2, 1) ∧ decode cL_law 1517 = .ok (.aload_n 0, 1) ∧ decode cL_law 1518 = .ok (.iload 4, 2) ∧ decode cL_law 1520 = .ok (.iconst 1, 1) ∧ decode cL_law 1521 = .ok (.iadd, 1) := by decide +kernel
theorem dL_law_1515 : decode cL_law 1515 = .ok (.pop, 1) := dLg_158.1
theorem dL_law_1516 : decode cL_law 1516 = .ok (.aload_n 2, 1) := dLg_158.2.1
theorem dL_law_1517 : decode cL_law 1517 = .ok (.aload_n 0, 1) := dLg_158.2.2.1
theorem dL_law_1518 : decode cL_law 1518 = .ok (.iload 4, 2) := dLg_158.2.2.2.1
theorem dL_law_1520 : decode cL_law 1520 = .ok (.iconst 1, 1) := dLg_158.2.2.2.2.1
theorem dL_law_1521 : decode cL_law 1521 = .ok (.iadd, 1) := dLg_158.2.2.2.2.2
set_option maxRecDepth 100000 in
theorem dLg_159 : decode cL_law 1522 = .ok (.iaload, 1) ∧ decode cL_law 1523 = .ok (.invokevirtual 188, 3) ∧ decode cL_law 1526 = .ok (.pop, 1) ∧ decode cL_law 1527 = .ok (.goto 3, 3) ∧ decode cL_law 1530 = .ok (.iinc 4 6, 3) ∧ decode cL_law 1533 = .ok (.goto (-1510), 3) := by decide +kernel
theorem dL_law_1522 : decode cL_law 1522 = .ok (.iaload, 1) := dLg_159.1
theorem dL_law_1523 : decode cL_law 1523 = .ok (.invokevirtual 188, 3) := dLg_159.2.1
theorem dL_law_1526 : decode cL_law 1526 = .ok (.pop, 1) := dLg_159.2.2.1
theorem dL_law_1527 : decode cL_law 1527 = .ok (.goto 3, 3) := dLg_159.2.2.2.1
theorem dL_law_1530 : decode cL_law 1530 = .ok (.iinc 4 6, 3) := dLg_159.2.2.2.2.1
theorem dL_law_1533 : decode cL_law 1533 = .ok (.goto (-1510), 3) := dLg_159.2.2.2.2.2
set_option maxRecDepth 100000 in
theorem dLg_160 : decode cL_law 1536 = .ok (.iconst 1, 1) ∧ decode cL_law 1537 = .ok (.ireturn, 1) := by decide +kernel
theorem dL_law_1536 : decode cL_law 1536 = .ok (.iconst 1, 1) := dLg_160.1
theorem dL_law_1537 : decode cL_law 1537 = .ok (.ireturn, 1) := dLg_160.2
