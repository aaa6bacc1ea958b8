theorem ggL_glove_X11_glove : GoodIn wsL_glove wsX11_glove := (bg_up (bg_law (bi_wsL_law0_r24 _ (List.mem_of_getElem? (i := 2) rfl))))
theorem gL_glove_X11_glove : GoodIn wsL_glove (wsV RL 7 RX11 yX11_glove wsX11_glove) := goodIn_app (bg_up (bg_cons (bi_wsL_law0_r23 _ (List.mem_of_getElem? (i := 23) rfl)) (bg_cons (bi_wsL_law0_r24 _ (List.mem_of_getElem? (i := 0) rfl)) (bg_cons (bi_wsL_law0_r24 _ (List.mem_of_getElem? (i := 1) rfl)) (bg_cons (bi_wsL_law0_r1 _ (List.mem_of_getElem? (i := 2) rfl)) bg_nil))))) (bg_up (bg_law (bi_wsL_law0_r24 _ (List.mem_of_getElem? (i := 2) rfl))))
theorem dL_glove_0 : decode cL_glove 0 = .ok (.aload_n 3, 1) := by decide +kernel
theorem dL_glove_1 : decode cL_glove 1 = .ok (.iconst 0, 1) := by decide +kernel
theorem dL_glove_2 : decode cL_glove 2 = .ok (.aload_n 0, 1) := by decide +kernel
theorem dL_glove_3 : decode cL_glove 3 = .ok (.iload_n 1, 1) := by decide +kernel
theorem dL_glove_4 : decode cL_glove 4 = .ok (.iload_n 2, 1) := by decide +kernel
theorem dL_glove_5 : decode cL_glove 5 = .ok (.invokevirtual 7, 3) := by decide +kernel
theorem dL_glove_8 : decode cL_glove 8 = .ok (.i2l, 1) := by decide +kernel
theorem dL_glove_9 : decode cL_glove 9 = .ok (.lastore, 1) := by decide +kernel
theorem dL_glove_10 : decode cL_glove 10 = .ok (.goto 7, 3) := by decide +kernel
theorem dL_glove_13 : decode cL_glove 13 = .ok (.astore 4, 2) := by decide +kernel
theorem dL_glove_15 : decode cL_glove 15 = .ok (.iconst 1, 1) := by decide +kernel
theorem dL_glove_16 : decode cL_glove 16 = .ok (.ireturn, 1) := by decide +kernel
theorem dL_glove_17 : decode cL_glove 17 = .ok (.iconst 0, 1) := by decide +kernel
theorem dL_glove_18 : decode cL_glove 18 = .ok (.ireturn, 1) := by decide +kernel
theorem ggL_law_X11_init : GoodIn wsL_law wsX11_init := (bg_law (bi_wsL_law0_r1 _ (List.mem_of_getElem? (i := 10) rfl)))
theorem gL_law_X11_init : GoodIn wsL_law (wsX11_init) := (bg_law (bi_wsL_law0_r1 _ (List.mem_of_getElem? (i := 10) rfl)))
theorem ggL_law_X12_init : GoodIn wsL_law wsX12_init := (bg_law (bi_wsL_law0_r6 _ (List.mem_of_getElem? (i := 21) rfl)))
theorem gL_law_X12_init : GoodIn wsL_law (wsX12_init) := (bg_law (bi_wsL_law0_r6 _ (List.mem_of_getElem? (i := 21) rfl)))
theorem ggL_law_X11_feed : GoodIn wsL_law wsX11_feed := (bg_law (bi_wsL_law0_r8 _ (List.mem_of_getElem? (i := 6) rfl)))
theorem gL_law_X11_feed : GoodIn wsL_law (wsV RL 19 RX11 yX11_feed wsX11_feed) := goodIn_app (bg_cons (bi_wsL_law0_r8 _ (List.mem_of_getElem? (i := 3) rfl)) (bg_cons (bi_wsL_law0_r8 _ (List.mem_of_getElem? (i := 4) rfl)) (bg_cons (bi_wsL_law0_r8 _ (List.mem_of_getElem? (i := 5) rfl)) (bg_cons (bi_wsL_law0_r1 _ (List.mem_of_getElem? (i := 2) rfl)) bg_nil)))) (bg_law (bi_wsL_law0_r8 _ (List.mem_of_getElem? (i := 6) rfl)))
theorem ggL_law_X12_feed : GoodIn wsL_law wsX12_feed := (bg_law (bi_wsL_law0_r8 _ (List.mem_of_getElem? (i := 19) rfl)))
theorem gL_law_X12_feed : GoodIn wsL_law (wsV RL 23 RX12 yX12_feed wsX12_feed) := goodIn_app (bg_cons (bi_wsL_law0_r8 _ (List.mem_of_getElem? (i := 16) rfl)) (bg_cons (bi_wsL_law0_r8 _ (List.mem_of_getElem? (i := 17) rfl)) (bg_cons (bi_wsL_law0_r8 _ (List.mem_of_getElem? (i := 18) rfl)) (bg_cons (bi_wsL_law0_r1 _ (List.mem_of_getElem? (i := 5) rfl)) bg_nil)))) (bg_law (bi_wsL_law0_r8 _ (List.mem_of_getElem? (i := 19) rfl)))
theorem ggL_law_X11_end : GoodIn wsL_law wsX11_end := (bg_law (bi_wsL_law0_r9 _ (List.mem_of_getElem? (i := 3) rfl)))
theorem gL_law_X11_end : GoodIn wsL_law (wsV RL 24 RX11 yX11_end wsX11_end) := goodIn_app (bg_cons (bi_wsL_law0_r9 _ (List.mem_of_getElem? (i := 0) rfl)) (bg_cons (bi_wsL_law0_r9 _ (List.mem_of_getElem? (i := 1) rfl)) (bg_cons (bi_wsL_law0_r9 _ (List.mem_of_getElem? (i := 2) rfl)) (bg_cons (bi_wsL_law0_r1 _ (List.mem_of_getElem? (i := 2) rfl)) bg_nil)))) (bg_law (bi_wsL_law0_r9 _ (List.mem_of_getElem? (i := 3) rfl)))
theorem ggL_law_X12_end : GoodIn wsL_law wsX12_end := (bg_law (bi_wsL_law0_r9 _ (List.mem_of_getElem? (i := 7) rfl)))
theorem gL_law_X12_end : GoodIn wsL_law (wsV RL 28 RX12 yX12_end wsX12_end) := goodIn_app (bg_cons (bi_wsL_law0_r9 _ (List.mem_of_getElem? (i := 4) rfl)) (bg_cons (bi_wsL_law0_r9 _ (List.mem_of_getElem? (i := 5) rfl)) (bg_cons (bi_wsL_law0_r9 _ (List.mem_of_getElem? (i := 6) rfl)) (bg_cons (bi_wsL_law0_r1 _ (List.mem_of_getElem? (i := 5) rfl)) bg_nil)))) (bg_law (bi_wsL_law0_r9 _ (List.mem_of_getElem? (i := 7) rfl)))
theorem ggL_law_X11_fault : GoodIn wsL_law wsX11_fault := (bg_law (bi_wsL_law0_r9 _ (List.mem_of_getElem? (i := 11) rfl)))
theorem gL_law_X11_fault : GoodIn wsL_law (wsV RL 29 RX11 yX11_fault wsX11_fault) := goodIn_app (bg_cons (bi_wsL_law0_r9 _ (List.mem_of_getElem? (i := 8) rfl)) (bg_cons (bi_wsL_law0_r9 _ (List.mem_of_getElem? (i := 9) rfl)) (bg_cons (bi_wsL_law0_r9 _ (List.mem_of_getElem? (i := 10) rfl)) (bg_cons (bi_wsL_law0_r1 _ (List.mem_of_getElem? (i := 2) rfl)) bg_nil)))) (bg_law (bi_wsL_law0_r9 _ (List.mem_of_getElem? (i := 11) rfl)))
theorem ggL_law_X12_fault : GoodIn wsL_law wsX12_fault := (bg_law (bi_wsL_law0_r14 _ (List.mem_of_getElem? (i := 23) rfl)))
theorem gL_law_X12_fault : GoodIn wsL_law (wsV RL 33 RX12 yX12_fault wsX12_fault) := goodIn_app (bg_cons (bi_wsL_law0_r14 _ (List.mem_of_getElem? (i := 20) rfl)) (bg_cons (bi_wsL_law0_r14 _ (List.mem_of_getElem? (i := 21) rfl)) (bg_cons (bi_wsL_law0_r14 _ (List.mem_of_getElem? (i := 22) rfl)) (bg_cons (bi_wsL_law0_r1 _ (List.mem_of_getElem? (i := 5) rfl)) bg_nil)))) (bg_law (bi_wsL_law0_r14 _ (List.mem_of_getElem? (i := 23) rfl)))
theorem ggL_law_X11_text : GoodIn wsL_law wsX11_text := (bg_law (bi_wsL_law0_r20 _ (List.mem_of_getElem? (i := 5) rfl)))
theorem gL_law_X11_text : GoodIn wsL_law (wsV RL 34 RX11 yX11_text wsX11_text) := goodIn_app (bg_cons (bi_wsL_law0_r20 _ (List.mem_of_getElem? (i := 2) rfl)) (bg_cons (bi_wsL_law0_r20 _ (List.mem_of_getElem? (i := 3) rfl)) (bg_cons (bi_wsL_law0_r20 _ (List.mem_of_getElem? (i := 4) rfl)) (bg_cons (bi_wsL_law0_r1 _ (List.mem_of_getElem? (i := 2) rfl)) bg_nil)))) (bg_law (bi_wsL_law0_r20 _ (List.mem_of_getElem? (i := 5) rfl)))
theorem ggL_law_X12_text : GoodIn wsL_law wsX12_text := (bg_law (bi_wsL_law0_r22 _ (List.mem_of_getElem? (i := 7) rfl)))
theorem gL_law_X12_text : GoodIn wsL_law (wsV RL 37 RX12 yX12_text wsX12_text) := goodIn_app (bg_cons (bi_wsL_law0_r22 _ (List.mem_of_getElem? (i := 4) rfl)) (bg_cons (bi_wsL_law0_r22 _ (List.mem_of_getElem? (i := 5) rfl)) (bg_cons (bi_wsL_law0_r22 _ (List.mem_of_getElem? (i := 6) rfl)) (bg_cons (bi_wsL_law0_r1 _ (List.mem_of_getElem? (i := 5) rfl)) bg_nil)))) (bg_law (bi_wsL_law0_r22 _ (List.mem_of_getElem? (i := 7) rfl)))
theorem ggL_law_X11_rule : GoodIn wsL_law wsX11_rule := (bg_law (bi_wsL_law0_r23 _ (List.mem_of_getElem? (i := 1) rfl)))
theorem gL_law_X11_rule : GoodIn wsL_law (wsV RL 38 RX11 yX11_rule wsX11_rule) := goodIn_app (bg_cons (bi_wsL_law0_r22 _ (List.mem_of_getElem? (i := 22) rfl)) (bg_cons (bi_wsL_law0_r22 _ (List.mem_of_getElem? (i := 23) rfl)) (bg_cons (bi_wsL_law0_r23 _ (List.mem_of_getElem? (i := 0) rfl)) (bg_cons (bi_wsL_law0_r1 _ (List.mem_of_getElem? (i := 2) rfl)) bg_nil)))) (bg_law (bi_wsL_law0_r23 _ (List.mem_of_getElem? (i := 1) rfl)))
theorem ggL_law_X12_rule : GoodIn wsL_law wsX12_rule := (bg_law (bi_wsL_law0_r23 _ (List.mem_of_getElem? (i := 17) rfl)))
theorem gL_law_X12_rule : GoodIn wsL_law (wsV RL 41 RX12 yX12_rule wsX12_rule) := goodIn_app (bg_cons (bi_wsL_law0_r23 _ (List.mem_of_getElem? (i := 14) rfl)) (bg_cons (bi_wsL_law0_r23 _ (List.mem_of_getElem? (i := 15) rfl)) (bg_cons (bi_wsL_law0_r23 _ (List.mem_of_getElem? (i := 16) rfl)) (bg_cons (bi_wsL_law0_r1 _ (List.mem_of_getElem? (i := 5) rfl)) bg_nil)))) (bg_law (bi_wsL_law0_r23 _ (List.mem_of_getElem? (i := 17) rfl)))
theorem ggL_law_L_glove : GoodIn wsL_law wsL_glove := (bg_law (bi_wsL_law0_r23 _ (List.mem_of_getElem? (i := 21) rfl)))
theorem gL_law_L_glove : GoodIn wsL_law (va_wsS RL 42 yL_glove wsL_glove) := goodIn_app (bg_cons (bi_wsL_law0_r23 _ (List.mem_of_getElem? (i := 18) rfl)) (bg_cons (bi_wsL_law0_r23 _ (List.mem_of_getElem? (i := 19) rfl)) (bg_cons (bi_wsL_law0_r23 _ (List.mem_of_getElem? (i := 20) rfl)) bg_nil))) (bg_law (bi_wsL_law0_r23 _ (List.mem_of_getElem? (i := 21) rfl)))
theorem ggL_law_X12_glove : GoodIn wsL_law wsX12_glove := (bg_law (bi_wsL_law0_r25 _ (List.mem_of_getElem? (i := 6) rfl)))
theorem gL_law_X12_glove : GoodIn wsL_law (wsV RL 47 RX12 yX12_glove wsX12_glove) := goodIn_app (bg_cons (bi_wsL_law0_r25 _ (List.mem_of_getElem? (i := 3) rfl)) (bg_cons (bi_wsL_law0_r25 _ (List.mem_of_getElem? (i := 4) rfl)) (bg_cons (bi_wsL_law0_r25 _ (List.mem_of_getElem? (i := 5) rfl)) (bg_cons (bi_wsL_law0_r1 _ (List.mem_of_getElem? (i := 5) rfl)) bg_nil)))) (bg_law (bi_wsL_law0_r25 _ (List.mem_of_getElem? (i := 6) rfl)))
theorem ggL_law_X11_matter : GoodIn wsL_law wsX11_matter := (bg_law (bi_wsL_law0_r25 _ (List.mem_of_getElem? (i := 19) rfl)))
theorem gL_law_X11_matter : GoodIn wsL_law (wsV RL 48 RX11 yX11_matter wsX11_matter) := goodIn_app (bg_cons (bi_wsL_law0_r25 _ (List.mem_of_getElem? (i := 16) rfl)) (bg_cons (bi_wsL_law0_r25 _ (List.mem_of_getElem? (i := 17) rfl)) (bg_cons (bi_wsL_law0_r25 _ (List.mem_of_getElem? (i := 18) rfl)) (bg_cons (bi_wsL_law0_r1 _ (List.mem_of_getElem? (i := 2) rfl)) bg_nil)))) (bg_law (bi_wsL_law0_r25 _ (List.mem_of_getElem? (i := 19) rfl)))
theorem ggL_law_X12_matter : GoodIn wsL_law wsX12_matter := (bg_law (bi_wsL_law0_r26 _ (List.mem_of_getElem? (i := 9) rfl)))
theorem gL_law_X12_matter : GoodIn wsL_law (wsV RL 51 RX12 yX12_matter wsX12_matter) := goodIn_app (bg_cons (bi_wsL_law0_r26 _ (List.mem_of_getElem? (i := 6) rfl)) (bg_cons (bi_wsL_law0_r26 _ (List.mem_of_getElem? (i := 7) rfl)) (bg_cons (bi_wsL_law0_r26 _ (List.mem_of_getElem? (i := 8) rfl)) (bg_cons (bi_wsL_law0_r1 _ (List.mem_of_getElem? (i := 5) rfl)) bg_nil)))) (bg_law (bi_wsL_law0_r26 _ (List.mem_of_getElem? (i := 9) rfl)))
theorem ggL_law_X11_warmth : GoodIn wsL_law wsX11_warmth := (bg_law (bi_wsL_law0_r26 _ (List.mem_of_getElem? (i := 17) rfl)))
theorem gL_law_X11_warmth : GoodIn wsL_law (wsV RL 52 RX11 yX11_warmth wsX11_warmth) := goodIn_app (bg_cons (bi_wsL_law0_r26 _ (List.mem_of_getElem? (i := 14) rfl)) (bg_cons (bi_wsL_law0_r26 _ (List.mem_of_getElem? (i := 15) rfl)) (bg_cons (bi_wsL_law0_r26 _ (List.mem_of_getElem? (i := 16) rfl)) (bg_cons (bi_wsL_law0_r1 _ (List.mem_of_getElem? (i := 2) rfl)) bg_nil)))) (bg_law (bi_wsL_law0_r26 _ (List.mem_of_getElem? (i := 17) rfl)))
theorem ggL_law_X12_warmth : GoodIn wsL_law wsX12_warmth := (bg_law (bi_wsL_law0_r27 _ (List.mem_of_getElem? (i := 9) rfl)))
theorem gL_law_X12_warmth : GoodIn wsL_law (wsV RL 55 RX12 yX12_warmth wsX12_warmth) := goodIn_app (bg_cons (bi_wsL_law0_r27 _ (List.mem_of_getElem? (i := 6) rfl)) (bg_cons (bi_wsL_law0_r27 _ (List.mem_of_getElem? (i := 7) rfl)) (bg_cons (bi_wsL_law0_r27 _ (List.mem_of_getElem? (i := 8) rfl)) (bg_cons (bi_wsL_law0_r1 _ (List.mem_of_getElem? (i := 5) rfl)) bg_nil)))) (bg_law (bi_wsL_law0_r27 _ (List.mem_of_getElem? (i := 9) rfl)))
theorem ggL_law_X11_law : GoodIn wsL_law wsX11_law := (bg_law (bi_wsL_law0_r28 _ (List.mem_of_getElem? (i := 3) rfl)))
theorem gL_law_X11_law : GoodIn wsL_law (wsV RL 56 RX11 yX11_law wsX11_law) := goodIn_app (bg_cons (bi_wsL_law0_r28 _ (List.mem_of_getElem? (i := 0) rfl)) (bg_cons (bi_wsL_law0_r28 _ (List.mem_of_getElem? (i := 1) rfl)) (bg_cons (bi_wsL_law0_r28 _ (List.mem_of_getElem? (i := 2) rfl)) (bg_cons (bi_wsL_law0_r1 _ (List.mem_of_getElem? (i := 2) rfl)) bg_nil)))) (bg_law (bi_wsL_law0_r28 _ (List.mem_of_getElem? (i := 3) rfl)))
theorem ggL_law_X12_law : GoodIn wsL_law wsX12_law := (bg_law (bi_wsL_law0_r28 _ (List.mem_of_getElem? (i := 8) rfl)))
theorem gL_law_X12_law : GoodIn wsL_law (wsV RL 59 RX12 yX12_law wsX12_law) := goodIn_app (bg_cons (bi_wsL_law0_r28 _ (List.mem_of_getElem? (i := 5) rfl)) (bg_cons (bi_wsL_law0_r28 _ (List.mem_of_getElem? (i := 6) rfl)) (bg_cons (bi_wsL_law0_r28 _ (List.mem_of_getElem? (i := 7) rfl)) (bg_cons (bi_wsL_law0_r1 _ (List.mem_of_getElem? (i := 5) rfl)) bg_nil)))) (bg_law (bi_wsL_law0_r28 _ (List.mem_of_getElem? (i := 8) rfl)))
theorem ggL_law_X11_meets : GoodIn wsL_law wsX11_meets := (bg_law (bi_wsL_law0_r28 _ (List.mem_of_getElem? (i := 12) rfl)))
theorem gL_law_X11_meets : GoodIn wsL_law (wsV RL 60 RX11 yX11_meets wsX11_meets) := goodIn_app (bg_cons (bi_wsL_law0_r28 _ (List.mem_of_getElem? (i := 9) rfl)) (bg_cons (bi_wsL_law0_r28 _ (List.mem_of_getElem? (i := 10) rfl)) (bg_cons (bi_wsL_law0_r28 _ (List.mem_of_getElem? (i := 11) rfl)) (bg_cons (bi_wsL_law0_r1 _ (List.mem_of_getElem? (i := 2) rfl)) bg_nil)))) (bg_law (bi_wsL_law0_r28 _ (List.mem_of_getElem? (i := 12) rfl)))
theorem ggL_law_X12_meets : GoodIn wsL_law wsX12_meets := (bg_law (bi_wsL_law0_r31 _ (List.mem_of_getElem? (i := 14) rfl)))
theorem gL_law_X12_meets : GoodIn wsL_law (wsV RL 63 RX12 yX12_meets wsX12_meets) := goodIn_app (bg_cons (bi_wsL_law0_r31 _ (List.mem_of_getElem? (i := 11) rfl)) (bg_cons (bi_wsL_law0_r31 _ (List.mem_of_getElem? (i := 12) rfl)) (bg_cons (bi_wsL_law0_r31 _ (List.mem_of_getElem? (i := 13) rfl)) (bg_cons (bi_wsL_law0_r1 _ (List.mem_of_getElem? (i := 5) rfl)) bg_nil)))) (bg_law (bi_wsL_law0_r31 _ (List.mem_of_getElem? (i := 14) rfl)))
theorem ggL_law_X11_loosen : GoodIn wsL_law wsX11_loosen := (bg_law (bi_wsL_law0_r34 _ (List.mem_of_getElem? (i := 6) rfl)))
theorem gL_law_X11_loosen : GoodIn wsL_law (wsV RL 64 RX11 yX11_loosen wsX11_loosen) := goodIn_app (bg_cons (bi_wsL_law0_r34 _ (List.mem_of_getElem? (i := 3) rfl)) (bg_cons (bi_wsL_law0_r34 _ (List.mem_of_getElem? (i := 4) rfl)) (bg_cons (bi_wsL_law0_r34 _ (List.mem_of_getElem? (i := 5) rfl)) (bg_cons (bi_wsL_law0_r1 _ (List.mem_of_getElem? (i := 2) rfl)) bg_nil)))) (bg_law (bi_wsL_law0_r34 _ (List.mem_of_getElem? (i := 6) rfl)))
theorem ggL_law_X12_loosen : GoodIn wsL_law wsX12_loosen := (bg_law (bi_wsL_law0_r34 _ (List.mem_of_getElem? (i := 14) rfl)))
theorem gL_law_X12_loosen : GoodIn wsL_law (wsV RL 67 RX12 yX12_loosen wsX12_loosen) := goodIn_app (bg_cons (bi_wsL_law0_r34 _ (List.mem_of_getElem? (i := 11) rfl)) (bg_cons (bi_wsL_law0_r34 _ (List.mem_of_getElem? (i := 12) rfl)) (bg_cons (bi_wsL_law0_r34 _ (List.mem_of_getElem? (i := 13) rfl)) (bg_cons (bi_wsL_law0_r1 _ (List.mem_of_getElem? (i := 5) rfl)) bg_nil)))) (bg_law (bi_wsL_law0_r34 _ (List.mem_of_getElem? (i := 14) rfl)))
theorem ggL_law_X11_stuff : GoodIn wsL_law wsX11_stuff := (bg_law (bi_wsL_law0_r34 _ (List.mem_of_getElem? (i := 18) rfl)))
theorem gL_law_X11_stuff : GoodIn wsL_law (wsV RL 68 RX11 yX11_stuff wsX11_stuff) := goodIn_app (bg_cons (bi_wsL_law0_r34 _ (List.mem_of_getElem? (i := 15) rfl)) (bg_cons (bi_wsL_law0_r34 _ (List.mem_of_getElem? (i := 16) rfl)) (bg_cons (bi_wsL_law0_r34 _ (List.mem_of_getElem? (i := 17) rfl)) (bg_cons (bi_wsL_law0_r1 _ (List.mem_of_getElem? (i := 2) rfl)) bg_nil)))) (bg_law (bi_wsL_law0_r34 _ (List.mem_of_getElem? (i := 18) rfl)))
theorem ggL_law_X12_stuff : GoodIn wsL_law wsX12_stuff := (bg_law (bi_wsL_law0_r35 _ (List.mem_of_getElem? (i := 2) rfl)))
theorem gL_law_X12_stuff : GoodIn wsL_law (wsV RL 71 RX12 yX12_stuff wsX12_stuff) := goodIn_app (bg_cons (bi_wsL_law0_r34 _ (List.mem_of_getElem? (i := 23) rfl)) (bg_cons (bi_wsL_law0_r35 _ (List.mem_of_getElem? (i := 0) rfl)) (bg_cons (bi_wsL_law0_r35 _ (List.mem_of_getElem? (i := 1) rfl)) (bg_cons (bi_wsL_law0_r1 _ (List.mem_of_getElem? (i := 5) rfl)) bg_nil)))) (bg_law (bi_wsL_law0_r35 _ (List.mem_of_getElem? (i := 2) rfl)))
theorem ggL_law_X11_swallow : GoodIn wsL_law wsX11_swallow := (bg_law (bi_wsL_law0_r35 _ (List.mem_of_getElem? (i := 6) rfl)))
theorem gL_law_X11_swallow : GoodIn wsL_law (wsV RL 72 RX11 yX11_swallow wsX11_swallow) := goodIn_app (bg_cons (bi_wsL_law0_r35 _ (List.mem_of_getElem? (i := 3) rfl)) (bg_cons (bi_wsL_law0_r35 _ (List.mem_of_getElem? (i := 4) rfl)) (bg_cons (bi_wsL_law0_r35 _ (List.mem_of_getElem? (i := 5) rfl)) (bg_cons (bi_wsL_law0_r1 _ (List.mem_of_getElem? (i := 2) rfl)) bg_nil)))) (bg_law (bi_wsL_law0_r35 _ (List.mem_of_getElem? (i := 6) rfl)))
theorem ggL_law_X12_swallow : GoodIn wsL_law wsX12_swallow := (bg_law (bi_wsL_law0_r35 _ (List.mem_of_getElem? (i := 14) rfl)))
theorem gL_law_X12_swallow : GoodIn wsL_law (wsV RL 76 RX12 yX12_swallow wsX12_swallow) := goodIn_app (bg_cons (bi_wsL_law0_r35 _ (List.mem_of_getElem? (i := 11) rfl)) (bg_cons (bi_wsL_law0_r35 _ (List.mem_of_getElem? (i := 12) rfl)) (bg_cons (bi_wsL_law0_r35 _ (List.mem_of_getElem? (i := 13) rfl)) (bg_cons (bi_wsL_law0_r1 _ (List.mem_of_getElem? (i := 5) rfl)) bg_nil)))) (bg_law (bi_wsL_law0_r35 _ (List.mem_of_getElem? (i := 14) rfl)))
theorem ggL_law_X11_tear : GoodIn wsL_law wsX11_tear := (bg_law (bi_wsL_law0_r35 _ (List.mem_of_getElem? (i := 18) rfl)))
theorem gL_law_X11_tear : GoodIn wsL_law (wsV RL 77 RX11 yX11_tear wsX11_tear) := goodIn_app (bg_cons (bi_wsL_law0_r35 _ (List.mem_of_getElem? (i := 15) rfl)) (bg_cons (bi_wsL_law0_r35 _ (List.mem_of_getElem? (i := 16) rfl)) (bg_cons (bi_wsL_law0_r35 _ (List.mem_of_getElem? (i := 17) rfl)) (bg_cons (bi_wsL_law0_r1 _ (List.mem_of_getElem? (i := 2) rfl)) bg_nil)))) (bg_law (bi_wsL_law0_r35 _ (List.mem_of_getElem? (i := 18) rfl)))
theorem ggL_law_X12_tear : GoodIn wsL_law wsX12_tear := (bg_law (bi_wsL_law0_r36 _ (List.mem_of_getElem? (i := 6) rfl)))
theorem gL_law_X12_tear : GoodIn wsL_law (wsV RL 80 RX12 yX12_tear wsX12_tear) := goodIn_app (bg_cons (bi_wsL_law0_r36 _ (List.mem_of_getElem? (i := 3) rfl)) (bg_cons (bi_wsL_law0_r36 _ (List.mem_of_getElem? (i := 4) rfl)) (bg_cons (bi_wsL_law0_r36 _ (List.mem_of_getElem? (i := 5) rfl)) (bg_cons (bi_wsL_law0_r1 _ (List.mem_of_getElem? (i := 5) rfl)) bg_nil)))) (bg_law (bi_wsL_law0_r36 _ (List.mem_of_getElem? (i := 6) rfl)))
theorem ggL_law_X11_give : GoodIn wsL_law wsX11_give := (bg_law (bi_wsL_law0_r36 _ (List.mem_of_getElem? (i := 10) rfl)))
theorem gL_law_X11_give : GoodIn wsL_law (wsV RL 81 RX11 yX11_give wsX11_give) := goodIn_app (bg_cons (bi_wsL_law0_r36 _ (List.mem_of_getElem? (i := 7) rfl)) (bg_cons (bi_wsL_law0_r36 _ (List.mem_of_getElem? (i := 8) rfl)) (bg_cons (bi_wsL_law0_r36 _ (List.mem_of_getElem? (i := 9) rfl)) (bg_cons (bi_wsL_law0_r1 _ (List.mem_of_getElem? (i := 2) rfl)) bg_nil)))) (bg_law (bi_wsL_law0_r36 _ (List.mem_of_getElem? (i := 10) rfl)))
theorem ggL_law_X12_give : GoodIn wsL_law wsX12_give := (bg_law (bi_wsL_law0_r36 _ (List.mem_of_getElem? (i := 14) rfl)))
theorem gL_law_X12_give : GoodIn wsL_law (wsV RL 84 RX12 yX12_give wsX12_give) := goodIn_app (bg_cons (bi_wsL_law0_r36 _ (List.mem_of_getElem? (i := 11) rfl)) (bg_cons (bi_wsL_law0_r36 _ (List.mem_of_getElem? (i := 12) rfl)) (bg_cons (bi_wsL_law0_r36 _ (List.mem_of_getElem? (i := 13) rfl)) (bg_cons (bi_wsL_law0_r1 _ (List.mem_of_getElem? (i := 5) rfl)) bg_nil)))) (bg_law (bi_wsL_law0_r36 _ (List.mem_of_getElem? (i := 14) rfl)))
theorem ggL_law_X11_days : GoodIn wsL_law wsX11_days := (bg_law (bi_wsL_law0_r36 _ (List.mem_of_getElem? (i := 18) rfl)))
theorem gL_law_X11_days : GoodIn wsL_law (wsV RL 85 RX11 yX11_days wsX11_days) := goodIn_app (bg_cons (bi_wsL_law0_r36 _ (List.mem_of_getElem? (i := 15) rfl)) (bg_cons (bi_wsL_law0_r36 _ (List.mem_of_getElem? (i := 16) rfl)) (bg_cons (bi_wsL_law0_r36 _ (List.mem_of_getElem? (i := 17) rfl)) (bg_cons (bi_wsL_law0_r1 _ (List.mem_of_getElem? (i := 2) rfl)) bg_nil)))) (bg_law (bi_wsL_law0_r36 _ (List.mem_of_getElem? (i := 18) rfl)))
theorem ggL_law_X12_days : GoodIn wsL_law wsX12_days := (bg_law (bi_wsL_law0_r38 _ (List.mem_of_getElem? (i := 12) rfl)))
theorem gL_law_X12_days : GoodIn wsL_law (wsV RL 88 RX12 yX12_days wsX12_days) := goodIn_app (bg_cons (bi_wsL_law0_r38 _ (List.mem_of_getElem? (i := 9) rfl)) (bg_cons (bi_wsL_law0_r38 _ (List.mem_of_getElem? (i := 10) rfl)) (bg_cons (bi_wsL_law0_r38 _ (List.mem_of_getElem? (i := 11) rfl)) (bg_cons (bi_wsL_law0_r1 _ (List.mem_of_getElem? (i := 5) rfl)) bg_nil)))) (bg_law (bi_wsL_law0_r38 _ (List.mem_of_getElem? (i := 12) rfl)))
theorem ggL_law_X11_spite : GoodIn wsL_law wsX11_spite := (bg_law (bi_wsL_law0_r39 _ (List.mem_of_getElem? (i := 16) rfl)))
theorem gL_law_X11_spite : GoodIn wsL_law (wsV RL 89 RX11 yX11_spite wsX11_spite) := goodIn_app (bg_cons (bi_wsL_law0_r39 _ (List.mem_of_getElem? (i := 13) rfl)) (bg_cons (bi_wsL_law0_r39 _ (List.mem_of_getElem? (i := 14) rfl)) (bg_cons (bi_wsL_law0_r39 _ (List.mem_of_getElem? (i := 15) rfl)) (bg_cons (bi_wsL_law0_r1 _ (List.mem_of_getElem? (i := 2) rfl)) bg_nil)))) (bg_law (bi_wsL_law0_r39 _ (List.mem_of_getElem? (i := 16) rfl)))
theorem ggL_law_X12_spite : GoodIn wsL_law wsX12_spite := (bg_law (bi_wsL_law0_r39 _ (List.mem_of_getElem? (i := 20) rfl)))
theorem gL_law_X12_spite : GoodIn wsL_law (wsV RL 92 RX12 yX12_spite wsX12_spite) := goodIn_app (bg_cons (bi_wsL_law0_r39 _ (List.mem_of_getElem? (i := 17) rfl)) (bg_cons (bi_wsL_law0_r39 _ (List.mem_of_getElem? (i := 18) rfl)) (bg_cons (bi_wsL_law0_r39 _ (List.mem_of_getElem? (i := 19) rfl)) (bg_cons (bi_wsL_law0_r1 _ (List.mem_of_getElem? (i := 5) rfl)) bg_nil)))) (bg_law (bi_wsL_law0_r39 _ (List.mem_of_getElem? (i := 20) rfl)))
theorem ggL_law_X11_years : GoodIn wsL_law wsX11_years := (bg_law (bi_wsL_law0_r40 _ (List.mem_of_getElem? (i := 0) rfl)))
theorem gL_law_X11_years : GoodIn wsL_law (wsV RL 95 RX11 yX11_years wsX11_years) := goodIn_app (bg_cons (bi_wsL_law0_r39 _ (List.mem_of_getElem? (i := 21) rfl)) (bg_cons (bi_wsL_law0_r39 _ (List.mem_of_getElem? (i := 22) rfl)) (bg_cons (bi_wsL_law0_r39 _ (List.mem_of_getElem? (i := 23) rfl)) (bg_cons (bi_wsL_law0_r1 _ (List.mem_of_getElem? (i := 2) rfl)) bg_nil)))) (bg_law (bi_wsL_law0_r40 _ (List.mem_of_getElem? (i := 0) rfl)))
theorem ggL_law_X12_years : GoodIn wsL_law wsX12_years := (bg_law (bi_wsL_law0_r40 _ (List.mem_of_getElem? (i := 14) rfl)))
theorem gL_law_X12_years : GoodIn wsL_law (wsV RL 99 RX12 yX12_years wsX12_years) := goodIn_app (bg_cons (bi_wsL_law0_r40 _ (List.mem_of_getElem? (i := 11) rfl)) (bg_cons (bi_wsL_law0_r40 _ (List.mem_of_getElem? (i := 12) rfl)) (bg_cons (bi_wsL_law0_r40 _ (List.mem_of_getElem? (i := 13) rfl)) (bg_cons (bi_wsL_law0_r1 _ (List.mem_of_getElem? (i := 5) rfl)) bg_nil)))) (bg_law (bi_wsL_law0_r40 _ (List.mem_of_getElem? (i := 14) rfl)))
theorem ggL_law_X11_status : GoodIn wsL_law wsX11_status := (bg_law (bi_wsL_law0_r41 _ (List.mem_of_getElem? (i := 5) rfl)))
theorem gL_law_X11_status : GoodIn wsL_law (wsV RL 100 RX11 yX11_status wsX11_status) := goodIn_app (bg_cons (bi_wsL_law0_r41 _ (List.mem_of_getElem? (i := 2) rfl)) (bg_cons (bi_wsL_law0_r41 _ (List.mem_of_getElem? (i := 3) rfl)) (bg_cons (bi_wsL_law0_r41 _ (List.mem_of_getElem? (i := 4) rfl)) (bg_cons (bi_wsL_law0_r1 _ (List.mem_of_getElem? (i := 2) rfl)) bg_nil)))) (bg_law (bi_wsL_law0_r41 _ (List.mem_of_getElem? (i := 5) rfl)))
theorem ggL_law_X12_status : GoodIn wsL_law wsX12_status := (bg_law (bi_wsL_law0_r41 _ (List.mem_of_getElem? (i := 9) rfl)))
theorem gL_law_X12_status : GoodIn wsL_law (wsV RL 103 RX12 yX12_status wsX12_status) := goodIn_app (bg_cons (bi_wsL_law0_r41 _ (List.mem_of_getElem? (i := 6) rfl)) (bg_cons (bi_wsL_law0_r41 _ (List.mem_of_getElem? (i := 7) rfl)) (bg_cons (bi_wsL_law0_r41 _ (List.mem_of_getElem? (i := 8) rfl)) (bg_cons (bi_wsL_law0_r1 _ (List.mem_of_getElem? (i := 5) rfl)) bg_nil)))) (bg_law (bi_wsL_law0_r41 _ (List.mem_of_getElem? (i := 9) rfl)))
theorem ggL_law_X11_undo : GoodIn wsL_law wsX11_undo := (bg_law (bi_wsL_law0_r41 _ (List.mem_of_getElem? (i := 13) rfl)))
theorem gL_law_X11_undo : GoodIn wsL_law (wsV RL 104 RX11 yX11_undo wsX11_undo) := goodIn_app (bg_cons (bi_wsL_law0_r41 _ (List.mem_of_getElem? (i := 10) rfl)) (bg_cons (bi_wsL_law0_r41 _ (List.mem_of_getElem? (i := 11) rfl)) (bg_cons (bi_wsL_law0_r41 _ (List.mem_of_getElem? (i := 12) rfl)) (bg_cons (bi_wsL_law0_r1 _ (List.mem_of_getElem? (i := 2) rfl)) bg_nil)))) (bg_law (bi_wsL_law0_r41 _ (List.mem_of_getElem? (i := 13) rfl)))
theorem ggL_law_X12_undo : GoodIn wsL_law wsX12_undo := (bg_law (bi_wsL_law0_r41 _ (List.mem_of_getElem? (i := 22) rfl)))
theorem gL_law_X12_undo : GoodIn wsL_law (wsV RL 107 RX12 yX12_undo wsX12_undo) := goodIn_app (bg_cons (bi_wsL_law0_r41 _ (List.mem_of_getElem? (i := 19) rfl)) (bg_cons (bi_wsL_law0_r41 _ (List.mem_of_getElem? (i := 20) rfl)) (bg_cons (bi_wsL_law0_r41 _ (List.mem_of_getElem? (i := 21) rfl)) (bg_cons (bi_wsL_law0_r1 _ (List.mem_of_getElem? (i := 5) rfl)) bg_nil)))) (bg_law (bi_wsL_law0_r41 _ (List.mem_of_getElem? (i := 22) rfl)))
theorem ggL_law_X11_log : GoodIn wsL_law wsX11_log := (bg_law (bi_wsL_law0_r42 _ (List.mem_of_getElem? (i := 2) rfl)))
theorem gL_law_X11_log : GoodIn wsL_law (wsV RL 108 RX11 yX11_log wsX11_log) := goodIn_app (bg_cons (bi_wsL_law0_r41 _ (List.mem_of_getElem? (i := 23) rfl)) (bg_cons (bi_wsL_law0_r42 _ (List.mem_of_getElem? (i := 0) rfl)) (bg_cons (bi_wsL_law0_r42 _ (List.mem_of_getElem? (i := 1) rfl)) (bg_cons (bi_wsL_law0_r1 _ (List.mem_of_getElem? (i := 2) rfl)) bg_nil)))) (bg_law (bi_wsL_law0_r42 _ (List.mem_of_getElem? (i := 2) rfl)))
theorem ggL_law_X12_log : GoodIn wsL_law wsX12_log := (bg_law (bi_wsL_law0_r42 _ (List.mem_of_getElem? (i := 14) rfl)))
theorem gL_law_X12_log : GoodIn wsL_law (wsV RL 111 RX12 yX12_log wsX12_log) := goodIn_app (bg_cons (bi_wsL_law0_r42 _ (List.mem_of_getElem? (i := 11) rfl)) (bg_cons (bi_wsL_law0_r42 _ (List.mem_of_getElem? (i := 12) rfl)) (bg_cons (bi_wsL_law0_r42 _ (List.mem_of_getElem? (i := 13) rfl)) (bg_cons (bi_wsL_law0_r1 _ (List.mem_of_getElem? (i := 5) rfl)) bg_nil)))) (bg_law (bi_wsL_law0_r42 _ (List.mem_of_getElem? (i := 14) rfl)))
theorem ggL_law_X11_rises : GoodIn wsL_law wsX11_rises := (bg_law (bi_wsL_law0_r42 _ (List.mem_of_getElem? (i := 18) rfl)))
theorem gL_law_X11_rises : GoodIn wsL_law (wsV RL 112 RX11 yX11_rises wsX11_rises) := goodIn_app (bg_cons (bi_wsL_law0_r42 _ (List.mem_of_getElem? (i := 15) rfl)) (bg_cons (bi_wsL_law0_r42 _ (List.mem_of_getElem? (i := 16) rfl)) (bg_cons (bi_wsL_law0_r42 _ (List.mem_of_getElem? (i := 17) rfl)) (bg_cons (bi_wsL_law0_r1 _ (List.mem_of_getElem? (i := 2) rfl)) bg_nil)))) (bg_law (bi_wsL_law0_r42 _ (List.mem_of_getElem? (i := 18) rfl)))
theorem ggL_law_X12_rises : GoodIn wsL_law wsX12_rises := (bg_law (bi_wsL_law0_r43 _ (List.mem_of_getElem? (i := 3) rfl)))
theorem gL_law_X12_rises : GoodIn wsL_law (wsV RL 115 RX12 yX12_rises wsX12_rises) := goodIn_app (bg_cons (bi_wsL_law0_r43 _ (List.mem_of_getElem? (i := 0) rfl)) (bg_cons (bi_wsL_law0_r43 _ (List.mem_of_getElem? (i := 1) rfl)) (bg_cons (bi_wsL_law0_r43 _ (List.mem_of_getElem? (i := 2) rfl)) (bg_cons (bi_wsL_law0_r1 _ (List.mem_of_getElem? (i := 5) rfl)) bg_nil)))) (bg_law (bi_wsL_law0_r43 _ (List.mem_of_getElem? (i := 3) rfl)))
theorem ggL_law_X11_later : GoodIn wsL_law wsX11_later := (bg_law (bi_wsL_law0_r43 _ (List.mem_of_getElem? (i := 8) rfl)))
theorem gL_law_X11_later : GoodIn wsL_law (wsV RL 116 RX11 yX11_later wsX11_later) := goodIn_app (bg_cons (bi_wsL_law0_r43 _ (List.mem_of_getElem? (i := 5) rfl)) (bg_cons (bi_wsL_law0_r43 _ (List.mem_of_getElem? (i := 6) rfl)) (bg_cons (bi_wsL_law0_r43 _ (List.mem_of_getElem? (i := 7) rfl)) (bg_cons (bi_wsL_law0_r1 _ (List.mem_of_getElem? (i := 2) rfl)) bg_nil)))) (bg_law (bi_wsL_law0_r43 _ (List.mem_of_getElem? (i := 8) rfl)))
theorem ggL_law_X12_later : GoodIn wsL_law wsX12_later := (bg_law (bi_wsL_law0_r43 _ (List.mem_of_getElem? (i := 13) rfl)))
theorem gL_law_X12_later : GoodIn wsL_law (wsV RL 120 RX12 yX12_later wsX12_later) := goodIn_app (bg_cons (bi_wsL_law0_r43 _ (List.mem_of_getElem? (i := 10) rfl)) (bg_cons (bi_wsL_law0_r43 _ (List.mem_of_getElem? (i := 11) rfl)) (bg_cons (bi_wsL_law0_r43 _ (List.mem_of_getElem? (i := 12) rfl)) (bg_cons (bi_wsL_law0_r1 _ (List.mem_of_getElem? (i := 5) rfl)) bg_nil)))) (bg_law (bi_wsL_law0_r43 _ (List.mem_of_getElem? (i := 13) rfl)))
theorem ggL_law_X11_soonest : GoodIn wsL_law wsX11_soonest := (bg_law (bi_wsL_law0_r43 _ (List.mem_of_getElem? (i := 17) rfl)))
theorem gL_law_X11_soonest : GoodIn wsL_law (wsV RL 121 RX11 yX11_soonest wsX11_soonest) := goodIn_app (bg_cons (bi_wsL_law0_r43 _ (List.mem_of_getElem? (i := 14) rfl)) (bg_cons (bi_wsL_law0_r43 _ (List.mem_of_getElem? (i := 15) rfl)) (bg_cons (bi_wsL_law0_r43 _ (List.mem_of_getElem? (i := 16) rfl)) (bg_cons (bi_wsL_law0_r1 _ (List.mem_of_getElem? (i := 2) rfl)) bg_nil)))) (bg_law (bi_wsL_law0_r43 _ (List.mem_of_getElem? (i := 17) rfl)))
theorem ggL_law_X12_soonest : GoodIn wsL_law wsX12_soonest := (bg_law (bi_wsL_law0_r44 _ (List.mem_of_getElem? (i := 1) rfl)))
theorem gL_law_X12_soonest : GoodIn wsL_law (wsV RL 124 RX12 yX12_soonest wsX12_soonest) := goodIn_app (bg_cons (bi_wsL_law0_r43 _ (List.mem_of_getElem? (i := 22) rfl)) (bg_cons (bi_wsL_law0_r43 _ (List.mem_of_getElem? (i := 23) rfl)) (bg_cons (bi_wsL_law0_r44 _ (List.mem_of_getElem? (i := 0) rfl)) (bg_cons (bi_wsL_law0_r1 _ (List.mem_of_getElem? (i := 5) rfl)) bg_nil)))) (bg_law (bi_wsL_law0_r44 _ (List.mem_of_getElem? (i := 1) rfl)))
theorem ggL_law_X11_pairs : GoodIn wsL_law wsX11_pairs := (bg_law (bi_wsL_law0_r44 _ (List.mem_of_getElem? (i := 9) rfl)))
theorem gL_law_X11_pairs : GoodIn wsL_law (wsV RL 125 RX11 yX11_pairs wsX11_pairs) := goodIn_app (bg_cons (bi_wsL_law0_r44 _ (List.mem_of_getElem? (i := 6) rfl)) (bg_cons (bi_wsL_law0_r44 _ (List.mem_of_getElem? (i := 7) rfl)) (bg_cons (bi_wsL_law0_r44 _ (List.mem_of_getElem? (i := 8) rfl)) (bg_cons (bi_wsL_law0_r1 _ (List.mem_of_getElem? (i := 2) rfl)) bg_nil)))) (bg_law (bi_wsL_law0_r44 _ (List.mem_of_getElem? (i := 9) rfl)))
theorem ggL_law_X12_pairs : GoodIn wsL_law wsX12_pairs := (bg_law (bi_wsL_law0_r45 _ (List.mem_of_getElem? (i := 10) rfl)))
theorem gL_law_X12_pairs : GoodIn wsL_law (wsV RL 128 RX12 yX12_pairs wsX12_pairs) := goodIn_app (bg_cons (bi_wsL_law0_r45 _ (List.mem_of_getElem? (i := 7) rfl)) (bg_cons (bi_wsL_law0_r45 _ (List.mem_of_getElem? (i := 8) rfl)) (bg_cons (bi_wsL_law0_r45 _ (List.mem_of_getElem? (i := 9) rfl)) (bg_cons (bi_wsL_law0_r1 _ (List.mem_of_getElem? (i := 5) rfl)) bg_nil)))) (bg_law (bi_wsL_law0_r45 _ (List.mem_of_getElem? (i := 10) rfl)))
theorem ggL_law_X11_allKnow : GoodIn wsL_law wsX11_allKnow := (bg_law (bi_wsL_law0_r46 _ (List.mem_of_getElem? (i := 5) rfl)))
theorem gL_law_X11_allKnow : GoodIn wsL_law (wsV RL 129 RX11 yX11_allKnow wsX11_allKnow) := goodIn_app (bg_cons (bi_wsL_law0_r46 _ (List.mem_of_getElem? (i := 2) rfl)) (bg_cons (bi_wsL_law0_r46 _ (List.mem_of_getElem? (i := 3) rfl)) (bg_cons (bi_wsL_law0_r46 _ (List.mem_of_getElem? (i := 4) rfl)) (bg_cons (bi_wsL_law0_r1 _ (List.mem_of_getElem? (i := 2) rfl)) bg_nil)))) (bg_law (bi_wsL_law0_r46 _ (List.mem_of_getElem? (i := 5) rfl)))
theorem ggL_law_X12_allKnow : GoodIn wsL_law wsX12_allKnow := (bg_law (bi_wsL_law0_r46 _ (List.mem_of_getElem? (i := 23) rfl)))
theorem gL_law_X12_allKnow : GoodIn wsL_law (wsV RL 132 RX12 yX12_allKnow wsX12_allKnow) := goodIn_app (bg_cons (bi_wsL_law0_r46 _ (List.mem_of_getElem? (i := 20) rfl)) (bg_cons (bi_wsL_law0_r46 _ (List.mem_of_getElem? (i := 21) rfl)) (bg_cons (bi_wsL_law0_r46 _ (List.mem_of_getElem? (i := 22) rfl)) (bg_cons (bi_wsL_law0_r1 _ (List.mem_of_getElem? (i := 5) rfl)) bg_nil)))) (bg_law (bi_wsL_law0_r46 _ (List.mem_of_getElem? (i := 23) rfl)))
theorem ggL_law_X11_seen : GoodIn wsL_law wsX11_seen := (bg_law (bi_wsL_law0_r47 _ (List.mem_of_getElem? (i := 11) rfl)))
theorem gL_law_X11_seen : GoodIn wsL_law (wsV RL 133 RX11 yX11_seen wsX11_seen) := goodIn_app (bg_cons (bi_wsL_law0_r47 _ (List.mem_of_getElem? (i := 8) rfl)) (bg_cons (bi_wsL_law0_r47 _ (List.mem_of_getElem? (i := 9) rfl)) (bg_cons (bi_wsL_law0_r47 _ (List.mem_of_getElem? (i := 10) rfl)) (bg_cons (bi_wsL_law0_r1 _ (List.mem_of_getElem? (i := 2) rfl)) bg_nil)))) (bg_law (bi_wsL_law0_r47 _ (List.mem_of_getElem? (i := 11) rfl)))
theorem ggL_law_X12_seen : GoodIn wsL_law wsX12_seen := (bg_law (bi_wsL_law0_r48 _ (List.mem_of_getElem? (i := 3) rfl)))
theorem gL_law_X12_seen : GoodIn wsL_law (wsV RL 137 RX12 yX12_seen wsX12_seen) := goodIn_app (bg_cons (bi_wsL_law0_r48 _ (List.mem_of_getElem? (i := 0) rfl)) (bg_cons (bi_wsL_law0_r48 _ (List.mem_of_getElem? (i := 1) rfl)) (bg_cons (bi_wsL_law0_r48 _ (List.mem_of_getElem? (i := 2) rfl)) (bg_cons (bi_wsL_law0_r1 _ (List.mem_of_getElem? (i := 5) rfl)) bg_nil)))) (bg_law (bi_wsL_law0_r48 _ (List.mem_of_getElem? (i := 3) rfl)))
theorem ggL_law_X11_fits : GoodIn wsL_law wsX11_fits := (bg_law (bi_wsL_law0_r48 _ (List.mem_of_getElem? (i := 7) rfl)))
theorem gL_law_X11_fits : GoodIn wsL_law (wsV RL 138 RX11 yX11_fits wsX11_fits) := goodIn_app (bg_cons (bi_wsL_law0_r48 _ (List.mem_of_getElem? (i := 4) rfl)) (bg_cons (bi_wsL_law0_r48 _ (List.mem_of_getElem? (i := 5) rfl)) (bg_cons (bi_wsL_law0_r48 _ (List.mem_of_getElem? (i := 6) rfl)) (bg_cons (bi_wsL_law0_r1 _ (List.mem_of_getElem? (i := 2) rfl)) bg_nil)))) (bg_law (bi_wsL_law0_r48 _ (List.mem_of_getElem? (i := 7) rfl)))
theorem ggL_law_X12_fits : GoodIn wsL_law wsX12_fits := (bg_law (bi_wsL_law0_r49 _ (List.mem_of_getElem? (i := 0) rfl)))
theorem gL_law_X12_fits : GoodIn wsL_law (wsV RL 141 RX12 yX12_fits wsX12_fits) := goodIn_app (bg_cons (bi_wsL_law0_r48 _ (List.mem_of_getElem? (i := 21) rfl)) (bg_cons (bi_wsL_law0_r48 _ (List.mem_of_getElem? (i := 22) rfl)) (bg_cons (bi_wsL_law0_r48 _ (List.mem_of_getElem? (i := 23) rfl)) (bg_cons (bi_wsL_law0_r1 _ (List.mem_of_getElem? (i := 5) rfl)) bg_nil)))) (bg_law (bi_wsL_law0_r49 _ (List.mem_of_getElem? (i := 0) rfl)))
theorem ggL_law_X11_ask : GoodIn wsL_law wsX11_ask := (bg_law (bi_wsL_law0_r49 _ (List.mem_of_getElem? (i := 12) rfl)))
theorem gL_law_X11_ask : GoodIn wsL_law (wsV RL 142 RX11 yX11_ask wsX11_ask) := goodIn_app (bg_cons (bi_wsL_law0_r49 _ (List.mem_of_getElem? (i := 9) rfl)) (bg_cons (bi_wsL_law0_r49 _ (List.mem_of_getElem? (i := 10) rfl)) (bg_cons (bi_wsL_law0_r49 _ (List.mem_of_getElem? (i := 11) rfl)) (bg_cons (bi_wsL_law0_r1 _ (List.mem_of_getElem? (i := 2) rfl)) bg_nil)))) (bg_law (bi_wsL_law0_r49 _ (List.mem_of_getElem? (i := 12) rfl)))
theorem ggL_law_X12_ask : GoodIn wsL_law wsX12_ask := (bg_law (bi_wsL_law0_r50 _ (List.mem_of_getElem? (i := 4) rfl)))
theorem gL_law_X12_ask : GoodIn wsL_law (wsV RL 145 RX12 yX12_ask wsX12_ask) := goodIn_app (bg_cons (bi_wsL_law0_r50 _ (List.mem_of_getElem? (i := 1) rfl)) (bg_cons (bi_wsL_law0_r50 _ (List.mem_of_getElem? (i := 2) rfl)) (bg_cons (bi_wsL_law0_r50 _ (List.mem_of_getElem? (i := 3) rfl)) (bg_cons (bi_wsL_law0_r1 _ (List.mem_of_getElem? (i := 5) rfl)) bg_nil)))) (bg_law (bi_wsL_law0_r50 _ (List.mem_of_getElem? (i := 4) rfl)))
theorem ggL_law_X11_game : GoodIn wsL_law wsX11_game := (bg_law (bi_wsL_law0_r50 _ (List.mem_of_getElem? (i := 10) rfl)))
theorem gL_law_X11_game : GoodIn wsL_law (wsV RL 146 RX11 yX11_game wsX11_game) := goodIn_app (bg_cons (bi_wsL_law0_r50 _ (List.mem_of_getElem? (i := 7) rfl)) (bg_cons (bi_wsL_law0_r50 _ (List.mem_of_getElem? (i := 8) rfl)) (bg_cons (bi_wsL_law0_r50 _ (List.mem_of_getElem? (i := 9) rfl)) (bg_cons (bi_wsL_law0_r1 _ (List.mem_of_getElem? (i := 2) rfl)) bg_nil)))) (bg_law (bi_wsL_law0_r50 _ (List.mem_of_getElem? (i := 10) rfl)))
theorem ggL_law_X12_game : GoodIn wsL_law wsX12_game := (bg_law (bi_wsL_law0_r51 _ (List.mem_of_getElem? (i := 0) rfl)))
theorem gL_law_X12_game : GoodIn wsL_law (wsV RL 149 RX12 yX12_game wsX12_game) := goodIn_app (bg_cons (bi_wsL_law0_r50 _ (List.mem_of_getElem? (i := 21) rfl)) (bg_cons (bi_wsL_law0_r50 _ (List.mem_of_getElem? (i := 22) rfl)) (bg_cons (bi_wsL_law0_r50 _ (List.mem_of_getElem? (i := 23) rfl)) (bg_cons (bi_wsL_law0_r1 _ (List.mem_of_getElem? (i := 5) rfl)) bg_nil)))) (bg_law (bi_wsL_law0_r51 _ (List.mem_of_getElem? (i := 0) rfl)))
theorem ggL_law_X11_sure : GoodIn wsL_law wsX11_sure := (bg_law (bi_wsL_law0_r51 _ (List.mem_of_getElem? (i := 12) rfl)))
theorem gL_law_X11_sure : GoodIn wsL_law (wsV RL 150 RX11 yX11_sure wsX11_sure) := goodIn_app (bg_cons (bi_wsL_law0_r51 _ (List.mem_of_getElem? (i := 9) rfl)) (bg_cons (bi_wsL_law0_r51 _ (List.mem_of_getElem? (i := 10) rfl)) (bg_cons (bi_wsL_law0_r51 _ (List.mem_of_getElem? (i := 11) rfl)) (bg_cons (bi_wsL_law0_r1 _ (List.mem_of_getElem? (i := 2) rfl)) bg_nil)))) (bg_law (bi_wsL_law0_r51 _ (List.mem_of_getElem? (i := 12) rfl)))
theorem ggL_law_X12_sure : GoodIn wsL_law wsX12_sure := (bg_law (bi_wsL_law0_r51 _ (List.mem_of_getElem? (i := 22) rfl)))
theorem gL_law_X12_sure : GoodIn wsL_law (wsV RL 153 RX12 yX12_sure wsX12_sure) := goodIn_app (bg_cons (bi_wsL_law0_r51 _ (List.mem_of_getElem? (i := 19) rfl)) (bg_cons (bi_wsL_law0_r51 _ (List.mem_of_getElem? (i := 20) rfl)) (bg_cons (bi_wsL_law0_r51 _ (List.mem_of_getElem? (i := 21) rfl)) (bg_cons (bi_wsL_law0_r1 _ (List.mem_of_getElem? (i := 5) rfl)) bg_nil)))) (bg_law (bi_wsL_law0_r51 _ (List.mem_of_getElem? (i := 22) rfl)))
theorem ggL_law_X11_rests : GoodIn wsL_law wsX11_rests := (bg_law (bi_wsL_law0_r52 _ (List.mem_of_getElem? (i := 10) rfl)))
theorem gL_law_X11_rests : GoodIn wsL_law (wsV RL 154 RX11 yX11_rests wsX11_rests) := goodIn_app (bg_cons (bi_wsL_law0_r52 _ (List.mem_of_getElem? (i := 7) rfl)) (bg_cons (bi_wsL_law0_r52 _ (List.mem_of_getElem? (i := 8) rfl)) (bg_cons (bi_wsL_law0_r52 _ (List.mem_of_getElem? (i := 9) rfl)) (bg_cons (bi_wsL_law0_r1 _ (List.mem_of_getElem? (i := 2) rfl)) bg_nil)))) (bg_law (bi_wsL_law0_r52 _ (List.mem_of_getElem? (i := 10) rfl)))
theorem ggL_law_X12_rests : GoodIn wsL_law wsX12_rests := (bg_law (bi_wsL_law0_r52 _ (List.mem_of_getElem? (i := 19) rfl)))
theorem gL_law_X12_rests : GoodIn wsL_law (wsV RL 157 RX12 yX12_rests wsX12_rests) := goodIn_app (bg_cons (bi_wsL_law0_r52 _ (List.mem_of_getElem? (i := 16) rfl)) (bg_cons (bi_wsL_law0_r52 _ (List.mem_of_getElem? (i := 17) rfl)) (bg_cons (bi_wsL_law0_r52 _ (List.mem_of_getElem? (i := 18) rfl)) (bg_cons (bi_wsL_law0_r1 _ (List.mem_of_getElem? (i := 5) rfl)) bg_nil)))) (bg_law (bi_wsL_law0_r52 _ (List.mem_of_getElem? (i := 19) rfl)))
theorem ggL_law_X11_odds : GoodIn wsL_law wsX11_odds := (bg_law (bi_wsL_law0_r53 _ (List.mem_of_getElem? (i := 3) rfl)))
theorem gL_law_X11_odds : GoodIn wsL_law (wsV RL 158 RX11 yX11_odds wsX11_odds) := goodIn_app (bg_cons (bi_wsL_law0_r53 _ (List.mem_of_getElem? (i := 0) rfl)) (bg_cons (bi_wsL_law0_r53 _ (List.mem_of_getElem? (i := 1) rfl)) (bg_cons (bi_wsL_law0_r53 _ (List.mem_of_getElem? (i := 2) rfl)) (bg_cons (bi_wsL_law0_r1 _ (List.mem_of_getElem? (i := 2) rfl)) bg_nil)))) (bg_law (bi_wsL_law0_r53 _ (List.mem_of_getElem? (i := 3) rfl)))
theorem ggL_law_X12_odds : GoodIn wsL_law wsX12_odds := (bg_law (bi_wsL_law0_r54 _ (List.mem_of_getElem? (i := 4) rfl)))
theorem gL_law_X12_odds : GoodIn wsL_law (wsV RL 161 RX12 yX12_odds wsX12_odds) := goodIn_app (bg_cons (bi_wsL_law0_r54 _ (List.mem_of_getElem? (i := 1) rfl)) (bg_cons (bi_wsL_law0_r54 _ (List.mem_of_getElem? (i := 2) rfl)) (bg_cons (bi_wsL_law0_r54 _ (List.mem_of_getElem? (i := 3) rfl)) (bg_cons (bi_wsL_law0_r1 _ (List.mem_of_getElem? (i := 5) rfl)) bg_nil)))) (bg_law (bi_wsL_law0_r54 _ (List.mem_of_getElem? (i := 4) rfl)))
theorem ggL_law_X11_shares : GoodIn wsL_law wsX11_shares := (bg_law (bi_wsL_law0_r54 _ (List.mem_of_getElem? (i := 14) rfl)))
theorem gL_law_X11_shares : GoodIn wsL_law (wsV RL 162 RX11 yX11_shares wsX11_shares) := goodIn_app (bg_cons (bi_wsL_law0_r54 _ (List.mem_of_getElem? (i := 11) rfl)) (bg_cons (bi_wsL_law0_r54 _ (List.mem_of_getElem? (i := 12) rfl)) (bg_cons (bi_wsL_law0_r54 _ (List.mem_of_getElem? (i := 13) rfl)) (bg_cons (bi_wsL_law0_r1 _ (List.mem_of_getElem? (i := 2) rfl)) bg_nil)))) (bg_law (bi_wsL_law0_r54 _ (List.mem_of_getElem? (i := 14) rfl)))
theorem ggL_law_X12_shares : GoodIn wsL_law wsX12_shares := (bg_law (bi_wsL_law0_r54 _ (List.mem_of_getElem? (i := 23) rfl)))
theorem gL_law_X12_shares : GoodIn wsL_law (wsV RL 165 RX12 yX12_shares wsX12_shares) := goodIn_app (bg_cons (bi_wsL_law0_r54 _ (List.mem_of_getElem? (i := 20) rfl)) (bg_cons (bi_wsL_law0_r54 _ (List.mem_of_getElem? (i := 21) rfl)) (bg_cons (bi_wsL_law0_r54 _ (List.mem_of_getElem? (i := 22) rfl)) (bg_cons (bi_wsL_law0_r1 _ (List.mem_of_getElem? (i := 5) rfl)) bg_nil)))) (bg_law (bi_wsL_law0_r54 _ (List.mem_of_getElem? (i := 23) rfl)))
theorem ggL_law_X11_most : GoodIn wsL_law wsX11_most := (bg_law (bi_wsL_law0_r55 _ (List.mem_of_getElem? (i := 3) rfl)))
theorem gL_law_X11_most : GoodIn wsL_law (wsV RL 166 RX11 yX11_most wsX11_most) := goodIn_app (bg_cons (bi_wsL_law0_r55 _ (List.mem_of_getElem? (i := 0) rfl)) (bg_cons (bi_wsL_law0_r55 _ (List.mem_of_getElem? (i := 1) rfl)) (bg_cons (bi_wsL_law0_r55 _ (List.mem_of_getElem? (i := 2) rfl)) (bg_cons (bi_wsL_law0_r1 _ (List.mem_of_getElem? (i := 2) rfl)) bg_nil)))) (bg_law (bi_wsL_law0_r55 _ (List.mem_of_getElem? (i := 3) rfl)))
theorem ggL_law_X12_most : GoodIn wsL_law wsX12_most := (bg_law (bi_wsL_law0_r57 _ (List.mem_of_getElem? (i := 2) rfl)))
theorem gL_law_X12_most : GoodIn wsL_law (wsV RL 169 RX12 yX12_most wsX12_most) := goodIn_app (bg_cons (bi_wsL_law0_r56 _ (List.mem_of_getElem? (i := 23) rfl)) (bg_cons (bi_wsL_law0_r57 _ (List.mem_of_getElem? (i := 0) rfl)) (bg_cons (bi_wsL_law0_r57 _ (List.mem_of_getElem? (i := 1) rfl)) (bg_cons (bi_wsL_law0_r1 _ (List.mem_of_getElem? (i := 5) rfl)) bg_nil)))) (bg_law (bi_wsL_law0_r57 _ (List.mem_of_getElem? (i := 2) rfl)))
theorem ggL_law_X11_allies : GoodIn wsL_law wsX11_allies := (bg_law (bi_wsL_law0_r58 _ (List.mem_of_getElem? (i := 10) rfl)))
theorem gL_law_X11_allies : GoodIn wsL_law (wsV RL 170 RX11 yX11_allies wsX11_allies) := goodIn_app (bg_cons (bi_wsL_law0_r58 _ (List.mem_of_getElem? (i := 7) rfl)) (bg_cons (bi_wsL_law0_r58 _ (List.mem_of_getElem? (i := 8) rfl)) (bg_cons (bi_wsL_law0_r58 _ (List.mem_of_getElem? (i := 9) rfl)) (bg_cons (bi_wsL_law0_r1 _ (List.mem_of_getElem? (i := 2) rfl)) bg_nil)))) (bg_law (bi_wsL_law0_r58 _ (List.mem_of_getElem? (i := 10) rfl)))
theorem ggL_law_X12_allies : GoodIn wsL_law wsX12_allies := (bg_law (bi_wsL_law0_r58 _ (List.mem_of_getElem? (i := 15) rfl)))
theorem gL_law_X12_allies : GoodIn wsL_law (wsV RL 173 RX12 yX12_allies wsX12_allies) := goodIn_app (bg_cons (bi_wsL_law0_r58 _ (List.mem_of_getElem? (i := 12) rfl)) (bg_cons (bi_wsL_law0_r58 _ (List.mem_of_getElem? (i := 13) rfl)) (bg_cons (bi_wsL_law0_r58 _ (List.mem_of_getElem? (i := 14) rfl)) (bg_cons (bi_wsL_law0_r1 _ (List.mem_of_getElem? (i := 5) rfl)) bg_nil)))) (bg_law (bi_wsL_law0_r58 _ (List.mem_of_getElem? (i := 15) rfl)))
theorem ggL_law_X11_image : GoodIn wsL_law wsX11_image := (bg_law (bi_wsL_law0_r58 _ (List.mem_of_getElem? (i := 19) rfl)))
theorem gL_law_X11_image : GoodIn wsL_law (wsV RL 174 RX11 yX11_image wsX11_image) := goodIn_app (bg_cons (bi_wsL_law0_r58 _ (List.mem_of_getElem? (i := 16) rfl)) (bg_cons (bi_wsL_law0_r58 _ (List.mem_of_getElem? (i := 17) rfl)) (bg_cons (bi_wsL_law0_r58 _ (List.mem_of_getElem? (i := 18) rfl)) (bg_cons (bi_wsL_law0_r1 _ (List.mem_of_getElem? (i := 2) rfl)) bg_nil)))) (bg_law (bi_wsL_law0_r58 _ (List.mem_of_getElem? (i := 19) rfl)))
theorem ggL_law_X12_image : GoodIn wsL_law wsX12_image := (bg_law (bi_wsL_law0_r59 _ (List.mem_of_getElem? (i := 4) rfl)))
theorem gL_law_X12_image : GoodIn wsL_law (wsV RL 177 RX12 yX12_image wsX12_image) := goodIn_app (bg_cons (bi_wsL_law0_r59 _ (List.mem_of_getElem? (i := 1) rfl)) (bg_cons (bi_wsL_law0_r59 _ (List.mem_of_getElem? (i := 2) rfl)) (bg_cons (bi_wsL_law0_r59 _ (List.mem_of_getElem? (i := 3) rfl)) (bg_cons (bi_wsL_law0_r1 _ (List.mem_of_getElem? (i := 5) rfl)) bg_nil)))) (bg_law (bi_wsL_law0_r59 _ (List.mem_of_getElem? (i := 4) rfl)))
theorem ggL_law_X11_back : GoodIn wsL_law wsX11_back := (bg_law (bi_wsL_law0_r59 _ (List.mem_of_getElem? (i := 8) rfl)))
theorem gL_law_X11_back : GoodIn wsL_law (wsV RL 178 RX11 yX11_back wsX11_back) := goodIn_app (bg_cons (bi_wsL_law0_r59 _ (List.mem_of_getElem? (i := 5) rfl)) (bg_cons (bi_wsL_law0_r59 _ (List.mem_of_getElem? (i := 6) rfl)) (bg_cons (bi_wsL_law0_r59 _ (List.mem_of_getElem? (i := 7) rfl)) (bg_cons (bi_wsL_law0_r1 _ (List.mem_of_getElem? (i := 2) rfl)) bg_nil)))) (bg_law (bi_wsL_law0_r59 _ (List.mem_of_getElem? (i := 8) rfl)))
theorem ggL_law_X12_back : GoodIn wsL_law wsX12_back := (bg_law (bi_wsL_law0_r59 _ (List.mem_of_getElem? (i := 12) rfl)))
theorem gL_law_X12_back : GoodIn wsL_law (wsV RL 181 RX12 yX12_back wsX12_back) := goodIn_app (bg_cons (bi_wsL_law0_r59 _ (List.mem_of_getElem? (i := 9) rfl)) (bg_cons (bi_wsL_law0_r59 _ (List.mem_of_getElem? (i := 10) rfl)) (bg_cons (bi_wsL_law0_r59 _ (List.mem_of_getElem? (i := 11) rfl)) (bg_cons (bi_wsL_law0_r1 _ (List.mem_of_getElem? (i := 5) rfl)) bg_nil)))) (bg_law (bi_wsL_law0_r59 _ (List.mem_of_getElem? (i := 12) rfl)))
theorem ggL_law_X11_count : GoodIn wsL_law wsX11_count := (bg_law (bi_wsL_law0_r59 _ (List.mem_of_getElem? (i := 16) rfl)))
theorem gL_law_X11_count : GoodIn wsL_law (wsV RL 182 RX11 yX11_count wsX11_count) := goodIn_app (bg_cons (bi_wsL_law0_r59 _ (List.mem_of_getElem? (i := 13) rfl)) (bg_cons (bi_wsL_law0_r59 _ (List.mem_of_getElem? (i := 14) rfl)) (bg_cons (bi_wsL_law0_r59 _ (List.mem_of_getElem? (i := 15) rfl)) (bg_cons (bi_wsL_law0_r1 _ (List.mem_of_getElem? (i := 2) rfl)) bg_nil)))) (bg_law (bi_wsL_law0_r59 _ (List.mem_of_getElem? (i := 16) rfl)))
theorem ggL_law_X12_count : GoodIn wsL_law wsX12_count := (bg_law (bi_wsL_law0_r59 _ (List.mem_of_getElem? (i := 21) rfl)))
theorem gL_law_X12_count : GoodIn wsL_law (wsV RL 185 RX12 yX12_count wsX12_count) := goodIn_app (bg_cons (bi_wsL_law0_r59 _ (List.mem_of_getElem? (i := 18) rfl)) (bg_cons (bi_wsL_law0_r59 _ (List.mem_of_getElem? (i := 19) rfl)) (bg_cons (bi_wsL_law0_r59 _ (List.mem_of_getElem? (i := 20) rfl)) (bg_cons (bi_wsL_law0_r1 _ (List.mem_of_getElem? (i := 5) rfl)) bg_nil)))) (bg_law (bi_wsL_law0_r59 _ (List.mem_of_getElem? (i := 21) rfl)))
set_option maxRecDepth 100000 in
theorem dLg_0 : decode cL_law 0 = .ok (.new 8, 3) ∧ decode cL_law 3 = .ok (.dup, 1) ∧ decode cL_law 4 = .ok (.invokespecial 15, 3) ∧ decode cL_law 7 = .ok (.astore_n 1, 1) ∧ decode cL_law 8 = .ok (.new 16, 3) ∧ decode cL_law 11 = .ok (.dup, 1) := by decide +kernel
theorem dL_law_0 : decode cL_law 0 = .ok (.new 8, 3) := dLg_0.1
theorem dL_law_3 : decode cL_law 3 = .ok (.dup, 1) := dLg_0.2.1
theorem dL_law_4 : decode cL_law 4 = .ok (.invokespecial 15, 3) := dLg_0.2.2.1
theorem dL_law_7 : decode cL_law 7 = .ok (.astore_n 1, 1) := dLg_0.2.2.2.1
theorem dL_law_8 : decode cL_law 8 = .ok (.new 16, 3) := dLg_0.2.2.2.2.1
theorem dL_law_11 : decode cL_law 11 = .ok (.dup, 1) := dLg_0.2.2.2.2.2
set_option maxRecDepth 100000 in
theorem dLg_1 : decode cL_law 12 = .ok (.invokespecial 18, 3) ∧ decode cL_law 15 = .ok (.astore_n 2, 1) ∧ decode cL_law 16 = .ok (.iconst 1, 1) ∧ decode cL_law 17 = .ok (.newarray .long, 2) ∧ decode cL_law 19 = .ok (.astore_n 3, 1) ∧ decode cL_law 20 = .ok (.iconst 0, 1) := by decide +kernel
theorem dL_law_12 : decode cL_law 12 = .ok (.invokespecial 18, 3) := dLg_1.1
theorem dL_law_15 : decode cL_law 15 = .ok (.astore_n 2, 1) := dLg_1.2.1
theorem dL_law_16 : decode cL_law 16 = .ok (.iconst 1, 1) := dLg_1.2.2.1
theorem dL_law_17 : decode cL_law 17 = .ok (.newarray .long, 2) := dLg_1.2.2.2.1
theorem dL_law_19 : decode cL_law 19 = .ok (.astore_n 3, 1) := dLg_1.2.2.2.2.1
theorem dL_law_20 : decode cL_law 20 = .ok (.iconst 0, 1) := dLg_1.2.2.2.2.2
set_option maxRecDepth 100000 in
theorem dLg_2 : decode cL_law 21 = .ok (.istore 4, 2) ∧ decode cL_law 23 = .ok (.iload 4, 2) ∧ decode cL_law 25 = .ok (.aload_n 0, 1) ∧ decode cL_law 26 = .ok (.arraylength, 1) ∧ decode cL_law 27 = .ok (.bipush 6, 2) ∧ decode cL_law 29 = .ok (.isub, 1) := by decide +kernel
theorem dL_law_21 : decode cL_law 21 = .ok (.istore 4, 2) := dLg_2.1
theorem dL_law_23 : decode cL_law 23 = .ok (.iload 4, 2) := dLg_2.2.1
theorem dL_law_25 : decode cL_law 25 = .ok (.aload_n 0, 1) := dLg_2.2.2.1
theorem dL_law_26 : decode cL_law 26 = .ok (.arraylength, 1) := dLg_2.2.2.2.1
theorem dL_law_27 : decode cL_law 27 = .ok (.bipush 6, 2) := dLg_2.2.2.2.2.1
theorem dL_law_29 : decode cL_law 29 = .ok (.isub, 1) := dLg_2.2.2.2.2.2
set_option maxRecDepth 100000 in
theorem dLg_3 : decode cL_law 30 = .ok (.if_icmp .gt 1478, 3) ∧ decode cL_law 33 = .ok (.aload_n 0, 1) ∧ decode cL_law 34 = .ok (.iload 4, 2) ∧ decode cL_law 36 = .ok (.iaload, 1) ∧ decode cL_law 37 = .ok (.bipush 63, 2) ∧ decode cL_law 39 = .ok (.iand, 1) := by decide +kernel
theorem dL_law_30 : decode cL_law 30 = .ok (.if_icmp .gt 1478, 3) := dLg_3.1
theorem dL_law_33 : decode cL_law 33 = .ok (.aload_n 0, 1) := dLg_3.2.1
theorem dL_law_34 : decode cL_law 34 = .ok (.iload 4, 2) := dLg_3.2.2.1
theorem dL_law_36 : decode cL_law 36 = .ok (.iaload, 1) := dLg_3.2.2.2.1
theorem dL_law_37 : decode cL_law 37 = .ok (.bipush 63, 2) := dLg_3.2.2.2.2.1
theorem dL_law_39 : decode cL_law 39 = .ok (.iand, 1) := dLg_3.2.2.2.2.2
set_option maxRecDepth 100000 in
theorem dLg_4 : decode cL_law 40 = .ok (.tableswitch 1462 0 38 #[172, 245, 270, 295, 320, 345, 385, 422, 459, 484, 521, 546, 583, 596, 621, 646, 671, 696, 765, 790, 803, 840, 877, 926, 963, 988, 1001, 1078, 1115, 1152, 1201, 1226, 1251, 1324, 1361, 1386, 1411, 1424, 1437], 172) ∧ decode cL_law 212 = .ok (.aload_n 1, 1) ∧ decode cL_law 213 = .ok (.aload_n 0, 1) ∧ decode cL_law 214 = .ok (.iload 4, 2) ∧ decode cL_law 216 = .ok (.iconst 1, 1) ∧ decode cL_law 217 = .ok (.iadd, 1) := by decide +kernel
theorem dL_law_40 : decode cL_law 40 = .ok (.tableswitch 1462 0 38 #[172, 245, 270, 295, 320, 345, 385, 422, 459, 484, 521, 546, 583, 596, 621, 646, 671, 696, 765, 790, 803, 840, 877, 926, 963, 988, 1001, 1078, 1115, 1152, 1201, 1226, 1251, 1324, 1361, 1386, 1411, 1424, 1437], 172) := dLg_4.1
theorem dL_law_212 : decode cL_law 212 = .ok (.aload_n 1, 1) := dLg_4.2.1
theorem dL_law_213 : decode cL_law 213 = .ok (.aload_n 0, 1) := dLg_4.2.2.1
theorem dL_law_214 : decode cL_law 214 = .ok (.iload 4, 2) := dLg_4.2.2.2.1
theorem dL_law_216 : decode cL_law 216 = .ok (.iconst 1, 1) := dLg_4.2.2.2.2.1
theorem dL_law_217 : decode cL_law 217 = .ok (.iadd, 1) := dLg_4.2.2.2.2.2
set_option maxRecDepth 100000 in
theorem dLg_5 : decode cL_law 218 = .ok (.iaload, 1) ∧ decode cL_law 219 = .ok (.aload_n 0, 1) ∧ decode cL_law 220 = .ok (.iload 4, 2) ∧ decode cL_law 222 = .ok (.iconst 2, 1) ∧ decode cL_law 223 = .ok (.iadd, 1) ∧ decode cL_law 224 = .ok (.iaload, 1) := by decide +kernel
theorem dL_law_218 : decode cL_law 218 = .ok (.iaload, 1) := dLg_5.1
theorem dL_law_219 : decode cL_law 219 = .ok (.aload_n 0, 1) := dLg_5.2.1
theorem dL_law_220 : decode cL_law 220 = .ok (.iload 4, 2) := dLg_5.2.2.1
theorem dL_law_222 : decode cL_law 222 = .ok (.iconst 2, 1) := dLg_5.2.2.2.1
theorem dL_law_223 : decode cL_law 223 = .ok (.iadd, 1) := dLg_5.2.2.2.2.1
theorem dL_law_224 : decode cL_law 224 = .ok (.iaload, 1) := dLg_5.2.2.2.2.2
set_option maxRecDepth 100000 in
theorem dLg_6 : decode cL_law 225 = .ok (.aload_n 0, 1) ∧ decode cL_law 226 = .ok (.iload 4, 2) ∧ decode cL_law 228 = .ok (.iconst 3, 1) ∧ decode cL_law 229 = .ok (.iadd, 1) ∧ decode cL_law 230 = .ok (.iaload, 1) ∧ decode cL_law 231 = .ok (.aload_n 0, 1) := by decide +kernel
theorem dL_law_225 : decode cL_law 225 = .ok (.aload_n 0, 1) := dLg_6.1
theorem dL_law_226 : decode cL_law 226 = .ok (.iload 4, 2) := dLg_6.2.1
theorem dL_law_228 : decode cL_law 228 = .ok (.iconst 3, 1) := dLg_6.2.2.1
theorem dL_law_229 : decode cL_law 229 = .ok (.iadd, 1) := dLg_6.2.2.2.1
theorem dL_law_230 : decode cL_law 230 = .ok (.iaload, 1) := dLg_6.2.2.2.2.1
theorem dL_law_231 : decode cL_law 231 = .ok (.aload_n 0, 1) := dLg_6.2.2.2.2.2
set_option maxRecDepth 100000 in
theorem dLg_7 : decode cL_law 232 = .ok (.iload 4, 2) ∧ decode cL_law 234 = .ok (.iconst 4, 1) ∧ decode cL_law 235 = .ok (.iadd, 1) ∧ decode cL_law 236 = .ok (.iaload, 1) ∧ decode cL_law 237 = .ok (.aload_n 0, 1) ∧ decode cL_law 238 = .ok (.iload 4, 2) := by decide +kernel
theorem dL_law_232 : decode cL_law 232 = .ok (.iload 4, 2) := dLg_7.1
theorem dL_law_234 : decode cL_law 234 = .ok (.iconst 4, 1) := dLg_7.2.1
theorem dL_law_235 : decode cL_law 235 = .ok (.iadd, 1) := dLg_7.2.2.1
theorem dL_law_236 : decode cL_law 236 = .ok (.iaload, 1) := dLg_7.2.2.2.1
theorem dL_law_237 : decode cL_law 237 = .ok (.aload_n 0, 1) := dLg_7.2.2.2.2.1
theorem dL_law_238 : decode cL_law 238 = .ok (.iload 4, 2) := dLg_7.2.2.2.2.2
set_option maxRecDepth 100000 in
theorem dLg_8 : decode cL_law 240 = .ok (.iconst 5, 1) ∧ decode cL_law 241 = .ok (.iadd, 1) ∧ decode cL_law 242 = .ok (.iaload, 1) ∧ decode cL_law 243 = .ok (.invokevirtual 19, 3) ∧ decode cL_law 246 = .ok (.pop, 1) ∧ decode cL_law 247 = .ok (.aload_n 2, 1) := by decide +kernel
theorem dL_law_240 : decode cL_law 240 = .ok (.iconst 5, 1) := dLg_8.1
theorem dL_law_241 : decode cL_law 241 = .ok (.iadd, 1) := dLg_8.2.1
theorem dL_law_242 : decode cL_law 242 = .ok (.iaload, 1) := dLg_8.2.2.1
theorem dL_law_243 : decode cL_law 243 = .ok (.invokevirtual 19, 3) := dLg_8.2.2.2.1
theorem dL_law_246 : decode cL_law 246 = .ok (.pop, 1) := dLg_8.2.2.2.2.1
theorem dL_law_247 : decode cL_law 247 = .ok (.aload_n 2, 1) := dLg_8.2.2.2.2.2
set_option maxRecDepth 100000 in
theorem dLg_9 : decode cL_law 248 = .ok (.aload_n 0, 1) ∧ decode cL_law 249 = .ok (.iload 4, 2) ∧ decode cL_law 251 = .ok (.iconst 1, 1) ∧ decode cL_law 252 = .ok (.iadd, 1) ∧ decode cL_law 253 = .ok (.iaload, 1) ∧ decode cL_law 254 = .ok (.aload_n 0, 1) := by decide +kernel
theorem dL_law_248 : decode cL_law 248 = .ok (.aload_n 0, 1) := dLg_9.1
theorem dL_law_249 : decode cL_law 249 = .ok (.iload 4, 2) := dLg_9.2.1
theorem dL_law_251 : decode cL_law 251 = .ok (.iconst 1, 1) := dLg_9.2.2.1
theorem dL_law_252 : decode cL_law 252 = .ok (.iadd, 1) := dLg_9.2.2.2.1
theorem dL_law_253 : decode cL_law 253 = .ok (.iaload, 1) := dLg_9.2.2.2.2.1
theorem dL_law_254 : decode cL_law 254 = .ok (.aload_n 0, 1) := dLg_9.2.2.2.2.2
set_option maxRecDepth 100000 in
theorem dLg_10 : decode cL_law 255 = .ok (.iload 4, 2) ∧ decode cL_law 257 = .ok (.iconst 2, 1) ∧ decode cL_law 258 = .ok (.iadd, 1) ∧ decode cL_law 259 = .ok (.iaload, 1) ∧ decode cL_law 260 = .ok (.aload_n 0, 1) ∧ decode cL_law 261 = .ok (.iload 4, 2) := by decide +kernel
theorem dL_law_255 : decode cL_law 255 = .ok (.iload 4, 2) := dLg_10.1
theorem dL_law_257 : decode cL_law 257 = .ok (.iconst 2, 1) := dLg_10.2.1
theorem dL_law_258 : decode cL_law 258 = .ok (.iadd, 1) := dLg_10.2.2.1
theorem dL_law_259 : decode cL_law 259 = .ok (.iaload, 1) := dLg_10.2.2.2.1
theorem dL_law_260 : decode cL_law 260 = .ok (.aload_n 0, 1) := dLg_10.2.2.2.2.1
theorem dL_law_261 : decode cL_law 261 = .ok (.iload 4, 2) := dLg_10.2.2.2.2.2
set_option maxRecDepth 100000 in
theorem dLg_11 : decode cL_law 263 = .ok (.iconst 3, 1) ∧ decode cL_law 264 = .ok (.iadd, 1) ∧ decode cL_law 265 = .ok (.iaload, 1) ∧ decode cL_law 266 = .ok (.aload_n 0, 1) ∧ decode cL_law 267 = .ok (.iload 4, 2) ∧ decode cL_law 269 = .ok (.iconst 4, 1) := by decide +kernel
theorem dL_law_263 : decode cL_law 263 = .ok (.iconst 3, 1) := dLg_11.1
theorem dL_law_264 : decode cL_law 264 = .ok (.iadd, 1) := dLg_11.2.1
theorem dL_law_265 : decode cL_law 265 = .ok (.iaload, 1) := dLg_11.2.2.1
theorem dL_law_266 : decode cL_law 266 = .ok (.aload_n 0, 1) := dLg_11.2.2.2.1
theorem dL_law_267 : decode cL_law 267 = .ok (.iload 4, 2) := dLg_11.2.2.2.2.1
theorem dL_law_269 : decode cL_law 269 = .ok (.iconst 4, 1) := dLg_11.2.2.2.2.2
set_option maxRecDepth 100000 in
theorem dLg_12 : decode cL_law 270 = .ok (.iadd, 1) ∧ decode cL_law 271 = .ok (.iaload, 1) ∧ decode cL_law 272 = .ok (.aload_n 0, 1) ∧ decode cL_law 273 = .ok (.iload 4, 2) ∧ decode cL_law 275 = .ok (.iconst 5, 1) ∧ decode cL_law 276 = .ok (.iadd, 1) := by decide +kernel
theorem dL_law_270 : decode cL_law 270 = .ok (.iadd, 1) := dLg_12.1
theorem dL_law_271 : decode cL_law 271 = .ok (.iaload, 1) := dLg_12.2.1
theorem dL_law_272 : decode cL_law 272 = .ok (.aload_n 0, 1) := dLg_12.2.2.1
theorem dL_law_273 : decode cL_law 273 = .ok (.iload 4, 2) := dLg_12.2.2.2.1
theorem dL_law_275 : decode cL_law 275 = .ok (.iconst 5, 1) := dLg_12.2.2.2.2.1
theorem dL_law_276 : decode cL_law 276 = .ok (.iadd, 1) := dLg_12.2.2.2.2.2
set_option maxRecDepth 100000 in
theorem dLg_13 : decode cL_law 277 = .ok (.iaload, 1) ∧ decode cL_law 278 = .ok (.invokevirtual 23, 3) ∧ decode cL_law 281 = .ok (.pop, 1) ∧ decode cL_law 282 = .ok (.goto 1220, 3) ∧ decode cL_law 285 = .ok (.aload_n 1, 1) ∧ decode cL_law 286 = .ok (.aload_n 0, 1) := by decide +kernel
theorem dL_law_277 : decode cL_law 277 = .ok (.iaload, 1) := dLg_13.1
theorem dL_law_278 : decode cL_law 278 = .ok (.invokevirtual 23, 3) := dLg_13.2.1
theorem dL_law_281 : decode cL_law 281 = .ok (.pop, 1) := dLg_13.2.2.1
theorem dL_law_282 : decode cL_law 282 = .ok (.goto 1220, 3) := dLg_13.2.2.2.1
theorem dL_law_285 : decode cL_law 285 = .ok (.aload_n 1, 1) := dLg_13.2.2.2.2.1
theorem dL_law_286 : decode cL_law 286 = .ok (.aload_n 0, 1) := dLg_13.2.2.2.2.2
set_option maxRecDepth 100000 in
theorem dLg_14 : decode cL_law 287 = .ok (.iload 4, 2) ∧ decode cL_law 289 = .ok (.iconst 1, 1) ∧ decode cL_law 290 = .ok (.iadd, 1) ∧ decode cL_law 291 = .ok (.iaload, 1) ∧ decode cL_law 292 = .ok (.invokevirtual 24, 3) ∧ decode cL_law 295 = .ok (.pop, 1) := by decide +kernel
theorem dL_law_287 : decode cL_law 287 = .ok (.iload 4, 2) := dLg_14.1
theorem dL_law_289 : decode cL_law 289 = .ok (.iconst 1, 1) := dLg_14.2.1
theorem dL_law_290 : decode cL_law 290 = .ok (.iadd, 1) := dLg_14.2.2.1
theorem dL_law_291 : decode cL_law 291 = .ok (.iaload, 1) := dLg_14.2.2.2.1
theorem dL_law_292 : decode cL_law 292 = .ok (.invokevirtual 24, 3) := dLg_14.2.2.2.2.1
theorem dL_law_295 : decode cL_law 295 = .ok (.pop, 1) := dLg_14.2.2.2.2.2
set_option maxRecDepth 100000 in
theorem dLg_15 : decode cL_law 296 = .ok (.aload_n 2, 1) ∧ decode cL_law 297 = .ok (.aload_n 0, 1) ∧ decode cL_law 298 = .ok (.iload 4, 2) ∧ decode cL_law 300 = .ok (.iconst 1, 1) ∧ decode cL_law 301 = .ok (.iadd, 1) ∧ decode cL_law 302 = .ok (.iaload, 1) := by decide +kernel
theorem dL_law_296 : decode cL_law 296 = .ok (.aload_n 2, 1) := dLg_15.1
theorem dL_law_297 : decode cL_law 297 = .ok (.aload_n 0, 1) := dLg_15.2.1
theorem dL_law_298 : decode cL_law 298 = .ok (.iload 4, 2) := dLg_15.2.2.1
theorem dL_law_300 : decode cL_law 300 = .ok (.iconst 1, 1) := dLg_15.2.2.2.1
theorem dL_law_301 : decode cL_law 301 = .ok (.iadd, 1) := dLg_15.2.2.2.2.1
theorem dL_law_302 : decode cL_law 302 = .ok (.iaload, 1) := dLg_15.2.2.2.2.2
set_option maxRecDepth 100000 in
theorem dLg_16 : decode cL_law 303 = .ok (.invokevirtual 28, 3) ∧ decode cL_law 306 = .ok (.pop, 1) ∧ decode cL_law 307 = .ok (.goto 1195, 3) ∧ decode cL_law 310 = .ok (.aload_n 1, 1) ∧ decode cL_law 311 = .ok (.aload_n 0, 1) ∧ decode cL_law 312 = .ok (.iload 4, 2) := by decide +kernel
theorem dL_law_303 : decode cL_law 303 = .ok (.invokevirtual 28, 3) := dLg_16.1
theorem dL_law_306 : decode cL_law 306 = .ok (.pop, 1) := dLg_16.2.1
theorem dL_law_307 : decode cL_law 307 = .ok (.goto 1195, 3) := dLg_16.2.2.1
theorem dL_law_310 : decode cL_law 310 = .ok (.aload_n 1, 1) := dLg_16.2.2.2.1
theorem dL_law_311 : decode cL_law 311 = .ok (.aload_n 0, 1) := dLg_16.2.2.2.2.1
theorem dL_law_312 : decode cL_law 312 = .ok (.iload 4, 2) := dLg_16.2.2.2.2.2
set_option maxRecDepth 100000 in
theorem dLg_17 : decode cL_law 314 = .ok (.iconst 1, 1) ∧ decode cL_law 315 = .ok (.iadd, 1) ∧ decode cL_law 316 = .ok (.iaload, 1) ∧ decode cL_law 317 = .ok (.invokevirtual 29, 3) ∧ decode cL_law 320 = .ok (.pop, 1) ∧ decode cL_law 321 = .ok (.aload_n 2, 1) := by decide +kernel
theorem dL_law_314 : decode cL_law 314 = .ok (.iconst 1, 1) := dLg_17.1
theorem dL_law_315 : decode cL_law 315 = .ok (.iadd, 1) := dLg_17.2.1
theorem dL_law_316 : decode cL_law 316 = .ok (.iaload, 1) := dLg_17.2.2.1
theorem dL_law_317 : decode cL_law 317 = .ok (.invokevirtual 29, 3) := dLg_17.2.2.2.1
theorem dL_law_320 : decode cL_law 320 = .ok (.pop, 1) := dLg_17.2.2.2.2.1
theorem dL_law_321 : decode cL_law 321 = .ok (.aload_n 2, 1) := dLg_17.2.2.2.2.2
set_option maxRecDepth 100000 in
theorem dLg_18 : decode cL_law 322 = .ok (.aload_n 0, 1) ∧ decode cL_law 323 = .ok (.iload 4, 2) ∧ decode cL_law 325 = .ok (.iconst 1, 1) ∧ decode cL_law 326 = .ok (.iadd, 1) ∧ decode cL_law 327 = .ok (.iaload, 1) ∧ decode cL_law 328 = .ok (.invokevirtual 33, 3) := by decide +kernel
theorem dL_law_322 : decode cL_law 322 = .ok (.aload_n 0, 1) := dLg_18.1
theorem dL_law_323 : decode cL_law 323 = .ok (.iload 4, 2) := dLg_18.2.1
theorem dL_law_325 : decode cL_law 325 = .ok (.iconst 1, 1) := dLg_18.2.2.1
theorem dL_law_326 : decode cL_law 326 = .ok (.iadd, 1) := dLg_18.2.2.2.1
theorem dL_law_327 : decode cL_law 327 = .ok (.iaload, 1) := dLg_18.2.2.2.2.1
theorem dL_law_328 : decode cL_law 328 = .ok (.invokevirtual 33, 3) := dLg_18.2.2.2.2.2
set_option maxRecDepth 100000 in
theorem dLg_19 : decode cL_law 331 = .ok (.pop, 1) ∧ decode cL_law 332 = .ok (.goto 1170, 3) ∧ decode cL_law 335 = .ok (.aload_n 1, 1) ∧ decode cL_law 336 = .ok (.aload_n 0, 1) ∧ decode cL_law 337 = .ok (.iload 4, 2) ∧ decode cL_law 339 = .ok (.iconst 1, 1) := by decide +kernel
theorem dL_law_331 : decode cL_law 331 = .ok (.pop, 1) := dLg_19.1
theorem dL_law_332 : decode cL_law 332 = .ok (.goto 1170, 3) := dLg_19.2.1
theorem dL_law_335 : decode cL_law 335 = .ok (.aload_n 1, 1) := dLg_19.2.2.1
theorem dL_law_336 : decode cL_law 336 = .ok (.aload_n 0, 1) := dLg_19.2.2.2.1
theorem dL_law_337 : decode cL_law 337 = .ok (.iload 4, 2) := dLg_19.2.2.2.2.1
theorem dL_law_339 : decode cL_law 339 = .ok (.iconst 1, 1) := dLg_19.2.2.2.2.2
set_option maxRecDepth 100000 in
theorem dLg_20 : decode cL_law 340 = .ok (.iadd, 1) ∧ decode cL_law 341 = .ok (.iaload, 1) ∧ decode cL_law 342 = .ok (.invokevirtual 34, 3) ∧ decode cL_law 345 = .ok (.pop, 1) ∧ decode cL_law 346 = .ok (.aload_n 2, 1) ∧ decode cL_law 347 = .ok (.aload_n 0, 1) := by decide +kernel
theorem dL_law_340 : decode cL_law 340 = .ok (.iadd, 1) := dLg_20.1
theorem dL_law_341 : decode cL_law 341 = .ok (.iaload, 1) := dLg_20.2.1
theorem dL_law_342 : decode cL_law 342 = .ok (.invokevirtual 34, 3) := dLg_20.2.2.1
theorem dL_law_345 : decode cL_law 345 = .ok (.pop, 1) := dLg_20.2.2.2.1
theorem dL_law_346 : decode cL_law 346 = .ok (.aload_n 2, 1) := dLg_20.2.2.2.2.1
theorem dL_law_347 : decode cL_law 347 = .ok (.aload_n 0, 1) := dLg_20.2.2.2.2.2
set_option maxRecDepth 100000 in
theorem dLg_21 : decode cL_law 348 = .ok (.iload 4, 2) ∧ decode cL_law 350 = .ok (.iconst 1, 1) ∧ decode cL_law 351 = .ok (.iadd, 1) ∧ decode cL_law 352 = .ok (.iaload, 1) ∧ decode cL_law 353 = .ok (.invokevirtual 37, 3) ∧ decode cL_law 356 = .ok (.pop, 1) := by decide +kernel
theorem dL_law_348 : decode cL_law 348 = .ok (.iload 4, 2) := dLg_21.1
theorem dL_law_350 : decode cL_law 350 = .ok (.iconst 1, 1) := dLg_21.2.1
theorem dL_law_351 : decode cL_law 351 = .ok (.iadd, 1) := dLg_21.2.2.1
theorem dL_law_352 : decode cL_law 352 = .ok (.iaload, 1) := dLg_21.2.2.2.1
theorem dL_law_353 : decode cL_law 353 = .ok (.invokevirtual 37, 3) := dLg_21.2.2.2.2.1
theorem dL_law_356 : decode cL_law 356 = .ok (.pop, 1) := dLg_21.2.2.2.2.2
set_option maxRecDepth 100000 in
theorem dLg_22 : decode cL_law 357 = .ok (.goto 1145, 3) ∧ decode cL_law 360 = .ok (.aload_n 1, 1) ∧ decode cL_law 361 = .ok (.aload_n 0, 1) ∧ decode cL_law 362 = .ok (.iload 4, 2) ∧ decode cL_law 364 = .ok (.iconst 1, 1) ∧ decode cL_law 365 = .ok (.iadd, 1) := by decide +kernel
theorem dL_law_357 : decode cL_law 357 = .ok (.goto 1145, 3) := dLg_22.1
theorem dL_law_360 : decode cL_law 360 = .ok (.aload_n 1, 1) := dLg_22.2.1
theorem dL_law_361 : decode cL_law 361 = .ok (.aload_n 0, 1) := dLg_22.2.2.1
theorem dL_law_362 : decode cL_law 362 = .ok (.iload 4, 2) := dLg_22.2.2.2.1
theorem dL_law_364 : decode cL_law 364 = .ok (.iconst 1, 1) := dLg_22.2.2.2.2.1
theorem dL_law_365 : decode cL_law 365 = .ok (.iadd, 1) := dLg_22.2.2.2.2.2
set_option maxRecDepth 100000 in
theorem dLg_23 : decode cL_law 366 = .ok (.iaload, 1) ∧ decode cL_law 367 = .ok (.invokevirtual 38, 3) ∧ decode cL_law 370 = .ok (.aload_n 2, 1) ∧ decode cL_law 371 = .ok (.aload_n 0, 1) ∧ decode cL_law 372 = .ok (.iload 4, 2) ∧ decode cL_law 374 = .ok (.iconst 1, 1) := by decide +kernel
theorem dL_law_366 : decode cL_law 366 = .ok (.iaload, 1) := dLg_23.1
theorem dL_law_367 : decode cL_law 367 = .ok (.invokevirtual 38, 3) := dLg_23.2.1
theorem dL_law_370 : decode cL_law 370 = .ok (.aload_n 2, 1) := dLg_23.2.2.1
theorem dL_law_371 : decode cL_law 371 = .ok (.aload_n 0, 1) := dLg_23.2.2.2.1
theorem dL_law_372 : decode cL_law 372 = .ok (.iload 4, 2) := dLg_23.2.2.2.2.1
theorem dL_law_374 : decode cL_law 374 = .ok (.iconst 1, 1) := dLg_23.2.2.2.2.2
set_option maxRecDepth 100000 in
theorem dLg_24 : decode cL_law 375 = .ok (.iadd, 1) ∧ decode cL_law 376 = .ok (.iaload, 1) ∧ decode cL_law 377 = .ok (.invokevirtual 41, 3) ∧ decode cL_law 380 = .ok (.if_icmp .eq 1122, 3) ∧ decode cL_law 383 = .ok (.iconst 0, 1) ∧ decode cL_law 384 = .ok (.ireturn, 1) := by decide +kernel
theorem dL_law_375 : decode cL_law 375 = .ok (.iadd, 1) := dLg_24.1
theorem dL_law_376 : decode cL_law 376 = .ok (.iaload, 1) := dLg_24.2.1
theorem dL_law_377 : decode cL_law 377 = .ok (.invokevirtual 41, 3) := dLg_24.2.2.1
theorem dL_law_380 : decode cL_law 380 = .ok (.if_icmp .eq 1122, 3) := dLg_24.2.2.2.1
theorem dL_law_383 : decode cL_law 383 = .ok (.iconst 0, 1) := dLg_24.2.2.2.2.1
theorem dL_law_384 : decode cL_law 384 = .ok (.ireturn, 1) := dLg_24.2.2.2.2.2
set_option maxRecDepth 100000 in
theorem dLg_25 : decode cL_law 385 = .ok (.aload_n 1, 1) ∧ decode cL_law 386 = .ok (.aload_n 0, 1) ∧ decode cL_law 387 = .ok (.iload 4, 2) ∧ decode cL_law 389 = .ok (.iconst 1, 1) ∧ decode cL_law 390 = .ok (.iadd, 1) ∧ decode cL_law 391 = .ok (.iaload, 1) := by decide +kernel
theorem dL_law_385 : decode cL_law 385 = .ok (.aload_n 1, 1) := dLg_25.1
theorem dL_law_386 : decode cL_law 386 = .ok (.aload_n 0, 1) := dLg_25.2.1
theorem dL_law_387 : decode cL_law 387 = .ok (.iload 4, 2) := dLg_25.2.2.1
theorem dL_law_389 : decode cL_law 389 = .ok (.iconst 1, 1) := dLg_25.2.2.2.1
theorem dL_law_390 : decode cL_law 390 = .ok (.iadd, 1) := dLg_25.2.2.2.2.1
theorem dL_law_391 : decode cL_law 391 = .ok (.iaload, 1) := dLg_25.2.2.2.2.2
set_option maxRecDepth 100000 in
theorem dLg_26 : decode cL_law 392 = .ok (.aload_n 0, 1) ∧ decode cL_law 393 = .ok (.iload 4, 2) ∧ decode cL_law 395 = .ok (.iconst 2, 1) ∧ decode cL_law 396 = .ok (.iadd, 1) ∧ decode cL_law 397 = .ok (.iaload, 1) ∧ decode cL_law 398 = .ok (.aload_n 3, 1) := by decide +kernel
theorem dL_law_392 : decode cL_law 392 = .ok (.aload_n 0, 1) := dLg_26.1
theorem dL_law_393 : decode cL_law 393 = .ok (.iload 4, 2) := dLg_26.2.1
theorem dL_law_395 : decode cL_law 395 = .ok (.iconst 2, 1) := dLg_26.2.2.1
theorem dL_law_396 : decode cL_law 396 = .ok (.iadd, 1) := dLg_26.2.2.2.1
theorem dL_law_397 : decode cL_law 397 = .ok (.iaload, 1) := dLg_26.2.2.2.2.1
theorem dL_law_398 : decode cL_law 398 = .ok (.aload_n 3, 1) := dLg_26.2.2.2.2.2
set_option maxRecDepth 100000 in
theorem dLg_27 : decode cL_law 399 = .ok (.invokestatic 42, 3) ∧ decode cL_law 402 = .ok (.istore 5, 2) ∧ decode cL_law 404 = .ok (.aload_n 2, 1) ∧ decode cL_law 405 = .ok (.aload_n 0, 1) ∧ decode cL_law 406 = .ok (.iload 4, 2) ∧ decode cL_law 408 = .ok (.iconst 1, 1) := by decide +kernel
theorem dL_law_399 : decode cL_law 399 = .ok (.invokestatic 42, 3) := dLg_27.1
theorem dL_law_402 : decode cL_law 402 = .ok (.istore 5, 2) := dLg_27.2.1
theorem dL_law_404 : decode cL_law 404 = .ok (.aload_n 2, 1) := dLg_27.2.2.1
theorem dL_law_405 : decode cL_law 405 = .ok (.aload_n 0, 1) := dLg_27.2.2.2.1
theorem dL_law_406 : decode cL_law 406 = .ok (.iload 4, 2) := dLg_27.2.2.2.2.1
theorem dL_law_408 : decode cL_law 408 = .ok (.iconst 1, 1) := dLg_27.2.2.2.2.2
set_option maxRecDepth 100000 in
theorem dLg_28 : decode cL_law 409 = .ok (.iadd, 1) ∧ decode cL_law 410 = .ok (.iaload, 1) ∧ decode cL_law 411 = .ok (.aload_n 0, 1) ∧ decode cL_law 412 = .ok (.iload 4, 2) ∧ decode cL_law 414 = .ok (.iconst 2, 1) ∧ decode cL_law 415 = .ok (.iadd, 1) := by decide +kernel
theorem dL_law_409 : decode cL_law 409 = .ok (.iadd, 1) := dLg_28.1
theorem dL_law_410 : decode cL_law 410 = .ok (.iaload, 1) := dLg_28.2.1
theorem dL_law_411 : decode cL_law 411 = .ok (.aload_n 0, 1) := dLg_28.2.2.1
theorem dL_law_412 : decode cL_law 412 = .ok (.iload 4, 2) := dLg_28.2.2.2.1
theorem dL_law_414 : decode cL_law 414 = .ok (.iconst 2, 1) := dLg_28.2.2.2.2.1
theorem dL_law_415 : decode cL_law 415 = .ok (.iadd, 1) := dLg_28.2.2.2.2.2
set_option maxRecDepth 100000 in
theorem dLg_29 : decode cL_law 416 = .ok (.iaload, 1) ∧ decode cL_law 417 = .ok (.invokevirtual 47, 3) ∧ decode cL_law 420 = .ok (.istore 6, 2) ∧ decode cL_law 422 = .ok (.goto 1080, 3) ∧ decode cL_law 425 = .ok (.aload_n 1, 1) ∧ decode cL_law 426 = .ok (.aload_n 0, 1) := by decide +kernel
theorem dL_law_416 : decode cL_law 416 = .ok (.iaload, 1) := dLg_29.1
theorem dL_law_417 : decode cL_law 417 = .ok (.invokevirtual 47, 3) := dLg_29.2.1
theorem dL_law_420 : decode cL_law 420 = .ok (.istore 6, 2) := dLg_29.2.2.1
theorem dL_law_422 : decode cL_law 422 = .ok (.goto 1080, 3) := dLg_29.2.2.2.1
theorem dL_law_425 : decode cL_law 425 = .ok (.aload_n 1, 1) := dLg_29.2.2.2.2.1
theorem dL_law_426 : decode cL_law 426 = .ok (.aload_n 0, 1) := dLg_29.2.2.2.2.2
set_option maxRecDepth 100000 in
theorem dLg_30 : decode cL_law 427 = .ok (.iload 4, 2) ∧ decode cL_law 429 = .ok (.iconst 1, 1) ∧ decode cL_law 430 = .ok (.iadd, 1) ∧ decode cL_law 431 = .ok (.iaload, 1) ∧ decode cL_law 432 = .ok (.aload_n 0, 1) ∧ decode cL_law 433 = .ok (.iload 4, 2) := by decide +kernel
theorem dL_law_427 : decode cL_law 427 = .ok (.iload 4, 2) := dLg_30.1
theorem dL_law_429 : decode cL_law 429 = .ok (.iconst 1, 1) := dLg_30.2.1
theorem dL_law_430 : decode cL_law 430 = .ok (.iadd, 1) := dLg_30.2.2.1
theorem dL_law_431 : decode cL_law 431 = .ok (.iaload, 1) := dLg_30.2.2.2.1
theorem dL_law_432 : decode cL_law 432 = .ok (.aload_n 0, 1) := dLg_30.2.2.2.2.1
theorem dL_law_433 : decode cL_law 433 = .ok (.iload 4, 2) := dLg_30.2.2.2.2.2
set_option maxRecDepth 100000 in
theorem dLg_31 : decode cL_law 435 = .ok (.iconst 2, 1) ∧ decode cL_law 436 = .ok (.iadd, 1) ∧ decode cL_law 437 = .ok (.iaload, 1) ∧ decode cL_law 438 = .ok (.invokevirtual 48, 3) ∧ decode cL_law 441 = .ok (.pop, 1) ∧ decode cL_law 442 = .ok (.aload_n 2, 1) := by decide +kernel
theorem dL_law_435 : decode cL_law 435 = .ok (.iconst 2, 1) := dLg_31.1
theorem dL_law_436 : decode cL_law 436 = .ok (.iadd, 1) := dLg_31.2.1
theorem dL_law_437 : decode cL_law 437 = .ok (.iaload, 1) := dLg_31.2.2.1
theorem dL_law_438 : decode cL_law 438 = .ok (.invokevirtual 48, 3) := dLg_31.2.2.2.1
theorem dL_law_441 : decode cL_law 441 = .ok (.pop, 1) := dLg_31.2.2.2.2.1
theorem dL_law_442 : decode cL_law 442 = .ok (.aload_n 2, 1) := dLg_31.2.2.2.2.2
set_option maxRecDepth 100000 in
theorem dLg_32 : decode cL_law 443 = .ok (.aload_n 0, 1) ∧ decode cL_law 444 = .ok (.iload 4, 2) ∧ decode cL_law 446 = .ok (.iconst 1, 1) ∧ decode cL_law 447 = .ok (.iadd, 1) ∧ decode cL_law 448 = .ok (.iaload, 1) ∧ decode cL_law 449 = .ok (.aload_n 0, 1) := by decide +kernel
theorem dL_law_443 : decode cL_law 443 = .ok (.aload_n 0, 1) := dLg_32.1
theorem dL_law_444 : decode cL_law 444 = .ok (.iload 4, 2) := dLg_32.2.1
theorem dL_law_446 : decode cL_law 446 = .ok (.iconst 1, 1) := dLg_32.2.2.1
theorem dL_law_447 : decode cL_law 447 = .ok (.iadd, 1) := dLg_32.2.2.2.1
theorem dL_law_448 : decode cL_law 448 = .ok (.iaload, 1) := dLg_32.2.2.2.2.1
theorem dL_law_449 : decode cL_law 449 = .ok (.aload_n 0, 1) := dLg_32.2.2.2.2.2
set_option maxRecDepth 100000 in
theorem dLg_33 : decode cL_law 450 = .ok (.iload 4, 2) ∧ decode cL_law 452 = .ok (.iconst 2, 1) ∧ decode cL_law 453 = .ok (.iadd, 1) ∧ decode cL_law 454 = .ok (.iaload, 1) ∧ decode cL_law 455 = .ok (.invokevirtual 51, 3) ∧ decode cL_law 458 = .ok (.pop, 1) := by decide +kernel
theorem dL_law_450 : decode cL_law 450 = .ok (.iload 4, 2) := dLg_33.1
theorem dL_law_452 : decode cL_law 452 = .ok (.iconst 2, 1) := dLg_33.2.1
theorem dL_law_453 : decode cL_law 453 = .ok (.iadd, 1) := dLg_33.2.2.1
theorem dL_law_454 : decode cL_law 454 = .ok (.iaload, 1) := dLg_33.2.2.2.1
theorem dL_law_455 : decode cL_law 455 = .ok (.invokevirtual 51, 3) := dLg_33.2.2.2.2.1
theorem dL_law_458 : decode cL_law 458 = .ok (.pop, 1) := dLg_33.2.2.2.2.2
set_option maxRecDepth 100000 in
theorem dLg_34 : decode cL_law 459 = .ok (.goto 1043, 3) ∧ decode cL_law 462 = .ok (.aload_n 1, 1) ∧ decode cL_law 463 = .ok (.aload_n 0, 1) ∧ decode cL_law 464 = .ok (.iload 4, 2) ∧ decode cL_law 466 = .ok (.iconst 1, 1) ∧ decode cL_law 467 = .ok (.iadd, 1) := by decide +kernel
theorem dL_law_459 : decode cL_law 459 = .ok (.goto 1043, 3) := dLg_34.1
theorem dL_law_462 : decode cL_law 462 = .ok (.aload_n 1, 1) := dLg_34.2.1
theorem dL_law_463 : decode cL_law 463 = .ok (.aload_n 0, 1) := dLg_34.2.2.1
theorem dL_law_464 : decode cL_law 464 = .ok (.iload 4, 2) := dLg_34.2.2.2.1
theorem dL_law_466 : decode cL_law 466 = .ok (.iconst 1, 1) := dLg_34.2.2.2.2.1
theorem dL_law_467 : decode cL_law 467 = .ok (.iadd, 1) := dLg_34.2.2.2.2.2
set_option maxRecDepth 100000 in
theorem dLg_35 : decode cL_law 468 = .ok (.iaload, 1) ∧ decode cL_law 469 = .ok (.aload_n 0, 1) ∧ decode cL_law 470 = .ok (.iload 4, 2) ∧ decode cL_law 472 = .ok (.iconst 2, 1) ∧ decode cL_law 473 = .ok (.iadd, 1) ∧ decode cL_law 474 = .ok (.iaload, 1) := by decide +kernel
theorem dL_law_468 : decode cL_law 468 = .ok (.iaload, 1) := dLg_35.1
theorem dL_law_469 : decode cL_law 469 = .ok (.aload_n 0, 1) := dLg_35.2.1
theorem dL_law_470 : decode cL_law 470 = .ok (.iload 4, 2) := dLg_35.2.2.1
theorem dL_law_472 : decode cL_law 472 = .ok (.iconst 2, 1) := dLg_35.2.2.2.1
theorem dL_law_473 : decode cL_law 473 = .ok (.iadd, 1) := dLg_35.2.2.2.2.1
theorem dL_law_474 : decode cL_law 474 = .ok (.iaload, 1) := dLg_35.2.2.2.2.2
set_option maxRecDepth 100000 in
theorem dLg_36 : decode cL_law 475 = .ok (.invokevirtual 52, 3) ∧ decode cL_law 478 = .ok (.pop, 1) ∧ decode cL_law 479 = .ok (.aload_n 2, 1) ∧ decode cL_law 480 = .ok (.aload_n 0, 1) ∧ decode cL_law 481 = .ok (.iload 4, 2) ∧ decode cL_law 483 = .ok (.iconst 1, 1) := by decide +kernel
theorem dL_law_475 : decode cL_law 475 = .ok (.invokevirtual 52, 3) := dLg_36.1
theorem dL_law_478 : decode cL_law 478 = .ok (.pop, 1) := dLg_36.2.1
theorem dL_law_479 : decode cL_law 479 = .ok (.aload_n 2, 1) := dLg_36.2.2.1
theorem dL_law_480 : decode cL_law 480 = .ok (.aload_n 0, 1) := dLg_36.2.2.2.1
theorem dL_law_481 : decode cL_law 481 = .ok (.iload 4, 2) := dLg_36.2.2.2.2.1
theorem dL_law_483 : decode cL_law 483 = .ok (.iconst 1, 1) := dLg_36.2.2.2.2.2
set_option maxRecDepth 100000 in
theorem dLg_37 : decode cL_law 484 = .ok (.iadd, 1) ∧ decode cL_law 485 = .ok (.iaload, 1) ∧ decode cL_law 486 = .ok (.aload_n 0, 1) ∧ decode cL_law 487 = .ok (.iload 4, 2) ∧ decode cL_law 489 = .ok (.iconst 2, 1) ∧ decode cL_law 490 = .ok (.iadd, 1) := by decide +kernel
theorem dL_law_484 : decode cL_law 484 = .ok (.iadd, 1) := dLg_37.1
theorem dL_law_485 : decode cL_law 485 = .ok (.iaload, 1) := dLg_37.2.1
theorem dL_law_486 : decode cL_law 486 = .ok (.aload_n 0, 1) := dLg_37.2.2.1
theorem dL_law_487 : decode cL_law 487 = .ok (.iload 4, 2) := dLg_37.2.2.2.1
theorem dL_law_489 : decode cL_law 489 = .ok (.iconst 2, 1) := dLg_37.2.2.2.2.1
theorem dL_law_490 : decode cL_law 490 = .ok (.iadd, 1) := dLg_37.2.2.2.2.2
set_option maxRecDepth 100000 in
theorem dLg_38 : decode cL_law 491 = .ok (.iaload, 1) ∧ decode cL_law 492 = .ok (.invokevirtual 55, 3) ∧ decode cL_law 495 = .ok (.pop, 1) ∧ decode cL_law 496 = .ok (.goto 1006, 3) ∧ decode cL_law 499 = .ok (.aload_n 1, 1) ∧ decode cL_law 500 = .ok (.aload_n 0, 1) := by decide +kernel
theorem dL_law_491 : decode cL_law 491 = .ok (.iaload, 1) := dLg_38.1
theorem dL_law_492 : decode cL_law 492 = .ok (.invokevirtual 55, 3) := dLg_38.2.1
theorem dL_law_495 : decode cL_law 495 = .ok (.pop, 1) := dLg_38.2.2.1
theorem dL_law_496 : decode cL_law 496 = .ok (.goto 1006, 3) := dLg_38.2.2.2.1
theorem dL_law_499 : decode cL_law 499 = .ok (.aload_n 1, 1) := dLg_38.2.2.2.2.1
theorem dL_law_500 : decode cL_law 500 = .ok (.aload_n 0, 1) := dLg_38.2.2.2.2.2
set_option maxRecDepth 100000 in
theorem dLg_39 : decode cL_law 501 = .ok (.iload 4, 2) ∧ decode cL_law 503 = .ok (.iconst 1, 1) ∧ decode cL_law 504 = .ok (.iadd, 1) ∧ decode cL_law 505 = .ok (.iaload, 1) ∧ decode cL_law 506 = .ok (.invokevirtual 56, 3) ∧ decode cL_law 509 = .ok (.pop, 1) := by decide +kernel
theorem dL_law_501 : decode cL_law 501 = .ok (.iload 4, 2) := dLg_39.1
theorem dL_law_503 : decode cL_law 503 = .ok (.iconst 1, 1) := dLg_39.2.1
theorem dL_law_504 : decode cL_law 504 = .ok (.iadd, 1) := dLg_39.2.2.1
theorem dL_law_505 : decode cL_law 505 = .ok (.iaload, 1) := dLg_39.2.2.2.1
theorem dL_law_506 : decode cL_law 506 = .ok (.invokevirtual 56, 3) := dLg_39.2.2.2.2.1
theorem dL_law_509 : decode cL_law 509 = .ok (.pop, 1) := dLg_39.2.2.2.2.2
set_option maxRecDepth 100000 in
theorem dLg_40 : decode cL_law 510 = .ok (.aload_n 2, 1) ∧ decode cL_law 511 = .ok (.aload_n 0, 1) ∧ decode cL_law 512 = .ok (.iload 4, 2) ∧ decode cL_law 514 = .ok (.iconst 1, 1) ∧ decode cL_law 515 = .ok (.iadd, 1) ∧ decode cL_law 516 = .ok (.iaload, 1) := by decide +kernel
theorem dL_law_510 : decode cL_law 510 = .ok (.aload_n 2, 1) := dLg_40.1
theorem dL_law_511 : decode cL_law 511 = .ok (.aload_n 0, 1) := dLg_40.2.1
theorem dL_law_512 : decode cL_law 512 = .ok (.iload 4, 2) := dLg_40.2.2.1
theorem dL_law_514 : decode cL_law 514 = .ok (.iconst 1, 1) := dLg_40.2.2.2.1
theorem dL_law_515 : decode cL_law 515 = .ok (.iadd, 1) := dLg_40.2.2.2.2.1
theorem dL_law_516 : decode cL_law 516 = .ok (.iaload, 1) := dLg_40.2.2.2.2.2
set_option maxRecDepth 100000 in
theorem dLg_41 : decode cL_law 517 = .ok (.invokevirtual 59, 3) ∧ decode cL_law 520 = .ok (.pop, 1) ∧ decode cL_law 521 = .ok (.goto 981, 3) ∧ decode cL_law 524 = .ok (.aload_n 1, 1) ∧ decode cL_law 525 = .ok (.aload_n 0, 1) ∧ decode cL_law 526 = .ok (.iload 4, 2) := by decide +kernel
theorem dL_law_517 : decode cL_law 517 = .ok (.invokevirtual 59, 3) := dLg_41.1
theorem dL_law_520 : decode cL_law 520 = .ok (.pop, 1) := dLg_41.2.1
theorem dL_law_521 : decode cL_law 521 = .ok (.goto 981, 3) := dLg_41.2.2.1
theorem dL_law_524 : decode cL_law 524 = .ok (.aload_n 1, 1) := dLg_41.2.2.2.1
theorem dL_law_525 : decode cL_law 525 = .ok (.aload_n 0, 1) := dLg_41.2.2.2.2.1
theorem dL_law_526 : decode cL_law 526 = .ok (.iload 4, 2) := dLg_41.2.2.2.2.2
set_option maxRecDepth 100000 in
theorem dLg_42 : decode cL_law 528 = .ok (.iconst 1, 1) ∧ decode cL_law 529 = .ok (.iadd, 1) ∧ decode cL_law 530 = .ok (.iaload, 1) ∧ decode cL_law 531 = .ok (.aload_n 0, 1) ∧ decode cL_law 532 = .ok (.iload 4, 2) ∧ decode cL_law 534 = .ok (.iconst 2, 1) := by decide +kernel
theorem dL_law_528 : decode cL_law 528 = .ok (.iconst 1, 1) := dLg_42.1
theorem dL_law_529 : decode cL_law 529 = .ok (.iadd, 1) := dLg_42.2.1
theorem dL_law_530 : decode cL_law 530 = .ok (.iaload, 1) := dLg_42.2.2.1
theorem dL_law_531 : decode cL_law 531 = .ok (.aload_n 0, 1) := dLg_42.2.2.2.1
theorem dL_law_532 : decode cL_law 532 = .ok (.iload 4, 2) := dLg_42.2.2.2.2.1
theorem dL_law_534 : decode cL_law 534 = .ok (.iconst 2, 1) := dLg_42.2.2.2.2.2
set_option maxRecDepth 100000 in
theorem dLg_43 : decode cL_law 535 = .ok (.iadd, 1) ∧ decode cL_law 536 = .ok (.iaload, 1) ∧ decode cL_law 537 = .ok (.invokevirtual 60, 3) ∧ decode cL_law 540 = .ok (.pop, 1) ∧ decode cL_law 541 = .ok (.aload_n 2, 1) ∧ decode cL_law 542 = .ok (.aload_n 0, 1) := by decide +kernel
theorem dL_law_535 : decode cL_law 535 = .ok (.iadd, 1) := dLg_43.1
theorem dL_law_536 : decode cL_law 536 = .ok (.iaload, 1) := dLg_43.2.1
theorem dL_law_537 : decode cL_law 537 = .ok (.invokevirtual 60, 3) := dLg_43.2.2.1
theorem dL_law_540 : decode cL_law 540 = .ok (.pop, 1) := dLg_43.2.2.2.1
theorem dL_law_541 : decode cL_law 541 = .ok (.aload_n 2, 1) := dLg_43.2.2.2.2.1
theorem dL_law_542 : decode cL_law 542 = .ok (.aload_n 0, 1) := dLg_43.2.2.2.2.2
set_option maxRecDepth 100000 in
theorem dLg_44 : decode cL_law 543 = .ok (.iload 4, 2) ∧ decode cL_law 545 = .ok (.iconst 1, 1) ∧ decode cL_law 546 = .ok (.iadd, 1) ∧ decode cL_law 547 = .ok (.iaload, 1) ∧ decode cL_law 548 = .ok (.aload_n 0, 1) ∧ decode cL_law 549 = .ok (.iload 4, 2) := by decide +kernel
theorem dL_law_543 : decode cL_law 543 = .ok (.iload 4, 2) := dLg_44.1
theorem dL_law_545 : decode cL_law 545 = .ok (.iconst 1, 1) := dLg_44.2.1
theorem dL_law_546 : decode cL_law 546 = .ok (.iadd, 1) := dLg_44.2.2.1
theorem dL_law_547 : decode cL_law 547 = .ok (.iaload, 1) := dLg_44.2.2.2.1
theorem dL_law_548 : decode cL_law 548 = .ok (.aload_n 0, 1) := dLg_44.2.2.2.2.1
theorem dL_law_549 : decode cL_law 549 = .ok (.iload 4, 2) := dLg_44.2.2.2.2.2
set_option maxRecDepth 100000 in
theorem dLg_45 : decode cL_law 551 = .ok (.iconst 2, 1) ∧ decode cL_law 552 = .ok (.iadd, 1) ∧ decode cL_law 553 = .ok (.iaload, 1) ∧ decode cL_law 554 = .ok (.invokevirtual 63, 3) ∧ decode cL_law 557 = .ok (.pop, 1) ∧ decode cL_law 558 = .ok (.goto 944, 3) := by decide +kernel
theorem dL_law_551 : decode cL_law 551 = .ok (.iconst 2, 1) := dLg_45.1
theorem dL_law_552 : decode cL_law 552 = .ok (.iadd, 1) := dLg_45.2.1
theorem dL_law_553 : decode cL_law 553 = .ok (.iaload, 1) := dLg_45.2.2.1
theorem dL_law_554 : decode cL_law 554 = .ok (.invokevirtual 63, 3) := dLg_45.2.2.2.1
theorem dL_law_557 : decode cL_law 557 = .ok (.pop, 1) := dLg_45.2.2.2.2.1
theorem dL_law_558 : decode cL_law 558 = .ok (.goto 944, 3) := dLg_45.2.2.2.2.2
set_option maxRecDepth 100000 in
theorem dLg_46 : decode cL_law 561 = .ok (.aload_n 1, 1) ∧ decode cL_law 562 = .ok (.aload_n 0, 1) ∧ decode cL_law 563 = .ok (.iload 4, 2) ∧ decode cL_law 565 = .ok (.iconst 1, 1) ∧ decode cL_law 566 = .ok (.iadd, 1) ∧ decode cL_law 567 = .ok (.iaload, 1) := by decide +kernel
theorem dL_law_561 : decode cL_law 561 = .ok (.aload_n 1, 1) := dLg_46.1
theorem dL_law_562 : decode cL_law 562 = .ok (.aload_n 0, 1) := dLg_46.2.1
theorem dL_law_563 : decode cL_law 563 = .ok (.iload 4, 2) := dLg_46.2.2.1
theorem dL_law_565 : decode cL_law 565 = .ok (.iconst 1, 1) := dLg_46.2.2.2.1
theorem dL_law_566 : decode cL_law 566 = .ok (.iadd, 1) := dLg_46.2.2.2.2.1
theorem dL_law_567 : decode cL_law 567 = .ok (.iaload, 1) := dLg_46.2.2.2.2.2
set_option maxRecDepth 100000 in
theorem dLg_47 : decode cL_law 568 = .ok (.invokevirtual 64, 3) ∧ decode cL_law 571 = .ok (.pop, 1) ∧ decode cL_law 572 = .ok (.aload_n 2, 1) ∧ decode cL_law 573 = .ok (.aload_n 0, 1) ∧ decode cL_law 574 = .ok (.iload 4, 2) ∧ decode cL_law 576 = .ok (.iconst 1, 1) := by decide +kernel
theorem dL_law_568 : decode cL_law 568 = .ok (.invokevirtual 64, 3) := dLg_47.1
theorem dL_law_571 : decode cL_law 571 = .ok (.pop, 1) := dLg_47.2.1
theorem dL_law_572 : decode cL_law 572 = .ok (.aload_n 2, 1) := dLg_47.2.2.1
theorem dL_law_573 : decode cL_law 573 = .ok (.aload_n 0, 1) := dLg_47.2.2.2.1
theorem dL_law_574 : decode cL_law 574 = .ok (.iload 4, 2) := dLg_47.2.2.2.2.1
theorem dL_law_576 : decode cL_law 576 = .ok (.iconst 1, 1) := dLg_47.2.2.2.2.2
set_option maxRecDepth 100000 in
theorem dLg_48 : decode cL_law 577 = .ok (.iadd, 1) ∧ decode cL_law 578 = .ok (.iaload, 1) ∧ decode cL_law 579 = .ok (.invokevirtual 67, 3) ∧ decode cL_law 582 = .ok (.pop, 1) ∧ decode cL_law 583 = .ok (.goto 919, 3) ∧ decode cL_law 586 = .ok (.aload_n 1, 1) := by decide +kernel
theorem dL_law_577 : decode cL_law 577 = .ok (.iadd, 1) := dLg_48.1
theorem dL_law_578 : decode cL_law 578 = .ok (.iaload, 1) := dLg_48.2.1
theorem dL_law_579 : decode cL_law 579 = .ok (.invokevirtual 67, 3) := dLg_48.2.2.1
theorem dL_law_582 : decode cL_law 582 = .ok (.pop, 1) := dLg_48.2.2.2.1
theorem dL_law_583 : decode cL_law 583 = .ok (.goto 919, 3) := dLg_48.2.2.2.2.1
theorem dL_law_586 : decode cL_law 586 = .ok (.aload_n 1, 1) := dLg_48.2.2.2.2.2
set_option maxRecDepth 100000 in
theorem dLg_49 : decode cL_law 587 = .ok (.aload_n 0, 1) ∧ decode cL_law 588 = .ok (.iload 4, 2) ∧ decode cL_law 590 = .ok (.iconst 1, 1) ∧ decode cL_law 591 = .ok (.iadd, 1) ∧ decode cL_law 592 = .ok (.iaload, 1) ∧ decode cL_law 593 = .ok (.aload_n 0, 1) := by decide +kernel
theorem dL_law_587 : decode cL_law 587 = .ok (.aload_n 0, 1) := dLg_49.1
theorem dL_law_588 : decode cL_law 588 = .ok (.iload 4, 2) := dLg_49.2.1
theorem dL_law_590 : decode cL_law 590 = .ok (.iconst 1, 1) := dLg_49.2.2.1
theorem dL_law_591 : decode cL_law 591 = .ok (.iadd, 1) := dLg_49.2.2.2.1
theorem dL_law_592 : decode cL_law 592 = .ok (.iaload, 1) := dLg_49.2.2.2.2.1
theorem dL_law_593 : decode cL_law 593 = .ok (.aload_n 0, 1) := dLg_49.2.2.2.2.2
set_option maxRecDepth 100000 in
theorem dLg_50 : decode cL_law 594 = .ok (.iload 4, 2) ∧ decode cL_law 596 = .ok (.iconst 2, 1) ∧ decode cL_law 597 = .ok (.iadd, 1) ∧ decode cL_law 598 = .ok (.iaload, 1) ∧ decode cL_law 599 = .ok (.invokevirtual 68, 3) ∧ decode cL_law 602 = .ok (.pop, 1) := by decide +kernel
theorem dL_law_594 : decode cL_law 594 = .ok (.iload 4, 2) := dLg_50.1
theorem dL_law_596 : decode cL_law 596 = .ok (.iconst 2, 1) := dLg_50.2.1
theorem dL_law_597 : decode cL_law 597 = .ok (.iadd, 1) := dLg_50.2.2.1
theorem dL_law_598 : decode cL_law 598 = .ok (.iaload, 1) := dLg_50.2.2.2.1
theorem dL_law_599 : decode cL_law 599 = .ok (.invokevirtual 68, 3) := dLg_50.2.2.2.2.1
theorem dL_law_602 : decode cL_law 602 = .ok (.pop, 1) := dLg_50.2.2.2.2.2
set_option maxRecDepth 100000 in
theorem dLg_51 : decode cL_law 603 = .ok (.aload_n 2, 1) ∧ decode cL_law 604 = .ok (.aload_n 0, 1) ∧ decode cL_law 605 = .ok (.iload 4, 2) ∧ decode cL_law 607 = .ok (.iconst 1, 1) ∧ decode cL_law 608 = .ok (.iadd, 1) ∧ decode cL_law 609 = .ok (.iaload, 1) := by decide +kernel
theorem dL_law_603 : decode cL_law 603 = .ok (.aload_n 2, 1) := dLg_51.1
theorem dL_law_604 : decode cL_law 604 = .ok (.aload_n 0, 1) := dLg_51.2.1
theorem dL_law_605 : decode cL_law 605 = .ok (.iload 4, 2) := dLg_51.2.2.1
theorem dL_law_607 : decode cL_law 607 = .ok (.iconst 1, 1) := dLg_51.2.2.2.1
theorem dL_law_608 : decode cL_law 608 = .ok (.iadd, 1) := dLg_51.2.2.2.2.1
theorem dL_law_609 : decode cL_law 609 = .ok (.iaload, 1) := dLg_51.2.2.2.2.2
set_option maxRecDepth 100000 in
theorem dLg_52 : decode cL_law 610 = .ok (.aload_n 0, 1) ∧ decode cL_law 611 = .ok (.iload 4, 2) ∧ decode cL_law 613 = .ok (.iconst 2, 1) ∧ decode cL_law 614 = .ok (.iadd, 1) ∧ decode cL_law 615 = .ok (.iaload, 1) ∧ decode cL_law 616 = .ok (.invokevirtual 71, 3) := by decide +kernel
theorem dL_law_610 : decode cL_law 610 = .ok (.aload_n 0, 1) := dLg_52.1
theorem dL_law_611 : decode cL_law 611 = .ok (.iload 4, 2) := dLg_52.2.1
theorem dL_law_613 : decode cL_law 613 = .ok (.iconst 2, 1) := dLg_52.2.2.1
theorem dL_law_614 : decode cL_law 614 = .ok (.iadd, 1) := dLg_52.2.2.2.1
theorem dL_law_615 : decode cL_law 615 = .ok (.iaload, 1) := dLg_52.2.2.2.2.1
theorem dL_law_616 : decode cL_law 616 = .ok (.invokevirtual 71, 3) := dLg_52.2.2.2.2.2
set_option maxRecDepth 100000 in
theorem dLg_53 : decode cL_law 619 = .ok (.pop, 1) ∧ decode cL_law 620 = .ok (.goto 882, 3) ∧ decode cL_law 623 = .ok (.aload_n 1, 1) ∧ decode cL_law 624 = .ok (.invokevirtual 72, 3) ∧ decode cL_law 627 = .ok (.pop, 1) ∧ decode cL_law 628 = .ok (.aload_n 2, 1) := by decide +kernel
theorem dL_law_619 : decode cL_law 619 = .ok (.pop, 1) := dLg_53.1
theorem dL_law_620 : decode cL_law 620 = .ok (.goto 882, 3) := dLg_53.2.1
theorem dL_law_623 : decode cL_law 623 = .ok (.aload_n 1, 1) := dLg_53.2.2.1
theorem dL_law_624 : decode cL_law 624 = .ok (.invokevirtual 72, 3) := dLg_53.2.2.2.1
theorem dL_law_627 : decode cL_law 627 = .ok (.pop, 1) := dLg_53.2.2.2.2.1
theorem dL_law_628 : decode cL_law 628 = .ok (.aload_n 2, 1) := dLg_53.2.2.2.2.2
set_option maxRecDepth 100000 in
theorem dLg_54 : decode cL_law 629 = .ok (.invokevirtual 76, 3) ∧ decode cL_law 632 = .ok (.pop, 1) ∧ decode cL_law 633 = .ok (.goto 869, 3) ∧ decode cL_law 636 = .ok (.aload_n 1, 1) ∧ decode cL_law 637 = .ok (.aload_n 0, 1) ∧ decode cL_law 638 = .ok (.iload 4, 2) := by decide +kernel
theorem dL_law_629 : decode cL_law 629 = .ok (.invokevirtual 76, 3) := dLg_54.1
theorem dL_law_632 : decode cL_law 632 = .ok (.pop, 1) := dLg_54.2.1
theorem dL_law_633 : decode cL_law 633 = .ok (.goto 869, 3) := dLg_54.2.2.1
theorem dL_law_636 : decode cL_law 636 = .ok (.aload_n 1, 1) := dLg_54.2.2.2.1
theorem dL_law_637 : decode cL_law 637 = .ok (.aload_n 0, 1) := dLg_54.2.2.2.2.1
theorem dL_law_638 : decode cL_law 638 = .ok (.iload 4, 2) := dLg_54.2.2.2.2.2
set_option maxRecDepth 100000 in
theorem dLg_55 : decode cL_law 640 = .ok (.iconst 1, 1) ∧ decode cL_law 641 = .ok (.iadd, 1) ∧ decode cL_law 642 = .ok (.iaload, 1) ∧ decode cL_law 643 = .ok (.invokevirtual 77, 3) ∧ decode cL_law 646 = .ok (.pop, 1) ∧ decode cL_law 647 = .ok (.aload_n 2, 1) := by decide +kernel
theorem dL_law_640 : decode cL_law 640 = .ok (.iconst 1, 1) := dLg_55.1
theorem dL_law_641 : decode cL_law 641 = .ok (.iadd, 1) := dLg_55.2.1
theorem dL_law_642 : decode cL_law 642 = .ok (.iaload, 1) := dLg_55.2.2.1
theorem dL_law_643 : decode cL_law 643 = .ok (.invokevirtual 77, 3) := dLg_55.2.2.2.1
theorem dL_law_646 : decode cL_law 646 = .ok (.pop, 1) := dLg_55.2.2.2.2.1
theorem dL_law_647 : decode cL_law 647 = .ok (.aload_n 2, 1) := dLg_55.2.2.2.2.2
set_option maxRecDepth 100000 in
theorem dLg_56 : decode cL_law 648 = .ok (.aload_n 0, 1) ∧ decode cL_law 649 = .ok (.iload 4, 2) ∧ decode cL_law 651 = .ok (.iconst 1, 1) ∧ decode cL_law 652 = .ok (.iadd, 1) ∧ decode cL_law 653 = .ok (.iaload, 1) ∧ decode cL_law 654 = .ok (.invokevirtual 80, 3) := by decide +kernel
theorem dL_law_648 : decode cL_law 648 = .ok (.aload_n 0, 1) := dLg_56.1
theorem dL_law_649 : decode cL_law 649 = .ok (.iload 4, 2) := dLg_56.2.1
theorem dL_law_651 : decode cL_law 651 = .ok (.iconst 1, 1) := dLg_56.2.2.1
theorem dL_law_652 : decode cL_law 652 = .ok (.iadd, 1) := dLg_56.2.2.2.1
theorem dL_law_653 : decode cL_law 653 = .ok (.iaload, 1) := dLg_56.2.2.2.2.1
theorem dL_law_654 : decode cL_law 654 = .ok (.invokevirtual 80, 3) := dLg_56.2.2.2.2.2
set_option maxRecDepth 100000 in
theorem dLg_57 : decode cL_law 657 = .ok (.pop, 1) ∧ decode cL_law 658 = .ok (.goto 844, 3) ∧ decode cL_law 661 = .ok (.aload_n 1, 1) ∧ decode cL_law 662 = .ok (.aload_n 0, 1) ∧ decode cL_law 663 = .ok (.iload 4, 2) ∧ decode cL_law 665 = .ok (.iconst 1, 1) := by decide +kernel
theorem dL_law_657 : decode cL_law 657 = .ok (.pop, 1) := dLg_57.1
theorem dL_law_658 : decode cL_law 658 = .ok (.goto 844, 3) := dLg_57.2.1
theorem dL_law_661 : decode cL_law 661 = .ok (.aload_n 1, 1) := dLg_57.2.2.1
theorem dL_law_662 : decode cL_law 662 = .ok (.aload_n 0, 1) := dLg_57.2.2.2.1
theorem dL_law_663 : decode cL_law 663 = .ok (.iload 4, 2) := dLg_57.2.2.2.2.1
theorem dL_law_665 : decode cL_law 665 = .ok (.iconst 1, 1) := dLg_57.2.2.2.2.2
set_option maxRecDepth 100000 in
theorem dLg_58 : decode cL_law 666 = .ok (.iadd, 1) ∧ decode cL_law 667 = .ok (.iaload, 1) ∧ decode cL_law 668 = .ok (.invokevirtual 81, 3) ∧ decode cL_law 671 = .ok (.pop, 1) ∧ decode cL_law 672 = .ok (.aload_n 2, 1) ∧ decode cL_law 673 = .ok (.aload_n 0, 1) := by decide +kernel
theorem dL_law_666 : decode cL_law 666 = .ok (.iadd, 1) := dLg_58.1
theorem dL_law_667 : decode cL_law 667 = .ok (.iaload, 1) := dLg_58.2.1
theorem dL_law_668 : decode cL_law 668 = .ok (.invokevirtual 81, 3) := dLg_58.2.2.1
theorem dL_law_671 : decode cL_law 671 = .ok (.pop, 1) := dLg_58.2.2.2.1
theorem dL_law_672 : decode cL_law 672 = .ok (.aload_n 2, 1) := dLg_58.2.2.2.2.1
theorem dL_law_673 : decode cL_law 673 = .ok (.aload_n 0, 1) := dLg_58.2.2.2.2.2
set_option maxRecDepth 100000 in
theorem dLg_59 : decode cL_law 674 = .ok (.iload 4, 2) ∧ decode cL_law 676 = .ok (.iconst 1, 1) ∧ decode cL_law 677 = .ok (.iadd, 1) ∧ decode cL_law 678 = .ok (.iaload, 1) ∧ decode cL_law 679 = .ok (.invokevirtual 84, 3) ∧ decode cL_law 682 = .ok (.pop, 1) := by decide +kernel
theorem dL_law_674 : decode cL_law 674 = .ok (.iload 4, 2) := dLg_59.1
theorem dL_law_676 : decode cL_law 676 = .ok (.iconst 1, 1) := dLg_59.2.1
theorem dL_law_677 : decode cL_law 677 = .ok (.iadd, 1) := dLg_59.2.2.1
theorem dL_law_678 : decode cL_law 678 = .ok (.iaload, 1) := dLg_59.2.2.2.1
theorem dL_law_679 : decode cL_law 679 = .ok (.invokevirtual 84, 3) := dLg_59.2.2.2.2.1
theorem dL_law_682 : decode cL_law 682 = .ok (.pop, 1) := dLg_59.2.2.2.2.2
set_option maxRecDepth 100000 in
theorem dLg_60 : decode cL_law 683 = .ok (.goto 819, 3) ∧ decode cL_law 686 = .ok (.aload_n 1, 1) ∧ decode cL_law 687 = .ok (.aload_n 0, 1) ∧ decode cL_law 688 = .ok (.iload 4, 2) ∧ decode cL_law 690 = .ok (.iconst 1, 1) ∧ decode cL_law 691 = .ok (.iadd, 1) := by decide +kernel
theorem dL_law_683 : decode cL_law 683 = .ok (.goto 819, 3) := dLg_60.1
theorem dL_law_686 : decode cL_law 686 = .ok (.aload_n 1, 1) := dLg_60.2.1
theorem dL_law_687 : decode cL_law 687 = .ok (.aload_n 0, 1) := dLg_60.2.2.1
theorem dL_law_688 : decode cL_law 688 = .ok (.iload 4, 2) := dLg_60.2.2.2.1
theorem dL_law_690 : decode cL_law 690 = .ok (.iconst 1, 1) := dLg_60.2.2.2.2.1
theorem dL_law_691 : decode cL_law 691 = .ok (.iadd, 1) := dLg_60.2.2.2.2.2
set_option maxRecDepth 100000 in
theorem dLg_61 : decode cL_law 692 = .ok (.iaload, 1) ∧ decode cL_law 693 = .ok (.invokevirtual 85, 3) ∧ decode cL_law 696 = .ok (.pop, 1) ∧ decode cL_law 697 = .ok (.aload_n 2, 1) ∧ decode cL_law 698 = .ok (.aload_n 0, 1) ∧ decode cL_law 699 = .ok (.iload 4, 2) := by decide +kernel
theorem dL_law_692 : decode cL_law 692 = .ok (.iaload, 1) := dLg_61.1
theorem dL_law_693 : decode cL_law 693 = .ok (.invokevirtual 85, 3) := dLg_61.2.1
theorem dL_law_696 : decode cL_law 696 = .ok (.pop, 1) := dLg_61.2.2.1
theorem dL_law_697 : decode cL_law 697 = .ok (.aload_n 2, 1) := dLg_61.2.2.2.1
theorem dL_law_698 : decode cL_law 698 = .ok (.aload_n 0, 1) := dLg_61.2.2.2.2.1
theorem dL_law_699 : decode cL_law 699 = .ok (.iload 4, 2) := dLg_61.2.2.2.2.2
set_option maxRecDepth 100000 in
theorem dLg_62 : decode cL_law 701 = .ok (.iconst 1, 1) ∧ decode cL_law 702 = .ok (.iadd, 1) ∧ decode cL_law 703 = .ok (.iaload, 1) ∧ decode cL_law 704 = .ok (.invokevirtual 88, 3) ∧ decode cL_law 707 = .ok (.pop, 1) ∧ decode cL_law 708 = .ok (.goto 794, 3) := by decide +kernel
theorem dL_law_701 : decode cL_law 701 = .ok (.iconst 1, 1) := dLg_62.1
theorem dL_law_702 : decode cL_law 702 = .ok (.iadd, 1) := dLg_62.2.1
theorem dL_law_703 : decode cL_law 703 = .ok (.iaload, 1) := dLg_62.2.2.1
theorem dL_law_704 : decode cL_law 704 = .ok (.invokevirtual 88, 3) := dLg_62.2.2.2.1
theorem dL_law_707 : decode cL_law 707 = .ok (.pop, 1) := dLg_62.2.2.2.2.1
theorem dL_law_708 : decode cL_law 708 = .ok (.goto 794, 3) := dLg_62.2.2.2.2.2
set_option maxRecDepth 100000 in
theorem dLg_63 : decode cL_law 711 = .ok (.aload_n 1, 1) ∧ decode cL_law 712 = .ok (.aload_n 0, 1) ∧ decode cL_law 713 = .ok (.iload 4, 2) ∧ decode cL_law 715 = .ok (.iconst 1, 1) ∧ decode cL_law 716 = .ok (.iadd, 1) ∧ decode cL_law 717 = .ok (.iaload, 1) := by decide +kernel
theorem dL_law_711 : decode cL_law 711 = .ok (.aload_n 1, 1) := dLg_63.1
theorem dL_law_712 : decode cL_law 712 = .ok (.aload_n 0, 1) := dLg_63.2.1
theorem dL_law_713 : decode cL_law 713 = .ok (.iload 4, 2) := dLg_63.2.2.1
theorem dL_law_715 : decode cL_law 715 = .ok (.iconst 1, 1) := dLg_63.2.2.2.1
theorem dL_law_716 : decode cL_law 716 = .ok (.iadd, 1) := dLg_63.2.2.2.2.1
theorem dL_law_717 : decode cL_law 717 = .ok (.iaload, 1) := dLg_63.2.2.2.2.2
set_option maxRecDepth 100000 in
theorem dLg_64 : decode cL_law 718 = .ok (.invokevirtual 89, 3) ∧ decode cL_law 721 = .ok (.pop, 1) ∧ decode cL_law 722 = .ok (.aload_n 2, 1) ∧ decode cL_law 723 = .ok (.aload_n 0, 1) ∧ decode cL_law 724 = .ok (.iload 4, 2) ∧ decode cL_law 726 = .ok (.iconst 1, 1) := by decide +kernel
theorem dL_law_718 : decode cL_law 718 = .ok (.invokevirtual 89, 3) := dLg_64.1
theorem dL_law_721 : decode cL_law 721 = .ok (.pop, 1) := dLg_64.2.1
theorem dL_law_722 : decode cL_law 722 = .ok (.aload_n 2, 1) := dLg_64.2.2.1
theorem dL_law_723 : decode cL_law 723 = .ok (.aload_n 0, 1) := dLg_64.2.2.2.1
theorem dL_law_724 : decode cL_law 724 = .ok (.iload 4, 2) := dLg_64.2.2.2.2.1
theorem dL_law_726 : decode cL_law 726 = .ok (.iconst 1, 1) := dLg_64.2.2.2.2.2
set_option maxRecDepth 100000 in
theorem dLg_65 : decode cL_law 727 = .ok (.iadd, 1) ∧ decode cL_law 728 = .ok (.iaload, 1) ∧ decode cL_law 729 = .ok (.invokevirtual 92, 3) ∧ decode cL_law 732 = .ok (.pop, 1) ∧ decode cL_law 733 = .ok (.goto 769, 3) ∧ decode cL_law 736 = .ok (.aload_n 1, 1) := by decide +kernel
theorem dL_law_727 : decode cL_law 727 = .ok (.iadd, 1) := dLg_65.1
theorem dL_law_728 : decode cL_law 728 = .ok (.iaload, 1) := dLg_65.2.1
theorem dL_law_729 : decode cL_law 729 = .ok (.invokevirtual 92, 3) := dLg_65.2.2.1
theorem dL_law_732 : decode cL_law 732 = .ok (.pop, 1) := dLg_65.2.2.2.1
theorem dL_law_733 : decode cL_law 733 = .ok (.goto 769, 3) := dLg_65.2.2.2.2.1
theorem dL_law_736 : decode cL_law 736 = .ok (.aload_n 1, 1) := dLg_65.2.2.2.2.2
set_option maxRecDepth 100000 in
theorem dLg_66 : decode cL_law 737 = .ok (.aload_n 0, 1) ∧ decode cL_law 738 = .ok (.iload 4, 2) ∧ decode cL_law 740 = .ok (.iconst 1, 1) ∧ decode cL_law 741 = .ok (.iadd, 1) ∧ decode cL_law 742 = .ok (.iaload, 1) ∧ decode cL_law 743 = .ok (.aload_n 0, 1) := by decide +kernel
theorem dL_law_737 : decode cL_law 737 = .ok (.aload_n 0, 1) := dLg_66.1
theorem dL_law_738 : decode cL_law 738 = .ok (.iload 4, 2) := dLg_66.2.1
theorem dL_law_740 : decode cL_law 740 = .ok (.iconst 1, 1) := dLg_66.2.2.1
theorem dL_law_741 : decode cL_law 741 = .ok (.iadd, 1) := dLg_66.2.2.2.1
theorem dL_law_742 : decode cL_law 742 = .ok (.iaload, 1) := dLg_66.2.2.2.2.1
theorem dL_law_743 : decode cL_law 743 = .ok (.aload_n 0, 1) := dLg_66.2.2.2.2.2
set_option maxRecDepth 100000 in
theorem dLg_67 : decode cL_law 744 = .ok (.iload 4, 2) ∧ decode cL_law 746 = .ok (.iconst 2, 1) ∧ decode cL_law 747 = .ok (.iadd, 1) ∧ decode cL_law 748 = .ok (.iaload, 1) ∧ decode cL_law 749 = .ok (.i2l, 1) ∧ decode cL_law 750 = .ok (.bipush 32, 2) := by decide +kernel
theorem dL_law_744 : decode cL_law 744 = .ok (.iload 4, 2) := dLg_67.1
theorem dL_law_746 : decode cL_law 746 = .ok (.iconst 2, 1) := dLg_67.2.1
theorem dL_law_747 : decode cL_law 747 = .ok (.iadd, 1) := dLg_67.2.2.1
theorem dL_law_748 : decode cL_law 748 = .ok (.iaload, 1) := dLg_67.2.2.2.1
theorem dL_law_749 : decode cL_law 749 = .ok (.i2l, 1) := dLg_67.2.2.2.2.1
theorem dL_law_750 : decode cL_law 750 = .ok (.bipush 32, 2) := dLg_67.2.2.2.2.2
set_option maxRecDepth 100000 in
theorem dLg_68 : decode cL_law 752 = .ok (.lshl, 1) ∧ decode cL_law 753 = .ok (.aload_n 0, 1) ∧ decode cL_law 754 = .ok (.iload 4, 2) ∧ decode cL_law 756 = .ok (.iconst 3, 1) ∧ decode cL_law 757 = .ok (.iadd, 1) ∧ decode cL_law 758 = .ok (.iaload, 1) := by decide +kernel
theorem dL_law_752 : decode cL_law 752 = .ok (.lshl, 1) := dLg_68.1
theorem dL_law_753 : decode cL_law 753 = .ok (.aload_n 0, 1) := dLg_68.2.1
theorem dL_law_754 : decode cL_law 754 = .ok (.iload 4, 2) := dLg_68.2.2.1
theorem dL_law_756 : decode cL_law 756 = .ok (.iconst 3, 1) := dLg_68.2.2.2.1
theorem dL_law_757 : decode cL_law 757 = .ok (.iadd, 1) := dLg_68.2.2.2.2.1
theorem dL_law_758 : decode cL_law 758 = .ok (.iaload, 1) := dLg_68.2.2.2.2.2
set_option maxRecDepth 100000 in
theorem dLg_69 : decode cL_law 759 = .ok (.i2l, 1) ∧ decode cL_law 760 = .ok (.ldc2_w 93, 3) ∧ decode cL_law 763 = .ok (.land, 1) ∧ decode cL_law 764 = .ok (.lor, 1) ∧ decode cL_law 765 = .ok (.invokevirtual 95, 3) ∧ decode cL_law 768 = .ok (.pop, 1) := by decide +kernel
theorem dL_law_759 : decode cL_law 759 = .ok (.i2l, 1) := dLg_69.1
theorem dL_law_760 : decode cL_law 760 = .ok (.ldc2_w 93, 3) := dLg_69.2.1
theorem dL_law_763 : decode cL_law 763 = .ok (.land, 1) := dLg_69.2.2.1
theorem dL_law_764 : decode cL_law 764 = .ok (.lor, 1) := dLg_69.2.2.2.1
theorem dL_law_765 : decode cL_law 765 = .ok (.invokevirtual 95, 3) := dLg_69.2.2.2.2.1
theorem dL_law_768 : decode cL_law 768 = .ok (.pop, 1) := dLg_69.2.2.2.2.2
set_option maxRecDepth 100000 in
theorem dLg_70 : decode cL_law 769 = .ok (.aload_n 2, 1) ∧ decode cL_law 770 = .ok (.aload_n 0, 1) ∧ decode cL_law 771 = .ok (.iload 4, 2) ∧ decode cL_law 773 = .ok (.iconst 1, 1) ∧ decode cL_law 774 = .ok (.iadd, 1) ∧ decode cL_law 775 = .ok (.iaload, 1) := by decide +kernel
theorem dL_law_769 : decode cL_law 769 = .ok (.aload_n 2, 1) := dLg_70.1
theorem dL_law_770 : decode cL_law 770 = .ok (.aload_n 0, 1) := dLg_70.2.1
theorem dL_law_771 : decode cL_law 771 = .ok (.iload 4, 2) := dLg_70.2.2.1
theorem dL_law_773 : decode cL_law 773 = .ok (.iconst 1, 1) := dLg_70.2.2.2.1
theorem dL_law_774 : decode cL_law 774 = .ok (.iadd, 1) := dLg_70.2.2.2.2.1
theorem dL_law_775 : decode cL_law 775 = .ok (.iaload, 1) := dLg_70.2.2.2.2.2
set_option maxRecDepth 100000 in
theorem dLg_71 : decode cL_law 776 = .ok (.aload_n 0, 1) ∧ decode cL_law 777 = .ok (.iload 4, 2) ∧ decode cL_law 779 = .ok (.iconst 2, 1) ∧ decode cL_law 780 = .ok (.iadd, 1) ∧ decode cL_law 781 = .ok (.iaload, 1) ∧ decode cL_law 782 = .ok (.i2l, 1) := by decide +kernel
theorem dL_law_776 : decode cL_law 776 = .ok (.aload_n 0, 1) := dLg_71.1
theorem dL_law_777 : decode cL_law 777 = .ok (.iload 4, 2) := dLg_71.2.1
theorem dL_law_779 : decode cL_law 779 = .ok (.iconst 2, 1) := dLg_71.2.2.1
theorem dL_law_780 : decode cL_law 780 = .ok (.iadd, 1) := dLg_71.2.2.2.1
theorem dL_law_781 : decode cL_law 781 = .ok (.iaload, 1) := dLg_71.2.2.2.2.1
theorem dL_law_782 : decode cL_law 782 = .ok (.i2l, 1) := dLg_71.2.2.2.2.2
set_option maxRecDepth 100000 in
theorem dLg_72 : decode cL_law 783 = .ok (.bipush 32, 2) ∧ decode cL_law 785 = .ok (.lshl, 1) ∧ decode cL_law 786 = .ok (.aload_n 0, 1) ∧ decode cL_law 787 = .ok (.iload 4, 2) ∧ decode cL_law 789 = .ok (.iconst 3, 1) ∧ decode cL_law 790 = .ok (.iadd, 1) := by decide +kernel
theorem dL_law_783 : decode cL_law 783 = .ok (.bipush 32, 2) := dLg_72.1
theorem dL_law_785 : decode cL_law 785 = .ok (.lshl, 1) := dLg_72.2.1
theorem dL_law_786 : decode cL_law 786 = .ok (.aload_n 0, 1) := dLg_72.2.2.1
theorem dL_law_787 : decode cL_law 787 = .ok (.iload 4, 2) := dLg_72.2.2.2.1
theorem dL_law_789 : decode cL_law 789 = .ok (.iconst 3, 1) := dLg_72.2.2.2.2.1
theorem dL_law_790 : decode cL_law 790 = .ok (.iadd, 1) := dLg_72.2.2.2.2.2
set_option maxRecDepth 100000 in
theorem dLg_73 : decode cL_law 791 = .ok (.iaload, 1) ∧ decode cL_law 792 = .ok (.i2l, 1) ∧ decode cL_law 793 = .ok (.ldc2_w 93, 3) ∧ decode cL_law 796 = .ok (.land, 1) ∧ decode cL_law 797 = .ok (.lor, 1) ∧ decode cL_law 798 = .ok (.invokevirtual 99, 3) := by decide +kernel
theorem dL_law_791 : decode cL_law 791 = .ok (.iaload, 1) := dLg_73.1
theorem dL_law_792 : decode cL_law 792 = .ok (.i2l, 1) := dLg_73.2.1
theorem dL_law_793 : decode cL_law 793 = .ok (.ldc2_w 93, 3) := dLg_73.2.2.1
theorem dL_law_796 : decode cL_law 796 = .ok (.land, 1) := dLg_73.2.2.2.1
theorem dL_law_797 : decode cL_law 797 = .ok (.lor, 1) := dLg_73.2.2.2.2.1
theorem dL_law_798 : decode cL_law 798 = .ok (.invokevirtual 99, 3) := dLg_73.2.2.2.2.2
set_option maxRecDepth 100000 in
theorem dLg_74 : decode cL_law 801 = .ok (.pop, 1) ∧ decode cL_law 802 = .ok (.goto 700, 3) ∧ decode cL_law 805 = .ok (.aload_n 1, 1) ∧ decode cL_law 806 = .ok (.aload_n 0, 1) ∧ decode cL_law 807 = .ok (.iload 4, 2) ∧ decode cL_law 809 = .ok (.iconst 1, 1) := by decide +kernel
theorem dL_law_801 : decode cL_law 801 = .ok (.pop, 1) := dLg_74.1
theorem dL_law_802 : decode cL_law 802 = .ok (.goto 700, 3) := dLg_74.2.1
theorem dL_law_805 : decode cL_law 805 = .ok (.aload_n 1, 1) := dLg_74.2.2.1
theorem dL_law_806 : decode cL_law 806 = .ok (.aload_n 0, 1) := dLg_74.2.2.2.1
theorem dL_law_807 : decode cL_law 807 = .ok (.iload 4, 2) := dLg_74.2.2.2.2.1
theorem dL_law_809 : decode cL_law 809 = .ok (.iconst 1, 1) := dLg_74.2.2.2.2.2
set_option maxRecDepth 100000 in
theorem dLg_75 : decode cL_law 810 = .ok (.iadd, 1) ∧ decode cL_law 811 = .ok (.iaload, 1) ∧ decode cL_law 812 = .ok (.invokevirtual 100, 3) ∧ decode cL_law 815 = .ok (.pop, 1) ∧ decode cL_law 816 = .ok (.aload_n 2, 1) ∧ decode cL_law 817 = .ok (.aload_n 0, 1) := by decide +kernel
theorem dL_law_810 : decode cL_law 810 = .ok (.iadd, 1) := dLg_75.1
theorem dL_law_811 : decode cL_law 811 = .ok (.iaload, 1) := dLg_75.2.1
theorem dL_law_812 : decode cL_law 812 = .ok (.invokevirtual 100, 3) := dLg_75.2.2.1
theorem dL_law_815 : decode cL_law 815 = .ok (.pop, 1) := dLg_75.2.2.2.1
theorem dL_law_816 : decode cL_law 816 = .ok (.aload_n 2, 1) := dLg_75.2.2.2.2.1
theorem dL_law_817 : decode cL_law 817 = .ok (.aload_n 0, 1) := dLg_75.2.2.2.2.2
set_option maxRecDepth 100000 in
theorem dLg_76 : decode cL_law 818 = .ok (.iload 4, 2) ∧ decode cL_law 820 = .ok (.iconst 1, 1) ∧ decode cL_law 821 = .ok (.iadd, 1) ∧ decode cL_law 822 = .ok (.iaload, 1) ∧ decode cL_law 823 = .ok (.invokevirtual 103, 3) ∧ decode cL_law 826 = .ok (.pop, 1) := by decide +kernel
theorem dL_law_818 : decode cL_law 818 = .ok (.iload 4, 2) := dLg_76.1
theorem dL_law_820 : decode cL_law 820 = .ok (.iconst 1, 1) := dLg_76.2.1
theorem dL_law_821 : decode cL_law 821 = .ok (.iadd, 1) := dLg_76.2.2.1
theorem dL_law_822 : decode cL_law 822 = .ok (.iaload, 1) := dLg_76.2.2.2.1
theorem dL_law_823 : decode cL_law 823 = .ok (.invokevirtual 103, 3) := dLg_76.2.2.2.2.1
theorem dL_law_826 : decode cL_law 826 = .ok (.pop, 1) := dLg_76.2.2.2.2.2
set_option maxRecDepth 100000 in
theorem dLg_77 : decode cL_law 827 = .ok (.goto 675, 3) ∧ decode cL_law 830 = .ok (.aload_n 1, 1) ∧ decode cL_law 831 = .ok (.invokevirtual 104, 3) ∧ decode cL_law 834 = .ok (.pop, 1) ∧ decode cL_law 835 = .ok (.aload_n 2, 1) ∧ decode cL_law 836 = .ok (.invokevirtual 107, 3) := by decide +kernel
theorem dL_law_827 : decode cL_law 827 = .ok (.goto 675, 3) := dLg_77.1
theorem dL_law_830 : decode cL_law 830 = .ok (.aload_n 1, 1) := dLg_77.2.1
theorem dL_law_831 : decode cL_law 831 = .ok (.invokevirtual 104, 3) := dLg_77.2.2.1
theorem dL_law_834 : decode cL_law 834 = .ok (.pop, 1) := dLg_77.2.2.2.1
theorem dL_law_835 : decode cL_law 835 = .ok (.aload_n 2, 1) := dLg_77.2.2.2.2.1
theorem dL_law_836 : decode cL_law 836 = .ok (.invokevirtual 107, 3) := dLg_77.2.2.2.2.2
set_option maxRecDepth 100000 in
theorem dLg_78 : decode cL_law 839 = .ok (.pop, 1) ∧ decode cL_law 840 = .ok (.goto 662, 3) ∧ decode cL_law 843 = .ok (.aload_n 1, 1) ∧ decode cL_law 844 = .ok (.aload_n 0, 1) ∧ decode cL_law 845 = .ok (.iload 4, 2) ∧ decode cL_law 847 = .ok (.iconst 1, 1) := by decide +kernel
theorem dL_law_839 : decode cL_law 839 = .ok (.pop, 1) := dLg_78.1
theorem dL_law_840 : decode cL_law 840 = .ok (.goto 662, 3) := dLg_78.2.1
theorem dL_law_843 : decode cL_law 843 = .ok (.aload_n 1, 1) := dLg_78.2.2.1
theorem dL_law_844 : decode cL_law 844 = .ok (.aload_n 0, 1) := dLg_78.2.2.2.1
theorem dL_law_845 : decode cL_law 845 = .ok (.iload 4, 2) := dLg_78.2.2.2.2.1
theorem dL_law_847 : decode cL_law 847 = .ok (.iconst 1, 1) := dLg_78.2.2.2.2.2
set_option maxRecDepth 100000 in
theorem dLg_79 : decode cL_law 848 = .ok (.iadd, 1) ∧ decode cL_law 849 = .ok (.iaload, 1) ∧ decode cL_law 850 = .ok (.aload_n 0, 1) ∧ decode cL_law 851 = .ok (.iload 4, 2) ∧ decode cL_law 853 = .ok (.iconst 2, 1) ∧ decode cL_law 854 = .ok (.iadd, 1) := by decide +kernel
theorem dL_law_848 : decode cL_law 848 = .ok (.iadd, 1) := dLg_79.1
theorem dL_law_849 : decode cL_law 849 = .ok (.iaload, 1) := dLg_79.2.1
theorem dL_law_850 : decode cL_law 850 = .ok (.aload_n 0, 1) := dLg_79.2.2.1
theorem dL_law_851 : decode cL_law 851 = .ok (.iload 4, 2) := dLg_79.2.2.2.1
theorem dL_law_853 : decode cL_law 853 = .ok (.iconst 2, 1) := dLg_79.2.2.2.2.1
theorem dL_law_854 : decode cL_law 854 = .ok (.iadd, 1) := dLg_79.2.2.2.2.2
set_option maxRecDepth 100000 in
theorem dLg_80 : decode cL_law 855 = .ok (.iaload, 1) ∧ decode cL_law 856 = .ok (.invokevirtual 108, 3) ∧ decode cL_law 859 = .ok (.pop, 1) ∧ decode cL_law 860 = .ok (.aload_n 2, 1) ∧ decode cL_law 861 = .ok (.aload_n 0, 1) ∧ decode cL_law 862 = .ok (.iload 4, 2) := by decide +kernel
theorem dL_law_855 : decode cL_law 855 = .ok (.iaload, 1) := dLg_80.1
theorem dL_law_856 : decode cL_law 856 = .ok (.invokevirtual 108, 3) := dLg_80.2.1
theorem dL_law_859 : decode cL_law 859 = .ok (.pop, 1) := dLg_80.2.2.1
theorem dL_law_860 : decode cL_law 860 = .ok (.aload_n 2, 1) := dLg_80.2.2.2.1
theorem dL_law_861 : decode cL_law 861 = .ok (.aload_n 0, 1) := dLg_80.2.2.2.2.1
theorem dL_law_862 : decode cL_law 862 = .ok (.iload 4, 2) := dLg_80.2.2.2.2.2
set_option maxRecDepth 100000 in
theorem dLg_81 : decode cL_law 864 = .ok (.iconst 1, 1) ∧ decode cL_law 865 = .ok (.iadd, 1) ∧ decode cL_law 866 = .ok (.iaload, 1) ∧ decode cL_law 867 = .ok (.aload_n 0, 1) ∧ decode cL_law 868 = .ok (.iload 4, 2) ∧ decode cL_law 870 = .ok (.iconst 2, 1) := by decide +kernel
theorem dL_law_864 : decode cL_law 864 = .ok (.iconst 1, 1) := dLg_81.1
theorem dL_law_865 : decode cL_law 865 = .ok (.iadd, 1) := dLg_81.2.1
theorem dL_law_866 : decode cL_law 866 = .ok (.iaload, 1) := dLg_81.2.2.1
theorem dL_law_867 : decode cL_law 867 = .ok (.aload_n 0, 1) := dLg_81.2.2.2.1
theorem dL_law_868 : decode cL_law 868 = .ok (.iload 4, 2) := dLg_81.2.2.2.2.1
theorem dL_law_870 : decode cL_law 870 = .ok (.iconst 2, 1) := dLg_81.2.2.2.2.2
set_option maxRecDepth 100000 in
theorem dLg_82 : decode cL_law 871 = .ok (.iadd, 1) ∧ decode cL_law 872 = .ok (.iaload, 1) ∧ decode cL_law 873 = .ok (.invokevirtual 111, 3) ∧ decode cL_law 876 = .ok (.pop, 1) ∧ decode cL_law 877 = .ok (.goto 625, 3) ∧ decode cL_law 880 = .ok (.aload_n 1, 1) := by decide +kernel
theorem dL_law_871 : decode cL_law 871 = .ok (.iadd, 1) := dLg_82.1
theorem dL_law_872 : decode cL_law 872 = .ok (.iaload, 1) := dLg_82.2.1
theorem dL_law_873 : decode cL_law 873 = .ok (.invokevirtual 111, 3) := dLg_82.2.2.1
theorem dL_law_876 : decode cL_law 876 = .ok (.pop, 1) := dLg_82.2.2.2.1
theorem dL_law_877 : decode cL_law 877 = .ok (.goto 625, 3) := dLg_82.2.2.2.2.1
theorem dL_law_880 : decode cL_law 880 = .ok (.aload_n 1, 1) := dLg_82.2.2.2.2.2
set_option maxRecDepth 100000 in
theorem dLg_83 : decode cL_law 881 = .ok (.aload_n 0, 1) ∧ decode cL_law 882 = .ok (.iload 4, 2) ∧ decode cL_law 884 = .ok (.iconst 1, 1) ∧ decode cL_law 885 = .ok (.iadd, 1) ∧ decode cL_law 886 = .ok (.iaload, 1) ∧ decode cL_law 887 = .ok (.aload_n 0, 1) := by decide +kernel
theorem dL_law_881 : decode cL_law 881 = .ok (.aload_n 0, 1) := dLg_83.1
theorem dL_law_882 : decode cL_law 882 = .ok (.iload 4, 2) := dLg_83.2.1
theorem dL_law_884 : decode cL_law 884 = .ok (.iconst 1, 1) := dLg_83.2.2.1
theorem dL_law_885 : decode cL_law 885 = .ok (.iadd, 1) := dLg_83.2.2.2.1
theorem dL_law_886 : decode cL_law 886 = .ok (.iaload, 1) := dLg_83.2.2.2.2.1
theorem dL_law_887 : decode cL_law 887 = .ok (.aload_n 0, 1) := dLg_83.2.2.2.2.2
set_option maxRecDepth 100000 in
theorem dLg_84 : decode cL_law 888 = .ok (.iload 4, 2) ∧ decode cL_law 890 = .ok (.iconst 2, 1) ∧ decode cL_law 891 = .ok (.iadd, 1) ∧ decode cL_law 892 = .ok (.iaload, 1) ∧ decode cL_law 893 = .ok (.invokevirtual 112, 3) ∧ decode cL_law 896 = .ok (.pop, 1) := by decide +kernel
theorem dL_law_888 : decode cL_law 888 = .ok (.iload 4, 2) := dLg_84.1
theorem dL_law_890 : decode cL_law 890 = .ok (.iconst 2, 1) := dLg_84.2.1
theorem dL_law_891 : decode cL_law 891 = .ok (.iadd, 1) := dLg_84.2.2.1
theorem dL_law_892 : decode cL_law 892 = .ok (.iaload, 1) := dLg_84.2.2.2.1
theorem dL_law_893 : decode cL_law 893 = .ok (.invokevirtual 112, 3) := dLg_84.2.2.2.2.1
theorem dL_law_896 : decode cL_law 896 = .ok (.pop, 1) := dLg_84.2.2.2.2.2
set_option maxRecDepth 100000 in
theorem dLg_85 : decode cL_law 897 = .ok (.aload_n 2, 1) ∧ decode cL_law 898 = .ok (.aload_n 0, 1) ∧ decode cL_law 899 = .ok (.iload 4, 2) ∧ decode cL_law 901 = .ok (.iconst 1, 1) ∧ decode cL_law 902 = .ok (.iadd, 1) ∧ decode cL_law 903 = .ok (.iaload, 1) := by decide +kernel
theorem dL_law_897 : decode cL_law 897 = .ok (.aload_n 2, 1) := dLg_85.1
theorem dL_law_898 : decode cL_law 898 = .ok (.aload_n 0, 1) := dLg_85.2.1
theorem dL_law_899 : decode cL_law 899 = .ok (.iload 4, 2) := dLg_85.2.2.1
theorem dL_law_901 : decode cL_law 901 = .ok (.iconst 1, 1) := dLg_85.2.2.2.1
theorem dL_law_902 : decode cL_law 902 = .ok (.iadd, 1) := dLg_85.2.2.2.2.1
theorem dL_law_903 : decode cL_law 903 = .ok (.iaload, 1) := dLg_85.2.2.2.2.2
set_option maxRecDepth 100000 in
theorem dLg_86 : decode cL_law 904 = .ok (.aload_n 0, 1) ∧ decode cL_law 905 = .ok (.iload 4, 2) ∧ decode cL_law 907 = .ok (.iconst 2, 1) ∧ decode cL_law 908 = .ok (.iadd, 1) ∧ decode cL_law 909 = .ok (.iaload, 1) ∧ decode cL_law 910 = .ok (.invokevirtual 115, 3) := by decide +kernel
theorem dL_law_904 : decode cL_law 904 = .ok (.aload_n 0, 1) := dLg_86.1
theorem dL_law_905 : decode cL_law 905 = .ok (.iload 4, 2) := dLg_86.2.1
theorem dL_law_907 : decode cL_law 907 = .ok (.iconst 2, 1) := dLg_86.2.2.1
theorem dL_law_908 : decode cL_law 908 = .ok (.iadd, 1) := dLg_86.2.2.2.1
theorem dL_law_909 : decode cL_law 909 = .ok (.iaload, 1) := dLg_86.2.2.2.2.1
theorem dL_law_910 : decode cL_law 910 = .ok (.invokevirtual 115, 3) := dLg_86.2.2.2.2.2
set_option maxRecDepth 100000 in
theorem dLg_87 : decode cL_law 913 = .ok (.pop, 1) ∧ decode cL_law 914 = .ok (.goto 588, 3) ∧ decode cL_law 917 = .ok (.aload_n 1, 1) ∧ decode cL_law 918 = .ok (.aload_n 0, 1) ∧ decode cL_law 919 = .ok (.iload 4, 2) ∧ decode cL_law 921 = .ok (.iconst 1, 1) := by decide +kernel
theorem dL_law_913 : decode cL_law 913 = .ok (.pop, 1) := dLg_87.1
theorem dL_law_914 : decode cL_law 914 = .ok (.goto 588, 3) := dLg_87.2.1
theorem dL_law_917 : decode cL_law 917 = .ok (.aload_n 1, 1) := dLg_87.2.2.1
theorem dL_law_918 : decode cL_law 918 = .ok (.aload_n 0, 1) := dLg_87.2.2.2.1
theorem dL_law_919 : decode cL_law 919 = .ok (.iload 4, 2) := dLg_87.2.2.2.2.1
theorem dL_law_921 : decode cL_law 921 = .ok (.iconst 1, 1) := dLg_87.2.2.2.2.2
set_option maxRecDepth 100000 in
theorem dLg_88 : decode cL_law 922 = .ok (.iadd, 1) ∧ decode cL_law 923 = .ok (.iaload, 1) ∧ decode cL_law 924 = .ok (.aload_n 0, 1) ∧ decode cL_law 925 = .ok (.iload 4, 2) ∧ decode cL_law 927 = .ok (.iconst 2, 1) ∧ decode cL_law 928 = .ok (.iadd, 1) := by decide +kernel
theorem dL_law_922 : decode cL_law 922 = .ok (.iadd, 1) := dLg_88.1
theorem dL_law_923 : decode cL_law 923 = .ok (.iaload, 1) := dLg_88.2.1
theorem dL_law_924 : decode cL_law 924 = .ok (.aload_n 0, 1) := dLg_88.2.2.1
theorem dL_law_925 : decode cL_law 925 = .ok (.iload 4, 2) := dLg_88.2.2.2.1
theorem dL_law_927 : decode cL_law 927 = .ok (.iconst 2, 1) := dLg_88.2.2.2.2.1
theorem dL_law_928 : decode cL_law 928 = .ok (.iadd, 1) := dLg_88.2.2.2.2.2
set_option maxRecDepth 100000 in
theorem dLg_89 : decode cL_law 929 = .ok (.iaload, 1) ∧ decode cL_law 930 = .ok (.aload_n 0, 1) ∧ decode cL_law 931 = .ok (.iload 4, 2) ∧ decode cL_law 933 = .ok (.iconst 3, 1) ∧ decode cL_law 934 = .ok (.iadd, 1) ∧ decode cL_law 935 = .ok (.iaload, 1) := by decide +kernel
theorem dL_law_929 : decode cL_law 929 = .ok (.iaload, 1) := dLg_89.1
theorem dL_law_930 : decode cL_law 930 = .ok (.aload_n 0, 1) := dLg_89.2.1
theorem dL_law_931 : decode cL_law 931 = .ok (.iload 4, 2) := dLg_89.2.2.1
theorem dL_law_933 : decode cL_law 933 = .ok (.iconst 3, 1) := dLg_89.2.2.2.1
theorem dL_law_934 : decode cL_law 934 = .ok (.iadd, 1) := dLg_89.2.2.2.2.1
theorem dL_law_935 : decode cL_law 935 = .ok (.iaload, 1) := dLg_89.2.2.2.2.2
set_option maxRecDepth 100000 in
theorem dLg_90 : decode cL_law 936 = .ok (.invokevirtual 116, 3) ∧ decode cL_law 939 = .ok (.pop, 1) ∧ decode cL_law 940 = .ok (.aload_n 2, 1) ∧ decode cL_law 941 = .ok (.aload_n 0, 1) ∧ decode cL_law 942 = .ok (.iload 4, 2) ∧ decode cL_law 944 = .ok (.iconst 1, 1) := by decide +kernel
theorem dL_law_936 : decode cL_law 936 = .ok (.invokevirtual 116, 3) := dLg_90.1
theorem dL_law_939 : decode cL_law 939 = .ok (.pop, 1) := dLg_90.2.1
theorem dL_law_940 : decode cL_law 940 = .ok (.aload_n 2, 1) := dLg_90.2.2.1
theorem dL_law_941 : decode cL_law 941 = .ok (.aload_n 0, 1) := dLg_90.2.2.2.1
theorem dL_law_942 : decode cL_law 942 = .ok (.iload 4, 2) := dLg_90.2.2.2.2.1
theorem dL_law_944 : decode cL_law 944 = .ok (.iconst 1, 1) := dLg_90.2.2.2.2.2
set_option maxRecDepth 100000 in
theorem dLg_91 : decode cL_law 945 = .ok (.iadd, 1) ∧ decode cL_law 946 = .ok (.iaload, 1) ∧ decode cL_law 947 = .ok (.aload_n 0, 1) ∧ decode cL_law 948 = .ok (.iload 4, 2) ∧ decode cL_law 950 = .ok (.iconst 2, 1) ∧ decode cL_law 951 = .ok (.iadd, 1) := by decide +kernel
theorem dL_law_945 : decode cL_law 945 = .ok (.iadd, 1) := dLg_91.1
theorem dL_law_946 : decode cL_law 946 = .ok (.iaload, 1) := dLg_91.2.1
theorem dL_law_947 : decode cL_law 947 = .ok (.aload_n 0, 1) := dLg_91.2.2.1
theorem dL_law_948 : decode cL_law 948 = .ok (.iload 4, 2) := dLg_91.2.2.2.1
theorem dL_law_950 : decode cL_law 950 = .ok (.iconst 2, 1) := dLg_91.2.2.2.2.1
theorem dL_law_951 : decode cL_law 951 = .ok (.iadd, 1) := dLg_91.2.2.2.2.2
set_option maxRecDepth 100000 in
theorem dLg_92 : decode cL_law 952 = .ok (.iaload, 1) ∧ decode cL_law 953 = .ok (.aload_n 0, 1) ∧ decode cL_law 954 = .ok (.iload 4, 2) ∧ decode cL_law 956 = .ok (.iconst 3, 1) ∧ decode cL_law 957 = .ok (.iadd, 1) ∧ decode cL_law 958 = .ok (.iaload, 1) := by decide +kernel
theorem dL_law_952 : decode cL_law 952 = .ok (.iaload, 1) := dLg_92.1
theorem dL_law_953 : decode cL_law 953 = .ok (.aload_n 0, 1) := dLg_92.2.1
theorem dL_law_954 : decode cL_law 954 = .ok (.iload 4, 2) := dLg_92.2.2.1
theorem dL_law_956 : decode cL_law 956 = .ok (.iconst 3, 1) := dLg_92.2.2.2.1
theorem dL_law_957 : decode cL_law 957 = .ok (.iadd, 1) := dLg_92.2.2.2.2.1
theorem dL_law_958 : decode cL_law 958 = .ok (.iaload, 1) := dLg_92.2.2.2.2.2
set_option maxRecDepth 100000 in
theorem dLg_93 : decode cL_law 959 = .ok (.invokevirtual 120, 3) ∧ decode cL_law 962 = .ok (.pop, 1) ∧ decode cL_law 963 = .ok (.goto 539, 3) ∧ decode cL_law 966 = .ok (.aload_n 1, 1) ∧ decode cL_law 967 = .ok (.aload_n 0, 1) ∧ decode cL_law 968 = .ok (.iload 4, 2) := by decide +kernel
theorem dL_law_959 : decode cL_law 959 = .ok (.invokevirtual 120, 3) := dLg_93.1
theorem dL_law_962 : decode cL_law 962 = .ok (.pop, 1) := dLg_93.2.1
theorem dL_law_963 : decode cL_law 963 = .ok (.goto 539, 3) := dLg_93.2.2.1
theorem dL_law_966 : decode cL_law 966 = .ok (.aload_n 1, 1) := dLg_93.2.2.2.1
theorem dL_law_967 : decode cL_law 967 = .ok (.aload_n 0, 1) := dLg_93.2.2.2.2.1
theorem dL_law_968 : decode cL_law 968 = .ok (.iload 4, 2) := dLg_93.2.2.2.2.2
set_option maxRecDepth 100000 in
theorem dLg_94 : decode cL_law 970 = .ok (.iconst 1, 1) ∧ decode cL_law 971 = .ok (.iadd, 1) ∧ decode cL_law 972 = .ok (.iaload, 1) ∧ decode cL_law 973 = .ok (.aload_n 0, 1) ∧ decode cL_law 974 = .ok (.iload 4, 2) ∧ decode cL_law 976 = .ok (.iconst 2, 1) := by decide +kernel
theorem dL_law_970 : decode cL_law 970 = .ok (.iconst 1, 1) := dLg_94.1
theorem dL_law_971 : decode cL_law 971 = .ok (.iadd, 1) := dLg_94.2.1
theorem dL_law_972 : decode cL_law 972 = .ok (.iaload, 1) := dLg_94.2.2.1
theorem dL_law_973 : decode cL_law 973 = .ok (.aload_n 0, 1) := dLg_94.2.2.2.1
theorem dL_law_974 : decode cL_law 974 = .ok (.iload 4, 2) := dLg_94.2.2.2.2.1
theorem dL_law_976 : decode cL_law 976 = .ok (.iconst 2, 1) := dLg_94.2.2.2.2.2
set_option maxRecDepth 100000 in
theorem dLg_95 : decode cL_law 977 = .ok (.iadd, 1) ∧ decode cL_law 978 = .ok (.iaload, 1) ∧ decode cL_law 979 = .ok (.invokevirtual 121, 3) ∧ decode cL_law 982 = .ok (.pop, 1) ∧ decode cL_law 983 = .ok (.aload_n 2, 1) ∧ decode cL_law 984 = .ok (.aload_n 0, 1) := by decide +kernel
theorem dL_law_977 : decode cL_law 977 = .ok (.iadd, 1) := dLg_95.1
theorem dL_law_978 : decode cL_law 978 = .ok (.iaload, 1) := dLg_95.2.1
theorem dL_law_979 : decode cL_law 979 = .ok (.invokevirtual 121, 3) := dLg_95.2.2.1
theorem dL_law_982 : decode cL_law 982 = .ok (.pop, 1) := dLg_95.2.2.2.1
theorem dL_law_983 : decode cL_law 983 = .ok (.aload_n 2, 1) := dLg_95.2.2.2.2.1
theorem dL_law_984 : decode cL_law 984 = .ok (.aload_n 0, 1) := dLg_95.2.2.2.2.2
set_option maxRecDepth 100000 in
theorem dLg_96 : decode cL_law 985 = .ok (.iload 4, 2) ∧ decode cL_law 987 = .ok (.iconst 1, 1) ∧ decode cL_law 988 = .ok (.iadd, 1) ∧ decode cL_law 989 = .ok (.iaload, 1) ∧ decode cL_law 990 = .ok (.aload_n 0, 1) ∧ decode cL_law 991 = .ok (.iload 4, 2) := by decide +kernel
theorem dL_law_985 : decode cL_law 985 = .ok (.iload 4, 2) := dLg_96.1
theorem dL_law_987 : decode cL_law 987 = .ok (.iconst 1, 1) := dLg_96.2.1
theorem dL_law_988 : decode cL_law 988 = .ok (.iadd, 1) := dLg_96.2.2.1
theorem dL_law_989 : decode cL_law 989 = .ok (.iaload, 1) := dLg_96.2.2.2.1
theorem dL_law_990 : decode cL_law 990 = .ok (.aload_n 0, 1) := dLg_96.2.2.2.2.1
theorem dL_law_991 : decode cL_law 991 = .ok (.iload 4, 2) := dLg_96.2.2.2.2.2
set_option maxRecDepth 100000 in
theorem dLg_97 : decode cL_law 993 = .ok (.iconst 2, 1) ∧ decode cL_law 994 = .ok (.iadd, 1) ∧ decode cL_law 995 = .ok (.iaload, 1) ∧ decode cL_law 996 = .ok (.invokevirtual 124, 3) ∧ decode cL_law 999 = .ok (.pop, 1) ∧ decode cL_law 1000 = .ok (.goto 502, 3) := by decide +kernel
theorem dL_law_993 : decode cL_law 993 = .ok (.iconst 2, 1) := dLg_97.1
theorem dL_law_994 : decode cL_law 994 = .ok (.iadd, 1) := dLg_97.2.1
theorem dL_law_995 : decode cL_law 995 = .ok (.iaload, 1) := dLg_97.2.2.1
theorem dL_law_996 : decode cL_law 996 = .ok (.invokevirtual 124, 3) := dLg_97.2.2.2.1
theorem dL_law_999 : decode cL_law 999 = .ok (.pop, 1) := dLg_97.2.2.2.2.1
theorem dL_law_1000 : decode cL_law 1000 = .ok (.goto 502, 3) := dLg_97.2.2.2.2.2
set_option maxRecDepth 100000 in
theorem dLg_98 : decode cL_law 1003 = .ok (.aload_n 1, 1) ∧ decode cL_law 1004 = .ok (.aload_n 0, 1) ∧ decode cL_law 1005 = .ok (.iload 4, 2) ∧ decode cL_law 1007 = .ok (.iconst 1, 1) ∧ decode cL_law 1008 = .ok (.iadd, 1) ∧ decode cL_law 1009 = .ok (.iaload, 1) := by decide +kernel
theorem dL_law_1003 : decode cL_law 1003 = .ok (.aload_n 1, 1) := dLg_98.1
theorem dL_law_1004 : decode cL_law 1004 = .ok (.aload_n 0, 1) := dLg_98.2.1
theorem dL_law_1005 : decode cL_law 1005 = .ok (.iload 4, 2) := dLg_98.2.2.1
theorem dL_law_1007 : decode cL_law 1007 = .ok (.iconst 1, 1) := dLg_98.2.2.2.1
theorem dL_law_1008 : decode cL_law 1008 = .ok (.iadd, 1) := dLg_98.2.2.2.2.1
theorem dL_law_1009 : decode cL_law 1009 = .ok (.iaload, 1) := dLg_98.2.2.2.2.2
set_option maxRecDepth 100000 in
theorem dLg_99 : decode cL_law 1010 = .ok (.invokevirtual 125, 3) ∧ decode cL_law 1013 = .ok (.pop, 1) ∧ decode cL_law 1014 = .ok (.aload_n 2, 1) ∧ decode cL_law 1015 = .ok (.aload_n 0, 1) ∧ decode cL_law 1016 = .ok (.iload 4, 2) ∧ decode cL_law 1018 = .ok (.iconst 1, 1) := by decide +kernel
theorem dL_law_1010 : decode cL_law 1010 = .ok (.invokevirtual 125, 3) := dLg_99.1
theorem dL_law_1013 : decode cL_law 1013 = .ok (.pop, 1) := dLg_99.2.1
theorem dL_law_1014 : decode cL_law 1014 = .ok (.aload_n 2, 1) := dLg_99.2.2.1
theorem dL_law_1015 : decode cL_law 1015 = .ok (.aload_n 0, 1) := dLg_99.2.2.2.1
theorem dL_law_1016 : decode cL_law 1016 = .ok (.iload 4, 2) := dLg_99.2.2.2.2.1
theorem dL_law_1018 : decode cL_law 1018 = .ok (.iconst 1, 1) := dLg_99.2.2.2.2.2
set_option maxRecDepth 100000 in
theorem dLg_100 : decode cL_law 1019 = .ok (.iadd, 1) ∧ decode cL_law 1020 = .ok (.iaload, 1) ∧ decode cL_law 1021 = .ok (.invokevirtual 128, 3) ∧ decode cL_law 1024 = .ok (.pop, 1) ∧ decode cL_law 1025 = .ok (.goto 477, 3) ∧ decode cL_law 1028 = .ok (.aload_n 1, 1) := by decide +kernel
theorem dL_law_1019 : decode cL_law 1019 = .ok (.iadd, 1) := dLg_100.1
theorem dL_law_1020 : decode cL_law 1020 = .ok (.iaload, 1) := dLg_100.2.1
theorem dL_law_1021 : decode cL_law 1021 = .ok (.invokevirtual 128, 3) := dLg_100.2.2.1
theorem dL_law_1024 : decode cL_law 1024 = .ok (.pop, 1) := dLg_100.2.2.2.1
theorem dL_law_1025 : decode cL_law 1025 = .ok (.goto 477, 3) := dLg_100.2.2.2.2.1
theorem dL_law_1028 : decode cL_law 1028 = .ok (.aload_n 1, 1) := dLg_100.2.2.2.2.2
set_option maxRecDepth 100000 in
theorem dLg_101 : decode cL_law 1029 = .ok (.invokevirtual 129, 3) ∧ decode cL_law 1032 = .ok (.pop, 1) ∧ decode cL_law 1033 = .ok (.aload_n 2, 1) ∧ decode cL_law 1034 = .ok (.invokevirtual 132, 3) ∧ decode cL_law 1037 = .ok (.pop, 1) ∧ decode cL_law 1038 = .ok (.goto 464, 3) := by decide +kernel
theorem dL_law_1029 : decode cL_law 1029 = .ok (.invokevirtual 129, 3) := dLg_101.1
theorem dL_law_1032 : decode cL_law 1032 = .ok (.pop, 1) := dLg_101.2.1
theorem dL_law_1033 : decode cL_law 1033 = .ok (.aload_n 2, 1) := dLg_101.2.2.1
theorem dL_law_1034 : decode cL_law 1034 = .ok (.invokevirtual 132, 3) := dLg_101.2.2.2.1
theorem dL_law_1037 : decode cL_law 1037 = .ok (.pop, 1) := dLg_101.2.2.2.2.1
theorem dL_law_1038 : decode cL_law 1038 = .ok (.goto 464, 3) := dLg_101.2.2.2.2.2
set_option maxRecDepth 100000 in
theorem dLg_102 : decode cL_law 1041 = .ok (.aload_n 1, 1) ∧ decode cL_law 1042 = .ok (.aload_n 0, 1) ∧ decode cL_law 1043 = .ok (.iload 4, 2) ∧ decode cL_law 1045 = .ok (.iconst 1, 1) ∧ decode cL_law 1046 = .ok (.iadd, 1) ∧ decode cL_law 1047 = .ok (.iaload, 1) := by decide +kernel
theorem dL_law_1041 : decode cL_law 1041 = .ok (.aload_n 1, 1) := dLg_102.1
theorem dL_law_1042 : decode cL_law 1042 = .ok (.aload_n 0, 1) := dLg_102.2.1
theorem dL_law_1043 : decode cL_law 1043 = .ok (.iload 4, 2) := dLg_102.2.2.1
theorem dL_law_1045 : decode cL_law 1045 = .ok (.iconst 1, 1) := dLg_102.2.2.2.1
theorem dL_law_1046 : decode cL_law 1046 = .ok (.iadd, 1) := dLg_102.2.2.2.2.1
theorem dL_law_1047 : decode cL_law 1047 = .ok (.iaload, 1) := dLg_102.2.2.2.2.2
set_option maxRecDepth 100000 in
theorem dLg_103 : decode cL_law 1048 = .ok (.aload_n 0, 1) ∧ decode cL_law 1049 = .ok (.iload 4, 2) ∧ decode cL_law 1051 = .ok (.iconst 2, 1) ∧ decode cL_law 1052 = .ok (.iadd, 1) ∧ decode cL_law 1053 = .ok (.iaload, 1) ∧ decode cL_law 1054 = .ok (.aload_n 0, 1) := by decide +kernel
theorem dL_law_1048 : decode cL_law 1048 = .ok (.aload_n 0, 1) := dLg_103.1
theorem dL_law_1049 : decode cL_law 1049 = .ok (.iload 4, 2) := dLg_103.2.1
theorem dL_law_1051 : decode cL_law 1051 = .ok (.iconst 2, 1) := dLg_103.2.2.1
theorem dL_law_1052 : decode cL_law 1052 = .ok (.iadd, 1) := dLg_103.2.2.2.1
theorem dL_law_1053 : decode cL_law 1053 = .ok (.iaload, 1) := dLg_103.2.2.2.2.1
theorem dL_law_1054 : decode cL_law 1054 = .ok (.aload_n 0, 1) := dLg_103.2.2.2.2.2
set_option maxRecDepth 100000 in
theorem dLg_104 : decode cL_law 1055 = .ok (.iload 4, 2) ∧ decode cL_law 1057 = .ok (.iconst 3, 1) ∧ decode cL_law 1058 = .ok (.iadd, 1) ∧ decode cL_law 1059 = .ok (.iaload, 1) ∧ decode cL_law 1060 = .ok (.aload_n 0, 1) ∧ decode cL_law 1061 = .ok (.iload 4, 2) := by decide +kernel
theorem dL_law_1055 : decode cL_law 1055 = .ok (.iload 4, 2) := dLg_104.1
theorem dL_law_1057 : decode cL_law 1057 = .ok (.iconst 3, 1) := dLg_104.2.1
theorem dL_law_1058 : decode cL_law 1058 = .ok (.iadd, 1) := dLg_104.2.2.1
theorem dL_law_1059 : decode cL_law 1059 = .ok (.iaload, 1) := dLg_104.2.2.2.1
theorem dL_law_1060 : decode cL_law 1060 = .ok (.aload_n 0, 1) := dLg_104.2.2.2.2.1
theorem dL_law_1061 : decode cL_law 1061 = .ok (.iload 4, 2) := dLg_104.2.2.2.2.2
set_option maxRecDepth 100000 in
theorem dLg_105 : decode cL_law 1063 = .ok (.iconst 4, 1) ∧ decode cL_law 1064 = .ok (.iadd, 1) ∧ decode cL_law 1065 = .ok (.iaload, 1) ∧ decode cL_law 1066 = .ok (.ifCond .eq 7, 3) ∧ decode cL_law 1069 = .ok (.iconst 1, 1) ∧ decode cL_law 1070 = .ok (.goto 4, 3) := by decide +kernel
theorem dL_law_1063 : decode cL_law 1063 = .ok (.iconst 4, 1) := dLg_105.1
theorem dL_law_1064 : decode cL_law 1064 = .ok (.iadd, 1) := dLg_105.2.1
theorem dL_law_1065 : decode cL_law 1065 = .ok (.iaload, 1) := dLg_105.2.2.1
theorem dL_law_1066 : decode cL_law 1066 = .ok (.ifCond .eq 7, 3) := dLg_105.2.2.2.1
theorem dL_law_1069 : decode cL_law 1069 = .ok (.iconst 1, 1) := dLg_105.2.2.2.2.1
theorem dL_law_1070 : decode cL_law 1070 = .ok (.goto 4, 3) := dLg_105.2.2.2.2.2
set_option maxRecDepth 100000 in
theorem dLg_106 : decode cL_law 1073 = .ok (.iconst 0, 1) ∧ decode cL_law 1074 = .ok (.invokevirtual 133, 3) ∧ decode cL_law 1077 = .ok (.pop, 1) ∧ decode cL_law 1078 = .ok (.aload_n 2, 1) ∧ decode cL_law 1079 = .ok (.aload_n 0, 1) ∧ decode cL_law 1080 = .ok (.iload 4, 2) := by decide +kernel
theorem dL_law_1073 : decode cL_law 1073 = .ok (.iconst 0, 1) := dLg_106.1
theorem dL_law_1074 : decode cL_law 1074 = .ok (.invokevirtual 133, 3) := dLg_106.2.1
theorem dL_law_1077 : decode cL_law 1077 = .ok (.pop, 1) := dLg_106.2.2.1
theorem dL_law_1078 : decode cL_law 1078 = .ok (.aload_n 2, 1) := dLg_106.2.2.2.1
theorem dL_law_1079 : decode cL_law 1079 = .ok (.aload_n 0, 1) := dLg_106.2.2.2.2.1
theorem dL_law_1080 : decode cL_law 1080 = .ok (.iload 4, 2) := dLg_106.2.2.2.2.2
set_option maxRecDepth 100000 in
theorem dLg_107 : decode cL_law 1082 = .ok (.iconst 1, 1) ∧ decode cL_law 1083 = .ok (.iadd, 1) ∧ decode cL_law 1084 = .ok (.iaload, 1) ∧ decode cL_law 1085 = .ok (.aload_n 0, 1) ∧ decode cL_law 1086 = .ok (.iload 4, 2) ∧ decode cL_law 1088 = .ok (.iconst 2, 1) := by decide +kernel
theorem dL_law_1082 : decode cL_law 1082 = .ok (.iconst 1, 1) := dLg_107.1
theorem dL_law_1083 : decode cL_law 1083 = .ok (.iadd, 1) := dLg_107.2.1
theorem dL_law_1084 : decode cL_law 1084 = .ok (.iaload, 1) := dLg_107.2.2.1
theorem dL_law_1085 : decode cL_law 1085 = .ok (.aload_n 0, 1) := dLg_107.2.2.2.1
theorem dL_law_1086 : decode cL_law 1086 = .ok (.iload 4, 2) := dLg_107.2.2.2.2.1
theorem dL_law_1088 : decode cL_law 1088 = .ok (.iconst 2, 1) := dLg_107.2.2.2.2.2
set_option maxRecDepth 100000 in
theorem dLg_108 : decode cL_law 1089 = .ok (.iadd, 1) ∧ decode cL_law 1090 = .ok (.iaload, 1) ∧ decode cL_law 1091 = .ok (.aload_n 0, 1) ∧ decode cL_law 1092 = .ok (.iload 4, 2) ∧ decode cL_law 1094 = .ok (.iconst 3, 1) ∧ decode cL_law 1095 = .ok (.iadd, 1) := by decide +kernel
theorem dL_law_1089 : decode cL_law 1089 = .ok (.iadd, 1) := dLg_108.1
theorem dL_law_1090 : decode cL_law 1090 = .ok (.iaload, 1) := dLg_108.2.1
theorem dL_law_1091 : decode cL_law 1091 = .ok (.aload_n 0, 1) := dLg_108.2.2.1
theorem dL_law_1092 : decode cL_law 1092 = .ok (.iload 4, 2) := dLg_108.2.2.2.1
theorem dL_law_1094 : decode cL_law 1094 = .ok (.iconst 3, 1) := dLg_108.2.2.2.2.1
theorem dL_law_1095 : decode cL_law 1095 = .ok (.iadd, 1) := dLg_108.2.2.2.2.2
set_option maxRecDepth 100000 in
theorem dLg_109 : decode cL_law 1096 = .ok (.iaload, 1) ∧ decode cL_law 1097 = .ok (.aload_n 0, 1) ∧ decode cL_law 1098 = .ok (.iload 4, 2) ∧ decode cL_law 1100 = .ok (.iconst 4, 1) ∧ decode cL_law 1101 = .ok (.iadd, 1) ∧ decode cL_law 1102 = .ok (.iaload, 1) := by decide +kernel
theorem dL_law_1096 : decode cL_law 1096 = .ok (.iaload, 1) := dLg_109.1
theorem dL_law_1097 : decode cL_law 1097 = .ok (.aload_n 0, 1) := dLg_109.2.1
theorem dL_law_1098 : decode cL_law 1098 = .ok (.iload 4, 2) := dLg_109.2.2.1
theorem dL_law_1100 : decode cL_law 1100 = .ok (.iconst 4, 1) := dLg_109.2.2.2.1
theorem dL_law_1101 : decode cL_law 1101 = .ok (.iadd, 1) := dLg_109.2.2.2.2.1
theorem dL_law_1102 : decode cL_law 1102 = .ok (.iaload, 1) := dLg_109.2.2.2.2.2
set_option maxRecDepth 100000 in
theorem dLg_110 : decode cL_law 1103 = .ok (.ifCond .eq 7, 3) ∧ decode cL_law 1106 = .ok (.iconst 1, 1) ∧ decode cL_law 1107 = .ok (.goto 4, 3) ∧ decode cL_law 1110 = .ok (.iconst 0, 1) ∧ decode cL_law 1111 = .ok (.invokevirtual 137, 3) ∧ decode cL_law 1114 = .ok (.pop, 1) := by decide +kernel
theorem dL_law_1103 : decode cL_law 1103 = .ok (.ifCond .eq 7, 3) := dLg_110.1
theorem dL_law_1106 : decode cL_law 1106 = .ok (.iconst 1, 1) := dLg_110.2.1
theorem dL_law_1107 : decode cL_law 1107 = .ok (.goto 4, 3) := dLg_110.2.2.1
theorem dL_law_1110 : decode cL_law 1110 = .ok (.iconst 0, 1) := dLg_110.2.2.2.1
theorem dL_law_1111 : decode cL_law 1111 = .ok (.invokevirtual 137, 3) := dLg_110.2.2.2.2.1
theorem dL_law_1114 : decode cL_law 1114 = .ok (.pop, 1) := dLg_110.2.2.2.2.2
set_option maxRecDepth 100000 in
theorem dLg_111 : decode cL_law 1115 = .ok (.goto 387, 3) ∧ decode cL_law 1118 = .ok (.aload_n 1, 1) ∧ decode cL_law 1119 = .ok (.aload_n 0, 1) ∧ decode cL_law 1120 = .ok (.iload 4, 2) ∧ decode cL_law 1122 = .ok (.iconst 1, 1) ∧ decode cL_law 1123 = .ok (.iadd, 1) := by decide +kernel
theorem dL_law_1115 : decode cL_law 1115 = .ok (.goto 387, 3) := dLg_111.1
theorem dL_law_1118 : decode cL_law 1118 = .ok (.aload_n 1, 1) := dLg_111.2.1
theorem dL_law_1119 : decode cL_law 1119 = .ok (.aload_n 0, 1) := dLg_111.2.2.1
theorem dL_law_1120 : decode cL_law 1120 = .ok (.iload 4, 2) := dLg_111.2.2.2.1
theorem dL_law_1122 : decode cL_law 1122 = .ok (.iconst 1, 1) := dLg_111.2.2.2.2.1
theorem dL_law_1123 : decode cL_law 1123 = .ok (.iadd, 1) := dLg_111.2.2.2.2.2
set_option maxRecDepth 100000 in
theorem dLg_112 : decode cL_law 1124 = .ok (.iaload, 1) ∧ decode cL_law 1125 = .ok (.aload_n 0, 1) ∧ decode cL_law 1126 = .ok (.iload 4, 2) ∧ decode cL_law 1128 = .ok (.iconst 2, 1) ∧ decode cL_law 1129 = .ok (.iadd, 1) ∧ decode cL_law 1130 = .ok (.iaload, 1) := by decide +kernel
theorem dL_law_1124 : decode cL_law 1124 = .ok (.iaload, 1) := dLg_112.1
theorem dL_law_1125 : decode cL_law 1125 = .ok (.aload_n 0, 1) := dLg_112.2.1
theorem dL_law_1126 : decode cL_law 1126 = .ok (.iload 4, 2) := dLg_112.2.2.1
theorem dL_law_1128 : decode cL_law 1128 = .ok (.iconst 2, 1) := dLg_112.2.2.2.1
theorem dL_law_1129 : decode cL_law 1129 = .ok (.iadd, 1) := dLg_112.2.2.2.2.1
theorem dL_law_1130 : decode cL_law 1130 = .ok (.iaload, 1) := dLg_112.2.2.2.2.2
set_option maxRecDepth 100000 in
theorem dLg_113 : decode cL_law 1131 = .ok (.invokevirtual 138, 3) ∧ decode cL_law 1134 = .ok (.pop, 1) ∧ decode cL_law 1135 = .ok (.aload_n 2, 1) ∧ decode cL_law 1136 = .ok (.aload_n 0, 1) ∧ decode cL_law 1137 = .ok (.iload 4, 2) ∧ decode cL_law 1139 = .ok (.iconst 1, 1) := by decide +kernel
theorem dL_law_1131 : decode cL_law 1131 = .ok (.invokevirtual 138, 3) := dLg_113.1
theorem dL_law_1134 : decode cL_law 1134 = .ok (.pop, 1) := dLg_113.2.1
theorem dL_law_1135 : decode cL_law 1135 = .ok (.aload_n 2, 1) := dLg_113.2.2.1
theorem dL_law_1136 : decode cL_law 1136 = .ok (.aload_n 0, 1) := dLg_113.2.2.2.1
theorem dL_law_1137 : decode cL_law 1137 = .ok (.iload 4, 2) := dLg_113.2.2.2.2.1
theorem dL_law_1139 : decode cL_law 1139 = .ok (.iconst 1, 1) := dLg_113.2.2.2.2.2
set_option maxRecDepth 100000 in
theorem dLg_114 : decode cL_law 1140 = .ok (.iadd, 1) ∧ decode cL_law 1141 = .ok (.iaload, 1) ∧ decode cL_law 1142 = .ok (.aload_n 0, 1) ∧ decode cL_law 1143 = .ok (.iload 4, 2) ∧ decode cL_law 1145 = .ok (.iconst 2, 1) ∧ decode cL_law 1146 = .ok (.iadd, 1) := by decide +kernel
theorem dL_law_1140 : decode cL_law 1140 = .ok (.iadd, 1) := dLg_114.1
theorem dL_law_1141 : decode cL_law 1141 = .ok (.iaload, 1) := dLg_114.2.1
theorem dL_law_1142 : decode cL_law 1142 = .ok (.aload_n 0, 1) := dLg_114.2.2.1
theorem dL_law_1143 : decode cL_law 1143 = .ok (.iload 4, 2) := dLg_114.2.2.2.1
theorem dL_law_1145 : decode cL_law 1145 = .ok (.iconst 2, 1) := dLg_114.2.2.2.2.1
theorem dL_law_1146 : decode cL_law 1146 = .ok (.iadd, 1) := dLg_114.2.2.2.2.2
set_option maxRecDepth 100000 in
theorem dLg_115 : decode cL_law 1147 = .ok (.iaload, 1) ∧ decode cL_law 1148 = .ok (.invokevirtual 141, 3) ∧ decode cL_law 1151 = .ok (.pop, 1) ∧ decode cL_law 1152 = .ok (.goto 350, 3) ∧ decode cL_law 1155 = .ok (.aload_n 1, 1) ∧ decode cL_law 1156 = .ok (.aload_n 0, 1) := by decide +kernel
theorem dL_law_1147 : decode cL_law 1147 = .ok (.iaload, 1) := dLg_115.1
theorem dL_law_1148 : decode cL_law 1148 = .ok (.invokevirtual 141, 3) := dLg_115.2.1
theorem dL_law_1151 : decode cL_law 1151 = .ok (.pop, 1) := dLg_115.2.2.1
theorem dL_law_1152 : decode cL_law 1152 = .ok (.goto 350, 3) := dLg_115.2.2.2.1
theorem dL_law_1155 : decode cL_law 1155 = .ok (.aload_n 1, 1) := dLg_115.2.2.2.2.1
theorem dL_law_1156 : decode cL_law 1156 = .ok (.aload_n 0, 1) := dLg_115.2.2.2.2.2
set_option maxRecDepth 100000 in
theorem dLg_116 : decode cL_law 1157 = .ok (.iload 4, 2) ∧ decode cL_law 1159 = .ok (.iconst 1, 1) ∧ decode cL_law 1160 = .ok (.iadd, 1) ∧ decode cL_law 1161 = .ok (.iaload, 1) ∧ decode cL_law 1162 = .ok (.aload_n 0, 1) ∧ decode cL_law 1163 = .ok (.iload 4, 2) := by decide +kernel
theorem dL_law_1157 : decode cL_law 1157 = .ok (.iload 4, 2) := dLg_116.1
theorem dL_law_1159 : decode cL_law 1159 = .ok (.iconst 1, 1) := dLg_116.2.1
theorem dL_law_1160 : decode cL_law 1160 = .ok (.iadd, 1) := dLg_116.2.2.1
theorem dL_law_1161 : decode cL_law 1161 = .ok (.iaload, 1) := dLg_116.2.2.2.1
theorem dL_law_1162 : decode cL_law 1162 = .ok (.aload_n 0, 1) := dLg_116.2.2.2.2.1
theorem dL_law_1163 : decode cL_law 1163 = .ok (.iload 4, 2) := dLg_116.2.2.2.2.2
set_option maxRecDepth 100000 in
theorem dLg_117 : decode cL_law 1165 = .ok (.iconst 2, 1) ∧ decode cL_law 1166 = .ok (.iadd, 1) ∧ decode cL_law 1167 = .ok (.iaload, 1) ∧ decode cL_law 1168 = .ok (.invokevirtual 142, 3) ∧ decode cL_law 1171 = .ok (.pop, 1) ∧ decode cL_law 1172 = .ok (.aload_n 2, 1) := by decide +kernel
theorem dL_law_1165 : decode cL_law 1165 = .ok (.iconst 2, 1) := dLg_117.1
theorem dL_law_1166 : decode cL_law 1166 = .ok (.iadd, 1) := dLg_117.2.1
theorem dL_law_1167 : decode cL_law 1167 = .ok (.iaload, 1) := dLg_117.2.2.1
theorem dL_law_1168 : decode cL_law 1168 = .ok (.invokevirtual 142, 3) := dLg_117.2.2.2.1
theorem dL_law_1171 : decode cL_law 1171 = .ok (.pop, 1) := dLg_117.2.2.2.2.1
theorem dL_law_1172 : decode cL_law 1172 = .ok (.aload_n 2, 1) := dLg_117.2.2.2.2.2
set_option maxRecDepth 100000 in
theorem dLg_118 : decode cL_law 1173 = .ok (.aload_n 0, 1) ∧ decode cL_law 1174 = .ok (.iload 4, 2) ∧ decode cL_law 1176 = .ok (.iconst 1, 1) ∧ decode cL_law 1177 = .ok (.iadd, 1) ∧ decode cL_law 1178 = .ok (.iaload, 1) ∧ decode cL_law 1179 = .ok (.aload_n 0, 1) := by decide +kernel
theorem dL_law_1173 : decode cL_law 1173 = .ok (.aload_n 0, 1) := dLg_118.1
theorem dL_law_1174 : decode cL_law 1174 = .ok (.iload 4, 2) := dLg_118.2.1
theorem dL_law_1176 : decode cL_law 1176 = .ok (.iconst 1, 1) := dLg_118.2.2.1
theorem dL_law_1177 : decode cL_law 1177 = .ok (.iadd, 1) := dLg_118.2.2.2.1
theorem dL_law_1178 : decode cL_law 1178 = .ok (.iaload, 1) := dLg_118.2.2.2.2.1
theorem dL_law_1179 : decode cL_law 1179 = .ok (.aload_n 0, 1) := dLg_118.2.2.2.2.2
set_option maxRecDepth 100000 in
theorem dLg_119 : decode cL_law 1180 = .ok (.iload 4, 2) ∧ decode cL_law 1182 = .ok (.iconst 2, 1) ∧ decode cL_law 1183 = .ok (.iadd, 1) ∧ decode cL_law 1184 = .ok (.iaload, 1) ∧ decode cL_law 1185 = .ok (.invokevirtual 145, 3) ∧ decode cL_law 1188 = .ok (.pop, 1) := by decide +kernel
theorem dL_law_1180 : decode cL_law 1180 = .ok (.iload 4, 2) := dLg_119.1
theorem dL_law_1182 : decode cL_law 1182 = .ok (.iconst 2, 1) := dLg_119.2.1
theorem dL_law_1183 : decode cL_law 1183 = .ok (.iadd, 1) := dLg_119.2.2.1
theorem dL_law_1184 : decode cL_law 1184 = .ok (.iaload, 1) := dLg_119.2.2.2.1
theorem dL_law_1185 : decode cL_law 1185 = .ok (.invokevirtual 145, 3) := dLg_119.2.2.2.2.1
theorem dL_law_1188 : decode cL_law 1188 = .ok (.pop, 1) := dLg_119.2.2.2.2.2
set_option maxRecDepth 100000 in
theorem dLg_120 : decode cL_law 1189 = .ok (.goto 313, 3) ∧ decode cL_law 1192 = .ok (.aload_n 1, 1) ∧ decode cL_law 1193 = .ok (.aload_n 0, 1) ∧ decode cL_law 1194 = .ok (.iload 4, 2) ∧ decode cL_law 1196 = .ok (.iconst 1, 1) ∧ decode cL_law 1197 = .ok (.iadd, 1) := by decide +kernel
theorem dL_law_1189 : decode cL_law 1189 = .ok (.goto 313, 3) := dLg_120.1
theorem dL_law_1192 : decode cL_law 1192 = .ok (.aload_n 1, 1) := dLg_120.2.1
theorem dL_law_1193 : decode cL_law 1193 = .ok (.aload_n 0, 1) := dLg_120.2.2.1
theorem dL_law_1194 : decode cL_law 1194 = .ok (.iload 4, 2) := dLg_120.2.2.2.1
theorem dL_law_1196 : decode cL_law 1196 = .ok (.iconst 1, 1) := dLg_120.2.2.2.2.1
theorem dL_law_1197 : decode cL_law 1197 = .ok (.iadd, 1) := dLg_120.2.2.2.2.2
set_option maxRecDepth 100000 in
theorem dLg_121 : decode cL_law 1198 = .ok (.iaload, 1) ∧ decode cL_law 1199 = .ok (.aload_n 0, 1) ∧ decode cL_law 1200 = .ok (.iload 4, 2) ∧ decode cL_law 1202 = .ok (.iconst 2, 1) ∧ decode cL_law 1203 = .ok (.iadd, 1) ∧ decode cL_law 1204 = .ok (.iaload, 1) := by decide +kernel
theorem dL_law_1198 : decode cL_law 1198 = .ok (.iaload, 1) := dLg_121.1
theorem dL_law_1199 : decode cL_law 1199 = .ok (.aload_n 0, 1) := dLg_121.2.1
theorem dL_law_1200 : decode cL_law 1200 = .ok (.iload 4, 2) := dLg_121.2.2.1
theorem dL_law_1202 : decode cL_law 1202 = .ok (.iconst 2, 1) := dLg_121.2.2.2.1
theorem dL_law_1203 : decode cL_law 1203 = .ok (.iadd, 1) := dLg_121.2.2.2.2.1
theorem dL_law_1204 : decode cL_law 1204 = .ok (.iaload, 1) := dLg_121.2.2.2.2.2
set_option maxRecDepth 100000 in
theorem dLg_122 : decode cL_law 1205 = .ok (.aload_n 0, 1) ∧ decode cL_law 1206 = .ok (.iload 4, 2) ∧ decode cL_law 1208 = .ok (.iconst 3, 1) ∧ decode cL_law 1209 = .ok (.iadd, 1) ∧ decode cL_law 1210 = .ok (.iaload, 1) ∧ decode cL_law 1211 = .ok (.invokevirtual 146, 3) := by decide +kernel
theorem dL_law_1205 : decode cL_law 1205 = .ok (.aload_n 0, 1) := dLg_122.1
theorem dL_law_1206 : decode cL_law 1206 = .ok (.iload 4, 2) := dLg_122.2.1
theorem dL_law_1208 : decode cL_law 1208 = .ok (.iconst 3, 1) := dLg_122.2.2.1
theorem dL_law_1209 : decode cL_law 1209 = .ok (.iadd, 1) := dLg_122.2.2.2.1
theorem dL_law_1210 : decode cL_law 1210 = .ok (.iaload, 1) := dLg_122.2.2.2.2.1
theorem dL_law_1211 : decode cL_law 1211 = .ok (.invokevirtual 146, 3) := dLg_122.2.2.2.2.2
set_option maxRecDepth 100000 in
theorem dLg_123 : decode cL_law 1214 = .ok (.pop, 1) ∧ decode cL_law 1215 = .ok (.aload_n 2, 1) ∧ decode cL_law 1216 = .ok (.aload_n 0, 1) ∧ decode cL_law 1217 = .ok (.iload 4, 2) ∧ decode cL_law 1219 = .ok (.iconst 1, 1) ∧ decode cL_law 1220 = .ok (.iadd, 1) := by decide +kernel
theorem dL_law_1214 : decode cL_law 1214 = .ok (.pop, 1) := dLg_123.1
theorem dL_law_1215 : decode cL_law 1215 = .ok (.aload_n 2, 1) := dLg_123.2.1
theorem dL_law_1216 : decode cL_law 1216 = .ok (.aload_n 0, 1) := dLg_123.2.2.1
theorem dL_law_1217 : decode cL_law 1217 = .ok (.iload 4, 2) := dLg_123.2.2.2.1
theorem dL_law_1219 : decode cL_law 1219 = .ok (.iconst 1, 1) := dLg_123.2.2.2.2.1
theorem dL_law_1220 : decode cL_law 1220 = .ok (.iadd, 1) := dLg_123.2.2.2.2.2
set_option maxRecDepth 100000 in
theorem dLg_124 : decode cL_law 1221 = .ok (.iaload, 1) ∧ decode cL_law 1222 = .ok (.aload_n 0, 1) ∧ decode cL_law 1223 = .ok (.iload 4, 2) ∧ decode cL_law 1225 = .ok (.iconst 2, 1) ∧ decode cL_law 1226 = .ok (.iadd, 1) ∧ decode cL_law 1227 = .ok (.iaload, 1) := by decide +kernel
theorem dL_law_1221 : decode cL_law 1221 = .ok (.iaload, 1) := dLg_124.1
theorem dL_law_1222 : decode cL_law 1222 = .ok (.aload_n 0, 1) := dLg_124.2.1
theorem dL_law_1223 : decode cL_law 1223 = .ok (.iload 4, 2) := dLg_124.2.2.1
theorem dL_law_1225 : decode cL_law 1225 = .ok (.iconst 2, 1) := dLg_124.2.2.2.1
theorem dL_law_1226 : decode cL_law 1226 = .ok (.iadd, 1) := dLg_124.2.2.2.2.1
theorem dL_law_1227 : decode cL_law 1227 = .ok (.iaload, 1) := dLg_124.2.2.2.2.2
set_option maxRecDepth 100000 in
theorem dLg_125 : decode cL_law 1228 = .ok (.aload_n 0, 1) ∧ decode cL_law 1229 = .ok (.iload 4, 2) ∧ decode cL_law 1231 = .ok (.iconst 3, 1) ∧ decode cL_law 1232 = .ok (.iadd, 1) ∧ decode cL_law 1233 = .ok (.iaload, 1) ∧ decode cL_law 1234 = .ok (.invokevirtual 149, 3) := by decide +kernel
theorem dL_law_1228 : decode cL_law 1228 = .ok (.aload_n 0, 1) := dLg_125.1
theorem dL_law_1229 : decode cL_law 1229 = .ok (.iload 4, 2) := dLg_125.2.1
theorem dL_law_1231 : decode cL_law 1231 = .ok (.iconst 3, 1) := dLg_125.2.2.1
theorem dL_law_1232 : decode cL_law 1232 = .ok (.iadd, 1) := dLg_125.2.2.2.1
theorem dL_law_1233 : decode cL_law 1233 = .ok (.iaload, 1) := dLg_125.2.2.2.2.1
theorem dL_law_1234 : decode cL_law 1234 = .ok (.invokevirtual 149, 3) := dLg_125.2.2.2.2.2
set_option maxRecDepth 100000 in
theorem dLg_126 : decode cL_law 1237 = .ok (.pop, 1) ∧ decode cL_law 1238 = .ok (.goto 264, 3) ∧ decode cL_law 1241 = .ok (.aload_n 1, 1) ∧ decode cL_law 1242 = .ok (.aload_n 0, 1) ∧ decode cL_law 1243 = .ok (.iload 4, 2) ∧ decode cL_law 1245 = .ok (.iconst 1, 1) := by decide +kernel
theorem dL_law_1237 : decode cL_law 1237 = .ok (.pop, 1) := dLg_126.1
theorem dL_law_1238 : decode cL_law 1238 = .ok (.goto 264, 3) := dLg_126.2.1
theorem dL_law_1241 : decode cL_law 1241 = .ok (.aload_n 1, 1) := dLg_126.2.2.1
theorem dL_law_1242 : decode cL_law 1242 = .ok (.aload_n 0, 1) := dLg_126.2.2.2.1
theorem dL_law_1243 : decode cL_law 1243 = .ok (.iload 4, 2) := dLg_126.2.2.2.2.1
theorem dL_law_1245 : decode cL_law 1245 = .ok (.iconst 1, 1) := dLg_126.2.2.2.2.2
set_option maxRecDepth 100000 in
theorem dLg_127 : decode cL_law 1246 = .ok (.iadd, 1) ∧ decode cL_law 1247 = .ok (.iaload, 1) ∧ decode cL_law 1248 = .ok (.invokevirtual 150, 3) ∧ decode cL_law 1251 = .ok (.pop, 1) ∧ decode cL_law 1252 = .ok (.aload_n 2, 1) ∧ decode cL_law 1253 = .ok (.aload_n 0, 1) := by decide +kernel
theorem dL_law_1246 : decode cL_law 1246 = .ok (.iadd, 1) := dLg_127.1
theorem dL_law_1247 : decode cL_law 1247 = .ok (.iaload, 1) := dLg_127.2.1
theorem dL_law_1248 : decode cL_law 1248 = .ok (.invokevirtual 150, 3) := dLg_127.2.2.1
theorem dL_law_1251 : decode cL_law 1251 = .ok (.pop, 1) := dLg_127.2.2.2.1
theorem dL_law_1252 : decode cL_law 1252 = .ok (.aload_n 2, 1) := dLg_127.2.2.2.2.1
theorem dL_law_1253 : decode cL_law 1253 = .ok (.aload_n 0, 1) := dLg_127.2.2.2.2.2
set_option maxRecDepth 100000 in
theorem dLg_128 : decode cL_law 1254 = .ok (.iload 4, 2) ∧ decode cL_law 1256 = .ok (.iconst 1, 1) ∧ decode cL_law 1257 = .ok (.iadd, 1) ∧ decode cL_law 1258 = .ok (.iaload, 1) ∧ decode cL_law 1259 = .ok (.invokevirtual 153, 3) ∧ decode cL_law 1262 = .ok (.pop, 1) := by decide +kernel
theorem dL_law_1254 : decode cL_law 1254 = .ok (.iload 4, 2) := dLg_128.1
theorem dL_law_1256 : decode cL_law 1256 = .ok (.iconst 1, 1) := dLg_128.2.1
theorem dL_law_1257 : decode cL_law 1257 = .ok (.iadd, 1) := dLg_128.2.2.1
theorem dL_law_1258 : decode cL_law 1258 = .ok (.iaload, 1) := dLg_128.2.2.2.1
theorem dL_law_1259 : decode cL_law 1259 = .ok (.invokevirtual 153, 3) := dLg_128.2.2.2.2.1
theorem dL_law_1262 : decode cL_law 1262 = .ok (.pop, 1) := dLg_128.2.2.2.2.2
set_option maxRecDepth 100000 in
theorem dLg_129 : decode cL_law 1263 = .ok (.goto 239, 3) ∧ decode cL_law 1266 = .ok (.aload_n 1, 1) ∧ decode cL_law 1267 = .ok (.aload_n 0, 1) ∧ decode cL_law 1268 = .ok (.iload 4, 2) ∧ decode cL_law 1270 = .ok (.iconst 1, 1) ∧ decode cL_law 1271 = .ok (.iadd, 1) := by decide +kernel
theorem dL_law_1263 : decode cL_law 1263 = .ok (.goto 239, 3) := dLg_129.1
theorem dL_law_1266 : decode cL_law 1266 = .ok (.aload_n 1, 1) := dLg_129.2.1
theorem dL_law_1267 : decode cL_law 1267 = .ok (.aload_n 0, 1) := dLg_129.2.2.1
theorem dL_law_1268 : decode cL_law 1268 = .ok (.iload 4, 2) := dLg_129.2.2.2.1
theorem dL_law_1270 : decode cL_law 1270 = .ok (.iconst 1, 1) := dLg_129.2.2.2.2.1
theorem dL_law_1271 : decode cL_law 1271 = .ok (.iadd, 1) := dLg_129.2.2.2.2.2
set_option maxRecDepth 100000 in
theorem dLg_130 : decode cL_law 1272 = .ok (.iaload, 1) ∧ decode cL_law 1273 = .ok (.invokevirtual 154, 3) ∧ decode cL_law 1276 = .ok (.pop, 1) ∧ decode cL_law 1277 = .ok (.aload_n 2, 1) ∧ decode cL_law 1278 = .ok (.aload_n 0, 1) ∧ decode cL_law 1279 = .ok (.iload 4, 2) := by decide +kernel
theorem dL_law_1272 : decode cL_law 1272 = .ok (.iaload, 1) := dLg_130.1
theorem dL_law_1273 : decode cL_law 1273 = .ok (.invokevirtual 154, 3) := dLg_130.2.1
theorem dL_law_1276 : decode cL_law 1276 = .ok (.pop, 1) := dLg_130.2.2.1
theorem dL_law_1277 : decode cL_law 1277 = .ok (.aload_n 2, 1) := dLg_130.2.2.2.1
theorem dL_law_1278 : decode cL_law 1278 = .ok (.aload_n 0, 1) := dLg_130.2.2.2.2.1
theorem dL_law_1279 : decode cL_law 1279 = .ok (.iload 4, 2) := dLg_130.2.2.2.2.2
set_option maxRecDepth 100000 in
theorem dLg_131 : decode cL_law 1281 = .ok (.iconst 1, 1) ∧ decode cL_law 1282 = .ok (.iadd, 1) ∧ decode cL_law 1283 = .ok (.iaload, 1) ∧ decode cL_law 1284 = .ok (.invokevirtual 157, 3) ∧ decode cL_law 1287 = .ok (.pop, 1) ∧ decode cL_law 1288 = .ok (.goto 214, 3) := by decide +kernel
theorem dL_law_1281 : decode cL_law 1281 = .ok (.iconst 1, 1) := dLg_131.1
theorem dL_law_1282 : decode cL_law 1282 = .ok (.iadd, 1) := dLg_131.2.1
theorem dL_law_1283 : decode cL_law 1283 = .ok (.iaload, 1) := dLg_131.2.2.1
theorem dL_law_1284 : decode cL_law 1284 = .ok (.invokevirtual 157, 3) := dLg_131.2.2.2.1
theorem dL_law_1287 : decode cL_law 1287 = .ok (.pop, 1) := dLg_131.2.2.2.2.1
theorem dL_law_1288 : decode cL_law 1288 = .ok (.goto 214, 3) := dLg_131.2.2.2.2.2
set_option maxRecDepth 100000 in
theorem dLg_132 : decode cL_law 1291 = .ok (.aload_n 1, 1) ∧ decode cL_law 1292 = .ok (.aload_n 0, 1) ∧ decode cL_law 1293 = .ok (.iload 4, 2) ∧ decode cL_law 1295 = .ok (.iconst 1, 1) ∧ decode cL_law 1296 = .ok (.iadd, 1) ∧ decode cL_law 1297 = .ok (.iaload, 1) := by decide +kernel
theorem dL_law_1291 : decode cL_law 1291 = .ok (.aload_n 1, 1) := dLg_132.1
theorem dL_law_1292 : decode cL_law 1292 = .ok (.aload_n 0, 1) := dLg_132.2.1
theorem dL_law_1293 : decode cL_law 1293 = .ok (.iload 4, 2) := dLg_132.2.2.1
theorem dL_law_1295 : decode cL_law 1295 = .ok (.iconst 1, 1) := dLg_132.2.2.2.1
theorem dL_law_1296 : decode cL_law 1296 = .ok (.iadd, 1) := dLg_132.2.2.2.2.1
theorem dL_law_1297 : decode cL_law 1297 = .ok (.iaload, 1) := dLg_132.2.2.2.2.2
set_option maxRecDepth 100000 in
theorem dLg_133 : decode cL_law 1298 = .ok (.aload_n 0, 1) ∧ decode cL_law 1299 = .ok (.iload 4, 2) ∧ decode cL_law 1301 = .ok (.iconst 2, 1) ∧ decode cL_law 1302 = .ok (.iadd, 1) ∧ decode cL_law 1303 = .ok (.iaload, 1) ∧ decode cL_law 1304 = .ok (.aload_n 0, 1) := by decide +kernel
theorem dL_law_1298 : decode cL_law 1298 = .ok (.aload_n 0, 1) := dLg_133.1
theorem dL_law_1299 : decode cL_law 1299 = .ok (.iload 4, 2) := dLg_133.2.1
theorem dL_law_1301 : decode cL_law 1301 = .ok (.iconst 2, 1) := dLg_133.2.2.1
theorem dL_law_1302 : decode cL_law 1302 = .ok (.iadd, 1) := dLg_133.2.2.2.1
theorem dL_law_1303 : decode cL_law 1303 = .ok (.iaload, 1) := dLg_133.2.2.2.2.1
theorem dL_law_1304 : decode cL_law 1304 = .ok (.aload_n 0, 1) := dLg_133.2.2.2.2.2
set_option maxRecDepth 100000 in
theorem dLg_134 : decode cL_law 1305 = .ok (.iload 4, 2) ∧ decode cL_law 1307 = .ok (.iconst 3, 1) ∧ decode cL_law 1308 = .ok (.iadd, 1) ∧ decode cL_law 1309 = .ok (.iaload, 1) ∧ decode cL_law 1310 = .ok (.aload_n 0, 1) ∧ decode cL_law 1311 = .ok (.iload 4, 2) := by decide +kernel
theorem dL_law_1305 : decode cL_law 1305 = .ok (.iload 4, 2) := dLg_134.1
theorem dL_law_1307 : decode cL_law 1307 = .ok (.iconst 3, 1) := dLg_134.2.1
theorem dL_law_1308 : decode cL_law 1308 = .ok (.iadd, 1) := dLg_134.2.2.1
theorem dL_law_1309 : decode cL_law 1309 = .ok (.iaload, 1) := dLg_134.2.2.2.1
theorem dL_law_1310 : decode cL_law 1310 = .ok (.aload_n 0, 1) := dLg_134.2.2.2.2.1
theorem dL_law_1311 : decode cL_law 1311 = .ok (.iload 4, 2) := dLg_134.2.2.2.2.2
set_option maxRecDepth 100000 in
theorem dLg_135 : decode cL_law 1313 = .ok (.iconst 4, 1) ∧ decode cL_law 1314 = .ok (.iadd, 1) ∧ decode cL_law 1315 = .ok (.iaload, 1) ∧ decode cL_law 1316 = .ok (.aload_n 0, 1) ∧ decode cL_law 1317 = .ok (.iload 4, 2) ∧ decode cL_law 1319 = .ok (.iconst 5, 1) := by decide +kernel
theorem dL_law_1313 : decode cL_law 1313 = .ok (.iconst 4, 1) := dLg_135.1
theorem dL_law_1314 : decode cL_law 1314 = .ok (.iadd, 1) := dLg_135.2.1
theorem dL_law_1315 : decode cL_law 1315 = .ok (.iaload, 1) := dLg_135.2.2.1
theorem dL_law_1316 : decode cL_law 1316 = .ok (.aload_n 0, 1) := dLg_135.2.2.2.1
theorem dL_law_1317 : decode cL_law 1317 = .ok (.iload 4, 2) := dLg_135.2.2.2.2.1
theorem dL_law_1319 : decode cL_law 1319 = .ok (.iconst 5, 1) := dLg_135.2.2.2.2.2
set_option maxRecDepth 100000 in
theorem dLg_136 : decode cL_law 1320 = .ok (.iadd, 1) ∧ decode cL_law 1321 = .ok (.iaload, 1) ∧ decode cL_law 1322 = .ok (.invokevirtual 158, 3) ∧ decode cL_law 1325 = .ok (.pop, 1) ∧ decode cL_law 1326 = .ok (.aload_n 2, 1) ∧ decode cL_law 1327 = .ok (.aload_n 0, 1) := by decide +kernel
theorem dL_law_1320 : decode cL_law 1320 = .ok (.iadd, 1) := dLg_136.1
theorem dL_law_1321 : decode cL_law 1321 = .ok (.iaload, 1) := dLg_136.2.1
theorem dL_law_1322 : decode cL_law 1322 = .ok (.invokevirtual 158, 3) := dLg_136.2.2.1
theorem dL_law_1325 : decode cL_law 1325 = .ok (.pop, 1) := dLg_136.2.2.2.1
theorem dL_law_1326 : decode cL_law 1326 = .ok (.aload_n 2, 1) := dLg_136.2.2.2.2.1
theorem dL_law_1327 : decode cL_law 1327 = .ok (.aload_n 0, 1) := dLg_136.2.2.2.2.2
set_option maxRecDepth 100000 in
theorem dLg_137 : decode cL_law 1328 = .ok (.iload 4, 2) ∧ decode cL_law 1330 = .ok (.iconst 1, 1) ∧ decode cL_law 1331 = .ok (.iadd, 1) ∧ decode cL_law 1332 = .ok (.iaload, 1) ∧ decode cL_law 1333 = .ok (.aload_n 0, 1) ∧ decode cL_law 1334 = .ok (.iload 4, 2) := by decide +kernel
theorem dL_law_1328 : decode cL_law 1328 = .ok (.iload 4, 2) := dLg_137.1
theorem dL_law_1330 : decode cL_law 1330 = .ok (.iconst 1, 1) := dLg_137.2.1
theorem dL_law_1331 : decode cL_law 1331 = .ok (.iadd, 1) := dLg_137.2.2.1
theorem dL_law_1332 : decode cL_law 1332 = .ok (.iaload, 1) := dLg_137.2.2.2.1
theorem dL_law_1333 : decode cL_law 1333 = .ok (.aload_n 0, 1) := dLg_137.2.2.2.2.1
theorem dL_law_1334 : decode cL_law 1334 = .ok (.iload 4, 2) := dLg_137.2.2.2.2.2
set_option maxRecDepth 100000 in
theorem dLg_138 : decode cL_law 1336 = .ok (.iconst 2, 1) ∧ decode cL_law 1337 = .ok (.iadd, 1) ∧ decode cL_law 1338 = .ok (.iaload, 1) ∧ decode cL_law 1339 = .ok (.aload_n 0, 1) ∧ decode cL_law 1340 = .ok (.iload 4, 2) ∧ decode cL_law 1342 = .ok (.iconst 3, 1) := by decide +kernel
theorem dL_law_1336 : decode cL_law 1336 = .ok (.iconst 2, 1) := dLg_138.1
theorem dL_law_1337 : decode cL_law 1337 = .ok (.iadd, 1) := dLg_138.2.1
theorem dL_law_1338 : decode cL_law 1338 = .ok (.iaload, 1) := dLg_138.2.2.1
theorem dL_law_1339 : decode cL_law 1339 = .ok (.aload_n 0, 1) := dLg_138.2.2.2.1
theorem dL_law_1340 : decode cL_law 1340 = .ok (.iload 4, 2) := dLg_138.2.2.2.2.1
theorem dL_law_1342 : decode cL_law 1342 = .ok (.iconst 3, 1) := dLg_138.2.2.2.2.2
set_option maxRecDepth 100000 in
theorem dLg_139 : decode cL_law 1343 = .ok (.iadd, 1) ∧ decode cL_law 1344 = .ok (.iaload, 1) ∧ decode cL_law 1345 = .ok (.aload_n 0, 1) ∧ decode cL_law 1346 = .ok (.iload 4, 2) ∧ decode cL_law 1348 = .ok (.iconst 4, 1) ∧ decode cL_law 1349 = .ok (.iadd, 1) := by decide +kernel
theorem dL_law_1343 : decode cL_law 1343 = .ok (.iadd, 1) := dLg_139.1
theorem dL_law_1344 : decode cL_law 1344 = .ok (.iaload, 1) := dLg_139.2.1
theorem dL_law_1345 : decode cL_law 1345 = .ok (.aload_n 0, 1) := dLg_139.2.2.1
theorem dL_law_1346 : decode cL_law 1346 = .ok (.iload 4, 2) := dLg_139.2.2.2.1
theorem dL_law_1348 : decode cL_law 1348 = .ok (.iconst 4, 1) := dLg_139.2.2.2.2.1
theorem dL_law_1349 : decode cL_law 1349 = .ok (.iadd, 1) := dLg_139.2.2.2.2.2
set_option maxRecDepth 100000 in
theorem dLg_140 : decode cL_law 1350 = .ok (.iaload, 1) ∧ decode cL_law 1351 = .ok (.aload_n 0, 1) ∧ decode cL_law 1352 = .ok (.iload 4, 2) ∧ decode cL_law 1354 = .ok (.iconst 5, 1) ∧ decode cL_law 1355 = .ok (.iadd, 1) ∧ decode cL_law 1356 = .ok (.iaload, 1) := by decide +kernel
theorem dL_law_1350 : decode cL_law 1350 = .ok (.iaload, 1) := dLg_140.1
theorem dL_law_1351 : decode cL_law 1351 = .ok (.aload_n 0, 1) := dLg_140.2.1
theorem dL_law_1352 : decode cL_law 1352 = .ok (.iload 4, 2) := dLg_140.2.2.1
theorem dL_law_1354 : decode cL_law 1354 = .ok (.iconst 5, 1) := dLg_140.2.2.2.1
theorem dL_law_1355 : decode cL_law 1355 = .ok (.iadd, 1) := dLg_140.2.2.2.2.1
theorem dL_law_1356 : decode cL_law 1356 = .ok (.iaload, 1) := dLg_140.2.2.2.2.2
set_option maxRecDepth 100000 in
theorem dLg_141 : decode cL_law 1357 = .ok (.invokevirtual 161, 3) ∧ decode cL_law 1360 = .ok (.pop, 1) ∧ decode cL_law 1361 = .ok (.goto 141, 3) ∧ decode cL_law 1364 = .ok (.aload_n 1, 1) ∧ decode cL_law 1365 = .ok (.aload_n 0, 1) ∧ decode cL_law 1366 = .ok (.iload 4, 2) := by decide +kernel
theorem dL_law_1357 : decode cL_law 1357 = .ok (.invokevirtual 161, 3) := dLg_141.1
theorem dL_law_1360 : decode cL_law 1360 = .ok (.pop, 1) := dLg_141.2.1
theorem dL_law_1361 : decode cL_law 1361 = .ok (.goto 141, 3) := dLg_141.2.2.1
theorem dL_law_1364 : decode cL_law 1364 = .ok (.aload_n 1, 1) := dLg_141.2.2.2.1
theorem dL_law_1365 : decode cL_law 1365 = .ok (.aload_n 0, 1) := dLg_141.2.2.2.2.1
theorem dL_law_1366 : decode cL_law 1366 = .ok (.iload 4, 2) := dLg_141.2.2.2.2.2
set_option maxRecDepth 100000 in
theorem dLg_142 : decode cL_law 1368 = .ok (.iconst 1, 1) ∧ decode cL_law 1369 = .ok (.iadd, 1) ∧ decode cL_law 1370 = .ok (.iaload, 1) ∧ decode cL_law 1371 = .ok (.aload_n 0, 1) ∧ decode cL_law 1372 = .ok (.iload 4, 2) ∧ decode cL_law 1374 = .ok (.iconst 2, 1) := by decide +kernel
theorem dL_law_1368 : decode cL_law 1368 = .ok (.iconst 1, 1) := dLg_142.1
theorem dL_law_1369 : decode cL_law 1369 = .ok (.iadd, 1) := dLg_142.2.1
theorem dL_law_1370 : decode cL_law 1370 = .ok (.iaload, 1) := dLg_142.2.2.1
theorem dL_law_1371 : decode cL_law 1371 = .ok (.aload_n 0, 1) := dLg_142.2.2.2.1
theorem dL_law_1372 : decode cL_law 1372 = .ok (.iload 4, 2) := dLg_142.2.2.2.2.1
theorem dL_law_1374 : decode cL_law 1374 = .ok (.iconst 2, 1) := dLg_142.2.2.2.2.2
set_option maxRecDepth 100000 in
theorem dLg_143 : decode cL_law 1375 = .ok (.iadd, 1) ∧ decode cL_law 1376 = .ok (.iaload, 1) ∧ decode cL_law 1377 = .ok (.invokevirtual 162, 3) ∧ decode cL_law 1380 = .ok (.pop, 1) ∧ decode cL_law 1381 = .ok (.aload_n 2, 1) ∧ decode cL_law 1382 = .ok (.aload_n 0, 1) := by decide +kernel
theorem dL_law_1375 : decode cL_law 1375 = .ok (.iadd, 1) := dLg_143.1
theorem dL_law_1376 : decode cL_law 1376 = .ok (.iaload, 1) := dLg_143.2.1
theorem dL_law_1377 : decode cL_law 1377 = .ok (.invokevirtual 162, 3) := dLg_143.2.2.1
theorem dL_law_1380 : decode cL_law 1380 = .ok (.pop, 1) := dLg_143.2.2.2.1
theorem dL_law_1381 : decode cL_law 1381 = .ok (.aload_n 2, 1) := dLg_143.2.2.2.2.1
theorem dL_law_1382 : decode cL_law 1382 = .ok (.aload_n 0, 1) := dLg_143.2.2.2.2.2
set_option maxRecDepth 100000 in
theorem dLg_144 : decode cL_law 1383 = .ok (.iload 4, 2) ∧ decode cL_law 1385 = .ok (.iconst 1, 1) ∧ decode cL_law 1386 = .ok (.iadd, 1) ∧ decode cL_law 1387 = .ok (.iaload, 1) ∧ decode cL_law 1388 = .ok (.aload_n 0, 1) ∧ decode cL_law 1389 = .ok (.iload 4, 2) := by decide +kernel
theorem dL_law_1383 : decode cL_law 1383 = .ok (.iload 4, 2) := dLg_144.1
theorem dL_law_1385 : decode cL_law 1385 = .ok (.iconst 1, 1) := dLg_144.2.1
theorem dL_law_1386 : decode cL_law 1386 = .ok (.iadd, 1) := dLg_144.2.2.1
theorem dL_law_1387 : decode cL_law 1387 = .ok (.iaload, 1) := dLg_144.2.2.2.1
theorem dL_law_1388 : decode cL_law 1388 = .ok (.aload_n 0, 1) := dLg_144.2.2.2.2.1
theorem dL_law_1389 : decode cL_law 1389 = .ok (.iload 4, 2) := dLg_144.2.2.2.2.2
set_option maxRecDepth 100000 in
theorem dLg_145 : decode cL_law 1391 = .ok (.iconst 2, 1) ∧ decode cL_law 1392 = .ok (.iadd, 1) ∧ decode cL_law 1393 = .ok (.iaload, 1) ∧ decode cL_law 1394 = .ok (.invokevirtual 165, 3) ∧ decode cL_law 1397 = .ok (.pop, 1) ∧ decode cL_law 1398 = .ok (.goto 104, 3) := by decide +kernel
theorem dL_law_1391 : decode cL_law 1391 = .ok (.iconst 2, 1) := dLg_145.1
theorem dL_law_1392 : decode cL_law 1392 = .ok (.iadd, 1) := dLg_145.2.1
theorem dL_law_1393 : decode cL_law 1393 = .ok (.iaload, 1) := dLg_145.2.2.1
theorem dL_law_1394 : decode cL_law 1394 = .ok (.invokevirtual 165, 3) := dLg_145.2.2.2.1
theorem dL_law_1397 : decode cL_law 1397 = .ok (.pop, 1) := dLg_145.2.2.2.2.1
theorem dL_law_1398 : decode cL_law 1398 = .ok (.goto 104, 3) := dLg_145.2.2.2.2.2
set_option maxRecDepth 100000 in
theorem dLg_146 : decode cL_law 1401 = .ok (.aload_n 1, 1) ∧ decode cL_law 1402 = .ok (.aload_n 0, 1) ∧ decode cL_law 1403 = .ok (.iload 4, 2) ∧ decode cL_law 1405 = .ok (.iconst 1, 1) ∧ decode cL_law 1406 = .ok (.iadd, 1) ∧ decode cL_law 1407 = .ok (.iaload, 1) := by decide +kernel
theorem dL_law_1401 : decode cL_law 1401 = .ok (.aload_n 1, 1) := dLg_146.1
theorem dL_law_1402 : decode cL_law 1402 = .ok (.aload_n 0, 1) := dLg_146.2.1
theorem dL_law_1403 : decode cL_law 1403 = .ok (.iload 4, 2) := dLg_146.2.2.1
theorem dL_law_1405 : decode cL_law 1405 = .ok (.iconst 1, 1) := dLg_146.2.2.2.1
theorem dL_law_1406 : decode cL_law 1406 = .ok (.iadd, 1) := dLg_146.2.2.2.2.1
theorem dL_law_1407 : decode cL_law 1407 = .ok (.iaload, 1) := dLg_146.2.2.2.2.2
set_option maxRecDepth 100000 in
theorem dLg_147 : decode cL_law 1408 = .ok (.invokevirtual 166, 3) ∧ decode cL_law 1411 = .ok (.pop, 1) ∧ decode cL_law 1412 = .ok (.aload_n 2, 1) ∧ decode cL_law 1413 = .ok (.aload_n 0, 1) ∧ decode cL_law 1414 = .ok (.iload 4, 2) ∧ decode cL_law 1416 = .ok (.iconst 1, 1) := by decide +kernel
theorem dL_law_1408 : decode cL_law 1408 = .ok (.invokevirtual 166, 3) := dLg_147.1
theorem dL_law_1411 : decode cL_law 1411 = .ok (.pop, 1) := dLg_147.2.1
theorem dL_law_1412 : decode cL_law 1412 = .ok (.aload_n 2, 1) := dLg_147.2.2.1
theorem dL_law_1413 : decode cL_law 1413 = .ok (.aload_n 0, 1) := dLg_147.2.2.2.1
theorem dL_law_1414 : decode cL_law 1414 = .ok (.iload 4, 2) := dLg_147.2.2.2.2.1
theorem dL_law_1416 : decode cL_law 1416 = .ok (.iconst 1, 1) := dLg_147.2.2.2.2.2
set_option maxRecDepth 100000 in
theorem dLg_148 : decode cL_law 1417 = .ok (.iadd, 1) ∧ decode cL_law 1418 = .ok (.iaload, 1) ∧ decode cL_law 1419 = .ok (.invokevirtual 169, 3) ∧ decode cL_law 1422 = .ok (.pop, 1) ∧ decode cL_law 1423 = .ok (.goto 79, 3) ∧ decode cL_law 1426 = .ok (.aload_n 1, 1) := by decide +kernel
theorem dL_law_1417 : decode cL_law 1417 = .ok (.iadd, 1) := dLg_148.1
theorem dL_law_1418 : decode cL_law 1418 = .ok (.iaload, 1) := dLg_148.2.1
theorem dL_law_1419 : decode cL_law 1419 = .ok (.invokevirtual 169, 3) := dLg_148.2.2.1
theorem dL_law_1422 : decode cL_law 1422 = .ok (.pop, 1) := dLg_148.2.2.2.1
theorem dL_law_1423 : decode cL_law 1423 = .ok (.goto 79, 3) := dLg_148.2.2.2.2.1
theorem dL_law_1426 : decode cL_law 1426 = .ok (.aload_n 1, 1) := dLg_148.2.2.2.2.2
set_option maxRecDepth 100000 in
theorem dLg_149 : decode cL_law 1427 = .ok (.aload_n 0, 1) ∧ decode cL_law 1428 = .ok (.iload 4, 2) ∧ decode cL_law 1430 = .ok (.iconst 1, 1) ∧ decode cL_law 1431 = .ok (.iadd, 1) ∧ decode cL_law 1432 = .ok (.iaload, 1) ∧ decode cL_law 1433 = .ok (.invokevirtual 170, 3) := by decide +kernel
theorem dL_law_1427 : decode cL_law 1427 = .ok (.aload_n 0, 1) := dLg_149.1
theorem dL_law_1428 : decode cL_law 1428 = .ok (.iload 4, 2) := dLg_149.2.1
theorem dL_law_1430 : decode cL_law 1430 = .ok (.iconst 1, 1) := dLg_149.2.2.1
theorem dL_law_1431 : decode cL_law 1431 = .ok (.iadd, 1) := dLg_149.2.2.2.1
theorem dL_law_1432 : decode cL_law 1432 = .ok (.iaload, 1) := dLg_149.2.2.2.2.1
theorem dL_law_1433 : decode cL_law 1433 = .ok (.invokevirtual 170, 3) := dLg_149.2.2.2.2.2
set_option maxRecDepth 100000 in
theorem dLg_150 : decode cL_law 1436 = .ok (.pop, 1) ∧ decode cL_law 1437 = .ok (.aload_n 2, 1) ∧ decode cL_law 1438 = .ok (.aload_n 0, 1) ∧ decode cL_law 1439 = .ok (.iload 4, 2) ∧ decode cL_law 1441 = .ok (.iconst 1, 1) ∧ decode cL_law 1442 = .ok (.iadd, 1) := by decide +kernel
theorem dL_law_1436 : decode cL_law 1436 = .ok (.pop, 1) := dLg_150.1
theorem dL_law_1437 : decode cL_law 1437 = .ok (.aload_n 2, 1) := dLg_150.2.1
theorem dL_law_1438 : decode cL_law 1438 = .ok (.aload_n 0, 1) := dLg_150.2.2.1
theorem dL_law_1439 : decode cL_law 1439 = .ok (.iload 4, 2) := dLg_150.2.2.2.1
theorem dL_law_1441 : decode cL_law 1441 = .ok (.iconst 1, 1) := dLg_150.2.2.2.2.1
theorem dL_law_1442 : decode cL_law 1442 = .ok (.iadd, 1) := dLg_150.2.2.2.2.2
set_option maxRecDepth 100000 in
theorem dLg_151 : decode cL_law 1443 = .ok (.iaload, 1) ∧ decode cL_law 1444 = .ok (.invokevirtual 173, 3) ∧ decode cL_law 1447 = .ok (.pop, 1) ∧ decode cL_law 1448 = .ok (.goto 54, 3) ∧ decode cL_law 1451 = .ok (.aload_n 1, 1) ∧ decode cL_law 1452 = .ok (.invokevirtual 174, 3) := by decide +kernel
theorem dL_law_1443 : decode cL_law 1443 = .ok (.iaload, 1) := dLg_151.1
theorem dL_law_1444 : decode cL_law 1444 = .ok (.invokevirtual 173, 3) := dLg_151.2.1
theorem dL_law_1447 : decode cL_law 1447 = .ok (.pop, 1) := dLg_151.2.2.1
theorem dL_law_1448 : decode cL_law 1448 = .ok (.goto 54, 3) := dLg_151.2.2.2.1
theorem dL_law_1451 : decode cL_law 1451 = .ok (.aload_n 1, 1) := dLg_151.2.2.2.2.1
theorem dL_law_1452 : decode cL_law 1452 = .ok (.invokevirtual 174, 3) := dLg_151.2.2.2.2.2
set_option maxRecDepth 100000 in
theorem dLg_152 : decode cL_law 1455 = .ok (.pop, 1) ∧ decode cL_law 1456 = .ok (.aload_n 2, 1) ∧ decode cL_law 1457 = .ok (.invokevirtual 177, 3) ∧ decode cL_law 1460 = .ok (.pop, 1) ∧ decode cL_law 1461 = .ok (.goto 41, 3) ∧ decode cL_law 1464 = .ok (.aload_n 1, 1) := by decide +kernel
theorem dL_law_1455 : decode cL_law 1455 = .ok (.pop, 1) := dLg_152.1
theorem dL_law_1456 : decode cL_law 1456 = .ok (.aload_n 2, 1) := dLg_152.2.1
theorem dL_law_1457 : decode cL_law 1457 = .ok (.invokevirtual 177, 3) := dLg_152.2.2.1
theorem dL_law_1460 : decode cL_law 1460 = .ok (.pop, 1) := dLg_152.2.2.2.1
theorem dL_law_1461 : decode cL_law 1461 = .ok (.goto 41, 3) := dLg_152.2.2.2.2.1
theorem dL_law_1464 : decode cL_law 1464 = .ok (.aload_n 1, 1) := dLg_152.2.2.2.2.2
set_option maxRecDepth 100000 in
theorem dLg_153 : decode cL_law 1465 = .ok (.invokevirtual 178, 3) ∧ decode cL_law 1468 = .ok (.pop, 1) ∧ decode cL_law 1469 = .ok (.aload_n 2, 1) ∧ decode cL_law 1470 = .ok (.invokevirtual 181, 3) ∧ decode cL_law 1473 = .ok (.pop, 1) ∧ decode cL_law 1474 = .ok (.goto 28, 3) := by decide +kernel
theorem dL_law_1465 : decode cL_law 1465 = .ok (.invokevirtual 178, 3) := dLg_153.1
theorem dL_law_1468 : decode cL_law 1468 = .ok (.pop, 1) := dLg_153.2.1
theorem dL_law_1469 : decode cL_law 1469 = .ok (.aload_n 2, 1) := dLg_153.2.2.1
theorem dL_law_1470 : decode cL_law 1470 = .ok (.invokevirtual 181, 3) := dLg_153.2.2.2.1
theorem dL_law_1473 : decode cL_law 1473 = .ok (.pop, 1) := dLg_153.2.2.2.2.1
theorem dL_law_1474 : decode cL_law 1474 = .ok (.goto 28, 3) := dLg_153.2.2.2.2.2
set_option maxRecDepth 100000 in
theorem dLg_154 : decode cL_law 1477 = .ok (.aload_n 1, 1) ∧ decode cL_law 1478 = .ok (.aload_n 0, 1) ∧ decode cL_law 1479 = .ok (.iload 4, 2) ∧ decode cL_law 1481 = .ok (.iconst 1, 1) ∧ decode cL_law 1482 = .ok (.iadd, 1) ∧ decode cL_law 1483 = .ok (.iaload, 1) := by decide +kernel
theorem dL_law_1477 : decode cL_law 1477 = .ok (.aload_n 1, 1) := dLg_154.1
theorem dL_law_1478 : decode cL_law 1478 = .ok (.aload_n 0, 1) := dLg_154.2.1
theorem dL_law_1479 : decode cL_law 1479 = .ok (.iload 4, 2) := dLg_154.2.2.1
theorem dL_law_1481 : decode cL_law 1481 = .ok (.iconst 1, 1) := dLg_154.2.2.2.1
theorem dL_law_1482 : decode cL_law 1482 = .ok (.iadd, 1) := dLg_154.2.2.2.2.1
theorem dL_law_1483 : decode cL_law 1483 = .ok (.iaload, 1) := dLg_154.2.2.2.2.2
set_option maxRecDepth 100000 in
theorem dLg_155 : decode cL_law 1484 = .ok (.invokevirtual 182, 3) ∧ decode cL_law 1487 = .ok (.pop, 1) ∧ decode cL_law 1488 = .ok (.aload_n 2, 1) ∧ decode cL_law 1489 = .ok (.aload_n 0, 1) ∧ decode cL_law 1490 = .ok (.iload 4, 2) ∧ decode cL_law 1492 = .ok (.iconst 1, 1) := by decide +kernel
theorem dL_law_1484 : decode cL_law 1484 = .ok (.invokevirtual 182, 3) := dLg_155.1
theorem dL_law_1487 : decode cL_law 1487 = .ok (.pop, 1) := dLg_155.2.1
theorem dL_law_1488 : decode cL_law 1488 = .ok (.aload_n 2, 1) := dLg_155.2.2.1
theorem dL_law_1489 : decode cL_law 1489 = .ok (.aload_n 0, 1) := dLg_155.2.2.2.1
theorem dL_law_1490 : decode cL_law 1490 = .ok (.iload 4, 2) := dLg_155.2.2.2.2.1
theorem dL_law_1492 : decode cL_law 1492 = .ok (.iconst 1, 1) := dLg_155.2.2.2.2.2
set_option maxRecDepth 100000 in
theorem dLg_156 : decode cL_law 1493 = .ok (.iadd, 1) ∧ decode cL_law 1494 = .ok (.iaload, 1) ∧ decode cL_law 1495 = .ok (.invokevirtual 185, 3) ∧ decode cL_law 1498 = .ok (.pop, 1) ∧ decode cL_law 1499 = .ok (.goto 3, 3) ∧ decode cL_law 1502 = .ok (.iinc 4 6, 3) := by decide +kernel
theorem dL_law_1493 : decode cL_law 1493 = .ok (.iadd, 1) := dLg_156.1
theorem dL_law_1494 : decode cL_law 1494 = .ok (.iaload, 1) := dLg_156.2.1
theorem dL_law_1495 : decode cL_law 1495 = .ok (.invokevirtual 185, 3) := dLg_156.2.2.1
theorem dL_law_1498 : decode cL_law 1498 = .ok (.pop, 1) := dLg_156.2.2.2.1
theorem dL_law_1499 : decode cL_law 1499 = .ok (.goto 3, 3) := dLg_156.2.2.2.2.1
theorem dL_law_1502 : decode cL_law 1502 = .ok (.iinc 4 6, 3) := dLg_156.2.2.2.2.2
set_option maxRecDepth 100000 in
theorem dLg_157 : decode cL_law 1505 = .ok (.goto (-1482), 3) ∧ decode cL_law 1508 = .ok (.iconst 1, 1) ∧ decode cL_law 1509 = .ok (.ireturn, 1) := by decide +kernel
theorem dL_law_1505 : decode cL_law 1505 = .ok (.goto (-1482), 3) := dLg_157.1
theorem dL_law_1508 : decode cL_law 1508 = .ok (.iconst 1, 1) := dLg_157.2.1
theorem dL_law_1509 : decode cL_law 1509 = .ok (.ireturn, 1) := dLg_157.2.2
