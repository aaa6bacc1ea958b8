set_option maxRecDepth 100000 in
theorem bw_wsL_law0_r1 : ∀ w ∈ wsL_law0_r1, goodWord w = true := fun w h => List.all_eq_true.mp (show (wsL_law0_r1).all goodWord = true from rfl) w h
set_option maxRecDepth 100000 in
theorem bw_wsL_law0_r2 : ∀ w ∈ wsL_law0_r2, goodWord w = true := fun w h => List.all_eq_true.mp (show (wsL_law0_r2).all goodWord = true from rfl) w h
set_option maxRecDepth 100000 in
theorem bw_wsL_law0_r3 : ∀ w ∈ wsL_law0_r3, goodWord w = true := fun w h => List.all_eq_true.mp (show (wsL_law0_r3).all goodWord = true from rfl) w h
set_option maxRecDepth 100000 in
theorem bw_wsL_law0_r4 : ∀ w ∈ wsL_law0_r4, goodWord w = true := fun w h => List.all_eq_true.mp (show (wsL_law0_r4).all goodWord = true from rfl) w h
set_option maxRecDepth 100000 in
theorem bw_wsL_law0_r5 : ∀ w ∈ wsL_law0_r5, goodWord w = true := fun w h => List.all_eq_true.mp (show (wsL_law0_r5).all goodWord = true from rfl) w h
set_option maxRecDepth 100000 in
theorem bw_wsL_law0_r6 : ∀ w ∈ wsL_law0_r6, goodWord w = true := fun w h => List.all_eq_true.mp (show (wsL_law0_r6).all goodWord = true from rfl) w h
set_option maxRecDepth 100000 in
theorem bw_wsL_law0_r7 : ∀ w ∈ wsL_law0_r7, goodWord w = true := fun w h => List.all_eq_true.mp (show (wsL_law0_r7).all goodWord = true from rfl) w h
set_option maxRecDepth 100000 in
theorem bw_wsL_law0_r8 : ∀ w ∈ wsL_law0_r8, goodWord w = true := fun w h => List.all_eq_true.mp (show (wsL_law0_r8).all goodWord = true from rfl) w h
set_option maxRecDepth 100000 in
theorem bw_wsL_law0_r9 : ∀ w ∈ wsL_law0_r9, goodWord w = true := fun w h => List.all_eq_true.mp (show (wsL_law0_r9).all goodWord = true from rfl) w h
set_option maxRecDepth 100000 in
theorem bw_wsL_law0_r10 : ∀ w ∈ wsL_law0_r10, goodWord w = true := fun w h => List.all_eq_true.mp (show (wsL_law0_r10).all goodWord = true from rfl) w h
set_option maxRecDepth 100000 in
theorem bw_wsL_law0_r11 : ∀ w ∈ wsL_law0_r11, goodWord w = true := fun w h => List.all_eq_true.mp (show (wsL_law0_r11).all goodWord = true from rfl) w h
set_option maxRecDepth 100000 in
theorem bw_wsL_law0_r12 : ∀ w ∈ wsL_law0_r12, goodWord w = true := fun w h => List.all_eq_true.mp (show (wsL_law0_r12).all goodWord = true from rfl) w h
set_option maxRecDepth 100000 in
theorem bw_wsL_law0_r13 : ∀ w ∈ wsL_law0_r13, goodWord w = true := fun w h => List.all_eq_true.mp (show (wsL_law0_r13).all goodWord = true from rfl) w h
set_option maxRecDepth 100000 in
theorem bw_wsL_law0_r14 : ∀ w ∈ wsL_law0_r14, goodWord w = true := fun w h => List.all_eq_true.mp (show (wsL_law0_r14).all goodWord = true from rfl) w h
set_option maxRecDepth 100000 in
theorem bw_wsL_law0_r15 : ∀ w ∈ wsL_law0_r15, goodWord w = true := fun w h => List.all_eq_true.mp (show (wsL_law0_r15).all goodWord = true from rfl) w h
set_option maxRecDepth 100000 in
theorem bw_wsL_law0_r16 : ∀ w ∈ wsL_law0_r16, goodWord w = true := fun w h => List.all_eq_true.mp (show (wsL_law0_r16).all goodWord = true from rfl) w h
set_option maxRecDepth 100000 in
theorem bw_wsL_law0_r17 : ∀ w ∈ wsL_law0_r17, goodWord w = true := fun w h => List.all_eq_true.mp (show (wsL_law0_r17).all goodWord = true from rfl) w h
set_option maxRecDepth 100000 in
theorem bw_wsL_law0_r18 : ∀ w ∈ wsL_law0_r18, goodWord w = true := fun w h => List.all_eq_true.mp (show (wsL_law0_r18).all goodWord = true from rfl) w h
set_option maxRecDepth 100000 in
theorem bw_wsL_law0_r19 : ∀ w ∈ wsL_law0_r19, goodWord w = true := fun w h => List.all_eq_true.mp (show (wsL_law0_r19).all goodWord = true from rfl) w h
set_option maxRecDepth 100000 in
theorem bw_wsL_law0_r20 : ∀ w ∈ wsL_law0_r20, goodWord w = true := fun w h => List.all_eq_true.mp (show (wsL_law0_r20).all goodWord = true from rfl) w h
set_option maxRecDepth 100000 in
theorem bw_wsL_law0_r21 : ∀ w ∈ wsL_law0_r21, goodWord w = true := fun w h => List.all_eq_true.mp (show (wsL_law0_r21).all goodWord = true from rfl) w h
set_option maxRecDepth 100000 in
theorem bw_wsL_law0_r22 : ∀ w ∈ wsL_law0_r22, goodWord w = true := fun w h => List.all_eq_true.mp (show (wsL_law0_r22).all goodWord = true from rfl) w h
set_option maxRecDepth 100000 in
theorem bw_wsL_law0_r23 : ∀ w ∈ wsL_law0_r23, goodWord w = true := fun w h => List.all_eq_true.mp (show (wsL_law0_r23).all goodWord = true from rfl) w h
set_option maxRecDepth 100000 in
theorem bw_wsL_law0_r24 : ∀ w ∈ wsL_law0_r24, goodWord w = true := fun w h => List.all_eq_true.mp (show (wsL_law0_r24).all goodWord = true from rfl) w h
set_option maxRecDepth 100000 in
theorem bw_wsL_law0_r25 : ∀ w ∈ wsL_law0_r25, goodWord w = true := fun w h => List.all_eq_true.mp (show (wsL_law0_r25).all goodWord = true from rfl) w h
set_option maxRecDepth 100000 in
theorem bw_wsL_law0_r26 : ∀ w ∈ wsL_law0_r26, goodWord w = true := fun w h => List.all_eq_true.mp (show (wsL_law0_r26).all goodWord = true from rfl) w h
set_option maxRecDepth 100000 in
theorem bw_wsL_law0_r27 : ∀ w ∈ wsL_law0_r27, goodWord w = true := fun w h => List.all_eq_true.mp (show (wsL_law0_r27).all goodWord = true from rfl) w h
set_option maxRecDepth 100000 in
theorem bw_wsL_law0_r28 : ∀ w ∈ wsL_law0_r28, goodWord w = true := fun w h => List.all_eq_true.mp (show (wsL_law0_r28).all goodWord = true from rfl) w h
set_option maxRecDepth 100000 in
theorem bw_wsL_law0_r29 : ∀ w ∈ wsL_law0_r29, goodWord w = true := fun w h => List.all_eq_true.mp (show (wsL_law0_r29).all goodWord = true from rfl) w h
set_option maxRecDepth 100000 in
theorem bw_wsL_law0_r30 : ∀ w ∈ wsL_law0_r30, goodWord w = true := fun w h => List.all_eq_true.mp (show (wsL_law0_r30).all goodWord = true from rfl) w h
set_option maxRecDepth 100000 in
theorem bw_wsL_law0_r31 : ∀ w ∈ wsL_law0_r31, goodWord w = true := fun w h => List.all_eq_true.mp (show (wsL_law0_r31).all goodWord = true from rfl) w h
set_option maxRecDepth 100000 in
theorem bw_wsL_law0_r32 : ∀ w ∈ wsL_law0_r32, goodWord w = true := fun w h => List.all_eq_true.mp (show (wsL_law0_r32).all goodWord = true from rfl) w h
set_option maxRecDepth 100000 in
theorem bw_wsL_law0_r33 : ∀ w ∈ wsL_law0_r33, goodWord w = true := fun w h => List.all_eq_true.mp (show (wsL_law0_r33).all goodWord = true from rfl) w h
set_option maxRecDepth 100000 in
theorem bw_wsL_law0_r34 : ∀ w ∈ wsL_law0_r34, goodWord w = true := fun w h => List.all_eq_true.mp (show (wsL_law0_r34).all goodWord = true from rfl) w h
set_option maxRecDepth 100000 in
theorem bw_wsL_law0_r35 : ∀ w ∈ wsL_law0_r35, goodWord w = true := fun w h => List.all_eq_true.mp (show (wsL_law0_r35).all goodWord = true from rfl) w h
set_option maxRecDepth 100000 in
theorem bw_wsL_law0_r36 : ∀ w ∈ wsL_law0_r36, goodWord w = true := fun w h => List.all_eq_true.mp (show (wsL_law0_r36).all goodWord = true from rfl) w h
set_option maxRecDepth 100000 in
theorem bw_wsL_law0_r37 : ∀ w ∈ wsL_law0_r37, goodWord w = true := fun w h => List.all_eq_true.mp (show (wsL_law0_r37).all goodWord = true from rfl) w h
set_option maxRecDepth 100000 in
theorem bw_wsL_law0_r38 : ∀ w ∈ wsL_law0_r38, goodWord w = true := fun w h => List.all_eq_true.mp (show (wsL_law0_r38).all goodWord = true from rfl) w h
set_option maxRecDepth 100000 in
theorem bw_wsL_law0_r39 : ∀ w ∈ wsL_law0_r39, goodWord w = true := fun w h => List.all_eq_true.mp (show (wsL_law0_r39).all goodWord = true from rfl) w h
set_option maxRecDepth 100000 in
theorem bw_wsL_law0_r40 : ∀ w ∈ wsL_law0_r40, goodWord w = true := fun w h => List.all_eq_true.mp (show (wsL_law0_r40).all goodWord = true from rfl) w h
set_option maxRecDepth 100000 in
theorem bw_wsL_law0_r41 : ∀ w ∈ wsL_law0_r41, goodWord w = true := fun w h => List.all_eq_true.mp (show (wsL_law0_r41).all goodWord = true from rfl) w h
set_option maxRecDepth 100000 in
theorem bw_wsL_law0_r42 : ∀ w ∈ wsL_law0_r42, goodWord w = true := fun w h => List.all_eq_true.mp (show (wsL_law0_r42).all goodWord = true from rfl) w h
set_option maxRecDepth 100000 in
theorem bw_wsL_law0_r43 : ∀ w ∈ wsL_law0_r43, goodWord w = true := fun w h => List.all_eq_true.mp (show (wsL_law0_r43).all goodWord = true from rfl) w h
set_option maxRecDepth 100000 in
theorem bw_wsL_law0_r44 : ∀ w ∈ wsL_law0_r44, goodWord w = true := fun w h => List.all_eq_true.mp (show (wsL_law0_r44).all goodWord = true from rfl) w h
set_option maxRecDepth 100000 in
theorem bw_wsL_law0_r45 : ∀ w ∈ wsL_law0_r45, goodWord w = true := fun w h => List.all_eq_true.mp (show (wsL_law0_r45).all goodWord = true from rfl) w h
set_option maxRecDepth 100000 in
theorem bw_wsL_law0_r46 : ∀ w ∈ wsL_law0_r46, goodWord w = true := fun w h => List.all_eq_true.mp (show (wsL_law0_r46).all goodWord = true from rfl) w h
set_option maxRecDepth 100000 in
theorem bw_wsL_law0_r47 : ∀ w ∈ wsL_law0_r47, goodWord w = true := fun w h => List.all_eq_true.mp (show (wsL_law0_r47).all goodWord = true from rfl) w h
set_option maxRecDepth 100000 in
theorem bw_wsL_law0_r48 : ∀ w ∈ wsL_law0_r48, goodWord w = true := fun w h => List.all_eq_true.mp (show (wsL_law0_r48).all goodWord = true from rfl) w h
set_option maxRecDepth 100000 in
theorem bw_wsL_law0_r49 : ∀ w ∈ wsL_law0_r49, goodWord w = true := fun w h => List.all_eq_true.mp (show (wsL_law0_r49).all goodWord = true from rfl) w h
set_option maxRecDepth 100000 in
theorem bw_wsL_law0_r50 : ∀ w ∈ wsL_law0_r50, goodWord w = true := fun w h => List.all_eq_true.mp (show (wsL_law0_r50).all goodWord = true from rfl) w h
set_option maxRecDepth 100000 in
theorem bw_wsL_law0_r51 : ∀ w ∈ wsL_law0_r51, goodWord w = true := fun w h => List.all_eq_true.mp (show (wsL_law0_r51).all goodWord = true from rfl) w h
set_option maxRecDepth 100000 in
theorem bw_wsL_law0_r52 : ∀ w ∈ wsL_law0_r52, goodWord w = true := fun w h => List.all_eq_true.mp (show (wsL_law0_r52).all goodWord = true from rfl) w h
set_option maxRecDepth 100000 in
theorem bw_wsL_law0_r53 : ∀ w ∈ wsL_law0_r53, goodWord w = true := fun w h => List.all_eq_true.mp (show (wsL_law0_r53).all goodWord = true from rfl) w h
set_option maxRecDepth 100000 in
theorem bw_wsL_law0_r54 : ∀ w ∈ wsL_law0_r54, goodWord w = true := fun w h => List.all_eq_true.mp (show (wsL_law0_r54).all goodWord = true from rfl) w h
set_option maxRecDepth 100000 in
theorem bw_wsL_law0_r55 : ∀ w ∈ wsL_law0_r55, goodWord w = true := fun w h => List.all_eq_true.mp (show (wsL_law0_r55).all goodWord = true from rfl) w h
set_option maxRecDepth 100000 in
theorem bw_wsL_law0_r56 : ∀ w ∈ wsL_law0_r56, goodWord w = true := fun w h => List.all_eq_true.mp (show (wsL_law0_r56).all goodWord = true from rfl) w h
set_option maxRecDepth 100000 in
theorem bw_wsL_law0_r57 : ∀ w ∈ wsL_law0_r57, goodWord w = true := fun w h => List.all_eq_true.mp (show (wsL_law0_r57).all goodWord = true from rfl) w h
set_option maxRecDepth 100000 in
theorem bw_wsL_law0_r58 : ∀ w ∈ wsL_law0_r58, goodWord w = true := fun w h => List.all_eq_true.mp (show (wsL_law0_r58).all goodWord = true from rfl) w h
set_option maxRecDepth 100000 in
theorem bw_wsL_law0_r59 : ∀ w ∈ wsL_law0_r59, goodWord w = true := fun w h => List.all_eq_true.mp (show (wsL_law0_r59).all goodWord = true from rfl) w h
set_option maxRecDepth 100000 in
theorem bw_wsX110 : ∀ w ∈ wsX110, goodWord w = true := fun w h => List.all_eq_true.mp (show (wsX110).all goodWord = true from rfl) w h
set_option maxRecDepth 100000 in
theorem bw_wsX120 : ∀ w ∈ wsX120, goodWord w = true := fun w h => List.all_eq_true.mp (show (wsX120).all goodWord = true from rfl) w h
set_option maxRecDepth 100000 in
theorem bw_wsX100 : ∀ w ∈ wsX100, goodWord w = true := fun w h => List.all_eq_true.mp (show (wsX100).all goodWord = true from rfl) w h
set_option maxRecDepth 100000 in
theorem bw_wsX60 : ∀ w ∈ wsX60, goodWord w = true := fun w h => List.all_eq_true.mp (show (wsX60).all goodWord = true from rfl) w h
set_option maxRecDepth 100000 in
theorem bw_wsX10 : ∀ w ∈ wsX10, goodWord w = true := fun w h => List.all_eq_true.mp (show (wsX10).all goodWord = true from rfl) w h
set_option maxRecDepth 100000 in
theorem bw_wsX50 : ∀ w ∈ wsX50, goodWord w = true := fun w h => List.all_eq_true.mp (show (wsX50).all goodWord = true from rfl) w h
set_option maxRecDepth 100000 in
theorem bw_wsX20 : ∀ w ∈ wsX20, goodWord w = true := fun w h => List.all_eq_true.mp (show (wsX20).all goodWord = true from rfl) w h
set_option maxRecDepth 100000 in
theorem bw_wsX90 : ∀ w ∈ wsX90, goodWord w = true := fun w h => List.all_eq_true.mp (show (wsX90).all goodWord = true from rfl) w h
set_option maxRecDepth 100000 in
theorem bw_wsX30 : ∀ w ∈ wsX30, goodWord w = true := fun w h => List.all_eq_true.mp (show (wsX30).all goodWord = true from rfl) w h
set_option maxRecDepth 100000 in
theorem bw_wsX00 : ∀ w ∈ wsX00, goodWord w = true := fun w h => List.all_eq_true.mp (show (wsX00).all goodWord = true from rfl) w h
set_option maxRecDepth 100000 in
theorem bw_wsX80 : ∀ w ∈ wsX80, goodWord w = true := fun w h => List.all_eq_true.mp (show (wsX80).all goodWord = true from rfl) w h
set_option maxRecDepth 100000 in
theorem bw_wsX40 : ∀ w ∈ wsX40, goodWord w = true := fun w h => List.all_eq_true.mp (show (wsX40).all goodWord = true from rfl) w h
set_option maxRecDepth 100000 in
theorem bw_wsX70 : ∀ w ∈ wsX70, goodWord w = true := fun w h => List.all_eq_true.mp (show (wsX70).all goodWord = true from rfl) w h
set_option maxRecDepth 100000 in
theorem bw_x : ∀ w ∈ (vx_atX RX11 163 "java/util/NoSuchElementException" 13 prog_23_method_4_code ["java/lang/RuntimeException", "java/lang/Exception"]).filter goodWord, goodWord w = true := fun w h => (List.mem_filter.mp h).2
set_option maxRecDepth 100000 in
theorem bw_law : ∀ w ∈ wsL_law, goodWord w = true := fun w h => (List.mem_append.mp h).elim ((fun w h => (List.mem_append.mp h).elim ((fun w h => (List.mem_append.mp h).elim ((fun w h => (List.mem_append.mp h).elim ((fun w h => (List.mem_append.mp h).elim ((fun w h => (List.mem_append.mp h).elim ((fun w h => (List.mem_append.mp h).elim ((fun w h => (List.mem_append.mp h).elim ((fun w h => (List.mem_append.mp h).elim ((fun w h => (List.mem_append.mp h).elim ((fun w h => (List.mem_append.mp h).elim ((fun w h => (List.mem_append.mp h).elim ((fun w h => (List.mem_append.mp h).elim ((fun w h => (List.mem_append.mp h).elim ((fun w h => (List.mem_append.mp h).elim ((fun w h => (List.mem_append.mp h).elim (bw_wsL_law0_r1 w) ((fun w h => (List.mem_append.mp h).elim (bw_wsL_law0_r2 w) ((fun w h => (List.mem_append.mp h).elim (bw_wsL_law0_r3 w) ((fun w h => (List.mem_append.mp h).elim (bw_wsL_law0_r4 w) ((fun w h => (List.mem_append.mp h).elim (bw_wsL_law0_r5 w) ((fun w h => (List.mem_append.mp h).elim (bw_wsL_law0_r6 w) ((fun w h => (List.mem_append.mp h).elim (bw_wsL_law0_r7 w) ((fun w h => (List.mem_append.mp h).elim (bw_wsL_law0_r8 w) ((fun w h => (List.mem_append.mp h).elim (bw_wsL_law0_r9 w) ((fun w h => (List.mem_append.mp h).elim (bw_wsL_law0_r10 w) ((fun w h => (List.mem_append.mp h).elim (bw_wsL_law0_r11 w) ((fun w h => (List.mem_append.mp h).elim (bw_wsL_law0_r12 w) ((fun w h => (List.mem_append.mp h).elim (bw_wsL_law0_r13 w) ((fun w h => (List.mem_append.mp h).elim (bw_wsL_law0_r14 w) ((fun w h => (List.mem_append.mp h).elim (bw_wsL_law0_r15 w) ((fun w h => (List.mem_append.mp h).elim (bw_wsL_law0_r16 w) ((fun w h => (List.mem_append.mp h).elim (bw_wsL_law0_r17 w) ((fun w h => (List.mem_append.mp h).elim (bw_wsL_law0_r18 w) ((fun w h => (List.mem_append.mp h).elim (bw_wsL_law0_r19 w) ((fun w h => (List.mem_append.mp h).elim (bw_wsL_law0_r20 w) ((fun w h => (List.mem_append.mp h).elim (bw_wsL_law0_r21 w) ((fun w h => (List.mem_append.mp h).elim (bw_wsL_law0_r22 w) ((fun w h => (List.mem_append.mp h).elim (bw_wsL_law0_r23 w) ((fun w h => (List.mem_append.mp h).elim (bw_wsL_law0_r24 w) ((fun w h => (List.mem_append.mp h).elim (bw_wsL_law0_r25 w) ((fun w h => (List.mem_append.mp h).elim (bw_wsL_law0_r26 w) ((fun w h => (List.mem_append.mp h).elim (bw_wsL_law0_r27 w) ((fun w h => (List.mem_append.mp h).elim (bw_wsL_law0_r28 w) ((fun w h => (List.mem_append.mp h).elim (bw_wsL_law0_r29 w) ((fun w h => (List.mem_append.mp h).elim (bw_wsL_law0_r30 w) ((fun w h => (List.mem_append.mp h).elim (bw_wsL_law0_r31 w) ((fun w h => (List.mem_append.mp h).elim (bw_wsL_law0_r32 w) ((fun w h => (List.mem_append.mp h).elim (bw_wsL_law0_r33 w) ((fun w h => (List.mem_append.mp h).elim (bw_wsL_law0_r34 w) ((fun w h => (List.mem_append.mp h).elim (bw_wsL_law0_r35 w) ((fun w h => (List.mem_append.mp h).elim (bw_wsL_law0_r36 w) ((fun w h => (List.mem_append.mp h).elim (bw_wsL_law0_r37 w) ((fun w h => (List.mem_append.mp h).elim (bw_wsL_law0_r38 w) ((fun w h => (List.mem_append.mp h).elim (bw_wsL_law0_r39 w) ((fun w h => (List.mem_append.mp h).elim (bw_wsL_law0_r40 w) ((fun w h => (List.mem_append.mp h).elim (bw_wsL_law0_r41 w) ((fun w h => (List.mem_append.mp h).elim (bw_wsL_law0_r42 w) ((fun w h => (List.mem_append.mp h).elim (bw_wsL_law0_r43 w) ((fun w h => (List.mem_append.mp h).elim (bw_wsL_law0_r44 w) ((fun w h => (List.mem_append.mp h).elim (bw_wsL_law0_r45 w) ((fun w h => (List.mem_append.mp h).elim (bw_wsL_law0_r46 w) ((fun w h => (List.mem_append.mp h).elim (bw_wsL_law0_r47 w) ((fun w h => (List.mem_append.mp h).elim (bw_wsL_law0_r48 w) ((fun w h => (List.mem_append.mp h).elim (bw_wsL_law0_r49 w) ((fun w h => (List.mem_append.mp h).elim (bw_wsL_law0_r50 w) ((fun w h => (List.mem_append.mp h).elim (bw_wsL_law0_r51 w) ((fun w h => (List.mem_append.mp h).elim (bw_wsL_law0_r52 w) ((fun w h => (List.mem_append.mp h).elim (bw_wsL_law0_r53 w) ((fun w h => (List.mem_append.mp h).elim (bw_wsL_law0_r54 w) ((fun w h => (List.mem_append.mp h).elim (bw_wsL_law0_r55 w) ((fun w h => (List.mem_append.mp h).elim (bw_wsL_law0_r56 w) ((fun w h => (List.mem_append.mp h).elim (bw_wsL_law0_r57 w) ((fun w h => (List.mem_append.mp h).elim (bw_wsL_law0_r58 w) (bw_wsL_law0_r59 w)) w)) w)) w)) w)) w)) w)) w)) w)) w)) w)) w)) w)) w)) w)) w)) w)) w)) w)) w)) w)) w)) w)) w)) w)) w)) w)) w)) w)) w)) w)) w)) w)) w)) w)) w)) w)) w)) w)) w)) w)) w)) w)) w)) w)) w)) w)) w)) w)) w)) w)) w)) w)) w)) w)) w)) w)) w)) w) (bw_wsX110 w)) w) (bw_wsX120 w)) w) (bw_wsX100 w)) w) (bw_wsX60 w)) w) (bw_wsX10 w)) w) (bw_wsX50 w)) w) (bw_wsX20 w)) w) (bw_wsX90 w)) w) (bw_wsX30 w)) w) (bw_wsX00 w)) w) (bw_wsX80 w)) w) (bw_wsX40 w)) w) (bw_wsX70 w)) w) ((fun _ h => absurd h List.not_mem_nil) w)) w) (bw_x w)
theorem bg_law {c : Cond} (h : c ∈ wsL_law) : GoodIn wsL_law (c :: wsL_law) := fun w hw => (List.mem_cons.mp hw).elim (fun e => by rw [e]; exact ⟨h, good_of_word (bw_law _ h)⟩) (fun h9 => ⟨h9, good_of_word (bw_law _ h9)⟩)
theorem bg_up {d : Cond} {ws : List Cond} (h : GoodIn wsL_law ws) : GoodIn (d :: wsL_law) ws := fun w hw => ⟨List.mem_cons_of_mem _ (h w hw).1, (h w hw).2⟩
theorem bg_cons {c : Cond} {ws : List Cond} (h : c ∈ wsL_law) (h2 : GoodIn wsL_law ws) : GoodIn wsL_law (c :: ws) := fun w hw => (List.mem_cons.mp hw).elim (fun e => by rw [e]; exact ⟨h, good_of_word (bw_law _ h)⟩) (fun h9 => h2 w h9)
theorem bg_nil : GoodIn wsL_law [] := fun w hw => absurd hw List.not_mem_nil
theorem tb_0 : ∀ w ∈ k2_sels lw_privs, w ∈ lw_tbl := fun _ h => List.mem_append_left _ h
