theorem lk_L_long : Cond.constantLong RL 93 (4294967295) ∈ wsL_law := (bi_wsL_law0_r1 _ (List.mem_of_getElem? (i := 7) rfl))
