theorem lk_L_long : Cond.constantLong RL 96 (4294967295) ∈ wsL_law := List.mem_append_left _ (List.mem_append_left _ (List.mem_of_getElem? (i := 7) rfl))
