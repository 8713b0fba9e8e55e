set_option maxRecDepth 20000 in
theorem wsL_law_in0 : ∀ w ∈ wsL_law0, w ∈ lw_tbl := fun w h => (goodIn_of wsL_law0 (by decide +kernel) w h).1
theorem wsL_law_x0 : ∀ w ∈ (xt_ws RX0 21 "java/lang/IllegalArgumentException" ["java/lang/RuntimeException", "java/lang/Exception"]).filter goodWord, w ∈ lw_tbl := by decide +kernel
theorem wsL_law_x1 : ∀ w ∈ (xt_ws RX0 40 "java/lang/IndexOutOfBoundsException" ["java/lang/RuntimeException", "java/lang/Exception"]).filter goodWord, w ∈ lw_tbl := by decide +kernel
theorem wsL_law_in : ∀ w ∈ wsL_law, w ∈ lw_tbl := fun w h => (List.mem_append.mp h).elim (fun h => (List.mem_append.mp h).elim (fun h => wsL_law_in0 w h) (fun h => wsL_law_x0 w h)) (fun h => wsL_law_x1 w h)
theorem inlX0 : ∀ w ∈ wsX00, w ∈ wsL_law := fun _ h => List.mem_append_left _ (List.mem_append_left _ (List.mem_append_left _ (List.mem_append_left _ (List.mem_append_right _ h))))
theorem inX0 : ∀ w ∈ wsX00, w ∈ lw_tbl := fun w h => wsL_law_in w (inlX0 w h)
theorem inlX1 : ∀ w ∈ wsX10, w ∈ wsL_law := fun _ h => List.mem_append_left _ (List.mem_append_left _ (List.mem_append_left _ (List.mem_append_right _ h)))
theorem inX1 : ∀ w ∈ wsX10, w ∈ lw_tbl := fun w h => wsL_law_in w (inlX1 w h)
theorem inJ0 : ∀ w ∈ wsJ00, w ∈ lw_tbl := by decide +kernel
set_option maxRecDepth 20000 in
theorem ggX0_space_X0_clear : GoodIn wsX0_space wsX0_clear := goodIn_r _ [8, 9, 10, 11, 12, 7, 13, 14, 15, 16, 17, 3, 18, 19, 20, 21, 22] (by decide +kernel) (by decide +kernel)
set_option maxRecDepth 20000 in
theorem gX0_space_X0_clear : GoodIn wsX0_space (wsV RX0 24 RX0 yX0_clear wsX0_clear) := goodIn_app (goodIn_of _ (by decide +kernel)) ggX0_space_X0_clear
set_option maxRecDepth 20000 in
theorem ggX0_write_X0_requireCell : GoodIn wsX0_write wsX0_requireCell := goodIn_ca (goodIn_r _ [6, 7, 8, 9, 13, 14] (by decide +kernel) (by decide +kernel)) (goodIn_sub (fun _ h => List.mem_cons_of_mem _ (List.mem_append_right _ h)) (by decide +kernel))
set_option maxRecDepth 20000 in
theorem gX0_write_X0_requireCell : GoodIn wsX0_write (wsV RX0 28 RX0 yX0_requireCell wsX0_requireCell) := goodIn_app (goodIn_of _ (by decide +kernel)) ggX0_write_X0_requireCell
set_option maxRecDepth 20000 in
theorem ggX0_write_X0_cardOf : GoodIn wsX0_write wsX0_cardOf := goodIn_r _ [12] (by decide +kernel) (by decide +kernel)
set_option maxRecDepth 20000 in
theorem gX0_write_X0_cardOf : GoodIn wsX0_write (va_wsS RX0 32 yX0_cardOf wsX0_cardOf) := goodIn_app (goodIn_of _ (by decide +kernel)) ggX0_write_X0_cardOf
set_option maxRecDepth 20000 in
theorem ggX0_cover_X0_requireCell : GoodIn wsX0_cover wsX0_requireCell := goodIn_ca (goodIn_r _ [9, 1, 2, 3, 13, 14] (by decide +kernel) (by decide +kernel)) (goodIn_sub (fun _ h => List.mem_cons_of_mem _ (List.mem_append_right _ h)) (by decide +kernel))
set_option maxRecDepth 20000 in
theorem gX0_cover_X0_requireCell : GoodIn wsX0_cover (wsV RX0 28 RX0 yX0_requireCell wsX0_requireCell) := goodIn_app (goodIn_of _ (by decide +kernel)) ggX0_cover_X0_requireCell
set_option maxRecDepth 20000 in
theorem ggX0_cover_X0_cardOf : GoodIn wsX0_cover wsX0_cardOf := goodIn_r _ [12] (by decide +kernel) (by decide +kernel)
set_option maxRecDepth 20000 in
theorem gX0_cover_X0_cardOf : GoodIn wsX0_cover (va_wsS RX0 32 yX0_cardOf wsX0_cardOf) := goodIn_app (goodIn_of _ (by decide +kernel)) ggX0_cover_X0_cardOf
set_option maxRecDepth 20000 in
theorem ggX0_clean_X0_requireCard : GoodIn wsX0_clean wsX0_requireCard := goodIn_ca (goodIn_r _ [6, 7, 8, 9, 10, 11, 5, 12, 13, 14, 15, 16, 21, 22] (by decide +kernel) (by decide +kernel)) (goodIn_sub (fun _ h => List.mem_cons_of_mem _ (List.mem_append_right _ h)) (by decide +kernel))
set_option maxRecDepth 20000 in
theorem gX0_clean_X0_requireCard : GoodIn wsX0_clean (wsV RX0 41 RX0 yX0_requireCard wsX0_requireCard) := goodIn_app (goodIn_of _ (by decide +kernel)) ggX0_clean_X0_requireCard
set_option maxRecDepth 20000 in
theorem ggX0_clean_X0_removeMark : GoodIn wsX0_clean wsX0_removeMark := goodIn_r _ [20, 1, 21, 22] (by decide +kernel) (by decide +kernel)
set_option maxRecDepth 20000 in
theorem gX0_clean_X0_removeMark : GoodIn wsX0_clean (wsV RX0 44 RX0 yX0_removeMark wsX0_removeMark) := goodIn_app (goodIn_of _ (by decide +kernel)) ggX0_clean_X0_removeMark
set_option maxRecDepth 20000 in
theorem ggX0_unsave_X0_requireCard : GoodIn wsX0_unsave wsX0_requireCard := goodIn_ca (goodIn_r _ [5, 6, 7, 8, 9, 10, 4, 11, 12, 13, 14, 15, 21, 22] (by decide +kernel) (by decide +kernel)) (goodIn_sub (fun _ h => List.mem_cons_of_mem _ (List.mem_append_right _ h)) (by decide +kernel))
set_option maxRecDepth 20000 in
theorem gX0_unsave_X0_requireCard : GoodIn wsX0_unsave (wsV RX0 41 RX0 yX0_requireCard wsX0_requireCard) := goodIn_app (goodIn_of _ (by decide +kernel)) ggX0_unsave_X0_requireCard
set_option maxRecDepth 20000 in
theorem ggX0_unsave_X0_removeMark : GoodIn wsX0_unsave wsX0_removeMark := goodIn_r _ [19, 20, 21, 22] (by decide +kernel) (by decide +kernel)
set_option maxRecDepth 20000 in
theorem gX0_unsave_X0_removeMark : GoodIn wsX0_unsave (wsV RX0 44 RX0 yX0_removeMark wsX0_removeMark) := goodIn_app (goodIn_of _ (by decide +kernel)) ggX0_unsave_X0_removeMark
set_option maxRecDepth 20000 in
theorem ggX0_card_X0_requireCard : GoodIn wsX0_card wsX0_requireCard := goodIn_ca (goodIn_r _ [6, 7, 8, 9, 10, 11, 5, 12, 13, 14, 15, 16, 17, 18] (by decide +kernel) (by decide +kernel)) (goodIn_sub (fun _ h => List.mem_cons_of_mem _ (List.mem_append_right _ h)) (by decide +kernel))
set_option maxRecDepth 20000 in
theorem gX0_card_X0_requireCard : GoodIn wsX0_card (wsV RX0 41 RX0 yX0_requireCard wsX0_requireCard) := goodIn_app (goodIn_of _ (by decide +kernel)) ggX0_card_X0_requireCard
set_option maxRecDepth 20000 in
theorem ggX0_nextDirty_X0_firstWith : GoodIn wsX0_nextDirty wsX0_firstWith := goodIn_ca (goodIn_r _ [5, 6, 7, 8, 9, 10, 11, 4, 12, 13, 14, 15, 16, 17, 18] (by decide +kernel) (by decide +kernel)) (goodIn_sub (fun _ h => List.mem_cons_of_mem _ (List.mem_append_right _ h)) (by decide +kernel))
set_option maxRecDepth 20000 in
theorem gX0_nextDirty_X0_firstWith : GoodIn wsX0_nextDirty (wsV RX0 48 RX0 yX0_firstWith wsX0_firstWith) := goodIn_app (goodIn_of _ (by decide +kernel)) ggX0_nextDirty_X0_firstWith
set_option maxRecDepth 20000 in
theorem ggX0_nextSaved_X0_firstWith : GoodIn wsX0_nextSaved wsX0_firstWith := goodIn_ca (goodIn_r _ [5, 6, 7, 8, 9, 10, 11, 4, 12, 13, 14, 15, 16, 17, 18] (by decide +kernel) (by decide +kernel)) (goodIn_sub (fun _ h => List.mem_cons_of_mem _ (List.mem_append_right _ h)) (by decide +kernel))
set_option maxRecDepth 20000 in
theorem gX0_nextSaved_X0_firstWith : GoodIn wsX0_nextSaved (wsV RX0 48 RX0 yX0_firstWith wsX0_firstWith) := goodIn_app (goodIn_of _ (by decide +kernel)) ggX0_nextSaved_X0_firstWith
set_option maxRecDepth 20000 in
theorem ggX0_clear_X0_countWith : GoodIn wsX0_clear wsX0_countWith := goodIn_r _ [6, 1, 7, 8, 9, 5, 10, 11, 12, 13, 14, 15, 16] (by decide +kernel) (by decide +kernel)
set_option maxRecDepth 20000 in
theorem gX0_clear_X0_countWith : GoodIn wsX0_clear (wsV RX0 52 RX0 yX0_countWith wsX0_countWith) := goodIn_app (goodIn_of _ (by decide +kernel)) ggX0_clear_X0_countWith
set_option maxRecDepth 20000 in
theorem ggX0_clear_X0_cardCount : GoodIn wsX0_clear wsX0_cardCount := goodIn_r _ [10, 11, 12, 13, 5, 14, 15, 16] (by decide +kernel) (by decide +kernel)
set_option maxRecDepth 20000 in
theorem gX0_clear_X0_cardCount : GoodIn wsX0_clear (wsV RX0 55 RX0 yX0_cardCount wsX0_cardCount) := goodIn_app (goodIn_of _ (by decide +kernel)) ggX0_clear_X0_cardCount
set_option maxRecDepth 20000 in
theorem ggX0_count_X0_cardCount : GoodIn wsX0_count wsX0_cardCount := goodIn_r _ [8, 3, 9, 10, 7, 11, 17, 18] (by decide +kernel) (by decide +kernel)
set_option maxRecDepth 20000 in
theorem gX0_count_X0_cardCount : GoodIn wsX0_count (wsV RX0 55 RX0 yX0_cardCount wsX0_cardCount) := goodIn_app (goodIn_of _ (by decide +kernel)) ggX0_count_X0_cardCount
set_option maxRecDepth 20000 in
theorem ggX0_count_X0_countWith : GoodIn wsX0_count wsX0_countWith := goodIn_r _ [15, 16, 4, 5, 6, 7, 8, 3, 9, 10, 11, 17, 18] (by decide +kernel) (by decide +kernel)
set_option maxRecDepth 20000 in
theorem gX0_count_X0_countWith : GoodIn wsX0_count (wsV RX0 52 RX0 yX0_countWith wsX0_countWith) := goodIn_app (goodIn_of _ (by decide +kernel)) ggX0_count_X0_countWith
set_option maxRecDepth 20000 in
theorem ggX0_cardCount_X0_cardOf : GoodIn wsX0_cardCount wsX0_cardOf := goodIn_r _ [5] (by decide +kernel) (by decide +kernel)
set_option maxRecDepth 20000 in
theorem gX0_cardCount_X0_cardOf : GoodIn wsX0_cardCount (va_wsS RX0 32 yX0_cardOf wsX0_cardOf) := goodIn_app (goodIn_of _ (by decide +kernel)) ggX0_cardCount_X0_cardOf
set_option maxRecDepth 20000 in
theorem ggX0_requireCard_X0_cardCount : GoodIn wsX0_requireCard wsX0_cardCount := goodIn_r _ [7, 8, 9, 10, 6, 11, 12, 13] (by decide +kernel) (by decide +kernel)
set_option maxRecDepth 20000 in
theorem gX0_requireCard_X0_cardCount : GoodIn wsX0_requireCard (wsV RX0 55 RX0 yX0_cardCount wsX0_cardCount) := goodIn_app (goodIn_of _ (by decide +kernel)) ggX0_requireCard_X0_cardCount
set_option maxRecDepth 20000 in
theorem ggX0_firstWith_X0_cardCount : GoodIn wsX0_firstWith wsX0_cardCount := goodIn_r _ [8, 9, 10, 11, 7, 12, 13, 14] (by decide +kernel) (by decide +kernel)
set_option maxRecDepth 20000 in
theorem gX0_firstWith_X0_cardCount : GoodIn wsX0_firstWith (wsV RX0 55 RX0 yX0_cardCount wsX0_cardCount) := goodIn_app (goodIn_of _ (by decide +kernel)) ggX0_firstWith_X0_cardCount
set_option maxRecDepth 20000 in
theorem ggX0_countWith_X0_cardCount : GoodIn wsX0_countWith wsX0_cardCount := goodIn_r _ [6, 7, 8, 9, 5, 10, 11, 12] (by decide +kernel) (by decide +kernel)
set_option maxRecDepth 20000 in
theorem gX0_countWith_X0_cardCount : GoodIn wsX0_countWith (wsV RX0 55 RX0 yX0_cardCount wsX0_cardCount) := goodIn_app (goodIn_of _ (by decide +kernel)) ggX0_countWith_X0_cardCount
set_option maxRecDepth 20000 in
theorem ggL_space_X0_space : GoodIn wsL_space wsX0_space := goodIn_ca (goodIn_r _ [6, 7, 8, 9, 10, 11, 12, 5, 13, 14, 15, 16, 17, 18, 19, 20, 21, 22, 23, 24, 25, 26, 27] (by decide +kernel) (by decide +kernel)) (goodIn_sub (fun _ h => List.mem_cons_of_mem _ (List.mem_append_right _ h)) (by decide +kernel))
set_option maxRecDepth 20000 in
theorem gL_space_X0_space : GoodIn wsL_space (wsV RL 7 RX0 yX0_space wsX0_space) := goodIn_app (goodIn_of _ (by decide +kernel)) ggL_space_X0_space
set_option maxRecDepth 20000 in
theorem ggL_write_X0_write : GoodIn wsL_write wsX0_write := goodIn_ca (goodIn_r _ [6, 7, 8, 9, 10, 5, 11, 12, 13, 14, 15, 16, 17, 18, 19] (by decide +kernel) (by decide +kernel)) (goodIn_sub (fun _ h => List.mem_cons_of_mem _ (List.mem_append_right _ h)) (by decide +kernel))
set_option maxRecDepth 20000 in
theorem gL_write_X0_write : GoodIn wsL_write (wsV RL 15 RX0 yX0_write wsX0_write) := goodIn_app (goodIn_of _ (by decide +kernel)) ggL_write_X0_write
set_option maxRecDepth 20000 in
theorem ggL_cover_X0_cover : GoodIn wsL_cover wsX0_cover := goodIn_ca (goodIn_r _ [6, 7, 8, 9, 10, 11, 12, 13, 5, 14, 15, 16, 17, 18, 19] (by decide +kernel) (by decide +kernel)) (goodIn_sub (fun _ h => List.mem_cons_of_mem _ (List.mem_append_right _ h)) (by decide +kernel))
set_option maxRecDepth 20000 in
theorem gL_cover_X0_cover : GoodIn wsL_cover (wsV RL 20 RX0 yX0_cover wsX0_cover) := goodIn_app (goodIn_of _ (by decide +kernel)) ggL_cover_X0_cover
set_option maxRecDepth 20000 in
theorem ggL_clean_X0_clean : GoodIn wsL_clean wsX0_clean := goodIn_ca (goodIn_r _ [6, 7, 8, 9, 10, 5, 11, 12, 13, 14, 15, 16, 17, 18, 19, 20, 21, 22, 23, 24, 25, 26, 27] (by decide +kernel) (by decide +kernel)) (goodIn_sub (fun _ h => List.mem_cons_of_mem _ (List.mem_append_right _ h)) (by decide +kernel))
set_option maxRecDepth 20000 in
theorem gL_clean_X0_clean : GoodIn wsL_clean (wsV RL 24 RX0 yX0_clean wsX0_clean) := goodIn_app (goodIn_of _ (by decide +kernel)) ggL_clean_X0_clean
set_option maxRecDepth 20000 in
theorem ggL_unsave_X0_unsave : GoodIn wsL_unsave wsX0_unsave := goodIn_ca (goodIn_r _ [6, 7, 8, 9, 5, 10, 11, 12, 13, 14, 15, 16, 17, 18, 19, 20, 21, 22, 23, 24, 25, 26, 27] (by decide +kernel) (by decide +kernel)) (goodIn_sub (fun _ h => List.mem_cons_of_mem _ (List.mem_append_right _ h)) (by decide +kernel))
set_option maxRecDepth 20000 in
theorem gL_unsave_X0_unsave : GoodIn wsL_unsave (wsV RL 28 RX0 yX0_unsave wsX0_unsave) := goodIn_app (goodIn_of _ (by decide +kernel)) ggL_unsave_X0_unsave
set_option maxRecDepth 20000 in
theorem ggL_card_X0_card : GoodIn wsL_card wsX0_card := goodIn_ca (goodIn_r _ [6, 7, 8, 9, 10, 5, 11, 12, 13, 14, 15, 16, 17, 18, 19, 20, 21, 22, 23] (by decide +kernel) (by decide +kernel)) (goodIn_sub (fun _ h => List.mem_cons_of_mem _ (List.mem_append_right _ h)) (by decide +kernel))
set_option maxRecDepth 20000 in
theorem gL_card_X0_card : GoodIn wsL_card (wsV RL 32 RX0 yX0_card wsX0_card) := goodIn_app (goodIn_of _ (by decide +kernel)) ggL_card_X0_card
set_option maxRecDepth 20000 in
theorem ggL_nextDirty_X0_nextDirty : GoodIn wsL_nextDirty wsX0_nextDirty := goodIn_ca (goodIn_r _ [6, 7, 8, 9, 5, 10, 11, 12, 13, 14, 15, 16, 17, 18, 19, 20, 21, 22, 23] (by decide +kernel) (by decide +kernel)) (goodIn_sub (fun _ h => List.mem_cons_of_mem _ (List.mem_append_right _ h)) (by decide +kernel))
set_option maxRecDepth 20000 in
theorem gL_nextDirty_X0_nextDirty : GoodIn wsL_nextDirty (wsV RL 35 RX0 yX0_nextDirty wsX0_nextDirty) := goodIn_app (goodIn_of _ (by decide +kernel)) ggL_nextDirty_X0_nextDirty
set_option maxRecDepth 20000 in
theorem ggL_nextSaved_X0_nextSaved : GoodIn wsL_nextSaved wsX0_nextSaved := goodIn_ca (goodIn_r _ [6, 7, 8, 9, 5, 10, 11, 12, 13, 14, 15, 16, 17, 18, 19, 20, 21, 22, 23] (by decide +kernel) (by decide +kernel)) (goodIn_sub (fun _ h => List.mem_cons_of_mem _ (List.mem_append_right _ h)) (by decide +kernel))
set_option maxRecDepth 20000 in
theorem gL_nextSaved_X0_nextSaved : GoodIn wsL_nextSaved (wsV RL 38 RX0 yX0_nextSaved wsX0_nextSaved) := goodIn_app (goodIn_of _ (by decide +kernel)) ggL_nextSaved_X0_nextSaved
set_option maxRecDepth 20000 in
theorem ggL_count_X0_count : GoodIn wsL_count wsX0_count := goodIn_ca (goodIn_r _ [6, 7, 8, 9, 10, 11, 12, 5, 13, 14, 15, 16, 17, 18, 19, 20, 21, 22, 23] (by decide +kernel) (by decide +kernel)) (goodIn_sub (fun _ h => List.mem_cons_of_mem _ (List.mem_append_right _ h)) (by decide +kernel))
set_option maxRecDepth 20000 in
theorem gL_count_X0_count : GoodIn wsL_count (wsV RL 41 RX0 yX0_count wsX0_count) := goodIn_app (goodIn_of _ (by decide +kernel)) ggL_count_X0_count
set_option maxRecDepth 20000 in
theorem ggL_law_X0_init : GoodIn wsL_law wsX0_init := goodIn_r _ [8, 9, 10, 11, 12, 13, 14, 138, 139] (by decide +kernel) (by decide +kernel)
set_option maxRecDepth 20000 in
theorem gL_law_X0_init : GoodIn wsL_law (wsX0_init) := ggL_law_X0_init
set_option maxRecDepth 20000 in
theorem ggL_law_X1_init : GoodIn wsL_law wsX1_init := goodIn_r _ [17, 18, 10, 11, 19, 20, 21, 22, 140, 141, 142, 143] (by decide +kernel) (by decide +kernel)
set_option maxRecDepth 20000 in
theorem gL_law_X1_init : GoodIn wsL_law (wsX1_init) := ggL_law_X1_init
set_option maxRecDepth 20000 in
theorem ggL_law_L_space : GoodIn wsL_law wsL_space := goodIn_ca (goodIn_r _ [26, 27, 28, 29, 30, 2, 31, 32, 33, 14, 34, 35, 36, 37, 13, 38, 39, 40, 41, 42, 43, 44, 45, 46, 47, 48, 138, 139] (by decide +kernel) (by decide +kernel)) (goodIn_sub (fun _ h => List.mem_append_left _ (List.mem_append_right _ h)) (by decide +kernel))
set_option maxRecDepth 20000 in
theorem gL_law_L_space : GoodIn wsL_law (va_wsS RL 48 yL_space wsL_space) := goodIn_app (goodIn_of _ (by decide +kernel)) ggL_law_L_space
set_option maxRecDepth 20000 in
theorem ggL_law_X1_thrown : GoodIn wsL_law wsX1_thrown := goodIn_r _ [61, 57, 140, 141, 142, 143] (by decide +kernel) (by decide +kernel)
set_option maxRecDepth 20000 in
theorem gL_law_X1_thrown : GoodIn wsL_law (wsV RL 54 RX1 yX1_thrown wsX1_thrown) := goodIn_app (goodIn_of _ (by decide +kernel)) ggL_law_X1_thrown
set_option maxRecDepth 20000 in
theorem ggL_law_L_write : GoodIn wsL_law wsL_write := goodIn_ca (goodIn_r _ [64, 65, 66, 67, 68, 2, 69, 13, 70, 71, 72, 73, 74, 75, 14, 46, 47, 48, 138, 139] (by decide +kernel) (by decide +kernel)) (goodIn_sub (fun _ h => List.mem_append_right _ h) (by decide +kernel))
set_option maxRecDepth 20000 in
theorem gL_law_L_write : GoodIn wsL_law (va_wsS RL 58 yL_write wsL_write) := goodIn_app (goodIn_of _ (by decide +kernel)) ggL_law_L_write
set_option maxRecDepth 20000 in
theorem ggL_law_L_cover : GoodIn wsL_law wsL_cover := goodIn_ca (goodIn_r _ [78, 65, 79, 80, 81, 2, 82, 74, 75, 14, 13, 70, 71, 72, 73, 46, 47, 48, 138, 139] (by decide +kernel) (by decide +kernel)) (goodIn_sub (fun _ h => List.mem_append_right _ h) (by decide +kernel))
set_option maxRecDepth 20000 in
theorem gL_law_L_cover : GoodIn wsL_law (va_wsS RL 61 yL_cover wsL_cover) := goodIn_app (goodIn_of _ (by decide +kernel)) ggL_law_L_cover
set_option maxRecDepth 20000 in
theorem ggL_law_L_clean : GoodIn wsL_law wsL_clean := goodIn_ca (goodIn_r _ [85, 65, 86, 87, 88, 2, 89, 13, 90, 91, 92, 93, 74, 75, 42, 43, 44, 45, 14, 46, 47, 48, 94, 95, 96, 97, 138, 139] (by decide +kernel) (by decide +kernel)) (goodIn_sub (fun _ h => List.mem_append_right _ h) (by decide +kernel))
set_option maxRecDepth 20000 in
theorem gL_law_L_clean : GoodIn wsL_law (va_wsS RL 65 yL_clean wsL_clean) := goodIn_app (goodIn_of _ (by decide +kernel)) ggL_law_L_clean
set_option maxRecDepth 20000 in
theorem ggL_law_L_unsave : GoodIn wsL_law wsL_unsave := goodIn_ca (goodIn_r _ [100, 65, 101, 102, 103, 2, 104, 90, 91, 92, 93, 74, 75, 42, 43, 44, 45, 14, 46, 47, 48, 94, 95, 96, 97, 13, 138, 139] (by decide +kernel) (by decide +kernel)) (goodIn_sub (fun _ h => List.mem_append_right _ h) (by decide +kernel))
set_option maxRecDepth 20000 in
theorem gL_law_L_unsave : GoodIn wsL_law (va_wsS RL 69 yL_unsave wsL_unsave) := goodIn_app (goodIn_of _ (by decide +kernel)) ggL_law_L_unsave
set_option maxRecDepth 20000 in
theorem ggL_law_L_card : GoodIn wsL_law wsL_card := goodIn_ca (goodIn_r _ [107, 65, 108, 109, 110, 2, 111, 13, 90, 91, 92, 93, 74, 75, 42, 43, 44, 45, 14, 46, 47, 48, 138, 139] (by decide +kernel) (by decide +kernel)) (goodIn_sub (fun _ h => List.mem_append_right _ h) (by decide +kernel))
set_option maxRecDepth 20000 in
theorem gL_law_L_card : GoodIn wsL_law (va_wsS RL 72 yL_card wsL_card) := goodIn_app (goodIn_of _ (by decide +kernel)) ggL_law_L_card
set_option maxRecDepth 20000 in
theorem ggL_law_L_nextDirty : GoodIn wsL_law wsL_nextDirty := goodIn_ca (goodIn_r _ [114, 27, 115, 116, 117, 2, 118, 119, 120, 121, 122, 32, 33, 13, 42, 43, 44, 45, 14, 46, 47, 48, 138, 139] (by decide +kernel) (by decide +kernel)) (goodIn_sub (fun _ h => List.mem_append_left _ (List.mem_append_right _ h)) (by decide +kernel))
set_option maxRecDepth 20000 in
theorem gL_law_L_nextDirty : GoodIn wsL_law (va_wsS RL 75 yL_nextDirty wsL_nextDirty) := goodIn_app (goodIn_of _ (by decide +kernel)) ggL_law_L_nextDirty
set_option maxRecDepth 20000 in
theorem ggL_law_L_nextSaved : GoodIn wsL_law wsL_nextSaved := goodIn_ca (goodIn_r _ [125, 27, 126, 127, 128, 2, 129, 119, 120, 121, 122, 32, 33, 13, 42, 43, 44, 45, 14, 46, 47, 48, 138, 139] (by decide +kernel) (by decide +kernel)) (goodIn_sub (fun _ h => List.mem_append_left _ (List.mem_append_right _ h)) (by decide +kernel))
set_option maxRecDepth 20000 in
theorem gL_law_L_nextSaved : GoodIn wsL_law (va_wsS RL 78 yL_nextSaved wsL_nextSaved) := goodIn_app (goodIn_of _ (by decide +kernel)) ggL_law_L_nextSaved
set_option maxRecDepth 20000 in
theorem ggL_law_X0_clear : GoodIn wsL_law wsX0_clear := goodIn_r _ [37, 13, 38, 39, 40, 2, 41, 42, 43, 44, 45, 14, 46, 47, 48, 138, 139] (by decide +kernel) (by decide +kernel)
set_option maxRecDepth 20000 in
theorem gL_law_X0_clear : GoodIn wsL_law (wsV RL 81 RX0 yX0_clear wsX0_clear) := goodIn_app (goodIn_of _ (by decide +kernel)) ggL_law_X0_clear
set_option maxRecDepth 20000 in
theorem ggL_law_L_count : GoodIn wsL_law wsL_count := goodIn_ca (goodIn_r _ [133, 27, 134, 135, 136, 2, 137, 32, 33, 14, 42, 43, 44, 45, 46, 47, 48, 38, 39, 40, 41, 13, 138, 139] (by decide +kernel) (by decide +kernel)) (goodIn_sub (fun _ h => List.mem_append_left _ (List.mem_append_right _ h)) (by decide +kernel))
set_option maxRecDepth 20000 in
theorem gL_law_L_count : GoodIn wsL_law (va_wsS RL 85 yL_count wsL_count) := goodIn_app (goodIn_of _ (by decide +kernel)) ggL_law_L_count
set_option maxRecDepth 20000 in
theorem gX1_isCard_X1_cards : GoodIn wsX1_isCard (wsV RX1 23 RX1 yX1_cards wsX1_cards) := goodIn_of _ (by decide +kernel)
set_option maxRecDepth 20000 in
theorem gX1_write_X1_isCell : GoodIn wsX1_write (wsV RX1 35 RX1 yX1_isCell wsX1_isCell) := goodIn_of _ (by decide +kernel)
set_option maxRecDepth 20000 in
theorem gX1_write_X1_goes : GoodIn wsX1_write (wsV RX1 27 RX1 yX1_goes wsX1_goes) := goodIn_of _ (by decide +kernel)
set_option maxRecDepth 20000 in
theorem gX1_cover_X1_isCell : GoodIn wsX1_cover (wsV RX1 35 RX1 yX1_isCell wsX1_isCell) := goodIn_of _ (by decide +kernel)
set_option maxRecDepth 20000 in
theorem gX1_cover_X1_goes : GoodIn wsX1_cover (wsV RX1 27 RX1 yX1_goes wsX1_goes) := goodIn_of _ (by decide +kernel)
set_option maxRecDepth 20000 in
theorem gX1_cover_X1_cards : GoodIn wsX1_cover (wsV RX1 23 RX1 yX1_cards wsX1_cards) := goodIn_of _ (by decide +kernel)
set_option maxRecDepth 20000 in
theorem gX1_clean_X1_isCard : GoodIn wsX1_clean (wsV RX1 39 RX1 yX1_isCard wsX1_isCard) := goodIn_of _ (by decide +kernel)
set_option maxRecDepth 20000 in
theorem gX1_clean_X1_goes : GoodIn wsX1_clean (wsV RX1 27 RX1 yX1_goes wsX1_goes) := goodIn_of _ (by decide +kernel)
set_option maxRecDepth 20000 in
theorem gX1_unsave_X1_isCard : GoodIn wsX1_unsave (wsV RX1 39 RX1 yX1_isCard wsX1_isCard) := goodIn_of _ (by decide +kernel)
set_option maxRecDepth 20000 in
theorem gX1_unsave_X1_goes : GoodIn wsX1_unsave (wsV RX1 27 RX1 yX1_goes wsX1_goes) := goodIn_of _ (by decide +kernel)
set_option maxRecDepth 20000 in
theorem gX1_card_X1_isCard : GoodIn wsX1_card (wsV RX1 39 RX1 yX1_isCard wsX1_isCard) := goodIn_of _ (by decide +kernel)
set_option maxRecDepth 20000 in
theorem gX1_card_X1_goes : GoodIn wsX1_card (wsV RX1 27 RX1 yX1_goes wsX1_goes) := goodIn_of _ (by decide +kernel)
set_option maxRecDepth 20000 in
theorem gX1_nextDirty_X1_goes : GoodIn wsX1_nextDirty (wsV RX1 27 RX1 yX1_goes wsX1_goes) := goodIn_of _ (by decide +kernel)
set_option maxRecDepth 20000 in
theorem gX1_nextSaved_X1_goes : GoodIn wsX1_nextSaved (wsV RX1 27 RX1 yX1_goes wsX1_goes) := goodIn_of _ (by decide +kernel)
set_option maxRecDepth 20000 in
theorem gX1_clear_X1_many : GoodIn wsX1_clear (wsV RX1 31 RX1 yX1_many wsX1_many) := goodIn_of _ (by decide +kernel)
set_option maxRecDepth 20000 in
theorem gX1_count_X1_goes : GoodIn wsX1_count (wsV RX1 27 RX1 yX1_goes wsX1_goes) := goodIn_of _ (by decide +kernel)
set_option maxRecDepth 20000 in
theorem gX1_count_X1_cards : GoodIn wsX1_count (wsV RX1 23 RX1 yX1_cards wsX1_cards) := goodIn_of _ (by decide +kernel)
set_option maxRecDepth 20000 in
theorem gX1_count_X1_many : GoodIn wsX1_count (wsV RX1 31 RX1 yX1_many wsX1_many) := goodIn_of _ (by decide +kernel)
set_option maxRecDepth 20000 in
theorem gX1_space_X1_goes : GoodIn wsX1_space (wsV RX1 27 RX1 yX1_goes wsX1_goes) := goodIn_of _ (by decide +kernel)
set_option maxRecDepth 20000 in
theorem gX1_space_X1_many : GoodIn wsX1_space (wsV RX1 31 RX1 yX1_many wsX1_many) := goodIn_of _ (by decide +kernel)
set_option maxRecDepth 20000 in
theorem gL_law_X1_space : GoodIn lw_tbl (wsV RL 53 RX1 yX1_space wsX1_space) := goodIn_of _ (by decide +kernel)
set_option maxRecDepth 20000 in
theorem gL_law_X1_write : GoodIn lw_tbl (wsV RL 60 RX1 yX1_write wsX1_write) := goodIn_of _ (by decide +kernel)
set_option maxRecDepth 20000 in
theorem gL_law_X1_cover : GoodIn lw_tbl (wsV RL 64 RX1 yX1_cover wsX1_cover) := goodIn_of _ (by decide +kernel)
set_option maxRecDepth 20000 in
theorem gL_law_X1_clean : GoodIn lw_tbl (wsV RL 68 RX1 yX1_clean wsX1_clean) := goodIn_of _ (by decide +kernel)
set_option maxRecDepth 20000 in
theorem gL_law_X1_unsave : GoodIn lw_tbl (wsV RL 71 RX1 yX1_unsave wsX1_unsave) := goodIn_of _ (by decide +kernel)
set_option maxRecDepth 20000 in
theorem gL_law_X1_card : GoodIn lw_tbl (wsV RL 74 RX1 yX1_card wsX1_card) := goodIn_of _ (by decide +kernel)
set_option maxRecDepth 20000 in
theorem gL_law_X1_nextDirty : GoodIn lw_tbl (wsV RL 77 RX1 yX1_nextDirty wsX1_nextDirty) := goodIn_of _ (by decide +kernel)
set_option maxRecDepth 20000 in
theorem gL_law_X1_nextSaved : GoodIn lw_tbl (wsV RL 80 RX1 yX1_nextSaved wsX1_nextSaved) := goodIn_of _ (by decide +kernel)
set_option maxRecDepth 20000 in
theorem gL_law_X1_clear : GoodIn lw_tbl (wsV RL 84 RX1 yX1_clear wsX1_clear) := goodIn_of _ (by decide +kernel)
set_option maxRecDepth 20000 in
theorem gL_law_X1_count : GoodIn lw_tbl (wsV RL 87 RX1 yX1_count wsX1_count) := goodIn_of _ (by decide +kernel)
