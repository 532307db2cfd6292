set_option maxRecDepth 20000 in
theorem wsL_law_ip1 : GoodIn lw_tbl wsL_law0_r1 := goodIn_p wsL_law0_r1 [33, 36, 41] (by decide +kernel) (by decide +kernel)
set_option maxRecDepth 20000 in
theorem wsL_law_ip2 : GoodIn lw_tbl wsL_law0_r2 := goodIn_p wsL_law0_r2 [48, 74] (by decide +kernel) (by decide +kernel)
set_option maxRecDepth 20000 in
theorem wsL_law_ip3 : GoodIn lw_tbl wsL_law0_r3 := goodIn_p wsL_law0_r3 [81, 180, 561, 553, 557] (by decide +kernel) (by decide +kernel)
set_option maxRecDepth 20000 in
theorem wsL_law_ip4 : GoodIn lw_tbl wsL_law0_r4 := goodIn_p wsL_law0_r4 [565, 221, 300, 304] (by decide +kernel) (by decide +kernel)
set_option maxRecDepth 20000 in
theorem wsL_law_ip5 : GoodIn lw_tbl wsL_law0_r5 := goodIn_p wsL_law0_r5 [308] (by decide +kernel) (by decide +kernel)
set_option maxRecDepth 20000 in
theorem wsL_law_ip6 : GoodIn lw_tbl wsL_law0_r6 := goodIn_p wsL_law0_r6 [312, 316, 320, 324, 328] (by decide +kernel) (by decide +kernel)
set_option maxRecDepth 20000 in
theorem wsL_law_ip7 : GoodIn lw_tbl wsL_law0_r7 := goodIn_p wsL_law0_r7 [332, 572, 577, 580, 584] (by decide +kernel) (by decide +kernel)
set_option maxRecDepth 20000 in
theorem wsL_law_ip8 : GoodIn lw_tbl wsL_law0_r8 := goodIn_p wsL_law0_r8 [414, 392, 589, 218] (by decide +kernel) (by decide +kernel)
set_option maxRecDepth 20000 in
theorem wsL_law_ip9 : GoodIn lw_tbl wsL_law0_r9 := goodIn_p wsL_law0_r9 [292, 594, 599, 603] (by decide +kernel) (by decide +kernel)
set_option maxRecDepth 20000 in
theorem wsL_law_ip10 : GoodIn lw_tbl wsL_law0_r10 := goodIn_p wsL_law0_r10 [612, 296, 339, 344, 616, 366] (by decide +kernel) (by decide +kernel)
set_option maxRecDepth 20000 in
theorem wsL_law_ip11 : GoodIn lw_tbl wsL_law0_r11 := goodIn_p wsL_law0_r11 [370, 374, 378, 382, 385, 389] (by decide +kernel) (by decide +kernel)
set_option maxRecDepth 20000 in
theorem wsL_law_ip12 : GoodIn lw_tbl wsL_law0_r12 := goodIn_p wsL_law0_r12 [396, 409, 353, 419, 423] (by decide +kernel) (by decide +kernel)
set_option maxRecDepth 20000 in
theorem wsL_law_ip13 : GoodIn lw_tbl wsL_law0_r13 := goodIn_p wsL_law0_r13 [427, 431, 435, 439, 444] (by decide +kernel) (by decide +kernel)
set_option maxRecDepth 20000 in
theorem wsL_law_ip14 : GoodIn lw_tbl wsL_law0_r14 := goodIn_p wsL_law0_r14 [448, 452, 456, 461, 466, 471] (by decide +kernel) (by decide +kernel)
set_option maxRecDepth 20000 in
theorem wsL_law_ip15 : GoodIn lw_tbl wsL_law0_r15 := goodIn_p wsL_law0_r15 [622, 349, 626, 499, 549] (by decide +kernel) (by decide +kernel)
set_option maxRecDepth 20000 in
theorem wsL_law_ip16 : GoodIn lw_tbl wsL_law0_r16 := goodIn_p wsL_law0_r16 [630, 634, 638, 642, 545, 646] (by decide +kernel) (by decide +kernel)
set_option maxRecDepth 20000 in
theorem wsL_law_ip17 : GoodIn lw_tbl wsL_law0_r17 := goodIn_p wsL_law0_r17 [650, 357, 362, 400, 405] (by decide +kernel) (by decide +kernel)
set_option maxRecDepth 20000 in
theorem wsL_law_ip18 : GoodIn lw_tbl wsL_law0_r18 := goodIn_p wsL_law0_r18 [475, 479, 483, 488, 492, 496] (by decide +kernel) (by decide +kernel)
set_option maxRecDepth 20000 in
theorem wsL_law_ip19 : GoodIn lw_tbl wsL_law0_r19 := goodIn_p wsL_law0_r19 [539, 519] (by decide +kernel) (by decide +kernel)
theorem wsL_law_iwsX50 : GoodIn lw_tbl wsX50 := goodIn_p wsX50 [] (by decide +kernel) (by decide +kernel)
theorem wsL_law_iwsX20 : GoodIn lw_tbl wsX20 := goodIn_p wsX20 [] (by decide +kernel) (by decide +kernel)
theorem wsL_law_iwsX00 : GoodIn lw_tbl wsX00 := goodIn_p wsX00 [] (by decide +kernel) (by decide +kernel)
theorem wsL_law_iwsX10 : GoodIn lw_tbl wsX10 := goodIn_p wsX10 [] (by decide +kernel) (by decide +kernel)
theorem wsL_law_iwsX40 : GoodIn lw_tbl wsX40 := goodIn_p wsX40 [] (by decide +kernel) (by decide +kernel)
theorem wsL_law_iwsX30 : GoodIn lw_tbl wsX30 := goodIn_p wsX30 [] (by decide +kernel) (by decide +kernel)
theorem wsL_law_in0 : ∀ w ∈ wsL_law0, w ∈ lw_tbl := fun w h => ((show GoodIn lw_tbl wsL_law0 from (goodIn_app (goodIn_app (goodIn_app (goodIn_app (goodIn_app (goodIn_app (goodIn_app (goodIn_app wsL_law_ip1 (goodIn_app wsL_law_ip2 (goodIn_app wsL_law_ip3 (goodIn_app wsL_law_ip4 (goodIn_app wsL_law_ip5 (goodIn_app wsL_law_ip6 (goodIn_app wsL_law_ip7 (goodIn_app wsL_law_ip8 (goodIn_app wsL_law_ip9 (goodIn_app wsL_law_ip10 (goodIn_app wsL_law_ip11 (goodIn_app wsL_law_ip12 (goodIn_app wsL_law_ip13 (goodIn_app wsL_law_ip14 (goodIn_app wsL_law_ip15 (goodIn_app wsL_law_ip16 (goodIn_app wsL_law_ip17 (goodIn_app wsL_law_ip18 wsL_law_ip19)))))))))))))))))) wsL_law_iwsX50) wsL_law_iwsX20) wsL_law_iwsX00) wsL_law_iwsX10) wsL_law_iwsX40) wsL_law_iwsX30) (fun _ h => absurd h List.not_mem_nil))) w h).1
theorem wsL_law_x0 : ∀ w ∈ (vx_atS RX5 43 "java/lang/IllegalStateException" ["java/lang/RuntimeException", "java/lang/Exception"]).filter goodWord, w ∈ lw_tbl := by decide +kernel
theorem wsL_law_x1 : ∀ w ∈ (vx_atS RX5 228 "java/lang/IllegalArgumentException" ["java/lang/RuntimeException", "java/lang/Exception"]).filter goodWord, w ∈ lw_tbl := by decide +kernel
theorem wsL_law_x2 : ∀ w ∈ (vx_atS RX5 233 "java/lang/IndexOutOfBoundsException" ["java/lang/RuntimeException", "java/lang/Exception"]).filter goodWord, w ∈ lw_tbl := by decide +kernel
theorem wsL_law_in : ∀ w ∈ wsL_law, w ∈ lw_tbl := fun w h => (List.mem_append.mp h).elim (fun h => (List.mem_append.mp h).elim (fun h => (List.mem_append.mp h).elim (fun h => wsL_law_in0 w h) (fun h => wsL_law_x0 w h)) (fun h => wsL_law_x1 w h)) (fun h => wsL_law_x2 w h)
theorem inlX0 : ∀ w ∈ wsX00, w ∈ wsL_law := fun _ h => List.mem_append_left _ (List.mem_append_left _ (List.mem_append_left _ (List.mem_append_left _ (List.mem_append_left _ (List.mem_append_left _ (List.mem_append_left _ (List.mem_append_right _ h)))))))
theorem inX0 : ∀ w ∈ wsX00, w ∈ lw_tbl := fun w h => wsL_law_in w (inlX0 w h)
theorem inlX1 : ∀ w ∈ wsX10, w ∈ wsL_law := fun _ h => List.mem_append_left _ (List.mem_append_left _ (List.mem_append_left _ (List.mem_append_left _ (List.mem_append_left _ (List.mem_append_left _ (List.mem_append_right _ h))))))
theorem inX1 : ∀ w ∈ wsX10, w ∈ lw_tbl := fun w h => wsL_law_in w (inlX1 w h)
theorem inlX2 : ∀ w ∈ wsX20, w ∈ wsL_law := fun _ h => List.mem_append_left _ (List.mem_append_left _ (List.mem_append_left _ (List.mem_append_left _ (List.mem_append_left _ (List.mem_append_left _ (List.mem_append_left _ (List.mem_append_left _ (List.mem_append_right _ h))))))))
theorem inX2 : ∀ w ∈ wsX20, w ∈ lw_tbl := fun w h => wsL_law_in w (inlX2 w h)
theorem inlX3 : ∀ w ∈ wsX30, w ∈ wsL_law := fun _ h => List.mem_append_left _ (List.mem_append_left _ (List.mem_append_left _ (List.mem_append_left _ (List.mem_append_right _ h))))
theorem inX3 : ∀ w ∈ wsX30, w ∈ lw_tbl := fun w h => wsL_law_in w (inlX3 w h)
theorem inlX4 : ∀ w ∈ wsX40, w ∈ wsL_law := fun _ h => List.mem_append_left _ (List.mem_append_left _ (List.mem_append_left _ (List.mem_append_left _ (List.mem_append_left _ (List.mem_append_right _ h)))))
theorem inX4 : ∀ w ∈ wsX40, w ∈ lw_tbl := fun w h => wsL_law_in w (inlX4 w h)
theorem inlX5 : ∀ w ∈ wsX50, w ∈ wsL_law := fun _ h => List.mem_append_left _ (List.mem_append_left _ (List.mem_append_left _ (List.mem_append_left _ (List.mem_append_left _ (List.mem_append_left _ (List.mem_append_left _ (List.mem_append_left _ (List.mem_append_left _ (List.mem_append_right _ h)))))))))
theorem inX5 : ∀ w ∈ wsX50, w ∈ lw_tbl := fun w h => wsL_law_in w (inlX5 w h)
theorem inX6 : ∀ w ∈ wsX60, w ∈ lw_tbl := by decide +kernel
theorem inJ9 : ∀ w ∈ wsJ90, w ∈ lw_tbl := by decide +kernel
theorem inJ0 : ∀ w ∈ wsJ00, w ∈ lw_tbl := by decide +kernel
theorem inJ10 : ∀ w ∈ wsJ100, w ∈ lw_tbl := by decide +kernel
