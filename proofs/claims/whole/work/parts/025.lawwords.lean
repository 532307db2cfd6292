set_option maxRecDepth 20000 in
theorem wsL_law_ip1 : GoodIn lw_tbl wsL_law0_r1 := goodIn_p wsL_law0_r1 [69, 72] (by decide +kernel) (by decide +kernel)
set_option maxRecDepth 20000 in
theorem wsL_law_ip2 : GoodIn lw_tbl wsL_law0_r2 := goodIn_p wsL_law0_r2 [77, 84, 110] (by decide +kernel) (by decide +kernel)
set_option maxRecDepth 20000 in
theorem wsL_law_ip3 : GoodIn lw_tbl wsL_law0_r3 := goodIn_p wsL_law0_r3 [117, 217, 772] (by decide +kernel) (by decide +kernel)
set_option maxRecDepth 20000 in
theorem wsL_law_ip4 : GoodIn lw_tbl wsL_law0_r4 := goodIn_p wsL_law0_r4 [579, 503, 266] (by decide +kernel) (by decide +kernel)
set_option maxRecDepth 20000 in
theorem wsL_law_ip5 : GoodIn lw_tbl wsL_law0_r5 := goodIn_p wsL_law0_r5 [270, 274] (by decide +kernel) (by decide +kernel)
set_option maxRecDepth 20000 in
theorem wsL_law_ip6 : GoodIn lw_tbl wsL_law0_r6 := goodIn_p wsL_law0_r6 [278, 282, 286, 290] (by decide +kernel) (by decide +kernel)
set_option maxRecDepth 20000 in
theorem wsL_law_ip7 : GoodIn lw_tbl wsL_law0_r7 := goodIn_p wsL_law0_r7 [294, 298, 822, 826] (by decide +kernel) (by decide +kernel)
set_option maxRecDepth 20000 in
theorem wsL_law_ip8 : GoodIn lw_tbl wsL_law0_r8 := goodIn_p wsL_law0_r8 [833, 837, 840, 818, 604] (by decide +kernel) (by decide +kernel)
set_option maxRecDepth 20000 in
theorem wsL_law_ip9 : GoodIn lw_tbl wsL_law0_r9 := goodIn_p wsL_law0_r9 [844, 849, 614, 617] (by decide +kernel) (by decide +kernel)
set_option maxRecDepth 20000 in
theorem wsL_law_ip10 : GoodIn lw_tbl wsL_law0_r10 := goodIn_p wsL_law0_r10 [853, 857, 861, 640] (by decide +kernel) (by decide +kernel)
set_option maxRecDepth 20000 in
theorem wsL_law_ip11 : GoodIn lw_tbl wsL_law0_r11 := goodIn_p wsL_law0_r11 [382, 330, 865, 649] (by decide +kernel) (by decide +kernel)
set_option maxRecDepth 20000 in
theorem wsL_law_ip12 : GoodIn lw_tbl wsL_law0_r12 := goodIn_p wsL_law0_r12 [870, 656, 487, 876] (by decide +kernel) (by decide +kernel)
set_option maxRecDepth 20000 in
theorem wsL_law_ip13 : GoodIn lw_tbl wsL_law0_r13 := goodIn_p wsL_law0_r13 [663, 491, 881, 885, 890] (by decide +kernel) (by decide +kernel)
set_option maxRecDepth 20000 in
theorem wsL_law_ip14 : GoodIn lw_tbl wsL_law0_r14 := goodIn_p wsL_law0_r14 [670, 495, 894, 677] (by decide +kernel) (by decide +kernel)
set_option maxRecDepth 20000 in
theorem wsL_law_ip15 : GoodIn lw_tbl wsL_law0_r15 := goodIn_p wsL_law0_r15 [681, 477, 898, 903, 689] (by decide +kernel) (by decide +kernel)
set_option maxRecDepth 20000 in
theorem wsL_law_ip16 : GoodIn lw_tbl wsL_law0_r16 := goodIn_p wsL_law0_r16 [693, 907, 912] (by decide +kernel) (by decide +kernel)
set_option maxRecDepth 20000 in
theorem wsL_law_ip17 : GoodIn lw_tbl wsL_law0_r17 := goodIn_p wsL_law0_r17 [705, 920, 712, 342, 346] (by decide +kernel) (by decide +kernel)
set_option maxRecDepth 20000 in
theorem wsL_law_ip18 : GoodIn lw_tbl wsL_law0_r18 := goodIn_p wsL_law0_r18 [350, 354, 358, 361, 365, 370] (by decide +kernel) (by decide +kernel)
set_option maxRecDepth 20000 in
theorem wsL_law_ip19 : GoodIn lw_tbl wsL_law0_r19 := goodIn_p wsL_law0_r19 [378, 323, 387, 391, 395] (by decide +kernel) (by decide +kernel)
set_option maxRecDepth 20000 in
theorem wsL_law_ip20 : GoodIn lw_tbl wsL_law0_r20 := goodIn_p wsL_law0_r20 [399, 403, 407, 412, 416] (by decide +kernel) (by decide +kernel)
set_option maxRecDepth 20000 in
theorem wsL_law_ip21 : GoodIn lw_tbl wsL_law0_r21 := goodIn_p wsL_law0_r21 [420, 424, 429, 434, 319, 924] (by decide +kernel) (by decide +kernel)
set_option maxRecDepth 20000 in
theorem wsL_law_ip22 : GoodIn lw_tbl wsL_law0_r22 := goodIn_p wsL_law0_r22 [928, 932, 936, 940, 944] (by decide +kernel) (by decide +kernel)
set_option maxRecDepth 20000 in
theorem wsL_law_ip23 : GoodIn lw_tbl wsL_law0_r23 := goodIn_p wsL_law0_r23 [948, 952, 956, 960, 964, 968] (by decide +kernel) (by decide +kernel)
set_option maxRecDepth 20000 in
theorem wsL_law_ip24 : GoodIn lw_tbl wsL_law0_r24 := goodIn_p wsL_law0_r24 [262, 305, 310, 972, 976] (by decide +kernel) (by decide +kernel)
set_option maxRecDepth 20000 in
theorem wsL_law_ip25 : GoodIn lw_tbl wsL_law0_r25 := goodIn_p wsL_law0_r25 [721, 980, 500, 984, 988] (by decide +kernel) (by decide +kernel)
set_option maxRecDepth 20000 in
theorem wsL_law_ip26 : GoodIn lw_tbl wsL_law0_r26 := goodIn_p wsL_law0_r26 [315, 992, 996, 327, 1000] (by decide +kernel) (by decide +kernel)
set_option maxRecDepth 20000 in
theorem wsL_law_ip27 : GoodIn lw_tbl wsL_law0_r27 := goodIn_p wsL_law0_r27 [732, 338, 736, 374, 1004] (by decide +kernel) (by decide +kernel)
set_option maxRecDepth 20000 in
theorem wsL_law_ip28 : GoodIn lw_tbl wsL_law0_r28 := goodIn_p wsL_law0_r28 [1008, 1012, 1016, 1020, 744] (by decide +kernel) (by decide +kernel)
set_option maxRecDepth 20000 in
theorem wsL_law_ip29 : GoodIn lw_tbl wsL_law0_r29 := goodIn_p wsL_law0_r29 [1024, 334, 440, 1029, 1033, 445] (by decide +kernel) (by decide +kernel)
set_option maxRecDepth 20000 in
theorem wsL_law_ip30 : GoodIn lw_tbl wsL_law0_r30 := goodIn_p wsL_law0_r30 [449, 1037, 751, 1041] (by decide +kernel) (by decide +kernel)
set_option maxRecDepth 20000 in
theorem wsL_law_ip31 : GoodIn lw_tbl wsL_law0_r31 := goodIn_p wsL_law0_r31 [758, 1045, 453, 1050, 457] (by decide +kernel) (by decide +kernel)
set_option maxRecDepth 20000 in
theorem wsL_law_ip32 : GoodIn lw_tbl wsL_law0_r32 := goodIn_p wsL_law0_r32 [461, 465, 469, 473, 1054] (by decide +kernel) (by decide +kernel)
set_option maxRecDepth 20000 in
theorem wsL_law_ip33 : GoodIn lw_tbl wsL_law0_r33 := goodIn_p wsL_law0_r33 [1058, 1062, 1066, 1072] (by decide +kernel) (by decide +kernel)
set_option maxRecDepth 20000 in
theorem wsL_law_ip34 : GoodIn lw_tbl wsL_law0_r34 := goodIn_p wsL_law0_r34 [766, 1076, 481, 1080, 1084] (by decide +kernel) (by decide +kernel)
set_option maxRecDepth 20000 in
theorem wsL_law_ip35 : GoodIn lw_tbl wsL_law0_r35 := goodIn_p wsL_law0_r35 [1089] (by decide +kernel) (by decide +kernel)
theorem wsL_law_iwsX50 : GoodIn lw_tbl wsX50 := goodIn_p wsX50 [] (by decide +kernel) (by decide +kernel)
theorem wsL_law_iwsX60 : GoodIn lw_tbl wsX60 := goodIn_p wsX60 [] (by decide +kernel) (by decide +kernel)
theorem wsL_law_iwsX20 : GoodIn lw_tbl wsX20 := goodIn_p wsX20 [] (by decide +kernel) (by decide +kernel)
theorem wsL_law_iwsX00 : GoodIn lw_tbl wsX00 := goodIn_p wsX00 [] (by decide +kernel) (by decide +kernel)
theorem wsL_law_iwsX10 : GoodIn lw_tbl wsX10 := goodIn_p wsX10 [] (by decide +kernel) (by decide +kernel)
theorem wsL_law_iwsX40 : GoodIn lw_tbl wsX40 := goodIn_p wsX40 [] (by decide +kernel) (by decide +kernel)
theorem wsL_law_iwsX30 : GoodIn lw_tbl wsX30 := goodIn_p wsX30 [] (by decide +kernel) (by decide +kernel)
theorem wsL_law_in0 : ∀ w ∈ wsL_law0, w ∈ lw_tbl := fun w h => ((show GoodIn lw_tbl wsL_law0 from (goodIn_app (goodIn_app (goodIn_app (goodIn_app (goodIn_app (goodIn_app (goodIn_app (goodIn_app (goodIn_app wsL_law_ip1 (goodIn_app wsL_law_ip2 (goodIn_app wsL_law_ip3 (goodIn_app wsL_law_ip4 (goodIn_app wsL_law_ip5 (goodIn_app wsL_law_ip6 (goodIn_app wsL_law_ip7 (goodIn_app wsL_law_ip8 (goodIn_app wsL_law_ip9 (goodIn_app wsL_law_ip10 (goodIn_app wsL_law_ip11 (goodIn_app wsL_law_ip12 (goodIn_app wsL_law_ip13 (goodIn_app wsL_law_ip14 (goodIn_app wsL_law_ip15 (goodIn_app wsL_law_ip16 (goodIn_app wsL_law_ip17 (goodIn_app wsL_law_ip18 (goodIn_app wsL_law_ip19 (goodIn_app wsL_law_ip20 (goodIn_app wsL_law_ip21 (goodIn_app wsL_law_ip22 (goodIn_app wsL_law_ip23 (goodIn_app wsL_law_ip24 (goodIn_app wsL_law_ip25 (goodIn_app wsL_law_ip26 (goodIn_app wsL_law_ip27 (goodIn_app wsL_law_ip28 (goodIn_app wsL_law_ip29 (goodIn_app wsL_law_ip30 (goodIn_app wsL_law_ip31 (goodIn_app wsL_law_ip32 (goodIn_app wsL_law_ip33 (goodIn_app wsL_law_ip34 wsL_law_ip35)))))))))))))))))))))))))))))))))) wsL_law_iwsX50) wsL_law_iwsX60) wsL_law_iwsX20) wsL_law_iwsX00) wsL_law_iwsX10) wsL_law_iwsX40) wsL_law_iwsX30) (fun _ h => absurd h List.not_mem_nil))) w h).1
theorem wsL_law_x0 : ∀ w ∈ (vx_atS RX5 43 "java/lang/IllegalStateException" ["java/lang/RuntimeException", "java/lang/Exception"]).filter goodWord, w ∈ lw_tbl := by decide +kernel
theorem wsL_law_x1 : ∀ w ∈ (vx_atS RX5 228 "java/lang/IllegalArgumentException" ["java/lang/RuntimeException", "java/lang/Exception"]).filter goodWord, w ∈ lw_tbl := by decide +kernel
theorem wsL_law_x2 : ∀ w ∈ (vx_atS RX5 233 "java/lang/IndexOutOfBoundsException" ["java/lang/RuntimeException", "java/lang/Exception"]).filter goodWord, w ∈ lw_tbl := by decide +kernel
theorem wsL_law_in : ∀ w ∈ wsL_law, w ∈ lw_tbl := fun w h => (List.mem_append.mp h).elim (fun h => (List.mem_append.mp h).elim (fun h => (List.mem_append.mp h).elim (fun h => wsL_law_in0 w h) (fun h => wsL_law_x0 w h)) (fun h => wsL_law_x1 w h)) (fun h => wsL_law_x2 w h)
theorem inlX0 : ∀ w ∈ wsX00, w ∈ wsL_law := fun _ h => List.mem_append_left _ (List.mem_append_left _ (List.mem_append_left _ (List.mem_append_left _ (List.mem_append_left _ (List.mem_append_left _ (List.mem_append_left _ (List.mem_append_right _ h)))))))
theorem inX0 : ∀ w ∈ wsX00, w ∈ lw_tbl := fun w h => wsL_law_in w (inlX0 w h)
theorem inlX1 : ∀ w ∈ wsX10, w ∈ wsL_law := fun _ h => List.mem_append_left _ (List.mem_append_left _ (List.mem_append_left _ (List.mem_append_left _ (List.mem_append_left _ (List.mem_append_left _ (List.mem_append_right _ h))))))
theorem inX1 : ∀ w ∈ wsX10, w ∈ lw_tbl := fun w h => wsL_law_in w (inlX1 w h)
theorem inlX2 : ∀ w ∈ wsX20, w ∈ wsL_law := fun _ h => List.mem_append_left _ (List.mem_append_left _ (List.mem_append_left _ (List.mem_append_left _ (List.mem_append_left _ (List.mem_append_left _ (List.mem_append_left _ (List.mem_append_left _ (List.mem_append_right _ h))))))))
theorem inX2 : ∀ w ∈ wsX20, w ∈ lw_tbl := fun w h => wsL_law_in w (inlX2 w h)
theorem inlX3 : ∀ w ∈ wsX30, w ∈ wsL_law := fun _ h => List.mem_append_left _ (List.mem_append_left _ (List.mem_append_left _ (List.mem_append_left _ (List.mem_append_right _ h))))
theorem inX3 : ∀ w ∈ wsX30, w ∈ lw_tbl := fun w h => wsL_law_in w (inlX3 w h)
theorem inlX4 : ∀ w ∈ wsX40, w ∈ wsL_law := fun _ h => List.mem_append_left _ (List.mem_append_left _ (List.mem_append_left _ (List.mem_append_left _ (List.mem_append_left _ (List.mem_append_right _ h)))))
theorem inX4 : ∀ w ∈ wsX40, w ∈ lw_tbl := fun w h => wsL_law_in w (inlX4 w h)
theorem inlX5 : ∀ w ∈ wsX50, w ∈ wsL_law := fun _ h => List.mem_append_left _ (List.mem_append_left _ (List.mem_append_left _ (List.mem_append_left _ (List.mem_append_left _ (List.mem_append_left _ (List.mem_append_left _ (List.mem_append_left _ (List.mem_append_left _ (List.mem_append_left _ (List.mem_append_right _ h))))))))))
theorem inX5 : ∀ w ∈ wsX50, w ∈ lw_tbl := fun w h => wsL_law_in w (inlX5 w h)
theorem inlX6 : ∀ w ∈ wsX60, w ∈ wsL_law := fun _ h => List.mem_append_left _ (List.mem_append_left _ (List.mem_append_left _ (List.mem_append_left _ (List.mem_append_left _ (List.mem_append_left _ (List.mem_append_left _ (List.mem_append_left _ (List.mem_append_left _ (List.mem_append_right _ h)))))))))
theorem inX6 : ∀ w ∈ wsX60, w ∈ lw_tbl := fun w h => wsL_law_in w (inlX6 w h)
theorem inJ9 : ∀ w ∈ wsJ90, w ∈ lw_tbl := by decide +kernel
theorem inJ0 : ∀ w ∈ wsJ00, w ∈ lw_tbl := by decide +kernel
theorem inJ10 : ∀ w ∈ wsJ100, w ∈ lw_tbl := by decide +kernel
