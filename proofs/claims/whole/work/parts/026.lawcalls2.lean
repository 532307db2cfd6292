set_option maxRecDepth 20000 in
theorem ggL_law_X5_init : GoodIn wsL_law wsX5_init := goodIn_r _ [9, 10, 11, 12, 13, 14, 15, 16, 17, 18, 19, 20, 21, 22, 23, 24, 25, 26, 27, 28, 29, 30, 31, 32, 33, 34, 35, 36, 37, 38, 39, 40, 41, 42, 43, 44, 45, 46, 47, 48, 49, 50, 51, 52, 53, 54, 55, 56, 57, 58, 59, 60, 61, 837, 838, 839, 840, 841, 842, 843, 844, 845, 846, 847, 848, 849, 850, 851, 852, 819, 820, 821, 822, 823, 853, 854, 855, 856, 857, 858, 859, 860, 861, 862, 863, 864, 865, 866, 867, 868, 869, 870, 871] (by decide +kernel) (by decide +kernel)
set_option maxRecDepth 20000 in
theorem gL_law_X5_init : GoodIn wsL_law (wsX5_init) := ggL_law_X5_init
set_option maxRecDepth 20000 in
theorem ggL_law_X6_init : GoodIn wsL_law wsX6_init := goodIn_r _ [64, 65, 11, 12, 37, 66, 67, 68, 6, 69, 70, 824, 825, 826, 827, 828, 829, 830, 831, 832, 833, 834, 835, 836] (by decide +kernel) (by decide +kernel)
set_option maxRecDepth 20000 in
theorem gL_law_X6_init : GoodIn wsL_law (wsX6_init) := ggL_law_X6_init
set_option maxRecDepth 20000 in
theorem ggL_law_L_addRoof : GoodIn wsL_law wsL_addRoof := goodIn_ca (goodIn_ca (goodIn_r _ [74, 75, 76, 77, 78, 79, 2, 80, 81, 82, 83, 16, 84, 85, 86, 87, 88, 89, 90, 91, 92, 93, 94, 95, 18, 96, 97, 98, 15, 99, 27, 100, 101, 102, 28, 103, 104, 30, 36, 105, 38, 106, 107, 108, 109, 110, 39, 111, 112, 113, 114, 115, 116, 32, 117, 118, 119, 120, 121, 122, 123, 124, 125, 126, 127, 128, 129, 130, 131, 132, 133, 134, 35, 135, 136, 48, 137, 138, 139, 50, 140, 141, 142, 143, 144, 145, 146, 147, 148, 149, 150, 151, 152, 153, 819, 820, 821, 822, 823, 837, 838, 839, 840, 841, 842, 843, 844, 845, 846, 847, 848, 849, 850, 851, 852, 859, 860, 861, 862, 863, 864, 865, 866, 867, 868, 869, 870, 871] (by decide +kernel) (by decide +kernel)) (goodIn_sub (fun _ h => List.mem_append_left _ (List.mem_append_left _ (List.mem_append_right _ h))) (by decide +kernel))) (goodIn_sub (fun _ h => List.mem_append_left _ (List.mem_append_right _ h)) (by decide +kernel))
set_option maxRecDepth 20000 in
theorem gL_law_L_addRoof : GoodIn wsL_law (va_wsS RL 82 yL_addRoof wsL_addRoof) := goodIn_app (goodIn_of _ (by decide +kernel)) ggL_law_L_addRoof
set_option maxRecDepth 20000 in
theorem ggL_law_X6_addRoof : GoodIn wsL_law wsX6_addRoof := goodIn_r _ [157, 158, 159, 160, 161, 66, 162, 163, 5, 164, 165, 166, 167, 168, 169, 170, 171, 172, 173, 174, 67, 175, 176, 177, 824, 825, 826, 827, 828, 829, 830, 831, 832, 833, 834, 835, 836] (by decide +kernel) (by decide +kernel)
set_option maxRecDepth 20000 in
theorem gL_law_X6_addRoof : GoodIn wsL_law (wsV RL 87 RX6 yX6_addRoof wsX6_addRoof) := goodIn_app (goodIn_of _ (by decide +kernel)) ggL_law_X6_addRoof
set_option maxRecDepth 20000 in
theorem ggL_law_X6_thrown : GoodIn wsL_law wsX6_thrown := goodIn_r _ [181, 169, 824, 825, 826, 827, 828, 829, 830, 831, 832, 833, 834, 835, 836] (by decide +kernel) (by decide +kernel)
set_option maxRecDepth 20000 in
theorem gL_law_X6_thrown : GoodIn wsL_law (wsV RL 88 RX6 yX6_thrown wsX6_thrown) := goodIn_app (goodIn_of _ (by decide +kernel)) ggL_law_X6_thrown
set_option maxRecDepth 20000 in
theorem ggL_law_L_addUser : GoodIn wsL_law wsL_addUser := goodIn_ca (goodIn_ca (goodIn_r _ [184, 75, 76, 185, 186, 187, 2, 188, 81, 82, 16, 189, 190, 191, 86, 87, 88, 89, 90, 91, 92, 93, 94, 95, 18, 96, 97, 98, 15, 99, 27, 100, 101, 102, 28, 103, 104, 30, 36, 105, 38, 106, 107, 108, 109, 110, 39, 111, 112, 113, 114, 115, 116, 32, 117, 118, 119, 120, 121, 122, 123, 124, 125, 126, 127, 128, 129, 130, 131, 132, 133, 134, 35, 135, 136, 48, 137, 138, 139, 50, 140, 141, 142, 143, 144, 145, 146, 147, 148, 149, 150, 151, 152, 192, 819, 820, 821, 822, 823, 837, 838, 839, 840, 841, 842, 843, 844, 845, 846, 847, 848, 849, 850, 851, 852, 865, 866, 867, 859, 860, 861, 862, 863, 864, 868, 869, 870, 871] (by decide +kernel) (by decide +kernel)) (goodIn_sub (fun _ h => List.mem_append_left _ (List.mem_append_left _ (List.mem_append_right _ h))) (by decide +kernel))) (goodIn_sub (fun _ h => List.mem_append_left _ (List.mem_append_right _ h)) (by decide +kernel))
set_option maxRecDepth 20000 in
theorem gL_law_L_addUser : GoodIn wsL_law (va_wsS RL 91 yL_addUser wsL_addUser) := goodIn_app (goodIn_of _ (by decide +kernel)) ggL_law_L_addUser
set_option maxRecDepth 20000 in
theorem ggL_law_X6_addUser : GoodIn wsL_law wsX6_addUser := goodIn_r _ [196, 197, 198, 66, 162, 163, 5, 164, 165, 166, 167, 168, 169, 170, 171, 172, 173, 174, 67, 199, 200, 201, 824, 825, 826, 827, 828, 829, 830, 831, 832, 833, 834, 835, 836] (by decide +kernel) (by decide +kernel)
set_option maxRecDepth 20000 in
theorem gL_law_X6_addUser : GoodIn wsL_law (wsV RL 94 RX6 yX6_addUser wsX6_addUser) := goodIn_app (goodIn_of _ (by decide +kernel)) ggL_law_X6_addUser
set_option maxRecDepth 20000 in
theorem ggL_law_L_setDemand : GoodIn wsL_law wsL_setDemand := goodIn_ca (goodIn_ca (goodIn_r _ [204, 205, 75, 206, 207, 208, 2, 209, 16, 189, 190, 191, 210, 211, 212, 213, 214, 215, 86, 87, 88, 89, 90, 91, 92, 93, 94, 95, 18, 96, 97, 98, 15, 99, 27, 100, 101, 102, 28, 103, 104, 30, 36, 105, 38, 106, 107, 108, 109, 110, 39, 111, 112, 113, 114, 115, 116, 32, 117, 118, 119, 120, 121, 122, 123, 124, 125, 126, 127, 128, 129, 130, 131, 132, 133, 134, 35, 135, 136, 48, 137, 138, 139, 50, 140, 141, 142, 143, 144, 145, 146, 147, 148, 149, 150, 151, 152, 819, 820, 821, 822, 823, 837, 838, 839, 840, 841, 842, 843, 844, 845, 846, 847, 848, 849, 850, 851, 852, 865, 866, 867, 868, 869, 870, 871, 859, 860, 861, 862, 863, 864] (by decide +kernel) (by decide +kernel)) (goodIn_sub (fun _ h => List.mem_append_right _ h) (by decide +kernel))) (goodIn_sub (fun _ h => List.mem_append_left _ (List.mem_append_right _ h)) (by decide +kernel))
set_option maxRecDepth 20000 in
theorem gL_law_L_setDemand : GoodIn wsL_law (va_wsS RL 95 yL_setDemand wsL_setDemand) := goodIn_app (goodIn_of _ (by decide +kernel)) ggL_law_L_setDemand
set_option maxRecDepth 20000 in
theorem ggL_law_X6_setDemand : GoodIn wsL_law wsX6_setDemand := goodIn_r _ [219, 197, 66, 220, 221, 222, 5, 223, 162, 163, 164, 165, 166, 167, 168, 169, 170, 171, 172, 173, 174, 67, 224, 225, 226, 227, 199, 200, 201, 824, 825, 826, 827, 828, 829, 830, 831, 832, 833, 834, 835, 836] (by decide +kernel) (by decide +kernel)
set_option maxRecDepth 20000 in
theorem gL_law_X6_setDemand : GoodIn wsL_law (wsV RL 97 RX6 yX6_setDemand wsX6_setDemand) := goodIn_app (goodIn_of _ (by decide +kernel)) ggL_law_X6_setDemand
set_option maxRecDepth 20000 in
theorem ggL_law_L_setReservoir : GoodIn wsL_law wsL_setReservoir := goodIn_ca (goodIn_r _ [230, 75, 231, 232, 233, 2, 234, 235, 16, 236, 237, 238, 239, 86, 87, 88, 89, 90, 91, 92, 93, 94, 95, 18, 96, 97, 98, 15, 99, 27, 100, 101, 102, 28, 103, 104, 30, 36, 105, 38, 106, 107, 108, 109, 110, 39, 111, 112, 113, 114, 115, 116, 32, 117, 118, 119, 120, 121, 122, 123, 124, 125, 126, 127, 128, 129, 130, 131, 132, 133, 134, 35, 135, 136, 48, 137, 138, 139, 50, 140, 141, 142, 143, 144, 145, 146, 147, 148, 149, 150, 151, 152, 240, 241, 242, 243, 244, 245, 246, 247, 819, 820, 821, 822, 823, 837, 838, 839, 840, 841, 842, 843, 844, 845, 846, 847, 848, 849, 850, 851, 852, 859, 860, 861, 862, 863, 864, 865, 866, 867, 868, 869, 870, 871] (by decide +kernel) (by decide +kernel)) (goodIn_sub (fun _ h => List.mem_append_left _ (List.mem_append_right _ h)) (by decide +kernel))
set_option maxRecDepth 20000 in
theorem gL_law_L_setReservoir : GoodIn wsL_law (va_wsS RL 98 yL_setReservoir wsL_setReservoir) := goodIn_app (goodIn_of _ (by decide +kernel)) ggL_law_L_setReservoir
set_option maxRecDepth 20000 in
theorem ggL_law_X6_setReservoir : GoodIn wsL_law wsX6_setReservoir := goodIn_r _ [251, 159, 252, 66, 162, 163, 5, 164, 165, 166, 167, 168, 169, 170, 171, 172, 173, 174, 67, 824, 825, 826, 827, 828, 829, 830, 831, 832, 833, 834, 835, 836] (by decide +kernel) (by decide +kernel)
set_option maxRecDepth 20000 in
theorem gL_law_X6_setReservoir : GoodIn wsL_law (wsV RL 101 RX6 yX6_setReservoir wsX6_setReservoir) := goodIn_app (goodIn_of _ (by decide +kernel)) ggL_law_X6_setReservoir
set_option maxRecDepth 20000 in
theorem ggL_law_L_setWays : GoodIn wsL_law wsL_setWays := goodIn_ca (goodIn_r _ [255, 75, 256, 257, 258, 2, 259, 16, 260, 261, 262, 86, 87, 88, 89, 90, 91, 92, 93, 94, 95, 18, 96, 97, 98, 15, 99, 27, 100, 101, 102, 28, 103, 104, 30, 36, 105, 38, 106, 107, 108, 109, 110, 39, 111, 112, 113, 114, 115, 116, 32, 117, 118, 119, 120, 121, 122, 123, 124, 125, 126, 127, 128, 129, 130, 131, 132, 133, 134, 35, 135, 136, 48, 137, 138, 139, 50, 140, 141, 142, 143, 144, 145, 146, 147, 148, 149, 150, 151, 152, 819, 820, 821, 822, 823, 837, 838, 839, 840, 841, 842, 843, 844, 845, 846, 847, 848, 849, 850, 851, 852, 859, 860, 861, 862, 863, 864, 865, 866, 867, 868, 869, 870, 871] (by decide +kernel) (by decide +kernel)) (goodIn_sub (fun _ h => List.mem_append_left _ (List.mem_append_right _ h)) (by decide +kernel))
set_option maxRecDepth 20000 in
theorem gL_law_L_setWays : GoodIn wsL_law (va_wsS RL 102 yL_setWays wsL_setWays) := goodIn_app (goodIn_of _ (by decide +kernel)) ggL_law_L_setWays
set_option maxRecDepth 20000 in
theorem ggL_law_X6_setWays : GoodIn wsL_law wsX6_setWays := goodIn_r _ [266, 159, 267, 268, 66, 162, 163, 5, 164, 165, 166, 167, 168, 169, 170, 171, 172, 173, 174, 67, 824, 825, 826, 827, 828, 829, 830, 831, 832, 833, 834, 835, 836] (by decide +kernel) (by decide +kernel)
set_option maxRecDepth 20000 in
theorem gL_law_X6_setWays : GoodIn wsL_law (wsV RL 104 RX6 yX6_setWays wsX6_setWays) := goodIn_app (goodIn_of _ (by decide +kernel)) ggL_law_X6_setWays
set_option maxRecDepth 20000 in
theorem ggL_law_L_setting : GoodIn wsL_law wsL_setting := goodIn_ca (goodIn_r _ [271, 75, 272, 273, 274, 2, 275, 16, 86, 87, 88, 89, 90, 276, 277, 278, 15, 279, 27, 100, 101, 102, 28, 103, 104, 36, 280, 105, 110, 111, 112, 819, 820, 821, 822, 823, 837, 838, 839, 840, 841, 842, 843, 844, 845, 846, 847, 848, 849, 850, 851, 852, 865, 866, 867] (by decide +kernel) (by decide +kernel)) (goodIn_sub (fun _ h => List.mem_append_left _ (List.mem_append_right _ h)) (by decide +kernel))
set_option maxRecDepth 20000 in
theorem gL_law_L_setting : GoodIn wsL_law (va_wsS RL 105 yL_setting wsL_setting) := goodIn_app (goodIn_of _ (by decide +kernel)) ggL_law_L_setting
set_option maxRecDepth 20000 in
theorem ggL_law_X6_setting : GoodIn wsL_law wsX6_setting := goodIn_r _ [284, 285, 66, 162, 163, 5, 164, 165, 166, 167, 168, 169, 824, 825, 826, 827, 828, 829, 830, 831, 832, 833, 834, 835, 836] (by decide +kernel) (by decide +kernel)
set_option maxRecDepth 20000 in
theorem gL_law_X6_setting : GoodIn wsL_law (wsV RL 108 RX6 yX6_setting wsX6_setting) := goodIn_app (goodIn_of _ (by decide +kernel)) ggL_law_X6_setting
set_option maxRecDepth 20000 in
theorem ggL_law_L_roof : GoodIn wsL_law wsL_roof := goodIn_ca (goodIn_ca (goodIn_r _ [288, 205, 75, 289, 290, 291, 2, 292, 16, 84, 85, 211, 212, 213, 214, 215, 86, 87, 88, 89, 90, 293, 294, 295, 32, 296, 118, 119, 120, 121, 122, 819, 820, 821, 822, 823, 837, 838, 839, 840, 841, 842, 843, 844, 845, 846, 847, 848, 849, 850, 851, 852, 859, 860, 861, 862, 863, 864] (by decide +kernel) (by decide +kernel)) (goodIn_sub (fun _ h => List.mem_append_right _ h) (by decide +kernel))) (goodIn_sub (fun _ h => List.mem_append_left _ (List.mem_append_right _ h)) (by decide +kernel))
set_option maxRecDepth 20000 in
theorem gL_law_L_roof : GoodIn wsL_law (va_wsS RL 109 yL_roof wsL_roof) := goodIn_app (goodIn_of _ (by decide +kernel)) ggL_law_L_roof
set_option maxRecDepth 20000 in
theorem ggL_law_X6_roof : GoodIn wsL_law wsX6_roof := goodIn_r _ [300, 301, 302, 303, 304, 5, 305, 66, 162, 163, 164, 165, 166, 167, 168, 169, 306, 307, 308, 309, 175, 176, 177, 824, 825, 826, 827, 828, 829, 830, 831, 832, 833, 834, 835, 836] (by decide +kernel) (by decide +kernel)
set_option maxRecDepth 20000 in
theorem gL_law_X6_roof : GoodIn wsL_law (wsV RL 111 RX6 yX6_roof wsX6_roof) := goodIn_app (goodIn_of _ (by decide +kernel)) ggL_law_X6_roof
set_option maxRecDepth 20000 in
theorem ggL_law_L_user : GoodIn wsL_law wsL_user := goodIn_ca (goodIn_ca (goodIn_r _ [312, 205, 75, 313, 314, 315, 2, 316, 16, 189, 190, 191, 211, 212, 213, 214, 215, 86, 87, 88, 89, 90, 317, 318, 319, 50, 320, 141, 142, 143, 144, 819, 820, 821, 822, 823, 837, 838, 839, 840, 841, 842, 843, 844, 845, 846, 847, 848, 849, 850, 851, 852, 865, 866, 867, 868, 869, 870, 871] (by decide +kernel) (by decide +kernel)) (goodIn_sub (fun _ h => List.mem_append_right _ h) (by decide +kernel))) (goodIn_sub (fun _ h => List.mem_append_left _ (List.mem_append_right _ h)) (by decide +kernel))
set_option maxRecDepth 20000 in
theorem gL_law_L_user : GoodIn wsL_law (va_wsS RL 112 yL_user wsL_user) := goodIn_app (goodIn_of _ (by decide +kernel)) ggL_law_L_user
set_option maxRecDepth 20000 in
theorem ggL_law_X6_user : GoodIn wsL_law wsX6_user := goodIn_r _ [324, 268, 220, 221, 222, 5, 223, 66, 162, 163, 164, 165, 166, 167, 168, 169, 224, 225, 226, 227, 199, 200, 201, 824, 825, 826, 827, 828, 829, 830, 831, 832, 833, 834, 835, 836] (by decide +kernel) (by decide +kernel)
set_option maxRecDepth 20000 in
theorem gL_law_X6_user : GoodIn wsL_law (wsV RL 114 RX6 yX6_user wsX6_user) := goodIn_app (goodIn_of _ (by decide +kernel)) ggL_law_X6_user
set_option maxRecDepth 20000 in
theorem ggL_law_L_addRain : GoodIn wsL_law wsL_addRain := goodIn_ca (goodIn_ca (goodIn_r _ [327, 75, 76, 328, 329, 330, 2, 331, 16, 332, 86, 87, 88, 89, 90, 333, 334, 335, 336, 81, 82, 91, 92, 93, 94, 95, 18, 96, 97, 98, 15, 99, 27, 100, 101, 102, 28, 103, 104, 30, 36, 105, 38, 106, 107, 108, 109, 110, 39, 111, 112, 113, 114, 115, 116, 32, 117, 118, 119, 120, 121, 122, 123, 124, 125, 126, 127, 128, 129, 130, 131, 132, 133, 134, 35, 135, 136, 48, 137, 138, 139, 50, 140, 141, 142, 143, 144, 145, 146, 147, 148, 149, 150, 151, 152, 337, 338, 339, 340, 819, 820, 821, 822, 823, 837, 838, 839, 840, 841, 842, 843, 844, 845, 846, 847, 848, 849, 850, 851, 852, 859, 860, 861, 862, 863, 864, 865, 866, 867, 868, 869, 870, 871] (by decide +kernel) (by decide +kernel)) (goodIn_sub (fun _ h => List.mem_append_left _ (List.mem_append_right _ h)) (by decide +kernel))) (goodIn_sub (fun _ h => List.mem_append_left _ (List.mem_append_left _ (List.mem_append_right _ h))) (by decide +kernel))
set_option maxRecDepth 20000 in
theorem gL_law_L_addRain : GoodIn wsL_law (va_wsS RL 115 yL_addRain wsL_addRain) := goodIn_app (goodIn_of _ (by decide +kernel)) ggL_law_L_addRain
set_option maxRecDepth 20000 in
theorem ggL_law_X6_addRain : GoodIn wsL_law wsX6_addRain := goodIn_r _ [344, 345, 159, 66, 162, 163, 5, 164, 165, 166, 167, 168, 169, 170, 171, 172, 173, 174, 67, 346, 347, 348, 349, 824, 825, 826, 827, 828, 829, 830, 831, 832, 833, 834, 835, 836] (by decide +kernel) (by decide +kernel)
set_option maxRecDepth 20000 in
theorem gL_law_X6_addRain : GoodIn wsL_law (wsV RL 117 RX6 yX6_addRain wsX6_addRain) := goodIn_app (goodIn_of _ (by decide +kernel)) ggL_law_X6_addRain
set_option maxRecDepth 20000 in
theorem ggL_law_L_addRandomRain : GoodIn wsL_law wsL_addRandomRain := goodIn_ca (goodIn_ca (goodIn_r _ [352, 75, 76, 353, 354, 355, 2, 356, 357, 358, 359, 16, 332, 86, 87, 88, 89, 90, 333, 334, 335, 336, 81, 82, 91, 92, 93, 94, 95, 18, 96, 97, 98, 15, 99, 27, 100, 101, 102, 28, 103, 104, 30, 36, 105, 38, 106, 107, 108, 109, 110, 39, 111, 112, 113, 114, 115, 116, 32, 117, 118, 119, 120, 121, 122, 123, 124, 125, 126, 127, 128, 129, 130, 131, 132, 133, 134, 35, 135, 136, 48, 137, 138, 139, 50, 140, 141, 142, 143, 144, 145, 146, 147, 148, 149, 150, 151, 152, 360, 361, 362, 363, 364, 365, 337, 338, 339, 340, 819, 820, 821, 822, 823, 837, 838, 839, 840, 841, 842, 843, 844, 845, 846, 847, 848, 849, 850, 851, 852, 859, 860, 861, 862, 863, 864, 865, 866, 867, 868, 869, 870, 871] (by decide +kernel) (by decide +kernel)) (goodIn_sub (fun _ h => List.mem_append_left _ (List.mem_append_right _ h)) (by decide +kernel))) (goodIn_sub (fun _ h => List.mem_append_left _ (List.mem_append_left _ (List.mem_append_right _ h))) (by decide +kernel))
set_option maxRecDepth 20000 in
theorem gL_law_L_addRandomRain : GoodIn wsL_law (va_wsS RL 118 yL_addRandomRain wsL_addRandomRain) := goodIn_app (goodIn_of _ (by decide +kernel)) ggL_law_L_addRandomRain
set_option maxRecDepth 20000 in
theorem ggL_law_X6_addRandomRain : GoodIn wsL_law wsX6_addRandomRain := goodIn_r _ [369, 370, 159, 345, 66, 371, 162, 163, 5, 164, 165, 166, 167, 168, 169, 170, 171, 172, 173, 174, 67, 372, 373, 374, 375, 376, 377, 378, 379, 346, 347, 348, 349, 824, 825, 826, 827, 828, 829, 830, 831, 832, 833, 834, 835, 836] (by decide +kernel) (by decide +kernel)
set_option maxRecDepth 20000 in
theorem gL_law_X6_addRandomRain : GoodIn wsL_law (wsV RL 120 RX6 yX6_addRandomRain wsX6_addRandomRain) := goodIn_app (goodIn_of _ (by decide +kernel)) ggL_law_X6_addRandomRain
set_option maxRecDepth 20000 in
theorem ggL_law_L_rain : GoodIn wsL_law wsL_rain := goodIn_ca (goodIn_r _ [382, 205, 383, 384, 385, 2, 386, 16, 332, 387, 211, 212, 213, 214, 215, 819, 820, 821, 822, 823, 837, 838, 839, 840, 841, 842, 843, 844, 845, 846, 847, 848, 849, 850, 851, 852] (by decide +kernel) (by decide +kernel)) (goodIn_sub (fun _ h => List.mem_append_right _ h) (by decide +kernel))
set_option maxRecDepth 20000 in
theorem gL_law_L_rain : GoodIn wsL_law (va_wsS RL 121 yL_rain wsL_rain) := goodIn_app (goodIn_of _ (by decide +kernel)) ggL_law_L_rain
set_option maxRecDepth 20000 in
theorem ggL_law_X6_rain : GoodIn wsL_law wsX6_rain := goodIn_r _ [391, 66, 162, 163, 5, 164, 165, 166, 167, 168, 169, 824, 825, 826, 827, 828, 829, 830, 831, 832, 833, 834, 835, 836] (by decide +kernel) (by decide +kernel)
set_option maxRecDepth 20000 in
theorem gL_law_X6_rain : GoodIn wsL_law (wsV RL 123 RX6 yX6_rain wsX6_rain) := goodIn_app (goodIn_of _ (by decide +kernel)) ggL_law_X6_rain
set_option maxRecDepth 20000 in
theorem ggL_law_L_run : GoodIn wsL_law wsL_run := goodIn_ca (goodIn_ca (goodIn_r _ [394, 75, 76, 395, 396, 397, 2, 398, 81, 82, 16, 332, 399, 86, 87, 88, 89, 90, 91, 92, 93, 94, 95, 18, 96, 97, 98, 15, 99, 27, 100, 101, 102, 28, 103, 104, 30, 36, 105, 38, 106, 107, 108, 109, 110, 39, 111, 112, 113, 114, 115, 116, 32, 117, 118, 119, 120, 121, 122, 123, 124, 125, 126, 127, 128, 129, 130, 131, 132, 133, 134, 35, 135, 136, 48, 137, 138, 139, 50, 140, 141, 142, 143, 144, 145, 146, 147, 148, 149, 150, 151, 152, 400, 401, 402, 403, 404, 405, 406, 407, 408, 409, 410, 411, 412, 413, 414, 415, 416, 417, 418, 419, 420, 421, 246, 422, 423, 424, 425, 426, 427, 245, 247, 428, 429, 430, 431, 432, 433, 434, 435, 244, 436, 437, 438, 439, 440, 241, 242, 243, 441, 442, 443, 444, 445, 446, 447, 448, 449, 450, 451, 452, 453, 454, 455, 51, 456, 457, 458, 459, 460, 461, 462, 463, 464, 465, 466, 467, 468, 469, 470, 471, 472, 473, 474, 475, 476, 477, 478, 479, 480, 481, 482, 483, 484, 485, 486, 487, 488, 489, 490, 491, 492, 493, 494, 495, 496, 497, 498, 499, 819, 820, 821, 822, 823, 837, 838, 839, 840, 841, 842, 843, 844, 845, 846, 847, 848, 849, 850, 851, 852, 859, 860, 861, 862, 863, 864, 865, 866, 867, 868, 869, 870, 871] (by decide +kernel) (by decide +kernel)) (goodIn_sub (fun _ h => List.mem_append_left _ (List.mem_append_left _ (List.mem_append_right _ h))) (by decide +kernel))) (goodIn_sub (fun _ h => List.mem_append_left _ (List.mem_append_right _ h)) (by decide +kernel))
set_option maxRecDepth 20000 in
theorem gL_law_L_run : GoodIn wsL_law (va_wsS RL 124 yL_run wsL_run) := goodIn_app (goodIn_of _ (by decide +kernel)) ggL_law_L_run
set_option maxRecDepth 20000 in
theorem ggL_law_X6_run : GoodIn wsL_law wsX6_run := goodIn_r _ [503, 159, 66, 162, 163, 5, 164, 165, 166, 167, 168, 169, 170, 171, 172, 173, 174, 67, 504, 505, 506, 507, 508, 509, 510, 511, 512, 306, 307, 308, 309, 175, 176, 177, 513, 514, 515, 516, 517, 518, 519, 520, 69, 521, 522, 523, 524, 525, 526, 527, 528, 529, 224, 225, 226, 227, 199, 200, 201, 530, 531, 532, 533, 534, 535, 536, 537, 538, 539, 540, 541, 542, 543, 544, 545, 546, 547, 548, 549, 824, 825, 826, 827, 828, 829, 830, 831, 832, 833, 834, 835, 836] (by decide +kernel) (by decide +kernel)
set_option maxRecDepth 20000 in
theorem gL_law_X6_run : GoodIn wsL_law (wsV RL 126 RX6 yX6_run wsX6_run) := goodIn_app (goodIn_of _ (by decide +kernel)) ggL_law_X6_run
set_option maxRecDepth 20000 in
theorem ggL_law_X5_restart : GoodIn wsL_law wsX5_restart := goodIn_r _ [553, 16, 399, 91, 92, 93, 2, 94, 95, 18, 96, 97, 98, 15, 99, 27, 100, 101, 102, 28, 103, 104, 30, 36, 105, 38, 106, 107, 108, 109, 110, 39, 111, 112, 113, 114, 115, 116, 32, 117, 118, 119, 120, 121, 122, 123, 124, 125, 126, 127, 128, 129, 130, 131, 132, 133, 134, 35, 135, 136, 48, 137, 138, 139, 50, 140, 141, 142, 143, 144, 145, 146, 147, 148, 149, 150, 151, 152, 554, 555, 556, 557, 558, 559, 560, 561, 562, 563, 819, 820, 821, 822, 823, 837, 838, 839, 840, 841, 842, 843, 844, 845, 846, 847, 848, 849, 850, 851, 852, 859, 860, 861, 862, 863, 864, 865, 866, 867, 868, 869, 870, 871] (by decide +kernel) (by decide +kernel)
set_option maxRecDepth 20000 in
theorem gL_law_X5_restart : GoodIn wsL_law (wsV RL 127 RX5 yX5_restart wsX5_restart) := goodIn_app (goodIn_of _ (by decide +kernel)) ggL_law_X5_restart
set_option maxRecDepth 20000 in
theorem ggL_law_X6_restart : GoodIn wsL_law wsX6_restart := goodIn_r _ [567, 169, 66, 170, 171, 172, 5, 173, 174, 67, 568, 569, 570, 571, 175, 176, 177, 199, 200, 201, 824, 825, 826, 827, 828, 829, 830, 831, 832, 833, 834, 835, 836] (by decide +kernel) (by decide +kernel)
set_option maxRecDepth 20000 in
theorem gL_law_X6_restart : GoodIn wsL_law (wsV RL 130 RX6 yX6_restart wsX6_restart) := goodIn_app (goodIn_of _ (by decide +kernel)) ggL_law_X6_restart
set_option maxRecDepth 20000 in
theorem ggL_law_L_day : GoodIn wsL_law wsL_day := goodIn_ca (goodIn_ca (goodIn_r _ [574, 205, 75, 575, 576, 577, 2, 578, 16, 399, 211, 212, 213, 214, 215, 86, 87, 88, 89, 90, 579, 437, 438, 15, 439, 39, 819, 820, 821, 822, 823, 837, 838, 839, 840, 841, 842, 843, 844, 845, 846, 847, 848, 849, 850, 851, 852] (by decide +kernel) (by decide +kernel)) (goodIn_sub (fun _ h => List.mem_append_right _ h) (by decide +kernel))) (goodIn_sub (fun _ h => List.mem_append_left _ (List.mem_append_right _ h)) (by decide +kernel))
set_option maxRecDepth 20000 in
theorem gL_law_L_day : GoodIn wsL_law (va_wsS RL 131 yL_day wsL_day) := goodIn_app (goodIn_of _ (by decide +kernel)) ggL_law_L_day
set_option maxRecDepth 20000 in
theorem ggL_law_X6_day : GoodIn wsL_law wsX6_day := goodIn_r _ [583, 66, 198, 162, 163, 5, 164, 165, 166, 167, 168, 169, 824, 825, 826, 827, 828, 829, 830, 831, 832, 833, 834, 835, 836] (by decide +kernel) (by decide +kernel)
set_option maxRecDepth 20000 in
theorem gL_law_X6_day : GoodIn wsL_law (wsV RL 133 RX6 yX6_day wsX6_day) := goodIn_app (goodIn_of _ (by decide +kernel)) ggL_law_X6_day
set_option maxRecDepth 20000 in
theorem ggL_law_L_sum : GoodIn wsL_law wsL_sum := goodIn_ca (goodIn_r _ [586, 75, 587, 588, 589, 2, 590, 16, 239, 399, 86, 87, 88, 89, 90, 579, 437, 438, 15, 439, 39, 819, 820, 821, 822, 823, 837, 838, 839, 840, 841, 842, 843, 844, 845, 846, 847, 848, 849, 850, 851, 852] (by decide +kernel) (by decide +kernel)) (goodIn_sub (fun _ h => List.mem_append_left _ (List.mem_append_right _ h)) (by decide +kernel))
set_option maxRecDepth 20000 in
theorem gL_law_L_sum : GoodIn wsL_law (va_wsS RL 134 yL_sum wsL_sum) := goodIn_app (goodIn_of _ (by decide +kernel)) ggL_law_L_sum
set_option maxRecDepth 20000 in
theorem ggL_law_X6_sum : GoodIn wsL_law wsX6_sum := goodIn_r _ [594, 198, 162, 163, 5, 164, 165, 166, 167, 168, 169, 595, 596, 597, 598, 66, 824, 825, 826, 827, 828, 829, 830, 831, 832, 833, 834, 835, 836] (by decide +kernel) (by decide +kernel)
set_option maxRecDepth 20000 in
theorem gL_law_X6_sum : GoodIn wsL_law (wsV RL 136 RX6 yX6_sum wsX6_sum) := goodIn_app (goodIn_of _ (by decide +kernel)) ggL_law_X6_sum
set_option maxRecDepth 20000 in
theorem ggL_law_X5_reliability : GoodIn wsL_law wsX5_reliability := goodIn_r _ [602, 16, 399, 496, 497, 498, 15, 499, 436, 437, 438, 439, 39, 819, 820, 821, 822, 823, 837, 838, 839, 840, 841, 842, 843, 844, 845, 846, 847, 848, 849, 850, 851, 852] (by decide +kernel) (by decide +kernel)
set_option maxRecDepth 20000 in
theorem gL_law_X5_reliability : GoodIn wsL_law (wsV RL 137 RX5 yX5_reliability wsX5_reliability) := goodIn_app (goodIn_of _ (by decide +kernel)) ggL_law_X5_reliability
set_option maxRecDepth 20000 in
theorem ggL_law_X6_reliability : GoodIn wsL_law wsX6_reliability := goodIn_r _ [606, 169, 66, 607, 608, 609, 5, 610, 824, 825, 826, 827, 828, 829, 830, 831, 832, 833, 834, 835, 836] (by decide +kernel) (by decide +kernel)
set_option maxRecDepth 20000 in
theorem gL_law_X6_reliability : GoodIn wsL_law (wsV RL 141 RX6 yX6_reliability wsX6_reliability) := goodIn_app (goodIn_of _ (by decide +kernel)) ggL_law_X6_reliability
set_option maxRecDepth 20000 in
theorem ggL_law_X5_longestShortage : GoodIn wsL_law wsX5_longestShortage := goodIn_r _ [614, 16, 399, 615, 245, 246, 247, 496, 497, 498, 15, 499, 436, 437, 438, 439, 39, 819, 820, 821, 822, 823, 837, 838, 839, 840, 841, 842, 843, 844, 845, 846, 847, 848, 849, 850, 851, 852] (by decide +kernel) (by decide +kernel)
set_option maxRecDepth 20000 in
theorem gL_law_X5_longestShortage : GoodIn wsL_law (wsV RL 142 RX5 yX5_longestShortage wsX5_longestShortage) := goodIn_app (goodIn_of _ (by decide +kernel)) ggL_law_X5_longestShortage
set_option maxRecDepth 20000 in
theorem ggL_law_X6_longestShortage : GoodIn wsL_law wsX6_longestShortage := goodIn_r _ [619, 169, 66, 607, 608, 609, 5, 610, 824, 825, 826, 827, 828, 829, 830, 831, 832, 833, 834, 835, 836] (by decide +kernel) (by decide +kernel)
set_option maxRecDepth 20000 in
theorem gL_law_X6_longestShortage : GoodIn wsL_law (wsV RL 145 RX6 yX6_longestShortage wsX6_longestShortage) := goodIn_app (goodIn_of _ (by decide +kernel)) ggL_law_X6_longestShortage
set_option maxRecDepth 20000 in
theorem ggL_law_L_shortDaysWith : GoodIn wsL_law wsL_shortDaysWith := goodIn_ca (goodIn_r _ [622, 75, 623, 624, 625, 2, 626, 235, 17, 86, 87, 88, 89, 90, 627, 628, 629, 630, 16, 332, 96, 97, 98, 15, 99, 27, 100, 101, 102, 28, 103, 104, 30, 36, 105, 38, 106, 107, 108, 109, 110, 39, 111, 112, 113, 114, 115, 116, 32, 117, 118, 119, 120, 121, 122, 123, 124, 125, 126, 127, 128, 129, 130, 131, 132, 133, 134, 35, 135, 136, 48, 137, 138, 139, 50, 140, 141, 142, 143, 144, 145, 146, 147, 148, 149, 150, 151, 152, 554, 555, 556, 557, 558, 559, 560, 561, 562, 563, 400, 401, 402, 403, 404, 405, 406, 407, 408, 409, 410, 411, 412, 413, 414, 415, 416, 417, 418, 419, 420, 421, 246, 422, 423, 424, 425, 426, 427, 245, 247, 428, 429, 430, 431, 631, 632, 633, 634, 236, 237, 635, 238, 636, 637, 638, 639, 640, 433, 434, 435, 244, 436, 437, 438, 439, 440, 241, 242, 243, 441, 442, 443, 444, 445, 446, 447, 448, 449, 450, 451, 452, 453, 454, 455, 51, 456, 457, 458, 459, 460, 461, 462, 463, 464, 465, 466, 467, 468, 469, 470, 471, 472, 473, 474, 475, 476, 477, 478, 479, 480, 481, 482, 483, 484, 485, 486, 487, 488, 489, 490, 491, 492, 493, 494, 495, 641, 497, 498, 499, 819, 820, 821, 822, 823, 837, 838, 839, 840, 841, 842, 843, 844, 845, 846, 847, 848, 849, 850, 851, 852, 859, 860, 861, 862, 863, 864, 865, 866, 867, 868, 869, 870, 871] (by decide +kernel) (by decide +kernel)) (goodIn_sub (fun _ h => List.mem_append_left _ (List.mem_append_right _ h)) (by decide +kernel))
set_option maxRecDepth 20000 in
theorem gL_law_L_shortDaysWith : GoodIn wsL_law (va_wsS RL 146 yL_shortDaysWith wsL_shortDaysWith) := goodIn_app (goodIn_of _ (by decide +kernel)) ggL_law_L_shortDaysWith
set_option maxRecDepth 20000 in
theorem ggL_law_X6_shortDaysWith : GoodIn wsL_law wsX6_shortDaysWith := goodIn_r _ [645, 159, 252, 162, 163, 5, 164, 165, 166, 167, 168, 169, 646, 647, 648, 649, 68, 66, 650, 651, 652, 653, 654, 655, 656, 657, 69, 568, 569, 570, 571, 175, 176, 177, 199, 200, 201, 504, 505, 506, 507, 508, 509, 510, 511, 512, 306, 307, 308, 309, 513, 514, 515, 516, 517, 518, 519, 520, 521, 522, 523, 524, 525, 526, 527, 528, 529, 224, 225, 226, 227, 530, 531, 532, 533, 534, 535, 536, 537, 538, 539, 540, 541, 542, 543, 544, 545, 546, 547, 548, 549, 658, 659, 660, 661, 824, 825, 826, 827, 828, 829, 830, 831, 832, 833, 834, 835, 836] (by decide +kernel) (by decide +kernel)
set_option maxRecDepth 20000 in
theorem gL_law_X6_shortDaysWith : GoodIn wsL_law (wsV RL 148 RX6 yX6_shortDaysWith wsX6_shortDaysWith) := goodIn_app (goodIn_of _ (by decide +kernel)) ggL_law_X6_shortDaysWith
set_option maxRecDepth 20000 in
theorem ggL_law_L_capacityFor : GoodIn wsL_law wsL_capacityFor := goodIn_ca (goodIn_r _ [664, 75, 665, 666, 667, 2, 668, 235, 17, 86, 87, 88, 89, 90, 627, 628, 629, 630, 16, 332, 96, 97, 98, 15, 99, 27, 100, 101, 102, 28, 103, 104, 30, 36, 105, 38, 106, 107, 108, 109, 110, 39, 111, 112, 113, 114, 115, 116, 32, 117, 118, 119, 120, 121, 122, 123, 124, 125, 126, 127, 128, 129, 130, 131, 132, 133, 134, 35, 135, 136, 48, 137, 138, 139, 50, 140, 141, 142, 143, 144, 145, 146, 147, 148, 149, 150, 151, 152, 554, 555, 556, 557, 558, 559, 560, 561, 562, 563, 400, 401, 402, 403, 404, 405, 406, 407, 408, 409, 410, 411, 412, 413, 414, 415, 416, 417, 418, 419, 420, 421, 246, 422, 423, 424, 425, 426, 427, 245, 247, 428, 429, 430, 431, 631, 632, 633, 634, 236, 237, 635, 238, 636, 637, 638, 639, 640, 433, 434, 435, 244, 436, 437, 438, 439, 440, 241, 242, 243, 441, 442, 443, 444, 445, 446, 447, 448, 449, 450, 451, 452, 453, 454, 455, 51, 456, 457, 458, 459, 460, 461, 462, 463, 464, 465, 466, 467, 468, 469, 470, 471, 472, 473, 474, 475, 476, 477, 478, 479, 480, 481, 482, 483, 484, 485, 486, 487, 488, 489, 490, 491, 492, 493, 494, 495, 641, 497, 498, 499, 819, 820, 821, 822, 823, 837, 838, 839, 840, 841, 842, 843, 844, 845, 846, 847, 848, 849, 850, 851, 852, 859, 860, 861, 862, 863, 864, 865, 866, 867, 868, 869, 870, 871] (by decide +kernel) (by decide +kernel)) (goodIn_sub (fun _ h => List.mem_append_left _ (List.mem_append_right _ h)) (by decide +kernel))
set_option maxRecDepth 20000 in
theorem gL_law_L_capacityFor : GoodIn wsL_law (va_wsS RL 149 yL_capacityFor wsL_capacityFor) := goodIn_app (goodIn_of _ (by decide +kernel)) ggL_law_L_capacityFor
set_option maxRecDepth 20000 in
theorem ggL_law_X6_capacityFor : GoodIn wsL_law wsX6_capacityFor := goodIn_r _ [672, 159, 673, 162, 163, 5, 164, 165, 166, 167, 168, 169, 646, 647, 648, 649, 68, 66, 650, 651, 652, 653, 654, 655, 656, 657, 69, 568, 569, 570, 571, 175, 176, 177, 199, 200, 201, 504, 505, 506, 507, 508, 509, 510, 511, 512, 306, 307, 308, 309, 513, 514, 515, 516, 517, 518, 519, 520, 521, 522, 523, 524, 525, 526, 527, 528, 529, 224, 225, 226, 227, 530, 531, 532, 533, 534, 535, 536, 537, 538, 539, 540, 541, 542, 543, 544, 545, 546, 547, 548, 549, 658, 659, 660, 661, 824, 825, 826, 827, 828, 829, 830, 831, 832, 833, 834, 835, 836] (by decide +kernel) (by decide +kernel)
set_option maxRecDepth 20000 in
theorem gL_law_X6_capacityFor : GoodIn wsL_law (wsV RL 151 RX6 yX6_capacityFor wsX6_capacityFor) := goodIn_app (goodIn_of _ (by decide +kernel)) ggL_law_X6_capacityFor
set_option maxRecDepth 20000 in
theorem ggL_law_X5_bestRule : GoodIn wsL_law wsX5_bestRule := goodIn_r _ [677, 17, 260, 189, 332, 627, 628, 629, 2, 630, 16, 96, 97, 98, 15, 99, 27, 100, 101, 102, 28, 103, 104, 30, 36, 105, 38, 106, 107, 108, 109, 110, 39, 111, 112, 113, 114, 115, 116, 32, 117, 118, 119, 120, 121, 122, 123, 124, 125, 126, 127, 128, 129, 130, 131, 132, 133, 134, 35, 135, 136, 48, 137, 138, 139, 50, 140, 141, 142, 143, 144, 145, 146, 147, 148, 149, 150, 151, 152, 554, 555, 556, 557, 558, 559, 560, 561, 562, 563, 400, 401, 402, 403, 404, 405, 406, 407, 408, 409, 410, 411, 412, 413, 414, 415, 416, 417, 418, 419, 420, 421, 246, 422, 423, 424, 425, 426, 427, 245, 247, 428, 429, 430, 431, 636, 637, 638, 639, 640, 433, 434, 435, 244, 436, 437, 438, 439, 440, 241, 242, 243, 441, 442, 443, 444, 445, 446, 447, 448, 449, 450, 451, 452, 453, 454, 455, 51, 456, 457, 458, 459, 460, 461, 462, 463, 464, 465, 466, 467, 468, 469, 470, 471, 472, 473, 474, 475, 476, 477, 478, 479, 480, 481, 482, 483, 484, 485, 486, 487, 488, 489, 490, 491, 492, 493, 494, 495, 641, 497, 498, 499, 678, 679, 680, 681, 682, 819, 820, 821, 822, 823, 837, 838, 839, 840, 841, 842, 843, 844, 845, 846, 847, 848, 849, 850, 851, 852, 859, 860, 861, 862, 863, 864, 865, 866, 867, 868, 869, 870, 871] (by decide +kernel) (by decide +kernel)
set_option maxRecDepth 20000 in
theorem gL_law_X5_bestRule : GoodIn wsL_law (wsV RL 152 RX5 yX5_bestRule wsX5_bestRule) := goodIn_app (goodIn_of _ (by decide +kernel)) ggL_law_X5_bestRule
set_option maxRecDepth 20000 in
theorem ggL_law_X6_bestRule : GoodIn wsL_law wsX6_bestRule := goodIn_r _ [686, 169, 66, 646, 647, 648, 5, 649, 68, 654, 655, 656, 657, 69, 568, 569, 570, 571, 175, 176, 177, 199, 200, 201, 504, 505, 506, 507, 508, 509, 510, 511, 512, 306, 307, 308, 309, 513, 514, 515, 516, 517, 518, 519, 520, 521, 522, 523, 524, 525, 526, 527, 528, 529, 224, 225, 226, 227, 530, 531, 532, 533, 534, 535, 536, 537, 538, 539, 540, 541, 542, 543, 544, 545, 546, 547, 548, 549, 687, 688, 689, 690, 658, 659, 660, 661, 824, 825, 826, 827, 828, 829, 830, 831, 832, 833, 834, 835, 836] (by decide +kernel) (by decide +kernel)
set_option maxRecDepth 20000 in
theorem gL_law_X6_bestRule : GoodIn wsL_law (wsV RL 155 RX6 yX6_bestRule wsX6_bestRule) := goodIn_app (goodIn_of _ (by decide +kernel)) ggL_law_X6_bestRule
set_option maxRecDepth 20000 in
theorem ggL_law_X5_sustainable : GoodIn wsL_law wsX5_sustainable := goodIn_r _ [694, 17, 189, 16, 627, 628, 629, 2, 630, 332, 96, 97, 98, 15, 99, 27, 100, 101, 102, 28, 103, 104, 30, 36, 105, 38, 106, 107, 108, 109, 110, 39, 111, 112, 113, 114, 115, 116, 32, 117, 118, 119, 120, 121, 122, 123, 124, 125, 126, 127, 128, 129, 130, 131, 132, 133, 134, 35, 135, 136, 48, 137, 138, 139, 50, 140, 141, 142, 143, 144, 145, 146, 147, 148, 149, 150, 151, 152, 554, 555, 556, 557, 558, 559, 560, 561, 562, 563, 400, 401, 402, 403, 404, 405, 406, 407, 408, 409, 410, 411, 412, 413, 414, 415, 416, 417, 418, 419, 420, 421, 246, 422, 423, 424, 425, 426, 427, 245, 247, 428, 429, 430, 431, 695, 696, 697, 698, 451, 636, 637, 638, 639, 640, 433, 434, 435, 244, 436, 437, 438, 439, 440, 241, 242, 243, 441, 442, 443, 444, 445, 446, 447, 448, 449, 450, 452, 453, 454, 455, 51, 456, 457, 458, 459, 460, 461, 462, 463, 464, 465, 466, 467, 468, 469, 470, 471, 472, 473, 474, 475, 476, 477, 478, 479, 480, 481, 482, 483, 484, 485, 486, 487, 488, 489, 490, 491, 492, 493, 494, 495, 641, 497, 498, 499, 819, 820, 821, 822, 823, 837, 838, 839, 840, 841, 842, 843, 844, 845, 846, 847, 848, 849, 850, 851, 852, 859, 860, 861, 862, 863, 864, 865, 866, 867, 868, 869, 870, 871] (by decide +kernel) (by decide +kernel)
set_option maxRecDepth 20000 in
theorem gL_law_X5_sustainable : GoodIn wsL_law (wsV RL 156 RX5 yX5_sustainable wsX5_sustainable) := goodIn_app (goodIn_of _ (by decide +kernel)) ggL_law_X5_sustainable
set_option maxRecDepth 20000 in
theorem ggL_law_X6_sustainable : GoodIn wsL_law wsX6_sustainable := goodIn_r _ [702, 169, 66, 646, 647, 648, 5, 649, 68, 199, 200, 201, 224, 225, 226, 227, 654, 655, 656, 657, 69, 568, 569, 570, 571, 175, 176, 177, 504, 505, 506, 507, 508, 509, 510, 511, 512, 306, 307, 308, 309, 513, 514, 515, 516, 517, 518, 519, 520, 521, 522, 523, 524, 525, 526, 527, 528, 529, 530, 531, 532, 533, 534, 535, 536, 537, 538, 539, 540, 541, 542, 543, 544, 545, 546, 547, 548, 549, 658, 659, 660, 661, 824, 825, 826, 827, 828, 829, 830, 831, 832, 833, 834, 835, 836] (by decide +kernel) (by decide +kernel)
set_option maxRecDepth 20000 in
theorem gL_law_X6_sustainable : GoodIn wsL_law (wsV RL 159 RX6 yX6_sustainable wsX6_sustainable) := goodIn_app (goodIn_of _ (by decide +kernel)) ggL_law_X6_sustainable
set_option maxRecDepth 20000 in
theorem ggL_law_L_gutterLoss : GoodIn wsL_law wsL_gutterLoss := goodIn_ca (goodIn_r _ [705, 205, 706, 707, 708, 2, 709, 16, 84, 17, 85, 710, 211, 212, 213, 214, 215, 627, 628, 629, 630, 332, 96, 97, 98, 15, 99, 27, 100, 101, 102, 28, 103, 104, 30, 36, 105, 38, 106, 107, 108, 109, 110, 39, 111, 112, 113, 114, 115, 116, 32, 117, 118, 119, 120, 121, 122, 123, 124, 125, 126, 127, 128, 129, 130, 131, 132, 133, 134, 35, 135, 136, 48, 137, 138, 139, 50, 140, 141, 142, 143, 144, 145, 146, 147, 148, 149, 150, 151, 152, 554, 555, 556, 557, 558, 559, 560, 561, 562, 563, 400, 401, 402, 403, 404, 405, 406, 407, 408, 409, 410, 411, 412, 413, 414, 415, 416, 417, 418, 419, 420, 421, 246, 422, 423, 424, 425, 426, 427, 245, 247, 428, 429, 430, 431, 819, 820, 821, 822, 823, 837, 838, 839, 840, 841, 842, 843, 844, 845, 846, 847, 848, 849, 850, 851, 852, 859, 860, 861, 862, 863, 864, 865, 866, 867, 868, 869, 870, 871] (by decide +kernel) (by decide +kernel)) (goodIn_sub (fun _ h => List.mem_append_right _ h) (by decide +kernel))
set_option maxRecDepth 20000 in
theorem gL_law_L_gutterLoss : GoodIn wsL_law (va_wsS RL 160 yL_gutterLoss wsL_gutterLoss) := goodIn_app (goodIn_of _ (by decide +kernel)) ggL_law_L_gutterLoss
set_option maxRecDepth 20000 in
theorem ggL_law_X6_gutterLoss : GoodIn wsL_law wsX6_gutterLoss := goodIn_r _ [714, 69, 302, 303, 304, 5, 305, 66, 162, 163, 164, 165, 166, 167, 168, 169, 646, 647, 648, 649, 68, 654, 655, 656, 657, 568, 569, 570, 571, 175, 176, 177, 199, 200, 201, 504, 505, 506, 507, 508, 509, 510, 511, 512, 306, 307, 308, 309, 513, 514, 515, 516, 517, 518, 519, 520, 521, 522, 523, 524, 525, 526, 527, 528, 529, 224, 225, 226, 227, 530, 531, 532, 533, 534, 535, 536, 537, 538, 539, 540, 541, 542, 543, 544, 545, 546, 547, 548, 549, 658, 659, 660, 661, 824, 825, 826, 827, 828, 829, 830, 831, 832, 833, 834, 835, 836] (by decide +kernel) (by decide +kernel)
set_option maxRecDepth 20000 in
theorem gL_law_X6_gutterLoss : GoodIn wsL_law (wsV RL 162 RX6 yX6_gutterLoss wsX6_gutterLoss) := goodIn_app (goodIn_of _ (by decide +kernel)) ggL_law_X6_gutterLoss
set_option maxRecDepth 20000 in
theorem ggL_law_L_append : GoodIn wsL_law wsL_append := goodIn_ca (goodIn_ca (goodIn_r _ [717, 75, 76, 718, 719, 720, 2, 721, 81, 82, 22, 722, 723, 86, 87, 88, 89, 90, 819, 820, 821, 822, 823, 853, 854, 855, 856, 857, 858] (by decide +kernel) (by decide +kernel)) (goodIn_sub (fun _ h => List.mem_append_left _ (List.mem_append_left _ (List.mem_append_right _ h))) (by decide +kernel))) (goodIn_sub (fun _ h => List.mem_append_left _ (List.mem_append_right _ h)) (by decide +kernel))
set_option maxRecDepth 20000 in
theorem gL_law_L_append : GoodIn wsL_law (va_wsS RL 163 yL_append wsL_append) := goodIn_app (goodIn_of _ (by decide +kernel)) ggL_law_L_append
set_option maxRecDepth 20000 in
theorem ggL_law_X6_append : GoodIn wsL_law wsX6_append := goodIn_r _ [727, 728, 729, 70, 162, 163, 5, 164, 165, 166, 167, 168, 169, 824, 825, 826, 827, 828, 829, 830, 831, 832, 833, 834, 835, 836] (by decide +kernel) (by decide +kernel)
set_option maxRecDepth 20000 in
theorem gL_law_X6_append : GoodIn wsL_law (wsV RL 165 RX6 yX6_append wsX6_append) := goodIn_app (goodIn_of _ (by decide +kernel)) ggL_law_X6_append
set_option maxRecDepth 20000 in
theorem ggL_law_X5_clearText : GoodIn wsL_law wsX5_clearText := goodIn_r _ [733, 22, 722, 819, 820, 821, 822, 823, 853, 854, 855, 856, 857, 858] (by decide +kernel) (by decide +kernel)
set_option maxRecDepth 20000 in
theorem gL_law_X5_clearText : GoodIn wsL_law (wsV RL 166 RX5 yX5_clearText wsX5_clearText) := goodIn_app (goodIn_of _ (by decide +kernel)) ggL_law_X5_clearText
set_option maxRecDepth 20000 in
theorem ggL_law_X6_clearText : GoodIn wsL_law wsX6_clearText := goodIn_r _ [737, 169, 729, 824, 825, 826, 827, 828, 829, 830, 831, 832, 833, 834, 835, 836] (by decide +kernel) (by decide +kernel)
set_option maxRecDepth 20000 in
theorem gL_law_X6_clearText : GoodIn wsL_law (wsV RL 169 RX6 yX6_clearText wsX6_clearText) := goodIn_app (goodIn_of _ (by decide +kernel)) ggL_law_X6_clearText
set_option maxRecDepth 20000 in
theorem ggL_law_X5_parse : GoodIn wsL_law wsX5_parse := goodIn_r _ [741, 22, 16, 332, 742, 743, 744, 745, 746, 21, 747, 748, 749, 750, 751, 752, 753, 754, 755, 61, 756, 757, 758, 759, 60, 760, 761, 762, 763, 91, 92, 93, 2, 94, 95, 18, 96, 97, 98, 15, 99, 27, 100, 101, 102, 28, 103, 104, 30, 36, 105, 38, 106, 107, 108, 109, 110, 39, 111, 112, 113, 114, 115, 116, 32, 117, 118, 119, 120, 121, 122, 123, 124, 125, 126, 127, 128, 129, 130, 131, 132, 133, 134, 35, 135, 136, 48, 137, 138, 139, 50, 140, 141, 142, 143, 144, 145, 146, 147, 148, 149, 150, 151, 152, 337, 338, 339, 340, 819, 820, 821, 822, 823, 837, 838, 839, 840, 841, 842, 843, 844, 845, 846, 847, 848, 849, 850, 851, 852, 853, 854, 855, 856, 857, 858, 859, 860, 861, 862, 863, 864, 865, 866, 867, 868, 869, 870, 871] (by decide +kernel) (by decide +kernel)
set_option maxRecDepth 20000 in
theorem gL_law_X5_parse : GoodIn wsL_law (wsV RL 170 RX5 yX5_parse wsX5_parse) := goodIn_app (goodIn_of _ (by decide +kernel)) ggL_law_X5_parse
set_option maxRecDepth 20000 in
theorem ggL_law_X6_parse : GoodIn wsL_law wsX6_parse := goodIn_r _ [767, 169, 768, 729, 66, 68, 646, 647, 648, 5, 649, 769, 770, 771, 772, 773, 70, 774, 775, 776, 777, 778, 779, 780, 781, 782, 783, 162, 163, 164, 784, 785, 786, 787, 346, 347, 348, 349, 658, 659, 660, 661, 170, 171, 172, 173, 174, 67, 824, 825, 826, 827, 828, 829, 830, 831, 832, 833, 834, 835, 836] (by decide +kernel) (by decide +kernel)
set_option maxRecDepth 20000 in
theorem gL_law_X6_parse : GoodIn wsL_law (wsV RL 173 RX6 yX6_parse wsX6_parse) := goodIn_app (goodIn_of _ (by decide +kernel)) ggL_law_X6_parse
set_option maxRecDepth 20000 in
theorem ggL_law_L_undo : GoodIn wsL_law wsL_undo := goodIn_ca (goodIn_r _ [790, 76, 791, 792, 793, 2, 794, 81, 82, 95, 16, 18, 96, 97, 98, 15, 99, 27, 100, 101, 102, 28, 103, 104, 30, 36, 105, 38, 106, 107, 108, 109, 110, 39, 111, 112, 113, 114, 115, 116, 32, 117, 118, 119, 120, 121, 122, 123, 124, 125, 126, 127, 128, 129, 130, 131, 132, 133, 134, 35, 135, 136, 48, 137, 138, 139, 50, 140, 141, 142, 143, 144, 145, 146, 147, 148, 149, 150, 151, 152, 819, 820, 821, 822, 823, 837, 838, 839, 840, 841, 842, 843, 844, 845, 846, 847, 848, 849, 850, 851, 852, 859, 860, 861, 862, 863, 864, 865, 866, 867, 868, 869, 870, 871] (by decide +kernel) (by decide +kernel)) (goodIn_sub (fun _ h => List.mem_append_left _ (List.mem_append_left _ (List.mem_append_right _ h))) (by decide +kernel))
set_option maxRecDepth 20000 in
theorem gL_law_L_undo : GoodIn wsL_law (va_wsS RL 174 yL_undo wsL_undo) := goodIn_app (goodIn_of _ (by decide +kernel)) ggL_law_L_undo
set_option maxRecDepth 20000 in
theorem ggL_law_X6_undo : GoodIn wsL_law wsX6_undo := goodIn_r _ [798, 174, 66, 67, 165, 166, 167, 5, 168, 169, 824, 825, 826, 827, 828, 829, 830, 831, 832, 833, 834, 835, 836] (by decide +kernel) (by decide +kernel)
set_option maxRecDepth 20000 in
theorem gL_law_X6_undo : GoodIn wsL_law (wsV RL 177 RX6 yX6_undo wsX6_undo) := goodIn_app (goodIn_of _ (by decide +kernel)) ggL_law_X6_undo
set_option maxRecDepth 20000 in
theorem ggL_law_X5_digest : GoodIn wsL_law wsX5_digest := goodIn_ca (goodIn_r _ [802, 803, 22, 722, 804, 16, 84, 85, 189, 190, 191, 332, 387, 399, 95, 276, 277, 278, 15, 279, 27, 100, 101, 102, 28, 103, 104, 36, 280, 105, 110, 111, 112, 293, 294, 295, 32, 296, 118, 119, 120, 121, 122, 317, 318, 319, 50, 320, 141, 142, 143, 144, 579, 437, 438, 439, 39, 805, 588, 589, 2, 590, 239, 86, 87, 88, 89, 90, 819, 820, 821, 822, 823, 853, 854, 855, 856, 857, 858, 837, 838, 839, 840, 841, 842, 843, 844, 845, 846, 847, 848, 849, 850, 851, 852, 865, 866, 867, 859, 860, 861, 862, 863, 864, 868, 869, 870, 871] (by decide +kernel) (by decide +kernel)) (goodIn_sub (fun _ h => List.mem_append_left _ (List.mem_append_right _ h)) (by decide +kernel))
set_option maxRecDepth 20000 in
theorem gL_law_X5_digest : GoodIn wsL_law (wsV RL 178 RX5 yX5_digest wsX5_digest) := goodIn_app (goodIn_of _ (by decide +kernel)) ggL_law_X5_digest
set_option maxRecDepth 20000 in
theorem ggL_law_X6_digest : GoodIn wsL_law wsX6_digest := goodIn_r _ [809, 169, 810, 729, 66, 174, 811, 812, 5, 813, 814, 815, 816, 817, 818, 595, 596, 597, 598, 824, 825, 826, 827, 828, 829, 830, 831, 832, 833, 834, 835, 836] (by decide +kernel) (by decide +kernel)
set_option maxRecDepth 20000 in
theorem gL_law_X6_digest : GoodIn wsL_law (wsV RL 182 RX6 yX6_digest wsX6_digest) := goodIn_app (goodIn_of _ (by decide +kernel)) ggL_law_X6_digest
