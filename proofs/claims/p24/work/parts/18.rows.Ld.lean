set_option maxRecDepth 20000 in
theorem ggL_same_X5_head : GoodIn wsL_same wsX5_head := goodIn_ca (goodIn_r _ [5, 6, 7, 8, 9, 4, 10, 11, 12, 13, 150, 151, 152, 153, 154, 155, 156, 157, 158, 159, 160, 161] (by decide +kernel) (by decide +kernel)) (goodIn_sub (fun _ h => List.mem_cons_of_mem _ (List.mem_append_left _ (List.mem_append_right _ h))) (by decide +kernel))
set_option maxRecDepth 20000 in
theorem gL_same_X5_head : GoodIn wsL_same (wsV RL 105 RX5 yX5_head wsX5_head) := goodIn_app (goodIn_of _ (by decide +kernel)) ggL_same_X5_head
set_option maxRecDepth 20000 in
theorem ggL_same_X5_shown : GoodIn wsL_same wsX5_shown := goodIn_ca (goodIn_r _ [17, 18, 19, 20, 7, 8, 9, 4, 10, 11, 12, 13, 21, 22, 23, 24, 25, 26, 27, 28, 29, 30, 31, 32, 33, 34, 35, 36, 37, 38, 39, 40, 41, 42, 43, 44, 45, 46, 47, 48, 49, 50, 51, 52, 53, 54, 55, 56, 57, 58, 59, 60, 61, 150, 151, 152, 153, 154, 155, 156, 157, 158, 159, 160, 161, 162, 163, 164, 165, 166, 167, 168, 169, 170, 171, 172, 173, 174, 175, 176] (by decide +kernel) (by decide +kernel)) (goodIn_sub (fun _ h => List.mem_cons_of_mem _ (List.mem_append_left _ (List.mem_append_right _ h))) (by decide +kernel))
set_option maxRecDepth 20000 in
theorem gL_same_X5_shown : GoodIn wsL_same (wsV RL 108 RX5 yX5_shown wsX5_shown) := goodIn_app (goodIn_of _ (by decide +kernel)) ggL_same_X5_shown
set_option maxRecDepth 20000 in
theorem ggL_same_L_blocked : GoodIn wsL_same wsL_blocked := goodIn_r _ [65, 66, 67, 64, 68, 69, 70, 71, 72, 73, 74, 75, 76, 77, 78, 79, 80, 81] (by decide +kernel) (by decide +kernel)
set_option maxRecDepth 20000 in
theorem gL_same_L_blocked : GoodIn wsL_same (va_wsS RL 111 yL_blocked wsL_blocked) := goodIn_app (goodIn_of _ (by decide +kernel)) ggL_same_L_blocked
set_option maxRecDepth 20000 in
theorem ggL_same_L_low : GoodIn wsL_same wsL_low := goodIn_r _ [84, 85] (by decide +kernel) (by decide +kernel)
set_option maxRecDepth 20000 in
theorem gL_same_L_low : GoodIn wsL_same (va_wsS RL 61 yL_low wsL_low) := goodIn_app (goodIn_of _ (by decide +kernel)) ggL_same_L_low
set_option maxRecDepth 20000 in
theorem ggL_same_L_all : GoodIn wsL_same wsL_all := goodIn_r _ [68, 69, 70, 64, 71, 72, 73, 74, 75, 76, 77, 78, 79, 80, 81] (by decide +kernel) (by decide +kernel)
set_option maxRecDepth 20000 in
theorem gL_same_L_all : GoodIn wsL_same (va_wsS RL 57 yL_all wsL_all) := goodIn_app (goodIn_of _ (by decide +kernel)) ggL_same_L_all
set_option maxRecDepth 20000 in
theorem ggL_same_X5_about : GoodIn wsL_same wsX5_about := goodIn_ca (goodIn_ca (goodIn_r _ [89, 90, 91, 19, 92, 93, 94, 20, 25, 95, 96, 97, 98, 4, 99, 11, 12, 100, 101, 102, 103, 104, 105, 106, 107, 150, 151, 152, 153, 154, 155, 156, 157, 158, 159, 160, 161, 162, 163, 164, 165, 166, 167, 168, 169] (by decide +kernel) (by decide +kernel)) (goodIn_sub (fun _ h => List.mem_cons_of_mem _ (List.mem_append_right _ h)) (by decide +kernel))) (goodIn_sub (fun _ h => List.mem_cons_of_mem _ (List.mem_append_left _ (List.mem_append_right _ h))) (by decide +kernel))
set_option maxRecDepth 20000 in
theorem gL_same_X5_about : GoodIn wsL_same (wsV RL 115 RX5 yX5_about wsX5_about) := goodIn_app (goodIn_of _ (by decide +kernel)) ggL_same_X5_about
set_option maxRecDepth 20000 in
theorem ggL_same_L_many : GoodIn wsL_same wsL_many := goodIn_r _ [110] (by decide +kernel) (by decide +kernel)
set_option maxRecDepth 20000 in
theorem gL_same_L_many : GoodIn wsL_same (va_wsS RL 65 yL_many wsL_many) := goodIn_app (goodIn_of _ (by decide +kernel)) ggL_same_L_many
set_option maxRecDepth 20000 in
theorem ggL_same_X5_blocks : GoodIn wsL_same wsX5_blocks := goodIn_ca (goodIn_r _ [114, 19, 20, 96, 97, 98, 4, 99, 11, 12, 100, 21, 22, 23, 24, 25, 26, 27, 28, 29, 30, 31, 32, 33, 34, 35, 36, 37, 38, 39, 40, 41, 42, 43, 44, 45, 46, 47, 48, 49, 50, 51, 52, 53, 54, 55, 56, 57, 58, 59, 60, 61, 150, 151, 152, 153, 154, 155, 156, 157, 158, 159, 160, 161, 162, 163, 164, 165, 166, 167, 168, 169, 170, 171, 172, 173, 174, 175, 176] (by decide +kernel) (by decide +kernel)) (goodIn_sub (fun _ h => List.mem_cons_of_mem _ (List.mem_append_left _ (List.mem_append_right _ h))) (by decide +kernel))
set_option maxRecDepth 20000 in
theorem gL_same_X5_blocks : GoodIn wsL_same (wsV RL 118 RX5 yX5_blocks wsX5_blocks) := goodIn_app (goodIn_of _ (by decide +kernel)) ggL_same_X5_blocks
set_option maxRecDepth 20000 in
theorem ggL_same_X5_warnings : GoodIn wsL_same wsX5_warnings := goodIn_ca (goodIn_r _ [118, 19, 20, 25, 30, 31, 51, 96, 97, 98, 4, 99, 11, 12, 100, 33, 34, 35, 36, 37, 38, 39, 40, 41, 42, 43, 44, 45, 46, 150, 151, 152, 153, 154, 155, 156, 157, 158, 159, 160, 161, 162, 163, 164, 165, 166, 167, 168, 169, 170, 171, 172, 173] (by decide +kernel) (by decide +kernel)) (goodIn_sub (fun _ h => List.mem_cons_of_mem _ (List.mem_append_left _ (List.mem_append_right _ h))) (by decide +kernel))
set_option maxRecDepth 20000 in
theorem gL_same_X5_warnings : GoodIn wsL_same (wsV RL 120 RX5 yX5_warnings wsX5_warnings) := goodIn_app (goodIn_of _ (by decide +kernel)) ggL_same_X5_warnings
set_option maxRecDepth 20000 in
theorem ggL_same_X5_slideAt : GoodIn wsL_same wsX5_slideAt := goodIn_ca (goodIn_r _ [122, 11, 12, 19, 20, 25, 32, 96, 97, 98, 4, 99, 100, 150, 151, 152, 153, 154, 155, 156, 157, 158, 159, 160, 161, 162, 163, 164, 165, 166, 167, 168, 169] (by decide +kernel) (by decide +kernel)) (goodIn_sub (fun _ h => List.mem_cons_of_mem _ (List.mem_append_left _ (List.mem_append_right _ h))) (by decide +kernel))
set_option maxRecDepth 20000 in
theorem gL_same_X5_slideAt : GoodIn wsL_same (wsV RL 123 RX5 yX5_slideAt wsX5_slideAt) := goodIn_app (goodIn_of _ (by decide +kernel)) ggL_same_X5_slideAt
set_option maxRecDepth 20000 in
theorem ggL_same_L_get : GoodIn wsL_same wsL_get := goodIn_r _ [71] (by decide +kernel) (by decide +kernel)
set_option maxRecDepth 20000 in
theorem gL_same_L_get : GoodIn wsL_same (va_wsS RL 31 yL_get wsL_get) := goodIn_app (goodIn_of _ (by decide +kernel)) ggL_same_L_get
set_option maxRecDepth 20000 in
theorem ggL_same_L_blocks : GoodIn wsL_same wsL_blocks := goodIn_r _ [74, 75, 76, 64, 77, 78, 79, 80, 81] (by decide +kernel) (by decide +kernel)
set_option maxRecDepth 20000 in
theorem gL_same_L_blocks : GoodIn wsL_same (va_wsS RL 53 yL_blocks wsL_blocks) := goodIn_app (goodIn_of _ (by decide +kernel)) ggL_same_L_blocks
set_option maxRecDepth 20000 in
theorem ggL_same_X5_firstBlock : GoodIn wsL_same wsX5_firstBlock := goodIn_ca (goodIn_r _ [126, 19, 20, 25, 32, 96, 97, 98, 4, 99, 11, 12, 100, 26, 27, 28, 29, 30, 31, 33, 34, 35, 36, 37, 38, 39, 40, 41, 42, 43, 44, 45, 46, 47, 48, 49, 50, 51, 52, 53, 54, 55, 56, 57, 58, 59, 60, 61, 150, 151, 152, 153, 154, 155, 156, 157, 158, 159, 160, 161, 162, 163, 164, 165, 166, 167, 168, 169, 170, 171, 172, 173, 174, 175, 176] (by decide +kernel) (by decide +kernel)) (goodIn_sub (fun _ h => List.mem_cons_of_mem _ (List.mem_append_left _ (List.mem_append_right _ h))) (by decide +kernel))
set_option maxRecDepth 20000 in
theorem gL_same_X5_firstBlock : GoodIn wsL_same (wsV RL 126 RX5 yX5_firstBlock wsX5_firstBlock) := goodIn_app (goodIn_of _ (by decide +kernel)) ggL_same_X5_firstBlock
set_option maxRecDepth 20000 in
theorem ggL_same_X5_value : GoodIn wsL_same wsX5_value := goodIn_ca (goodIn_r _ [130, 19, 20, 96, 97, 98, 4, 99, 11, 12, 100, 131, 132, 133, 134, 135, 136, 137, 138, 139, 140, 141, 44, 142, 143, 144, 145, 146, 147, 148, 149, 42, 43, 45, 46, 150, 151, 152, 153, 154, 155, 156, 157, 158, 159, 160, 161, 162, 163, 164, 165, 166, 167, 168, 169] (by decide +kernel) (by decide +kernel)) (goodIn_sub (fun _ h => List.mem_cons_of_mem _ (List.mem_append_left _ (List.mem_append_right _ h))) (by decide +kernel))
set_option maxRecDepth 20000 in
theorem gL_same_X5_value : GoodIn wsL_same (wsV RL 129 RX5 yX5_value wsX5_value) := goodIn_app (goodIn_of _ (by decide +kernel)) ggL_same_X5_value
set_option maxRecDepth 20000 in
theorem ggL_same_L_value : GoodIn wsL_same wsL_value := goodIn_r _ [80, 81] (by decide +kernel) (by decide +kernel)
set_option maxRecDepth 20000 in
theorem gL_same_L_value : GoodIn wsL_same (va_wsS RL 45 yL_value wsL_value) := goodIn_app (goodIn_of _ (by decide +kernel)) ggL_same_L_value
set_option maxRecDepth 20000 in
theorem ggL_rules_L_low : GoodIn wsL_rules wsL_low := goodIn_r _ [5, 6] (by decide +kernel) (by decide +kernel)
set_option maxRecDepth 20000 in
theorem gL_rules_L_low : GoodIn wsL_rules (va_wsS RL 61 yL_low wsL_low) := goodIn_app (goodIn_of _ (by decide +kernel)) ggL_rules_L_low
set_option maxRecDepth 20000 in
theorem ggL_rules_X5_rule : GoodIn wsL_rules wsX5_rule := goodIn_ca (goodIn_ca (goodIn_ca (goodIn_r _ [11, 12, 13, 14, 15, 16, 17, 18, 19, 20, 21, 22, 23, 24, 25, 10, 26, 257, 258, 259, 260, 261, 262, 263, 264, 265, 266, 267, 268, 269, 270, 271, 272] (by decide +kernel) (by decide +kernel)) (goodIn_sub (fun _ h => List.mem_cons_of_mem _ (List.mem_append_left _ (List.mem_append_left _ (List.mem_append_right _ h)))) (by decide +kernel))) (goodIn_sub (fun _ h => List.mem_cons_of_mem _ (List.mem_append_left _ (List.mem_append_right _ h))) (by decide +kernel))) (goodIn_sub (fun _ h => List.mem_cons_of_mem _ (List.mem_append_right _ h)) (by decide +kernel))
set_option maxRecDepth 20000 in
theorem gL_rules_X5_rule : GoodIn wsL_rules (wsV RL 131 RX5 yX5_rule wsX5_rule) := goodIn_app (goodIn_of _ (by decide +kernel)) ggL_rules_X5_rule
set_option maxRecDepth 20000 in
theorem ggL_rules_L_blocked : GoodIn wsL_rules wsL_blocked := goodIn_r _ [29, 30, 31, 4, 32, 33, 34, 35, 36, 37, 38, 39, 40, 41, 42, 43, 44, 45] (by decide +kernel) (by decide +kernel)
set_option maxRecDepth 20000 in
theorem gL_rules_L_blocked : GoodIn wsL_rules (va_wsS RL 111 yL_blocked wsL_blocked) := goodIn_app (goodIn_of _ (by decide +kernel)) ggL_rules_L_blocked
set_option maxRecDepth 20000 in
theorem ggL_rules_X5_tighten : GoodIn wsL_rules wsX5_tighten := goodIn_ca (goodIn_ca (goodIn_r _ [49, 14, 15, 19, 22, 23, 50, 51, 52, 53, 10, 54, 12, 13, 18, 55, 56, 57, 58, 59, 60, 61, 62, 63, 64, 65, 66, 67, 68, 69, 70, 71, 72, 73, 74, 75, 76, 77, 78, 79, 80, 81, 82, 83, 84, 85, 86, 87, 88, 89, 20, 90, 91, 92, 93, 94, 95, 96, 97, 98, 99, 100, 101, 102, 103, 104, 105, 106, 257, 258, 259, 260, 261, 262, 263, 264, 265, 266, 267, 268, 269, 270, 271, 272, 273, 274, 275, 276, 277, 278, 279, 280, 281, 282, 283] (by decide +kernel) (by decide +kernel)) (goodIn_sub (fun _ h => List.mem_cons_of_mem _ (List.mem_append_left _ (List.mem_append_right _ h))) (by decide +kernel))) (goodIn_sub (fun _ h => List.mem_cons_of_mem _ (List.mem_append_left _ (List.mem_append_left _ (List.mem_append_right _ h)))) (by decide +kernel))
set_option maxRecDepth 20000 in
theorem gL_rules_X5_tighten : GoodIn wsL_rules (wsV RL 134 RX5 yX5_tighten wsX5_tighten) := goodIn_app (goodIn_of _ (by decide +kernel)) ggL_rules_X5_tighten
set_option maxRecDepth 20000 in
theorem ggL_rules_L_calls : GoodIn wsL_rules wsL_calls := goodIn_ca (goodIn_ca (goodIn_ca (goodIn_r _ [109, 110, 1, 111, 112, 113, 10, 114, 16, 17, 115, 116, 117, 118, 119, 120, 12, 13, 59, 121, 122, 123, 124, 14, 15, 125, 126, 127, 128, 129, 130, 131, 132, 133, 134, 135, 136, 137, 138, 139, 140, 60, 61, 141, 142, 143, 144, 145, 146, 147, 148, 149, 150, 151, 152, 153, 154, 155, 156, 157, 158, 159, 160, 161, 162, 163, 164, 165, 166, 167, 168, 169, 83, 170, 171, 172, 173, 174, 175, 176, 177, 178, 179, 180, 181, 81, 82, 84, 85, 182, 183, 184, 185, 186, 187, 188, 189, 190, 191, 192, 193, 194, 195, 196, 197, 198, 199, 200, 201, 202, 203, 204, 205, 206, 207, 208, 209, 210, 211, 212, 213, 214, 215, 216, 217, 218, 219, 220, 221, 222, 223, 224, 62, 63, 64, 65, 66, 67, 68, 69, 70, 18, 19, 71, 72, 73, 74, 75, 76, 77, 78, 79, 80, 86, 87, 88, 89, 20, 90, 91, 92, 93, 94, 95, 96, 97, 98, 99, 225, 226, 227, 228, 229, 230, 231, 232, 233, 234, 235, 236, 237, 238, 239, 240, 241, 242, 243, 244, 245, 246, 247, 51, 52, 53, 54, 248, 249, 250, 251, 252, 253, 254, 255, 256, 257, 258, 259, 260, 261, 262, 263, 264, 265, 266, 267, 268, 284, 285, 286, 273, 274, 275, 276, 277, 278, 279, 280, 269, 270, 271, 272, 281, 282, 283] (by decide +kernel) (by decide +kernel)) (goodIn_sub (fun _ h => List.mem_cons_of_mem _ (List.mem_append_right _ h)) (by decide +kernel))) (goodIn_sub (fun _ h => List.mem_cons_of_mem _ (List.mem_append_left _ (List.mem_append_left _ (List.mem_append_right _ h)))) (by decide +kernel))) (goodIn_sub (fun _ h => List.mem_cons_of_mem _ (List.mem_append_left _ (List.mem_append_right _ h))) (by decide +kernel))
set_option maxRecDepth 20000 in
theorem gL_rules_L_calls : GoodIn wsL_rules (va_wsS RL 101 yL_calls wsL_calls) := goodIn_app (goodIn_of _ (by decide +kernel)) ggL_rules_L_calls
