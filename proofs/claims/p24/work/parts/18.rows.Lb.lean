set_option maxRecDepth 20000 in
theorem ggL_merges_L_low : GoodIn wsL_merges wsL_low := goodIn_r _ [6, 7] (by decide +kernel) (by decide +kernel)
set_option maxRecDepth 20000 in
theorem gL_merges_L_low : GoodIn wsL_merges (va_wsS RL 61 yL_low wsL_low) := goodIn_app (goodIn_of _ (by decide +kernel)) ggL_merges_L_low
set_option maxRecDepth 20000 in
theorem ggL_merges_L_base : GoodIn wsL_merges wsL_base := goodIn_r _ [10] (by decide +kernel) (by decide +kernel)
set_option maxRecDepth 20000 in
theorem gL_merges_L_base : GoodIn wsL_merges (va_wsS RL 82 yL_base wsL_base) := goodIn_app (goodIn_of _ (by decide +kernel)) ggL_merges_L_base
set_option maxRecDepth 20000 in
theorem ggL_merges_X5_base : GoodIn wsL_merges wsX5_base := goodIn_ca (goodIn_ca (goodIn_r _ [15, 16, 17, 18, 14, 19, 20, 21, 22, 23, 24, 25, 26, 27, 28, 29, 30, 31, 32, 33, 34, 35, 259, 260, 261, 262, 263, 264, 265, 266, 267, 268, 269, 270, 271, 272, 273, 274, 275] (by decide +kernel) (by decide +kernel)) (goodIn_sub (fun _ h => List.mem_cons_of_mem _ (List.mem_append_left _ (List.mem_append_left _ (List.mem_append_right _ h)))) (by decide +kernel))) (goodIn_sub (fun _ h => List.mem_cons_of_mem _ (List.mem_append_left _ (List.mem_append_right _ h))) (by decide +kernel))
set_option maxRecDepth 20000 in
theorem gL_merges_X5_base : GoodIn wsL_merges (wsV RL 86 RX5 yX5_base wsX5_base) := goodIn_app (goodIn_of _ (by decide +kernel)) ggL_merges_X5_base
set_option maxRecDepth 20000 in
theorem ggL_merges_L_get : GoodIn wsL_merges wsL_get := goodIn_r _ [38] (by decide +kernel) (by decide +kernel)
set_option maxRecDepth 20000 in
theorem gL_merges_L_get : GoodIn wsL_merges (va_wsS RL 31 yL_get wsL_get) := goodIn_app (goodIn_of _ (by decide +kernel)) ggL_merges_L_get
set_option maxRecDepth 20000 in
theorem ggL_merges_L_meets : GoodIn wsL_merges wsL_meets := goodIn_r _ [41, 42, 43, 44, 45, 5, 46, 47] (by decide +kernel) (by decide +kernel)
set_option maxRecDepth 20000 in
theorem gL_merges_L_meets : GoodIn wsL_merges (va_wsS RL 88 yL_meets wsL_meets) := goodIn_app (goodIn_of _ (by decide +kernel)) ggL_merges_L_meets
set_option maxRecDepth 20000 in
theorem ggL_merges_L_blocks : GoodIn wsL_merges wsL_blocks := goodIn_r _ [50, 51, 52, 5, 53, 44, 45, 46, 47] (by decide +kernel) (by decide +kernel)
set_option maxRecDepth 20000 in
theorem gL_merges_L_blocks : GoodIn wsL_merges (va_wsS RL 53 yL_blocks wsL_blocks) := goodIn_app (goodIn_of _ (by decide +kernel)) ggL_merges_L_blocks
set_option maxRecDepth 20000 in
theorem ggL_merges_X5_merged : GoodIn wsL_merges wsX5_merged := goodIn_ca (goodIn_ca (goodIn_r _ [57, 26, 27, 16, 17, 18, 14, 19, 20, 21, 22, 58, 59, 60, 61, 62, 63, 64, 65, 23, 24, 25, 66, 67, 68, 69, 70, 71, 72, 32, 73, 28, 29, 30, 31, 33, 34, 35, 74, 75, 76, 77, 78, 79, 80, 81, 82, 83, 84, 85, 86, 87, 88, 89, 90, 91, 92, 93, 94, 95, 96, 97, 98, 99, 100, 101, 102, 103, 104, 105, 106, 107, 108, 109, 110, 111, 112, 113, 114, 115, 116, 117, 118, 119, 120, 121, 122, 123, 124, 125, 126, 127, 128, 129, 130, 259, 260, 261, 262, 263, 264, 265, 266, 267, 268, 269, 270, 276, 277, 278, 271, 272, 273, 274, 275, 279, 280, 281] (by decide +kernel) (by decide +kernel)) (goodIn_sub (fun _ h => List.mem_cons_of_mem _ (List.mem_append_left _ (List.mem_append_right _ h))) (by decide +kernel))) (goodIn_sub (fun _ h => List.mem_cons_of_mem _ (List.mem_append_left _ (List.mem_append_left _ (List.mem_append_right _ h)))) (by decide +kernel))
set_option maxRecDepth 20000 in
theorem gL_merges_X5_merged : GoodIn wsL_merges (wsV RL 94 RX5 yX5_merged wsX5_merged) := goodIn_app (goodIn_of _ (by decide +kernel)) ggL_merges_X5_merged
set_option maxRecDepth 20000 in
theorem ggL_merges_L_value : GoodIn wsL_merges wsL_value := goodIn_r _ [46, 47] (by decide +kernel) (by decide +kernel)
set_option maxRecDepth 20000 in
theorem gL_merges_L_value : GoodIn wsL_merges (va_wsS RL 45 yL_value wsL_value) := goodIn_app (goodIn_of _ (by decide +kernel)) ggL_merges_L_value
set_option maxRecDepth 20000 in
theorem ggL_merges_X5_clashes : GoodIn wsL_merges wsX5_clashes := goodIn_ca (goodIn_ca (goodIn_r _ [134, 62, 16, 17, 18, 14, 19, 20, 21, 22, 23, 24, 25, 26, 27, 66, 67, 68, 69, 70, 71, 72, 32, 73, 28, 29, 30, 31, 33, 34, 35, 74, 75, 76, 77, 78, 79, 80, 81, 82, 83, 84, 85, 86, 135, 136, 137, 138, 106, 107, 108, 109, 95, 96, 97, 98, 99, 100, 101, 102, 103, 104, 105, 110, 111, 112, 113, 114, 115, 116, 117, 118, 127, 128, 129, 130, 123, 124, 125, 126, 259, 260, 261, 262, 263, 264, 265, 266, 267, 268, 269, 270, 276, 277, 278, 271, 272, 273, 274, 275, 279, 280, 281] (by decide +kernel) (by decide +kernel)) (goodIn_sub (fun _ h => List.mem_cons_of_mem _ (List.mem_append_left _ (List.mem_append_left _ (List.mem_append_right _ h)))) (by decide +kernel))) (goodIn_sub (fun _ h => List.mem_cons_of_mem _ (List.mem_append_left _ (List.mem_append_right _ h))) (by decide +kernel))
set_option maxRecDepth 20000 in
theorem gL_merges_X5_clashes : GoodIn wsL_merges (wsV RL 98 RX5 yX5_clashes wsX5_clashes) := goodIn_app (goodIn_of _ (by decide +kernel)) ggL_merges_X5_clashes
set_option maxRecDepth 20000 in
theorem ggL_merges_L_calls : GoodIn wsL_merges wsL_calls := goodIn_ca (goodIn_ca (goodIn_ca (goodIn_r _ [141, 142, 2, 143, 144, 145, 14, 146, 147, 148, 22, 33, 149, 150, 151, 152, 20, 21, 35, 153, 154, 155, 156, 26, 27, 62, 157, 16, 17, 18, 19, 23, 24, 25, 66, 67, 68, 69, 70, 71, 72, 32, 73, 28, 29, 30, 31, 34, 74, 75, 76, 77, 78, 79, 80, 81, 82, 83, 84, 85, 86, 135, 136, 137, 138, 106, 107, 108, 109, 95, 96, 97, 98, 99, 100, 101, 102, 103, 104, 105, 110, 111, 112, 113, 114, 115, 116, 117, 118, 127, 128, 129, 130, 123, 124, 125, 126, 158, 159, 160, 161, 91, 92, 93, 94, 162, 163, 164, 165, 166, 167, 168, 169, 170, 171, 172, 173, 174, 175, 176, 177, 178, 179, 180, 181, 182, 183, 119, 120, 121, 122, 184, 185, 186, 187, 188, 189, 190, 191, 192, 193, 194, 195, 196, 197, 198, 199, 200, 201, 202, 203, 204, 205, 206, 207, 208, 209, 210, 211, 212, 213, 214, 215, 216, 217, 218, 219, 220, 221, 222, 223, 224, 225, 226, 227, 228, 229, 230, 231, 232, 233, 234, 235, 236, 237, 238, 239, 240, 241, 242, 243, 244, 245, 246, 247, 58, 59, 60, 61, 248, 249, 250, 251, 252, 259, 260, 261, 262, 263, 264, 265, 266, 267, 268, 269, 270, 276, 277, 278, 271, 272, 273, 274, 275, 279, 280, 281, 282, 283, 284, 285, 286, 287, 288] (by decide +kernel) (by decide +kernel)) (goodIn_sub (fun _ h => List.mem_cons_of_mem _ (List.mem_append_right _ h)) (by decide +kernel))) (goodIn_sub (fun _ h => List.mem_cons_of_mem _ (List.mem_append_left _ (List.mem_append_left _ (List.mem_append_right _ h)))) (by decide +kernel))) (goodIn_sub (fun _ h => List.mem_cons_of_mem _ (List.mem_append_left _ (List.mem_append_right _ h))) (by decide +kernel))
set_option maxRecDepth 20000 in
theorem gL_merges_L_calls : GoodIn wsL_merges (va_wsS RL 101 yL_calls wsL_calls) := goodIn_app (goodIn_of _ (by decide +kernel)) ggL_merges_L_calls
set_option maxRecDepth 20000 in
theorem ggL_merges_L_copy : GoodIn wsL_merges wsL_copy := goodIn_r _ [255, 36, 37, 5, 38, 256, 257, 258] (by decide +kernel) (by decide +kernel)
set_option maxRecDepth 20000 in
theorem gL_merges_L_copy : GoodIn wsL_merges (va_wsS RL 68 yL_copy wsL_copy) := goodIn_app (goodIn_of _ (by decide +kernel)) ggL_merges_L_copy
set_option maxRecDepth 20000 in
theorem ggL_merges_L_put : GoodIn wsL_merges wsL_put := goodIn_r _ [258] (by decide +kernel) (by decide +kernel)
set_option maxRecDepth 20000 in
theorem gL_merges_L_put : GoodIn wsL_merges (va_wsS RL 37 yL_put wsL_put) := goodIn_app (goodIn_of _ (by decide +kernel)) ggL_merges_L_put
