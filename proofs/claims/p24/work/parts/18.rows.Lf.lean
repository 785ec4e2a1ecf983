theorem gq_merges_m : (Cond.code yL_merges cL_merges 31 (some .boolean)) ∈ wsL_law := (List.mem_append_left _ (List.mem_append_left _ (List.mem_append_left _ (List.mem_append_left _ (List.mem_append_left _ (List.mem_append_left _ (List.mem_append_left _ (List.mem_append_left _ (List.mem_append_left _ (List.mem_append_left _ (List.mem_append_right _ (List.mem_append_right _ (List.mem_append_right _ (List.mem_append_right _ (List.mem_append_right _ (List.mem_append_right _ (List.mem_append_left _ (List.Mem.tail _ (List.Mem.tail _ (List.Mem.tail _ (List.Mem.tail _ (List.Mem.tail _ (List.Mem.tail _ (List.Mem.tail _ (List.Mem.tail _ (List.Mem.tail _ (List.Mem.tail _ (List.Mem.tail _ (List.Mem.tail _ (List.Mem.tail _ (List.Mem.tail _ (List.Mem.tail _ (List.Mem.tail _ (List.Mem.tail _ (List.Mem.tail _ (List.Mem.tail _ (List.Mem.tail _ (List.Mem.tail _ (List.Mem.head _)))))))))))))))))))))))))))))))))))))))
set_option maxRecDepth 20000 in
theorem gq_merges_c : GoodIn wsL_law [Cond.code yL_merges cL_merges 31 (some .boolean)] := goodIn_sub (fun w h => by rw [List.mem_singleton.mp h]; exact gq_merges_m) (by decide +kernel)
set_option maxRecDepth 20000 in
theorem gq_merges_wsL_merges_r1 : GoodIn wsL_law wsL_merges_r1 := goodIn_r _ [166, 5, 57, 58, 53, 59, 60, 167, 168, 169, 170, 171, 172, 2, 173, 87, 88, 89, 90, 81, 82, 32, 174, 175] (by decide +kernel) (by decide +kernel)
set_option maxRecDepth 20000 in
theorem gq_merges_wsL_merges_r2 : GoodIn wsL_law wsL_merges_r2 := goodIn_r _ [176, 140, 141, 177, 178, 179, 180, 13, 14, 30, 31, 71, 72, 73, 181, 182, 183, 184, 64, 132, 133, 134, 135, 185] (by decide +kernel) (by decide +kernel)
set_option maxRecDepth 20000 in
theorem gq_merges_wsL_merges_r3 : GoodIn wsL_law wsL_merges_r3 := goodIn_r _ [186, 187, 188, 189, 190, 191, 192, 193, 194, 195, 196, 197, 198, 86, 150, 151, 152, 199, 200, 201, 202, 203, 204, 205] (by decide +kernel) (by decide +kernel)
set_option maxRecDepth 20000 in
theorem gq_merges_wsL_merges_r4 : GoodIn wsL_law wsL_merges_r4 := goodIn_r _ [95, 91, 92, 93, 94, 206, 207, 208, 209, 10, 11, 210, 211, 212, 213, 214, 215, 216, 217, 218, 219, 220, 221, 222] (by decide +kernel) (by decide +kernel)
set_option maxRecDepth 20000 in
theorem gq_merges_wsL_merges_r5 : GoodIn wsL_law wsL_merges_r5 := goodIn_r _ [223, 22, 224, 225, 147, 148, 149, 115, 36, 226, 227, 228, 229, 230, 231, 232, 233, 124, 125, 126, 127, 37, 234, 235] (by decide +kernel) (by decide +kernel)
set_option maxRecDepth 20000 in
theorem gq_merges_wsL_merges_r6 : GoodIn wsL_law wsL_merges_r6 := goodIn_r _ [236, 237, 238, 239, 240, 241, 242, 243, 244, 245, 246, 247, 248, 249, 250, 251, 252, 253, 254, 255, 256, 257, 258, 259] (by decide +kernel) (by decide +kernel)
set_option maxRecDepth 20000 in
theorem gq_merges_wsL_merges_r7 : GoodIn wsL_law wsL_merges_r7 := goodIn_r _ [260, 261, 83, 84, 262, 263, 264, 265, 266, 267, 268, 269, 23, 270, 271, 272, 273, 274, 275, 276, 277, 278, 279, 280] (by decide +kernel) (by decide +kernel)
set_option maxRecDepth 20000 in
theorem gq_merges_wsL_merges_r8 : GoodIn wsL_law wsL_merges_r8 := goodIn_r _ [281, 282, 283, 284, 117, 118, 119, 120, 121, 122, 123, 128, 129, 130, 131, 285, 286, 287, 288, 289, 85, 290, 291, 292] (by decide +kernel) (by decide +kernel)
set_option maxRecDepth 20000 in
theorem gq_merges_wsL_merges_r9 : GoodIn wsL_law wsL_merges_r9 := goodIn_r _ [293, 294, 17, 295, 296, 297, 298, 27, 299, 300, 301, 302, 303, 304, 305, 306, 307, 308, 309, 310, 311, 312, 313, 19] (by decide +kernel) (by decide +kernel)
set_option maxRecDepth 20000 in
theorem gq_merges_wsL_merges_r10 : GoodIn wsL_law wsL_merges_r10 := goodIn_r _ [314, 315, 316, 317, 96, 97, 98, 99, 100, 101, 102, 103, 104, 105, 106, 107, 108, 109, 110, 111, 112, 113, 114, 318] (by decide +kernel) (by decide +kernel)
set_option maxRecDepth 20000 in
theorem gq_merges_wsL_merges_r11 : GoodIn wsL_law wsL_merges_r11 := goodIn_r _ [319, 320, 321, 322, 323, 324, 325, 326, 327, 328, 329, 15, 68, 69, 70, 74, 75, 76] (by decide +kernel) (by decide +kernel)
set_option maxRecDepth 20000 in
theorem gq_merges_wsX50 : GoodIn wsL_law wsX50 := goodIn_r _ [402, 403, 404, 405, 406, 407, 408, 409, 410, 411, 412, 413] (by decide +kernel) (by decide +kernel)
set_option maxRecDepth 20000 in
theorem gq_merges_wsX30 : GoodIn wsL_law wsX30 := goodIn_r _ [417, 418, 419, 420, 421] (by decide +kernel) (by decide +kernel)
set_option maxRecDepth 20000 in
theorem gq_merges_wsX10 : GoodIn wsL_law wsX10 := goodIn_r _ [429, 430, 431] (by decide +kernel) (by decide +kernel)
set_option maxRecDepth 20000 in
theorem gq_merges_wsX00 : GoodIn wsL_law wsX00 := goodIn_r _ [414, 415, 416] (by decide +kernel) (by decide +kernel)
set_option maxRecDepth 20000 in
theorem gq_merges_wsX20 : GoodIn wsL_law wsX20 := goodIn_r _ [422, 423, 424, 425] (by decide +kernel) (by decide +kernel)
set_option maxRecDepth 20000 in
theorem gq_merges_wsX40 : GoodIn wsL_law wsX40 := goodIn_r _ [426, 427, 428] (by decide +kernel) (by decide +kernel)
theorem gq_merges_t : GoodIn wsL_law ((.code yL_merges cL_merges 31 (some .boolean) : Cond) :: (((((((wsL_merges_r1 ++ (wsL_merges_r2 ++ (wsL_merges_r3 ++ (wsL_merges_r4 ++ (wsL_merges_r5 ++ (wsL_merges_r6 ++ (wsL_merges_r7 ++ (wsL_merges_r8 ++ (wsL_merges_r9 ++ (wsL_merges_r10 ++ wsL_merges_r11)))))))))) ++ wsX50) ++ wsX30) ++ wsX10) ++ wsX00) ++ wsX20) ++ wsX40)) := goodIn_app (a := [.code yL_merges cL_merges 31 (some .boolean)]) gq_merges_c (goodIn_app (goodIn_app (goodIn_app (goodIn_app (goodIn_app (goodIn_app (goodIn_app gq_merges_wsL_merges_r1 (goodIn_app gq_merges_wsL_merges_r2 (goodIn_app gq_merges_wsL_merges_r3 (goodIn_app gq_merges_wsL_merges_r4 (goodIn_app gq_merges_wsL_merges_r5 (goodIn_app gq_merges_wsL_merges_r6 (goodIn_app gq_merges_wsL_merges_r7 (goodIn_app gq_merges_wsL_merges_r8 (goodIn_app gq_merges_wsL_merges_r9 (goodIn_app gq_merges_wsL_merges_r10 gq_merges_wsL_merges_r11)))))))))) gq_merges_wsX50) gq_merges_wsX30) gq_merges_wsX10) gq_merges_wsX00) gq_merges_wsX20) gq_merges_wsX40)
set_option maxRecDepth 20000 in
theorem ggL_law_L_merges : GoodIn wsL_law wsL_merges := goodIn_ca (goodIn_ca (goodIn_ca gq_merges_t (goodIn_sub (fun _ h => List.mem_append_left _ (List.mem_append_left _ (List.mem_append_right _ h))) (by decide +kernel))) (goodIn_sub (fun _ h => List.mem_append_right _ h) (by decide +kernel))) (goodIn_sub (fun _ h => List.mem_append_left _ (List.mem_append_right _ h)) (by decide +kernel))
set_option maxRecDepth 20000 in
theorem gL_law_L_merges : GoodIn wsL_law (va_wsS RL 146 yL_merges wsL_merges) := goodIn_app (goodIn_of _ (by decide +kernel)) ggL_law_L_merges
