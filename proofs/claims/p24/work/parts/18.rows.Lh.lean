theorem gq_same_m : (Cond.code yL_same cL_same 21 (some .boolean)) ∈ wsL_law := (List.mem_append_left _ (List.mem_append_left _ (List.mem_append_left _ (List.mem_append_left _ (List.mem_append_left _ (List.mem_append_left _ (List.mem_append_left _ (List.mem_append_left _ (List.mem_append_left _ (List.mem_append_left _ (List.mem_append_right _ (List.mem_append_right _ (List.mem_append_right _ (List.mem_append_right _ (List.mem_append_right _ (List.mem_append_right _ (List.mem_append_right _ (List.mem_append_right _ (List.mem_append_right _ (List.mem_append_right _ (List.mem_append_right _ (List.mem_append_right _ (List.mem_append_right _ (List.mem_append_right _ (List.mem_append_right _ (List.mem_append_left _ (List.Mem.tail _ (List.Mem.tail _ (List.Mem.tail _ (List.Mem.tail _ (List.Mem.tail _ (List.Mem.tail _ (List.Mem.tail _ (List.Mem.tail _ (List.Mem.head _)))))))))))))))))))))))))))))))))))
set_option maxRecDepth 20000 in
theorem gq_same_c : GoodIn wsL_law [Cond.code yL_same cL_same 21 (some .boolean)] := goodIn_sub (fun w h => by rw [List.mem_singleton.mp h]; exact gq_same_m) (by decide +kernel)
set_option maxRecDepth 20000 in
theorem gq_same_wsL_same_r1 : GoodIn wsL_law wsL_same_r1 := goodIn_r _ [369, 370, 371, 2, 372, 14, 87, 88, 89, 90, 81, 82, 32, 373, 374, 375, 376, 15, 13, 95, 286, 287, 288, 289] (by decide +kernel) (by decide +kernel)
set_option maxRecDepth 20000 in
theorem gq_same_wsL_same_r2 : GoodIn wsL_law wsL_same_r2 := goodIn_r _ [85, 290, 291, 292, 293, 294, 17, 295, 296, 297, 298, 27, 299, 300, 301, 302, 303, 125, 126, 22, 127, 37, 304, 305] (by decide +kernel) (by decide +kernel)
set_option maxRecDepth 20000 in
theorem gq_same_wsL_same_r3 : GoodIn wsL_law wsL_same_r3 := goodIn_r _ [306, 307, 308, 309, 310, 311, 312, 313, 19, 314, 315, 316, 317, 340, 341, 53, 342, 343, 344, 345, 71, 72, 73, 185] (by decide +kernel) (by decide +kernel)
set_option maxRecDepth 20000 in
theorem gq_same_wsL_same_r4 : GoodIn wsL_law wsL_same_r4 := goodIn_r _ [186, 187, 188, 189, 190, 132, 133, 134, 135, 57, 58, 59, 60, 377, 378, 379, 380, 140, 141, 104, 105, 106, 30, 262] (by decide +kernel) (by decide +kernel)
set_option maxRecDepth 20000 in
theorem gq_same_wsL_same_r5 : GoodIn wsL_law wsL_same_r5 := goodIn_r _ [263, 264, 265, 31, 355, 356, 357, 358, 359, 360, 361, 65, 66, 67, 381, 382, 383, 384, 385, 386, 387, 388, 389, 390] (by decide +kernel) (by decide +kernel)
set_option maxRecDepth 20000 in
theorem gq_same_wsL_same_r6 : GoodIn wsL_law wsL_same_r6 := goodIn_r _ [391, 392, 393, 394, 395, 396, 397, 398, 399, 400, 195, 196, 197, 198, 86, 150, 151, 152, 401, 239, 240, 241, 225, 147] (by decide +kernel) (by decide +kernel)
set_option maxRecDepth 20000 in
theorem gq_same_wsL_same_r7 : GoodIn wsL_law wsL_same_r7 := goodIn_r _ [148, 149, 115, 36, 124] (by decide +kernel) (by decide +kernel)
set_option maxRecDepth 20000 in
theorem gq_same_wsX50 : GoodIn wsL_law wsX50 := goodIn_r _ [402, 403, 404, 405, 406, 407, 408, 409, 410, 411, 412, 413] (by decide +kernel) (by decide +kernel)
set_option maxRecDepth 20000 in
theorem gq_same_wsX30 : GoodIn wsL_law wsX30 := goodIn_r _ [417, 418, 419, 420, 421] (by decide +kernel) (by decide +kernel)
set_option maxRecDepth 20000 in
theorem gq_same_wsX00 : GoodIn wsL_law wsX00 := goodIn_r _ [414, 415, 416] (by decide +kernel) (by decide +kernel)
set_option maxRecDepth 20000 in
theorem gq_same_wsX20 : GoodIn wsL_law wsX20 := goodIn_r _ [422, 423, 424, 425] (by decide +kernel) (by decide +kernel)
set_option maxRecDepth 20000 in
theorem gq_same_wsX40 : GoodIn wsL_law wsX40 := goodIn_r _ [426, 427, 428] (by decide +kernel) (by decide +kernel)
theorem gq_same_t : GoodIn wsL_law ((.code yL_same cL_same 21 (some .boolean) : Cond) :: ((((((wsL_same_r1 ++ (wsL_same_r2 ++ (wsL_same_r3 ++ (wsL_same_r4 ++ (wsL_same_r5 ++ (wsL_same_r6 ++ wsL_same_r7)))))) ++ wsX50) ++ wsX30) ++ wsX00) ++ wsX20) ++ wsX40)) := goodIn_app (a := [.code yL_same cL_same 21 (some .boolean)]) gq_same_c (goodIn_app (goodIn_app (goodIn_app (goodIn_app (goodIn_app (goodIn_app gq_same_wsL_same_r1 (goodIn_app gq_same_wsL_same_r2 (goodIn_app gq_same_wsL_same_r3 (goodIn_app gq_same_wsL_same_r4 (goodIn_app gq_same_wsL_same_r5 (goodIn_app gq_same_wsL_same_r6 gq_same_wsL_same_r7)))))) gq_same_wsX50) gq_same_wsX30) gq_same_wsX00) gq_same_wsX20) gq_same_wsX40)
set_option maxRecDepth 20000 in
theorem ggL_law_L_same : GoodIn wsL_law wsL_same := goodIn_ca (goodIn_ca gq_same_t (goodIn_sub (fun _ h => List.mem_append_left _ (List.mem_append_left _ (List.mem_append_right _ h))) (by decide +kernel))) (goodIn_sub (fun _ h => List.mem_append_right _ h) (by decide +kernel))
set_option maxRecDepth 20000 in
theorem gL_law_L_same : GoodIn wsL_law (va_wsS RL 157 yL_same wsL_same) := goodIn_app (goodIn_of _ (by decide +kernel)) ggL_law_L_same
