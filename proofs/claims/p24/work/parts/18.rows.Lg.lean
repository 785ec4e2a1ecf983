theorem gq_rules_m : (Cond.code yL_rules cL_rules 17 (some .boolean)) ∈ wsL_law := (List.mem_append_left _ (List.mem_append_left _ (List.mem_append_left _ (List.mem_append_left _ (List.mem_append_left _ (List.mem_append_left _ (List.mem_append_left _ (List.mem_append_left _ (List.mem_append_left _ (List.mem_append_left _ (List.mem_append_right _ (List.mem_append_right _ (List.mem_append_right _ (List.mem_append_right _ (List.mem_append_right _ (List.mem_append_right _ (List.mem_append_right _ (List.mem_append_right _ (List.mem_append_right _ (List.mem_append_right _ (List.mem_append_right _ (List.mem_append_right _ (List.mem_append_right _ (List.mem_append_left _ (List.Mem.tail _ (List.Mem.tail _ (List.Mem.tail _ (List.Mem.tail _ (List.Mem.tail _ (List.Mem.tail _ (List.Mem.tail _ (List.Mem.tail _ (List.Mem.tail _ (List.Mem.tail _ (List.Mem.tail _ (List.Mem.tail _ (List.Mem.tail _ (List.Mem.tail _ (List.Mem.tail _ (List.Mem.tail _ (List.Mem.tail _ (List.Mem.tail _ (List.Mem.tail _ (List.Mem.tail _ (List.Mem.head _)))))))))))))))))))))))))))))))))))))))))))))
set_option maxRecDepth 20000 in
theorem gq_rules_c : GoodIn wsL_law [Cond.code yL_rules cL_rules 17 (some .boolean)] := goodIn_sub (fun w h => by rw [List.mem_singleton.mp h]; exact gq_rules_m) (by decide +kernel)
set_option maxRecDepth 20000 in
theorem gq_rules_wsL_rules_r1 : GoodIn wsL_law wsL_rules_r1 := goodIn_r _ [5, 57, 58, 53, 59, 60, 333, 334, 335, 2, 336, 81, 82, 140, 141, 83, 84, 294, 17, 308, 337, 338, 339, 150] (by decide +kernel) (by decide +kernel)
set_option maxRecDepth 20000 in
theorem gq_rules_wsL_rules_r2 : GoodIn wsL_law wsL_rules_r2 := goodIn_r _ [151, 152, 340, 341, 342, 343, 344, 345, 71, 72, 73, 185, 186, 187, 188, 189, 190, 132, 133, 134, 135, 346, 347, 348] (by decide +kernel) (by decide +kernel)
set_option maxRecDepth 20000 in
theorem gq_rules_wsL_rules_r3 : GoodIn wsL_law wsL_rules_r3 := goodIn_r _ [349, 350, 322, 323, 324, 325, 351, 352, 353, 354, 31, 13, 95, 286, 287, 288, 289, 85, 290, 291, 292, 293, 295, 296] (by decide +kernel) (by decide +kernel)
set_option maxRecDepth 20000 in
theorem gq_rules_wsL_rules_r4 : GoodIn wsL_law wsL_rules_r4 := goodIn_r _ [297, 298, 27, 299, 300, 301, 302, 303, 125, 126, 22, 127, 37, 304, 305, 306, 307, 309, 310, 311, 312, 313, 19, 314] (by decide +kernel) (by decide +kernel)
set_option maxRecDepth 20000 in
theorem gq_rules_wsL_rules_r5 : GoodIn wsL_law wsL_rules_r5 := goodIn_r _ [315, 316, 317, 355, 356, 357, 358, 359, 360, 361, 254, 255, 256, 257, 258, 259, 260, 261, 32, 14, 262, 263, 264, 265] (by decide +kernel) (by decide +kernel)
set_option maxRecDepth 20000 in
theorem gq_rules_wsL_rules_r6 : GoodIn wsL_law wsL_rules_r6 := goodIn_r _ [266, 267, 268, 269, 86, 23, 87, 88, 89, 90, 174, 175, 176, 199, 200, 201, 202, 203, 204, 205, 177, 178, 179, 180] (by decide +kernel) (by decide +kernel)
set_option maxRecDepth 20000 in
theorem gq_rules_wsL_rules_r7 : GoodIn wsL_law wsL_rules_r7 := goodIn_r _ [30, 91, 92, 93, 94, 206, 207, 208, 209, 10, 11, 210, 211, 212, 250, 251, 252, 253, 226, 227, 228, 229, 221, 222] (by decide +kernel) (by decide +kernel)
set_option maxRecDepth 20000 in
theorem gq_rules_wsL_rules_r8 : GoodIn wsL_law wsL_rules_r8 := goodIn_r _ [223, 224, 225, 147, 148, 149, 115, 36, 230, 231, 232, 233, 124, 242, 243, 244, 245, 238, 239, 240, 241, 270, 271, 272] (by decide +kernel) (by decide +kernel)
set_option maxRecDepth 20000 in
theorem gq_rules_wsL_rules_r9 : GoodIn wsL_law wsL_rules_r9 := goodIn_r _ [273, 217, 218, 219, 220, 274, 275, 276, 277, 278, 279, 280, 281, 282, 283, 284, 117, 118, 119, 120, 121, 122, 123, 128] (by decide +kernel) (by decide +kernel)
set_option maxRecDepth 20000 in
theorem gq_rules_wsL_rules_r10 : GoodIn wsL_law wsL_rules_r10 := goodIn_r _ [129, 130, 131, 234, 235, 236, 237, 285, 96, 97, 98, 99, 100, 101, 102, 103, 104, 105, 106, 107, 108, 109, 110, 111] (by decide +kernel) (by decide +kernel)
set_option maxRecDepth 20000 in
theorem gq_rules_wsL_rules_r11 : GoodIn wsL_law wsL_rules_r11 := goodIn_r _ [112, 113, 114, 318, 319, 320, 321, 195, 196, 197, 198, 326, 327, 328, 329, 15] (by decide +kernel) (by decide +kernel)
set_option maxRecDepth 20000 in
theorem gq_rules_wsX50 : GoodIn wsL_law wsX50 := goodIn_r _ [402, 403, 404, 405, 406, 407, 408, 409, 410, 411, 412, 413] (by decide +kernel) (by decide +kernel)
set_option maxRecDepth 20000 in
theorem gq_rules_wsX20 : GoodIn wsL_law wsX20 := goodIn_r _ [422, 423, 424, 425] (by decide +kernel) (by decide +kernel)
set_option maxRecDepth 20000 in
theorem gq_rules_wsX30 : GoodIn wsL_law wsX30 := goodIn_r _ [417, 418, 419, 420, 421] (by decide +kernel) (by decide +kernel)
set_option maxRecDepth 20000 in
theorem gq_rules_wsX00 : GoodIn wsL_law wsX00 := goodIn_r _ [414, 415, 416] (by decide +kernel) (by decide +kernel)
set_option maxRecDepth 20000 in
theorem gq_rules_wsX40 : GoodIn wsL_law wsX40 := goodIn_r _ [426, 427, 428] (by decide +kernel) (by decide +kernel)
set_option maxRecDepth 20000 in
theorem gq_rules_wsX10 : GoodIn wsL_law wsX10 := goodIn_r _ [429, 430, 431] (by decide +kernel) (by decide +kernel)
theorem gq_rules_t : GoodIn wsL_law ((.code yL_rules cL_rules 17 (some .boolean) : Cond) :: (((((((wsL_rules_r1 ++ (wsL_rules_r2 ++ (wsL_rules_r3 ++ (wsL_rules_r4 ++ (wsL_rules_r5 ++ (wsL_rules_r6 ++ (wsL_rules_r7 ++ (wsL_rules_r8 ++ (wsL_rules_r9 ++ (wsL_rules_r10 ++ wsL_rules_r11)))))))))) ++ wsX50) ++ wsX20) ++ wsX30) ++ wsX00) ++ wsX40) ++ wsX10)) := goodIn_app (a := [.code yL_rules cL_rules 17 (some .boolean)]) gq_rules_c (goodIn_app (goodIn_app (goodIn_app (goodIn_app (goodIn_app (goodIn_app (goodIn_app gq_rules_wsL_rules_r1 (goodIn_app gq_rules_wsL_rules_r2 (goodIn_app gq_rules_wsL_rules_r3 (goodIn_app gq_rules_wsL_rules_r4 (goodIn_app gq_rules_wsL_rules_r5 (goodIn_app gq_rules_wsL_rules_r6 (goodIn_app gq_rules_wsL_rules_r7 (goodIn_app gq_rules_wsL_rules_r8 (goodIn_app gq_rules_wsL_rules_r9 (goodIn_app gq_rules_wsL_rules_r10 gq_rules_wsL_rules_r11)))))))))) gq_rules_wsX50) gq_rules_wsX20) gq_rules_wsX30) gq_rules_wsX00) gq_rules_wsX40) gq_rules_wsX10)
set_option maxRecDepth 20000 in
theorem ggL_law_L_rules : GoodIn wsL_law wsL_rules := goodIn_ca (goodIn_ca (goodIn_ca gq_rules_t (goodIn_sub (fun _ h => List.mem_append_left _ (List.mem_append_left _ (List.mem_append_right _ h))) (by decide +kernel))) (goodIn_sub (fun _ h => List.mem_append_right _ h) (by decide +kernel))) (goodIn_sub (fun _ h => List.mem_append_left _ (List.mem_append_right _ h)) (by decide +kernel))
set_option maxRecDepth 20000 in
theorem gL_law_L_rules : GoodIn wsL_law (va_wsS RL 150 yL_rules wsL_rules) := goodIn_app (goodIn_of _ (by decide +kernel)) ggL_law_L_rules
