theorem dL_cell_0 : decode cL_cell 0 = .ok (.iload_n 1, 1) := by decide +kernel
theorem dL_cell_1 : decode cL_cell 1 = .ok (.aload_n 0, 1) := by decide +kernel
theorem dL_cell_2 : decode cL_cell 2 = .ok (.arraylength, 1) := by decide +kernel
theorem dL_cell_3 : decode cL_cell 3 = .ok (.if_icmp .ge 9, 3) := by decide +kernel
theorem dL_cell_6 : decode cL_cell 6 = .ok (.aload_n 0, 1) := by decide +kernel
theorem dL_cell_7 : decode cL_cell 7 = .ok (.iload_n 1, 1) := by decide +kernel
theorem dL_cell_8 : decode cL_cell 8 = .ok (.iaload, 1) := by decide +kernel
theorem dL_cell_9 : decode cL_cell 9 = .ok (.goto 13, 3) := by decide +kernel
theorem dL_cell_12 : decode cL_cell 12 = .ok (.ldc 7, 2) := by decide +kernel
theorem dL_cell_14 : decode cL_cell 14 = .ok (.iload_n 1, 1) := by decide +kernel
theorem dL_cell_15 : decode cL_cell 15 = .ok (.bipush 101, 2) := by decide +kernel
theorem dL_cell_17 : decode cL_cell 17 = .ok (.iadd, 1) := by decide +kernel
theorem dL_cell_18 : decode cL_cell 18 = .ok (.imul, 1) := by decide +kernel
theorem dL_cell_19 : decode cL_cell 19 = .ok (.ldc 8, 2) := by decide +kernel
theorem dL_cell_21 : decode cL_cell 21 = .ok (.iadd, 1) := by decide +kernel
theorem dL_cell_22 : decode cL_cell 22 = .ok (.ireturn, 1) := by decide +kernel
theorem dL_low_0 : decode cL_low 0 = .ok (.iload_n 0, 1) := by decide +kernel
theorem dL_low_1 : decode cL_low 1 = .ok (.ldc 9, 2) := by decide +kernel
theorem dL_low_3 : decode cL_low 3 = .ok (.iand, 1) := by decide +kernel
theorem dL_low_4 : decode cL_low 4 = .ok (.iload_n 1, 1) := by decide +kernel
theorem dL_low_5 : decode cL_low 5 = .ok (.irem, 1) := by decide +kernel
theorem dL_low_6 : decode cL_low 6 = .ok (.ireturn, 1) := by decide +kernel
set_option maxRecDepth 20000 in
theorem ggL_calls_X5_branch : GoodIn wsL_calls wsX5_branch := goodIn_ca (goodIn_ca (goodIn_r _ [7, 8, 9, 10, 11, 12, 13, 14, 6, 15, 16, 17, 18, 204, 205, 206, 207, 208, 209, 210, 211, 212, 213, 214, 215] (by decide +kernel) (by decide +kernel)) (goodIn_sub (fun _ h => List.mem_cons_of_mem _ (List.mem_append_left _ (List.mem_append_left _ (List.mem_append_right _ h)))) (by decide +kernel))) (goodIn_sub (fun _ h => List.mem_cons_of_mem _ (List.mem_append_left _ (List.mem_append_right _ h))) (by decide +kernel))
set_option maxRecDepth 20000 in
theorem gL_calls_X5_branch : GoodIn wsL_calls (wsV RL 10 RX5 yX5_branch wsX5_branch) := goodIn_app (goodIn_of _ (by decide +kernel)) ggL_calls_X5_branch
set_option maxRecDepth 20000 in
theorem ggL_calls_X5_merge : GoodIn wsL_calls wsX5_merge := goodIn_ca (goodIn_ca (goodIn_ca (goodIn_r _ [22, 23, 24, 8, 9, 25, 26, 11, 27, 28, 29, 6, 30, 16, 17, 10, 31, 32, 33, 34, 35, 36, 37, 38, 39, 40, 41, 42, 43, 44, 45, 46, 47, 18, 48, 49, 50, 51, 52, 53, 54, 55, 56, 57, 58, 59, 60, 61, 62, 63, 64, 65, 66, 67, 68, 69, 70, 71, 72, 73, 74, 75, 76, 77, 78, 79, 80, 81, 82, 83, 84, 85, 86, 87, 88, 89, 90, 91, 92, 93, 94, 95, 96, 97, 98, 99, 100, 101, 102, 103, 104, 105, 106, 107, 108, 109, 110, 111, 112, 113, 114, 115, 116, 117, 118, 119, 120, 121, 122, 123, 124, 125, 126, 127, 128, 129, 130, 131, 132, 133, 134, 135, 136, 137, 138, 139, 140, 141, 142, 143, 144, 145, 146, 147, 148, 149, 150, 151, 152, 153, 154, 155, 156, 157, 158, 159, 160, 161, 162, 163, 164, 165, 166, 167, 168, 169, 170, 171, 172, 173, 174, 175, 176, 177, 178, 179, 180, 181, 182, 183, 184, 185, 186, 204, 205, 206, 207, 208, 209, 210, 211, 212, 213, 214, 215, 216, 217, 218, 219, 220, 221, 222, 223, 224, 225, 226, 227, 228, 229, 230, 231, 232, 233] (by decide +kernel) (by decide +kernel)) (goodIn_sub (fun _ h => List.mem_cons_of_mem _ (List.mem_append_right _ h)) (by decide +kernel))) (goodIn_sub (fun _ h => List.mem_cons_of_mem _ (List.mem_append_left _ (List.mem_append_left _ (List.mem_append_right _ h)))) (by decide +kernel))) (goodIn_sub (fun _ h => List.mem_cons_of_mem _ (List.mem_append_left _ (List.mem_append_right _ h))) (by decide +kernel))
set_option maxRecDepth 20000 in
theorem gL_calls_X5_merge : GoodIn wsL_calls (wsV RL 16 RX5 yX5_merge wsX5_merge) := goodIn_app (goodIn_of _ (by decide +kernel)) ggL_calls_X5_merge
set_option maxRecDepth 20000 in
theorem ggL_calls_X5_waive : GoodIn wsL_calls wsX5_waive := goodIn_ca (goodIn_ca (goodIn_ca (goodIn_r _ [190, 23, 24, 8, 9, 167, 142, 157, 162, 163, 164, 165, 166, 191, 192, 193, 6, 194, 16, 17, 141, 195, 196, 197, 198, 25, 204, 205, 206, 207, 208, 209, 210, 211, 212, 213, 214, 215, 227, 228, 229, 230, 231, 232, 233] (by decide +kernel) (by decide +kernel)) (goodIn_sub (fun _ h => List.mem_cons_of_mem _ (List.mem_append_right _ h)) (by decide +kernel))) (goodIn_sub (fun _ h => List.mem_cons_of_mem _ (List.mem_append_left _ (List.mem_append_left _ (List.mem_append_right _ h)))) (by decide +kernel))) (goodIn_sub (fun _ h => List.mem_cons_of_mem _ (List.mem_append_left _ (List.mem_append_right _ h))) (by decide +kernel))
set_option maxRecDepth 20000 in
theorem gL_calls_X5_waive : GoodIn wsL_calls (wsV RL 20 RX5 yX5_waive wsX5_waive) := goodIn_app (goodIn_of _ (by decide +kernel)) ggL_calls_X5_waive
set_option maxRecDepth 20000 in
theorem ggL_calls_X5_show : GoodIn wsL_calls wsX5_show := goodIn_ca (goodIn_ca (goodIn_r _ [202, 8, 9, 203, 11, 27, 28, 29, 6, 30, 16, 17, 10, 48, 49, 50, 51, 41, 42, 132, 133, 134, 135, 136, 137, 138, 139, 140, 141, 142, 143, 144, 145, 146, 147, 148, 149, 150, 151, 152, 85, 86, 72, 87, 88, 153, 154, 155, 156, 157, 158, 159, 160, 161, 162, 163, 164, 165, 166, 167, 204, 205, 206, 207, 208, 209, 210, 211, 212, 213, 214, 215, 219, 220, 221, 222, 223, 224, 225, 226, 227, 228, 229, 230, 231, 232, 233] (by decide +kernel) (by decide +kernel)) (goodIn_sub (fun _ h => List.mem_cons_of_mem _ (List.mem_append_left _ (List.mem_append_left _ (List.mem_append_right _ h)))) (by decide +kernel))) (goodIn_sub (fun _ h => List.mem_cons_of_mem _ (List.mem_append_left _ (List.mem_append_right _ h))) (by decide +kernel))
set_option maxRecDepth 20000 in
theorem gL_calls_X5_show : GoodIn wsL_calls (wsV RL 23 RX5 yX5_show wsX5_show) := goodIn_app (goodIn_of _ (by decide +kernel)) ggL_calls_X5_show
theorem dL_calls_0 : decode cL_calls 0 = .ok (.iload_n 1, 1) := by decide +kernel
theorem dL_calls_1 : decode cL_calls 1 = .ok (.ifCond .ne 11, 3) := by decide +kernel
theorem dL_calls_4 : decode cL_calls 4 = .ok (.aload_n 0, 1) := by decide +kernel
theorem dL_calls_5 : decode cL_calls 5 = .ok (.iload_n 2, 1) := by decide +kernel
theorem dL_calls_6 : decode cL_calls 6 = .ok (.invokevirtual 10, 3) := by decide +kernel
theorem dL_calls_9 : decode cL_calls 9 = .ok (.goto 40, 3) := by decide +kernel
theorem dL_calls_12 : decode cL_calls 12 = .ok (.iload_n 1, 1) := by decide +kernel
theorem dL_calls_13 : decode cL_calls 13 = .ok (.iconst 1, 1) := by decide +kernel
theorem dL_calls_14 : decode cL_calls 14 = .ok (.if_icmp .ne 14, 3) := by decide +kernel
theorem dL_calls_17 : decode cL_calls 17 = .ok (.aload_n 0, 1) := by decide +kernel
theorem dL_calls_18 : decode cL_calls 18 = .ok (.iload_n 2, 1) := by decide +kernel
theorem dL_calls_19 : decode cL_calls 19 = .ok (.iload_n 3, 1) := by decide +kernel
theorem dL_calls_20 : decode cL_calls 20 = .ok (.iload 4, 2) := by decide +kernel
theorem dL_calls_22 : decode cL_calls 22 = .ok (.invokevirtual 16, 3) := by decide +kernel
theorem dL_calls_25 : decode cL_calls 25 = .ok (.goto 24, 3) := by decide +kernel
theorem dL_calls_28 : decode cL_calls 28 = .ok (.iload_n 1, 1) := by decide +kernel
theorem dL_calls_29 : decode cL_calls 29 = .ok (.iconst 2, 1) := by decide +kernel
theorem dL_calls_30 : decode cL_calls 30 = .ok (.if_icmp .ne 14, 3) := by decide +kernel
theorem dL_calls_33 : decode cL_calls 33 = .ok (.aload_n 0, 1) := by decide +kernel
theorem dL_calls_34 : decode cL_calls 34 = .ok (.iload_n 2, 1) := by decide +kernel
theorem dL_calls_35 : decode cL_calls 35 = .ok (.iload_n 3, 1) := by decide +kernel
theorem dL_calls_36 : decode cL_calls 36 = .ok (.iload 4, 2) := by decide +kernel
theorem dL_calls_38 : decode cL_calls 38 = .ok (.invokevirtual 20, 3) := by decide +kernel
theorem dL_calls_41 : decode cL_calls 41 = .ok (.goto 8, 3) := by decide +kernel
theorem dL_calls_44 : decode cL_calls 44 = .ok (.aload_n 0, 1) := by decide +kernel
theorem dL_calls_45 : decode cL_calls 45 = .ok (.iload_n 2, 1) := by decide +kernel
theorem dL_calls_46 : decode cL_calls 46 = .ok (.invokevirtual 23, 3) := by decide +kernel
theorem dL_calls_49 : decode cL_calls 49 = .ok (.ireturn, 1) := by decide +kernel
theorem dL_calls_50 : decode cL_calls 50 = .ok (.astore 5, 2) := by decide +kernel
theorem dL_calls_52 : decode cL_calls 52 = .ok (.ldc 28, 2) := by decide +kernel
theorem dL_calls_54 : decode cL_calls 54 = .ok (.ireturn, 1) := by decide +kernel
theorem dL_get_0 : decode cL_get 0 = .ok (.bipush 6, 2) := by decide +kernel
theorem dL_get_2 : decode cL_get 2 = .ok (.iload_n 0, 1) := by decide +kernel
theorem dL_get_3 : decode cL_get 3 = .ok (.imul, 1) := by decide +kernel
theorem dL_get_4 : decode cL_get 4 = .ok (.iload_n 1, 1) := by decide +kernel
theorem dL_get_5 : decode cL_get 5 = .ok (.iadd, 1) := by decide +kernel
theorem dL_get_6 : decode cL_get 6 = .ok (.istore 4, 2) := by decide +kernel
theorem dL_get_8 : decode cL_get 8 = .ok (.iload 4, 2) := by decide +kernel
theorem dL_get_10 : decode cL_get 10 = .ok (.bipush 64, 2) := by decide +kernel
theorem dL_get_12 : decode cL_get 12 = .ok (.if_icmp .ge 10, 3) := by decide +kernel
theorem dL_get_15 : decode cL_get 15 = .ok (.aload_n 2, 1) := by decide +kernel
theorem dL_get_16 : decode cL_get 16 = .ok (.iload 4, 2) := by decide +kernel
theorem dL_get_18 : decode cL_get 18 = .ok (.laload, 1) := by decide +kernel
theorem dL_get_19 : decode cL_get 19 = .ok (.goto 10, 3) := by decide +kernel
theorem dL_get_22 : decode cL_get 22 = .ok (.aload_n 3, 1) := by decide +kernel
theorem dL_get_23 : decode cL_get 23 = .ok (.iload 4, 2) := by decide +kernel
theorem dL_get_25 : decode cL_get 25 = .ok (.bipush 64, 2) := by decide +kernel
theorem dL_get_27 : decode cL_get 27 = .ok (.isub, 1) := by decide +kernel
theorem dL_get_28 : decode cL_get 28 = .ok (.laload, 1) := by decide +kernel
theorem dL_get_29 : decode cL_get 29 = .ok (.lreturn, 1) := by decide +kernel
theorem dL_put_0 : decode cL_put 0 = .ok (.bipush 6, 2) := by decide +kernel
theorem dL_put_2 : decode cL_put 2 = .ok (.iload_n 0, 1) := by decide +kernel
theorem dL_put_3 : decode cL_put 3 = .ok (.imul, 1) := by decide +kernel
theorem dL_put_4 : decode cL_put 4 = .ok (.iload_n 1, 1) := by decide +kernel
theorem dL_put_5 : decode cL_put 5 = .ok (.iadd, 1) := by decide +kernel
theorem dL_put_6 : decode cL_put 6 = .ok (.istore 6, 2) := by decide +kernel
theorem dL_put_8 : decode cL_put 8 = .ok (.iload 6, 2) := by decide +kernel
theorem dL_put_10 : decode cL_put 10 = .ok (.bipush 64, 2) := by decide +kernel
theorem dL_put_12 : decode cL_put 12 = .ok (.if_icmp .ge 12, 3) := by decide +kernel
theorem dL_put_15 : decode cL_put 15 = .ok (.aload 4, 2) := by decide +kernel
theorem dL_put_17 : decode cL_put 17 = .ok (.iload 6, 2) := by decide +kernel
theorem dL_put_19 : decode cL_put 19 = .ok (.lload_n 2, 1) := by decide +kernel
theorem dL_put_20 : decode cL_put 20 = .ok (.lastore, 1) := by decide +kernel
theorem dL_put_21 : decode cL_put 21 = .ok (.goto 12, 3) := by decide +kernel
theorem dL_put_24 : decode cL_put 24 = .ok (.aload 5, 2) := by decide +kernel
theorem dL_put_26 : decode cL_put 26 = .ok (.iload 6, 2) := by decide +kernel
theorem dL_put_28 : decode cL_put 28 = .ok (.bipush 64, 2) := by decide +kernel
theorem dL_put_30 : decode cL_put 30 = .ok (.isub, 1) := by decide +kernel
theorem dL_put_31 : decode cL_put 31 = .ok (.lload_n 2, 1) := by decide +kernel
theorem dL_put_32 : decode cL_put 32 = .ok (.lastore, 1) := by decide +kernel
theorem dL_put_33 : decode cL_put 33 = .ok (.return_, 1) := by decide +kernel
theorem dL_value_0 : decode cL_value 0 = .ok (.lload_n 0, 1) := by decide +kernel
theorem dL_value_1 : decode cL_value 1 = .ok (.bipush 10, 2) := by decide +kernel
theorem dL_value_3 : decode cL_value 3 = .ok (.iload_n 2, 1) := by decide +kernel
theorem dL_value_4 : decode cL_value 4 = .ok (.imul, 1) := by decide +kernel
theorem dL_value_5 : decode cL_value 5 = .ok (.lshr, 1) := by decide +kernel
theorem dL_value_6 : decode cL_value 6 = .ok (.ldc2_w 29, 3) := by decide +kernel
theorem dL_value_9 : decode cL_value 9 = .ok (.land, 1) := by decide +kernel
theorem dL_value_10 : decode cL_value 10 = .ok (.l2i, 1) := by decide +kernel
theorem dL_value_11 : decode cL_value 11 = .ok (.ireturn, 1) := by decide +kernel
theorem dL_many_0 : decode cL_many 0 = .ok (.iconst 0, 1) := by decide +kernel
theorem dL_many_1 : decode cL_many 1 = .ok (.istore_n 1, 1) := by decide +kernel
theorem dL_many_2 : decode cL_many 2 = .ok (.iload_n 0, 1) := by decide +kernel
theorem dL_many_3 : decode cL_many 3 = .ok (.iconst 3, 1) := by decide +kernel
theorem dL_many_4 : decode cL_many 4 = .ok (.iload_n 1, 1) := by decide +kernel
theorem dL_many_5 : decode cL_many 5 = .ok (.imul, 1) := by decide +kernel
theorem dL_many_6 : decode cL_many 6 = .ok (.ishr, 1) := by decide +kernel
theorem dL_many_7 : decode cL_many 7 = .ok (.ifCond .le 9, 3) := by decide +kernel
theorem dL_many_10 : decode cL_many 10 = .ok (.iinc 1 1, 3) := by decide +kernel
theorem dL_many_13 : decode cL_many 13 = .ok (.goto (-11), 3) := by decide +kernel
theorem dL_many_16 : decode cL_many 16 = .ok (.iload_n 1, 1) := by decide +kernel
theorem dL_many_17 : decode cL_many 17 = .ok (.ireturn, 1) := by decide +kernel
set_option maxRecDepth 20000 in
theorem ggL_copy_L_get : GoodIn wsL_copy wsL_get := goodIn_r _ [4] (by decide +kernel) (by decide +kernel)
set_option maxRecDepth 20000 in
theorem gL_copy_L_get : GoodIn wsL_copy (va_wsS RL 31 yL_get wsL_get) := goodIn_app (goodIn_of _ (by decide +kernel)) ggL_copy_L_get
set_option maxRecDepth 20000 in
theorem ggL_copy_L_put : GoodIn wsL_copy wsL_put := goodIn_r _ [7] (by decide +kernel) (by decide +kernel)
set_option maxRecDepth 20000 in
theorem gL_copy_L_put : GoodIn wsL_copy (va_wsS RL 37 yL_put wsL_put) := goodIn_app (goodIn_of _ (by decide +kernel)) ggL_copy_L_put
theorem dL_copy_0 : decode cL_copy 0 = .ok (.aload 7, 2) := by decide +kernel
theorem dL_copy_2 : decode cL_copy 2 = .ok (.iconst 0, 1) := by decide +kernel
theorem dL_copy_3 : decode cL_copy 3 = .ok (.iaload, 1) := by decide +kernel
theorem dL_copy_4 : decode cL_copy 4 = .ok (.istore 8, 2) := by decide +kernel
theorem dL_copy_6 : decode cL_copy 6 = .ok (.aload 6, 2) := by decide +kernel
theorem dL_copy_8 : decode cL_copy 8 = .ok (.iload_n 0, 1) := by decide +kernel
theorem dL_copy_9 : decode cL_copy 9 = .ok (.iaload, 1) := by decide +kernel
theorem dL_copy_10 : decode cL_copy 10 = .ok (.istore 9, 2) := by decide +kernel
theorem dL_copy_12 : decode cL_copy 12 = .ok (.aload 7, 2) := by decide +kernel
theorem dL_copy_14 : decode cL_copy 14 = .ok (.iconst 0, 1) := by decide +kernel
theorem dL_copy_15 : decode cL_copy 15 = .ok (.dup2, 1) := by decide +kernel
theorem dL_copy_16 : decode cL_copy 16 = .ok (.iaload, 1) := by decide +kernel
theorem dL_copy_17 : decode cL_copy 17 = .ok (.iconst 1, 1) := by decide +kernel
theorem dL_copy_18 : decode cL_copy 18 = .ok (.iadd, 1) := by decide +kernel
theorem dL_copy_19 : decode cL_copy 19 = .ok (.iastore, 1) := by decide +kernel
theorem dL_copy_20 : decode cL_copy 20 = .ok (.iconst 0, 1) := by decide +kernel
theorem dL_copy_21 : decode cL_copy 21 = .ok (.istore 10, 2) := by decide +kernel
theorem dL_copy_23 : decode cL_copy 23 = .ok (.iload 10, 2) := by decide +kernel
theorem dL_copy_25 : decode cL_copy 25 = .ok (.bipush 6, 2) := by decide +kernel
theorem dL_copy_27 : decode cL_copy 27 = .ok (.if_icmp .ge 27, 3) := by decide +kernel
theorem dL_copy_30 : decode cL_copy 30 = .ok (.iload 8, 2) := by decide +kernel
theorem dL_copy_32 : decode cL_copy 32 = .ok (.iload 10, 2) := by decide +kernel
theorem dL_copy_34 : decode cL_copy 34 = .ok (.iload 9, 2) := by decide +kernel
theorem dL_copy_36 : decode cL_copy 36 = .ok (.iload 10, 2) := by decide +kernel
theorem dL_copy_38 : decode cL_copy 38 = .ok (.aload_n 1, 1) := by decide +kernel
theorem dL_copy_39 : decode cL_copy 39 = .ok (.aload_n 2, 1) := by decide +kernel
theorem dL_copy_40 : decode cL_copy 40 = .ok (.invokestatic 31, 3) := by decide +kernel
theorem dL_copy_43 : decode cL_copy 43 = .ok (.aload_n 1, 1) := by decide +kernel
theorem dL_copy_44 : decode cL_copy 44 = .ok (.aload_n 2, 1) := by decide +kernel
theorem dL_copy_45 : decode cL_copy 45 = .ok (.invokestatic 37, 3) := by decide +kernel
theorem dL_copy_48 : decode cL_copy 48 = .ok (.iinc 10 1, 3) := by decide +kernel
theorem dL_copy_51 : decode cL_copy 51 = .ok (.goto (-28), 3) := by decide +kernel
theorem dL_copy_54 : decode cL_copy 54 = .ok (.aload_n 3, 1) := by decide +kernel
theorem dL_copy_55 : decode cL_copy 55 = .ok (.iload 8, 2) := by decide +kernel
theorem dL_copy_57 : decode cL_copy 57 = .ok (.aload_n 3, 1) := by decide +kernel
theorem dL_copy_58 : decode cL_copy 58 = .ok (.iload 9, 2) := by decide +kernel
theorem dL_copy_60 : decode cL_copy 60 = .ok (.iaload, 1) := by decide +kernel
theorem dL_copy_61 : decode cL_copy 61 = .ok (.iastore, 1) := by decide +kernel
theorem dL_copy_62 : decode cL_copy 62 = .ok (.aload 4, 2) := by decide +kernel
theorem dL_copy_64 : decode cL_copy 64 = .ok (.iload 8, 2) := by decide +kernel
theorem dL_copy_66 : decode cL_copy 66 = .ok (.aload 4, 2) := by decide +kernel
theorem dL_copy_68 : decode cL_copy 68 = .ok (.iload 9, 2) := by decide +kernel
theorem dL_copy_70 : decode cL_copy 70 = .ok (.iaload, 1) := by decide +kernel
theorem dL_copy_71 : decode cL_copy 71 = .ok (.iconst 1, 1) := by decide +kernel
theorem dL_copy_72 : decode cL_copy 72 = .ok (.iload 8, 2) := by decide +kernel
theorem dL_copy_74 : decode cL_copy 74 = .ok (.ishl, 1) := by decide +kernel
theorem dL_copy_75 : decode cL_copy 75 = .ok (.ior, 1) := by decide +kernel
theorem dL_copy_76 : decode cL_copy 76 = .ok (.iastore, 1) := by decide +kernel
theorem dL_copy_77 : decode cL_copy 77 = .ok (.aload 5, 2) := by decide +kernel
theorem dL_copy_79 : decode cL_copy 79 = .ok (.iload 8, 2) := by decide +kernel
theorem dL_copy_81 : decode cL_copy 81 = .ok (.iload 9, 2) := by decide +kernel
theorem dL_copy_83 : decode cL_copy 83 = .ok (.iconst 1, 1) := by decide +kernel
theorem dL_copy_84 : decode cL_copy 84 = .ok (.iadd, 1) := by decide +kernel
theorem dL_copy_85 : decode cL_copy 85 = .ok (.sipush 4096, 3) := by decide +kernel
theorem dL_copy_88 : decode cL_copy 88 = .ok (.iload_n 0, 1) := by decide +kernel
theorem dL_copy_89 : decode cL_copy 89 = .ok (.imul, 1) := by decide +kernel
theorem dL_copy_90 : decode cL_copy 90 = .ok (.iadd, 1) := by decide +kernel
theorem dL_copy_91 : decode cL_copy 91 = .ok (.iastore, 1) := by decide +kernel
theorem dL_copy_92 : decode cL_copy 92 = .ok (.aload 6, 2) := by decide +kernel
theorem dL_copy_94 : decode cL_copy 94 = .ok (.iload_n 0, 1) := by decide +kernel
theorem dL_copy_95 : decode cL_copy 95 = .ok (.iload 8, 2) := by decide +kernel
theorem dL_copy_97 : decode cL_copy 97 = .ok (.iastore, 1) := by decide +kernel
theorem dL_copy_98 : decode cL_copy 98 = .ok (.iload 8, 2) := by decide +kernel
theorem dL_copy_100 : decode cL_copy 100 = .ok (.ireturn, 1) := by decide +kernel
theorem dL_base_0 : decode cL_base 0 = .ok (.aload_n 2, 1) := by decide +kernel
theorem dL_base_1 : decode cL_base 1 = .ok (.iload_n 0, 1) := by decide +kernel
theorem dL_base_2 : decode cL_base 2 = .ok (.iaload, 1) := by decide +kernel
theorem dL_base_3 : decode cL_base 3 = .ok (.aload_n 2, 1) := by decide +kernel
theorem dL_base_4 : decode cL_base 4 = .ok (.iload_n 1, 1) := by decide +kernel
theorem dL_base_5 : decode cL_base 5 = .ok (.iaload, 1) := by decide +kernel
theorem dL_base_6 : decode cL_base 6 = .ok (.iand, 1) := by decide +kernel
theorem dL_base_7 : decode cL_base 7 = .ok (.istore_n 3, 1) := by decide +kernel
theorem dL_base_8 : decode cL_base 8 = .ok (.iconst 0, 1) := by decide +kernel
theorem dL_base_9 : decode cL_base 9 = .ok (.istore 4, 2) := by decide +kernel
theorem dL_base_11 : decode cL_base 11 = .ok (.iload_n 3, 1) := by decide +kernel
theorem dL_base_12 : decode cL_base 12 = .ok (.iload 4, 2) := by decide +kernel
theorem dL_base_14 : decode cL_base 14 = .ok (.ishr, 1) := by decide +kernel
theorem dL_base_15 : decode cL_base 15 = .ok (.iconst 1, 1) := by decide +kernel
theorem dL_base_16 : decode cL_base 16 = .ok (.if_icmp .le 9, 3) := by decide +kernel
theorem dL_base_19 : decode cL_base 19 = .ok (.iinc 4 1, 3) := by decide +kernel
theorem dL_base_22 : decode cL_base 22 = .ok (.goto (-11), 3) := by decide +kernel
theorem dL_base_25 : decode cL_base 25 = .ok (.iload 4, 2) := by decide +kernel
theorem dL_base_27 : decode cL_base 27 = .ok (.ireturn, 1) := by decide +kernel
set_option maxRecDepth 20000 in
theorem ggL_meets_L_value : GoodIn wsL_meets wsL_value := goodIn_r _ [6, 7] (by decide +kernel) (by decide +kernel)
set_option maxRecDepth 20000 in
theorem gL_meets_L_value : GoodIn wsL_meets (va_wsS RL 45 yL_value wsL_value) := goodIn_app (goodIn_of _ (by decide +kernel)) ggL_meets_L_value
theorem dL_meets_0 : decode cL_meets 0 = .ok (.lload_n 2, 1) := by decide +kernel
theorem dL_meets_1 : decode cL_meets 1 = .ok (.lload 4, 2) := by decide +kernel
theorem dL_meets_3 : decode cL_meets 3 = .ok (.lcmp, 1) := by decide +kernel
theorem dL_meets_4 : decode cL_meets 4 = .ok (.ifCond .ne 5, 3) := by decide +kernel
theorem dL_meets_7 : decode cL_meets 7 = .ok (.lload_n 2, 1) := by decide +kernel
theorem dL_meets_8 : decode cL_meets 8 = .ok (.lreturn, 1) := by decide +kernel
theorem dL_meets_9 : decode cL_meets 9 = .ok (.lload_n 0, 1) := by decide +kernel
theorem dL_meets_10 : decode cL_meets 10 = .ok (.lconst 0, 1) := by decide +kernel
theorem dL_meets_11 : decode cL_meets 11 = .ok (.lcmp, 1) := by decide +kernel
theorem dL_meets_12 : decode cL_meets 12 = .ok (.ifCond .ne 21, 3) := by decide +kernel
theorem dL_meets_15 : decode cL_meets 15 = .ok (.lload_n 2, 1) := by decide +kernel
theorem dL_meets_16 : decode cL_meets 16 = .ok (.lconst 0, 1) := by decide +kernel
theorem dL_meets_17 : decode cL_meets 17 = .ok (.lcmp, 1) := by decide +kernel
theorem dL_meets_18 : decode cL_meets 18 = .ok (.ifCond .eq 10, 3) := by decide +kernel
theorem dL_meets_21 : decode cL_meets 21 = .ok (.lload 4, 2) := by decide +kernel
theorem dL_meets_23 : decode cL_meets 23 = .ok (.lconst 0, 1) := by decide +kernel
theorem dL_meets_24 : decode cL_meets 24 = .ok (.lcmp, 1) := by decide +kernel
theorem dL_meets_25 : decode cL_meets 25 = .ok (.ifCond .ne 8, 3) := by decide +kernel
theorem dL_meets_28 : decode cL_meets 28 = .ok (.lload_n 2, 1) := by decide +kernel
theorem dL_meets_29 : decode cL_meets 29 = .ok (.lload 4, 2) := by decide +kernel
theorem dL_meets_31 : decode cL_meets 31 = .ok (.ladd, 1) := by decide +kernel
theorem dL_meets_32 : decode cL_meets 32 = .ok (.lreturn, 1) := by decide +kernel
theorem dL_meets_33 : decode cL_meets 33 = .ok (.lload_n 2, 1) := by decide +kernel
theorem dL_meets_34 : decode cL_meets 34 = .ok (.lconst 0, 1) := by decide +kernel
theorem dL_meets_35 : decode cL_meets 35 = .ok (.lcmp, 1) := by decide +kernel
theorem dL_meets_36 : decode cL_meets 36 = .ok (.ifCond .eq 10, 3) := by decide +kernel
theorem dL_meets_39 : decode cL_meets 39 = .ok (.lload 4, 2) := by decide +kernel
theorem dL_meets_41 : decode cL_meets 41 = .ok (.lconst 0, 1) := by decide +kernel
theorem dL_meets_42 : decode cL_meets 42 = .ok (.lcmp, 1) := by decide +kernel
theorem dL_meets_43 : decode cL_meets 43 = .ok (.ifCond .ne 32, 3) := by decide +kernel
theorem dL_meets_46 : decode cL_meets 46 = .ok (.lload_n 2, 1) := by decide +kernel
theorem dL_meets_47 : decode cL_meets 47 = .ok (.lload 4, 2) := by decide +kernel
theorem dL_meets_49 : decode cL_meets 49 = .ok (.ladd, 1) := by decide +kernel
theorem dL_meets_50 : decode cL_meets 50 = .ok (.lload_n 0, 1) := by decide +kernel
theorem dL_meets_51 : decode cL_meets 51 = .ok (.lcmp, 1) := by decide +kernel
theorem dL_meets_52 : decode cL_meets 52 = .ok (.ifCond .ne 7, 3) := by decide +kernel
theorem dL_meets_55 : decode cL_meets 55 = .ok (.lconst 0, 1) := by decide +kernel
theorem dL_meets_56 : decode cL_meets 56 = .ok (.goto 18, 3) := by decide +kernel
theorem dL_meets_59 : decode cL_meets 59 = .ok (.iload 6, 2) := by decide +kernel
theorem dL_meets_61 : decode cL_meets 61 = .ok (.ifCond .eq 7, 3) := by decide +kernel
theorem dL_meets_64 : decode cL_meets 64 = .ok (.lload_n 2, 1) := by decide +kernel
theorem dL_meets_65 : decode cL_meets 65 = .ok (.goto 5, 3) := by decide +kernel
theorem dL_meets_68 : decode cL_meets 68 = .ok (.lload 4, 2) := by decide +kernel
theorem dL_meets_70 : decode cL_meets 70 = .ok (.ldc2_w 41, 3) := by decide +kernel
theorem dL_meets_73 : decode cL_meets 73 = .ok (.ladd, 1) := by decide +kernel
theorem dL_meets_74 : decode cL_meets 74 = .ok (.lreturn, 1) := by decide +kernel
theorem dL_meets_75 : decode cL_meets 75 = .ok (.ldc2_w 43, 3) := by decide +kernel
theorem dL_meets_78 : decode cL_meets 78 = .ok (.lstore 7, 2) := by decide +kernel
theorem dL_meets_80 : decode cL_meets 80 = .ok (.lconst 0, 1) := by decide +kernel
theorem dL_meets_81 : decode cL_meets 81 = .ok (.lstore 9, 2) := by decide +kernel
theorem dL_meets_83 : decode cL_meets 83 = .ok (.iconst 0, 1) := by decide +kernel
theorem dL_meets_84 : decode cL_meets 84 = .ok (.istore 11, 2) := by decide +kernel
theorem dL_meets_86 : decode cL_meets 86 = .ok (.iload 11, 2) := by decide +kernel
theorem dL_meets_88 : decode cL_meets 88 = .ok (.iconst 4, 1) := by decide +kernel
theorem dL_meets_89 : decode cL_meets 89 = .ok (.if_icmp .ge 156, 3) := by decide +kernel
theorem dL_meets_92 : decode cL_meets 92 = .ok (.lload_n 2, 1) := by decide +kernel
theorem dL_meets_93 : decode cL_meets 93 = .ok (.iload 11, 2) := by decide +kernel
theorem dL_meets_95 : decode cL_meets 95 = .ok (.invokestatic 45, 3) := by decide +kernel
theorem dL_meets_98 : decode cL_meets 98 = .ok (.istore 12, 2) := by decide +kernel
theorem dL_meets_100 : decode cL_meets 100 = .ok (.lload 4, 2) := by decide +kernel
theorem dL_meets_102 : decode cL_meets 102 = .ok (.iload 11, 2) := by decide +kernel
theorem dL_meets_104 : decode cL_meets 104 = .ok (.invokestatic 45, 3) := by decide +kernel
theorem dL_meets_107 : decode cL_meets 107 = .ok (.istore 13, 2) := by decide +kernel
theorem dL_meets_109 : decode cL_meets 109 = .ok (.lload_n 0, 1) := by decide +kernel
theorem dL_meets_110 : decode cL_meets 110 = .ok (.lconst 0, 1) := by decide +kernel
theorem dL_meets_111 : decode cL_meets 111 = .ok (.lcmp, 1) := by decide +kernel
theorem dL_meets_112 : decode cL_meets 112 = .ok (.ifCond .eq 18, 3) := by decide +kernel
theorem dL_meets_115 : decode cL_meets 115 = .ok (.lload_n 0, 1) := by decide +kernel
theorem dL_meets_116 : decode cL_meets 116 = .ok (.iload 11, 2) := by decide +kernel
theorem dL_meets_118 : decode cL_meets 118 = .ok (.invokestatic 45, 3) := by decide +kernel
theorem dL_meets_121 : decode cL_meets 121 = .ok (.iload 12, 2) := by decide +kernel
theorem dL_meets_123 : decode cL_meets 123 = .ok (.if_icmp .ne 7, 3) := by decide +kernel
theorem dL_meets_126 : decode cL_meets 126 = .ok (.iconst 1, 1) := by decide +kernel
theorem dL_meets_127 : decode cL_meets 127 = .ok (.goto 4, 3) := by decide +kernel
theorem dL_meets_130 : decode cL_meets 130 = .ok (.iconst 0, 1) := by decide +kernel
theorem dL_meets_131 : decode cL_meets 131 = .ok (.istore 14, 2) := by decide +kernel
theorem dL_meets_133 : decode cL_meets 133 = .ok (.lload_n 0, 1) := by decide +kernel
theorem dL_meets_134 : decode cL_meets 134 = .ok (.lconst 0, 1) := by decide +kernel
theorem dL_meets_135 : decode cL_meets 135 = .ok (.lcmp, 1) := by decide +kernel
theorem dL_meets_136 : decode cL_meets 136 = .ok (.ifCond .eq 18, 3) := by decide +kernel
theorem dL_meets_139 : decode cL_meets 139 = .ok (.lload_n 0, 1) := by decide +kernel
theorem dL_meets_140 : decode cL_meets 140 = .ok (.iload 11, 2) := by decide +kernel
theorem dL_meets_142 : decode cL_meets 142 = .ok (.invokestatic 45, 3) := by decide +kernel
theorem dL_meets_145 : decode cL_meets 145 = .ok (.iload 13, 2) := by decide +kernel
theorem dL_meets_147 : decode cL_meets 147 = .ok (.if_icmp .ne 7, 3) := by decide +kernel
theorem dL_meets_150 : decode cL_meets 150 = .ok (.iconst 1, 1) := by decide +kernel
theorem dL_meets_151 : decode cL_meets 151 = .ok (.goto 4, 3) := by decide +kernel
theorem dL_meets_154 : decode cL_meets 154 = .ok (.iconst 0, 1) := by decide +kernel
theorem dL_meets_155 : decode cL_meets 155 = .ok (.istore 15, 2) := by decide +kernel
theorem dL_meets_157 : decode cL_meets 157 = .ok (.lload 9, 2) := by decide +kernel
theorem dL_meets_159 : decode cL_meets 159 = .ok (.iload 12, 2) := by decide +kernel
theorem dL_meets_161 : decode cL_meets 161 = .ok (.iload 13, 2) := by decide +kernel
theorem dL_meets_163 : decode cL_meets 163 = .ok (.if_icmp .eq 17, 3) := by decide +kernel
theorem dL_meets_166 : decode cL_meets 166 = .ok (.iload 14, 2) := by decide +kernel
theorem dL_meets_168 : decode cL_meets 168 = .ok (.ifCond .ne 12, 3) := by decide +kernel
theorem dL_meets_171 : decode cL_meets 171 = .ok (.iload 15, 2) := by decide +kernel
theorem dL_meets_173 : decode cL_meets 173 = .ok (.ifCond .ne 7, 3) := by decide +kernel
theorem dL_meets_176 : decode cL_meets 176 = .ok (.lconst 1, 1) := by decide +kernel
theorem dL_meets_177 : decode cL_meets 177 = .ok (.goto 4, 3) := by decide +kernel
theorem dL_meets_180 : decode cL_meets 180 = .ok (.lconst 0, 1) := by decide +kernel
theorem dL_meets_181 : decode cL_meets 181 = .ok (.ladd, 1) := by decide +kernel
theorem dL_meets_182 : decode cL_meets 182 = .ok (.lstore 9, 2) := by decide +kernel
theorem dL_meets_184 : decode cL_meets 184 = .ok (.iload 12, 2) := by decide +kernel
theorem dL_meets_186 : decode cL_meets 186 = .ok (.iload 13, 2) := by decide +kernel
theorem dL_meets_188 : decode cL_meets 188 = .ok (.if_icmp .eq 8, 3) := by decide +kernel
theorem dL_meets_191 : decode cL_meets 191 = .ok (.iload 15, 2) := by decide +kernel
theorem dL_meets_193 : decode cL_meets 193 = .ok (.ifCond .eq 8, 3) := by decide +kernel
theorem dL_meets_196 : decode cL_meets 196 = .ok (.iload 12, 2) := by decide +kernel
theorem dL_meets_198 : decode cL_meets 198 = .ok (.goto 25, 3) := by decide +kernel
theorem dL_meets_201 : decode cL_meets 201 = .ok (.iload 14, 2) := by decide +kernel
theorem dL_meets_203 : decode cL_meets 203 = .ok (.ifCond .eq 8, 3) := by decide +kernel
theorem dL_meets_206 : decode cL_meets 206 = .ok (.iload 13, 2) := by decide +kernel
theorem dL_meets_208 : decode cL_meets 208 = .ok (.goto 15, 3) := by decide +kernel
theorem dL_meets_211 : decode cL_meets 211 = .ok (.iload 6, 2) := by decide +kernel
theorem dL_meets_213 : decode cL_meets 213 = .ok (.ifCond .eq 8, 3) := by decide +kernel
theorem dL_meets_216 : decode cL_meets 216 = .ok (.iload 12, 2) := by decide +kernel
theorem dL_meets_218 : decode cL_meets 218 = .ok (.goto 5, 3) := by decide +kernel
theorem dL_meets_221 : decode cL_meets 221 = .ok (.iload 13, 2) := by decide +kernel
theorem dL_meets_223 : decode cL_meets 223 = .ok (.istore 16, 2) := by decide +kernel
theorem dL_meets_225 : decode cL_meets 225 = .ok (.lload 7, 2) := by decide +kernel
theorem dL_meets_227 : decode cL_meets 227 = .ok (.iload 16, 2) := by decide +kernel
theorem dL_meets_229 : decode cL_meets 229 = .ok (.i2l, 1) := by decide +kernel
theorem dL_meets_230 : decode cL_meets 230 = .ok (.bipush 10, 2) := by decide +kernel
theorem dL_meets_232 : decode cL_meets 232 = .ok (.iload 11, 2) := by decide +kernel
theorem dL_meets_234 : decode cL_meets 234 = .ok (.imul, 1) := by decide +kernel
theorem dL_meets_235 : decode cL_meets 235 = .ok (.lshl, 1) := by decide +kernel
theorem dL_meets_236 : decode cL_meets 236 = .ok (.ladd, 1) := by decide +kernel
theorem dL_meets_237 : decode cL_meets 237 = .ok (.lstore 7, 2) := by decide +kernel
theorem dL_meets_239 : decode cL_meets 239 = .ok (.iinc 11 1, 3) := by decide +kernel
theorem dL_meets_242 : decode cL_meets 242 = .ok (.goto (-156), 3) := by decide +kernel
theorem dL_meets_245 : decode cL_meets 245 = .ok (.lload 7, 2) := by decide +kernel
theorem dL_meets_247 : decode cL_meets 247 = .ok (.lload 9, 2) := by decide +kernel
theorem dL_meets_249 : decode cL_meets 249 = .ok (.bipush 41, 2) := by decide +kernel
theorem dL_meets_251 : decode cL_meets 251 = .ok (.lshl, 1) := by decide +kernel
theorem dL_meets_252 : decode cL_meets 252 = .ok (.ladd, 1) := by decide +kernel
theorem dL_meets_253 : decode cL_meets 253 = .ok (.lreturn, 1) := by decide +kernel
set_option maxRecDepth 20000 in
theorem ggL_breaks_L_value : GoodIn wsL_breaks wsL_value := goodIn_r _ [4, 5] (by decide +kernel) (by decide +kernel)
set_option maxRecDepth 20000 in
theorem gL_breaks_L_value : GoodIn wsL_breaks (va_wsS RL 45 yL_value wsL_value) := goodIn_app (goodIn_of _ (by decide +kernel)) ggL_breaks_L_value
theorem dL_breaks_0 : decode cL_breaks 0 = .ok (.lload_n 1, 1) := by decide +kernel
theorem dL_breaks_1 : decode cL_breaks 1 = .ok (.iload_n 0, 1) := by decide +kernel
theorem dL_breaks_2 : decode cL_breaks 2 = .ok (.iconst 4, 1) := by decide +kernel
theorem dL_breaks_3 : decode cL_breaks 3 = .ok (.idiv, 1) := by decide +kernel
theorem dL_breaks_4 : decode cL_breaks 4 = .ok (.iconst 4, 1) := by decide +kernel
theorem dL_breaks_5 : decode cL_breaks 5 = .ok (.irem, 1) := by decide +kernel
theorem dL_breaks_6 : decode cL_breaks 6 = .ok (.invokestatic 45, 3) := by decide +kernel
theorem dL_breaks_9 : decode cL_breaks 9 = .ok (.istore_n 3, 1) := by decide +kernel
theorem dL_breaks_10 : decode cL_breaks 10 = .ok (.iload_n 3, 1) := by decide +kernel
theorem dL_breaks_11 : decode cL_breaks 11 = .ok (.ifCond .le 28, 3) := by decide +kernel
theorem dL_breaks_14 : decode cL_breaks 14 = .ok (.iload_n 3, 1) := by decide +kernel
theorem dL_breaks_15 : decode cL_breaks 15 = .ok (.iload_n 0, 1) := by decide +kernel
theorem dL_breaks_16 : decode cL_breaks 16 = .ok (.bipush 16, 2) := by decide +kernel
theorem dL_breaks_18 : decode cL_breaks 18 = .ok (.idiv, 1) := by decide +kernel
theorem dL_breaks_19 : decode cL_breaks 19 = .ok (.sipush 1024, 3) := by decide +kernel
theorem dL_breaks_22 : decode cL_breaks 22 = .ok (.irem, 1) := by decide +kernel
theorem dL_breaks_23 : decode cL_breaks 23 = .ok (.if_icmp .lt 12, 3) := by decide +kernel
theorem dL_breaks_26 : decode cL_breaks 26 = .ok (.iload_n 3, 1) := by decide +kernel
theorem dL_breaks_27 : decode cL_breaks 27 = .ok (.iload_n 0, 1) := by decide +kernel
theorem dL_breaks_28 : decode cL_breaks 28 = .ok (.sipush 16384, 3) := by decide +kernel
theorem dL_breaks_31 : decode cL_breaks 31 = .ok (.idiv, 1) := by decide +kernel
theorem dL_breaks_32 : decode cL_breaks 32 = .ok (.if_icmp .le 7, 3) := by decide +kernel
theorem dL_breaks_35 : decode cL_breaks 35 = .ok (.iconst 1, 1) := by decide +kernel
theorem dL_breaks_36 : decode cL_breaks 36 = .ok (.goto 4, 3) := by decide +kernel
theorem dL_breaks_39 : decode cL_breaks 39 = .ok (.iconst 0, 1) := by decide +kernel
theorem dL_breaks_40 : decode cL_breaks 40 = .ok (.ireturn, 1) := by decide +kernel
set_option maxRecDepth 20000 in
theorem ggL_blocks_L_breaks : GoodIn wsL_blocks wsL_breaks := goodIn_r _ [4, 5, 6, 3, 7, 8] (by decide +kernel) (by decide +kernel)
set_option maxRecDepth 20000 in
theorem gL_blocks_L_breaks : GoodIn wsL_blocks (va_wsS RL 49 yL_breaks wsL_breaks) := goodIn_app (goodIn_of _ (by decide +kernel)) ggL_blocks_L_breaks
theorem dL_blocks_0 : decode cL_blocks 0 = .ok (.iconst 0, 1) := by decide +kernel
theorem dL_blocks_1 : decode cL_blocks 1 = .ok (.istore 6, 2) := by decide +kernel
theorem dL_blocks_3 : decode cL_blocks 3 = .ok (.iconst 0, 1) := by decide +kernel
theorem dL_blocks_4 : decode cL_blocks 4 = .ok (.istore 7, 2) := by decide +kernel
theorem dL_blocks_6 : decode cL_blocks 6 = .ok (.iload 7, 2) := by decide +kernel
theorem dL_blocks_8 : decode cL_blocks 8 = .ok (.aload 5, 2) := by decide +kernel
theorem dL_blocks_10 : decode cL_blocks 10 = .ok (.iconst 3, 1) := by decide +kernel
theorem dL_blocks_11 : decode cL_blocks 11 = .ok (.iaload, 1) := by decide +kernel
theorem dL_blocks_12 : decode cL_blocks 12 = .ok (.if_icmp .ge 136, 3) := by decide +kernel
theorem dL_blocks_15 : decode cL_blocks 15 = .ok (.aload_n 3, 1) := by decide +kernel
theorem dL_blocks_16 : decode cL_blocks 16 = .ok (.iload 7, 2) := by decide +kernel
theorem dL_blocks_18 : decode cL_blocks 18 = .ok (.iaload, 1) := by decide +kernel
theorem dL_blocks_19 : decode cL_blocks 19 = .ok (.iconst 4, 1) := by decide +kernel
theorem dL_blocks_20 : decode cL_blocks 20 = .ok (.irem, 1) := by decide +kernel
theorem dL_blocks_21 : decode cL_blocks 21 = .ok (.istore 8, 2) := by decide +kernel
theorem dL_blocks_23 : decode cL_blocks 23 = .ok (.iconst 0, 1) := by decide +kernel
theorem dL_blocks_24 : decode cL_blocks 24 = .ok (.istore 9, 2) := by decide +kernel
theorem dL_blocks_26 : decode cL_blocks 26 = .ok (.iconst 0, 1) := by decide +kernel
theorem dL_blocks_27 : decode cL_blocks 27 = .ok (.istore 10, 2) := by decide +kernel
theorem dL_blocks_29 : decode cL_blocks 29 = .ok (.iload 10, 2) := by decide +kernel
theorem dL_blocks_31 : decode cL_blocks 31 = .ok (.aload 5, 2) := by decide +kernel
theorem dL_blocks_33 : decode cL_blocks 33 = .ok (.iconst 4, 1) := by decide +kernel
theorem dL_blocks_34 : decode cL_blocks 34 = .ok (.iaload, 1) := by decide +kernel
theorem dL_blocks_35 : decode cL_blocks 35 = .ok (.if_icmp .ge 64, 3) := by decide +kernel
theorem dL_blocks_38 : decode cL_blocks 38 = .ok (.iload 9, 2) := by decide +kernel
theorem dL_blocks_40 : decode cL_blocks 40 = .ok (.ifCond .ne 46, 3) := by decide +kernel
theorem dL_blocks_43 : decode cL_blocks 43 = .ok (.aload 4, 2) := by decide +kernel
theorem dL_blocks_45 : decode cL_blocks 45 = .ok (.iload 10, 2) := by decide +kernel
theorem dL_blocks_47 : decode cL_blocks 47 = .ok (.iaload, 1) := by decide +kernel
theorem dL_blocks_48 : decode cL_blocks 48 = .ok (.bipush 8, 2) := by decide +kernel
theorem dL_blocks_50 : decode cL_blocks 50 = .ok (.irem, 1) := by decide +kernel
theorem dL_blocks_51 : decode cL_blocks 51 = .ok (.iload 7, 2) := by decide +kernel
theorem dL_blocks_53 : decode cL_blocks 53 = .ok (.if_icmp .ne 37, 3) := by decide +kernel
theorem dL_blocks_56 : decode cL_blocks 56 = .ok (.aload 4, 2) := by decide +kernel
theorem dL_blocks_58 : decode cL_blocks 58 = .ok (.iload 10, 2) := by decide +kernel
theorem dL_blocks_60 : decode cL_blocks 60 = .ok (.iaload, 1) := by decide +kernel
theorem dL_blocks_61 : decode cL_blocks 61 = .ok (.bipush 8, 2) := by decide +kernel
theorem dL_blocks_63 : decode cL_blocks 63 = .ok (.idiv, 1) := by decide +kernel
theorem dL_blocks_64 : decode cL_blocks 64 = .ok (.bipush 8, 2) := by decide +kernel
theorem dL_blocks_66 : decode cL_blocks 66 = .ok (.irem, 1) := by decide +kernel
theorem dL_blocks_67 : decode cL_blocks 67 = .ok (.iload_n 0, 1) := by decide +kernel
theorem dL_blocks_68 : decode cL_blocks 68 = .ok (.if_icmp .ne 22, 3) := by decide +kernel
theorem dL_blocks_71 : decode cL_blocks 71 = .ok (.aload 4, 2) := by decide +kernel
theorem dL_blocks_73 : decode cL_blocks 73 = .ok (.iload 10, 2) := by decide +kernel
theorem dL_blocks_75 : decode cL_blocks 75 = .ok (.iaload, 1) := by decide +kernel
theorem dL_blocks_76 : decode cL_blocks 76 = .ok (.bipush 64, 2) := by decide +kernel
theorem dL_blocks_78 : decode cL_blocks 78 = .ok (.idiv, 1) := by decide +kernel
theorem dL_blocks_79 : decode cL_blocks 79 = .ok (.aload 5, 2) := by decide +kernel
theorem dL_blocks_81 : decode cL_blocks 81 = .ok (.iconst 5, 1) := by decide +kernel
theorem dL_blocks_82 : decode cL_blocks 82 = .ok (.iaload, 1) := by decide +kernel
theorem dL_blocks_83 : decode cL_blocks 83 = .ok (.if_icmp .lt 7, 3) := by decide +kernel
theorem dL_blocks_86 : decode cL_blocks 86 = .ok (.iconst 1, 1) := by decide +kernel
theorem dL_blocks_87 : decode cL_blocks 87 = .ok (.goto 4, 3) := by decide +kernel
theorem dL_blocks_90 : decode cL_blocks 90 = .ok (.iconst 0, 1) := by decide +kernel
theorem dL_blocks_91 : decode cL_blocks 91 = .ok (.istore 9, 2) := by decide +kernel
theorem dL_blocks_93 : decode cL_blocks 93 = .ok (.iinc 10 1, 3) := by decide +kernel
theorem dL_blocks_96 : decode cL_blocks 96 = .ok (.goto (-67), 3) := by decide +kernel
theorem dL_blocks_99 : decode cL_blocks 99 = .ok (.iload 6, 2) := by decide +kernel
theorem dL_blocks_101 : decode cL_blocks 101 = .ok (.aload_n 3, 1) := by decide +kernel
theorem dL_blocks_102 : decode cL_blocks 102 = .ok (.iload 7, 2) := by decide +kernel
theorem dL_blocks_104 : decode cL_blocks 104 = .ok (.iaload, 1) := by decide +kernel
theorem dL_blocks_105 : decode cL_blocks 105 = .ok (.lload_n 1, 1) := by decide +kernel
theorem dL_blocks_106 : decode cL_blocks 106 = .ok (.invokestatic 49, 3) := by decide +kernel
theorem dL_blocks_109 : decode cL_blocks 109 = .ok (.ifCond .eq 14, 3) := by decide +kernel
theorem dL_blocks_112 : decode cL_blocks 112 = .ok (.iload 8, 2) := by decide +kernel
theorem dL_blocks_114 : decode cL_blocks 114 = .ok (.iconst 1, 1) := by decide +kernel
theorem dL_blocks_115 : decode cL_blocks 115 = .ok (.if_icmp .ne 12, 3) := by decide +kernel
theorem dL_blocks_118 : decode cL_blocks 118 = .ok (.iload 9, 2) := by decide +kernel
theorem dL_blocks_120 : decode cL_blocks 120 = .ok (.ifCond .eq 7, 3) := by decide +kernel
theorem dL_blocks_123 : decode cL_blocks 123 = .ok (.iconst 0, 1) := by decide +kernel
theorem dL_blocks_124 : decode cL_blocks 124 = .ok (.goto 15, 3) := by decide +kernel
theorem dL_blocks_127 : decode cL_blocks 127 = .ok (.iload 8, 2) := by decide +kernel
theorem dL_blocks_129 : decode cL_blocks 129 = .ok (.iconst 2, 1) := by decide +kernel
theorem dL_blocks_130 : decode cL_blocks 130 = .ok (.if_icmp .ne 8, 3) := by decide +kernel
theorem dL_blocks_133 : decode cL_blocks 133 = .ok (.bipush 64, 2) := by decide +kernel
theorem dL_blocks_135 : decode cL_blocks 135 = .ok (.goto 4, 3) := by decide +kernel
theorem dL_blocks_138 : decode cL_blocks 138 = .ok (.iconst 1, 1) := by decide +kernel
theorem dL_blocks_139 : decode cL_blocks 139 = .ok (.iadd, 1) := by decide +kernel
theorem dL_blocks_140 : decode cL_blocks 140 = .ok (.istore 6, 2) := by decide +kernel
theorem dL_blocks_142 : decode cL_blocks 142 = .ok (.iinc 7 1, 3) := by decide +kernel
theorem dL_blocks_145 : decode cL_blocks 145 = .ok (.goto (-139), 3) := by decide +kernel
theorem dL_blocks_148 : decode cL_blocks 148 = .ok (.iload 6, 2) := by decide +kernel
theorem dL_blocks_150 : decode cL_blocks 150 = .ok (.ireturn, 1) := by decide +kernel
set_option maxRecDepth 20000 in
theorem ggL_all_L_get : GoodIn wsL_all wsL_get := goodIn_r _ [4] (by decide +kernel) (by decide +kernel)
set_option maxRecDepth 20000 in
theorem gL_all_L_get : GoodIn wsL_all (va_wsS RL 31 yL_get wsL_get) := goodIn_app (goodIn_of _ (by decide +kernel)) ggL_all_L_get
set_option maxRecDepth 20000 in
theorem ggL_all_L_blocks : GoodIn wsL_all wsL_blocks := goodIn_r _ [7, 8, 9, 3, 10, 11, 12, 13, 14] (by decide +kernel) (by decide +kernel)
set_option maxRecDepth 20000 in
theorem gL_all_L_blocks : GoodIn wsL_all (va_wsS RL 53 yL_blocks wsL_blocks) := goodIn_app (goodIn_of _ (by decide +kernel)) ggL_all_L_blocks
theorem dL_all_0 : decode cL_all 0 = .ok (.iconst 0, 1) := by decide +kernel
theorem dL_all_1 : decode cL_all 1 = .ok (.istore 6, 2) := by decide +kernel
theorem dL_all_3 : decode cL_all 3 = .ok (.iconst 0, 1) := by decide +kernel
theorem dL_all_4 : decode cL_all 4 = .ok (.istore 7, 2) := by decide +kernel
theorem dL_all_6 : decode cL_all 6 = .ok (.iload 7, 2) := by decide +kernel
theorem dL_all_8 : decode cL_all 8 = .ok (.bipush 6, 2) := by decide +kernel
theorem dL_all_10 : decode cL_all 10 = .ok (.if_icmp .ge 47, 3) := by decide +kernel
theorem dL_all_13 : decode cL_all 13 = .ok (.iload_n 0, 1) := by decide +kernel
theorem dL_all_14 : decode cL_all 14 = .ok (.iload 7, 2) := by decide +kernel
theorem dL_all_16 : decode cL_all 16 = .ok (.aload_n 1, 1) := by decide +kernel
theorem dL_all_17 : decode cL_all 17 = .ok (.aload_n 2, 1) := by decide +kernel
theorem dL_all_18 : decode cL_all 18 = .ok (.invokestatic 31, 3) := by decide +kernel
theorem dL_all_21 : decode cL_all 21 = .ok (.lstore 8, 2) := by decide +kernel
theorem dL_all_23 : decode cL_all 23 = .ok (.iload 6, 2) := by decide +kernel
theorem dL_all_25 : decode cL_all 25 = .ok (.lload 8, 2) := by decide +kernel
theorem dL_all_27 : decode cL_all 27 = .ok (.lconst 0, 1) := by decide +kernel
theorem dL_all_28 : decode cL_all 28 = .ok (.lcmp, 1) := by decide +kernel
theorem dL_all_29 : decode cL_all 29 = .ok (.ifCond .ne 7, 3) := by decide +kernel
theorem dL_all_32 : decode cL_all 32 = .ok (.iconst 0, 1) := by decide +kernel
theorem dL_all_33 : decode cL_all 33 = .ok (.goto 15, 3) := by decide +kernel
theorem dL_all_36 : decode cL_all 36 = .ok (.iload 7, 2) := by decide +kernel
theorem dL_all_38 : decode cL_all 38 = .ok (.lload 8, 2) := by decide +kernel
theorem dL_all_40 : decode cL_all 40 = .ok (.aload_n 3, 1) := by decide +kernel
theorem dL_all_41 : decode cL_all 41 = .ok (.aload 4, 2) := by decide +kernel
theorem dL_all_43 : decode cL_all 43 = .ok (.aload 5, 2) := by decide +kernel
theorem dL_all_45 : decode cL_all 45 = .ok (.invokestatic 53, 3) := by decide +kernel
theorem dL_all_48 : decode cL_all 48 = .ok (.iadd, 1) := by decide +kernel
theorem dL_all_49 : decode cL_all 49 = .ok (.istore 6, 2) := by decide +kernel
theorem dL_all_51 : decode cL_all 51 = .ok (.iinc 7 1, 3) := by decide +kernel
theorem dL_all_54 : decode cL_all 54 = .ok (.goto (-48), 3) := by decide +kernel
theorem dL_all_57 : decode cL_all 57 = .ok (.iload 6, 2) := by decide +kernel
theorem dL_all_59 : decode cL_all 59 = .ok (.ireturn, 1) := by decide +kernel
set_option maxRecDepth 20000 in
theorem ggL_blocked_L_all : GoodIn wsL_blocked wsL_all := goodIn_r _ [4, 5, 6, 3, 7, 8, 9, 10, 11, 12, 13, 14, 15, 16, 17] (by decide +kernel) (by decide +kernel)
set_option maxRecDepth 20000 in
theorem gL_blocked_L_all : GoodIn wsL_blocked (va_wsS RL 57 yL_all wsL_all) := goodIn_app (goodIn_of _ (by decide +kernel)) ggL_blocked_L_all
theorem dL_blocked_0 : decode cL_blocked 0 = .ok (.iload_n 0, 1) := by decide +kernel
theorem dL_blocked_1 : decode cL_blocked 1 = .ok (.aload_n 1, 1) := by decide +kernel
theorem dL_blocked_2 : decode cL_blocked 2 = .ok (.aload_n 2, 1) := by decide +kernel
theorem dL_blocked_3 : decode cL_blocked 3 = .ok (.aload_n 3, 1) := by decide +kernel
theorem dL_blocked_4 : decode cL_blocked 4 = .ok (.aload 4, 2) := by decide +kernel
theorem dL_blocked_6 : decode cL_blocked 6 = .ok (.aload 5, 2) := by decide +kernel
theorem dL_blocked_8 : decode cL_blocked 8 = .ok (.invokestatic 57, 3) := by decide +kernel
theorem dL_blocked_11 : decode cL_blocked 11 = .ok (.bipush 64, 2) := by decide +kernel
theorem dL_blocked_13 : decode cL_blocked 13 = .ok (.irem, 1) := by decide +kernel
theorem dL_blocked_14 : decode cL_blocked 14 = .ok (.ifCond .le 7, 3) := by decide +kernel
theorem dL_blocked_17 : decode cL_blocked 17 = .ok (.iconst 1, 1) := by decide +kernel
theorem dL_blocked_18 : decode cL_blocked 18 = .ok (.goto 4, 3) := by decide +kernel
theorem dL_blocked_21 : decode cL_blocked 21 = .ok (.iconst 0, 1) := by decide +kernel
theorem dL_blocked_22 : decode cL_blocked 22 = .ok (.ireturn, 1) := by decide +kernel
set_option maxRecDepth 20000 in
theorem ggL_edits_L_low : GoodIn wsL_edits wsL_low := goodIn_r _ [5, 6] (by decide +kernel) (by decide +kernel)
set_option maxRecDepth 20000 in
theorem gL_edits_L_low : GoodIn wsL_edits (va_wsS RL 61 yL_low wsL_low) := goodIn_app (goodIn_of _ (by decide +kernel)) ggL_edits_L_low
set_option maxRecDepth 20000 in
theorem ggL_edits_L_many : GoodIn wsL_edits wsL_many := goodIn_r _ [9] (by decide +kernel) (by decide +kernel)
set_option maxRecDepth 20000 in
theorem gL_edits_L_many : GoodIn wsL_edits (va_wsS RL 65 yL_many wsL_many) := goodIn_app (goodIn_of _ (by decide +kernel)) ggL_edits_L_many
set_option maxRecDepth 20000 in
theorem ggL_edits_L_copy : GoodIn wsL_edits wsL_copy := goodIn_r _ [12, 13, 14, 4, 15, 16, 17, 18] (by decide +kernel) (by decide +kernel)
set_option maxRecDepth 20000 in
theorem gL_edits_L_copy : GoodIn wsL_edits (va_wsS RL 68 yL_copy wsL_copy) := goodIn_app (goodIn_of _ (by decide +kernel)) ggL_edits_L_copy
set_option maxRecDepth 20000 in
theorem ggL_edits_L_put : GoodIn wsL_edits wsL_put := goodIn_r _ [18] (by decide +kernel) (by decide +kernel)
set_option maxRecDepth 20000 in
theorem gL_edits_L_put : GoodIn wsL_edits (va_wsS RL 37 yL_put wsL_put) := goodIn_app (goodIn_of _ (by decide +kernel)) ggL_edits_L_put
set_option maxRecDepth 20000 in
theorem ggL_edits_X5_add : GoodIn wsL_edits wsX5_add := goodIn_ca (goodIn_ca (goodIn_r _ [23, 24, 25, 26, 27, 28, 29, 30, 31, 32, 22, 33, 34, 35, 36, 37, 38, 39, 40, 41, 42, 43, 44, 45, 46, 47, 48, 49, 50, 51, 52, 53, 54, 55, 56, 57, 58, 59, 60, 61, 62, 63, 64, 65, 66, 67, 68, 69, 70, 71, 72, 73, 74, 75, 76, 77, 78, 79, 80, 81, 82, 114, 115, 116, 117, 118, 119, 120, 121, 122, 123, 124, 125, 126, 127, 128, 129, 130, 131, 132, 133] (by decide +kernel) (by decide +kernel)) (goodIn_sub (fun _ h => List.mem_cons_of_mem _ (List.mem_append_left _ (List.mem_append_left _ (List.mem_append_right _ h)))) (by decide +kernel))) (goodIn_sub (fun _ h => List.mem_cons_of_mem _ (List.mem_append_left _ (List.mem_append_right _ h))) (by decide +kernel))
set_option maxRecDepth 20000 in
theorem gL_edits_X5_add : GoodIn wsL_edits (wsV RL 72 RX5 yX5_add wsX5_add) := goodIn_app (goodIn_of _ (by decide +kernel)) ggL_edits_X5_add
set_option maxRecDepth 20000 in
theorem ggL_edits_L_get : GoodIn wsL_edits wsL_get := goodIn_r _ [15] (by decide +kernel) (by decide +kernel)
set_option maxRecDepth 20000 in
theorem gL_edits_L_get : GoodIn wsL_edits (va_wsS RL 31 yL_get wsL_get) := goodIn_app (goodIn_of _ (by decide +kernel)) ggL_edits_L_get
set_option maxRecDepth 20000 in
theorem ggL_edits_L_value : GoodIn wsL_edits wsL_value := goodIn_r _ [85, 86] (by decide +kernel) (by decide +kernel)
set_option maxRecDepth 20000 in
theorem gL_edits_L_value : GoodIn wsL_edits (va_wsS RL 45 yL_value wsL_value) := goodIn_app (goodIn_of _ (by decide +kernel)) ggL_edits_L_value
set_option maxRecDepth 20000 in
theorem ggL_edits_X5_set : GoodIn wsL_edits wsX5_set := goodIn_ca (goodIn_ca (goodIn_ca (goodIn_r _ [90, 91, 92, 30, 31, 32, 22, 33, 24, 25, 34, 93, 94, 95, 96, 35, 36, 37, 38, 39, 40, 41, 97, 98, 99, 58, 100, 66, 60, 101, 102, 103, 42, 43, 44, 45, 26, 27, 46, 47, 48, 49, 50, 51, 52, 53, 54, 55, 56, 57, 59, 61, 62, 63, 64, 65, 104, 76, 77, 78, 105, 80, 81, 82, 117, 118, 119, 120, 121, 122, 123, 124, 125, 126, 127, 128, 129, 130, 131, 132, 133, 114, 115, 116] (by decide +kernel) (by decide +kernel)) (goodIn_sub (fun _ h => List.mem_cons_of_mem _ (List.mem_append_right _ h)) (by decide +kernel))) (goodIn_sub (fun _ h => List.mem_cons_of_mem _ (List.mem_append_left _ (List.mem_append_left _ (List.mem_append_right _ h)))) (by decide +kernel))) (goodIn_sub (fun _ h => List.mem_cons_of_mem _ (List.mem_append_left _ (List.mem_append_right _ h))) (by decide +kernel))
set_option maxRecDepth 20000 in
theorem gL_edits_X5_set : GoodIn wsL_edits (wsV RL 75 RX5 yX5_set wsX5_set) := goodIn_app (goodIn_of _ (by decide +kernel)) ggL_edits_X5_set
set_option maxRecDepth 20000 in
theorem ggL_edits_X5_drop : GoodIn wsL_edits wsX5_drop := goodIn_ca (goodIn_ca (goodIn_r _ [109, 40, 30, 31, 32, 22, 33, 24, 25, 34, 93, 94, 95, 96, 35, 36, 37, 38, 39, 41, 97, 98, 99, 58, 100, 66, 60, 42, 43, 44, 45, 26, 27, 46, 47, 48, 49, 50, 51, 52, 53, 54, 55, 56, 57, 59, 61, 62, 63, 64, 65, 110, 111, 112, 113, 71, 72, 73, 74, 75, 76, 77, 78, 79, 80, 81, 82, 117, 118, 119, 120, 121, 122, 123, 124, 125, 126, 127, 128, 129, 130, 131, 132, 133, 114, 115, 116] (by decide +kernel) (by decide +kernel)) (goodIn_sub (fun _ h => List.mem_cons_of_mem _ (List.mem_append_left _ (List.mem_append_left _ (List.mem_append_right _ h)))) (by decide +kernel))) (goodIn_sub (fun _ h => List.mem_cons_of_mem _ (List.mem_append_left _ (List.mem_append_right _ h))) (by decide +kernel))
set_option maxRecDepth 20000 in
theorem gL_edits_X5_drop : GoodIn wsL_edits (wsV RL 79 RX5 yX5_drop wsX5_drop) := goodIn_app (goodIn_of _ (by decide +kernel)) ggL_edits_X5_drop
theorem dL_edits_0 : decode cL_edits 0 = .ok (.iload_n 2, 1) := by decide +kernel
theorem dL_edits_1 : decode cL_edits 1 = .ok (.aload 9, 2) := by decide +kernel
theorem dL_edits_3 : decode cL_edits 3 = .ok (.iconst 2, 1) := by decide +kernel
theorem dL_edits_4 : decode cL_edits 4 = .ok (.iaload, 1) := by decide +kernel
theorem dL_edits_5 : decode cL_edits 5 = .ok (.invokestatic 61, 3) := by decide +kernel
theorem dL_edits_8 : decode cL_edits 8 = .ok (.istore 10, 2) := by decide +kernel
theorem dL_edits_10 : decode cL_edits 10 = .ok (.aload 8, 2) := by decide +kernel
theorem dL_edits_12 : decode cL_edits 12 = .ok (.iload 10, 2) := by decide +kernel
theorem dL_edits_14 : decode cL_edits 14 = .ok (.iaload, 1) := by decide +kernel
theorem dL_edits_15 : decode cL_edits 15 = .ok (.istore 11, 2) := by decide +kernel
theorem dL_edits_17 : decode cL_edits 17 = .ok (.aload 5, 2) := by decide +kernel
theorem dL_edits_19 : decode cL_edits 19 = .ok (.iload 11, 2) := by decide +kernel
theorem dL_edits_21 : decode cL_edits 21 = .ok (.iaload, 1) := by decide +kernel
theorem dL_edits_22 : decode cL_edits 22 = .ok (.invokestatic 65, 3) := by decide +kernel
theorem dL_edits_25 : decode cL_edits 25 = .ok (.istore 12, 2) := by decide +kernel
theorem dL_edits_27 : decode cL_edits 27 = .ok (.aload 9, 2) := by decide +kernel
theorem dL_edits_29 : decode cL_edits 29 = .ok (.iconst 0, 1) := by decide +kernel
theorem dL_edits_30 : decode cL_edits 30 = .ok (.iaload, 1) := by decide +kernel
theorem dL_edits_31 : decode cL_edits 31 = .ok (.bipush 21, 2) := by decide +kernel
theorem dL_edits_33 : decode cL_edits 33 = .ok (.if_icmp .ne 5, 3) := by decide +kernel
theorem dL_edits_36 : decode cL_edits 36 = .ok (.iconst 1, 1) := by decide +kernel
theorem dL_edits_37 : decode cL_edits 37 = .ok (.ireturn, 1) := by decide +kernel
theorem dL_edits_38 : decode cL_edits 38 = .ok (.iload_n 1, 1) := by decide +kernel
theorem dL_edits_39 : decode cL_edits 39 = .ok (.ifCond .ne 138, 3) := by decide +kernel
theorem dL_edits_42 : decode cL_edits 42 = .ok (.aload 9, 2) := by decide +kernel
theorem dL_edits_44 : decode cL_edits 44 = .ok (.iconst 1, 1) := by decide +kernel
theorem dL_edits_45 : decode cL_edits 45 = .ok (.iaload, 1) := by decide +kernel
theorem dL_edits_46 : decode cL_edits 46 = .ok (.bipush 6, 2) := by decide +kernel
theorem dL_edits_48 : decode cL_edits 48 = .ok (.if_icmp .ne 5, 3) := by decide +kernel
theorem dL_edits_51 : decode cL_edits 51 = .ok (.iconst 1, 1) := by decide +kernel
theorem dL_edits_52 : decode cL_edits 52 = .ok (.ireturn, 1) := by decide +kernel
theorem dL_edits_53 : decode cL_edits 53 = .ok (.iload_n 2, 1) := by decide +kernel
theorem dL_edits_54 : decode cL_edits 54 = .ok (.iconst 3, 1) := by decide +kernel
theorem dL_edits_55 : decode cL_edits 55 = .ok (.ishr, 1) := by decide +kernel
theorem dL_edits_56 : decode cL_edits 56 = .ok (.iload 12, 2) := by decide +kernel
theorem dL_edits_58 : decode cL_edits 58 = .ok (.iconst 1, 1) := by decide +kernel
theorem dL_edits_59 : decode cL_edits 59 = .ok (.iadd, 1) := by decide +kernel
theorem dL_edits_60 : decode cL_edits 60 = .ok (.invokestatic 61, 3) := by decide +kernel
theorem dL_edits_63 : decode cL_edits 63 = .ok (.istore 13, 2) := by decide +kernel
theorem dL_edits_65 : decode cL_edits 65 = .ok (.iload 10, 2) := by decide +kernel
theorem dL_edits_67 : decode cL_edits 67 = .ok (.aload_n 3, 1) := by decide +kernel
theorem dL_edits_68 : decode cL_edits 68 = .ok (.aload 4, 2) := by decide +kernel
theorem dL_edits_70 : decode cL_edits 70 = .ok (.aload 5, 2) := by decide +kernel
theorem dL_edits_72 : decode cL_edits 72 = .ok (.aload 6, 2) := by decide +kernel
theorem dL_edits_74 : decode cL_edits 74 = .ok (.aload 7, 2) := by decide +kernel
theorem dL_edits_76 : decode cL_edits 76 = .ok (.aload 8, 2) := by decide +kernel
theorem dL_edits_78 : decode cL_edits 78 = .ok (.aload 9, 2) := by decide +kernel
theorem dL_edits_80 : decode cL_edits 80 = .ok (.invokestatic 68, 3) := by decide +kernel
theorem dL_edits_83 : decode cL_edits 83 = .ok (.istore 14, 2) := by decide +kernel
theorem dL_edits_85 : decode cL_edits 85 = .ok (.aload 5, 2) := by decide +kernel
theorem dL_edits_87 : decode cL_edits 87 = .ok (.iload 14, 2) := by decide +kernel
theorem dL_edits_89 : decode cL_edits 89 = .ok (.iaload, 1) := by decide +kernel
theorem dL_edits_90 : decode cL_edits 90 = .ok (.iconst 1, 1) := by decide +kernel
theorem dL_edits_91 : decode cL_edits 91 = .ok (.iconst 3, 1) := by decide +kernel
theorem dL_edits_92 : decode cL_edits 92 = .ok (.iload 13, 2) := by decide +kernel
theorem dL_edits_94 : decode cL_edits 94 = .ok (.imul, 1) := by decide +kernel
theorem dL_edits_95 : decode cL_edits 95 = .ok (.ishl, 1) := by decide +kernel
theorem dL_edits_96 : decode cL_edits 96 = .ok (.iconst 1, 1) := by decide +kernel
theorem dL_edits_97 : decode cL_edits 97 = .ok (.isub, 1) := by decide +kernel
theorem dL_edits_98 : decode cL_edits 98 = .ok (.iand, 1) := by decide +kernel
theorem dL_edits_99 : decode cL_edits 99 = .ok (.istore 15, 2) := by decide +kernel
theorem dL_edits_101 : decode cL_edits 101 = .ok (.aload 5, 2) := by decide +kernel
theorem dL_edits_103 : decode cL_edits 103 = .ok (.iload 14, 2) := by decide +kernel
theorem dL_edits_105 : decode cL_edits 105 = .ok (.iload 15, 2) := by decide +kernel
theorem dL_edits_107 : decode cL_edits 107 = .ok (.aload 9, 2) := by decide +kernel
theorem dL_edits_109 : decode cL_edits 109 = .ok (.iconst 1, 1) := by decide +kernel
theorem dL_edits_110 : decode cL_edits 110 = .ok (.iaload, 1) := by decide +kernel
theorem dL_edits_111 : decode cL_edits 111 = .ok (.iconst 1, 1) := by decide +kernel
theorem dL_edits_112 : decode cL_edits 112 = .ok (.iadd, 1) := by decide +kernel
theorem dL_edits_113 : decode cL_edits 113 = .ok (.iconst 3, 1) := by decide +kernel
theorem dL_edits_114 : decode cL_edits 114 = .ok (.iload 13, 2) := by decide +kernel
theorem dL_edits_116 : decode cL_edits 116 = .ok (.imul, 1) := by decide +kernel
theorem dL_edits_117 : decode cL_edits 117 = .ok (.ishl, 1) := by decide +kernel
theorem dL_edits_118 : decode cL_edits 118 = .ok (.ior, 1) := by decide +kernel
theorem dL_edits_119 : decode cL_edits 119 = .ok (.aload 5, 2) := by decide +kernel
theorem dL_edits_121 : decode cL_edits 121 = .ok (.iload 14, 2) := by decide +kernel
theorem dL_edits_123 : decode cL_edits 123 = .ok (.iaload, 1) := by decide +kernel
theorem dL_edits_124 : decode cL_edits 124 = .ok (.iload 15, 2) := by decide +kernel
theorem dL_edits_126 : decode cL_edits 126 = .ok (.isub, 1) := by decide +kernel
theorem dL_edits_127 : decode cL_edits 127 = .ok (.iconst 3, 1) := by decide +kernel
theorem dL_edits_128 : decode cL_edits 128 = .ok (.ishl, 1) := by decide +kernel
theorem dL_edits_129 : decode cL_edits 129 = .ok (.ior, 1) := by decide +kernel
theorem dL_edits_130 : decode cL_edits 130 = .ok (.iastore, 1) := by decide +kernel
theorem dL_edits_131 : decode cL_edits 131 = .ok (.iload 14, 2) := by decide +kernel
theorem dL_edits_133 : decode cL_edits 133 = .ok (.aload 9, 2) := by decide +kernel
theorem dL_edits_135 : decode cL_edits 135 = .ok (.iconst 1, 1) := by decide +kernel
theorem dL_edits_136 : decode cL_edits 136 = .ok (.iaload, 1) := by decide +kernel
theorem dL_edits_137 : decode cL_edits 137 = .ok (.ldc2_w 43, 3) := by decide +kernel
theorem dL_edits_140 : decode cL_edits 140 = .ok (.aload_n 3, 1) := by decide +kernel
theorem dL_edits_141 : decode cL_edits 141 = .ok (.aload 4, 2) := by decide +kernel
theorem dL_edits_143 : decode cL_edits 143 = .ok (.invokestatic 37, 3) := by decide +kernel
theorem dL_edits_146 : decode cL_edits 146 = .ok (.aload 9, 2) := by decide +kernel
theorem dL_edits_148 : decode cL_edits 148 = .ok (.iconst 1, 1) := by decide +kernel
theorem dL_edits_149 : decode cL_edits 149 = .ok (.dup2, 1) := by decide +kernel
theorem dL_edits_150 : decode cL_edits 150 = .ok (.iaload, 1) := by decide +kernel
theorem dL_edits_151 : decode cL_edits 151 = .ok (.iconst 1, 1) := by decide +kernel
theorem dL_edits_152 : decode cL_edits 152 = .ok (.iadd, 1) := by decide +kernel
theorem dL_edits_153 : decode cL_edits 153 = .ok (.iastore, 1) := by decide +kernel
theorem dL_edits_154 : decode cL_edits 154 = .ok (.aload_n 0, 1) := by decide +kernel
theorem dL_edits_155 : decode cL_edits 155 = .ok (.iload 10, 2) := by decide +kernel
theorem dL_edits_157 : decode cL_edits 157 = .ok (.iload 13, 2) := by decide +kernel
theorem dL_edits_159 : decode cL_edits 159 = .ok (.invokevirtual 72, 3) := by decide +kernel
theorem dL_edits_162 : decode cL_edits 162 = .ok (.aload 9, 2) := by decide +kernel
theorem dL_edits_164 : decode cL_edits 164 = .ok (.iconst 1, 1) := by decide +kernel
theorem dL_edits_165 : decode cL_edits 165 = .ok (.iaload, 1) := by decide +kernel
theorem dL_edits_166 : decode cL_edits 166 = .ok (.iconst 1, 1) := by decide +kernel
theorem dL_edits_167 : decode cL_edits 167 = .ok (.isub, 1) := by decide +kernel
theorem dL_edits_168 : decode cL_edits 168 = .ok (.if_icmp .ne 7, 3) := by decide +kernel
theorem dL_edits_171 : decode cL_edits 171 = .ok (.iconst 1, 1) := by decide +kernel
theorem dL_edits_172 : decode cL_edits 172 = .ok (.goto 4, 3) := by decide +kernel
theorem dL_edits_175 : decode cL_edits 175 = .ok (.iconst 0, 1) := by decide +kernel
theorem dL_edits_176 : decode cL_edits 176 = .ok (.ireturn, 1) := by decide +kernel
theorem dL_edits_177 : decode cL_edits 177 = .ok (.iload 12, 2) := by decide +kernel
theorem dL_edits_179 : decode cL_edits 179 = .ok (.ifCond .ne 5, 3) := by decide +kernel
theorem dL_edits_182 : decode cL_edits 182 = .ok (.iconst 1, 1) := by decide +kernel
theorem dL_edits_183 : decode cL_edits 183 = .ok (.ireturn, 1) := by decide +kernel
theorem dL_edits_184 : decode cL_edits 184 = .ok (.iload_n 2, 1) := by decide +kernel
theorem dL_edits_185 : decode cL_edits 185 = .ok (.iconst 3, 1) := by decide +kernel
theorem dL_edits_186 : decode cL_edits 186 = .ok (.ishr, 1) := by decide +kernel
theorem dL_edits_187 : decode cL_edits 187 = .ok (.iload 12, 2) := by decide +kernel
theorem dL_edits_189 : decode cL_edits 189 = .ok (.invokestatic 61, 3) := by decide +kernel
theorem dL_edits_192 : decode cL_edits 192 = .ok (.istore 13, 2) := by decide +kernel
theorem dL_edits_194 : decode cL_edits 194 = .ok (.aload 5, 2) := by decide +kernel
theorem dL_edits_196 : decode cL_edits 196 = .ok (.iload 11, 2) := by decide +kernel
theorem dL_edits_198 : decode cL_edits 198 = .ok (.iaload, 1) := by decide +kernel
theorem dL_edits_199 : decode cL_edits 199 = .ok (.iconst 3, 1) := by decide +kernel
theorem dL_edits_200 : decode cL_edits 200 = .ok (.iload 13, 2) := by decide +kernel
theorem dL_edits_202 : decode cL_edits 202 = .ok (.imul, 1) := by decide +kernel
theorem dL_edits_203 : decode cL_edits 203 = .ok (.ishr, 1) := by decide +kernel
theorem dL_edits_204 : decode cL_edits 204 = .ok (.bipush 8, 2) := by decide +kernel
theorem dL_edits_206 : decode cL_edits 206 = .ok (.irem, 1) := by decide +kernel
theorem dL_edits_207 : decode cL_edits 207 = .ok (.iconst 1, 1) := by decide +kernel
theorem dL_edits_208 : decode cL_edits 208 = .ok (.isub, 1) := by decide +kernel
theorem dL_edits_209 : decode cL_edits 209 = .ok (.istore 14, 2) := by decide +kernel
theorem dL_edits_211 : decode cL_edits 211 = .ok (.iload 10, 2) := by decide +kernel
theorem dL_edits_213 : decode cL_edits 213 = .ok (.aload_n 3, 1) := by decide +kernel
theorem dL_edits_214 : decode cL_edits 214 = .ok (.aload 4, 2) := by decide +kernel
theorem dL_edits_216 : decode cL_edits 216 = .ok (.aload 5, 2) := by decide +kernel
theorem dL_edits_218 : decode cL_edits 218 = .ok (.aload 6, 2) := by decide +kernel
theorem dL_edits_220 : decode cL_edits 220 = .ok (.aload 7, 2) := by decide +kernel
theorem dL_edits_222 : decode cL_edits 222 = .ok (.aload 8, 2) := by decide +kernel
theorem dL_edits_224 : decode cL_edits 224 = .ok (.aload 9, 2) := by decide +kernel
theorem dL_edits_226 : decode cL_edits 226 = .ok (.invokestatic 68, 3) := by decide +kernel
theorem dL_edits_229 : decode cL_edits 229 = .ok (.istore 15, 2) := by decide +kernel
theorem dL_edits_231 : decode cL_edits 231 = .ok (.iload_n 1, 1) := by decide +kernel
theorem dL_edits_232 : decode cL_edits 232 = .ok (.iconst 1, 1) := by decide +kernel
theorem dL_edits_233 : decode cL_edits 233 = .ok (.if_icmp .ne 111, 3) := by decide +kernel
theorem dL_edits_236 : decode cL_edits 236 = .ok (.iload_n 2, 1) := by decide +kernel
theorem dL_edits_237 : decode cL_edits 237 = .ok (.iconst 5, 1) := by decide +kernel
theorem dL_edits_238 : decode cL_edits 238 = .ok (.ishr, 1) := by decide +kernel
theorem dL_edits_239 : decode cL_edits 239 = .ok (.iconst 4, 1) := by decide +kernel
theorem dL_edits_240 : decode cL_edits 240 = .ok (.invokestatic 61, 3) := by decide +kernel
theorem dL_edits_243 : decode cL_edits 243 = .ok (.istore 16, 2) := by decide +kernel
theorem dL_edits_245 : decode cL_edits 245 = .ok (.iload_n 2, 1) := by decide +kernel
theorem dL_edits_246 : decode cL_edits 246 = .ok (.bipush 7, 2) := by decide +kernel
theorem dL_edits_248 : decode cL_edits 248 = .ok (.ishr, 1) := by decide +kernel
theorem dL_edits_249 : decode cL_edits 249 = .ok (.iconst 4, 1) := by decide +kernel
theorem dL_edits_250 : decode cL_edits 250 = .ok (.invokestatic 61, 3) := by decide +kernel
theorem dL_edits_253 : decode cL_edits 253 = .ok (.ifCond .ne 7, 3) := by decide +kernel
theorem dL_edits_256 : decode cL_edits 256 = .ok (.iconst 0, 1) := by decide +kernel
theorem dL_edits_257 : decode cL_edits 257 = .ok (.goto 15, 3) := by decide +kernel
theorem dL_edits_260 : decode cL_edits 260 = .ok (.iload_n 2, 1) := by decide +kernel
theorem dL_edits_261 : decode cL_edits 261 = .ok (.bipush 7, 2) := by decide +kernel
theorem dL_edits_263 : decode cL_edits 263 = .ok (.ishr, 1) := by decide +kernel
theorem dL_edits_264 : decode cL_edits 264 = .ok (.bipush 9, 2) := by decide +kernel
theorem dL_edits_266 : decode cL_edits 266 = .ok (.invokestatic 61, 3) := by decide +kernel
theorem dL_edits_269 : decode cL_edits 269 = .ok (.bipush 111, 2) := by decide +kernel
theorem dL_edits_271 : decode cL_edits 271 = .ok (.imul, 1) := by decide +kernel
theorem dL_edits_272 : decode cL_edits 272 = .ok (.istore 17, 2) := by decide +kernel
theorem dL_edits_274 : decode cL_edits 274 = .ok (.iload 15, 2) := by decide +kernel
theorem dL_edits_276 : decode cL_edits 276 = .ok (.iload 14, 2) := by decide +kernel
theorem dL_edits_278 : decode cL_edits 278 = .ok (.aload_n 3, 1) := by decide +kernel
theorem dL_edits_279 : decode cL_edits 279 = .ok (.aload 4, 2) := by decide +kernel
theorem dL_edits_281 : decode cL_edits 281 = .ok (.invokestatic 31, 3) := by decide +kernel
theorem dL_edits_284 : decode cL_edits 284 = .ok (.lstore 18, 2) := by decide +kernel
theorem dL_edits_286 : decode cL_edits 286 = .ok (.iload 15, 2) := by decide +kernel
theorem dL_edits_288 : decode cL_edits 288 = .ok (.iload 14, 2) := by decide +kernel
theorem dL_edits_290 : decode cL_edits 290 = .ok (.lload 18, 2) := by decide +kernel
theorem dL_edits_292 : decode cL_edits 292 = .ok (.iload 17, 2) := by decide +kernel
theorem dL_edits_294 : decode cL_edits 294 = .ok (.lload 18, 2) := by decide +kernel
theorem dL_edits_296 : decode cL_edits 296 = .ok (.iload 16, 2) := by decide +kernel
theorem dL_edits_298 : decode cL_edits 298 = .ok (.invokestatic 45, 3) := by decide +kernel
theorem dL_edits_301 : decode cL_edits 301 = .ok (.isub, 1) := by decide +kernel
theorem dL_edits_302 : decode cL_edits 302 = .ok (.i2l, 1) := by decide +kernel
theorem dL_edits_303 : decode cL_edits 303 = .ok (.bipush 10, 2) := by decide +kernel
theorem dL_edits_305 : decode cL_edits 305 = .ok (.iload 16, 2) := by decide +kernel
theorem dL_edits_307 : decode cL_edits 307 = .ok (.imul, 1) := by decide +kernel
theorem dL_edits_308 : decode cL_edits 308 = .ok (.lshl, 1) := by decide +kernel
theorem dL_edits_309 : decode cL_edits 309 = .ok (.ladd, 1) := by decide +kernel
theorem dL_edits_310 : decode cL_edits 310 = .ok (.aload_n 3, 1) := by decide +kernel
theorem dL_edits_311 : decode cL_edits 311 = .ok (.aload 4, 2) := by decide +kernel
theorem dL_edits_313 : decode cL_edits 313 = .ok (.invokestatic 37, 3) := by decide +kernel
theorem dL_edits_316 : decode cL_edits 316 = .ok (.aload_n 0, 1) := by decide +kernel
theorem dL_edits_317 : decode cL_edits 317 = .ok (.iload 10, 2) := by decide +kernel
theorem dL_edits_319 : decode cL_edits 319 = .ok (.iload 14, 2) := by decide +kernel
theorem dL_edits_321 : decode cL_edits 321 = .ok (.iload 16, 2) := by decide +kernel
theorem dL_edits_323 : decode cL_edits 323 = .ok (.iload 17, 2) := by decide +kernel
theorem dL_edits_325 : decode cL_edits 325 = .ok (.invokevirtual 75, 3) := by decide +kernel
theorem dL_edits_328 : decode cL_edits 328 = .ok (.lload 18, 2) := by decide +kernel
theorem dL_edits_330 : decode cL_edits 330 = .ok (.iload 16, 2) := by decide +kernel
theorem dL_edits_332 : decode cL_edits 332 = .ok (.invokestatic 45, 3) := by decide +kernel
theorem dL_edits_335 : decode cL_edits 335 = .ok (.if_icmp .ne 7, 3) := by decide +kernel
theorem dL_edits_338 : decode cL_edits 338 = .ok (.iconst 1, 1) := by decide +kernel
theorem dL_edits_339 : decode cL_edits 339 = .ok (.goto 4, 3) := by decide +kernel
theorem dL_edits_342 : decode cL_edits 342 = .ok (.iconst 0, 1) := by decide +kernel
theorem dL_edits_343 : decode cL_edits 343 = .ok (.ireturn, 1) := by decide +kernel
theorem dL_edits_344 : decode cL_edits 344 = .ok (.aload 5, 2) := by decide +kernel
theorem dL_edits_346 : decode cL_edits 346 = .ok (.iload 15, 2) := by decide +kernel
theorem dL_edits_348 : decode cL_edits 348 = .ok (.iaload, 1) := by decide +kernel
theorem dL_edits_349 : decode cL_edits 349 = .ok (.iconst 1, 1) := by decide +kernel
theorem dL_edits_350 : decode cL_edits 350 = .ok (.iconst 3, 1) := by decide +kernel
theorem dL_edits_351 : decode cL_edits 351 = .ok (.iload 13, 2) := by decide +kernel
theorem dL_edits_353 : decode cL_edits 353 = .ok (.imul, 1) := by decide +kernel
theorem dL_edits_354 : decode cL_edits 354 = .ok (.ishl, 1) := by decide +kernel
theorem dL_edits_355 : decode cL_edits 355 = .ok (.iconst 1, 1) := by decide +kernel
theorem dL_edits_356 : decode cL_edits 356 = .ok (.isub, 1) := by decide +kernel
theorem dL_edits_357 : decode cL_edits 357 = .ok (.iand, 1) := by decide +kernel
theorem dL_edits_358 : decode cL_edits 358 = .ok (.istore 16, 2) := by decide +kernel
theorem dL_edits_360 : decode cL_edits 360 = .ok (.aload 5, 2) := by decide +kernel
theorem dL_edits_362 : decode cL_edits 362 = .ok (.iload 15, 2) := by decide +kernel
theorem dL_edits_364 : decode cL_edits 364 = .ok (.iload 16, 2) := by decide +kernel
theorem dL_edits_366 : decode cL_edits 366 = .ok (.aload 5, 2) := by decide +kernel
theorem dL_edits_368 : decode cL_edits 368 = .ok (.iload 15, 2) := by decide +kernel
theorem dL_edits_370 : decode cL_edits 370 = .ok (.iaload, 1) := by decide +kernel
theorem dL_edits_371 : decode cL_edits 371 = .ok (.iconst 3, 1) := by decide +kernel
theorem dL_edits_372 : decode cL_edits 372 = .ok (.iload 13, 2) := by decide +kernel
theorem dL_edits_374 : decode cL_edits 374 = .ok (.imul, 1) := by decide +kernel
theorem dL_edits_375 : decode cL_edits 375 = .ok (.iconst 3, 1) := by decide +kernel
theorem dL_edits_376 : decode cL_edits 376 = .ok (.iadd, 1) := by decide +kernel
theorem dL_edits_377 : decode cL_edits 377 = .ok (.ishr, 1) := by decide +kernel
theorem dL_edits_378 : decode cL_edits 378 = .ok (.iconst 3, 1) := by decide +kernel
theorem dL_edits_379 : decode cL_edits 379 = .ok (.iload 13, 2) := by decide +kernel
theorem dL_edits_381 : decode cL_edits 381 = .ok (.imul, 1) := by decide +kernel
theorem dL_edits_382 : decode cL_edits 382 = .ok (.ishl, 1) := by decide +kernel
theorem dL_edits_383 : decode cL_edits 383 = .ok (.ior, 1) := by decide +kernel
theorem dL_edits_384 : decode cL_edits 384 = .ok (.iastore, 1) := by decide +kernel
theorem dL_edits_385 : decode cL_edits 385 = .ok (.iload 15, 2) := by decide +kernel
theorem dL_edits_387 : decode cL_edits 387 = .ok (.iload 14, 2) := by decide +kernel
theorem dL_edits_389 : decode cL_edits 389 = .ok (.lconst 0, 1) := by decide +kernel
theorem dL_edits_390 : decode cL_edits 390 = .ok (.aload_n 3, 1) := by decide +kernel
theorem dL_edits_391 : decode cL_edits 391 = .ok (.aload 4, 2) := by decide +kernel
theorem dL_edits_393 : decode cL_edits 393 = .ok (.invokestatic 37, 3) := by decide +kernel
theorem dL_edits_396 : decode cL_edits 396 = .ok (.aload_n 0, 1) := by decide +kernel
theorem dL_edits_397 : decode cL_edits 397 = .ok (.iload 10, 2) := by decide +kernel
theorem dL_edits_399 : decode cL_edits 399 = .ok (.iload 14, 2) := by decide +kernel
theorem dL_edits_401 : decode cL_edits 401 = .ok (.invokevirtual 79, 3) := by decide +kernel
theorem dL_edits_404 : decode cL_edits 404 = .ok (.iload 15, 2) := by decide +kernel
theorem dL_edits_406 : decode cL_edits 406 = .ok (.if_icmp .ne 7, 3) := by decide +kernel
theorem dL_edits_409 : decode cL_edits 409 = .ok (.iconst 1, 1) := by decide +kernel
theorem dL_edits_410 : decode cL_edits 410 = .ok (.goto 4, 3) := by decide +kernel
theorem dL_edits_413 : decode cL_edits 413 = .ok (.iconst 0, 1) := by decide +kernel
theorem dL_edits_414 : decode cL_edits 414 = .ok (.ireturn, 1) := by decide +kernel
