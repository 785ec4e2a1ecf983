theorem dJ13_bitCount_95d88_0 : decode cJ13_bitCount_95d88 0 = .ok (.lload_n 0, 1) := by decide +kernel
theorem dJ13_bitCount_95d88_1 : decode cJ13_bitCount_95d88 1 = .ok (.lload_n 0, 1) := by decide +kernel
theorem dJ13_bitCount_95d88_2 : decode cJ13_bitCount_95d88 2 = .ok (.iconst 1, 1) := by decide +kernel
theorem dJ13_bitCount_95d88_3 : decode cJ13_bitCount_95d88 3 = .ok (.lushr, 1) := by decide +kernel
theorem dJ13_bitCount_95d88_4 : decode cJ13_bitCount_95d88 4 = .ok (.ldc2_w 314, 3) := by decide +kernel
theorem dJ13_bitCount_95d88_7 : decode cJ13_bitCount_95d88 7 = .ok (.land, 1) := by decide +kernel
theorem dJ13_bitCount_95d88_8 : decode cJ13_bitCount_95d88 8 = .ok (.lsub, 1) := by decide +kernel
theorem dJ13_bitCount_95d88_9 : decode cJ13_bitCount_95d88 9 = .ok (.lstore_n 0, 1) := by decide +kernel
theorem dJ13_bitCount_95d88_10 : decode cJ13_bitCount_95d88 10 = .ok (.lload_n 0, 1) := by decide +kernel
theorem dJ13_bitCount_95d88_11 : decode cJ13_bitCount_95d88 11 = .ok (.ldc2_w 316, 3) := by decide +kernel
theorem dJ13_bitCount_95d88_14 : decode cJ13_bitCount_95d88 14 = .ok (.land, 1) := by decide +kernel
theorem dJ13_bitCount_95d88_15 : decode cJ13_bitCount_95d88 15 = .ok (.lload_n 0, 1) := by decide +kernel
theorem dJ13_bitCount_95d88_16 : decode cJ13_bitCount_95d88 16 = .ok (.iconst 2, 1) := by decide +kernel
theorem dJ13_bitCount_95d88_17 : decode cJ13_bitCount_95d88 17 = .ok (.lushr, 1) := by decide +kernel
theorem dJ13_bitCount_95d88_18 : decode cJ13_bitCount_95d88 18 = .ok (.ldc2_w 316, 3) := by decide +kernel
theorem dJ13_bitCount_95d88_21 : decode cJ13_bitCount_95d88 21 = .ok (.land, 1) := by decide +kernel
theorem dJ13_bitCount_95d88_22 : decode cJ13_bitCount_95d88 22 = .ok (.ladd, 1) := by decide +kernel
theorem dJ13_bitCount_95d88_23 : decode cJ13_bitCount_95d88 23 = .ok (.lstore_n 0, 1) := by decide +kernel
theorem dJ13_bitCount_95d88_24 : decode cJ13_bitCount_95d88 24 = .ok (.lload_n 0, 1) := by decide +kernel
theorem dJ13_bitCount_95d88_25 : decode cJ13_bitCount_95d88 25 = .ok (.lload_n 0, 1) := by decide +kernel
theorem dJ13_bitCount_95d88_26 : decode cJ13_bitCount_95d88 26 = .ok (.iconst 4, 1) := by decide +kernel
theorem dJ13_bitCount_95d88_27 : decode cJ13_bitCount_95d88 27 = .ok (.lushr, 1) := by decide +kernel
theorem dJ13_bitCount_95d88_28 : decode cJ13_bitCount_95d88 28 = .ok (.ladd, 1) := by decide +kernel
theorem dJ13_bitCount_95d88_29 : decode cJ13_bitCount_95d88 29 = .ok (.ldc2_w 318, 3) := by decide +kernel
theorem dJ13_bitCount_95d88_32 : decode cJ13_bitCount_95d88 32 = .ok (.land, 1) := by decide +kernel
theorem dJ13_bitCount_95d88_33 : decode cJ13_bitCount_95d88 33 = .ok (.lstore_n 0, 1) := by decide +kernel
theorem dJ13_bitCount_95d88_34 : decode cJ13_bitCount_95d88 34 = .ok (.lload_n 0, 1) := by decide +kernel
theorem dJ13_bitCount_95d88_35 : decode cJ13_bitCount_95d88 35 = .ok (.lload_n 0, 1) := by decide +kernel
theorem dJ13_bitCount_95d88_36 : decode cJ13_bitCount_95d88 36 = .ok (.bipush 8, 2) := by decide +kernel
theorem dJ13_bitCount_95d88_38 : decode cJ13_bitCount_95d88 38 = .ok (.lushr, 1) := by decide +kernel
theorem dJ13_bitCount_95d88_39 : decode cJ13_bitCount_95d88 39 = .ok (.ladd, 1) := by decide +kernel
theorem dJ13_bitCount_95d88_40 : decode cJ13_bitCount_95d88 40 = .ok (.lstore_n 0, 1) := by decide +kernel
theorem dJ13_bitCount_95d88_41 : decode cJ13_bitCount_95d88 41 = .ok (.lload_n 0, 1) := by decide +kernel
theorem dJ13_bitCount_95d88_42 : decode cJ13_bitCount_95d88 42 = .ok (.lload_n 0, 1) := by decide +kernel
theorem dJ13_bitCount_95d88_43 : decode cJ13_bitCount_95d88 43 = .ok (.bipush 16, 2) := by decide +kernel
theorem dJ13_bitCount_95d88_45 : decode cJ13_bitCount_95d88 45 = .ok (.lushr, 1) := by decide +kernel
theorem dJ13_bitCount_95d88_46 : decode cJ13_bitCount_95d88 46 = .ok (.ladd, 1) := by decide +kernel
theorem dJ13_bitCount_95d88_47 : decode cJ13_bitCount_95d88 47 = .ok (.lstore_n 0, 1) := by decide +kernel
theorem dJ13_bitCount_95d88_48 : decode cJ13_bitCount_95d88 48 = .ok (.lload_n 0, 1) := by decide +kernel
theorem dJ13_bitCount_95d88_49 : decode cJ13_bitCount_95d88 49 = .ok (.lload_n 0, 1) := by decide +kernel
theorem dJ13_bitCount_95d88_50 : decode cJ13_bitCount_95d88 50 = .ok (.bipush 32, 2) := by decide +kernel
theorem dJ13_bitCount_95d88_52 : decode cJ13_bitCount_95d88 52 = .ok (.lushr, 1) := by decide +kernel
theorem dJ13_bitCount_95d88_53 : decode cJ13_bitCount_95d88 53 = .ok (.ladd, 1) := by decide +kernel
theorem dJ13_bitCount_95d88_54 : decode cJ13_bitCount_95d88 54 = .ok (.lstore_n 0, 1) := by decide +kernel
theorem dJ13_bitCount_95d88_55 : decode cJ13_bitCount_95d88 55 = .ok (.lload_n 0, 1) := by decide +kernel
theorem dJ13_bitCount_95d88_56 : decode cJ13_bitCount_95d88 56 = .ok (.l2i, 1) := by decide +kernel
theorem dJ13_bitCount_95d88_57 : decode cJ13_bitCount_95d88 57 = .ok (.bipush 127, 2) := by decide +kernel
theorem dJ13_bitCount_95d88_59 : decode cJ13_bitCount_95d88 59 = .ok (.iand, 1) := by decide +kernel
theorem dJ13_bitCount_95d88_60 : decode cJ13_bitCount_95d88 60 = .ok (.ireturn, 1) := by decide +kernel
set_option maxRecDepth 20000 in
theorem ggX5_init_X0_init : GoodIn wsX5_init wsX0_init := goodIn_r _ [27, 28, 2, 3, 6, 29, 30, 56, 57, 58] (by decide +kernel) (by decide +kernel)
set_option maxRecDepth 20000 in
theorem gX5_init_X0_init_n36 : GoodIn wsX5_init (wsX0_init) := ggX5_init_X0_init
set_option maxRecDepth 20000 in
theorem ggX5_init_X3_init : GoodIn wsX5_init wsX3_init := goodIn_r _ [32, 33, 2, 3, 34, 14, 15, 35, 36, 37, 26, 27, 28, 6, 29, 30, 56, 57, 58, 59, 60, 61, 62, 63] (by decide +kernel) (by decide +kernel)
set_option maxRecDepth 20000 in
theorem gX5_init_X3_init_n41 : GoodIn wsX5_init (wsX3_init) := ggX5_init_X3_init
set_option maxRecDepth 20000 in
theorem ggX5_init_X2_init : GoodIn wsX5_init wsX2_init := goodIn_r _ [39, 40, 2, 3] (by decide +kernel) (by decide +kernel)
set_option maxRecDepth 20000 in
theorem gX5_init_X2_init_n42 : GoodIn wsX5_init (wsX2_init) := ggX5_init_X2_init
set_option maxRecDepth 20000 in
theorem ggX5_init_X4_init : GoodIn wsX5_init wsX4_init := goodIn_r _ [42, 43, 2, 3] (by decide +kernel) (by decide +kernel)
set_option maxRecDepth 20000 in
theorem gX5_init_X4_init_n43 : GoodIn wsX5_init (wsX4_init) := ggX5_init_X4_init
theorem dX5_init_0 : decode cX5_init 0 = .ok (.aload_n 0, 1) := by decide +kernel
theorem dX5_init_1 : decode cX5_init 1 = .ok (.invokespecial 1, 3) := by decide +kernel
theorem dX5_init_4 : decode cX5_init 4 = .ok (.aload_n 0, 1) := by decide +kernel
theorem dX5_init_5 : decode cX5_init 5 = .ok (.bipush 40, 2) := by decide +kernel
theorem dX5_init_7 : decode cX5_init 7 = .ok (.anewarray 9, 3) := by decide +kernel
theorem dX5_init_10 : decode cX5_init 10 = .ok (.putfield 11, 3) := by decide +kernel
theorem dX5_init_13 : decode cX5_init 13 = .ok (.aload_n 0, 1) := by decide +kernel
theorem dX5_init_14 : decode cX5_init 14 = .ok (.bipush 6, 2) := by decide +kernel
theorem dX5_init_16 : decode cX5_init 16 = .ok (.newarray .int, 2) := by decide +kernel
theorem dX5_init_18 : decode cX5_init 18 = .ok (.putfield 15, 3) := by decide +kernel
theorem dX5_init_21 : decode cX5_init 21 = .ok (.aload_n 0, 1) := by decide +kernel
theorem dX5_init_22 : decode cX5_init 22 = .ok (.bipush 6, 2) := by decide +kernel
theorem dX5_init_24 : decode cX5_init 24 = .ok (.newarray .int, 2) := by decide +kernel
theorem dX5_init_26 : decode cX5_init 26 = .ok (.putfield 19, 3) := by decide +kernel
theorem dX5_init_29 : decode cX5_init 29 = .ok (.aload_n 0, 1) := by decide +kernel
theorem dX5_init_30 : decode cX5_init 30 = .ok (.bipush 8, 2) := by decide +kernel
theorem dX5_init_32 : decode cX5_init 32 = .ok (.anewarray 22, 3) := by decide +kernel
theorem dX5_init_35 : decode cX5_init 35 = .ok (.putfield 24, 3) := by decide +kernel
theorem dX5_init_38 : decode cX5_init 38 = .ok (.aload_n 0, 1) := by decide +kernel
theorem dX5_init_39 : decode cX5_init 39 = .ok (.bipush 12, 2) := by decide +kernel
theorem dX5_init_41 : decode cX5_init 41 = .ok (.anewarray 28, 3) := by decide +kernel
theorem dX5_init_44 : decode cX5_init 44 = .ok (.putfield 30, 3) := by decide +kernel
theorem dX5_init_47 : decode cX5_init 47 = .ok (.aload_n 0, 1) := by decide +kernel
theorem dX5_init_48 : decode cX5_init 48 = .ok (.new 34, 3) := by decide +kernel
theorem dX5_init_51 : decode cX5_init 51 = .ok (.dup, 1) := by decide +kernel
theorem dX5_init_52 : decode cX5_init 52 = .ok (.invokespecial 36, 3) := by decide +kernel
theorem dX5_init_55 : decode cX5_init 55 = .ok (.putfield 37, 3) := by decide +kernel
theorem dX5_init_58 : decode cX5_init 58 = .ok (.iconst 0, 1) := by decide +kernel
theorem dX5_init_59 : decode cX5_init 59 = .ok (.istore_n 1, 1) := by decide +kernel
theorem dX5_init_60 : decode cX5_init 60 = .ok (.iload_n 1, 1) := by decide +kernel
theorem dX5_init_61 : decode cX5_init 61 = .ok (.bipush 40, 2) := by decide +kernel
theorem dX5_init_63 : decode cX5_init 63 = .ok (.if_icmp .ge 22, 3) := by decide +kernel
theorem dX5_init_66 : decode cX5_init 66 = .ok (.aload_n 0, 1) := by decide +kernel
theorem dX5_init_67 : decode cX5_init 67 = .ok (.getfield 11, 3) := by decide +kernel
theorem dX5_init_70 : decode cX5_init 70 = .ok (.iload_n 1, 1) := by decide +kernel
theorem dX5_init_71 : decode cX5_init 71 = .ok (.new 9, 3) := by decide +kernel
theorem dX5_init_74 : decode cX5_init 74 = .ok (.dup, 1) := by decide +kernel
theorem dX5_init_75 : decode cX5_init 75 = .ok (.invokespecial 41, 3) := by decide +kernel
theorem dX5_init_78 : decode cX5_init 78 = .ok (.aastore, 1) := by decide +kernel
theorem dX5_init_79 : decode cX5_init 79 = .ok (.iinc 1 1, 3) := by decide +kernel
theorem dX5_init_82 : decode cX5_init 82 = .ok (.goto (-22), 3) := by decide +kernel
theorem dX5_init_85 : decode cX5_init 85 = .ok (.iconst 0, 1) := by decide +kernel
theorem dX5_init_86 : decode cX5_init 86 = .ok (.istore_n 1, 1) := by decide +kernel
theorem dX5_init_87 : decode cX5_init 87 = .ok (.iload_n 1, 1) := by decide +kernel
theorem dX5_init_88 : decode cX5_init 88 = .ok (.bipush 8, 2) := by decide +kernel
theorem dX5_init_90 : decode cX5_init 90 = .ok (.if_icmp .ge 22, 3) := by decide +kernel
theorem dX5_init_93 : decode cX5_init 93 = .ok (.aload_n 0, 1) := by decide +kernel
theorem dX5_init_94 : decode cX5_init 94 = .ok (.getfield 24, 3) := by decide +kernel
theorem dX5_init_97 : decode cX5_init 97 = .ok (.iload_n 1, 1) := by decide +kernel
theorem dX5_init_98 : decode cX5_init 98 = .ok (.new 22, 3) := by decide +kernel
theorem dX5_init_101 : decode cX5_init 101 = .ok (.dup, 1) := by decide +kernel
theorem dX5_init_102 : decode cX5_init 102 = .ok (.invokespecial 42, 3) := by decide +kernel
theorem dX5_init_105 : decode cX5_init 105 = .ok (.aastore, 1) := by decide +kernel
theorem dX5_init_106 : decode cX5_init 106 = .ok (.iinc 1 1, 3) := by decide +kernel
theorem dX5_init_109 : decode cX5_init 109 = .ok (.goto (-22), 3) := by decide +kernel
theorem dX5_init_112 : decode cX5_init 112 = .ok (.iconst 0, 1) := by decide +kernel
theorem dX5_init_113 : decode cX5_init 113 = .ok (.istore_n 1, 1) := by decide +kernel
theorem dX5_init_114 : decode cX5_init 114 = .ok (.iload_n 1, 1) := by decide +kernel
theorem dX5_init_115 : decode cX5_init 115 = .ok (.bipush 12, 2) := by decide +kernel
theorem dX5_init_117 : decode cX5_init 117 = .ok (.if_icmp .ge 22, 3) := by decide +kernel
theorem dX5_init_120 : decode cX5_init 120 = .ok (.aload_n 0, 1) := by decide +kernel
theorem dX5_init_121 : decode cX5_init 121 = .ok (.getfield 30, 3) := by decide +kernel
theorem dX5_init_124 : decode cX5_init 124 = .ok (.iload_n 1, 1) := by decide +kernel
theorem dX5_init_125 : decode cX5_init 125 = .ok (.new 28, 3) := by decide +kernel
theorem dX5_init_128 : decode cX5_init 128 = .ok (.dup, 1) := by decide +kernel
theorem dX5_init_129 : decode cX5_init 129 = .ok (.invokespecial 43, 3) := by decide +kernel
theorem dX5_init_132 : decode cX5_init 132 = .ok (.aastore, 1) := by decide +kernel
theorem dX5_init_133 : decode cX5_init 133 = .ok (.iinc 1 1, 3) := by decide +kernel
theorem dX5_init_136 : decode cX5_init 136 = .ok (.goto (-22), 3) := by decide +kernel
theorem dX5_init_139 : decode cX5_init 139 = .ok (.iconst 0, 1) := by decide +kernel
theorem dX5_init_140 : decode cX5_init 140 = .ok (.istore_n 1, 1) := by decide +kernel
theorem dX5_init_141 : decode cX5_init 141 = .ok (.iload_n 1, 1) := by decide +kernel
theorem dX5_init_142 : decode cX5_init 142 = .ok (.bipush 6, 2) := by decide +kernel
theorem dX5_init_144 : decode cX5_init 144 = .ok (.if_icmp .ge 16, 3) := by decide +kernel
theorem dX5_init_147 : decode cX5_init 147 = .ok (.aload_n 0, 1) := by decide +kernel
theorem dX5_init_148 : decode cX5_init 148 = .ok (.getfield 19, 3) := by decide +kernel
theorem dX5_init_151 : decode cX5_init 151 = .ok (.iload_n 1, 1) := by decide +kernel
theorem dX5_init_152 : decode cX5_init 152 = .ok (.iconst (-1), 1) := by decide +kernel
theorem dX5_init_153 : decode cX5_init 153 = .ok (.iastore, 1) := by decide +kernel
theorem dX5_init_154 : decode cX5_init 154 = .ok (.iinc 1 1, 3) := by decide +kernel
theorem dX5_init_157 : decode cX5_init 157 = .ok (.goto (-16), 3) := by decide +kernel
theorem dX5_init_160 : decode cX5_init 160 = .ok (.aload_n 0, 1) := by decide +kernel
theorem dX5_init_161 : decode cX5_init 161 = .ok (.getfield 11, 3) := by decide +kernel
theorem dX5_init_164 : decode cX5_init 164 = .ok (.iconst 0, 1) := by decide +kernel
theorem dX5_init_165 : decode cX5_init 165 = .ok (.aaload, 1) := by decide +kernel
theorem dX5_init_166 : decode cX5_init 166 = .ok (.lconst 1, 1) := by decide +kernel
theorem dX5_init_167 : decode cX5_init 167 = .ok (.putfield 44, 3) := by decide +kernel
theorem dX5_init_170 : decode cX5_init 170 = .ok (.aload_n 0, 1) := by decide +kernel
theorem dX5_init_171 : decode cX5_init 171 = .ok (.iconst 1, 1) := by decide +kernel
theorem dX5_init_172 : decode cX5_init 172 = .ok (.putfield 48, 3) := by decide +kernel
theorem dX5_init_175 : decode cX5_init 175 = .ok (.aload_n 0, 1) := by decide +kernel
theorem dX5_init_176 : decode cX5_init 176 = .ok (.iconst 1, 1) := by decide +kernel
theorem dX5_init_177 : decode cX5_init 177 = .ok (.putfield 52, 3) := by decide +kernel
theorem dX5_init_180 : decode cX5_init 180 = .ok (.return_, 1) := by decide +kernel
set_option maxRecDepth 20000 in
theorem ggX5_branch_X5_checkVersion : GoodIn wsX5_branch wsX5_checkVersion := goodIn_ca (goodIn_r _ [9, 10, 11, 12, 13, 14, 15, 16, 17, 18, 19, 20, 21, 22, 23, 24] (by decide +kernel) (by decide +kernel)) (goodIn_sub (fun _ h => List.mem_cons_of_mem _ (List.mem_append_right _ h)) (by decide +kernel))
set_option maxRecDepth 20000 in
theorem gX5_branch_X5_checkVersion : GoodIn wsX5_branch (wsV RX5 55 RX5 yX5_checkVersion wsX5_checkVersion) := goodIn_app (goodIn_of _ (by decide +kernel)) ggX5_branch_X5_checkVersion
theorem dX5_branch_0 : decode cX5_branch 0 = .ok (.aload_n 0, 1) := by decide +kernel
theorem dX5_branch_1 : decode cX5_branch 1 = .ok (.iload_n 1, 1) := by decide +kernel
theorem dX5_branch_2 : decode cX5_branch 2 = .ok (.invokevirtual 55, 3) := by decide +kernel
theorem dX5_branch_5 : decode cX5_branch 5 = .ok (.aload_n 0, 1) := by decide +kernel
theorem dX5_branch_6 : decode cX5_branch 6 = .ok (.getfield 52, 3) := by decide +kernel
theorem dX5_branch_9 : decode cX5_branch 9 = .ok (.bipush 6, 2) := by decide +kernel
theorem dX5_branch_11 : decode cX5_branch 11 = .ok (.if_icmp .lt 13, 3) := by decide +kernel
theorem dX5_branch_14 : decode cX5_branch 14 = .ok (.new 59, 3) := by decide +kernel
theorem dX5_branch_17 : decode cX5_branch 17 = .ok (.dup, 1) := by decide +kernel
theorem dX5_branch_18 : decode cX5_branch 18 = .ok (.ldc 61, 2) := by decide +kernel
theorem dX5_branch_20 : decode cX5_branch 20 = .ok (.invokespecial 63, 3) := by decide +kernel
theorem dX5_branch_23 : decode cX5_branch 23 = .ok (.athrow, 1) := by decide +kernel
theorem dX5_branch_24 : decode cX5_branch 24 = .ok (.aload_n 0, 1) := by decide +kernel
theorem dX5_branch_25 : decode cX5_branch 25 = .ok (.getfield 52, 3) := by decide +kernel
theorem dX5_branch_28 : decode cX5_branch 28 = .ok (.istore_n 2, 1) := by decide +kernel
theorem dX5_branch_29 : decode cX5_branch 29 = .ok (.aload_n 0, 1) := by decide +kernel
theorem dX5_branch_30 : decode cX5_branch 30 = .ok (.getfield 15, 3) := by decide +kernel
theorem dX5_branch_33 : decode cX5_branch 33 = .ok (.iload_n 2, 1) := by decide +kernel
theorem dX5_branch_34 : decode cX5_branch 34 = .ok (.iload_n 1, 1) := by decide +kernel
theorem dX5_branch_35 : decode cX5_branch 35 = .ok (.iastore, 1) := by decide +kernel
theorem dX5_branch_36 : decode cX5_branch 36 = .ok (.aload_n 0, 1) := by decide +kernel
theorem dX5_branch_37 : decode cX5_branch 37 = .ok (.iload_n 2, 1) := by decide +kernel
theorem dX5_branch_38 : decode cX5_branch 38 = .ok (.iconst 1, 1) := by decide +kernel
theorem dX5_branch_39 : decode cX5_branch 39 = .ok (.iadd, 1) := by decide +kernel
theorem dX5_branch_40 : decode cX5_branch 40 = .ok (.putfield 52, 3) := by decide +kernel
theorem dX5_branch_43 : decode cX5_branch 43 = .ok (.iload_n 2, 1) := by decide +kernel
theorem dX5_branch_44 : decode cX5_branch 44 = .ok (.ireturn, 1) := by decide +kernel
set_option maxRecDepth 20000 in
theorem ggX5_add_X5_checkBranch : GoodIn wsX5_add wsX5_checkBranch := goodIn_ca (goodIn_r _ [11, 1, 2, 12, 64, 65, 66, 67, 68, 69, 70, 71, 72, 73, 74, 75] (by decide +kernel) (by decide +kernel)) (goodIn_sub (fun _ h => List.mem_cons_of_mem _ (List.mem_append_left _ (List.mem_append_right _ h))) (by decide +kernel))
set_option maxRecDepth 20000 in
theorem gX5_add_X5_checkBranch : GoodIn wsX5_add (wsV RX5 66 RX5 yX5_checkBranch wsX5_checkBranch) := goodIn_app (goodIn_of _ (by decide +kernel)) ggX5_add_X5_checkBranch
set_option maxRecDepth 20000 in
theorem ggX5_add_X5_headDeck : GoodIn wsX5_add wsX5_headDeck := goodIn_r _ [16, 17, 18, 19, 64, 65, 66, 67, 68, 69, 70, 71, 72, 73, 74, 75, 76, 77, 78, 79, 80] (by decide +kernel) (by decide +kernel)
set_option maxRecDepth 20000 in
theorem gX5_add_X5_headDeck : GoodIn wsX5_add (wsV RX5 69 RX5 yX5_headDeck wsX5_headDeck) := goodIn_app (goodIn_of _ (by decide +kernel)) ggX5_add_X5_headDeck
set_option maxRecDepth 20000 in
theorem ggX5_add_X5_checkRoomForVersion : GoodIn wsX5_add wsX5_checkRoomForVersion := goodIn_ca (goodIn_r _ [23, 3, 4, 24, 64, 65, 66, 67, 68, 69, 70, 71, 72, 73, 74, 75] (by decide +kernel) (by decide +kernel)) (goodIn_sub (fun _ h => List.mem_cons_of_mem _ (List.mem_append_right _ h)) (by decide +kernel))
set_option maxRecDepth 20000 in
theorem gX5_add_X5_checkRoomForVersion : GoodIn wsX5_add (wsV RX5 88 RX5 yX5_checkRoomForVersion wsX5_checkRoomForVersion) := goodIn_app (goodIn_of _ (by decide +kernel)) ggX5_add_X5_checkRoomForVersion
set_option maxRecDepth 20000 in
theorem ggX5_add_X5_makeVersion : GoodIn wsX5_add wsX5_makeVersion := goodIn_r _ [28, 24, 18, 17, 29, 30, 31, 32, 19, 33, 34, 35, 36, 37, 38, 39, 40, 41, 42, 43, 44, 64, 65, 66, 67, 68, 69, 70, 71, 72, 73, 74, 75, 76, 77, 78, 79, 80, 61, 62, 63] (by decide +kernel) (by decide +kernel)
set_option maxRecDepth 20000 in
theorem gX5_add_X5_makeVersion : GoodIn wsX5_add (wsV RX5 91 RX5 yX5_makeVersion wsX5_makeVersion) := goodIn_app (goodIn_of _ (by decide +kernel)) ggX5_add_X5_makeVersion
set_option maxRecDepth 20000 in
theorem ggX5_add_X0_insert : GoodIn wsX5_add wsX0_insert := goodIn_r _ [48, 44, 38, 49, 50, 51, 36, 52, 53, 54, 55, 56, 43, 57, 58, 59, 60, 61, 62, 63] (by decide +kernel) (by decide +kernel)
set_option maxRecDepth 20000 in
theorem gX5_add_X0_insert : GoodIn wsX5_add (wsV RX5 95 RX0 yX0_insert wsX0_insert) := goodIn_app (goodIn_of _ (by decide +kernel)) ggX5_add_X0_insert
theorem dX5_add_0 : decode cX5_add 0 = .ok (.aload_n 0, 1) := by decide +kernel
theorem dX5_add_1 : decode cX5_add 1 = .ok (.iload_n 1, 1) := by decide +kernel
theorem dX5_add_2 : decode cX5_add 2 = .ok (.invokevirtual 66, 3) := by decide +kernel
theorem dX5_add_5 : decode cX5_add 5 = .ok (.aload_n 0, 1) := by decide +kernel
theorem dX5_add_6 : decode cX5_add 6 = .ok (.iload_n 1, 1) := by decide +kernel
theorem dX5_add_7 : decode cX5_add 7 = .ok (.invokevirtual 69, 3) := by decide +kernel
theorem dX5_add_10 : decode cX5_add 10 = .ok (.getfield 73, 3) := by decide +kernel
theorem dX5_add_13 : decode cX5_add 13 = .ok (.istore_n 3, 1) := by decide +kernel
theorem dX5_add_14 : decode cX5_add 14 = .ok (.iload_n 2, 1) := by decide +kernel
theorem dX5_add_15 : decode cX5_add 15 = .ok (.ifCond .lt 8, 3) := by decide +kernel
theorem dX5_add_18 : decode cX5_add 18 = .ok (.iload_n 2, 1) := by decide +kernel
theorem dX5_add_19 : decode cX5_add 19 = .ok (.iload_n 3, 1) := by decide +kernel
theorem dX5_add_20 : decode cX5_add 20 = .ok (.if_icmp .le 13, 3) := by decide +kernel
theorem dX5_add_23 : decode cX5_add 23 = .ok (.new 76, 3) := by decide +kernel
theorem dX5_add_26 : decode cX5_add 26 = .ok (.dup, 1) := by decide +kernel
theorem dX5_add_27 : decode cX5_add 27 = .ok (.ldc 78, 2) := by decide +kernel
theorem dX5_add_29 : decode cX5_add 29 = .ok (.invokespecial 80, 3) := by decide +kernel
theorem dX5_add_32 : decode cX5_add 32 = .ok (.athrow, 1) := by decide +kernel
theorem dX5_add_33 : decode cX5_add 33 = .ok (.iload_n 3, 1) := by decide +kernel
theorem dX5_add_34 : decode cX5_add 34 = .ok (.bipush 8, 2) := by decide +kernel
theorem dX5_add_36 : decode cX5_add 36 = .ok (.if_icmp .lt 13, 3) := by decide +kernel
theorem dX5_add_39 : decode cX5_add 39 = .ok (.new 59, 3) := by decide +kernel
theorem dX5_add_42 : decode cX5_add 42 = .ok (.dup, 1) := by decide +kernel
theorem dX5_add_43 : decode cX5_add 43 = .ok (.ldc 81, 2) := by decide +kernel
theorem dX5_add_45 : decode cX5_add 45 = .ok (.invokespecial 63, 3) := by decide +kernel
theorem dX5_add_48 : decode cX5_add 48 = .ok (.athrow, 1) := by decide +kernel
theorem dX5_add_49 : decode cX5_add 49 = .ok (.aload_n 0, 1) := by decide +kernel
theorem dX5_add_50 : decode cX5_add 50 = .ok (.getfield 83, 3) := by decide +kernel
theorem dX5_add_53 : decode cX5_add 53 = .ok (.bipush 20, 2) := by decide +kernel
theorem dX5_add_55 : decode cX5_add 55 = .ok (.if_icmp .lt 13, 3) := by decide +kernel
theorem dX5_add_58 : decode cX5_add 58 = .ok (.new 59, 3) := by decide +kernel
theorem dX5_add_61 : decode cX5_add 61 = .ok (.dup, 1) := by decide +kernel
theorem dX5_add_62 : decode cX5_add 62 = .ok (.ldc 86, 2) := by decide +kernel
theorem dX5_add_64 : decode cX5_add 64 = .ok (.invokespecial 63, 3) := by decide +kernel
theorem dX5_add_67 : decode cX5_add 67 = .ok (.athrow, 1) := by decide +kernel
theorem dX5_add_68 : decode cX5_add 68 = .ok (.aload_n 0, 1) := by decide +kernel
theorem dX5_add_69 : decode cX5_add 69 = .ok (.invokevirtual 88, 3) := by decide +kernel
theorem dX5_add_72 : decode cX5_add 72 = .ok (.aload_n 0, 1) := by decide +kernel
theorem dX5_add_73 : decode cX5_add 73 = .ok (.getfield 83, 3) := by decide +kernel
theorem dX5_add_76 : decode cX5_add 76 = .ok (.istore 4, 2) := by decide +kernel
theorem dX5_add_78 : decode cX5_add 78 = .ok (.aload_n 0, 1) := by decide +kernel
theorem dX5_add_79 : decode cX5_add 79 = .ok (.iload 4, 2) := by decide +kernel
theorem dX5_add_81 : decode cX5_add 81 = .ok (.iconst 1, 1) := by decide +kernel
theorem dX5_add_82 : decode cX5_add 82 = .ok (.iadd, 1) := by decide +kernel
theorem dX5_add_83 : decode cX5_add 83 = .ok (.putfield 83, 3) := by decide +kernel
theorem dX5_add_86 : decode cX5_add 86 = .ok (.aload_n 0, 1) := by decide +kernel
theorem dX5_add_87 : decode cX5_add 87 = .ok (.iload_n 1, 1) := by decide +kernel
theorem dX5_add_88 : decode cX5_add 88 = .ok (.iconst (-1), 1) := by decide +kernel
theorem dX5_add_89 : decode cX5_add 89 = .ok (.invokevirtual 91, 3) := by decide +kernel
theorem dX5_add_92 : decode cX5_add 92 = .ok (.iload_n 2, 1) := by decide +kernel
theorem dX5_add_93 : decode cX5_add 93 = .ok (.iload 4, 2) := by decide +kernel
theorem dX5_add_95 : decode cX5_add 95 = .ok (.invokevirtual 95, 3) := by decide +kernel
theorem dX5_add_98 : decode cX5_add 98 = .ok (.iload 4, 2) := by decide +kernel
theorem dX5_add_100 : decode cX5_add 100 = .ok (.ireturn, 1) := by decide +kernel
set_option maxRecDepth 20000 in
theorem ggX5_set_X5_checkBranch : GoodIn wsX5_set wsX5_checkBranch := goodIn_ca (goodIn_r _ [7, 8, 9, 10, 64, 65, 66, 67, 68, 69, 70, 71, 72, 73, 74, 75] (by decide +kernel) (by decide +kernel)) (goodIn_sub (fun _ h => List.mem_cons_of_mem _ (List.mem_append_left _ (List.mem_append_right _ h))) (by decide +kernel))
set_option maxRecDepth 20000 in
theorem gX5_set_X5_checkBranch : GoodIn wsX5_set (wsV RX5 66 RX5 yX5_checkBranch wsX5_checkBranch) := goodIn_app (goodIn_of _ (by decide +kernel)) ggX5_set_X5_checkBranch
set_option maxRecDepth 20000 in
theorem ggX5_set_X5_placeInHead : GoodIn wsX5_set wsX5_placeInHead := goodIn_ca (goodIn_r _ [14, 8, 9, 15, 16, 17, 6, 18, 19, 20, 21, 22, 23, 24, 25, 26, 27, 28, 64, 65, 66, 67, 68, 69, 70, 71, 72, 73, 74, 75, 76, 77, 78, 79, 80, 81, 82, 83] (by decide +kernel) (by decide +kernel)) (goodIn_sub (fun _ h => List.mem_cons_of_mem _ (List.mem_append_left _ (List.mem_append_right _ h))) (by decide +kernel))
set_option maxRecDepth 20000 in
theorem gX5_set_X5_placeInHead : GoodIn wsX5_set (wsV RX5 99 RX5 yX5_placeInHead wsX5_placeInHead) := goodIn_app (goodIn_of _ (by decide +kernel)) ggX5_set_X5_placeInHead
set_option maxRecDepth 20000 in
theorem ggX5_set_X5_checkObject : GoodIn wsX5_set wsX5_checkObject := goodIn_ca (goodIn_r _ [31, 8, 9] (by decide +kernel) (by decide +kernel)) (goodIn_sub (fun _ h => List.mem_cons_of_mem _ (List.mem_append_left _ (List.mem_append_right _ h))) (by decide +kernel))
set_option maxRecDepth 20000 in
theorem gX5_set_X5_checkObject : GoodIn wsX5_set (va_wsS RX5 103 yX5_checkObject wsX5_checkObject) := goodIn_app (goodIn_of _ (by decide +kernel)) ggX5_set_X5_checkObject
set_option maxRecDepth 20000 in
theorem ggX5_set_X5_checkRoomForVersion : GoodIn wsX5_set wsX5_checkRoomForVersion := goodIn_ca (goodIn_r _ [35, 36, 37, 38, 64, 65, 66, 67, 68, 69, 70, 71, 72, 73, 74, 75] (by decide +kernel) (by decide +kernel)) (goodIn_sub (fun _ h => List.mem_cons_of_mem _ (List.mem_append_right _ h)) (by decide +kernel))
set_option maxRecDepth 20000 in
theorem gX5_set_X5_checkRoomForVersion : GoodIn wsX5_set (wsV RX5 88 RX5 yX5_checkRoomForVersion wsX5_checkRoomForVersion) := goodIn_app (goodIn_of _ (by decide +kernel)) ggX5_set_X5_checkRoomForVersion
set_option maxRecDepth 20000 in
theorem ggX5_set_X5_makeVersion : GoodIn wsX5_set wsX5_makeVersion := goodIn_r _ [42, 38, 20, 19, 43, 44, 45, 46, 21, 47, 48, 49, 25, 50, 28, 51, 52, 53, 54, 55, 27, 64, 65, 66, 67, 68, 69, 70, 71, 72, 73, 74, 75, 76, 77, 78, 79, 80, 81, 82, 83] (by decide +kernel) (by decide +kernel)
set_option maxRecDepth 20000 in
theorem gX5_set_X5_makeVersion : GoodIn wsX5_set (wsV RX5 91 RX5 yX5_makeVersion wsX5_makeVersion) := goodIn_app (goodIn_of _ (by decide +kernel)) ggX5_set_X5_makeVersion
set_option maxRecDepth 20000 in
theorem ggX5_set_X0_valueAt : GoodIn wsX5_set wsX0_valueAt := goodIn_r _ [59, 55, 81, 82, 83] (by decide +kernel) (by decide +kernel)
set_option maxRecDepth 20000 in
theorem gX5_set_X0_valueAt : GoodIn wsX5_set (wsV RX5 111 RX0 yX0_valueAt wsX0_valueAt) := goodIn_app (goodIn_of _ (by decide +kernel)) ggX5_set_X0_valueAt
set_option maxRecDepth 20000 in
theorem ggX5_set_X0_put : GoodIn wsX5_set wsX0_put := goodIn_r _ [63, 55, 81, 82, 83] (by decide +kernel) (by decide +kernel)
set_option maxRecDepth 20000 in
theorem gX5_set_X0_put : GoodIn wsX5_set (wsV RX5 114 RX0 yX0_put wsX0_put) := goodIn_app (goodIn_of _ (by decide +kernel)) ggX5_set_X0_put
theorem dX5_set_0 : decode cX5_set 0 = .ok (.aload_n 0, 1) := by decide +kernel
theorem dX5_set_1 : decode cX5_set 1 = .ok (.iload_n 1, 1) := by decide +kernel
theorem dX5_set_2 : decode cX5_set 2 = .ok (.invokevirtual 66, 3) := by decide +kernel
theorem dX5_set_5 : decode cX5_set 5 = .ok (.aload_n 0, 1) := by decide +kernel
theorem dX5_set_6 : decode cX5_set 6 = .ok (.iload_n 1, 1) := by decide +kernel
theorem dX5_set_7 : decode cX5_set 7 = .ok (.iload_n 2, 1) := by decide +kernel
theorem dX5_set_8 : decode cX5_set 8 = .ok (.invokevirtual 99, 3) := by decide +kernel
theorem dX5_set_11 : decode cX5_set 11 = .ok (.istore 5, 2) := by decide +kernel
theorem dX5_set_13 : decode cX5_set 13 = .ok (.iload_n 3, 1) := by decide +kernel
theorem dX5_set_14 : decode cX5_set 14 = .ok (.invokestatic 103, 3) := by decide +kernel
theorem dX5_set_17 : decode cX5_set 17 = .ok (.iload 4, 2) := by decide +kernel
theorem dX5_set_19 : decode cX5_set 19 = .ok (.ifCond .lt 11, 3) := by decide +kernel
theorem dX5_set_22 : decode cX5_set 22 = .ok (.iload 4, 2) := by decide +kernel
theorem dX5_set_24 : decode cX5_set 24 = .ok (.sipush 999, 3) := by decide +kernel
theorem dX5_set_27 : decode cX5_set 27 = .ok (.if_icmp .le 13, 3) := by decide +kernel
theorem dX5_set_30 : decode cX5_set 30 = .ok (.new 106, 3) := by decide +kernel
theorem dX5_set_33 : decode cX5_set 33 = .ok (.dup, 1) := by decide +kernel
theorem dX5_set_34 : decode cX5_set 34 = .ok (.ldc 108, 2) := by decide +kernel
theorem dX5_set_36 : decode cX5_set 36 = .ok (.invokespecial 110, 3) := by decide +kernel
theorem dX5_set_39 : decode cX5_set 39 = .ok (.athrow, 1) := by decide +kernel
theorem dX5_set_40 : decode cX5_set 40 = .ok (.aload_n 0, 1) := by decide +kernel
theorem dX5_set_41 : decode cX5_set 41 = .ok (.invokevirtual 88, 3) := by decide +kernel
theorem dX5_set_44 : decode cX5_set 44 = .ok (.aload_n 0, 1) := by decide +kernel
theorem dX5_set_45 : decode cX5_set 45 = .ok (.iload_n 1, 1) := by decide +kernel
theorem dX5_set_46 : decode cX5_set 46 = .ok (.iconst (-1), 1) := by decide +kernel
theorem dX5_set_47 : decode cX5_set 47 = .ok (.invokevirtual 91, 3) := by decide +kernel
theorem dX5_set_50 : decode cX5_set 50 = .ok (.astore 6, 2) := by decide +kernel
theorem dX5_set_52 : decode cX5_set 52 = .ok (.aload 6, 2) := by decide +kernel
theorem dX5_set_54 : decode cX5_set 54 = .ok (.iload 5, 2) := by decide +kernel
theorem dX5_set_56 : decode cX5_set 56 = .ok (.iload_n 3, 1) := by decide +kernel
theorem dX5_set_57 : decode cX5_set 57 = .ok (.invokevirtual 111, 3) := by decide +kernel
theorem dX5_set_60 : decode cX5_set 60 = .ok (.istore 7, 2) := by decide +kernel
theorem dX5_set_62 : decode cX5_set 62 = .ok (.aload 6, 2) := by decide +kernel
theorem dX5_set_64 : decode cX5_set 64 = .ok (.iload 5, 2) := by decide +kernel
theorem dX5_set_66 : decode cX5_set 66 = .ok (.iload_n 3, 1) := by decide +kernel
theorem dX5_set_67 : decode cX5_set 67 = .ok (.iload 4, 2) := by decide +kernel
theorem dX5_set_69 : decode cX5_set 69 = .ok (.invokevirtual 114, 3) := by decide +kernel
theorem dX5_set_72 : decode cX5_set 72 = .ok (.iload 7, 2) := by decide +kernel
theorem dX5_set_74 : decode cX5_set 74 = .ok (.ireturn, 1) := by decide +kernel
set_option maxRecDepth 20000 in
theorem ggX5_drop_X5_checkBranch : GoodIn wsX5_drop wsX5_checkBranch := goodIn_ca (goodIn_r _ [6, 7, 8, 9, 67, 68, 69, 70, 71, 72, 73, 74, 75, 76, 77, 78] (by decide +kernel) (by decide +kernel)) (goodIn_sub (fun _ h => List.mem_cons_of_mem _ (List.mem_append_left _ (List.mem_append_right _ h))) (by decide +kernel))
set_option maxRecDepth 20000 in
theorem gX5_drop_X5_checkBranch : GoodIn wsX5_drop (wsV RX5 66 RX5 yX5_checkBranch wsX5_checkBranch) := goodIn_app (goodIn_of _ (by decide +kernel)) ggX5_drop_X5_checkBranch
set_option maxRecDepth 20000 in
theorem ggX5_drop_X5_placeInHead : GoodIn wsX5_drop wsX5_placeInHead := goodIn_ca (goodIn_r _ [13, 7, 8, 14, 15, 16, 5, 17, 18, 1, 19, 20, 21, 22, 23, 24, 25, 26, 67, 68, 69, 70, 71, 72, 73, 74, 75, 76, 77, 78, 79, 80, 81, 82, 83, 84, 85, 86] (by decide +kernel) (by decide +kernel)) (goodIn_sub (fun _ h => List.mem_cons_of_mem _ (List.mem_append_left _ (List.mem_append_right _ h))) (by decide +kernel))
set_option maxRecDepth 20000 in
theorem gX5_drop_X5_placeInHead : GoodIn wsX5_drop (wsV RX5 99 RX5 yX5_placeInHead wsX5_placeInHead) := goodIn_app (goodIn_of _ (by decide +kernel)) ggX5_drop_X5_placeInHead
set_option maxRecDepth 20000 in
theorem ggX5_drop_X5_checkRoomForVersion : GoodIn wsX5_drop wsX5_checkRoomForVersion := goodIn_ca (goodIn_r _ [30, 31, 32, 33, 67, 68, 69, 70, 71, 72, 73, 74, 75, 76, 77, 78] (by decide +kernel) (by decide +kernel)) (goodIn_sub (fun _ h => List.mem_cons_of_mem _ (List.mem_append_right _ h)) (by decide +kernel))
set_option maxRecDepth 20000 in
theorem gX5_drop_X5_checkRoomForVersion : GoodIn wsX5_drop (wsV RX5 88 RX5 yX5_checkRoomForVersion wsX5_checkRoomForVersion) := goodIn_app (goodIn_of _ (by decide +kernel)) ggX5_drop_X5_checkRoomForVersion
set_option maxRecDepth 20000 in
theorem ggX5_drop_X5_makeVersion : GoodIn wsX5_drop wsX5_makeVersion := goodIn_r _ [37, 33, 1, 18, 38, 39, 40, 41, 19, 42, 43, 44, 23, 45, 26, 46, 47, 48, 49, 50, 25, 67, 68, 69, 70, 71, 72, 73, 74, 75, 76, 77, 78, 79, 80, 81, 82, 83, 84, 85, 86] (by decide +kernel) (by decide +kernel)
set_option maxRecDepth 20000 in
theorem gX5_drop_X5_makeVersion : GoodIn wsX5_drop (wsV RX5 91 RX5 yX5_makeVersion wsX5_makeVersion) := goodIn_app (goodIn_of _ (by decide +kernel)) ggX5_drop_X5_makeVersion
set_option maxRecDepth 20000 in
theorem ggX5_drop_X0_removeAt : GoodIn wsX5_drop wsX0_removeAt := goodIn_r _ [54, 25, 55, 56, 57, 23, 58, 26, 59, 60, 61, 62, 50, 63, 64, 65, 66, 84, 85, 86] (by decide +kernel) (by decide +kernel)
set_option maxRecDepth 20000 in
theorem gX5_drop_X0_removeAt : GoodIn wsX5_drop (wsV RX5 118 RX0 yX0_removeAt wsX0_removeAt) := goodIn_app (goodIn_of _ (by decide +kernel)) ggX5_drop_X0_removeAt
theorem dX5_drop_0 : decode cX5_drop 0 = .ok (.aload_n 0, 1) := by decide +kernel
theorem dX5_drop_1 : decode cX5_drop 1 = .ok (.iload_n 1, 1) := by decide +kernel
theorem dX5_drop_2 : decode cX5_drop 2 = .ok (.invokevirtual 66, 3) := by decide +kernel
theorem dX5_drop_5 : decode cX5_drop 5 = .ok (.aload_n 0, 1) := by decide +kernel
theorem dX5_drop_6 : decode cX5_drop 6 = .ok (.iload_n 1, 1) := by decide +kernel
theorem dX5_drop_7 : decode cX5_drop 7 = .ok (.iload_n 2, 1) := by decide +kernel
theorem dX5_drop_8 : decode cX5_drop 8 = .ok (.invokevirtual 99, 3) := by decide +kernel
theorem dX5_drop_11 : decode cX5_drop 11 = .ok (.istore_n 3, 1) := by decide +kernel
theorem dX5_drop_12 : decode cX5_drop 12 = .ok (.aload_n 0, 1) := by decide +kernel
theorem dX5_drop_13 : decode cX5_drop 13 = .ok (.invokevirtual 88, 3) := by decide +kernel
theorem dX5_drop_16 : decode cX5_drop 16 = .ok (.aload_n 0, 1) := by decide +kernel
theorem dX5_drop_17 : decode cX5_drop 17 = .ok (.iload_n 1, 1) := by decide +kernel
theorem dX5_drop_18 : decode cX5_drop 18 = .ok (.iconst (-1), 1) := by decide +kernel
theorem dX5_drop_19 : decode cX5_drop 19 = .ok (.invokevirtual 91, 3) := by decide +kernel
theorem dX5_drop_22 : decode cX5_drop 22 = .ok (.iload_n 3, 1) := by decide +kernel
theorem dX5_drop_23 : decode cX5_drop 23 = .ok (.invokevirtual 118, 3) := by decide +kernel
theorem dX5_drop_26 : decode cX5_drop 26 = .ok (.aload_n 0, 1) := by decide +kernel
theorem dX5_drop_27 : decode cX5_drop 27 = .ok (.getfield 15, 3) := by decide +kernel
theorem dX5_drop_30 : decode cX5_drop 30 = .ok (.iload_n 1, 1) := by decide +kernel
theorem dX5_drop_31 : decode cX5_drop 31 = .ok (.iaload, 1) := by decide +kernel
theorem dX5_drop_32 : decode cX5_drop 32 = .ok (.ireturn, 1) := by decide +kernel
set_option maxRecDepth 20000 in
theorem ggX5_head_X5_checkBranch : GoodIn wsX5_head wsX5_checkBranch := goodIn_ca (goodIn_r _ [6, 7, 8, 9, 10, 11, 12, 13, 14, 15, 16, 17, 18, 19, 20, 21] (by decide +kernel) (by decide +kernel)) (goodIn_sub (fun _ h => List.mem_cons_of_mem _ (List.mem_append_right _ h)) (by decide +kernel))
set_option maxRecDepth 20000 in
theorem gX5_head_X5_checkBranch : GoodIn wsX5_head (wsV RX5 66 RX5 yX5_checkBranch wsX5_checkBranch) := goodIn_app (goodIn_of _ (by decide +kernel)) ggX5_head_X5_checkBranch
theorem dX5_head_0 : decode cX5_head 0 = .ok (.aload_n 0, 1) := by decide +kernel
theorem dX5_head_1 : decode cX5_head 1 = .ok (.iload_n 1, 1) := by decide +kernel
theorem dX5_head_2 : decode cX5_head 2 = .ok (.invokevirtual 66, 3) := by decide +kernel
theorem dX5_head_5 : decode cX5_head 5 = .ok (.aload_n 0, 1) := by decide +kernel
theorem dX5_head_6 : decode cX5_head 6 = .ok (.getfield 15, 3) := by decide +kernel
theorem dX5_head_9 : decode cX5_head 9 = .ok (.iload_n 1, 1) := by decide +kernel
theorem dX5_head_10 : decode cX5_head 10 = .ok (.iaload, 1) := by decide +kernel
theorem dX5_head_11 : decode cX5_head 11 = .ok (.ireturn, 1) := by decide +kernel
set_option maxRecDepth 20000 in
theorem ggX5_about_X5_checkVersion : GoodIn wsX5_about wsX5_checkVersion := goodIn_ca (goodIn_r _ [14, 15, 16, 17, 25, 26, 27, 28, 29, 30, 31, 32, 33, 34, 35, 36] (by decide +kernel) (by decide +kernel)) (goodIn_sub (fun _ h => List.mem_cons_of_mem _ (List.mem_append_right _ h)) (by decide +kernel))
set_option maxRecDepth 20000 in
theorem gX5_about_X5_checkVersion : GoodIn wsX5_about (wsV RX5 55 RX5 yX5_checkVersion wsX5_checkVersion) := goodIn_app (goodIn_of _ (by decide +kernel)) ggX5_about_X5_checkVersion
set_option maxRecDepth 20000 in
theorem ggX5_about_J13_bitCount_95d88 : GoodIn wsX5_about wsJ13_bitCount_95d88 := goodIn_r _ [21, 22, 23, 24] (by decide +kernel) (by decide +kernel)
set_option maxRecDepth 20000 in
theorem gX5_about_J13_bitCount_95d88 : GoodIn wsX5_about (va_wsS RX5 133 yJ13_bitCount_95d88 wsJ13_bitCount_95d88) := goodIn_app (goodIn_of _ (by decide +kernel)) ggX5_about_J13_bitCount_95d88
theorem dX5_about_0 : decode cX5_about 0 = .ok (.aload_n 0, 1) := by decide +kernel
theorem dX5_about_1 : decode cX5_about 1 = .ok (.iload_n 1, 1) := by decide +kernel
theorem dX5_about_2 : decode cX5_about 2 = .ok (.invokevirtual 55, 3) := by decide +kernel
theorem dX5_about_5 : decode cX5_about 5 = .ok (.aload_n 0, 1) := by decide +kernel
theorem dX5_about_6 : decode cX5_about 6 = .ok (.getfield 11, 3) := by decide +kernel
theorem dX5_about_9 : decode cX5_about 9 = .ok (.iload_n 1, 1) := by decide +kernel
theorem dX5_about_10 : decode cX5_about 10 = .ok (.aaload, 1) := by decide +kernel
theorem dX5_about_11 : decode cX5_about 11 = .ok (.astore_n 3, 1) := by decide +kernel
theorem dX5_about_12 : decode cX5_about 12 = .ok (.iload_n 2, 1) := by decide +kernel
theorem dX5_about_13 : decode cX5_about 13 = .ok (.tableswitch 66 0 4 #[35, 40, 45, 50, 58], 35) := by decide +kernel
theorem dX5_about_48 : decode cX5_about 48 = .ok (.aload_n 3, 1) := by decide +kernel
theorem dX5_about_49 : decode cX5_about 49 = .ok (.getfield 121, 3) := by decide +kernel
theorem dX5_about_52 : decode cX5_about 52 = .ok (.ireturn, 1) := by decide +kernel
theorem dX5_about_53 : decode cX5_about 53 = .ok (.aload_n 3, 1) := by decide +kernel
theorem dX5_about_54 : decode cX5_about 54 = .ok (.getfield 124, 3) := by decide +kernel
theorem dX5_about_57 : decode cX5_about 57 = .ok (.ireturn, 1) := by decide +kernel
theorem dX5_about_58 : decode cX5_about 58 = .ok (.aload_n 3, 1) := by decide +kernel
theorem dX5_about_59 : decode cX5_about 59 = .ok (.getfield 127, 3) := by decide +kernel
theorem dX5_about_62 : decode cX5_about 62 = .ok (.ireturn, 1) := by decide +kernel
theorem dX5_about_63 : decode cX5_about 63 = .ok (.aload_n 3, 1) := by decide +kernel
theorem dX5_about_64 : decode cX5_about 64 = .ok (.getfield 130, 3) := by decide +kernel
theorem dX5_about_67 : decode cX5_about 67 = .ok (.getfield 73, 3) := by decide +kernel
theorem dX5_about_70 : decode cX5_about 70 = .ok (.ireturn, 1) := by decide +kernel
theorem dX5_about_71 : decode cX5_about 71 = .ok (.aload_n 3, 1) := by decide +kernel
theorem dX5_about_72 : decode cX5_about 72 = .ok (.getfield 44, 3) := by decide +kernel
theorem dX5_about_75 : decode cX5_about 75 = .ok (.invokestatic 133, 3) := by decide +kernel
theorem dX5_about_78 : decode cX5_about 78 = .ok (.ireturn, 1) := by decide +kernel
theorem dX5_about_79 : decode cX5_about 79 = .ok (.new 106, 3) := by decide +kernel
theorem dX5_about_82 : decode cX5_about 82 = .ok (.dup, 1) := by decide +kernel
theorem dX5_about_83 : decode cX5_about 83 = .ok (.ldc 139, 2) := by decide +kernel
theorem dX5_about_85 : decode cX5_about 85 = .ok (.invokespecial 110, 3) := by decide +kernel
theorem dX5_about_88 : decode cX5_about 88 = .ok (.athrow, 1) := by decide +kernel
set_option maxRecDepth 20000 in
theorem ggX5_value_X5_checkVersion : GoodIn wsX5_value wsX5_checkVersion := goodIn_ca (goodIn_r _ [7, 8, 9, 10, 35, 36, 37, 38, 39, 40, 41, 42, 43, 44, 45, 46] (by decide +kernel) (by decide +kernel)) (goodIn_sub (fun _ h => List.mem_cons_of_mem _ (List.mem_append_right _ h)) (by decide +kernel))
set_option maxRecDepth 20000 in
theorem gX5_value_X5_checkVersion : GoodIn wsX5_value (wsV RX5 55 RX5 yX5_checkVersion wsX5_checkVersion) := goodIn_app (goodIn_of _ (by decide +kernel)) ggX5_value_X5_checkVersion
set_option maxRecDepth 20000 in
theorem ggX5_value_X5_checkSlide : GoodIn wsX5_value wsX5_checkSlide := goodIn_ca (goodIn_r _ [14, 8, 9, 15, 35, 36, 37, 38, 39, 40, 41, 42, 43, 44, 45, 46] (by decide +kernel) (by decide +kernel)) (goodIn_sub (fun _ h => List.mem_cons_of_mem _ (List.mem_append_right _ h)) (by decide +kernel))
set_option maxRecDepth 20000 in
theorem gX5_value_X5_checkSlide : GoodIn wsX5_value (wsV RX5 141 RX5 yX5_checkSlide wsX5_checkSlide) := goodIn_app (goodIn_of _ (by decide +kernel)) ggX5_value_X5_checkSlide
set_option maxRecDepth 20000 in
theorem ggX5_value_X5_checkObject : GoodIn wsX5_value wsX5_checkObject := goodIn_ca (goodIn_r _ [18, 8, 9] (by decide +kernel) (by decide +kernel)) (goodIn_sub (fun _ h => List.mem_cons_of_mem _ (List.mem_append_right _ h)) (by decide +kernel))
set_option maxRecDepth 20000 in
theorem gX5_value_X5_checkObject : GoodIn wsX5_value (va_wsS RX5 103 yX5_checkObject wsX5_checkObject) := goodIn_app (goodIn_of _ (by decide +kernel)) ggX5_value_X5_checkObject
set_option maxRecDepth 20000 in
theorem ggX5_value_X0_valueOf : GoodIn wsX5_value wsX0_valueOf := goodIn_r _ [23, 24, 25, 26, 22, 27, 28, 29, 30, 31, 32, 33, 34, 52, 53, 54] (by decide +kernel) (by decide +kernel)
set_option maxRecDepth 20000 in
theorem gX5_value_X0_valueOf : GoodIn wsX5_value (wsV RX5 144 RX0 yX0_valueOf wsX0_valueOf) := goodIn_app (goodIn_of _ (by decide +kernel)) ggX5_value_X0_valueOf
theorem dX5_value_0 : decode cX5_value 0 = .ok (.aload_n 0, 1) := by decide +kernel
theorem dX5_value_1 : decode cX5_value 1 = .ok (.iload_n 1, 1) := by decide +kernel
theorem dX5_value_2 : decode cX5_value 2 = .ok (.invokevirtual 55, 3) := by decide +kernel
theorem dX5_value_5 : decode cX5_value 5 = .ok (.aload_n 0, 1) := by decide +kernel
theorem dX5_value_6 : decode cX5_value 6 = .ok (.iload_n 2, 1) := by decide +kernel
theorem dX5_value_7 : decode cX5_value 7 = .ok (.invokevirtual 141, 3) := by decide +kernel
theorem dX5_value_10 : decode cX5_value 10 = .ok (.iload_n 3, 1) := by decide +kernel
theorem dX5_value_11 : decode cX5_value 11 = .ok (.invokestatic 103, 3) := by decide +kernel
theorem dX5_value_14 : decode cX5_value 14 = .ok (.aload_n 0, 1) := by decide +kernel
theorem dX5_value_15 : decode cX5_value 15 = .ok (.getfield 11, 3) := by decide +kernel
theorem dX5_value_18 : decode cX5_value 18 = .ok (.iload_n 1, 1) := by decide +kernel
theorem dX5_value_19 : decode cX5_value 19 = .ok (.aaload, 1) := by decide +kernel
theorem dX5_value_20 : decode cX5_value 20 = .ok (.getfield 130, 3) := by decide +kernel
theorem dX5_value_23 : decode cX5_value 23 = .ok (.iload_n 2, 1) := by decide +kernel
theorem dX5_value_24 : decode cX5_value 24 = .ok (.iload_n 3, 1) := by decide +kernel
theorem dX5_value_25 : decode cX5_value 25 = .ok (.invokevirtual 144, 3) := by decide +kernel
theorem dX5_value_28 : decode cX5_value 28 = .ok (.ireturn, 1) := by decide +kernel
set_option maxRecDepth 20000 in
theorem ggX5_slideAt_X5_checkVersion : GoodIn wsX5_slideAt wsX5_checkVersion := goodIn_ca (goodIn_r _ [11, 1, 2, 12, 13, 14, 15, 16, 17, 18, 19, 20, 21, 22, 23, 24] (by decide +kernel) (by decide +kernel)) (goodIn_sub (fun _ h => List.mem_cons_of_mem _ (List.mem_append_right _ h)) (by decide +kernel))
set_option maxRecDepth 20000 in
theorem gX5_slideAt_X5_checkVersion : GoodIn wsX5_slideAt (wsV RX5 55 RX5 yX5_checkVersion wsX5_checkVersion) := goodIn_app (goodIn_of _ (by decide +kernel)) ggX5_slideAt_X5_checkVersion
theorem dX5_slideAt_0 : decode cX5_slideAt 0 = .ok (.aload_n 0, 1) := by decide +kernel
theorem dX5_slideAt_1 : decode cX5_slideAt 1 = .ok (.iload_n 1, 1) := by decide +kernel
theorem dX5_slideAt_2 : decode cX5_slideAt 2 = .ok (.invokevirtual 55, 3) := by decide +kernel
theorem dX5_slideAt_5 : decode cX5_slideAt 5 = .ok (.iload_n 2, 1) := by decide +kernel
theorem dX5_slideAt_6 : decode cX5_slideAt 6 = .ok (.ifCond .ge 13, 3) := by decide +kernel
theorem dX5_slideAt_9 : decode cX5_slideAt 9 = .ok (.new 76, 3) := by decide +kernel
theorem dX5_slideAt_12 : decode cX5_slideAt 12 = .ok (.dup, 1) := by decide +kernel
theorem dX5_slideAt_13 : decode cX5_slideAt 13 = .ok (.ldc 147, 2) := by decide +kernel
theorem dX5_slideAt_15 : decode cX5_slideAt 15 = .ok (.invokespecial 80, 3) := by decide +kernel
theorem dX5_slideAt_18 : decode cX5_slideAt 18 = .ok (.athrow, 1) := by decide +kernel
theorem dX5_slideAt_19 : decode cX5_slideAt 19 = .ok (.aload_n 0, 1) := by decide +kernel
theorem dX5_slideAt_20 : decode cX5_slideAt 20 = .ok (.getfield 11, 3) := by decide +kernel
theorem dX5_slideAt_23 : decode cX5_slideAt 23 = .ok (.iload_n 1, 1) := by decide +kernel
theorem dX5_slideAt_24 : decode cX5_slideAt 24 = .ok (.aaload, 1) := by decide +kernel
theorem dX5_slideAt_25 : decode cX5_slideAt 25 = .ok (.getfield 130, 3) := by decide +kernel
theorem dX5_slideAt_28 : decode cX5_slideAt 28 = .ok (.astore_n 3, 1) := by decide +kernel
theorem dX5_slideAt_29 : decode cX5_slideAt 29 = .ok (.iload_n 2, 1) := by decide +kernel
theorem dX5_slideAt_30 : decode cX5_slideAt 30 = .ok (.aload_n 3, 1) := by decide +kernel
theorem dX5_slideAt_31 : decode cX5_slideAt 31 = .ok (.getfield 73, 3) := by decide +kernel
theorem dX5_slideAt_34 : decode cX5_slideAt 34 = .ok (.if_icmp .ge 12, 3) := by decide +kernel
theorem dX5_slideAt_37 : decode cX5_slideAt 37 = .ok (.aload_n 3, 1) := by decide +kernel
theorem dX5_slideAt_38 : decode cX5_slideAt 38 = .ok (.getfield 149, 3) := by decide +kernel
theorem dX5_slideAt_41 : decode cX5_slideAt 41 = .ok (.iload_n 2, 1) := by decide +kernel
theorem dX5_slideAt_42 : decode cX5_slideAt 42 = .ok (.iaload, 1) := by decide +kernel
theorem dX5_slideAt_43 : decode cX5_slideAt 43 = .ok (.goto 4, 3) := by decide +kernel
theorem dX5_slideAt_46 : decode cX5_slideAt 46 = .ok (.iconst (-1), 1) := by decide +kernel
theorem dX5_slideAt_47 : decode cX5_slideAt 47 = .ok (.ireturn, 1) := by decide +kernel
set_option maxRecDepth 20000 in
theorem ggX5_base_X5_checkBranch : GoodIn wsX5_base wsX5_checkBranch := goodIn_ca (goodIn_r _ [5, 6, 7, 8, 22, 23, 24, 25, 26, 27, 28, 29, 30, 31, 32, 33] (by decide +kernel) (by decide +kernel)) (goodIn_sub (fun _ h => List.mem_cons_of_mem _ (List.mem_append_left _ (List.mem_append_right _ h))) (by decide +kernel))
set_option maxRecDepth 20000 in
theorem gX5_base_X5_checkBranch : GoodIn wsX5_base (wsV RX5 66 RX5 yX5_checkBranch wsX5_checkBranch) := goodIn_app (goodIn_of _ (by decide +kernel)) ggX5_base_X5_checkBranch
set_option maxRecDepth 20000 in
theorem ggX5_base_X5_checkDifferent : GoodIn wsX5_base wsX5_checkDifferent := goodIn_ca (goodIn_r _ [11, 12, 13] (by decide +kernel) (by decide +kernel)) (goodIn_sub (fun _ h => List.mem_cons_of_mem _ (List.mem_append_right _ h)) (by decide +kernel))
set_option maxRecDepth 20000 in
theorem gX5_base_X5_checkDifferent : GoodIn wsX5_base (va_wsS RX5 152 yX5_checkDifferent wsX5_checkDifferent) := goodIn_app (goodIn_of _ (by decide +kernel)) ggX5_base_X5_checkDifferent
set_option maxRecDepth 20000 in
theorem ggX5_base_X5_baseOf : GoodIn wsX5_base wsX5_baseOf := goodIn_r _ [17, 18, 19, 20, 21, 22, 23, 24, 25, 26, 27, 28, 29, 30, 31, 32, 33, 34, 35, 36, 37, 38] (by decide +kernel) (by decide +kernel)
set_option maxRecDepth 20000 in
theorem gX5_base_X5_baseOf : GoodIn wsX5_base (wsV RX5 155 RX5 yX5_baseOf wsX5_baseOf) := goodIn_app (goodIn_of _ (by decide +kernel)) ggX5_base_X5_baseOf
theorem dX5_base_0 : decode cX5_base 0 = .ok (.aload_n 0, 1) := by decide +kernel
theorem dX5_base_1 : decode cX5_base 1 = .ok (.iload_n 1, 1) := by decide +kernel
theorem dX5_base_2 : decode cX5_base 2 = .ok (.invokevirtual 66, 3) := by decide +kernel
theorem dX5_base_5 : decode cX5_base 5 = .ok (.aload_n 0, 1) := by decide +kernel
theorem dX5_base_6 : decode cX5_base 6 = .ok (.iload_n 2, 1) := by decide +kernel
theorem dX5_base_7 : decode cX5_base 7 = .ok (.invokevirtual 66, 3) := by decide +kernel
theorem dX5_base_10 : decode cX5_base 10 = .ok (.iload_n 1, 1) := by decide +kernel
theorem dX5_base_11 : decode cX5_base 11 = .ok (.iload_n 2, 1) := by decide +kernel
theorem dX5_base_12 : decode cX5_base 12 = .ok (.invokestatic 152, 3) := by decide +kernel
theorem dX5_base_15 : decode cX5_base 15 = .ok (.aload_n 0, 1) := by decide +kernel
theorem dX5_base_16 : decode cX5_base 16 = .ok (.iload_n 1, 1) := by decide +kernel
theorem dX5_base_17 : decode cX5_base 17 = .ok (.iload_n 2, 1) := by decide +kernel
theorem dX5_base_18 : decode cX5_base 18 = .ok (.invokevirtual 155, 3) := by decide +kernel
theorem dX5_base_21 : decode cX5_base 21 = .ok (.ireturn, 1) := by decide +kernel
set_option maxRecDepth 20000 in
theorem ggX5_clashes_X5_checkBranch : GoodIn wsX5_clashes wsX5_checkBranch := goodIn_ca (goodIn_r _ [6, 7, 8, 9, 80, 81, 82, 83, 84, 85, 86, 87, 88, 89, 90, 91] (by decide +kernel) (by decide +kernel)) (goodIn_sub (fun _ h => List.mem_cons_of_mem _ (List.mem_append_left _ (List.mem_append_right _ h))) (by decide +kernel))
set_option maxRecDepth 20000 in
theorem gX5_clashes_X5_checkBranch : GoodIn wsX5_clashes (wsV RX5 66 RX5 yX5_checkBranch wsX5_checkBranch) := goodIn_app (goodIn_of _ (by decide +kernel)) ggX5_clashes_X5_checkBranch
set_option maxRecDepth 20000 in
theorem ggX5_clashes_X5_checkDifferent : GoodIn wsX5_clashes wsX5_checkDifferent := goodIn_ca (goodIn_r _ [12, 13, 14] (by decide +kernel) (by decide +kernel)) (goodIn_sub (fun _ h => List.mem_cons_of_mem _ (List.mem_append_right _ h)) (by decide +kernel))
set_option maxRecDepth 20000 in
theorem gX5_clashes_X5_checkDifferent : GoodIn wsX5_clashes (va_wsS RX5 152 yX5_checkDifferent wsX5_checkDifferent) := goodIn_app (goodIn_of _ (by decide +kernel)) ggX5_clashes_X5_checkDifferent
set_option maxRecDepth 20000 in
theorem ggX5_clashes_X5_mergeOf : GoodIn wsX5_clashes wsX5_mergeOf := goodIn_r _ [18, 19, 20, 21, 22, 23, 24, 25, 26, 5, 27, 28, 29, 30, 31, 32, 33, 34, 35, 36, 37, 38, 39, 40, 41, 42, 43, 92, 93, 94, 80, 81, 82, 83, 84, 85, 86, 87, 88, 89, 90, 91, 95, 96, 97, 98, 99] (by decide +kernel) (by decide +kernel)
set_option maxRecDepth 20000 in
theorem gX5_clashes_X5_mergeOf : GoodIn wsX5_clashes (wsV RX5 158 RX5 yX5_mergeOf wsX5_mergeOf) := goodIn_app (goodIn_of _ (by decide +kernel)) ggX5_clashes_X5_mergeOf
set_option maxRecDepth 20000 in
theorem ggX5_clashes_X1_countClashes : GoodIn wsX5_clashes wsX1_countClashes := goodIn_r _ [47, 48, 49, 50, 21, 51, 42, 43, 41, 52, 53, 54, 55, 56, 57, 58, 59, 60, 61, 62, 63, 64, 65, 66, 67, 68, 69, 70, 71, 72, 73, 74, 75, 76, 77, 78, 79, 92, 93, 94, 100, 101, 102] (by decide +kernel) (by decide +kernel)
set_option maxRecDepth 20000 in
theorem gX5_clashes_X1_countClashes : GoodIn wsX5_clashes (wsV RX5 162 RX1 yX1_countClashes wsX1_countClashes) := goodIn_app (goodIn_of _ (by decide +kernel)) ggX5_clashes_X1_countClashes
theorem dX5_clashes_0 : decode cX5_clashes 0 = .ok (.aload_n 0, 1) := by decide +kernel
theorem dX5_clashes_1 : decode cX5_clashes 1 = .ok (.iload_n 1, 1) := by decide +kernel
theorem dX5_clashes_2 : decode cX5_clashes 2 = .ok (.invokevirtual 66, 3) := by decide +kernel
theorem dX5_clashes_5 : decode cX5_clashes 5 = .ok (.aload_n 0, 1) := by decide +kernel
theorem dX5_clashes_6 : decode cX5_clashes 6 = .ok (.iload_n 2, 1) := by decide +kernel
theorem dX5_clashes_7 : decode cX5_clashes 7 = .ok (.invokevirtual 66, 3) := by decide +kernel
theorem dX5_clashes_10 : decode cX5_clashes 10 = .ok (.iload_n 1, 1) := by decide +kernel
theorem dX5_clashes_11 : decode cX5_clashes 11 = .ok (.iload_n 2, 1) := by decide +kernel
theorem dX5_clashes_12 : decode cX5_clashes 12 = .ok (.invokestatic 152, 3) := by decide +kernel
theorem dX5_clashes_15 : decode cX5_clashes 15 = .ok (.aload_n 0, 1) := by decide +kernel
theorem dX5_clashes_16 : decode cX5_clashes 16 = .ok (.iload_n 1, 1) := by decide +kernel
theorem dX5_clashes_17 : decode cX5_clashes 17 = .ok (.iload_n 2, 1) := by decide +kernel
theorem dX5_clashes_18 : decode cX5_clashes 18 = .ok (.invokevirtual 158, 3) := by decide +kernel
theorem dX5_clashes_21 : decode cX5_clashes 21 = .ok (.aload_n 0, 1) := by decide +kernel
theorem dX5_clashes_22 : decode cX5_clashes 22 = .ok (.getfield 83, 3) := by decide +kernel
theorem dX5_clashes_25 : decode cX5_clashes 25 = .ok (.invokevirtual 162, 3) := by decide +kernel
theorem dX5_clashes_28 : decode cX5_clashes 28 = .ok (.ireturn, 1) := by decide +kernel
set_option maxRecDepth 20000 in
theorem ggX5_merged_X5_checkBranch : GoodIn wsX5_merged wsX5_checkBranch := goodIn_ca (goodIn_r _ [7, 8, 9, 10, 95, 96, 97, 98, 99, 100, 101, 102, 103, 104, 105, 106] (by decide +kernel) (by decide +kernel)) (goodIn_sub (fun _ h => List.mem_cons_of_mem _ (List.mem_append_right _ h)) (by decide +kernel))
set_option maxRecDepth 20000 in
theorem gX5_merged_X5_checkBranch : GoodIn wsX5_merged (wsV RX5 66 RX5 yX5_checkBranch wsX5_checkBranch) := goodIn_app (goodIn_of _ (by decide +kernel)) ggX5_merged_X5_checkBranch
set_option maxRecDepth 20000 in
theorem ggX5_merged_X5_checkSlide : GoodIn wsX5_merged wsX5_checkSlide := goodIn_ca (goodIn_r _ [14, 8, 9, 15, 95, 96, 97, 98, 99, 100, 101, 102, 103, 104, 105, 106] (by decide +kernel) (by decide +kernel)) (goodIn_sub (fun _ h => List.mem_cons_of_mem _ (List.mem_append_right _ h)) (by decide +kernel))
set_option maxRecDepth 20000 in
theorem gX5_merged_X5_checkSlide : GoodIn wsX5_merged (wsV RX5 141 RX5 yX5_checkSlide wsX5_checkSlide) := goodIn_app (goodIn_of _ (by decide +kernel)) ggX5_merged_X5_checkSlide
set_option maxRecDepth 20000 in
theorem ggX5_merged_X5_checkObject : GoodIn wsX5_merged wsX5_checkObject := goodIn_ca (goodIn_r _ [18, 8, 9] (by decide +kernel) (by decide +kernel)) (goodIn_sub (fun _ h => List.mem_cons_of_mem _ (List.mem_append_right _ h)) (by decide +kernel))
set_option maxRecDepth 20000 in
theorem gX5_merged_X5_checkObject : GoodIn wsX5_merged (va_wsS RX5 103 yX5_checkObject wsX5_checkObject) := goodIn_app (goodIn_of _ (by decide +kernel)) ggX5_merged_X5_checkObject
set_option maxRecDepth 20000 in
theorem ggX5_merged_X5_checkDifferent : GoodIn wsX5_merged wsX5_checkDifferent := goodIn_ca (goodIn_r _ [21, 1, 2] (by decide +kernel) (by decide +kernel)) (goodIn_sub (fun _ h => List.mem_cons_of_mem _ (List.mem_append_left _ (List.mem_append_right _ h))) (by decide +kernel))
set_option maxRecDepth 20000 in
theorem gX5_merged_X5_checkDifferent : GoodIn wsX5_merged (va_wsS RX5 152 yX5_checkDifferent wsX5_checkDifferent) := goodIn_app (goodIn_of _ (by decide +kernel)) ggX5_merged_X5_checkDifferent
set_option maxRecDepth 20000 in
theorem ggX5_merged_X5_mergeOf : GoodIn wsX5_merged wsX5_mergeOf := goodIn_r _ [25, 26, 27, 28, 29, 30, 31, 32, 33, 6, 34, 35, 36, 37, 38, 39, 40, 41, 42, 43, 44, 45, 46, 47, 48, 49, 50, 107, 108, 109, 95, 96, 97, 98, 99, 100, 101, 102, 103, 104, 105, 106, 110, 111, 112, 113, 114] (by decide +kernel) (by decide +kernel)
set_option maxRecDepth 20000 in
theorem gX5_merged_X5_mergeOf : GoodIn wsX5_merged (wsV RX5 158 RX5 yX5_mergeOf wsX5_mergeOf) := goodIn_app (goodIn_of _ (by decide +kernel)) ggX5_merged_X5_mergeOf
set_option maxRecDepth 20000 in
theorem ggX5_merged_X1_resultOf : GoodIn wsX5_merged wsX1_resultOf := goodIn_r _ [54, 55, 56, 57, 28, 58, 49, 50, 48, 59, 60, 61, 62, 63, 64, 65, 66, 67, 68, 69, 70, 71, 72, 73, 74, 75, 76, 77, 78, 79, 80, 81, 82, 83, 84, 85, 86, 87, 88, 89, 90, 91, 92, 93, 94, 107, 108, 109, 115, 116, 117] (by decide +kernel) (by decide +kernel)
set_option maxRecDepth 20000 in
theorem gX5_merged_X1_resultOf : GoodIn wsX5_merged (wsV RX5 170 RX1 yX1_resultOf wsX1_resultOf) := goodIn_app (goodIn_of _ (by decide +kernel)) ggX5_merged_X1_resultOf
theorem dX5_merged_0 : decode cX5_merged 0 = .ok (.aload_n 0, 1) := by decide +kernel
theorem dX5_merged_1 : decode cX5_merged 1 = .ok (.iload_n 1, 1) := by decide +kernel
theorem dX5_merged_2 : decode cX5_merged 2 = .ok (.invokevirtual 66, 3) := by decide +kernel
theorem dX5_merged_5 : decode cX5_merged 5 = .ok (.aload_n 0, 1) := by decide +kernel
theorem dX5_merged_6 : decode cX5_merged 6 = .ok (.iload_n 2, 1) := by decide +kernel
theorem dX5_merged_7 : decode cX5_merged 7 = .ok (.invokevirtual 66, 3) := by decide +kernel
theorem dX5_merged_10 : decode cX5_merged 10 = .ok (.aload_n 0, 1) := by decide +kernel
theorem dX5_merged_11 : decode cX5_merged 11 = .ok (.iload_n 3, 1) := by decide +kernel
theorem dX5_merged_12 : decode cX5_merged 12 = .ok (.invokevirtual 141, 3) := by decide +kernel
theorem dX5_merged_15 : decode cX5_merged 15 = .ok (.iload 4, 2) := by decide +kernel
theorem dX5_merged_17 : decode cX5_merged 17 = .ok (.invokestatic 103, 3) := by decide +kernel
theorem dX5_merged_20 : decode cX5_merged 20 = .ok (.iload_n 1, 1) := by decide +kernel
theorem dX5_merged_21 : decode cX5_merged 21 = .ok (.iload_n 2, 1) := by decide +kernel
theorem dX5_merged_22 : decode cX5_merged 22 = .ok (.invokestatic 152, 3) := by decide +kernel
theorem dX5_merged_25 : decode cX5_merged 25 = .ok (.iload 5, 2) := by decide +kernel
theorem dX5_merged_27 : decode cX5_merged 27 = .ok (.ifCond .eq 19, 3) := by decide +kernel
theorem dX5_merged_30 : decode cX5_merged 30 = .ok (.iload 5, 2) := by decide +kernel
theorem dX5_merged_32 : decode cX5_merged 32 = .ok (.iconst 1, 1) := by decide +kernel
theorem dX5_merged_33 : decode cX5_merged 33 = .ok (.if_icmp .eq 13, 3) := by decide +kernel
theorem dX5_merged_36 : decode cX5_merged 36 = .ok (.new 106, 3) := by decide +kernel
theorem dX5_merged_39 : decode cX5_merged 39 = .ok (.dup, 1) := by decide +kernel
theorem dX5_merged_40 : decode cX5_merged 40 = .ok (.ldc 168, 2) := by decide +kernel
theorem dX5_merged_42 : decode cX5_merged 42 = .ok (.invokespecial 110, 3) := by decide +kernel
theorem dX5_merged_45 : decode cX5_merged 45 = .ok (.athrow, 1) := by decide +kernel
theorem dX5_merged_46 : decode cX5_merged 46 = .ok (.aload_n 0, 1) := by decide +kernel
theorem dX5_merged_47 : decode cX5_merged 47 = .ok (.iload_n 1, 1) := by decide +kernel
theorem dX5_merged_48 : decode cX5_merged 48 = .ok (.iload_n 2, 1) := by decide +kernel
theorem dX5_merged_49 : decode cX5_merged 49 = .ok (.invokevirtual 158, 3) := by decide +kernel
theorem dX5_merged_52 : decode cX5_merged 52 = .ok (.iload_n 3, 1) := by decide +kernel
theorem dX5_merged_53 : decode cX5_merged 53 = .ok (.iload 4, 2) := by decide +kernel
theorem dX5_merged_55 : decode cX5_merged 55 = .ok (.iload 5, 2) := by decide +kernel
theorem dX5_merged_57 : decode cX5_merged 57 = .ok (.invokevirtual 170, 3) := by decide +kernel
theorem dX5_merged_60 : decode cX5_merged 60 = .ok (.ireturn, 1) := by decide +kernel
set_option maxRecDepth 20000 in
theorem ggX5_merge_X5_checkBranch : GoodIn wsX5_merge wsX5_checkBranch := goodIn_ca (goodIn_r _ [12, 13, 14, 15, 173, 174, 175, 176, 177, 178, 179, 180, 181, 182, 183, 184] (by decide +kernel) (by decide +kernel)) (goodIn_sub (fun _ h => List.mem_cons_of_mem _ (List.mem_append_right _ h)) (by decide +kernel))
set_option maxRecDepth 20000 in
theorem gX5_merge_X5_checkBranch : GoodIn wsX5_merge (wsV RX5 66 RX5 yX5_checkBranch wsX5_checkBranch) := goodIn_app (goodIn_of _ (by decide +kernel)) ggX5_merge_X5_checkBranch
set_option maxRecDepth 20000 in
theorem ggX5_merge_X5_checkDifferent : GoodIn wsX5_merge wsX5_checkDifferent := goodIn_ca (goodIn_r _ [18, 1, 2] (by decide +kernel) (by decide +kernel)) (goodIn_sub (fun _ h => List.mem_cons_of_mem _ (List.mem_append_left _ (List.mem_append_left _ (List.mem_append_right _ h)))) (by decide +kernel))
set_option maxRecDepth 20000 in
theorem gX5_merge_X5_checkDifferent : GoodIn wsX5_merge (va_wsS RX5 152 yX5_checkDifferent wsX5_checkDifferent) := goodIn_app (goodIn_of _ (by decide +kernel)) ggX5_merge_X5_checkDifferent
set_option maxRecDepth 20000 in
theorem ggX5_merge_X5_mergeOf : GoodIn wsX5_merge wsX5_mergeOf := goodIn_r _ [22, 23, 24, 25, 26, 27, 28, 29, 30, 11, 31, 7, 32, 33, 34, 35, 36, 37, 38, 39, 40, 41, 42, 43, 44, 45, 46, 185, 186, 187, 173, 174, 175, 176, 177, 178, 179, 180, 181, 182, 183, 184, 188, 189, 190, 191, 192] (by decide +kernel) (by decide +kernel)
set_option maxRecDepth 20000 in
theorem gX5_merge_X5_mergeOf : GoodIn wsX5_merge (wsV RX5 158 RX5 yX5_mergeOf wsX5_mergeOf) := goodIn_app (goodIn_of _ (by decide +kernel)) ggX5_merge_X5_mergeOf
set_option maxRecDepth 20000 in
theorem ggX5_merge_X1_countClashes : GoodIn wsX5_merge wsX1_countClashes := goodIn_r _ [50, 51, 52, 53, 25, 54, 45, 46, 44, 55, 56, 57, 58, 59, 60, 61, 62, 63, 64, 65, 66, 67, 68, 69, 70, 71, 72, 73, 74, 75, 76, 77, 78, 79, 80, 81, 82, 185, 186, 187, 193, 194, 195] (by decide +kernel) (by decide +kernel)
set_option maxRecDepth 20000 in
theorem gX5_merge_X1_countClashes : GoodIn wsX5_merge (wsV RX5 162 RX1 yX1_countClashes wsX1_countClashes) := goodIn_app (goodIn_of _ (by decide +kernel)) ggX5_merge_X1_countClashes
set_option maxRecDepth 20000 in
theorem ggX5_merge_X1_countSlides : GoodIn wsX5_merge wsX1_countSlides := goodIn_r _ [86, 87, 88, 89, 25, 90, 45, 46, 44, 55, 56, 57, 58, 59, 60, 61, 62, 63, 64, 65, 51, 52, 53, 54, 66, 67, 68, 69, 70, 71, 72, 73, 74, 185, 186, 187, 193, 194, 195] (by decide +kernel) (by decide +kernel)
set_option maxRecDepth 20000 in
theorem gX5_merge_X1_countSlides : GoodIn wsX5_merge (wsV RX5 176 RX1 yX1_countSlides wsX1_countSlides) := goodIn_app (goodIn_of _ (by decide +kernel)) ggX5_merge_X1_countSlides
set_option maxRecDepth 20000 in
theorem ggX5_merge_X1_fill : GoodIn wsX5_merge wsX1_fill := goodIn_r _ [94, 95, 45, 96, 46, 87, 88, 89, 25, 90, 44, 55, 56, 57, 58, 59, 60, 61, 62, 63, 64, 65, 51, 52, 53, 54, 66, 67, 68, 69, 70, 71, 72, 73, 74, 97, 98, 99, 100, 101, 102, 103, 104, 105, 106, 107, 108, 109, 110, 111, 112, 113, 114, 115, 116, 79, 80, 81, 82, 75, 76, 77, 78, 117, 193, 194, 195, 185, 186, 187] (by decide +kernel) (by decide +kernel)
set_option maxRecDepth 20000 in
theorem gX5_merge_X1_fill : GoodIn wsX5_merge (wsV RX5 181 RX1 yX1_fill wsX1_fill) := goodIn_app (goodIn_of _ (by decide +kernel)) ggX5_merge_X1_fill
set_option maxRecDepth 20000 in
theorem ggX5_merge_X5_countBlocks : GoodIn wsX5_merge wsX5_countBlocks := goodIn_r _ [121, 122, 123, 124, 125, 11, 126, 127, 128, 129, 130, 131, 132, 133, 134, 135, 136, 137, 138, 71, 72, 58, 73, 74, 139, 140, 141, 142, 143, 144, 145, 146, 147, 148, 149, 150, 151, 152, 153, 193, 194, 195, 173, 174, 175, 176, 177, 178, 179, 180, 181, 182, 183, 184, 196, 197, 198, 199, 200, 201, 202] (by decide +kernel) (by decide +kernel)
set_option maxRecDepth 20000 in
theorem gX5_merge_X5_countBlocks : GoodIn wsX5_merge (wsV RX5 185 RX5 yX5_countBlocks wsX5_countBlocks) := goodIn_app (goodIn_of _ (by decide +kernel)) ggX5_merge_X5_countBlocks
set_option maxRecDepth 20000 in
theorem ggX5_merge_X5_checkRoomForVersion : GoodIn wsX5_merge wsX5_checkRoomForVersion := goodIn_ca (goodIn_r _ [157, 3, 4, 33, 173, 174, 175, 176, 177, 178, 179, 180, 181, 182, 183, 184] (by decide +kernel) (by decide +kernel)) (goodIn_sub (fun _ h => List.mem_cons_of_mem _ (List.mem_append_left _ (List.mem_append_right _ h))) (by decide +kernel))
set_option maxRecDepth 20000 in
theorem gX5_merge_X5_checkRoomForVersion : GoodIn wsX5_merge (wsV RX5 88 RX5 yX5_checkRoomForVersion wsX5_checkRoomForVersion) := goodIn_app (goodIn_of _ (by decide +kernel)) ggX5_merge_X5_checkRoomForVersion
set_option maxRecDepth 20000 in
theorem ggX5_merge_X5_makeVersion : GoodIn wsX5_merge wsX5_makeVersion := goodIn_r _ [161, 33, 7, 26, 162, 163, 164, 32, 27, 165, 166, 167, 58, 168, 65, 169, 170, 171, 172, 74, 64, 173, 174, 175, 176, 177, 178, 179, 180, 181, 182, 183, 184, 188, 189, 190, 191, 192, 193, 194, 195] (by decide +kernel) (by decide +kernel)
set_option maxRecDepth 20000 in
theorem gX5_merge_X5_makeVersion : GoodIn wsX5_merge (wsV RX5 91 RX5 yX5_makeVersion wsX5_makeVersion) := goodIn_app (goodIn_of _ (by decide +kernel)) ggX5_merge_X5_makeVersion
set_option maxRecDepth 20000 in
theorem ggX5_merge_X0_copyFrom : GoodIn wsX5_merge wsX0_copyFrom := goodIn_r _ [168, 65, 169, 170, 171, 172, 74, 64, 193, 194, 195] (by decide +kernel) (by decide +kernel)
set_option maxRecDepth 20000 in
theorem gX5_merge_X0_copyFrom : GoodIn wsX5_merge (wsV RX5 191 RX0 yX0_copyFrom wsX0_copyFrom) := goodIn_app (goodIn_of _ (by decide +kernel)) ggX5_merge_X0_copyFrom
theorem dX5_merge_0 : decode cX5_merge 0 = .ok (.aload_n 0, 1) := by decide +kernel
theorem dX5_merge_1 : decode cX5_merge 1 = .ok (.iload_n 1, 1) := by decide +kernel
theorem dX5_merge_2 : decode cX5_merge 2 = .ok (.invokevirtual 66, 3) := by decide +kernel
theorem dX5_merge_5 : decode cX5_merge 5 = .ok (.aload_n 0, 1) := by decide +kernel
theorem dX5_merge_6 : decode cX5_merge 6 = .ok (.iload_n 2, 1) := by decide +kernel
theorem dX5_merge_7 : decode cX5_merge 7 = .ok (.invokevirtual 66, 3) := by decide +kernel
theorem dX5_merge_10 : decode cX5_merge 10 = .ok (.iload_n 1, 1) := by decide +kernel
theorem dX5_merge_11 : decode cX5_merge 11 = .ok (.iload_n 2, 1) := by decide +kernel
theorem dX5_merge_12 : decode cX5_merge 12 = .ok (.invokestatic 152, 3) := by decide +kernel
theorem dX5_merge_15 : decode cX5_merge 15 = .ok (.iload_n 3, 1) := by decide +kernel
theorem dX5_merge_16 : decode cX5_merge 16 = .ok (.ifCond .eq 23, 3) := by decide +kernel
theorem dX5_merge_19 : decode cX5_merge 19 = .ok (.iload_n 3, 1) := by decide +kernel
theorem dX5_merge_20 : decode cX5_merge 20 = .ok (.iconst 1, 1) := by decide +kernel
theorem dX5_merge_21 : decode cX5_merge 21 = .ok (.if_icmp .eq 18, 3) := by decide +kernel
theorem dX5_merge_24 : decode cX5_merge 24 = .ok (.iload_n 3, 1) := by decide +kernel
theorem dX5_merge_25 : decode cX5_merge 25 = .ok (.iconst (-1), 1) := by decide +kernel
theorem dX5_merge_26 : decode cX5_merge 26 = .ok (.if_icmp .eq 13, 3) := by decide +kernel
theorem dX5_merge_29 : decode cX5_merge 29 = .ok (.new 106, 3) := by decide +kernel
theorem dX5_merge_32 : decode cX5_merge 32 = .ok (.dup, 1) := by decide +kernel
theorem dX5_merge_33 : decode cX5_merge 33 = .ok (.ldc 168, 2) := by decide +kernel
theorem dX5_merge_35 : decode cX5_merge 35 = .ok (.invokespecial 110, 3) := by decide +kernel
theorem dX5_merge_38 : decode cX5_merge 38 = .ok (.athrow, 1) := by decide +kernel
theorem dX5_merge_39 : decode cX5_merge 39 = .ok (.aload_n 0, 1) := by decide +kernel
theorem dX5_merge_40 : decode cX5_merge 40 = .ok (.iload_n 1, 1) := by decide +kernel
theorem dX5_merge_41 : decode cX5_merge 41 = .ok (.iload_n 2, 1) := by decide +kernel
theorem dX5_merge_42 : decode cX5_merge 42 = .ok (.invokevirtual 158, 3) := by decide +kernel
theorem dX5_merge_45 : decode cX5_merge 45 = .ok (.astore 4, 2) := by decide +kernel
theorem dX5_merge_47 : decode cX5_merge 47 = .ok (.iload_n 3, 1) := by decide +kernel
theorem dX5_merge_48 : decode cX5_merge 48 = .ok (.iconst (-1), 1) := by decide +kernel
theorem dX5_merge_49 : decode cX5_merge 49 = .ok (.if_icmp .ne 25, 3) := by decide +kernel
theorem dX5_merge_52 : decode cX5_merge 52 = .ok (.aload 4, 2) := by decide +kernel
theorem dX5_merge_54 : decode cX5_merge 54 = .ok (.aload_n 0, 1) := by decide +kernel
theorem dX5_merge_55 : decode cX5_merge 55 = .ok (.getfield 83, 3) := by decide +kernel
theorem dX5_merge_58 : decode cX5_merge 58 = .ok (.invokevirtual 162, 3) := by decide +kernel
theorem dX5_merge_61 : decode cX5_merge 61 = .ok (.ifCond .le 13, 3) := by decide +kernel
theorem dX5_merge_64 : decode cX5_merge 64 = .ok (.new 59, 3) := by decide +kernel
theorem dX5_merge_67 : decode cX5_merge 67 = .ok (.dup, 1) := by decide +kernel
theorem dX5_merge_68 : decode cX5_merge 68 = .ok (.ldc 174, 2) := by decide +kernel
theorem dX5_merge_70 : decode cX5_merge 70 = .ok (.invokespecial 63, 3) := by decide +kernel
theorem dX5_merge_73 : decode cX5_merge 73 = .ok (.athrow, 1) := by decide +kernel
theorem dX5_merge_74 : decode cX5_merge 74 = .ok (.aload 4, 2) := by decide +kernel
theorem dX5_merge_76 : decode cX5_merge 76 = .ok (.aload_n 0, 1) := by decide +kernel
theorem dX5_merge_77 : decode cX5_merge 77 = .ok (.getfield 83, 3) := by decide +kernel
theorem dX5_merge_80 : decode cX5_merge 80 = .ok (.iload_n 3, 1) := by decide +kernel
theorem dX5_merge_81 : decode cX5_merge 81 = .ok (.invokevirtual 176, 3) := by decide +kernel
theorem dX5_merge_84 : decode cX5_merge 84 = .ok (.bipush 8, 2) := by decide +kernel
theorem dX5_merge_86 : decode cX5_merge 86 = .ok (.if_icmp .le 13, 3) := by decide +kernel
theorem dX5_merge_89 : decode cX5_merge 89 = .ok (.new 59, 3) := by decide +kernel
theorem dX5_merge_92 : decode cX5_merge 92 = .ok (.dup, 1) := by decide +kernel
theorem dX5_merge_93 : decode cX5_merge 93 = .ok (.ldc 179, 2) := by decide +kernel
theorem dX5_merge_95 : decode cX5_merge 95 = .ok (.invokespecial 63, 3) := by decide +kernel
theorem dX5_merge_98 : decode cX5_merge 98 = .ok (.athrow, 1) := by decide +kernel
theorem dX5_merge_99 : decode cX5_merge 99 = .ok (.aload 4, 2) := by decide +kernel
theorem dX5_merge_101 : decode cX5_merge 101 = .ok (.aload_n 0, 1) := by decide +kernel
theorem dX5_merge_102 : decode cX5_merge 102 = .ok (.getfield 37, 3) := by decide +kernel
theorem dX5_merge_105 : decode cX5_merge 105 = .ok (.iload_n 3, 1) := by decide +kernel
theorem dX5_merge_106 : decode cX5_merge 106 = .ok (.invokevirtual 181, 3) := by decide +kernel
theorem dX5_merge_109 : decode cX5_merge 109 = .ok (.aload_n 0, 1) := by decide +kernel
theorem dX5_merge_110 : decode cX5_merge 110 = .ok (.aload_n 0, 1) := by decide +kernel
theorem dX5_merge_111 : decode cX5_merge 111 = .ok (.getfield 37, 3) := by decide +kernel
theorem dX5_merge_114 : decode cX5_merge 114 = .ok (.invokevirtual 185, 3) := by decide +kernel
theorem dX5_merge_117 : decode cX5_merge 117 = .ok (.ifCond .le 13, 3) := by decide +kernel
theorem dX5_merge_120 : decode cX5_merge 120 = .ok (.new 59, 3) := by decide +kernel
theorem dX5_merge_123 : decode cX5_merge 123 = .ok (.dup, 1) := by decide +kernel
theorem dX5_merge_124 : decode cX5_merge 124 = .ok (.ldc 189, 2) := by decide +kernel
theorem dX5_merge_126 : decode cX5_merge 126 = .ok (.invokespecial 63, 3) := by decide +kernel
theorem dX5_merge_129 : decode cX5_merge 129 = .ok (.athrow, 1) := by decide +kernel
theorem dX5_merge_130 : decode cX5_merge 130 = .ok (.aload_n 0, 1) := by decide +kernel
theorem dX5_merge_131 : decode cX5_merge 131 = .ok (.invokevirtual 88, 3) := by decide +kernel
theorem dX5_merge_134 : decode cX5_merge 134 = .ok (.aload_n 0, 1) := by decide +kernel
theorem dX5_merge_135 : decode cX5_merge 135 = .ok (.iload_n 1, 1) := by decide +kernel
theorem dX5_merge_136 : decode cX5_merge 136 = .ok (.aload_n 0, 1) := by decide +kernel
theorem dX5_merge_137 : decode cX5_merge 137 = .ok (.getfield 15, 3) := by decide +kernel
theorem dX5_merge_140 : decode cX5_merge 140 = .ok (.iload_n 2, 1) := by decide +kernel
theorem dX5_merge_141 : decode cX5_merge 141 = .ok (.iaload, 1) := by decide +kernel
theorem dX5_merge_142 : decode cX5_merge 142 = .ok (.invokevirtual 91, 3) := by decide +kernel
theorem dX5_merge_145 : decode cX5_merge 145 = .ok (.aload_n 0, 1) := by decide +kernel
theorem dX5_merge_146 : decode cX5_merge 146 = .ok (.getfield 37, 3) := by decide +kernel
theorem dX5_merge_149 : decode cX5_merge 149 = .ok (.invokevirtual 191, 3) := by decide +kernel
theorem dX5_merge_152 : decode cX5_merge 152 = .ok (.aload_n 0, 1) := by decide +kernel
theorem dX5_merge_153 : decode cX5_merge 153 = .ok (.getfield 15, 3) := by decide +kernel
theorem dX5_merge_156 : decode cX5_merge 156 = .ok (.iload_n 1, 1) := by decide +kernel
theorem dX5_merge_157 : decode cX5_merge 157 = .ok (.iaload, 1) := by decide +kernel
theorem dX5_merge_158 : decode cX5_merge 158 = .ok (.ireturn, 1) := by decide +kernel
set_option maxRecDepth 20000 in
theorem ggX5_rule_X5_checkObject : GoodIn wsX5_rule wsX5_checkObject := goodIn_ca (goodIn_r _ [16, 1, 2] (by decide +kernel) (by decide +kernel)) (goodIn_sub (fun _ h => List.mem_cons_of_mem _ (List.mem_append_left _ (List.mem_append_left _ (List.mem_append_right _ h)))) (by decide +kernel))
set_option maxRecDepth 20000 in
theorem gX5_rule_X5_checkObject : GoodIn wsX5_rule (va_wsS RX5 103 yX5_checkObject wsX5_checkObject) := goodIn_app (goodIn_of _ (by decide +kernel)) ggX5_rule_X5_checkObject
theorem dX5_rule_0 : decode cX5_rule 0 = .ok (.iload_n 1, 1) := by decide +kernel
theorem dX5_rule_1 : decode cX5_rule 1 = .ok (.ifCond .lt 8, 3) := by decide +kernel
theorem dX5_rule_4 : decode cX5_rule 4 = .ok (.iload_n 1, 1) := by decide +kernel
theorem dX5_rule_5 : decode cX5_rule 5 = .ok (.iconst 3, 1) := by decide +kernel
theorem dX5_rule_6 : decode cX5_rule 6 = .ok (.if_icmp .lt 13, 3) := by decide +kernel
theorem dX5_rule_9 : decode cX5_rule 9 = .ok (.new 76, 3) := by decide +kernel
theorem dX5_rule_12 : decode cX5_rule 12 = .ok (.dup, 1) := by decide +kernel
theorem dX5_rule_13 : decode cX5_rule 13 = .ok (.ldc 195, 2) := by decide +kernel
theorem dX5_rule_15 : decode cX5_rule 15 = .ok (.invokespecial 80, 3) := by decide +kernel
theorem dX5_rule_18 : decode cX5_rule 18 = .ok (.athrow, 1) := by decide +kernel
theorem dX5_rule_19 : decode cX5_rule 19 = .ok (.iload_n 2, 1) := by decide +kernel
theorem dX5_rule_20 : decode cX5_rule 20 = .ok (.invokestatic 103, 3) := by decide +kernel
theorem dX5_rule_23 : decode cX5_rule 23 = .ok (.iload_n 3, 1) := by decide +kernel
theorem dX5_rule_24 : decode cX5_rule 24 = .ok (.iconst 1, 1) := by decide +kernel
theorem dX5_rule_25 : decode cX5_rule 25 = .ok (.if_icmp .lt 24, 3) := by decide +kernel
theorem dX5_rule_28 : decode cX5_rule 28 = .ok (.iload_n 3, 1) := by decide +kernel
theorem dX5_rule_29 : decode cX5_rule 29 = .ok (.sipush 999, 3) := by decide +kernel
theorem dX5_rule_32 : decode cX5_rule 32 = .ok (.if_icmp .gt 17, 3) := by decide +kernel
theorem dX5_rule_35 : decode cX5_rule 35 = .ok (.iload 4, 2) := by decide +kernel
theorem dX5_rule_37 : decode cX5_rule 37 = .ok (.iload_n 3, 1) := by decide +kernel
theorem dX5_rule_38 : decode cX5_rule 38 = .ok (.if_icmp .lt 11, 3) := by decide +kernel
theorem dX5_rule_41 : decode cX5_rule 41 = .ok (.iload 4, 2) := by decide +kernel
theorem dX5_rule_43 : decode cX5_rule 43 = .ok (.sipush 999, 3) := by decide +kernel
theorem dX5_rule_46 : decode cX5_rule 46 = .ok (.if_icmp .le 13, 3) := by decide +kernel
theorem dX5_rule_49 : decode cX5_rule 49 = .ok (.new 106, 3) := by decide +kernel
theorem dX5_rule_52 : decode cX5_rule 52 = .ok (.dup, 1) := by decide +kernel
theorem dX5_rule_53 : decode cX5_rule 53 = .ok (.ldc 197, 2) := by decide +kernel
theorem dX5_rule_55 : decode cX5_rule 55 = .ok (.invokespecial 110, 3) := by decide +kernel
theorem dX5_rule_58 : decode cX5_rule 58 = .ok (.athrow, 1) := by decide +kernel
theorem dX5_rule_59 : decode cX5_rule 59 = .ok (.aload_n 0, 1) := by decide +kernel
theorem dX5_rule_60 : decode cX5_rule 60 = .ok (.getfield 199, 3) := by decide +kernel
theorem dX5_rule_63 : decode cX5_rule 63 = .ok (.bipush 8, 2) := by decide +kernel
theorem dX5_rule_65 : decode cX5_rule 65 = .ok (.if_icmp .lt 13, 3) := by decide +kernel
theorem dX5_rule_68 : decode cX5_rule 68 = .ok (.new 59, 3) := by decide +kernel
theorem dX5_rule_71 : decode cX5_rule 71 = .ok (.dup, 1) := by decide +kernel
theorem dX5_rule_72 : decode cX5_rule 72 = .ok (.ldc 202, 2) := by decide +kernel
theorem dX5_rule_74 : decode cX5_rule 74 = .ok (.invokespecial 63, 3) := by decide +kernel
theorem dX5_rule_77 : decode cX5_rule 77 = .ok (.athrow, 1) := by decide +kernel
theorem dX5_rule_78 : decode cX5_rule 78 = .ok (.aload_n 0, 1) := by decide +kernel
theorem dX5_rule_79 : decode cX5_rule 79 = .ok (.getfield 199, 3) := by decide +kernel
theorem dX5_rule_82 : decode cX5_rule 82 = .ok (.istore 5, 2) := by decide +kernel
theorem dX5_rule_84 : decode cX5_rule 84 = .ok (.aload_n 0, 1) := by decide +kernel
theorem dX5_rule_85 : decode cX5_rule 85 = .ok (.getfield 24, 3) := by decide +kernel
theorem dX5_rule_88 : decode cX5_rule 88 = .ok (.iload 5, 2) := by decide +kernel
theorem dX5_rule_90 : decode cX5_rule 90 = .ok (.aaload, 1) := by decide +kernel
theorem dX5_rule_91 : decode cX5_rule 91 = .ok (.astore 6, 2) := by decide +kernel
theorem dX5_rule_93 : decode cX5_rule 93 = .ok (.aload 6, 2) := by decide +kernel
theorem dX5_rule_95 : decode cX5_rule 95 = .ok (.iload_n 1, 1) := by decide +kernel
theorem dX5_rule_96 : decode cX5_rule 96 = .ok (.putfield 204, 3) := by decide +kernel
theorem dX5_rule_99 : decode cX5_rule 99 = .ok (.aload 6, 2) := by decide +kernel
theorem dX5_rule_101 : decode cX5_rule 101 = .ok (.iload_n 2, 1) := by decide +kernel
theorem dX5_rule_102 : decode cX5_rule 102 = .ok (.putfield 207, 3) := by decide +kernel
theorem dX5_rule_105 : decode cX5_rule 105 = .ok (.aload 6, 2) := by decide +kernel
theorem dX5_rule_107 : decode cX5_rule 107 = .ok (.iload_n 3, 1) := by decide +kernel
theorem dX5_rule_108 : decode cX5_rule 108 = .ok (.putfield 210, 3) := by decide +kernel
theorem dX5_rule_111 : decode cX5_rule 111 = .ok (.aload 6, 2) := by decide +kernel
theorem dX5_rule_113 : decode cX5_rule 113 = .ok (.iload 4, 2) := by decide +kernel
theorem dX5_rule_115 : decode cX5_rule 115 = .ok (.putfield 213, 3) := by decide +kernel
theorem dX5_rule_118 : decode cX5_rule 118 = .ok (.aload_n 0, 1) := by decide +kernel
theorem dX5_rule_119 : decode cX5_rule 119 = .ok (.iload 5, 2) := by decide +kernel
theorem dX5_rule_121 : decode cX5_rule 121 = .ok (.iconst 1, 1) := by decide +kernel
theorem dX5_rule_122 : decode cX5_rule 122 = .ok (.iadd, 1) := by decide +kernel
theorem dX5_rule_123 : decode cX5_rule 123 = .ok (.putfield 199, 3) := by decide +kernel
theorem dX5_rule_126 : decode cX5_rule 126 = .ok (.iload 5, 2) := by decide +kernel
theorem dX5_rule_128 : decode cX5_rule 128 = .ok (.ireturn, 1) := by decide +kernel
set_option maxRecDepth 20000 in
theorem ggX5_tighten_X5_checkRule : GoodIn wsX5_tighten wsX5_checkRule := goodIn_ca (goodIn_r _ [11, 12, 13, 14, 68, 69, 70, 71, 72, 73, 74, 75, 76, 77, 78, 79] (by decide +kernel) (by decide +kernel)) (goodIn_sub (fun _ h => List.mem_cons_of_mem _ (List.mem_append_right _ h)) (by decide +kernel))
set_option maxRecDepth 20000 in
theorem gX5_tighten_X5_checkRule : GoodIn wsX5_tighten (wsV RX5 216 RX5 yX5_checkRule wsX5_checkRule) := goodIn_app (goodIn_of _ (by decide +kernel)) ggX5_tighten_X5_checkRule
set_option maxRecDepth 20000 in
theorem ggX5_tighten_X5_blockedVersions : GoodIn wsX5_tighten wsX5_blockedVersions := goodIn_r _ [18, 19, 20, 21, 22, 23, 24, 10, 25, 26, 27, 28, 29, 30, 14, 3, 31, 32, 33, 34, 35, 36, 37, 38, 39, 40, 41, 42, 43, 44, 45, 46, 47, 48, 49, 50, 51, 52, 53, 54, 55, 56, 57, 58, 59, 60, 68, 69, 70, 71, 72, 73, 74, 75, 76, 77, 78, 79, 84, 85, 86, 87, 88, 89, 90, 91, 80, 81, 82, 83, 92, 93, 94] (by decide +kernel) (by decide +kernel)
set_option maxRecDepth 20000 in
theorem gX5_tighten_X5_blockedVersions : GoodIn wsX5_tighten (wsV RX5 219 RX5 yX5_blockedVersions wsX5_blockedVersions) := goodIn_app (goodIn_of _ (by decide +kernel)) ggX5_tighten_X5_blockedVersions
set_option maxRecDepth 20000 in
theorem ggX5_tighten_J13_bitCount_95d88 : GoodIn wsX5_tighten wsJ13_bitCount_95d88 := goodIn_r _ [64, 65, 66, 67] (by decide +kernel) (by decide +kernel)
set_option maxRecDepth 20000 in
theorem gX5_tighten_J13_bitCount_95d88 : GoodIn wsX5_tighten (va_wsS RX5 133 yJ13_bitCount_95d88 wsJ13_bitCount_95d88) := goodIn_app (goodIn_of _ (by decide +kernel)) ggX5_tighten_J13_bitCount_95d88
theorem dX5_tighten_0 : decode cX5_tighten 0 = .ok (.aload_n 0, 1) := by decide +kernel
theorem dX5_tighten_1 : decode cX5_tighten 1 = .ok (.iload_n 1, 1) := by decide +kernel
theorem dX5_tighten_2 : decode cX5_tighten 2 = .ok (.invokevirtual 216, 3) := by decide +kernel
theorem dX5_tighten_5 : decode cX5_tighten 5 = .ok (.aload_n 0, 1) := by decide +kernel
theorem dX5_tighten_6 : decode cX5_tighten 6 = .ok (.getfield 24, 3) := by decide +kernel
theorem dX5_tighten_9 : decode cX5_tighten 9 = .ok (.iload_n 1, 1) := by decide +kernel
theorem dX5_tighten_10 : decode cX5_tighten 10 = .ok (.aaload, 1) := by decide +kernel
theorem dX5_tighten_11 : decode cX5_tighten 11 = .ok (.astore 4, 2) := by decide +kernel
theorem dX5_tighten_13 : decode cX5_tighten 13 = .ok (.iload_n 2, 1) := by decide +kernel
theorem dX5_tighten_14 : decode cX5_tighten 14 = .ok (.aload 4, 2) := by decide +kernel
theorem dX5_tighten_16 : decode cX5_tighten 16 = .ok (.getfield 210, 3) := by decide +kernel
theorem dX5_tighten_19 : decode cX5_tighten 19 = .ok (.if_icmp .lt 17, 3) := by decide +kernel
theorem dX5_tighten_22 : decode cX5_tighten 22 = .ok (.iload_n 3, 1) := by decide +kernel
theorem dX5_tighten_23 : decode cX5_tighten 23 = .ok (.aload 4, 2) := by decide +kernel
theorem dX5_tighten_25 : decode cX5_tighten 25 = .ok (.getfield 213, 3) := by decide +kernel
theorem dX5_tighten_28 : decode cX5_tighten 28 = .ok (.if_icmp .gt 8, 3) := by decide +kernel
theorem dX5_tighten_31 : decode cX5_tighten 31 = .ok (.iload_n 3, 1) := by decide +kernel
theorem dX5_tighten_32 : decode cX5_tighten 32 = .ok (.iload_n 2, 1) := by decide +kernel
theorem dX5_tighten_33 : decode cX5_tighten 33 = .ok (.if_icmp .ge 13, 3) := by decide +kernel
theorem dX5_tighten_36 : decode cX5_tighten 36 = .ok (.new 106, 3) := by decide +kernel
theorem dX5_tighten_39 : decode cX5_tighten 39 = .ok (.dup, 1) := by decide +kernel
theorem dX5_tighten_40 : decode cX5_tighten 40 = .ok (.ldc 197, 2) := by decide +kernel
theorem dX5_tighten_42 : decode cX5_tighten 42 = .ok (.invokespecial 110, 3) := by decide +kernel
theorem dX5_tighten_45 : decode cX5_tighten 45 = .ok (.athrow, 1) := by decide +kernel
theorem dX5_tighten_46 : decode cX5_tighten 46 = .ok (.aload_n 0, 1) := by decide +kernel
theorem dX5_tighten_47 : decode cX5_tighten 47 = .ok (.invokevirtual 219, 3) := by decide +kernel
theorem dX5_tighten_50 : decode cX5_tighten 50 = .ok (.lstore 5, 2) := by decide +kernel
theorem dX5_tighten_52 : decode cX5_tighten 52 = .ok (.aload 4, 2) := by decide +kernel
theorem dX5_tighten_54 : decode cX5_tighten 54 = .ok (.iload_n 2, 1) := by decide +kernel
theorem dX5_tighten_55 : decode cX5_tighten 55 = .ok (.putfield 210, 3) := by decide +kernel
theorem dX5_tighten_58 : decode cX5_tighten 58 = .ok (.aload 4, 2) := by decide +kernel
theorem dX5_tighten_60 : decode cX5_tighten 60 = .ok (.iload_n 3, 1) := by decide +kernel
theorem dX5_tighten_61 : decode cX5_tighten 61 = .ok (.putfield 213, 3) := by decide +kernel
theorem dX5_tighten_64 : decode cX5_tighten 64 = .ok (.aload_n 0, 1) := by decide +kernel
theorem dX5_tighten_65 : decode cX5_tighten 65 = .ok (.invokevirtual 219, 3) := by decide +kernel
theorem dX5_tighten_68 : decode cX5_tighten 68 = .ok (.lload 5, 2) := by decide +kernel
theorem dX5_tighten_70 : decode cX5_tighten 70 = .ok (.ldc2_w 223, 3) := by decide +kernel
theorem dX5_tighten_73 : decode cX5_tighten 73 = .ok (.lxor, 1) := by decide +kernel
theorem dX5_tighten_74 : decode cX5_tighten 74 = .ok (.land, 1) := by decide +kernel
theorem dX5_tighten_75 : decode cX5_tighten 75 = .ok (.invokestatic 133, 3) := by decide +kernel
theorem dX5_tighten_78 : decode cX5_tighten 78 = .ok (.ireturn, 1) := by decide +kernel
set_option maxRecDepth 20000 in
theorem ggX5_waive_X5_checkRule : GoodIn wsX5_waive wsX5_checkRule := goodIn_ca (goodIn_r _ [17, 18, 19, 20, 26, 27, 28, 29, 30, 31, 32, 33, 34, 35, 36, 37] (by decide +kernel) (by decide +kernel)) (goodIn_sub (fun _ h => List.mem_cons_of_mem _ (List.mem_append_right _ h)) (by decide +kernel))
set_option maxRecDepth 20000 in
theorem gX5_waive_X5_checkRule : GoodIn wsX5_waive (wsV RX5 216 RX5 yX5_checkRule wsX5_checkRule) := goodIn_app (goodIn_of _ (by decide +kernel)) ggX5_waive_X5_checkRule
set_option maxRecDepth 20000 in
theorem ggX5_waive_X5_checkSlide : GoodIn wsX5_waive wsX5_checkSlide := goodIn_ca (goodIn_r _ [24, 18, 19, 25, 26, 27, 28, 29, 30, 31, 32, 33, 34, 35, 36, 37] (by decide +kernel) (by decide +kernel)) (goodIn_sub (fun _ h => List.mem_cons_of_mem _ (List.mem_append_right _ h)) (by decide +kernel))
set_option maxRecDepth 20000 in
theorem gX5_waive_X5_checkSlide : GoodIn wsX5_waive (wsV RX5 141 RX5 yX5_checkSlide wsX5_checkSlide) := goodIn_app (goodIn_of _ (by decide +kernel)) ggX5_waive_X5_checkSlide
theorem dX5_waive_0 : decode cX5_waive 0 = .ok (.aload_n 0, 1) := by decide +kernel
theorem dX5_waive_1 : decode cX5_waive 1 = .ok (.iload_n 1, 1) := by decide +kernel
theorem dX5_waive_2 : decode cX5_waive 2 = .ok (.invokevirtual 216, 3) := by decide +kernel
theorem dX5_waive_5 : decode cX5_waive 5 = .ok (.aload_n 0, 1) := by decide +kernel
theorem dX5_waive_6 : decode cX5_waive 6 = .ok (.iload_n 2, 1) := by decide +kernel
theorem dX5_waive_7 : decode cX5_waive 7 = .ok (.invokevirtual 141, 3) := by decide +kernel
theorem dX5_waive_10 : decode cX5_waive 10 = .ok (.iload_n 3, 1) := by decide +kernel
theorem dX5_waive_11 : decode cX5_waive 11 = .ok (.aload_n 0, 1) := by decide +kernel
theorem dX5_waive_12 : decode cX5_waive 12 = .ok (.getfield 225, 3) := by decide +kernel
theorem dX5_waive_15 : decode cX5_waive 15 = .ok (.if_icmp .lt 10, 3) := by decide +kernel
theorem dX5_waive_18 : decode cX5_waive 18 = .ok (.iload_n 3, 1) := by decide +kernel
theorem dX5_waive_19 : decode cX5_waive 19 = .ok (.sipush 999, 3) := by decide +kernel
theorem dX5_waive_22 : decode cX5_waive 22 = .ok (.if_icmp .le 13, 3) := by decide +kernel
theorem dX5_waive_25 : decode cX5_waive 25 = .ok (.new 106, 3) := by decide +kernel
theorem dX5_waive_28 : decode cX5_waive 28 = .ok (.dup, 1) := by decide +kernel
theorem dX5_waive_29 : decode cX5_waive 29 = .ok (.ldc 228, 2) := by decide +kernel
theorem dX5_waive_31 : decode cX5_waive 31 = .ok (.invokespecial 110, 3) := by decide +kernel
theorem dX5_waive_34 : decode cX5_waive 34 = .ok (.athrow, 1) := by decide +kernel
theorem dX5_waive_35 : decode cX5_waive 35 = .ok (.aload_n 0, 1) := by decide +kernel
theorem dX5_waive_36 : decode cX5_waive 36 = .ok (.getfield 24, 3) := by decide +kernel
theorem dX5_waive_39 : decode cX5_waive 39 = .ok (.iload_n 1, 1) := by decide +kernel
theorem dX5_waive_40 : decode cX5_waive 40 = .ok (.aaload, 1) := by decide +kernel
theorem dX5_waive_41 : decode cX5_waive 41 = .ok (.getfield 204, 3) := by decide +kernel
theorem dX5_waive_44 : decode cX5_waive 44 = .ok (.iconst 1, 1) := by decide +kernel
theorem dX5_waive_45 : decode cX5_waive 45 = .ok (.if_icmp .eq 13, 3) := by decide +kernel
theorem dX5_waive_48 : decode cX5_waive 48 = .ok (.new 59, 3) := by decide +kernel
theorem dX5_waive_51 : decode cX5_waive 51 = .ok (.dup, 1) := by decide +kernel
theorem dX5_waive_52 : decode cX5_waive 52 = .ok (.ldc 230, 2) := by decide +kernel
theorem dX5_waive_54 : decode cX5_waive 54 = .ok (.invokespecial 63, 3) := by decide +kernel
theorem dX5_waive_57 : decode cX5_waive 57 = .ok (.athrow, 1) := by decide +kernel
theorem dX5_waive_58 : decode cX5_waive 58 = .ok (.aload_n 0, 1) := by decide +kernel
theorem dX5_waive_59 : decode cX5_waive 59 = .ok (.getfield 232, 3) := by decide +kernel
theorem dX5_waive_62 : decode cX5_waive 62 = .ok (.bipush 12, 2) := by decide +kernel
theorem dX5_waive_64 : decode cX5_waive 64 = .ok (.if_icmp .lt 13, 3) := by decide +kernel
theorem dX5_waive_67 : decode cX5_waive 67 = .ok (.new 59, 3) := by decide +kernel
theorem dX5_waive_70 : decode cX5_waive 70 = .ok (.dup, 1) := by decide +kernel
theorem dX5_waive_71 : decode cX5_waive 71 = .ok (.ldc 235, 2) := by decide +kernel
theorem dX5_waive_73 : decode cX5_waive 73 = .ok (.invokespecial 63, 3) := by decide +kernel
theorem dX5_waive_76 : decode cX5_waive 76 = .ok (.athrow, 1) := by decide +kernel
theorem dX5_waive_77 : decode cX5_waive 77 = .ok (.aload_n 0, 1) := by decide +kernel
theorem dX5_waive_78 : decode cX5_waive 78 = .ok (.getfield 232, 3) := by decide +kernel
theorem dX5_waive_81 : decode cX5_waive 81 = .ok (.istore 4, 2) := by decide +kernel
theorem dX5_waive_83 : decode cX5_waive 83 = .ok (.aload_n 0, 1) := by decide +kernel
theorem dX5_waive_84 : decode cX5_waive 84 = .ok (.getfield 30, 3) := by decide +kernel
theorem dX5_waive_87 : decode cX5_waive 87 = .ok (.iload 4, 2) := by decide +kernel
theorem dX5_waive_89 : decode cX5_waive 89 = .ok (.aaload, 1) := by decide +kernel
theorem dX5_waive_90 : decode cX5_waive 90 = .ok (.astore 5, 2) := by decide +kernel
theorem dX5_waive_92 : decode cX5_waive 92 = .ok (.aload 5, 2) := by decide +kernel
theorem dX5_waive_94 : decode cX5_waive 94 = .ok (.iload_n 1, 1) := by decide +kernel
theorem dX5_waive_95 : decode cX5_waive 95 = .ok (.putfield 237, 3) := by decide +kernel
theorem dX5_waive_98 : decode cX5_waive 98 = .ok (.aload 5, 2) := by decide +kernel
theorem dX5_waive_100 : decode cX5_waive 100 = .ok (.iload_n 2, 1) := by decide +kernel
theorem dX5_waive_101 : decode cX5_waive 101 = .ok (.putfield 240, 3) := by decide +kernel
theorem dX5_waive_104 : decode cX5_waive 104 = .ok (.aload 5, 2) := by decide +kernel
theorem dX5_waive_106 : decode cX5_waive 106 = .ok (.iload_n 3, 1) := by decide +kernel
theorem dX5_waive_107 : decode cX5_waive 107 = .ok (.putfield 243, 3) := by decide +kernel
theorem dX5_waive_110 : decode cX5_waive 110 = .ok (.aload_n 0, 1) := by decide +kernel
theorem dX5_waive_111 : decode cX5_waive 111 = .ok (.iload 4, 2) := by decide +kernel
theorem dX5_waive_113 : decode cX5_waive 113 = .ok (.iconst 1, 1) := by decide +kernel
theorem dX5_waive_114 : decode cX5_waive 114 = .ok (.iadd, 1) := by decide +kernel
theorem dX5_waive_115 : decode cX5_waive 115 = .ok (.putfield 232, 3) := by decide +kernel
theorem dX5_waive_118 : decode cX5_waive 118 = .ok (.iload 4, 2) := by decide +kernel
theorem dX5_waive_120 : decode cX5_waive 120 = .ok (.ireturn, 1) := by decide +kernel
set_option maxRecDepth 20000 in
theorem ggX5_blocks_X5_checkVersion : GoodIn wsX5_blocks wsX5_checkVersion := goodIn_ca (goodIn_r _ [7, 8, 9, 10, 52, 53, 54, 55, 56, 57, 58, 59, 60, 61, 62, 63] (by decide +kernel) (by decide +kernel)) (goodIn_sub (fun _ h => List.mem_cons_of_mem _ (List.mem_append_right _ h)) (by decide +kernel))
set_option maxRecDepth 20000 in
theorem gX5_blocks_X5_checkVersion : GoodIn wsX5_blocks (wsV RX5 55 RX5 yX5_checkVersion wsX5_checkVersion) := goodIn_app (goodIn_of _ (by decide +kernel)) ggX5_blocks_X5_checkVersion
set_option maxRecDepth 20000 in
theorem ggX5_blocks_X5_countBlocks : GoodIn wsX5_blocks wsX5_countBlocks := goodIn_r _ [14, 15, 16, 17, 18, 6, 19, 20, 21, 22, 23, 24, 25, 26, 27, 28, 29, 30, 31, 32, 33, 34, 35, 36, 37, 38, 39, 40, 41, 42, 43, 44, 45, 46, 47, 48, 49, 50, 51, 69, 70, 71, 52, 53, 54, 55, 56, 57, 58, 59, 60, 61, 62, 63, 72, 73, 74, 75, 76, 77, 78] (by decide +kernel) (by decide +kernel)
set_option maxRecDepth 20000 in
theorem gX5_blocks_X5_countBlocks : GoodIn wsX5_blocks (wsV RX5 185 RX5 yX5_countBlocks wsX5_countBlocks) := goodIn_app (goodIn_of _ (by decide +kernel)) ggX5_blocks_X5_countBlocks
theorem dX5_blocks_0 : decode cX5_blocks 0 = .ok (.aload_n 0, 1) := by decide +kernel
theorem dX5_blocks_1 : decode cX5_blocks 1 = .ok (.iload_n 1, 1) := by decide +kernel
theorem dX5_blocks_2 : decode cX5_blocks 2 = .ok (.invokevirtual 55, 3) := by decide +kernel
theorem dX5_blocks_5 : decode cX5_blocks 5 = .ok (.aload_n 0, 1) := by decide +kernel
theorem dX5_blocks_6 : decode cX5_blocks 6 = .ok (.aload_n 0, 1) := by decide +kernel
theorem dX5_blocks_7 : decode cX5_blocks 7 = .ok (.getfield 11, 3) := by decide +kernel
theorem dX5_blocks_10 : decode cX5_blocks 10 = .ok (.iload_n 1, 1) := by decide +kernel
theorem dX5_blocks_11 : decode cX5_blocks 11 = .ok (.aaload, 1) := by decide +kernel
theorem dX5_blocks_12 : decode cX5_blocks 12 = .ok (.getfield 130, 3) := by decide +kernel
theorem dX5_blocks_15 : decode cX5_blocks 15 = .ok (.invokevirtual 185, 3) := by decide +kernel
theorem dX5_blocks_18 : decode cX5_blocks 18 = .ok (.ireturn, 1) := by decide +kernel
set_option maxRecDepth 20000 in
theorem ggX5_warnings_X5_checkVersion : GoodIn wsX5_warnings wsX5_checkVersion := goodIn_ca (goodIn_r _ [11, 12, 13, 14, 29, 30, 31, 32, 33, 34, 35, 36, 37, 38, 39, 40] (by decide +kernel) (by decide +kernel)) (goodIn_sub (fun _ h => List.mem_cons_of_mem _ (List.mem_append_right _ h)) (by decide +kernel))
set_option maxRecDepth 20000 in
theorem gX5_warnings_X5_checkVersion : GoodIn wsX5_warnings (wsV RX5 55 RX5 yX5_checkVersion wsX5_checkVersion) := goodIn_app (goodIn_of _ (by decide +kernel)) ggX5_warnings_X5_checkVersion
set_option maxRecDepth 20000 in
theorem ggX5_warnings_X2_isBrokenAt : GoodIn wsX5_warnings wsX2_isBrokenAt := goodIn_r _ [19, 20, 21, 22, 23, 24, 25, 26, 27, 28, 49, 50, 51, 52, 46, 47, 48] (by decide +kernel) (by decide +kernel)
set_option maxRecDepth 20000 in
theorem gX5_warnings_X2_isBrokenAt : GoodIn wsX5_warnings (wsV RX5 246 RX2 yX2_isBrokenAt wsX2_isBrokenAt) := goodIn_app (goodIn_of _ (by decide +kernel)) ggX5_warnings_X2_isBrokenAt
theorem dX5_warnings_0 : decode cX5_warnings 0 = .ok (.aload_n 0, 1) := by decide +kernel
theorem dX5_warnings_1 : decode cX5_warnings 1 = .ok (.iload_n 1, 1) := by decide +kernel
theorem dX5_warnings_2 : decode cX5_warnings 2 = .ok (.invokevirtual 55, 3) := by decide +kernel
theorem dX5_warnings_5 : decode cX5_warnings 5 = .ok (.aload_n 0, 1) := by decide +kernel
theorem dX5_warnings_6 : decode cX5_warnings 6 = .ok (.getfield 11, 3) := by decide +kernel
theorem dX5_warnings_9 : decode cX5_warnings 9 = .ok (.iload_n 1, 1) := by decide +kernel
theorem dX5_warnings_10 : decode cX5_warnings 10 = .ok (.aaload, 1) := by decide +kernel
theorem dX5_warnings_11 : decode cX5_warnings 11 = .ok (.getfield 130, 3) := by decide +kernel
theorem dX5_warnings_14 : decode cX5_warnings 14 = .ok (.astore_n 2, 1) := by decide +kernel
theorem dX5_warnings_15 : decode cX5_warnings 15 = .ok (.iconst 0, 1) := by decide +kernel
theorem dX5_warnings_16 : decode cX5_warnings 16 = .ok (.istore_n 3, 1) := by decide +kernel
theorem dX5_warnings_17 : decode cX5_warnings 17 = .ok (.iconst 0, 1) := by decide +kernel
theorem dX5_warnings_18 : decode cX5_warnings 18 = .ok (.istore 4, 2) := by decide +kernel
theorem dX5_warnings_20 : decode cX5_warnings 20 = .ok (.iload 4, 2) := by decide +kernel
theorem dX5_warnings_22 : decode cX5_warnings 22 = .ok (.aload_n 2, 1) := by decide +kernel
theorem dX5_warnings_23 : decode cX5_warnings 23 = .ok (.getfield 73, 3) := by decide +kernel
theorem dX5_warnings_26 : decode cX5_warnings 26 = .ok (.if_icmp .ge 60, 3) := by decide +kernel
theorem dX5_warnings_29 : decode cX5_warnings 29 = .ok (.iconst 0, 1) := by decide +kernel
theorem dX5_warnings_30 : decode cX5_warnings 30 = .ok (.istore 5, 2) := by decide +kernel
theorem dX5_warnings_32 : decode cX5_warnings 32 = .ok (.iload 5, 2) := by decide +kernel
theorem dX5_warnings_34 : decode cX5_warnings 34 = .ok (.aload_n 0, 1) := by decide +kernel
theorem dX5_warnings_35 : decode cX5_warnings 35 = .ok (.getfield 199, 3) := by decide +kernel
theorem dX5_warnings_38 : decode cX5_warnings 38 = .ok (.if_icmp .ge 42, 3) := by decide +kernel
theorem dX5_warnings_41 : decode cX5_warnings 41 = .ok (.aload_n 0, 1) := by decide +kernel
theorem dX5_warnings_42 : decode cX5_warnings 42 = .ok (.getfield 24, 3) := by decide +kernel
theorem dX5_warnings_45 : decode cX5_warnings 45 = .ok (.iload 5, 2) := by decide +kernel
theorem dX5_warnings_47 : decode cX5_warnings 47 = .ok (.aaload, 1) := by decide +kernel
theorem dX5_warnings_48 : decode cX5_warnings 48 = .ok (.getfield 204, 3) := by decide +kernel
theorem dX5_warnings_51 : decode cX5_warnings 51 = .ok (.iconst 2, 1) := by decide +kernel
theorem dX5_warnings_52 : decode cX5_warnings 52 = .ok (.if_icmp .ne 22, 3) := by decide +kernel
theorem dX5_warnings_55 : decode cX5_warnings 55 = .ok (.aload_n 0, 1) := by decide +kernel
theorem dX5_warnings_56 : decode cX5_warnings 56 = .ok (.getfield 24, 3) := by decide +kernel
theorem dX5_warnings_59 : decode cX5_warnings 59 = .ok (.iload 5, 2) := by decide +kernel
theorem dX5_warnings_61 : decode cX5_warnings 61 = .ok (.aaload, 1) := by decide +kernel
theorem dX5_warnings_62 : decode cX5_warnings 62 = .ok (.aload_n 2, 1) := by decide +kernel
theorem dX5_warnings_63 : decode cX5_warnings 63 = .ok (.iload 4, 2) := by decide +kernel
theorem dX5_warnings_65 : decode cX5_warnings 65 = .ok (.invokevirtual 246, 3) := by decide +kernel
theorem dX5_warnings_68 : decode cX5_warnings 68 = .ok (.ifCond .eq 6, 3) := by decide +kernel
theorem dX5_warnings_71 : decode cX5_warnings 71 = .ok (.iinc 3 1, 3) := by decide +kernel
theorem dX5_warnings_74 : decode cX5_warnings 74 = .ok (.iinc 5 1, 3) := by decide +kernel
theorem dX5_warnings_77 : decode cX5_warnings 77 = .ok (.goto (-45), 3) := by decide +kernel
theorem dX5_warnings_80 : decode cX5_warnings 80 = .ok (.iinc 4 1, 3) := by decide +kernel
theorem dX5_warnings_83 : decode cX5_warnings 83 = .ok (.goto (-63), 3) := by decide +kernel
theorem dX5_warnings_86 : decode cX5_warnings 86 = .ok (.iload_n 3, 1) := by decide +kernel
theorem dX5_warnings_87 : decode cX5_warnings 87 = .ok (.ireturn, 1) := by decide +kernel
set_option maxRecDepth 20000 in
theorem ggX5_firstBlock_X5_checkVersion : GoodIn wsX5_firstBlock wsX5_checkVersion := goodIn_ca (goodIn_r _ [9, 10, 11, 12, 48, 49, 50, 51, 52, 53, 54, 55, 56, 57, 58, 59] (by decide +kernel) (by decide +kernel)) (goodIn_sub (fun _ h => List.mem_cons_of_mem _ (List.mem_append_right _ h)) (by decide +kernel))
set_option maxRecDepth 20000 in
theorem gX5_firstBlock_X5_checkVersion : GoodIn wsX5_firstBlock (wsV RX5 55 RX5 yX5_checkVersion wsX5_checkVersion) := goodIn_app (goodIn_of _ (by decide +kernel)) ggX5_firstBlock_X5_checkVersion
set_option maxRecDepth 20000 in
theorem ggX5_firstBlock_X5_countBlocksAt : GoodIn wsX5_firstBlock wsX5_countBlocksAt := goodIn_r _ [16, 17, 18, 4, 19, 20, 21, 22, 23, 24, 25, 26, 27, 28, 29, 30, 31, 32, 33, 34, 35, 8, 36, 37, 38, 39, 40, 41, 42, 43, 44, 45, 46, 47, 48, 49, 50, 51, 52, 53, 54, 55, 56, 57, 58, 59, 65, 66, 67, 68, 69, 70, 71, 72, 73, 74] (by decide +kernel) (by decide +kernel)
set_option maxRecDepth 20000 in
theorem gX5_firstBlock_X5_countBlocksAt : GoodIn wsX5_firstBlock (wsV RX5 250 RX5 yX5_countBlocksAt wsX5_countBlocksAt) := goodIn_app (goodIn_of _ (by decide +kernel)) ggX5_firstBlock_X5_countBlocksAt
theorem dX5_firstBlock_0 : decode cX5_firstBlock 0 = .ok (.aload_n 0, 1) := by decide +kernel
theorem dX5_firstBlock_1 : decode cX5_firstBlock 1 = .ok (.iload_n 1, 1) := by decide +kernel
theorem dX5_firstBlock_2 : decode cX5_firstBlock 2 = .ok (.invokevirtual 55, 3) := by decide +kernel
theorem dX5_firstBlock_5 : decode cX5_firstBlock 5 = .ok (.aload_n 0, 1) := by decide +kernel
theorem dX5_firstBlock_6 : decode cX5_firstBlock 6 = .ok (.getfield 11, 3) := by decide +kernel
theorem dX5_firstBlock_9 : decode cX5_firstBlock 9 = .ok (.iload_n 1, 1) := by decide +kernel
theorem dX5_firstBlock_10 : decode cX5_firstBlock 10 = .ok (.aaload, 1) := by decide +kernel
theorem dX5_firstBlock_11 : decode cX5_firstBlock 11 = .ok (.getfield 130, 3) := by decide +kernel
theorem dX5_firstBlock_14 : decode cX5_firstBlock 14 = .ok (.astore_n 2, 1) := by decide +kernel
theorem dX5_firstBlock_15 : decode cX5_firstBlock 15 = .ok (.iconst 0, 1) := by decide +kernel
theorem dX5_firstBlock_16 : decode cX5_firstBlock 16 = .ok (.istore_n 3, 1) := by decide +kernel
theorem dX5_firstBlock_17 : decode cX5_firstBlock 17 = .ok (.iload_n 3, 1) := by decide +kernel
theorem dX5_firstBlock_18 : decode cX5_firstBlock 18 = .ok (.aload_n 2, 1) := by decide +kernel
theorem dX5_firstBlock_19 : decode cX5_firstBlock 19 = .ok (.getfield 73, 3) := by decide +kernel
theorem dX5_firstBlock_22 : decode cX5_firstBlock 22 = .ok (.if_icmp .ge 25, 3) := by decide +kernel
theorem dX5_firstBlock_25 : decode cX5_firstBlock 25 = .ok (.aload_n 0, 1) := by decide +kernel
theorem dX5_firstBlock_26 : decode cX5_firstBlock 26 = .ok (.aload_n 2, 1) := by decide +kernel
theorem dX5_firstBlock_27 : decode cX5_firstBlock 27 = .ok (.iload_n 3, 1) := by decide +kernel
theorem dX5_firstBlock_28 : decode cX5_firstBlock 28 = .ok (.invokevirtual 250, 3) := by decide +kernel
theorem dX5_firstBlock_31 : decode cX5_firstBlock 31 = .ok (.ifCond .le 10, 3) := by decide +kernel
theorem dX5_firstBlock_34 : decode cX5_firstBlock 34 = .ok (.aload_n 2, 1) := by decide +kernel
theorem dX5_firstBlock_35 : decode cX5_firstBlock 35 = .ok (.getfield 149, 3) := by decide +kernel
theorem dX5_firstBlock_38 : decode cX5_firstBlock 38 = .ok (.iload_n 3, 1) := by decide +kernel
theorem dX5_firstBlock_39 : decode cX5_firstBlock 39 = .ok (.iaload, 1) := by decide +kernel
theorem dX5_firstBlock_40 : decode cX5_firstBlock 40 = .ok (.ireturn, 1) := by decide +kernel
theorem dX5_firstBlock_41 : decode cX5_firstBlock 41 = .ok (.iinc 3 1, 3) := by decide +kernel
theorem dX5_firstBlock_44 : decode cX5_firstBlock 44 = .ok (.goto (-27), 3) := by decide +kernel
theorem dX5_firstBlock_47 : decode cX5_firstBlock 47 = .ok (.iconst (-1), 1) := by decide +kernel
theorem dX5_firstBlock_48 : decode cX5_firstBlock 48 = .ok (.ireturn, 1) := by decide +kernel
set_option maxRecDepth 20000 in
theorem ggX5_show_X5_checkBranch : GoodIn wsX5_show wsX5_checkBranch := goodIn_ca (goodIn_r _ [9, 10, 11, 12, 60, 61, 62, 63, 64, 65, 66, 67, 68, 69, 70, 71] (by decide +kernel) (by decide +kernel)) (goodIn_sub (fun _ h => List.mem_cons_of_mem _ (List.mem_append_right _ h)) (by decide +kernel))
set_option maxRecDepth 20000 in
theorem gX5_show_X5_checkBranch : GoodIn wsX5_show (wsV RX5 66 RX5 yX5_checkBranch wsX5_checkBranch) := goodIn_app (goodIn_of _ (by decide +kernel)) ggX5_show_X5_checkBranch
set_option maxRecDepth 20000 in
theorem ggX5_show_X5_headDeck : GoodIn wsX5_show wsX5_headDeck := goodIn_r _ [16, 17, 4, 18, 60, 61, 62, 63, 64, 65, 66, 67, 68, 69, 70, 71, 72, 73, 74, 75, 76] (by decide +kernel) (by decide +kernel)
set_option maxRecDepth 20000 in
theorem gX5_show_X5_headDeck : GoodIn wsX5_show (wsV RX5 69 RX5 yX5_headDeck wsX5_headDeck) := goodIn_app (goodIn_of _ (by decide +kernel)) ggX5_show_X5_headDeck
set_option maxRecDepth 20000 in
theorem ggX5_show_X5_countBlocks : GoodIn wsX5_show wsX5_countBlocks := goodIn_r _ [22, 23, 24, 25, 26, 8, 27, 28, 29, 30, 31, 32, 33, 34, 35, 36, 37, 38, 39, 40, 41, 42, 43, 44, 45, 46, 47, 48, 49, 50, 51, 52, 53, 54, 55, 56, 57, 58, 59, 77, 78, 79, 60, 61, 62, 63, 64, 65, 66, 67, 68, 69, 70, 71, 80, 81, 82, 83, 84, 85, 86] (by decide +kernel) (by decide +kernel)
set_option maxRecDepth 20000 in
theorem gX5_show_X5_countBlocks : GoodIn wsX5_show (wsV RX5 185 RX5 yX5_countBlocks wsX5_countBlocks) := goodIn_app (goodIn_of _ (by decide +kernel)) ggX5_show_X5_countBlocks
theorem dX5_show_0 : decode cX5_show 0 = .ok (.aload_n 0, 1) := by decide +kernel
theorem dX5_show_1 : decode cX5_show 1 = .ok (.iload_n 1, 1) := by decide +kernel
theorem dX5_show_2 : decode cX5_show 2 = .ok (.invokevirtual 66, 3) := by decide +kernel
theorem dX5_show_5 : decode cX5_show 5 = .ok (.aload_n 0, 1) := by decide +kernel
theorem dX5_show_6 : decode cX5_show 6 = .ok (.aload_n 0, 1) := by decide +kernel
theorem dX5_show_7 : decode cX5_show 7 = .ok (.iload_n 1, 1) := by decide +kernel
theorem dX5_show_8 : decode cX5_show 8 = .ok (.invokevirtual 69, 3) := by decide +kernel
theorem dX5_show_11 : decode cX5_show 11 = .ok (.invokevirtual 185, 3) := by decide +kernel
theorem dX5_show_14 : decode cX5_show 14 = .ok (.ifCond .le 13, 3) := by decide +kernel
theorem dX5_show_17 : decode cX5_show 17 = .ok (.new 59, 3) := by decide +kernel
theorem dX5_show_20 : decode cX5_show 20 = .ok (.dup, 1) := by decide +kernel
theorem dX5_show_21 : decode cX5_show 21 = .ok (.ldc 254, 2) := by decide +kernel
theorem dX5_show_23 : decode cX5_show 23 = .ok (.invokespecial 63, 3) := by decide +kernel
theorem dX5_show_26 : decode cX5_show 26 = .ok (.athrow, 1) := by decide +kernel
theorem dX5_show_27 : decode cX5_show 27 = .ok (.aload_n 0, 1) := by decide +kernel
theorem dX5_show_28 : decode cX5_show 28 = .ok (.getfield 19, 3) := by decide +kernel
theorem dX5_show_31 : decode cX5_show 31 = .ok (.iload_n 1, 1) := by decide +kernel
theorem dX5_show_32 : decode cX5_show 32 = .ok (.aload_n 0, 1) := by decide +kernel
theorem dX5_show_33 : decode cX5_show 33 = .ok (.getfield 15, 3) := by decide +kernel
theorem dX5_show_36 : decode cX5_show 36 = .ok (.iload_n 1, 1) := by decide +kernel
theorem dX5_show_37 : decode cX5_show 37 = .ok (.iaload, 1) := by decide +kernel
theorem dX5_show_38 : decode cX5_show 38 = .ok (.iastore, 1) := by decide +kernel
theorem dX5_show_39 : decode cX5_show 39 = .ok (.aload_n 0, 1) := by decide +kernel
theorem dX5_show_40 : decode cX5_show 40 = .ok (.getfield 15, 3) := by decide +kernel
theorem dX5_show_43 : decode cX5_show 43 = .ok (.iload_n 1, 1) := by decide +kernel
theorem dX5_show_44 : decode cX5_show 44 = .ok (.iaload, 1) := by decide +kernel
theorem dX5_show_45 : decode cX5_show 45 = .ok (.ireturn, 1) := by decide +kernel
set_option maxRecDepth 20000 in
theorem ggX5_shown_X5_checkBranch : GoodIn wsX5_shown wsX5_checkBranch := goodIn_ca (goodIn_r _ [8, 9, 10, 11, 53, 54, 55, 56, 57, 58, 59, 60, 61, 62, 63, 64] (by decide +kernel) (by decide +kernel)) (goodIn_sub (fun _ h => List.mem_cons_of_mem _ (List.mem_append_right _ h)) (by decide +kernel))
set_option maxRecDepth 20000 in
theorem gX5_shown_X5_checkBranch : GoodIn wsX5_shown (wsV RX5 66 RX5 yX5_checkBranch wsX5_checkBranch) := goodIn_app (goodIn_of _ (by decide +kernel)) ggX5_shown_X5_checkBranch
set_option maxRecDepth 20000 in
theorem ggX5_shown_X5_countBlocks : GoodIn wsX5_shown wsX5_countBlocks := goodIn_r _ [15, 16, 17, 18, 19, 7, 20, 21, 22, 23, 24, 25, 26, 27, 28, 29, 30, 31, 32, 33, 34, 35, 36, 37, 38, 39, 40, 41, 42, 43, 44, 45, 46, 47, 48, 49, 50, 51, 52, 70, 71, 72, 53, 54, 55, 56, 57, 58, 59, 60, 61, 62, 63, 64, 73, 74, 75, 76, 77, 78, 79] (by decide +kernel) (by decide +kernel)
set_option maxRecDepth 20000 in
theorem gX5_shown_X5_countBlocks : GoodIn wsX5_shown (wsV RX5 185 RX5 yX5_countBlocks wsX5_countBlocks) := goodIn_app (goodIn_of _ (by decide +kernel)) ggX5_shown_X5_countBlocks
theorem dX5_shown_0 : decode cX5_shown 0 = .ok (.aload_n 0, 1) := by decide +kernel
theorem dX5_shown_1 : decode cX5_shown 1 = .ok (.iload_n 1, 1) := by decide +kernel
theorem dX5_shown_2 : decode cX5_shown 2 = .ok (.invokevirtual 66, 3) := by decide +kernel
theorem dX5_shown_5 : decode cX5_shown 5 = .ok (.aload_n 0, 1) := by decide +kernel
theorem dX5_shown_6 : decode cX5_shown 6 = .ok (.getfield 19, 3) := by decide +kernel
theorem dX5_shown_9 : decode cX5_shown 9 = .ok (.iload_n 1, 1) := by decide +kernel
theorem dX5_shown_10 : decode cX5_shown 10 = .ok (.iaload, 1) := by decide +kernel
theorem dX5_shown_11 : decode cX5_shown 11 = .ok (.istore_n 2, 1) := by decide +kernel
theorem dX5_shown_12 : decode cX5_shown 12 = .ok (.iload_n 2, 1) := by decide +kernel
theorem dX5_shown_13 : decode cX5_shown 13 = .ok (.iconst (-1), 1) := by decide +kernel
theorem dX5_shown_14 : decode cX5_shown 14 = .ok (.if_icmp .eq 19, 3) := by decide +kernel
theorem dX5_shown_17 : decode cX5_shown 17 = .ok (.aload_n 0, 1) := by decide +kernel
theorem dX5_shown_18 : decode cX5_shown 18 = .ok (.aload_n 0, 1) := by decide +kernel
theorem dX5_shown_19 : decode cX5_shown 19 = .ok (.getfield 11, 3) := by decide +kernel
theorem dX5_shown_22 : decode cX5_shown 22 = .ok (.iload_n 2, 1) := by decide +kernel
theorem dX5_shown_23 : decode cX5_shown 23 = .ok (.aaload, 1) := by decide +kernel
theorem dX5_shown_24 : decode cX5_shown 24 = .ok (.getfield 130, 3) := by decide +kernel
theorem dX5_shown_27 : decode cX5_shown 27 = .ok (.invokevirtual 185, 3) := by decide +kernel
theorem dX5_shown_30 : decode cX5_shown 30 = .ok (.ifCond .le 5, 3) := by decide +kernel
theorem dX5_shown_33 : decode cX5_shown 33 = .ok (.iconst (-1), 1) := by decide +kernel
theorem dX5_shown_34 : decode cX5_shown 34 = .ok (.ireturn, 1) := by decide +kernel
theorem dX5_shown_35 : decode cX5_shown 35 = .ok (.iload_n 2, 1) := by decide +kernel
theorem dX5_shown_36 : decode cX5_shown 36 = .ok (.ireturn, 1) := by decide +kernel
theorem dX5_pass_0 : decode cX5_pass 0 = .ok (.iload_n 1, 1) := by decide +kernel
theorem dX5_pass_1 : decode cX5_pass 1 = .ok (.iconst 1, 1) := by decide +kernel
theorem dX5_pass_2 : decode cX5_pass 2 = .ok (.if_icmp .lt 9, 3) := by decide +kernel
theorem dX5_pass_5 : decode cX5_pass 5 = .ok (.iload_n 1, 1) := by decide +kernel
theorem dX5_pass_6 : decode cX5_pass 6 = .ok (.bipush 100, 2) := by decide +kernel
theorem dX5_pass_8 : decode cX5_pass 8 = .ok (.if_icmp .le 14, 3) := by decide +kernel
theorem dX5_pass_11 : decode cX5_pass 11 = .ok (.new 106, 3) := by decide +kernel
theorem dX5_pass_14 : decode cX5_pass 14 = .ok (.dup, 1) := by decide +kernel
theorem dX5_pass_15 : decode cX5_pass 15 = .ok (.ldc_w 256, 3) := by decide +kernel
theorem dX5_pass_18 : decode cX5_pass 18 = .ok (.invokespecial 110, 3) := by decide +kernel
theorem dX5_pass_21 : decode cX5_pass 21 = .ok (.athrow, 1) := by decide +kernel
theorem dX5_pass_22 : decode cX5_pass 22 = .ok (.aload_n 0, 1) := by decide +kernel
theorem dX5_pass_23 : decode cX5_pass 23 = .ok (.getfield 225, 3) := by decide +kernel
theorem dX5_pass_26 : decode cX5_pass 26 = .ok (.iload_n 1, 1) := by decide +kernel
theorem dX5_pass_27 : decode cX5_pass 27 = .ok (.iadd, 1) := by decide +kernel
theorem dX5_pass_28 : decode cX5_pass 28 = .ok (.sipush 999, 3) := by decide +kernel
theorem dX5_pass_31 : decode cX5_pass 31 = .ok (.if_icmp .le 14, 3) := by decide +kernel
theorem dX5_pass_34 : decode cX5_pass 34 = .ok (.new 59, 3) := by decide +kernel
theorem dX5_pass_37 : decode cX5_pass 37 = .ok (.dup, 1) := by decide +kernel
theorem dX5_pass_38 : decode cX5_pass 38 = .ok (.ldc_w 258, 3) := by decide +kernel
theorem dX5_pass_41 : decode cX5_pass 41 = .ok (.invokespecial 63, 3) := by decide +kernel
theorem dX5_pass_44 : decode cX5_pass 44 = .ok (.athrow, 1) := by decide +kernel
theorem dX5_pass_45 : decode cX5_pass 45 = .ok (.aload_n 0, 1) := by decide +kernel
theorem dX5_pass_46 : decode cX5_pass 46 = .ok (.dup, 1) := by decide +kernel
theorem dX5_pass_47 : decode cX5_pass 47 = .ok (.getfield 225, 3) := by decide +kernel
theorem dX5_pass_50 : decode cX5_pass 50 = .ok (.iload_n 1, 1) := by decide +kernel
theorem dX5_pass_51 : decode cX5_pass 51 = .ok (.iadd, 1) := by decide +kernel
theorem dX5_pass_52 : decode cX5_pass 52 = .ok (.putfield 225, 3) := by decide +kernel
theorem dX5_pass_55 : decode cX5_pass 55 = .ok (.aload_n 0, 1) := by decide +kernel
theorem dX5_pass_56 : decode cX5_pass 56 = .ok (.getfield 225, 3) := by decide +kernel
theorem dX5_pass_59 : decode cX5_pass 59 = .ok (.ireturn, 1) := by decide +kernel
theorem dX5_checkVersion_0 : decode cX5_checkVersion 0 = .ok (.iload_n 1, 1) := by decide +kernel
theorem dX5_checkVersion_1 : decode cX5_checkVersion 1 = .ok (.ifCond .lt 11, 3) := by decide +kernel
theorem dX5_checkVersion_4 : decode cX5_checkVersion 4 = .ok (.iload_n 1, 1) := by decide +kernel
theorem dX5_checkVersion_5 : decode cX5_checkVersion 5 = .ok (.aload_n 0, 1) := by decide +kernel
theorem dX5_checkVersion_6 : decode cX5_checkVersion 6 = .ok (.getfield 48, 3) := by decide +kernel
theorem dX5_checkVersion_9 : decode cX5_checkVersion 9 = .ok (.if_icmp .lt 14, 3) := by decide +kernel
theorem dX5_checkVersion_12 : decode cX5_checkVersion 12 = .ok (.new 76, 3) := by decide +kernel
theorem dX5_checkVersion_15 : decode cX5_checkVersion 15 = .ok (.dup, 1) := by decide +kernel
theorem dX5_checkVersion_16 : decode cX5_checkVersion 16 = .ok (.ldc_w 260, 3) := by decide +kernel
theorem dX5_checkVersion_19 : decode cX5_checkVersion 19 = .ok (.invokespecial 80, 3) := by decide +kernel
theorem dX5_checkVersion_22 : decode cX5_checkVersion 22 = .ok (.athrow, 1) := by decide +kernel
theorem dX5_checkVersion_23 : decode cX5_checkVersion 23 = .ok (.return_, 1) := by decide +kernel
theorem dX5_checkBranch_0 : decode cX5_checkBranch 0 = .ok (.iload_n 1, 1) := by decide +kernel
theorem dX5_checkBranch_1 : decode cX5_checkBranch 1 = .ok (.ifCond .lt 11, 3) := by decide +kernel
theorem dX5_checkBranch_4 : decode cX5_checkBranch 4 = .ok (.iload_n 1, 1) := by decide +kernel
theorem dX5_checkBranch_5 : decode cX5_checkBranch 5 = .ok (.aload_n 0, 1) := by decide +kernel
theorem dX5_checkBranch_6 : decode cX5_checkBranch 6 = .ok (.getfield 52, 3) := by decide +kernel
theorem dX5_checkBranch_9 : decode cX5_checkBranch 9 = .ok (.if_icmp .lt 14, 3) := by decide +kernel
theorem dX5_checkBranch_12 : decode cX5_checkBranch 12 = .ok (.new 76, 3) := by decide +kernel
theorem dX5_checkBranch_15 : decode cX5_checkBranch 15 = .ok (.dup, 1) := by decide +kernel
theorem dX5_checkBranch_16 : decode cX5_checkBranch 16 = .ok (.ldc_w 262, 3) := by decide +kernel
theorem dX5_checkBranch_19 : decode cX5_checkBranch 19 = .ok (.invokespecial 80, 3) := by decide +kernel
theorem dX5_checkBranch_22 : decode cX5_checkBranch 22 = .ok (.athrow, 1) := by decide +kernel
theorem dX5_checkBranch_23 : decode cX5_checkBranch 23 = .ok (.return_, 1) := by decide +kernel
theorem dX5_checkSlide_0 : decode cX5_checkSlide 0 = .ok (.iload_n 1, 1) := by decide +kernel
theorem dX5_checkSlide_1 : decode cX5_checkSlide 1 = .ok (.ifCond .lt 11, 3) := by decide +kernel
theorem dX5_checkSlide_4 : decode cX5_checkSlide 4 = .ok (.iload_n 1, 1) := by decide +kernel
theorem dX5_checkSlide_5 : decode cX5_checkSlide 5 = .ok (.aload_n 0, 1) := by decide +kernel
theorem dX5_checkSlide_6 : decode cX5_checkSlide 6 = .ok (.getfield 83, 3) := by decide +kernel
theorem dX5_checkSlide_9 : decode cX5_checkSlide 9 = .ok (.if_icmp .lt 14, 3) := by decide +kernel
theorem dX5_checkSlide_12 : decode cX5_checkSlide 12 = .ok (.new 76, 3) := by decide +kernel
theorem dX5_checkSlide_15 : decode cX5_checkSlide 15 = .ok (.dup, 1) := by decide +kernel
theorem dX5_checkSlide_16 : decode cX5_checkSlide 16 = .ok (.ldc_w 264, 3) := by decide +kernel
theorem dX5_checkSlide_19 : decode cX5_checkSlide 19 = .ok (.invokespecial 80, 3) := by decide +kernel
theorem dX5_checkSlide_22 : decode cX5_checkSlide 22 = .ok (.athrow, 1) := by decide +kernel
theorem dX5_checkSlide_23 : decode cX5_checkSlide 23 = .ok (.return_, 1) := by decide +kernel
theorem dX5_checkObject_0 : decode cX5_checkObject 0 = .ok (.iload_n 0, 1) := by decide +kernel
theorem dX5_checkObject_1 : decode cX5_checkObject 1 = .ok (.ifCond .lt 8, 3) := by decide +kernel
theorem dX5_checkObject_4 : decode cX5_checkObject 4 = .ok (.iload_n 0, 1) := by decide +kernel
theorem dX5_checkObject_5 : decode cX5_checkObject 5 = .ok (.iconst 4, 1) := by decide +kernel
theorem dX5_checkObject_6 : decode cX5_checkObject 6 = .ok (.if_icmp .lt 14, 3) := by decide +kernel
theorem dX5_checkObject_9 : decode cX5_checkObject 9 = .ok (.new 76, 3) := by decide +kernel
theorem dX5_checkObject_12 : decode cX5_checkObject 12 = .ok (.dup, 1) := by decide +kernel
theorem dX5_checkObject_13 : decode cX5_checkObject 13 = .ok (.ldc_w 266, 3) := by decide +kernel
theorem dX5_checkObject_16 : decode cX5_checkObject 16 = .ok (.invokespecial 80, 3) := by decide +kernel
theorem dX5_checkObject_19 : decode cX5_checkObject 19 = .ok (.athrow, 1) := by decide +kernel
theorem dX5_checkObject_20 : decode cX5_checkObject 20 = .ok (.return_, 1) := by decide +kernel
theorem dX5_checkRule_0 : decode cX5_checkRule 0 = .ok (.iload_n 1, 1) := by decide +kernel
theorem dX5_checkRule_1 : decode cX5_checkRule 1 = .ok (.ifCond .lt 11, 3) := by decide +kernel
theorem dX5_checkRule_4 : decode cX5_checkRule 4 = .ok (.iload_n 1, 1) := by decide +kernel
theorem dX5_checkRule_5 : decode cX5_checkRule 5 = .ok (.aload_n 0, 1) := by decide +kernel
theorem dX5_checkRule_6 : decode cX5_checkRule 6 = .ok (.getfield 199, 3) := by decide +kernel
theorem dX5_checkRule_9 : decode cX5_checkRule 9 = .ok (.if_icmp .lt 14, 3) := by decide +kernel
theorem dX5_checkRule_12 : decode cX5_checkRule 12 = .ok (.new 76, 3) := by decide +kernel
theorem dX5_checkRule_15 : decode cX5_checkRule 15 = .ok (.dup, 1) := by decide +kernel
theorem dX5_checkRule_16 : decode cX5_checkRule 16 = .ok (.ldc_w 268, 3) := by decide +kernel
theorem dX5_checkRule_19 : decode cX5_checkRule 19 = .ok (.invokespecial 80, 3) := by decide +kernel
theorem dX5_checkRule_22 : decode cX5_checkRule 22 = .ok (.athrow, 1) := by decide +kernel
theorem dX5_checkRule_23 : decode cX5_checkRule 23 = .ok (.return_, 1) := by decide +kernel
theorem dX5_checkDifferent_0 : decode cX5_checkDifferent 0 = .ok (.iload_n 0, 1) := by decide +kernel
theorem dX5_checkDifferent_1 : decode cX5_checkDifferent 1 = .ok (.iload_n 1, 1) := by decide +kernel
theorem dX5_checkDifferent_2 : decode cX5_checkDifferent 2 = .ok (.if_icmp .ne 14, 3) := by decide +kernel
theorem dX5_checkDifferent_5 : decode cX5_checkDifferent 5 = .ok (.new 106, 3) := by decide +kernel
theorem dX5_checkDifferent_8 : decode cX5_checkDifferent 8 = .ok (.dup, 1) := by decide +kernel
theorem dX5_checkDifferent_9 : decode cX5_checkDifferent 9 = .ok (.ldc_w 270, 3) := by decide +kernel
theorem dX5_checkDifferent_12 : decode cX5_checkDifferent 12 = .ok (.invokespecial 110, 3) := by decide +kernel
theorem dX5_checkDifferent_15 : decode cX5_checkDifferent 15 = .ok (.athrow, 1) := by decide +kernel
theorem dX5_checkDifferent_16 : decode cX5_checkDifferent 16 = .ok (.return_, 1) := by decide +kernel
theorem dX5_checkRoomForVersion_0 : decode cX5_checkRoomForVersion 0 = .ok (.aload_n 0, 1) := by decide +kernel
theorem dX5_checkRoomForVersion_1 : decode cX5_checkRoomForVersion 1 = .ok (.getfield 48, 3) := by decide +kernel
theorem dX5_checkRoomForVersion_4 : decode cX5_checkRoomForVersion 4 = .ok (.bipush 40, 2) := by decide +kernel
theorem dX5_checkRoomForVersion_6 : decode cX5_checkRoomForVersion 6 = .ok (.if_icmp .lt 14, 3) := by decide +kernel
theorem dX5_checkRoomForVersion_9 : decode cX5_checkRoomForVersion 9 = .ok (.new 59, 3) := by decide +kernel
theorem dX5_checkRoomForVersion_12 : decode cX5_checkRoomForVersion 12 = .ok (.dup, 1) := by decide +kernel
theorem dX5_checkRoomForVersion_13 : decode cX5_checkRoomForVersion 13 = .ok (.ldc_w 272, 3) := by decide +kernel
theorem dX5_checkRoomForVersion_16 : decode cX5_checkRoomForVersion 16 = .ok (.invokespecial 63, 3) := by decide +kernel
theorem dX5_checkRoomForVersion_19 : decode cX5_checkRoomForVersion 19 = .ok (.athrow, 1) := by decide +kernel
theorem dX5_checkRoomForVersion_20 : decode cX5_checkRoomForVersion 20 = .ok (.return_, 1) := by decide +kernel
set_option maxRecDepth 20000 in
theorem ggX5_placeInHead_X5_headDeck : GoodIn wsX5_placeInHead wsX5_headDeck := goodIn_r _ [7, 8, 9, 10, 18, 19, 20, 21, 22, 23, 24, 25, 26, 27, 28, 29, 30, 31, 32, 33, 34] (by decide +kernel) (by decide +kernel)
set_option maxRecDepth 20000 in
theorem gX5_placeInHead_X5_headDeck : GoodIn wsX5_placeInHead (wsV RX5 69 RX5 yX5_headDeck wsX5_headDeck) := goodIn_app (goodIn_of _ (by decide +kernel)) ggX5_placeInHead_X5_headDeck
set_option maxRecDepth 20000 in
theorem ggX5_placeInHead_X0_placeOf : GoodIn wsX5_placeInHead wsX0_placeOf := goodIn_r _ [15, 16, 17, 35, 36, 37] (by decide +kernel) (by decide +kernel)
set_option maxRecDepth 20000 in
theorem gX5_placeInHead_X0_placeOf : GoodIn wsX5_placeInHead (wsV RX5 274 RX0 yX0_placeOf wsX0_placeOf) := goodIn_app (goodIn_of _ (by decide +kernel)) ggX5_placeInHead_X0_placeOf
theorem dX5_placeInHead_0 : decode cX5_placeInHead 0 = .ok (.aload_n 0, 1) := by decide +kernel
theorem dX5_placeInHead_1 : decode cX5_placeInHead 1 = .ok (.iload_n 1, 1) := by decide +kernel
theorem dX5_placeInHead_2 : decode cX5_placeInHead 2 = .ok (.invokevirtual 69, 3) := by decide +kernel
theorem dX5_placeInHead_5 : decode cX5_placeInHead 5 = .ok (.iload_n 2, 1) := by decide +kernel
theorem dX5_placeInHead_6 : decode cX5_placeInHead 6 = .ok (.invokevirtual 274, 3) := by decide +kernel
theorem dX5_placeInHead_9 : decode cX5_placeInHead 9 = .ok (.istore_n 3, 1) := by decide +kernel
theorem dX5_placeInHead_10 : decode cX5_placeInHead 10 = .ok (.iload_n 3, 1) := by decide +kernel
theorem dX5_placeInHead_11 : decode cX5_placeInHead 11 = .ok (.iconst (-1), 1) := by decide +kernel
theorem dX5_placeInHead_12 : decode cX5_placeInHead 12 = .ok (.if_icmp .ne 14, 3) := by decide +kernel
theorem dX5_placeInHead_15 : decode cX5_placeInHead 15 = .ok (.new 76, 3) := by decide +kernel
theorem dX5_placeInHead_18 : decode cX5_placeInHead 18 = .ok (.dup, 1) := by decide +kernel
theorem dX5_placeInHead_19 : decode cX5_placeInHead 19 = .ok (.ldc_w 277, 3) := by decide +kernel
theorem dX5_placeInHead_22 : decode cX5_placeInHead 22 = .ok (.invokespecial 80, 3) := by decide +kernel
theorem dX5_placeInHead_25 : decode cX5_placeInHead 25 = .ok (.athrow, 1) := by decide +kernel
theorem dX5_placeInHead_26 : decode cX5_placeInHead 26 = .ok (.iload_n 3, 1) := by decide +kernel
theorem dX5_placeInHead_27 : decode cX5_placeInHead 27 = .ok (.ireturn, 1) := by decide +kernel
theorem dX5_headDeck_0 : decode cX5_headDeck 0 = .ok (.aload_n 0, 1) := by decide +kernel
theorem dX5_headDeck_1 : decode cX5_headDeck 1 = .ok (.getfield 11, 3) := by decide +kernel
theorem dX5_headDeck_4 : decode cX5_headDeck 4 = .ok (.aload_n 0, 1) := by decide +kernel
theorem dX5_headDeck_5 : decode cX5_headDeck 5 = .ok (.getfield 15, 3) := by decide +kernel
theorem dX5_headDeck_8 : decode cX5_headDeck 8 = .ok (.iload_n 1, 1) := by decide +kernel
theorem dX5_headDeck_9 : decode cX5_headDeck 9 = .ok (.iaload, 1) := by decide +kernel
theorem dX5_headDeck_10 : decode cX5_headDeck 10 = .ok (.aaload, 1) := by decide +kernel
theorem dX5_headDeck_11 : decode cX5_headDeck 11 = .ok (.getfield 130, 3) := by decide +kernel
theorem dX5_headDeck_14 : decode cX5_headDeck 14 = .ok (.areturn, 1) := by decide +kernel
set_option maxRecDepth 20000 in
theorem ggX5_makeVersion_X0_copyFrom : GoodIn wsX5_makeVersion wsX0_copyFrom := goodIn_r _ [13, 14, 15, 16, 17, 18, 19, 20, 38, 39, 40] (by decide +kernel) (by decide +kernel)
set_option maxRecDepth 20000 in
theorem gX5_makeVersion_X0_copyFrom : GoodIn wsX5_makeVersion (wsV RX5 191 RX0 yX0_copyFrom wsX0_copyFrom) := goodIn_app (goodIn_of _ (by decide +kernel)) ggX5_makeVersion_X0_copyFrom
theorem dX5_makeVersion_0 : decode cX5_makeVersion 0 = .ok (.aload_n 0, 1) := by decide +kernel
theorem dX5_makeVersion_1 : decode cX5_makeVersion 1 = .ok (.getfield 48, 3) := by decide +kernel
theorem dX5_makeVersion_4 : decode cX5_makeVersion 4 = .ok (.istore_n 3, 1) := by decide +kernel
theorem dX5_makeVersion_5 : decode cX5_makeVersion 5 = .ok (.aload_n 0, 1) := by decide +kernel
theorem dX5_makeVersion_6 : decode cX5_makeVersion 6 = .ok (.getfield 15, 3) := by decide +kernel
theorem dX5_makeVersion_9 : decode cX5_makeVersion 9 = .ok (.iload_n 1, 1) := by decide +kernel
theorem dX5_makeVersion_10 : decode cX5_makeVersion 10 = .ok (.iaload, 1) := by decide +kernel
theorem dX5_makeVersion_11 : decode cX5_makeVersion 11 = .ok (.istore 4, 2) := by decide +kernel
theorem dX5_makeVersion_13 : decode cX5_makeVersion 13 = .ok (.aload_n 0, 1) := by decide +kernel
theorem dX5_makeVersion_14 : decode cX5_makeVersion 14 = .ok (.getfield 11, 3) := by decide +kernel
theorem dX5_makeVersion_17 : decode cX5_makeVersion 17 = .ok (.iload_n 3, 1) := by decide +kernel
theorem dX5_makeVersion_18 : decode cX5_makeVersion 18 = .ok (.aaload, 1) := by decide +kernel
theorem dX5_makeVersion_19 : decode cX5_makeVersion 19 = .ok (.astore 5, 2) := by decide +kernel
theorem dX5_makeVersion_21 : decode cX5_makeVersion 21 = .ok (.aload 5, 2) := by decide +kernel
theorem dX5_makeVersion_23 : decode cX5_makeVersion 23 = .ok (.iload_n 1, 1) := by decide +kernel
theorem dX5_makeVersion_24 : decode cX5_makeVersion 24 = .ok (.putfield 121, 3) := by decide +kernel
theorem dX5_makeVersion_27 : decode cX5_makeVersion 27 = .ok (.aload 5, 2) := by decide +kernel
theorem dX5_makeVersion_29 : decode cX5_makeVersion 29 = .ok (.iload 4, 2) := by decide +kernel
theorem dX5_makeVersion_31 : decode cX5_makeVersion 31 = .ok (.putfield 124, 3) := by decide +kernel
theorem dX5_makeVersion_34 : decode cX5_makeVersion 34 = .ok (.aload 5, 2) := by decide +kernel
theorem dX5_makeVersion_36 : decode cX5_makeVersion 36 = .ok (.iload_n 2, 1) := by decide +kernel
theorem dX5_makeVersion_37 : decode cX5_makeVersion 37 = .ok (.putfield 127, 3) := by decide +kernel
theorem dX5_makeVersion_40 : decode cX5_makeVersion 40 = .ok (.aload 5, 2) := by decide +kernel
theorem dX5_makeVersion_42 : decode cX5_makeVersion 42 = .ok (.aload_n 0, 1) := by decide +kernel
theorem dX5_makeVersion_43 : decode cX5_makeVersion 43 = .ok (.getfield 11, 3) := by decide +kernel
theorem dX5_makeVersion_46 : decode cX5_makeVersion 46 = .ok (.iload 4, 2) := by decide +kernel
theorem dX5_makeVersion_48 : decode cX5_makeVersion 48 = .ok (.aaload, 1) := by decide +kernel
theorem dX5_makeVersion_49 : decode cX5_makeVersion 49 = .ok (.getfield 44, 3) := by decide +kernel
theorem dX5_makeVersion_52 : decode cX5_makeVersion 52 = .ok (.lconst 1, 1) := by decide +kernel
theorem dX5_makeVersion_53 : decode cX5_makeVersion 53 = .ok (.iload_n 3, 1) := by decide +kernel
theorem dX5_makeVersion_54 : decode cX5_makeVersion 54 = .ok (.lshl, 1) := by decide +kernel
theorem dX5_makeVersion_55 : decode cX5_makeVersion 55 = .ok (.lor, 1) := by decide +kernel
theorem dX5_makeVersion_56 : decode cX5_makeVersion 56 = .ok (.putfield 44, 3) := by decide +kernel
theorem dX5_makeVersion_59 : decode cX5_makeVersion 59 = .ok (.iload_n 2, 1) := by decide +kernel
theorem dX5_makeVersion_60 : decode cX5_makeVersion 60 = .ok (.iconst (-1), 1) := by decide +kernel
theorem dX5_makeVersion_61 : decode cX5_makeVersion 61 = .ok (.if_icmp .eq 22, 3) := by decide +kernel
theorem dX5_makeVersion_64 : decode cX5_makeVersion 64 = .ok (.aload 5, 2) := by decide +kernel
theorem dX5_makeVersion_66 : decode cX5_makeVersion 66 = .ok (.dup, 1) := by decide +kernel
theorem dX5_makeVersion_67 : decode cX5_makeVersion 67 = .ok (.getfield 44, 3) := by decide +kernel
theorem dX5_makeVersion_70 : decode cX5_makeVersion 70 = .ok (.aload_n 0, 1) := by decide +kernel
theorem dX5_makeVersion_71 : decode cX5_makeVersion 71 = .ok (.getfield 11, 3) := by decide +kernel
theorem dX5_makeVersion_74 : decode cX5_makeVersion 74 = .ok (.iload_n 2, 1) := by decide +kernel
theorem dX5_makeVersion_75 : decode cX5_makeVersion 75 = .ok (.aaload, 1) := by decide +kernel
theorem dX5_makeVersion_76 : decode cX5_makeVersion 76 = .ok (.getfield 44, 3) := by decide +kernel
theorem dX5_makeVersion_79 : decode cX5_makeVersion 79 = .ok (.lor, 1) := by decide +kernel
theorem dX5_makeVersion_80 : decode cX5_makeVersion 80 = .ok (.putfield 44, 3) := by decide +kernel
theorem dX5_makeVersion_83 : decode cX5_makeVersion 83 = .ok (.aload 5, 2) := by decide +kernel
theorem dX5_makeVersion_85 : decode cX5_makeVersion 85 = .ok (.getfield 130, 3) := by decide +kernel
theorem dX5_makeVersion_88 : decode cX5_makeVersion 88 = .ok (.aload_n 0, 1) := by decide +kernel
theorem dX5_makeVersion_89 : decode cX5_makeVersion 89 = .ok (.getfield 11, 3) := by decide +kernel
theorem dX5_makeVersion_92 : decode cX5_makeVersion 92 = .ok (.iload 4, 2) := by decide +kernel
theorem dX5_makeVersion_94 : decode cX5_makeVersion 94 = .ok (.aaload, 1) := by decide +kernel
theorem dX5_makeVersion_95 : decode cX5_makeVersion 95 = .ok (.getfield 130, 3) := by decide +kernel
theorem dX5_makeVersion_98 : decode cX5_makeVersion 98 = .ok (.invokevirtual 191, 3) := by decide +kernel
theorem dX5_makeVersion_101 : decode cX5_makeVersion 101 = .ok (.aload_n 0, 1) := by decide +kernel
theorem dX5_makeVersion_102 : decode cX5_makeVersion 102 = .ok (.getfield 15, 3) := by decide +kernel
theorem dX5_makeVersion_105 : decode cX5_makeVersion 105 = .ok (.iload_n 1, 1) := by decide +kernel
theorem dX5_makeVersion_106 : decode cX5_makeVersion 106 = .ok (.iload_n 3, 1) := by decide +kernel
theorem dX5_makeVersion_107 : decode cX5_makeVersion 107 = .ok (.iastore, 1) := by decide +kernel
theorem dX5_makeVersion_108 : decode cX5_makeVersion 108 = .ok (.aload_n 0, 1) := by decide +kernel
theorem dX5_makeVersion_109 : decode cX5_makeVersion 109 = .ok (.iload_n 3, 1) := by decide +kernel
theorem dX5_makeVersion_110 : decode cX5_makeVersion 110 = .ok (.iconst 1, 1) := by decide +kernel
theorem dX5_makeVersion_111 : decode cX5_makeVersion 111 = .ok (.iadd, 1) := by decide +kernel
theorem dX5_makeVersion_112 : decode cX5_makeVersion 112 = .ok (.putfield 48, 3) := by decide +kernel
theorem dX5_makeVersion_115 : decode cX5_makeVersion 115 = .ok (.aload 5, 2) := by decide +kernel
theorem dX5_makeVersion_117 : decode cX5_makeVersion 117 = .ok (.getfield 130, 3) := by decide +kernel
theorem dX5_makeVersion_120 : decode cX5_makeVersion 120 = .ok (.areturn, 1) := by decide +kernel
theorem dX5_baseOf_0 : decode cX5_baseOf 0 = .ok (.aload_n 0, 1) := by decide +kernel
theorem dX5_baseOf_1 : decode cX5_baseOf 1 = .ok (.getfield 11, 3) := by decide +kernel
theorem dX5_baseOf_4 : decode cX5_baseOf 4 = .ok (.aload_n 0, 1) := by decide +kernel
theorem dX5_baseOf_5 : decode cX5_baseOf 5 = .ok (.getfield 15, 3) := by decide +kernel
theorem dX5_baseOf_8 : decode cX5_baseOf 8 = .ok (.iload_n 1, 1) := by decide +kernel
theorem dX5_baseOf_9 : decode cX5_baseOf 9 = .ok (.iaload, 1) := by decide +kernel
theorem dX5_baseOf_10 : decode cX5_baseOf 10 = .ok (.aaload, 1) := by decide +kernel
theorem dX5_baseOf_11 : decode cX5_baseOf 11 = .ok (.getfield 44, 3) := by decide +kernel
theorem dX5_baseOf_14 : decode cX5_baseOf 14 = .ok (.aload_n 0, 1) := by decide +kernel
theorem dX5_baseOf_15 : decode cX5_baseOf 15 = .ok (.getfield 11, 3) := by decide +kernel
theorem dX5_baseOf_18 : decode cX5_baseOf 18 = .ok (.aload_n 0, 1) := by decide +kernel
theorem dX5_baseOf_19 : decode cX5_baseOf 19 = .ok (.getfield 15, 3) := by decide +kernel
theorem dX5_baseOf_22 : decode cX5_baseOf 22 = .ok (.iload_n 2, 1) := by decide +kernel
theorem dX5_baseOf_23 : decode cX5_baseOf 23 = .ok (.iaload, 1) := by decide +kernel
theorem dX5_baseOf_24 : decode cX5_baseOf 24 = .ok (.aaload, 1) := by decide +kernel
theorem dX5_baseOf_25 : decode cX5_baseOf 25 = .ok (.getfield 44, 3) := by decide +kernel
theorem dX5_baseOf_28 : decode cX5_baseOf 28 = .ok (.land, 1) := by decide +kernel
theorem dX5_baseOf_29 : decode cX5_baseOf 29 = .ok (.lstore_n 3, 1) := by decide +kernel
theorem dX5_baseOf_30 : decode cX5_baseOf 30 = .ok (.aload_n 0, 1) := by decide +kernel
theorem dX5_baseOf_31 : decode cX5_baseOf 31 = .ok (.getfield 48, 3) := by decide +kernel
theorem dX5_baseOf_34 : decode cX5_baseOf 34 = .ok (.iconst 1, 1) := by decide +kernel
theorem dX5_baseOf_35 : decode cX5_baseOf 35 = .ok (.isub, 1) := by decide +kernel
theorem dX5_baseOf_36 : decode cX5_baseOf 36 = .ok (.istore 5, 2) := by decide +kernel
theorem dX5_baseOf_38 : decode cX5_baseOf 38 = .ok (.iload 5, 2) := by decide +kernel
theorem dX5_baseOf_40 : decode cX5_baseOf 40 = .ok (.ifCond .le 20, 3) := by decide +kernel
theorem dX5_baseOf_43 : decode cX5_baseOf 43 = .ok (.lload_n 3, 1) := by decide +kernel
theorem dX5_baseOf_44 : decode cX5_baseOf 44 = .ok (.iload 5, 2) := by decide +kernel
theorem dX5_baseOf_46 : decode cX5_baseOf 46 = .ok (.lshr, 1) := by decide +kernel
theorem dX5_baseOf_47 : decode cX5_baseOf 47 = .ok (.lconst 1, 1) := by decide +kernel
theorem dX5_baseOf_48 : decode cX5_baseOf 48 = .ok (.land, 1) := by decide +kernel
theorem dX5_baseOf_49 : decode cX5_baseOf 49 = .ok (.lconst 0, 1) := by decide +kernel
theorem dX5_baseOf_50 : decode cX5_baseOf 50 = .ok (.lcmp, 1) := by decide +kernel
theorem dX5_baseOf_51 : decode cX5_baseOf 51 = .ok (.ifCond .ne 9, 3) := by decide +kernel
theorem dX5_baseOf_54 : decode cX5_baseOf 54 = .ok (.iinc 5 (-1), 3) := by decide +kernel
theorem dX5_baseOf_57 : decode cX5_baseOf 57 = .ok (.goto (-19), 3) := by decide +kernel
theorem dX5_baseOf_60 : decode cX5_baseOf 60 = .ok (.iload 5, 2) := by decide +kernel
theorem dX5_baseOf_62 : decode cX5_baseOf 62 = .ok (.ireturn, 1) := by decide +kernel
set_option maxRecDepth 20000 in
theorem ggX5_mergeOf_X5_baseOf : GoodIn wsX5_mergeOf wsX5_baseOf := goodIn_r _ [10, 4, 11, 12, 13, 30, 31, 32, 33, 34, 35, 36, 37, 38, 39, 40, 41, 42, 43, 44, 45, 46] (by decide +kernel) (by decide +kernel)
set_option maxRecDepth 20000 in
theorem gX5_mergeOf_X5_baseOf : GoodIn wsX5_mergeOf (wsV RX5 155 RX5 yX5_baseOf wsX5_baseOf) := goodIn_app (goodIn_of _ (by decide +kernel)) ggX5_mergeOf_X5_baseOf
set_option maxRecDepth 20000 in
theorem ggX5_mergeOf_X5_headDeck : GoodIn wsX5_mergeOf wsX5_headDeck := goodIn_r _ [17, 4, 11, 5, 30, 31, 32, 33, 34, 35, 36, 37, 38, 39, 40, 41, 42, 43, 44, 45, 46] (by decide +kernel) (by decide +kernel)
set_option maxRecDepth 20000 in
theorem gX5_mergeOf_X5_headDeck : GoodIn wsX5_mergeOf (wsV RX5 69 RX5 yX5_headDeck wsX5_headDeck) := goodIn_app (goodIn_of _ (by decide +kernel)) ggX5_mergeOf_X5_headDeck
set_option maxRecDepth 20000 in
theorem ggX5_mergeOf_X1_init : GoodIn wsX5_mergeOf wsX1_init := goodIn_r _ [20, 21, 22, 23, 24, 25, 26, 27, 28, 29] (by decide +kernel) (by decide +kernel)
set_option maxRecDepth 20000 in
theorem gX5_mergeOf_X1_init : GoodIn wsX5_mergeOf (wsX1_init) := ggX5_mergeOf_X1_init
theorem dX5_mergeOf_0 : decode cX5_mergeOf 0 = .ok (.new 163, 3) := by decide +kernel
theorem dX5_mergeOf_3 : decode cX5_mergeOf 3 = .ok (.dup, 1) := by decide +kernel
theorem dX5_mergeOf_4 : decode cX5_mergeOf 4 = .ok (.aload_n 0, 1) := by decide +kernel
theorem dX5_mergeOf_5 : decode cX5_mergeOf 5 = .ok (.getfield 11, 3) := by decide +kernel
theorem dX5_mergeOf_8 : decode cX5_mergeOf 8 = .ok (.aload_n 0, 1) := by decide +kernel
theorem dX5_mergeOf_9 : decode cX5_mergeOf 9 = .ok (.iload_n 1, 1) := by decide +kernel
theorem dX5_mergeOf_10 : decode cX5_mergeOf 10 = .ok (.iload_n 2, 1) := by decide +kernel
theorem dX5_mergeOf_11 : decode cX5_mergeOf 11 = .ok (.invokevirtual 155, 3) := by decide +kernel
theorem dX5_mergeOf_14 : decode cX5_mergeOf 14 = .ok (.aaload, 1) := by decide +kernel
theorem dX5_mergeOf_15 : decode cX5_mergeOf 15 = .ok (.getfield 130, 3) := by decide +kernel
theorem dX5_mergeOf_18 : decode cX5_mergeOf 18 = .ok (.aload_n 0, 1) := by decide +kernel
theorem dX5_mergeOf_19 : decode cX5_mergeOf 19 = .ok (.iload_n 1, 1) := by decide +kernel
theorem dX5_mergeOf_20 : decode cX5_mergeOf 20 = .ok (.invokevirtual 69, 3) := by decide +kernel
theorem dX5_mergeOf_23 : decode cX5_mergeOf 23 = .ok (.aload_n 0, 1) := by decide +kernel
theorem dX5_mergeOf_24 : decode cX5_mergeOf 24 = .ok (.iload_n 2, 1) := by decide +kernel
theorem dX5_mergeOf_25 : decode cX5_mergeOf 25 = .ok (.invokevirtual 69, 3) := by decide +kernel
theorem dX5_mergeOf_28 : decode cX5_mergeOf 28 = .ok (.invokespecial 279, 3) := by decide +kernel
theorem dX5_mergeOf_31 : decode cX5_mergeOf 31 = .ok (.areturn, 1) := by decide +kernel
set_option maxRecDepth 20000 in
theorem ggX5_countBlocks_X5_countBlocksAt : GoodIn wsX5_countBlocks wsX5_countBlocksAt := goodIn_r _ [6, 7, 8, 9, 10, 11, 12, 13, 14, 15, 16, 17, 18, 19, 20, 21, 22, 23, 24, 25, 26, 5, 27, 28, 29, 30, 31, 32, 33, 34, 35, 36, 37, 38, 42, 43, 44, 45, 46, 47, 48, 49, 50, 51, 52, 53, 39, 40, 41, 54, 55, 56, 57, 58, 59, 60] (by decide +kernel) (by decide +kernel)
set_option maxRecDepth 20000 in
theorem gX5_countBlocks_X5_countBlocksAt : GoodIn wsX5_countBlocks (wsV RX5 250 RX5 yX5_countBlocksAt wsX5_countBlocksAt) := goodIn_app (goodIn_of _ (by decide +kernel)) ggX5_countBlocks_X5_countBlocksAt
theorem dX5_countBlocks_0 : decode cX5_countBlocks 0 = .ok (.iconst 0, 1) := by decide +kernel
theorem dX5_countBlocks_1 : decode cX5_countBlocks 1 = .ok (.istore_n 2, 1) := by decide +kernel
theorem dX5_countBlocks_2 : decode cX5_countBlocks 2 = .ok (.iconst 0, 1) := by decide +kernel
theorem dX5_countBlocks_3 : decode cX5_countBlocks 3 = .ok (.istore_n 3, 1) := by decide +kernel
theorem dX5_countBlocks_4 : decode cX5_countBlocks 4 = .ok (.iload_n 3, 1) := by decide +kernel
theorem dX5_countBlocks_5 : decode cX5_countBlocks 5 = .ok (.aload_n 1, 1) := by decide +kernel
theorem dX5_countBlocks_6 : decode cX5_countBlocks 6 = .ok (.getfield 73, 3) := by decide +kernel
theorem dX5_countBlocks_9 : decode cX5_countBlocks 9 = .ok (.if_icmp .ge 18, 3) := by decide +kernel
theorem dX5_countBlocks_12 : decode cX5_countBlocks 12 = .ok (.iload_n 2, 1) := by decide +kernel
theorem dX5_countBlocks_13 : decode cX5_countBlocks 13 = .ok (.aload_n 0, 1) := by decide +kernel
theorem dX5_countBlocks_14 : decode cX5_countBlocks 14 = .ok (.aload_n 1, 1) := by decide +kernel
theorem dX5_countBlocks_15 : decode cX5_countBlocks 15 = .ok (.iload_n 3, 1) := by decide +kernel
theorem dX5_countBlocks_16 : decode cX5_countBlocks 16 = .ok (.invokevirtual 250, 3) := by decide +kernel
theorem dX5_countBlocks_19 : decode cX5_countBlocks 19 = .ok (.iadd, 1) := by decide +kernel
theorem dX5_countBlocks_20 : decode cX5_countBlocks 20 = .ok (.istore_n 2, 1) := by decide +kernel
theorem dX5_countBlocks_21 : decode cX5_countBlocks 21 = .ok (.iinc 3 1, 3) := by decide +kernel
theorem dX5_countBlocks_24 : decode cX5_countBlocks 24 = .ok (.goto (-20), 3) := by decide +kernel
theorem dX5_countBlocks_27 : decode cX5_countBlocks 27 = .ok (.iload_n 2, 1) := by decide +kernel
theorem dX5_countBlocks_28 : decode cX5_countBlocks 28 = .ok (.ireturn, 1) := by decide +kernel
set_option maxRecDepth 20000 in
theorem ggX5_countBlocksAt_X2_isBrokenAt : GoodIn wsX5_countBlocksAt wsX2_isBrokenAt := goodIn_r _ [8, 9, 10, 11, 12, 13, 14, 15, 16, 17, 49, 50, 51, 52, 46, 47, 48] (by decide +kernel) (by decide +kernel)
set_option maxRecDepth 20000 in
theorem gX5_countBlocksAt_X2_isBrokenAt : GoodIn wsX5_countBlocksAt (wsV RX5 246 RX2 yX2_isBrokenAt wsX2_isBrokenAt) := goodIn_app (goodIn_of _ (by decide +kernel)) ggX5_countBlocksAt_X2_isBrokenAt
set_option maxRecDepth 20000 in
theorem ggX5_countBlocksAt_X5_isBlocking : GoodIn wsX5_countBlocksAt wsX5_isBlocking := goodIn_r _ [22, 2, 23, 24, 25, 26, 21, 27, 28, 29, 30, 31, 32, 33, 34, 35, 36, 37, 38, 39, 40, 41, 42, 43, 44, 45, 49, 50, 51, 52, 53, 54, 55] (by decide +kernel) (by decide +kernel)
set_option maxRecDepth 20000 in
theorem gX5_countBlocksAt_X5_isBlocking : GoodIn wsX5_countBlocksAt (wsV RX5 282 RX5 yX5_isBlocking wsX5_isBlocking) := goodIn_app (goodIn_of _ (by decide +kernel)) ggX5_countBlocksAt_X5_isBlocking
theorem dX5_countBlocksAt_0 : decode cX5_countBlocksAt 0 = .ok (.iconst 0, 1) := by decide +kernel
theorem dX5_countBlocksAt_1 : decode cX5_countBlocksAt 1 = .ok (.istore_n 3, 1) := by decide +kernel
theorem dX5_countBlocksAt_2 : decode cX5_countBlocksAt 2 = .ok (.iconst 0, 1) := by decide +kernel
theorem dX5_countBlocksAt_3 : decode cX5_countBlocksAt 3 = .ok (.istore 4, 2) := by decide +kernel
theorem dX5_countBlocksAt_5 : decode cX5_countBlocksAt 5 = .ok (.iload 4, 2) := by decide +kernel
theorem dX5_countBlocksAt_7 : decode cX5_countBlocksAt 7 = .ok (.aload_n 0, 1) := by decide +kernel
theorem dX5_countBlocksAt_8 : decode cX5_countBlocksAt 8 = .ok (.getfield 199, 3) := by decide +kernel
theorem dX5_countBlocksAt_11 : decode cX5_countBlocksAt 11 = .ok (.if_icmp .ge 42, 3) := by decide +kernel
theorem dX5_countBlocksAt_14 : decode cX5_countBlocksAt 14 = .ok (.aload_n 0, 1) := by decide +kernel
theorem dX5_countBlocksAt_15 : decode cX5_countBlocksAt 15 = .ok (.getfield 24, 3) := by decide +kernel
theorem dX5_countBlocksAt_18 : decode cX5_countBlocksAt 18 = .ok (.iload 4, 2) := by decide +kernel
theorem dX5_countBlocksAt_20 : decode cX5_countBlocksAt 20 = .ok (.aaload, 1) := by decide +kernel
theorem dX5_countBlocksAt_21 : decode cX5_countBlocksAt 21 = .ok (.aload_n 1, 1) := by decide +kernel
theorem dX5_countBlocksAt_22 : decode cX5_countBlocksAt 22 = .ok (.iload_n 2, 1) := by decide +kernel
theorem dX5_countBlocksAt_23 : decode cX5_countBlocksAt 23 = .ok (.invokevirtual 246, 3) := by decide +kernel
theorem dX5_countBlocksAt_26 : decode cX5_countBlocksAt 26 = .ok (.ifCond .eq 21, 3) := by decide +kernel
theorem dX5_countBlocksAt_29 : decode cX5_countBlocksAt 29 = .ok (.aload_n 0, 1) := by decide +kernel
theorem dX5_countBlocksAt_30 : decode cX5_countBlocksAt 30 = .ok (.iload 4, 2) := by decide +kernel
theorem dX5_countBlocksAt_32 : decode cX5_countBlocksAt 32 = .ok (.aload_n 1, 1) := by decide +kernel
theorem dX5_countBlocksAt_33 : decode cX5_countBlocksAt 33 = .ok (.getfield 149, 3) := by decide +kernel
theorem dX5_countBlocksAt_36 : decode cX5_countBlocksAt 36 = .ok (.iload_n 2, 1) := by decide +kernel
theorem dX5_countBlocksAt_37 : decode cX5_countBlocksAt 37 = .ok (.iaload, 1) := by decide +kernel
theorem dX5_countBlocksAt_38 : decode cX5_countBlocksAt 38 = .ok (.invokevirtual 282, 3) := by decide +kernel
theorem dX5_countBlocksAt_41 : decode cX5_countBlocksAt 41 = .ok (.ifCond .eq 6, 3) := by decide +kernel
theorem dX5_countBlocksAt_44 : decode cX5_countBlocksAt 44 = .ok (.iinc 3 1, 3) := by decide +kernel
theorem dX5_countBlocksAt_47 : decode cX5_countBlocksAt 47 = .ok (.iinc 4 1, 3) := by decide +kernel
theorem dX5_countBlocksAt_50 : decode cX5_countBlocksAt 50 = .ok (.goto (-45), 3) := by decide +kernel
theorem dX5_countBlocksAt_53 : decode cX5_countBlocksAt 53 = .ok (.iload_n 3, 1) := by decide +kernel
theorem dX5_countBlocksAt_54 : decode cX5_countBlocksAt 54 = .ok (.ireturn, 1) := by decide +kernel
set_option maxRecDepth 20000 in
theorem ggX5_isBlocking_X5_isWaived : GoodIn wsX5_isBlocking wsX5_isWaived := goodIn_r _ [7, 8, 9, 10, 11, 12, 13, 14, 15, 16, 17, 18, 19, 20, 21, 22, 23, 24, 25, 30, 31, 32] (by decide +kernel) (by decide +kernel)
set_option maxRecDepth 20000 in
theorem gX5_isBlocking_X5_isWaived : GoodIn wsX5_isBlocking (wsV RX5 286 RX5 yX5_isWaived wsX5_isWaived) := goodIn_app (goodIn_of _ (by decide +kernel)) ggX5_isBlocking_X5_isWaived
theorem dX5_isBlocking_0 : decode cX5_isBlocking 0 = .ok (.aload_n 0, 1) := by decide +kernel
theorem dX5_isBlocking_1 : decode cX5_isBlocking 1 = .ok (.getfield 24, 3) := by decide +kernel
theorem dX5_isBlocking_4 : decode cX5_isBlocking 4 = .ok (.iload_n 1, 1) := by decide +kernel
theorem dX5_isBlocking_5 : decode cX5_isBlocking 5 = .ok (.aaload, 1) := by decide +kernel
theorem dX5_isBlocking_6 : decode cX5_isBlocking 6 = .ok (.getfield 204, 3) := by decide +kernel
theorem dX5_isBlocking_9 : decode cX5_isBlocking 9 = .ok (.istore_n 3, 1) := by decide +kernel
theorem dX5_isBlocking_10 : decode cX5_isBlocking 10 = .ok (.iload_n 3, 1) := by decide +kernel
theorem dX5_isBlocking_11 : decode cX5_isBlocking 11 = .ok (.ifCond .eq 17, 3) := by decide +kernel
theorem dX5_isBlocking_14 : decode cX5_isBlocking 14 = .ok (.iload_n 3, 1) := by decide +kernel
theorem dX5_isBlocking_15 : decode cX5_isBlocking 15 = .ok (.iconst 1, 1) := by decide +kernel
theorem dX5_isBlocking_16 : decode cX5_isBlocking 16 = .ok (.if_icmp .ne 16, 3) := by decide +kernel
theorem dX5_isBlocking_19 : decode cX5_isBlocking 19 = .ok (.aload_n 0, 1) := by decide +kernel
theorem dX5_isBlocking_20 : decode cX5_isBlocking 20 = .ok (.iload_n 1, 1) := by decide +kernel
theorem dX5_isBlocking_21 : decode cX5_isBlocking 21 = .ok (.iload_n 2, 1) := by decide +kernel
theorem dX5_isBlocking_22 : decode cX5_isBlocking 22 = .ok (.invokevirtual 286, 3) := by decide +kernel
theorem dX5_isBlocking_25 : decode cX5_isBlocking 25 = .ok (.ifCond .ne 7, 3) := by decide +kernel
theorem dX5_isBlocking_28 : decode cX5_isBlocking 28 = .ok (.iconst 1, 1) := by decide +kernel
theorem dX5_isBlocking_29 : decode cX5_isBlocking 29 = .ok (.goto 4, 3) := by decide +kernel
theorem dX5_isBlocking_32 : decode cX5_isBlocking 32 = .ok (.iconst 0, 1) := by decide +kernel
theorem dX5_isBlocking_33 : decode cX5_isBlocking 33 = .ok (.ireturn, 1) := by decide +kernel
theorem dX5_isWaived_0 : decode cX5_isWaived 0 = .ok (.iconst 0, 1) := by decide +kernel
theorem dX5_isWaived_1 : decode cX5_isWaived 1 = .ok (.istore_n 3, 1) := by decide +kernel
theorem dX5_isWaived_2 : decode cX5_isWaived 2 = .ok (.iload_n 3, 1) := by decide +kernel
theorem dX5_isWaived_3 : decode cX5_isWaived 3 = .ok (.aload_n 0, 1) := by decide +kernel
theorem dX5_isWaived_4 : decode cX5_isWaived 4 = .ok (.getfield 232, 3) := by decide +kernel
theorem dX5_isWaived_7 : decode cX5_isWaived 7 = .ok (.if_icmp .ge 49, 3) := by decide +kernel
theorem dX5_isWaived_10 : decode cX5_isWaived 10 = .ok (.aload_n 0, 1) := by decide +kernel
theorem dX5_isWaived_11 : decode cX5_isWaived 11 = .ok (.getfield 30, 3) := by decide +kernel
theorem dX5_isWaived_14 : decode cX5_isWaived 14 = .ok (.iload_n 3, 1) := by decide +kernel
theorem dX5_isWaived_15 : decode cX5_isWaived 15 = .ok (.aaload, 1) := by decide +kernel
theorem dX5_isWaived_16 : decode cX5_isWaived 16 = .ok (.astore 4, 2) := by decide +kernel
theorem dX5_isWaived_18 : decode cX5_isWaived 18 = .ok (.aload 4, 2) := by decide +kernel
theorem dX5_isWaived_20 : decode cX5_isWaived 20 = .ok (.getfield 237, 3) := by decide +kernel
theorem dX5_isWaived_23 : decode cX5_isWaived 23 = .ok (.iload_n 1, 1) := by decide +kernel
theorem dX5_isWaived_24 : decode cX5_isWaived 24 = .ok (.if_icmp .ne 26, 3) := by decide +kernel
theorem dX5_isWaived_27 : decode cX5_isWaived 27 = .ok (.aload 4, 2) := by decide +kernel
theorem dX5_isWaived_29 : decode cX5_isWaived 29 = .ok (.getfield 240, 3) := by decide +kernel
theorem dX5_isWaived_32 : decode cX5_isWaived 32 = .ok (.iload_n 2, 1) := by decide +kernel
theorem dX5_isWaived_33 : decode cX5_isWaived 33 = .ok (.if_icmp .ne 17, 3) := by decide +kernel
theorem dX5_isWaived_36 : decode cX5_isWaived 36 = .ok (.aload 4, 2) := by decide +kernel
theorem dX5_isWaived_38 : decode cX5_isWaived 38 = .ok (.getfield 243, 3) := by decide +kernel
theorem dX5_isWaived_41 : decode cX5_isWaived 41 = .ok (.aload_n 0, 1) := by decide +kernel
theorem dX5_isWaived_42 : decode cX5_isWaived 42 = .ok (.getfield 225, 3) := by decide +kernel
theorem dX5_isWaived_45 : decode cX5_isWaived 45 = .ok (.if_icmp .lt 5, 3) := by decide +kernel
theorem dX5_isWaived_48 : decode cX5_isWaived 48 = .ok (.iconst 1, 1) := by decide +kernel
theorem dX5_isWaived_49 : decode cX5_isWaived 49 = .ok (.ireturn, 1) := by decide +kernel
theorem dX5_isWaived_50 : decode cX5_isWaived 50 = .ok (.iinc 3 1, 3) := by decide +kernel
theorem dX5_isWaived_53 : decode cX5_isWaived 53 = .ok (.goto (-51), 3) := by decide +kernel
theorem dX5_isWaived_56 : decode cX5_isWaived 56 = .ok (.iconst 0, 1) := by decide +kernel
theorem dX5_isWaived_57 : decode cX5_isWaived 57 = .ok (.ireturn, 1) := by decide +kernel
set_option maxRecDepth 20000 in
theorem ggX5_blockedVersions_X5_countBlocks : GoodIn wsX5_blockedVersions wsX5_countBlocks := goodIn_r _ [8, 9, 10, 11, 12, 7, 13, 14, 15, 16, 17, 18, 19, 20, 21, 22, 23, 24, 25, 26, 27, 28, 29, 30, 31, 32, 33, 34, 35, 36, 37, 38, 39, 40, 41, 42, 43, 44, 45, 63, 64, 65, 46, 47, 48, 49, 50, 51, 52, 53, 54, 55, 56, 57, 66, 67, 68, 69, 70, 71, 72] (by decide +kernel) (by decide +kernel)
set_option maxRecDepth 20000 in
theorem gX5_blockedVersions_X5_countBlocks : GoodIn wsX5_blockedVersions (wsV RX5 185 RX5 yX5_countBlocks wsX5_countBlocks) := goodIn_app (goodIn_of _ (by decide +kernel)) ggX5_blockedVersions_X5_countBlocks
theorem dX5_blockedVersions_0 : decode cX5_blockedVersions 0 = .ok (.lconst 0, 1) := by decide +kernel
theorem dX5_blockedVersions_1 : decode cX5_blockedVersions 1 = .ok (.lstore_n 1, 1) := by decide +kernel
theorem dX5_blockedVersions_2 : decode cX5_blockedVersions 2 = .ok (.iconst 0, 1) := by decide +kernel
theorem dX5_blockedVersions_3 : decode cX5_blockedVersions 3 = .ok (.istore_n 3, 1) := by decide +kernel
theorem dX5_blockedVersions_4 : decode cX5_blockedVersions 4 = .ok (.iload_n 3, 1) := by decide +kernel
theorem dX5_blockedVersions_5 : decode cX5_blockedVersions 5 = .ok (.aload_n 0, 1) := by decide +kernel
theorem dX5_blockedVersions_6 : decode cX5_blockedVersions 6 = .ok (.getfield 48, 3) := by decide +kernel
theorem dX5_blockedVersions_9 : decode cX5_blockedVersions 9 = .ok (.if_icmp .ge 31, 3) := by decide +kernel
theorem dX5_blockedVersions_12 : decode cX5_blockedVersions 12 = .ok (.aload_n 0, 1) := by decide +kernel
theorem dX5_blockedVersions_13 : decode cX5_blockedVersions 13 = .ok (.aload_n 0, 1) := by decide +kernel
theorem dX5_blockedVersions_14 : decode cX5_blockedVersions 14 = .ok (.getfield 11, 3) := by decide +kernel
theorem dX5_blockedVersions_17 : decode cX5_blockedVersions 17 = .ok (.iload_n 3, 1) := by decide +kernel
theorem dX5_blockedVersions_18 : decode cX5_blockedVersions 18 = .ok (.aaload, 1) := by decide +kernel
theorem dX5_blockedVersions_19 : decode cX5_blockedVersions 19 = .ok (.getfield 130, 3) := by decide +kernel
theorem dX5_blockedVersions_22 : decode cX5_blockedVersions 22 = .ok (.invokevirtual 185, 3) := by decide +kernel
theorem dX5_blockedVersions_25 : decode cX5_blockedVersions 25 = .ok (.ifCond .le 9, 3) := by decide +kernel
theorem dX5_blockedVersions_28 : decode cX5_blockedVersions 28 = .ok (.lload_n 1, 1) := by decide +kernel
theorem dX5_blockedVersions_29 : decode cX5_blockedVersions 29 = .ok (.lconst 1, 1) := by decide +kernel
theorem dX5_blockedVersions_30 : decode cX5_blockedVersions 30 = .ok (.iload_n 3, 1) := by decide +kernel
theorem dX5_blockedVersions_31 : decode cX5_blockedVersions 31 = .ok (.lshl, 1) := by decide +kernel
theorem dX5_blockedVersions_32 : decode cX5_blockedVersions 32 = .ok (.lor, 1) := by decide +kernel
theorem dX5_blockedVersions_33 : decode cX5_blockedVersions 33 = .ok (.lstore_n 1, 1) := by decide +kernel
theorem dX5_blockedVersions_34 : decode cX5_blockedVersions 34 = .ok (.iinc 3 1, 3) := by decide +kernel
theorem dX5_blockedVersions_37 : decode cX5_blockedVersions 37 = .ok (.goto (-33), 3) := by decide +kernel
theorem dX5_blockedVersions_40 : decode cX5_blockedVersions 40 = .ok (.lload_n 1, 1) := by decide +kernel
theorem dX5_blockedVersions_41 : decode cX5_blockedVersions 41 = .ok (.lreturn, 1) := by decide +kernel
