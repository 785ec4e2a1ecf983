theorem dX6_init_0 : decode cX6_init 0 = .ok (.aload_n 0, 1) := by decide +kernel
theorem dX6_init_1 : decode cX6_init 1 = .ok (.invokespecial 1, 3) := by decide +kernel
theorem dX6_init_4 : decode cX6_init 4 = .ok (.aload_n 0, 1) := by decide +kernel
theorem dX6_init_5 : decode cX6_init 5 = .ok (.iconst 1, 1) := by decide +kernel
theorem dX6_init_6 : decode cX6_init 6 = .ok (.putfield 7, 3) := by decide +kernel
theorem dX6_init_9 : decode cX6_init 9 = .ok (.aload_n 0, 1) := by decide +kernel
theorem dX6_init_10 : decode cX6_init 10 = .ok (.bipush 40, 2) := by decide +kernel
theorem dX6_init_12 : decode cX6_init 12 = .ok (.newarray .int, 2) := by decide +kernel
theorem dX6_init_14 : decode cX6_init 14 = .ok (.putfield 13, 3) := by decide +kernel
theorem dX6_init_17 : decode cX6_init 17 = .ok (.aload_n 0, 1) := by decide +kernel
theorem dX6_init_18 : decode cX6_init 18 = .ok (.bipush 40, 2) := by decide +kernel
theorem dX6_init_20 : decode cX6_init 20 = .ok (.newarray .int, 2) := by decide +kernel
theorem dX6_init_22 : decode cX6_init 22 = .ok (.putfield 17, 3) := by decide +kernel
theorem dX6_init_25 : decode cX6_init 25 = .ok (.aload_n 0, 1) := by decide +kernel
theorem dX6_init_26 : decode cX6_init 26 = .ok (.bipush 40, 2) := by decide +kernel
theorem dX6_init_28 : decode cX6_init 28 = .ok (.newarray .int, 2) := by decide +kernel
theorem dX6_init_30 : decode cX6_init 30 = .ok (.putfield 20, 3) := by decide +kernel
theorem dX6_init_33 : decode cX6_init 33 = .ok (.aload_n 0, 1) := by decide +kernel
theorem dX6_init_34 : decode cX6_init 34 = .ok (.bipush 40, 2) := by decide +kernel
theorem dX6_init_36 : decode cX6_init 36 = .ok (.newarray .int, 2) := by decide +kernel
theorem dX6_init_38 : decode cX6_init 38 = .ok (.putfield 23, 3) := by decide +kernel
theorem dX6_init_41 : decode cX6_init 41 = .ok (.aload_n 0, 1) := by decide +kernel
theorem dX6_init_42 : decode cX6_init 42 = .ok (.sipush 320, 3) := by decide +kernel
theorem dX6_init_45 : decode cX6_init 45 = .ok (.newarray .int, 2) := by decide +kernel
theorem dX6_init_47 : decode cX6_init 47 = .ok (.putfield 26, 3) := by decide +kernel
theorem dX6_init_50 : decode cX6_init 50 = .ok (.aload_n 0, 1) := by decide +kernel
theorem dX6_init_51 : decode cX6_init 51 = .ok (.sipush 1280, 3) := by decide +kernel
theorem dX6_init_54 : decode cX6_init 54 = .ok (.newarray .int, 2) := by decide +kernel
theorem dX6_init_56 : decode cX6_init 56 = .ok (.putfield 29, 3) := by decide +kernel
theorem dX6_init_59 : decode cX6_init 59 = .ok (.aload_n 0, 1) := by decide +kernel
theorem dX6_init_60 : decode cX6_init 60 = .ok (.iconst 1, 1) := by decide +kernel
theorem dX6_init_61 : decode cX6_init 61 = .ok (.putfield 32, 3) := by decide +kernel
theorem dX6_init_64 : decode cX6_init 64 = .ok (.aload_n 0, 1) := by decide +kernel
theorem dX6_init_65 : decode cX6_init 65 = .ok (.bipush 6, 2) := by decide +kernel
theorem dX6_init_67 : decode cX6_init 67 = .ok (.newarray .int, 2) := by decide +kernel
theorem dX6_init_69 : decode cX6_init 69 = .ok (.putfield 35, 3) := by decide +kernel
theorem dX6_init_72 : decode cX6_init 72 = .ok (.aload_n 0, 1) := by decide +kernel
theorem dX6_init_73 : decode cX6_init 73 = .ok (.bipush 6, 2) := by decide +kernel
theorem dX6_init_75 : decode cX6_init 75 = .ok (.newarray .int, 2) := by decide +kernel
theorem dX6_init_77 : decode cX6_init 77 = .ok (.putfield 38, 3) := by decide +kernel
theorem dX6_init_80 : decode cX6_init 80 = .ok (.aload_n 0, 1) := by decide +kernel
theorem dX6_init_81 : decode cX6_init 81 = .ok (.bipush 8, 2) := by decide +kernel
theorem dX6_init_83 : decode cX6_init 83 = .ok (.newarray .int, 2) := by decide +kernel
theorem dX6_init_85 : decode cX6_init 85 = .ok (.putfield 41, 3) := by decide +kernel
theorem dX6_init_88 : decode cX6_init 88 = .ok (.aload_n 0, 1) := by decide +kernel
theorem dX6_init_89 : decode cX6_init 89 = .ok (.bipush 8, 2) := by decide +kernel
theorem dX6_init_91 : decode cX6_init 91 = .ok (.newarray .int, 2) := by decide +kernel
theorem dX6_init_93 : decode cX6_init 93 = .ok (.putfield 44, 3) := by decide +kernel
theorem dX6_init_96 : decode cX6_init 96 = .ok (.aload_n 0, 1) := by decide +kernel
theorem dX6_init_97 : decode cX6_init 97 = .ok (.bipush 8, 2) := by decide +kernel
theorem dX6_init_99 : decode cX6_init 99 = .ok (.newarray .int, 2) := by decide +kernel
theorem dX6_init_101 : decode cX6_init 101 = .ok (.putfield 47, 3) := by decide +kernel
theorem dX6_init_104 : decode cX6_init 104 = .ok (.aload_n 0, 1) := by decide +kernel
theorem dX6_init_105 : decode cX6_init 105 = .ok (.bipush 8, 2) := by decide +kernel
theorem dX6_init_107 : decode cX6_init 107 = .ok (.newarray .int, 2) := by decide +kernel
theorem dX6_init_109 : decode cX6_init 109 = .ok (.putfield 50, 3) := by decide +kernel
theorem dX6_init_112 : decode cX6_init 112 = .ok (.aload_n 0, 1) := by decide +kernel
theorem dX6_init_113 : decode cX6_init 113 = .ok (.bipush 12, 2) := by decide +kernel
theorem dX6_init_115 : decode cX6_init 115 = .ok (.newarray .int, 2) := by decide +kernel
theorem dX6_init_117 : decode cX6_init 117 = .ok (.putfield 53, 3) := by decide +kernel
theorem dX6_init_120 : decode cX6_init 120 = .ok (.aload_n 0, 1) := by decide +kernel
theorem dX6_init_121 : decode cX6_init 121 = .ok (.bipush 12, 2) := by decide +kernel
theorem dX6_init_123 : decode cX6_init 123 = .ok (.newarray .int, 2) := by decide +kernel
theorem dX6_init_125 : decode cX6_init 125 = .ok (.putfield 56, 3) := by decide +kernel
theorem dX6_init_128 : decode cX6_init 128 = .ok (.aload_n 0, 1) := by decide +kernel
theorem dX6_init_129 : decode cX6_init 129 = .ok (.bipush 12, 2) := by decide +kernel
theorem dX6_init_131 : decode cX6_init 131 = .ok (.newarray .int, 2) := by decide +kernel
theorem dX6_init_133 : decode cX6_init 133 = .ok (.putfield 59, 3) := by decide +kernel
theorem dX6_init_136 : decode cX6_init 136 = .ok (.aload_n 0, 1) := by decide +kernel
theorem dX6_init_137 : decode cX6_init 137 = .ok (.bipush 20, 2) := by decide +kernel
theorem dX6_init_139 : decode cX6_init 139 = .ok (.newarray .int, 2) := by decide +kernel
theorem dX6_init_141 : decode cX6_init 141 = .ok (.putfield 62, 3) := by decide +kernel
theorem dX6_init_144 : decode cX6_init 144 = .ok (.aload_n 0, 1) := by decide +kernel
theorem dX6_init_145 : decode cX6_init 145 = .ok (.bipush 80, 2) := by decide +kernel
theorem dX6_init_147 : decode cX6_init 147 = .ok (.newarray .int, 2) := by decide +kernel
theorem dX6_init_149 : decode cX6_init 149 = .ok (.putfield 65, 3) := by decide +kernel
theorem dX6_init_152 : decode cX6_init 152 = .ok (.aload_n 0, 1) := by decide +kernel
theorem dX6_init_153 : decode cX6_init 153 = .ok (.bipush 40, 2) := by decide +kernel
theorem dX6_init_155 : decode cX6_init 155 = .ok (.newarray .boolean, 2) := by decide +kernel
theorem dX6_init_157 : decode cX6_init 157 = .ok (.putfield 68, 3) := by decide +kernel
theorem dX6_init_160 : decode cX6_init 160 = .ok (.aload_n 0, 1) := by decide +kernel
theorem dX6_init_161 : decode cX6_init 161 = .ok (.bipush 40, 2) := by decide +kernel
theorem dX6_init_163 : decode cX6_init 163 = .ok (.newarray .boolean, 2) := by decide +kernel
theorem dX6_init_165 : decode cX6_init 165 = .ok (.putfield 72, 3) := by decide +kernel
theorem dX6_init_168 : decode cX6_init 168 = .ok (.aload_n 0, 1) := by decide +kernel
theorem dX6_init_169 : decode cX6_init 169 = .ok (.bipush 40, 2) := by decide +kernel
theorem dX6_init_171 : decode cX6_init 171 = .ok (.newarray .boolean, 2) := by decide +kernel
theorem dX6_init_173 : decode cX6_init 173 = .ok (.putfield 75, 3) := by decide +kernel
theorem dX6_init_176 : decode cX6_init 176 = .ok (.aload_n 0, 1) := by decide +kernel
theorem dX6_init_177 : decode cX6_init 177 = .ok (.getfield 17, 3) := by decide +kernel
theorem dX6_init_180 : decode cX6_init 180 = .ok (.iconst 0, 1) := by decide +kernel
theorem dX6_init_181 : decode cX6_init 181 = .ok (.iconst (-1), 1) := by decide +kernel
theorem dX6_init_182 : decode cX6_init 182 = .ok (.iastore, 1) := by decide +kernel
theorem dX6_init_183 : decode cX6_init 183 = .ok (.aload_n 0, 1) := by decide +kernel
theorem dX6_init_184 : decode cX6_init 184 = .ok (.getfield 20, 3) := by decide +kernel
theorem dX6_init_187 : decode cX6_init 187 = .ok (.iconst 0, 1) := by decide +kernel
theorem dX6_init_188 : decode cX6_init 188 = .ok (.iconst (-1), 1) := by decide +kernel
theorem dX6_init_189 : decode cX6_init 189 = .ok (.iastore, 1) := by decide +kernel
theorem dX6_init_190 : decode cX6_init 190 = .ok (.iconst 0, 1) := by decide +kernel
theorem dX6_init_191 : decode cX6_init 191 = .ok (.istore_n 1, 1) := by decide +kernel
theorem dX6_init_192 : decode cX6_init 192 = .ok (.iload_n 1, 1) := by decide +kernel
theorem dX6_init_193 : decode cX6_init 193 = .ok (.bipush 6, 2) := by decide +kernel
theorem dX6_init_195 : decode cX6_init 195 = .ok (.if_icmp .ge 16, 3) := by decide +kernel
theorem dX6_init_198 : decode cX6_init 198 = .ok (.aload_n 0, 1) := by decide +kernel
theorem dX6_init_199 : decode cX6_init 199 = .ok (.getfield 38, 3) := by decide +kernel
theorem dX6_init_202 : decode cX6_init 202 = .ok (.iload_n 1, 1) := by decide +kernel
theorem dX6_init_203 : decode cX6_init 203 = .ok (.iconst (-1), 1) := by decide +kernel
theorem dX6_init_204 : decode cX6_init 204 = .ok (.iastore, 1) := by decide +kernel
theorem dX6_init_205 : decode cX6_init 205 = .ok (.iinc 1 1, 3) := by decide +kernel
theorem dX6_init_208 : decode cX6_init 208 = .ok (.goto (-16), 3) := by decide +kernel
theorem dX6_init_211 : decode cX6_init 211 = .ok (.return_, 1) := by decide +kernel
theorem dX6_thrown_0 : decode cX6_thrown 0 = .ok (.aload_n 0, 1) := by decide +kernel
theorem dX6_thrown_1 : decode cX6_thrown 1 = .ok (.getfield 78, 3) := by decide +kernel
theorem dX6_thrown_4 : decode cX6_thrown 4 = .ok (.ireturn, 1) := by decide +kernel
theorem dX6_in_0 : decode cX6_in 0 = .ok (.iload_n 0, 1) := by decide +kernel
theorem dX6_in_1 : decode cX6_in 1 = .ok (.iload_n 1, 1) := by decide +kernel
theorem dX6_in_2 : decode cX6_in 2 = .ok (.if_icmp .lt 12, 3) := by decide +kernel
theorem dX6_in_5 : decode cX6_in 5 = .ok (.iload_n 0, 1) := by decide +kernel
theorem dX6_in_6 : decode cX6_in 6 = .ok (.iload_n 2, 1) := by decide +kernel
theorem dX6_in_7 : decode cX6_in 7 = .ok (.if_icmp .gt 7, 3) := by decide +kernel
theorem dX6_in_10 : decode cX6_in 10 = .ok (.iconst 1, 1) := by decide +kernel
theorem dX6_in_11 : decode cX6_in 11 = .ok (.goto 4, 3) := by decide +kernel
theorem dX6_in_14 : decode cX6_in 14 = .ok (.iconst 0, 1) := by decide +kernel
theorem dX6_in_15 : decode cX6_in 15 = .ok (.ireturn, 1) := by decide +kernel
set_option maxRecDepth 20000 in
theorem ggX6_isVersion_X6_in : GoodIn wsX6_isVersion wsX6_in := goodIn_r _ [5] (by decide +kernel) (by decide +kernel)
set_option maxRecDepth 20000 in
theorem gX6_isVersion_X6_in : GoodIn wsX6_isVersion (va_wsS RX6 81 yX6_in wsX6_in) := goodIn_app (goodIn_of _ (by decide +kernel)) ggX6_isVersion_X6_in
theorem dX6_isVersion_0 : decode cX6_isVersion 0 = .ok (.iload_n 1, 1) := by decide +kernel
theorem dX6_isVersion_1 : decode cX6_isVersion 1 = .ok (.iconst 0, 1) := by decide +kernel
theorem dX6_isVersion_2 : decode cX6_isVersion 2 = .ok (.aload_n 0, 1) := by decide +kernel
theorem dX6_isVersion_3 : decode cX6_isVersion 3 = .ok (.getfield 7, 3) := by decide +kernel
theorem dX6_isVersion_6 : decode cX6_isVersion 6 = .ok (.iconst 1, 1) := by decide +kernel
theorem dX6_isVersion_7 : decode cX6_isVersion 7 = .ok (.isub, 1) := by decide +kernel
theorem dX6_isVersion_8 : decode cX6_isVersion 8 = .ok (.invokestatic 81, 3) := by decide +kernel
theorem dX6_isVersion_11 : decode cX6_isVersion 11 = .ok (.ireturn, 1) := by decide +kernel
set_option maxRecDepth 20000 in
theorem ggX6_isBranch_X6_in : GoodIn wsX6_isBranch wsX6_in := goodIn_r _ [5] (by decide +kernel) (by decide +kernel)
set_option maxRecDepth 20000 in
theorem gX6_isBranch_X6_in : GoodIn wsX6_isBranch (va_wsS RX6 81 yX6_in wsX6_in) := goodIn_app (goodIn_of _ (by decide +kernel)) ggX6_isBranch_X6_in
theorem dX6_isBranch_0 : decode cX6_isBranch 0 = .ok (.iload_n 1, 1) := by decide +kernel
theorem dX6_isBranch_1 : decode cX6_isBranch 1 = .ok (.iconst 0, 1) := by decide +kernel
theorem dX6_isBranch_2 : decode cX6_isBranch 2 = .ok (.aload_n 0, 1) := by decide +kernel
theorem dX6_isBranch_3 : decode cX6_isBranch 3 = .ok (.getfield 32, 3) := by decide +kernel
theorem dX6_isBranch_6 : decode cX6_isBranch 6 = .ok (.iconst 1, 1) := by decide +kernel
theorem dX6_isBranch_7 : decode cX6_isBranch 7 = .ok (.isub, 1) := by decide +kernel
theorem dX6_isBranch_8 : decode cX6_isBranch 8 = .ok (.invokestatic 81, 3) := by decide +kernel
theorem dX6_isBranch_11 : decode cX6_isBranch 11 = .ok (.ireturn, 1) := by decide +kernel
set_option maxRecDepth 20000 in
theorem ggX6_isObject_X6_in : GoodIn wsX6_isObject wsX6_in := goodIn_r _ [4] (by decide +kernel) (by decide +kernel)
set_option maxRecDepth 20000 in
theorem gX6_isObject_X6_in : GoodIn wsX6_isObject (va_wsS RX6 81 yX6_in wsX6_in) := goodIn_app (goodIn_of _ (by decide +kernel)) ggX6_isObject_X6_in
theorem dX6_isObject_0 : decode cX6_isObject 0 = .ok (.iload_n 0, 1) := by decide +kernel
theorem dX6_isObject_1 : decode cX6_isObject 1 = .ok (.iconst 0, 1) := by decide +kernel
theorem dX6_isObject_2 : decode cX6_isObject 2 = .ok (.iconst 3, 1) := by decide +kernel
theorem dX6_isObject_3 : decode cX6_isObject 3 = .ok (.invokestatic 81, 3) := by decide +kernel
theorem dX6_isObject_6 : decode cX6_isObject 6 = .ok (.ireturn, 1) := by decide +kernel
theorem dX6_placeOf_0 : decode cX6_placeOf 0 = .ok (.iconst 0, 1) := by decide +kernel
theorem dX6_placeOf_1 : decode cX6_placeOf 1 = .ok (.istore_n 3, 1) := by decide +kernel
theorem dX6_placeOf_2 : decode cX6_placeOf 2 = .ok (.iload_n 3, 1) := by decide +kernel
theorem dX6_placeOf_3 : decode cX6_placeOf 3 = .ok (.aload_n 0, 1) := by decide +kernel
theorem dX6_placeOf_4 : decode cX6_placeOf 4 = .ok (.getfield 23, 3) := by decide +kernel
theorem dX6_placeOf_7 : decode cX6_placeOf 7 = .ok (.iload_n 1, 1) := by decide +kernel
theorem dX6_placeOf_8 : decode cX6_placeOf 8 = .ok (.iaload, 1) := by decide +kernel
theorem dX6_placeOf_9 : decode cX6_placeOf 9 = .ok (.if_icmp .ge 26, 3) := by decide +kernel
theorem dX6_placeOf_12 : decode cX6_placeOf 12 = .ok (.aload_n 0, 1) := by decide +kernel
theorem dX6_placeOf_13 : decode cX6_placeOf 13 = .ok (.getfield 26, 3) := by decide +kernel
theorem dX6_placeOf_16 : decode cX6_placeOf 16 = .ok (.bipush 8, 2) := by decide +kernel
theorem dX6_placeOf_18 : decode cX6_placeOf 18 = .ok (.iload_n 1, 1) := by decide +kernel
theorem dX6_placeOf_19 : decode cX6_placeOf 19 = .ok (.imul, 1) := by decide +kernel
theorem dX6_placeOf_20 : decode cX6_placeOf 20 = .ok (.iload_n 3, 1) := by decide +kernel
theorem dX6_placeOf_21 : decode cX6_placeOf 21 = .ok (.iadd, 1) := by decide +kernel
theorem dX6_placeOf_22 : decode cX6_placeOf 22 = .ok (.iaload, 1) := by decide +kernel
theorem dX6_placeOf_23 : decode cX6_placeOf 23 = .ok (.iload_n 2, 1) := by decide +kernel
theorem dX6_placeOf_24 : decode cX6_placeOf 24 = .ok (.if_icmp .ne 5, 3) := by decide +kernel
theorem dX6_placeOf_27 : decode cX6_placeOf 27 = .ok (.iload_n 3, 1) := by decide +kernel
theorem dX6_placeOf_28 : decode cX6_placeOf 28 = .ok (.ireturn, 1) := by decide +kernel
theorem dX6_placeOf_29 : decode cX6_placeOf 29 = .ok (.iinc 3 1, 3) := by decide +kernel
theorem dX6_placeOf_32 : decode cX6_placeOf 32 = .ok (.goto (-30), 3) := by decide +kernel
theorem dX6_placeOf_35 : decode cX6_placeOf 35 = .ok (.iconst (-1), 1) := by decide +kernel
theorem dX6_placeOf_36 : decode cX6_placeOf 36 = .ok (.ireturn, 1) := by decide +kernel
set_option maxRecDepth 20000 in
theorem ggX6_valueOf_X6_placeOf : GoodIn wsX6_valueOf wsX6_placeOf := goodIn_r _ [6, 7, 8, 9, 10, 11, 12, 13, 14, 15, 16, 17, 18, 19, 20, 21, 22, 23, 24, 25, 26, 27, 28, 29, 30, 31, 32, 33, 34, 35, 36] (by decide +kernel) (by decide +kernel)
set_option maxRecDepth 20000 in
theorem gX6_valueOf_X6_placeOf : GoodIn wsX6_valueOf (wsV RX6 85 RX6 yX6_placeOf wsX6_placeOf) := goodIn_app (goodIn_of _ (by decide +kernel)) ggX6_valueOf_X6_placeOf
theorem dX6_valueOf_0 : decode cX6_valueOf 0 = .ok (.aload_n 0, 1) := by decide +kernel
theorem dX6_valueOf_1 : decode cX6_valueOf 1 = .ok (.getfield 29, 3) := by decide +kernel
theorem dX6_valueOf_4 : decode cX6_valueOf 4 = .ok (.iconst 4, 1) := by decide +kernel
theorem dX6_valueOf_5 : decode cX6_valueOf 5 = .ok (.bipush 8, 2) := by decide +kernel
theorem dX6_valueOf_7 : decode cX6_valueOf 7 = .ok (.iload_n 1, 1) := by decide +kernel
theorem dX6_valueOf_8 : decode cX6_valueOf 8 = .ok (.imul, 1) := by decide +kernel
theorem dX6_valueOf_9 : decode cX6_valueOf 9 = .ok (.aload_n 0, 1) := by decide +kernel
theorem dX6_valueOf_10 : decode cX6_valueOf 10 = .ok (.iload_n 1, 1) := by decide +kernel
theorem dX6_valueOf_11 : decode cX6_valueOf 11 = .ok (.iload_n 2, 1) := by decide +kernel
theorem dX6_valueOf_12 : decode cX6_valueOf 12 = .ok (.invokevirtual 85, 3) := by decide +kernel
theorem dX6_valueOf_15 : decode cX6_valueOf 15 = .ok (.iadd, 1) := by decide +kernel
theorem dX6_valueOf_16 : decode cX6_valueOf 16 = .ok (.imul, 1) := by decide +kernel
theorem dX6_valueOf_17 : decode cX6_valueOf 17 = .ok (.iload_n 3, 1) := by decide +kernel
theorem dX6_valueOf_18 : decode cX6_valueOf 18 = .ok (.iadd, 1) := by decide +kernel
theorem dX6_valueOf_19 : decode cX6_valueOf 19 = .ok (.iaload, 1) := by decide +kernel
theorem dX6_valueOf_20 : decode cX6_valueOf 20 = .ok (.ireturn, 1) := by decide +kernel
set_option maxRecDepth 20000 in
theorem ggX6_branch_X6_isVersion : GoodIn wsX6_branch wsX6_isVersion := goodIn_r _ [8, 9, 10, 11, 7, 12, 13, 14, 15, 16, 17, 18, 19, 20, 21, 22, 23, 24, 25, 26, 27, 28, 29, 30, 31, 32, 33, 34, 35, 36, 37, 38, 39, 40] (by decide +kernel) (by decide +kernel)
set_option maxRecDepth 20000 in
theorem gX6_branch_X6_isVersion : GoodIn wsX6_branch (wsV RX6 89 RX6 yX6_isVersion wsX6_isVersion) := goodIn_app (goodIn_of _ (by decide +kernel)) ggX6_branch_X6_isVersion
theorem dX6_branch_0 : decode cX6_branch 0 = .ok (.aload_n 0, 1) := by decide +kernel
theorem dX6_branch_1 : decode cX6_branch 1 = .ok (.aload_n 0, 1) := by decide +kernel
theorem dX6_branch_2 : decode cX6_branch 2 = .ok (.iload_n 1, 1) := by decide +kernel
theorem dX6_branch_3 : decode cX6_branch 3 = .ok (.invokevirtual 89, 3) := by decide +kernel
theorem dX6_branch_6 : decode cX6_branch 6 = .ok (.ifCond .ne 7, 3) := by decide +kernel
theorem dX6_branch_9 : decode cX6_branch 9 = .ok (.iconst 1, 1) := by decide +kernel
theorem dX6_branch_10 : decode cX6_branch 10 = .ok (.goto 17, 3) := by decide +kernel
theorem dX6_branch_13 : decode cX6_branch 13 = .ok (.aload_n 0, 1) := by decide +kernel
theorem dX6_branch_14 : decode cX6_branch 14 = .ok (.getfield 32, 3) := by decide +kernel
theorem dX6_branch_17 : decode cX6_branch 17 = .ok (.bipush 6, 2) := by decide +kernel
theorem dX6_branch_19 : decode cX6_branch 19 = .ok (.if_icmp .ne 7, 3) := by decide +kernel
theorem dX6_branch_22 : decode cX6_branch 22 = .ok (.iconst 2, 1) := by decide +kernel
theorem dX6_branch_23 : decode cX6_branch 23 = .ok (.goto 4, 3) := by decide +kernel
theorem dX6_branch_26 : decode cX6_branch 26 = .ok (.iconst 0, 1) := by decide +kernel
theorem dX6_branch_27 : decode cX6_branch 27 = .ok (.putfield 78, 3) := by decide +kernel
theorem dX6_branch_30 : decode cX6_branch 30 = .ok (.aload_n 0, 1) := by decide +kernel
theorem dX6_branch_31 : decode cX6_branch 31 = .ok (.getfield 78, 3) := by decide +kernel
theorem dX6_branch_34 : decode cX6_branch 34 = .ok (.ifCond .le 5, 3) := by decide +kernel
theorem dX6_branch_37 : decode cX6_branch 37 = .ok (.iconst 0, 1) := by decide +kernel
theorem dX6_branch_38 : decode cX6_branch 38 = .ok (.ireturn, 1) := by decide +kernel
theorem dX6_branch_39 : decode cX6_branch 39 = .ok (.aload_n 0, 1) := by decide +kernel
theorem dX6_branch_40 : decode cX6_branch 40 = .ok (.getfield 35, 3) := by decide +kernel
theorem dX6_branch_43 : decode cX6_branch 43 = .ok (.aload_n 0, 1) := by decide +kernel
theorem dX6_branch_44 : decode cX6_branch 44 = .ok (.getfield 32, 3) := by decide +kernel
theorem dX6_branch_47 : decode cX6_branch 47 = .ok (.iload_n 1, 1) := by decide +kernel
theorem dX6_branch_48 : decode cX6_branch 48 = .ok (.iastore, 1) := by decide +kernel
theorem dX6_branch_49 : decode cX6_branch 49 = .ok (.aload_n 0, 1) := by decide +kernel
theorem dX6_branch_50 : decode cX6_branch 50 = .ok (.dup, 1) := by decide +kernel
theorem dX6_branch_51 : decode cX6_branch 51 = .ok (.getfield 32, 3) := by decide +kernel
theorem dX6_branch_54 : decode cX6_branch 54 = .ok (.iconst 1, 1) := by decide +kernel
theorem dX6_branch_55 : decode cX6_branch 55 = .ok (.iadd, 1) := by decide +kernel
theorem dX6_branch_56 : decode cX6_branch 56 = .ok (.putfield 32, 3) := by decide +kernel
theorem dX6_branch_59 : decode cX6_branch 59 = .ok (.aload_n 0, 1) := by decide +kernel
theorem dX6_branch_60 : decode cX6_branch 60 = .ok (.getfield 32, 3) := by decide +kernel
theorem dX6_branch_63 : decode cX6_branch 63 = .ok (.iconst 1, 1) := by decide +kernel
theorem dX6_branch_64 : decode cX6_branch 64 = .ok (.isub, 1) := by decide +kernel
theorem dX6_branch_65 : decode cX6_branch 65 = .ok (.ireturn, 1) := by decide +kernel
theorem dX6_edits_0 : decode cX6_edits 0 = .ok (.aload_n 0, 1) := by decide +kernel
theorem dX6_edits_1 : decode cX6_edits 1 = .ok (.getfield 7, 3) := by decide +kernel
theorem dX6_edits_4 : decode cX6_edits 4 = .ok (.istore_n 3, 1) := by decide +kernel
theorem dX6_edits_5 : decode cX6_edits 5 = .ok (.aload_n 0, 1) := by decide +kernel
theorem dX6_edits_6 : decode cX6_edits 6 = .ok (.getfield 35, 3) := by decide +kernel
theorem dX6_edits_9 : decode cX6_edits 9 = .ok (.iload_n 1, 1) := by decide +kernel
theorem dX6_edits_10 : decode cX6_edits 10 = .ok (.iaload, 1) := by decide +kernel
theorem dX6_edits_11 : decode cX6_edits 11 = .ok (.istore 4, 2) := by decide +kernel
theorem dX6_edits_13 : decode cX6_edits 13 = .ok (.aload_n 0, 1) := by decide +kernel
theorem dX6_edits_14 : decode cX6_edits 14 = .ok (.dup, 1) := by decide +kernel
theorem dX6_edits_15 : decode cX6_edits 15 = .ok (.getfield 7, 3) := by decide +kernel
theorem dX6_edits_18 : decode cX6_edits 18 = .ok (.iconst 1, 1) := by decide +kernel
theorem dX6_edits_19 : decode cX6_edits 19 = .ok (.iadd, 1) := by decide +kernel
theorem dX6_edits_20 : decode cX6_edits 20 = .ok (.putfield 7, 3) := by decide +kernel
theorem dX6_edits_23 : decode cX6_edits 23 = .ok (.aload_n 0, 1) := by decide +kernel
theorem dX6_edits_24 : decode cX6_edits 24 = .ok (.getfield 13, 3) := by decide +kernel
theorem dX6_edits_27 : decode cX6_edits 27 = .ok (.iload_n 3, 1) := by decide +kernel
theorem dX6_edits_28 : decode cX6_edits 28 = .ok (.iload_n 1, 1) := by decide +kernel
theorem dX6_edits_29 : decode cX6_edits 29 = .ok (.iastore, 1) := by decide +kernel
theorem dX6_edits_30 : decode cX6_edits 30 = .ok (.aload_n 0, 1) := by decide +kernel
theorem dX6_edits_31 : decode cX6_edits 31 = .ok (.getfield 17, 3) := by decide +kernel
theorem dX6_edits_34 : decode cX6_edits 34 = .ok (.iload_n 3, 1) := by decide +kernel
theorem dX6_edits_35 : decode cX6_edits 35 = .ok (.iload 4, 2) := by decide +kernel
theorem dX6_edits_37 : decode cX6_edits 37 = .ok (.iastore, 1) := by decide +kernel
theorem dX6_edits_38 : decode cX6_edits 38 = .ok (.aload_n 0, 1) := by decide +kernel
theorem dX6_edits_39 : decode cX6_edits 39 = .ok (.getfield 20, 3) := by decide +kernel
theorem dX6_edits_42 : decode cX6_edits 42 = .ok (.iload_n 3, 1) := by decide +kernel
theorem dX6_edits_43 : decode cX6_edits 43 = .ok (.iconst (-1), 1) := by decide +kernel
theorem dX6_edits_44 : decode cX6_edits 44 = .ok (.iastore, 1) := by decide +kernel
theorem dX6_edits_45 : decode cX6_edits 45 = .ok (.aload_n 0, 1) := by decide +kernel
theorem dX6_edits_46 : decode cX6_edits 46 = .ok (.getfield 23, 3) := by decide +kernel
theorem dX6_edits_49 : decode cX6_edits 49 = .ok (.iload_n 3, 1) := by decide +kernel
theorem dX6_edits_50 : decode cX6_edits 50 = .ok (.iconst 0, 1) := by decide +kernel
theorem dX6_edits_51 : decode cX6_edits 51 = .ok (.iastore, 1) := by decide +kernel
theorem dX6_edits_52 : decode cX6_edits 52 = .ok (.iconst 0, 1) := by decide +kernel
theorem dX6_edits_53 : decode cX6_edits 53 = .ok (.istore 5, 2) := by decide +kernel
theorem dX6_edits_55 : decode cX6_edits 55 = .ok (.iload 5, 2) := by decide +kernel
theorem dX6_edits_57 : decode cX6_edits 57 = .ok (.aload_n 0, 1) := by decide +kernel
theorem dX6_edits_58 : decode cX6_edits 58 = .ok (.getfield 23, 3) := by decide +kernel
theorem dX6_edits_61 : decode cX6_edits 61 = .ok (.iload 4, 2) := by decide +kernel
theorem dX6_edits_63 : decode cX6_edits 63 = .ok (.iaload, 1) := by decide +kernel
theorem dX6_edits_64 : decode cX6_edits 64 = .ok (.if_icmp .ge 112, 3) := by decide +kernel
theorem dX6_edits_67 : decode cX6_edits 67 = .ok (.aload_n 0, 1) := by decide +kernel
theorem dX6_edits_68 : decode cX6_edits 68 = .ok (.getfield 26, 3) := by decide +kernel
theorem dX6_edits_71 : decode cX6_edits 71 = .ok (.bipush 8, 2) := by decide +kernel
theorem dX6_edits_73 : decode cX6_edits 73 = .ok (.iload 4, 2) := by decide +kernel
theorem dX6_edits_75 : decode cX6_edits 75 = .ok (.imul, 1) := by decide +kernel
theorem dX6_edits_76 : decode cX6_edits 76 = .ok (.iload 5, 2) := by decide +kernel
theorem dX6_edits_78 : decode cX6_edits 78 = .ok (.iadd, 1) := by decide +kernel
theorem dX6_edits_79 : decode cX6_edits 79 = .ok (.iaload, 1) := by decide +kernel
theorem dX6_edits_80 : decode cX6_edits 80 = .ok (.istore 6, 2) := by decide +kernel
theorem dX6_edits_82 : decode cX6_edits 82 = .ok (.iload 6, 2) := by decide +kernel
theorem dX6_edits_84 : decode cX6_edits 84 = .ok (.iload_n 2, 1) := by decide +kernel
theorem dX6_edits_85 : decode cX6_edits 85 = .ok (.if_icmp .eq 85, 3) := by decide +kernel
theorem dX6_edits_88 : decode cX6_edits 88 = .ok (.aload_n 0, 1) := by decide +kernel
theorem dX6_edits_89 : decode cX6_edits 89 = .ok (.getfield 26, 3) := by decide +kernel
theorem dX6_edits_92 : decode cX6_edits 92 = .ok (.bipush 8, 2) := by decide +kernel
theorem dX6_edits_94 : decode cX6_edits 94 = .ok (.iload_n 3, 1) := by decide +kernel
theorem dX6_edits_95 : decode cX6_edits 95 = .ok (.imul, 1) := by decide +kernel
theorem dX6_edits_96 : decode cX6_edits 96 = .ok (.aload_n 0, 1) := by decide +kernel
theorem dX6_edits_97 : decode cX6_edits 97 = .ok (.getfield 23, 3) := by decide +kernel
theorem dX6_edits_100 : decode cX6_edits 100 = .ok (.iload_n 3, 1) := by decide +kernel
theorem dX6_edits_101 : decode cX6_edits 101 = .ok (.iaload, 1) := by decide +kernel
theorem dX6_edits_102 : decode cX6_edits 102 = .ok (.iadd, 1) := by decide +kernel
theorem dX6_edits_103 : decode cX6_edits 103 = .ok (.iload 6, 2) := by decide +kernel
theorem dX6_edits_105 : decode cX6_edits 105 = .ok (.iastore, 1) := by decide +kernel
theorem dX6_edits_106 : decode cX6_edits 106 = .ok (.iconst 0, 1) := by decide +kernel
theorem dX6_edits_107 : decode cX6_edits 107 = .ok (.istore 7, 2) := by decide +kernel
theorem dX6_edits_109 : decode cX6_edits 109 = .ok (.iload 7, 2) := by decide +kernel
theorem dX6_edits_111 : decode cX6_edits 111 = .ok (.iconst 4, 1) := by decide +kernel
theorem dX6_edits_112 : decode cX6_edits 112 = .ok (.if_icmp .ge 48, 3) := by decide +kernel
theorem dX6_edits_115 : decode cX6_edits 115 = .ok (.aload_n 0, 1) := by decide +kernel
theorem dX6_edits_116 : decode cX6_edits 116 = .ok (.getfield 29, 3) := by decide +kernel
theorem dX6_edits_119 : decode cX6_edits 119 = .ok (.iconst 4, 1) := by decide +kernel
theorem dX6_edits_120 : decode cX6_edits 120 = .ok (.bipush 8, 2) := by decide +kernel
theorem dX6_edits_122 : decode cX6_edits 122 = .ok (.iload_n 3, 1) := by decide +kernel
theorem dX6_edits_123 : decode cX6_edits 123 = .ok (.imul, 1) := by decide +kernel
theorem dX6_edits_124 : decode cX6_edits 124 = .ok (.aload_n 0, 1) := by decide +kernel
theorem dX6_edits_125 : decode cX6_edits 125 = .ok (.getfield 23, 3) := by decide +kernel
theorem dX6_edits_128 : decode cX6_edits 128 = .ok (.iload_n 3, 1) := by decide +kernel
theorem dX6_edits_129 : decode cX6_edits 129 = .ok (.iaload, 1) := by decide +kernel
theorem dX6_edits_130 : decode cX6_edits 130 = .ok (.iadd, 1) := by decide +kernel
theorem dX6_edits_131 : decode cX6_edits 131 = .ok (.imul, 1) := by decide +kernel
theorem dX6_edits_132 : decode cX6_edits 132 = .ok (.iload 7, 2) := by decide +kernel
theorem dX6_edits_134 : decode cX6_edits 134 = .ok (.iadd, 1) := by decide +kernel
theorem dX6_edits_135 : decode cX6_edits 135 = .ok (.aload_n 0, 1) := by decide +kernel
theorem dX6_edits_136 : decode cX6_edits 136 = .ok (.getfield 29, 3) := by decide +kernel
theorem dX6_edits_139 : decode cX6_edits 139 = .ok (.iconst 4, 1) := by decide +kernel
theorem dX6_edits_140 : decode cX6_edits 140 = .ok (.bipush 8, 2) := by decide +kernel
theorem dX6_edits_142 : decode cX6_edits 142 = .ok (.iload 4, 2) := by decide +kernel
theorem dX6_edits_144 : decode cX6_edits 144 = .ok (.imul, 1) := by decide +kernel
theorem dX6_edits_145 : decode cX6_edits 145 = .ok (.iload 5, 2) := by decide +kernel
theorem dX6_edits_147 : decode cX6_edits 147 = .ok (.iadd, 1) := by decide +kernel
theorem dX6_edits_148 : decode cX6_edits 148 = .ok (.imul, 1) := by decide +kernel
theorem dX6_edits_149 : decode cX6_edits 149 = .ok (.iload 7, 2) := by decide +kernel
theorem dX6_edits_151 : decode cX6_edits 151 = .ok (.iadd, 1) := by decide +kernel
theorem dX6_edits_152 : decode cX6_edits 152 = .ok (.iaload, 1) := by decide +kernel
theorem dX6_edits_153 : decode cX6_edits 153 = .ok (.iastore, 1) := by decide +kernel
theorem dX6_edits_154 : decode cX6_edits 154 = .ok (.iinc 7 1, 3) := by decide +kernel
theorem dX6_edits_157 : decode cX6_edits 157 = .ok (.goto (-48), 3) := by decide +kernel
theorem dX6_edits_160 : decode cX6_edits 160 = .ok (.aload_n 0, 1) := by decide +kernel
theorem dX6_edits_161 : decode cX6_edits 161 = .ok (.getfield 23, 3) := by decide +kernel
theorem dX6_edits_164 : decode cX6_edits 164 = .ok (.iload_n 3, 1) := by decide +kernel
theorem dX6_edits_165 : decode cX6_edits 165 = .ok (.dup2, 1) := by decide +kernel
theorem dX6_edits_166 : decode cX6_edits 166 = .ok (.iaload, 1) := by decide +kernel
theorem dX6_edits_167 : decode cX6_edits 167 = .ok (.iconst 1, 1) := by decide +kernel
theorem dX6_edits_168 : decode cX6_edits 168 = .ok (.iadd, 1) := by decide +kernel
theorem dX6_edits_169 : decode cX6_edits 169 = .ok (.iastore, 1) := by decide +kernel
theorem dX6_edits_170 : decode cX6_edits 170 = .ok (.iinc 5 1, 3) := by decide +kernel
theorem dX6_edits_173 : decode cX6_edits 173 = .ok (.goto (-118), 3) := by decide +kernel
theorem dX6_edits_176 : decode cX6_edits 176 = .ok (.aload_n 0, 1) := by decide +kernel
theorem dX6_edits_177 : decode cX6_edits 177 = .ok (.getfield 35, 3) := by decide +kernel
theorem dX6_edits_180 : decode cX6_edits 180 = .ok (.iload_n 1, 1) := by decide +kernel
theorem dX6_edits_181 : decode cX6_edits 181 = .ok (.iload_n 3, 1) := by decide +kernel
theorem dX6_edits_182 : decode cX6_edits 182 = .ok (.iastore, 1) := by decide +kernel
theorem dX6_edits_183 : decode cX6_edits 183 = .ok (.iload_n 3, 1) := by decide +kernel
theorem dX6_edits_184 : decode cX6_edits 184 = .ok (.ireturn, 1) := by decide +kernel
set_option maxRecDepth 20000 in
theorem ggX6_add_X6_isBranch : GoodIn wsX6_add wsX6_isBranch := goodIn_r _ [12, 13, 14, 15, 11, 16, 24, 25, 26, 27, 28, 29, 30, 31, 32, 33, 34, 35, 36, 37, 38, 39, 40, 41, 42, 43, 44, 45, 46, 47, 48, 49, 50, 51] (by decide +kernel) (by decide +kernel)
set_option maxRecDepth 20000 in
theorem gX6_add_X6_isBranch : GoodIn wsX6_add (wsV RX6 93 RX6 yX6_isBranch wsX6_isBranch) := goodIn_app (goodIn_of _ (by decide +kernel)) ggX6_add_X6_isBranch
set_option maxRecDepth 20000 in
theorem ggX6_add_X6_in : GoodIn wsX6_add wsX6_in := goodIn_r _ [16] (by decide +kernel) (by decide +kernel)
set_option maxRecDepth 20000 in
theorem gX6_add_X6_in : GoodIn wsX6_add (va_wsS RX6 81 yX6_in wsX6_in) := goodIn_app (goodIn_of _ (by decide +kernel)) ggX6_add_X6_in
set_option maxRecDepth 20000 in
theorem ggX6_add_X6_edits : GoodIn wsX6_add wsX6_edits := goodIn_r _ [20, 4, 2, 21, 22, 23, 1, 6, 7, 24, 25, 26, 27, 28, 29, 30, 31, 32, 33, 34, 35, 36, 37, 38, 39, 40, 41, 42, 43, 44, 45, 46, 47, 48, 49, 50, 51] (by decide +kernel) (by decide +kernel)
set_option maxRecDepth 20000 in
theorem gX6_add_X6_edits : GoodIn wsX6_add (wsV RX6 99 RX6 yX6_edits wsX6_edits) := goodIn_app (goodIn_of _ (by decide +kernel)) ggX6_add_X6_edits
theorem dX6_add_0 : decode cX6_add 0 = .ok (.aload_n 0, 1) := by decide +kernel
theorem dX6_add_1 : decode cX6_add 1 = .ok (.aload_n 0, 1) := by decide +kernel
theorem dX6_add_2 : decode cX6_add 2 = .ok (.iload_n 1, 1) := by decide +kernel
theorem dX6_add_3 : decode cX6_add 3 = .ok (.invokevirtual 93, 3) := by decide +kernel
theorem dX6_add_6 : decode cX6_add 6 = .ok (.ifCond .eq 22, 3) := by decide +kernel
theorem dX6_add_9 : decode cX6_add 9 = .ok (.iload_n 2, 1) := by decide +kernel
theorem dX6_add_10 : decode cX6_add 10 = .ok (.iconst 0, 1) := by decide +kernel
theorem dX6_add_11 : decode cX6_add 11 = .ok (.aload_n 0, 1) := by decide +kernel
theorem dX6_add_12 : decode cX6_add 12 = .ok (.getfield 23, 3) := by decide +kernel
theorem dX6_add_15 : decode cX6_add 15 = .ok (.aload_n 0, 1) := by decide +kernel
theorem dX6_add_16 : decode cX6_add 16 = .ok (.getfield 35, 3) := by decide +kernel
theorem dX6_add_19 : decode cX6_add 19 = .ok (.iload_n 1, 1) := by decide +kernel
theorem dX6_add_20 : decode cX6_add 20 = .ok (.iaload, 1) := by decide +kernel
theorem dX6_add_21 : decode cX6_add 21 = .ok (.iaload, 1) := by decide +kernel
theorem dX6_add_22 : decode cX6_add 22 = .ok (.invokestatic 81, 3) := by decide +kernel
theorem dX6_add_25 : decode cX6_add 25 = .ok (.ifCond .ne 7, 3) := by decide +kernel
theorem dX6_add_28 : decode cX6_add 28 = .ok (.iconst 1, 1) := by decide +kernel
theorem dX6_add_29 : decode cX6_add 29 = .ok (.goto 42, 3) := by decide +kernel
theorem dX6_add_32 : decode cX6_add 32 = .ok (.aload_n 0, 1) := by decide +kernel
theorem dX6_add_33 : decode cX6_add 33 = .ok (.getfield 23, 3) := by decide +kernel
theorem dX6_add_36 : decode cX6_add 36 = .ok (.aload_n 0, 1) := by decide +kernel
theorem dX6_add_37 : decode cX6_add 37 = .ok (.getfield 35, 3) := by decide +kernel
theorem dX6_add_40 : decode cX6_add 40 = .ok (.iload_n 1, 1) := by decide +kernel
theorem dX6_add_41 : decode cX6_add 41 = .ok (.iaload, 1) := by decide +kernel
theorem dX6_add_42 : decode cX6_add 42 = .ok (.iaload, 1) := by decide +kernel
theorem dX6_add_43 : decode cX6_add 43 = .ok (.bipush 8, 2) := by decide +kernel
theorem dX6_add_45 : decode cX6_add 45 = .ok (.if_icmp .eq 21, 3) := by decide +kernel
theorem dX6_add_48 : decode cX6_add 48 = .ok (.aload_n 0, 1) := by decide +kernel
theorem dX6_add_49 : decode cX6_add 49 = .ok (.getfield 96, 3) := by decide +kernel
theorem dX6_add_52 : decode cX6_add 52 = .ok (.bipush 20, 2) := by decide +kernel
theorem dX6_add_54 : decode cX6_add 54 = .ok (.if_icmp .eq 12, 3) := by decide +kernel
theorem dX6_add_57 : decode cX6_add 57 = .ok (.aload_n 0, 1) := by decide +kernel
theorem dX6_add_58 : decode cX6_add 58 = .ok (.getfield 7, 3) := by decide +kernel
theorem dX6_add_61 : decode cX6_add 61 = .ok (.bipush 40, 2) := by decide +kernel
theorem dX6_add_63 : decode cX6_add 63 = .ok (.if_icmp .ne 7, 3) := by decide +kernel
theorem dX6_add_66 : decode cX6_add 66 = .ok (.iconst 2, 1) := by decide +kernel
theorem dX6_add_67 : decode cX6_add 67 = .ok (.goto 4, 3) := by decide +kernel
theorem dX6_add_70 : decode cX6_add 70 = .ok (.iconst 0, 1) := by decide +kernel
theorem dX6_add_71 : decode cX6_add 71 = .ok (.putfield 78, 3) := by decide +kernel
theorem dX6_add_74 : decode cX6_add 74 = .ok (.aload_n 0, 1) := by decide +kernel
theorem dX6_add_75 : decode cX6_add 75 = .ok (.getfield 78, 3) := by decide +kernel
theorem dX6_add_78 : decode cX6_add 78 = .ok (.ifCond .le 5, 3) := by decide +kernel
theorem dX6_add_81 : decode cX6_add 81 = .ok (.iconst 0, 1) := by decide +kernel
theorem dX6_add_82 : decode cX6_add 82 = .ok (.ireturn, 1) := by decide +kernel
theorem dX6_add_83 : decode cX6_add 83 = .ok (.aload_n 0, 1) := by decide +kernel
theorem dX6_add_84 : decode cX6_add 84 = .ok (.iload_n 1, 1) := by decide +kernel
theorem dX6_add_85 : decode cX6_add 85 = .ok (.iconst (-1), 1) := by decide +kernel
theorem dX6_add_86 : decode cX6_add 86 = .ok (.invokevirtual 99, 3) := by decide +kernel
theorem dX6_add_89 : decode cX6_add 89 = .ok (.istore_n 3, 1) := by decide +kernel
theorem dX6_add_90 : decode cX6_add 90 = .ok (.aload_n 0, 1) := by decide +kernel
theorem dX6_add_91 : decode cX6_add 91 = .ok (.getfield 23, 3) := by decide +kernel
theorem dX6_add_94 : decode cX6_add 94 = .ok (.iload_n 3, 1) := by decide +kernel
theorem dX6_add_95 : decode cX6_add 95 = .ok (.iaload, 1) := by decide +kernel
theorem dX6_add_96 : decode cX6_add 96 = .ok (.istore 4, 2) := by decide +kernel
theorem dX6_add_98 : decode cX6_add 98 = .ok (.iload 4, 2) := by decide +kernel
theorem dX6_add_100 : decode cX6_add 100 = .ok (.iload_n 2, 1) := by decide +kernel
theorem dX6_add_101 : decode cX6_add 101 = .ok (.if_icmp .le 86, 3) := by decide +kernel
theorem dX6_add_104 : decode cX6_add 104 = .ok (.aload_n 0, 1) := by decide +kernel
theorem dX6_add_105 : decode cX6_add 105 = .ok (.getfield 26, 3) := by decide +kernel
theorem dX6_add_108 : decode cX6_add 108 = .ok (.bipush 8, 2) := by decide +kernel
theorem dX6_add_110 : decode cX6_add 110 = .ok (.iload_n 3, 1) := by decide +kernel
theorem dX6_add_111 : decode cX6_add 111 = .ok (.imul, 1) := by decide +kernel
theorem dX6_add_112 : decode cX6_add 112 = .ok (.iload 4, 2) := by decide +kernel
theorem dX6_add_114 : decode cX6_add 114 = .ok (.iadd, 1) := by decide +kernel
theorem dX6_add_115 : decode cX6_add 115 = .ok (.aload_n 0, 1) := by decide +kernel
theorem dX6_add_116 : decode cX6_add 116 = .ok (.getfield 26, 3) := by decide +kernel
theorem dX6_add_119 : decode cX6_add 119 = .ok (.bipush 8, 2) := by decide +kernel
theorem dX6_add_121 : decode cX6_add 121 = .ok (.iload_n 3, 1) := by decide +kernel
theorem dX6_add_122 : decode cX6_add 122 = .ok (.imul, 1) := by decide +kernel
theorem dX6_add_123 : decode cX6_add 123 = .ok (.iload 4, 2) := by decide +kernel
theorem dX6_add_125 : decode cX6_add 125 = .ok (.iadd, 1) := by decide +kernel
theorem dX6_add_126 : decode cX6_add 126 = .ok (.iconst 1, 1) := by decide +kernel
theorem dX6_add_127 : decode cX6_add 127 = .ok (.isub, 1) := by decide +kernel
theorem dX6_add_128 : decode cX6_add 128 = .ok (.iaload, 1) := by decide +kernel
theorem dX6_add_129 : decode cX6_add 129 = .ok (.iastore, 1) := by decide +kernel
theorem dX6_add_130 : decode cX6_add 130 = .ok (.iconst 0, 1) := by decide +kernel
theorem dX6_add_131 : decode cX6_add 131 = .ok (.istore 5, 2) := by decide +kernel
theorem dX6_add_133 : decode cX6_add 133 = .ok (.iload 5, 2) := by decide +kernel
theorem dX6_add_135 : decode cX6_add 135 = .ok (.iconst 4, 1) := by decide +kernel
theorem dX6_add_136 : decode cX6_add 136 = .ok (.if_icmp .ge 45, 3) := by decide +kernel
theorem dX6_add_139 : decode cX6_add 139 = .ok (.aload_n 0, 1) := by decide +kernel
theorem dX6_add_140 : decode cX6_add 140 = .ok (.getfield 29, 3) := by decide +kernel
theorem dX6_add_143 : decode cX6_add 143 = .ok (.iconst 4, 1) := by decide +kernel
theorem dX6_add_144 : decode cX6_add 144 = .ok (.bipush 8, 2) := by decide +kernel
theorem dX6_add_146 : decode cX6_add 146 = .ok (.iload_n 3, 1) := by decide +kernel
theorem dX6_add_147 : decode cX6_add 147 = .ok (.imul, 1) := by decide +kernel
theorem dX6_add_148 : decode cX6_add 148 = .ok (.iload 4, 2) := by decide +kernel
theorem dX6_add_150 : decode cX6_add 150 = .ok (.iadd, 1) := by decide +kernel
theorem dX6_add_151 : decode cX6_add 151 = .ok (.imul, 1) := by decide +kernel
theorem dX6_add_152 : decode cX6_add 152 = .ok (.iload 5, 2) := by decide +kernel
theorem dX6_add_154 : decode cX6_add 154 = .ok (.iadd, 1) := by decide +kernel
theorem dX6_add_155 : decode cX6_add 155 = .ok (.aload_n 0, 1) := by decide +kernel
theorem dX6_add_156 : decode cX6_add 156 = .ok (.getfield 29, 3) := by decide +kernel
theorem dX6_add_159 : decode cX6_add 159 = .ok (.iconst 4, 1) := by decide +kernel
theorem dX6_add_160 : decode cX6_add 160 = .ok (.bipush 8, 2) := by decide +kernel
theorem dX6_add_162 : decode cX6_add 162 = .ok (.iload_n 3, 1) := by decide +kernel
theorem dX6_add_163 : decode cX6_add 163 = .ok (.imul, 1) := by decide +kernel
theorem dX6_add_164 : decode cX6_add 164 = .ok (.iload 4, 2) := by decide +kernel
theorem dX6_add_166 : decode cX6_add 166 = .ok (.iadd, 1) := by decide +kernel
theorem dX6_add_167 : decode cX6_add 167 = .ok (.iconst 1, 1) := by decide +kernel
theorem dX6_add_168 : decode cX6_add 168 = .ok (.isub, 1) := by decide +kernel
theorem dX6_add_169 : decode cX6_add 169 = .ok (.imul, 1) := by decide +kernel
theorem dX6_add_170 : decode cX6_add 170 = .ok (.iload 5, 2) := by decide +kernel
theorem dX6_add_172 : decode cX6_add 172 = .ok (.iadd, 1) := by decide +kernel
theorem dX6_add_173 : decode cX6_add 173 = .ok (.iaload, 1) := by decide +kernel
theorem dX6_add_174 : decode cX6_add 174 = .ok (.iastore, 1) := by decide +kernel
theorem dX6_add_175 : decode cX6_add 175 = .ok (.iinc 5 1, 3) := by decide +kernel
theorem dX6_add_178 : decode cX6_add 178 = .ok (.goto (-45), 3) := by decide +kernel
theorem dX6_add_181 : decode cX6_add 181 = .ok (.iinc 4 (-1), 3) := by decide +kernel
theorem dX6_add_184 : decode cX6_add 184 = .ok (.goto (-86), 3) := by decide +kernel
theorem dX6_add_187 : decode cX6_add 187 = .ok (.aload_n 0, 1) := by decide +kernel
theorem dX6_add_188 : decode cX6_add 188 = .ok (.getfield 26, 3) := by decide +kernel
theorem dX6_add_191 : decode cX6_add 191 = .ok (.bipush 8, 2) := by decide +kernel
theorem dX6_add_193 : decode cX6_add 193 = .ok (.iload_n 3, 1) := by decide +kernel
theorem dX6_add_194 : decode cX6_add 194 = .ok (.imul, 1) := by decide +kernel
theorem dX6_add_195 : decode cX6_add 195 = .ok (.iload_n 2, 1) := by decide +kernel
theorem dX6_add_196 : decode cX6_add 196 = .ok (.iadd, 1) := by decide +kernel
theorem dX6_add_197 : decode cX6_add 197 = .ok (.aload_n 0, 1) := by decide +kernel
theorem dX6_add_198 : decode cX6_add 198 = .ok (.getfield 96, 3) := by decide +kernel
theorem dX6_add_201 : decode cX6_add 201 = .ok (.iastore, 1) := by decide +kernel
theorem dX6_add_202 : decode cX6_add 202 = .ok (.iconst 0, 1) := by decide +kernel
theorem dX6_add_203 : decode cX6_add 203 = .ok (.istore 4, 2) := by decide +kernel
theorem dX6_add_205 : decode cX6_add 205 = .ok (.iload 4, 2) := by decide +kernel
theorem dX6_add_207 : decode cX6_add 207 = .ok (.iconst 4, 1) := by decide +kernel
theorem dX6_add_208 : decode cX6_add 208 = .ok (.if_icmp .ge 26, 3) := by decide +kernel
theorem dX6_add_211 : decode cX6_add 211 = .ok (.aload_n 0, 1) := by decide +kernel
theorem dX6_add_212 : decode cX6_add 212 = .ok (.getfield 29, 3) := by decide +kernel
theorem dX6_add_215 : decode cX6_add 215 = .ok (.iconst 4, 1) := by decide +kernel
theorem dX6_add_216 : decode cX6_add 216 = .ok (.bipush 8, 2) := by decide +kernel
theorem dX6_add_218 : decode cX6_add 218 = .ok (.iload_n 3, 1) := by decide +kernel
theorem dX6_add_219 : decode cX6_add 219 = .ok (.imul, 1) := by decide +kernel
theorem dX6_add_220 : decode cX6_add 220 = .ok (.iload_n 2, 1) := by decide +kernel
theorem dX6_add_221 : decode cX6_add 221 = .ok (.iadd, 1) := by decide +kernel
theorem dX6_add_222 : decode cX6_add 222 = .ok (.imul, 1) := by decide +kernel
theorem dX6_add_223 : decode cX6_add 223 = .ok (.iload 4, 2) := by decide +kernel
theorem dX6_add_225 : decode cX6_add 225 = .ok (.iadd, 1) := by decide +kernel
theorem dX6_add_226 : decode cX6_add 226 = .ok (.iconst 0, 1) := by decide +kernel
theorem dX6_add_227 : decode cX6_add 227 = .ok (.iastore, 1) := by decide +kernel
theorem dX6_add_228 : decode cX6_add 228 = .ok (.iinc 4 1, 3) := by decide +kernel
theorem dX6_add_231 : decode cX6_add 231 = .ok (.goto (-26), 3) := by decide +kernel
theorem dX6_add_234 : decode cX6_add 234 = .ok (.aload_n 0, 1) := by decide +kernel
theorem dX6_add_235 : decode cX6_add 235 = .ok (.getfield 23, 3) := by decide +kernel
theorem dX6_add_238 : decode cX6_add 238 = .ok (.iload_n 3, 1) := by decide +kernel
theorem dX6_add_239 : decode cX6_add 239 = .ok (.dup2, 1) := by decide +kernel
theorem dX6_add_240 : decode cX6_add 240 = .ok (.iaload, 1) := by decide +kernel
theorem dX6_add_241 : decode cX6_add 241 = .ok (.iconst 1, 1) := by decide +kernel
theorem dX6_add_242 : decode cX6_add 242 = .ok (.iadd, 1) := by decide +kernel
theorem dX6_add_243 : decode cX6_add 243 = .ok (.iastore, 1) := by decide +kernel
theorem dX6_add_244 : decode cX6_add 244 = .ok (.aload_n 0, 1) := by decide +kernel
theorem dX6_add_245 : decode cX6_add 245 = .ok (.dup, 1) := by decide +kernel
theorem dX6_add_246 : decode cX6_add 246 = .ok (.getfield 96, 3) := by decide +kernel
theorem dX6_add_249 : decode cX6_add 249 = .ok (.iconst 1, 1) := by decide +kernel
theorem dX6_add_250 : decode cX6_add 250 = .ok (.iadd, 1) := by decide +kernel
theorem dX6_add_251 : decode cX6_add 251 = .ok (.putfield 96, 3) := by decide +kernel
theorem dX6_add_254 : decode cX6_add 254 = .ok (.aload_n 0, 1) := by decide +kernel
theorem dX6_add_255 : decode cX6_add 255 = .ok (.getfield 96, 3) := by decide +kernel
theorem dX6_add_258 : decode cX6_add 258 = .ok (.iconst 1, 1) := by decide +kernel
theorem dX6_add_259 : decode cX6_add 259 = .ok (.isub, 1) := by decide +kernel
theorem dX6_add_260 : decode cX6_add 260 = .ok (.ireturn, 1) := by decide +kernel
set_option maxRecDepth 20000 in
theorem ggX6_isInHead_X6_isBranch : GoodIn wsX6_isInHead wsX6_isBranch := goodIn_r _ [6, 7, 8, 9, 5, 10, 17, 18, 19, 20, 21, 22, 23, 24, 25, 26, 27, 28, 29, 30, 31, 32, 33, 34, 35, 36, 37, 38, 39, 40, 41, 42, 43, 44] (by decide +kernel) (by decide +kernel)
set_option maxRecDepth 20000 in
theorem gX6_isInHead_X6_isBranch : GoodIn wsX6_isInHead (wsV RX6 93 RX6 yX6_isBranch wsX6_isBranch) := goodIn_app (goodIn_of _ (by decide +kernel)) ggX6_isInHead_X6_isBranch
set_option maxRecDepth 20000 in
theorem ggX6_isInHead_X6_placeOf : GoodIn wsX6_isInHead wsX6_placeOf := goodIn_r _ [14, 15, 16, 17, 18, 19, 20, 21, 22, 23, 24, 25, 26, 27, 28, 29, 30, 31, 32, 33, 34, 35, 36, 37, 38, 39, 40, 41, 42, 43, 44] (by decide +kernel) (by decide +kernel)
set_option maxRecDepth 20000 in
theorem gX6_isInHead_X6_placeOf : GoodIn wsX6_isInHead (wsV RX6 85 RX6 yX6_placeOf wsX6_placeOf) := goodIn_app (goodIn_of _ (by decide +kernel)) ggX6_isInHead_X6_placeOf
theorem dX6_isInHead_0 : decode cX6_isInHead 0 = .ok (.aload_n 0, 1) := by decide +kernel
theorem dX6_isInHead_1 : decode cX6_isInHead 1 = .ok (.iload_n 1, 1) := by decide +kernel
theorem dX6_isInHead_2 : decode cX6_isInHead 2 = .ok (.invokevirtual 93, 3) := by decide +kernel
theorem dX6_isInHead_5 : decode cX6_isInHead 5 = .ok (.ifCond .eq 22, 3) := by decide +kernel
theorem dX6_isInHead_8 : decode cX6_isInHead 8 = .ok (.aload_n 0, 1) := by decide +kernel
theorem dX6_isInHead_9 : decode cX6_isInHead 9 = .ok (.aload_n 0, 1) := by decide +kernel
theorem dX6_isInHead_10 : decode cX6_isInHead 10 = .ok (.getfield 35, 3) := by decide +kernel
theorem dX6_isInHead_13 : decode cX6_isInHead 13 = .ok (.iload_n 1, 1) := by decide +kernel
theorem dX6_isInHead_14 : decode cX6_isInHead 14 = .ok (.iaload, 1) := by decide +kernel
theorem dX6_isInHead_15 : decode cX6_isInHead 15 = .ok (.iload_n 2, 1) := by decide +kernel
theorem dX6_isInHead_16 : decode cX6_isInHead 16 = .ok (.invokevirtual 85, 3) := by decide +kernel
theorem dX6_isInHead_19 : decode cX6_isInHead 19 = .ok (.iconst (-1), 1) := by decide +kernel
theorem dX6_isInHead_20 : decode cX6_isInHead 20 = .ok (.if_icmp .eq 7, 3) := by decide +kernel
theorem dX6_isInHead_23 : decode cX6_isInHead 23 = .ok (.iconst 1, 1) := by decide +kernel
theorem dX6_isInHead_24 : decode cX6_isInHead 24 = .ok (.goto 4, 3) := by decide +kernel
theorem dX6_isInHead_27 : decode cX6_isInHead 27 = .ok (.iconst 0, 1) := by decide +kernel
theorem dX6_isInHead_28 : decode cX6_isInHead 28 = .ok (.ireturn, 1) := by decide +kernel
set_option maxRecDepth 20000 in
theorem ggX6_set_X6_isInHead : GoodIn wsX6_set wsX6_isInHead := goodIn_r _ [8, 9, 10, 11, 12, 7, 13, 14, 15, 16, 17, 18, 19, 20, 21, 22, 23, 34, 35, 36, 37, 38, 39, 40, 41, 42, 43, 44, 45, 46, 47, 48, 49, 50, 51, 52, 53, 54, 55, 56, 57, 58, 59, 60, 61] (by decide +kernel) (by decide +kernel)
set_option maxRecDepth 20000 in
theorem gX6_set_X6_isInHead : GoodIn wsX6_set (wsV RX6 102 RX6 yX6_isInHead wsX6_isInHead) := goodIn_app (goodIn_of _ (by decide +kernel)) ggX6_set_X6_isInHead
set_option maxRecDepth 20000 in
theorem ggX6_set_X6_isObject : GoodIn wsX6_set wsX6_isObject := goodIn_r _ [26, 15, 16, 7, 17] (by decide +kernel) (by decide +kernel)
set_option maxRecDepth 20000 in
theorem gX6_set_X6_isObject : GoodIn wsX6_set (va_wsS RX6 106 yX6_isObject wsX6_isObject) := goodIn_app (goodIn_of _ (by decide +kernel)) ggX6_set_X6_isObject
set_option maxRecDepth 20000 in
theorem ggX6_set_X6_in : GoodIn wsX6_set wsX6_in := goodIn_r _ [17] (by decide +kernel) (by decide +kernel)
set_option maxRecDepth 20000 in
theorem gX6_set_X6_in : GoodIn wsX6_set (va_wsS RX6 81 yX6_in wsX6_in) := goodIn_app (goodIn_of _ (by decide +kernel)) ggX6_set_X6_in
set_option maxRecDepth 20000 in
theorem ggX6_set_X6_edits : GoodIn wsX6_set wsX6_edits := goodIn_r _ [30, 1, 9, 31, 32, 33, 22, 23, 3, 34, 35, 36, 37, 38, 39, 40, 41, 42, 43, 44, 45, 46, 47, 48, 49, 50, 51, 52, 53, 54, 55, 56, 57, 58, 59, 60, 61] (by decide +kernel) (by decide +kernel)
set_option maxRecDepth 20000 in
theorem gX6_set_X6_edits : GoodIn wsX6_set (wsV RX6 99 RX6 yX6_edits wsX6_edits) := goodIn_app (goodIn_of _ (by decide +kernel)) ggX6_set_X6_edits
set_option maxRecDepth 20000 in
theorem ggX6_set_X6_placeOf : GoodIn wsX6_set wsX6_placeOf := goodIn_r _ [21, 22, 23, 34, 35, 36, 37, 38, 39, 40, 41, 42, 43, 44, 45, 46, 47, 48, 49, 50, 51, 52, 53, 54, 55, 56, 57, 58, 59, 60, 61] (by decide +kernel) (by decide +kernel)
set_option maxRecDepth 20000 in
theorem gX6_set_X6_placeOf : GoodIn wsX6_set (wsV RX6 85 RX6 yX6_placeOf wsX6_placeOf) := goodIn_app (goodIn_of _ (by decide +kernel)) ggX6_set_X6_placeOf
theorem dX6_set_0 : decode cX6_set 0 = .ok (.aload_n 0, 1) := by decide +kernel
theorem dX6_set_1 : decode cX6_set 1 = .ok (.aload_n 0, 1) := by decide +kernel
theorem dX6_set_2 : decode cX6_set 2 = .ok (.iload_n 1, 1) := by decide +kernel
theorem dX6_set_3 : decode cX6_set 3 = .ok (.iload_n 2, 1) := by decide +kernel
theorem dX6_set_4 : decode cX6_set 4 = .ok (.invokevirtual 102, 3) := by decide +kernel
theorem dX6_set_7 : decode cX6_set 7 = .ok (.ifCond .eq 10, 3) := by decide +kernel
theorem dX6_set_10 : decode cX6_set 10 = .ok (.iload_n 3, 1) := by decide +kernel
theorem dX6_set_11 : decode cX6_set 11 = .ok (.invokestatic 106, 3) := by decide +kernel
theorem dX6_set_14 : decode cX6_set 14 = .ok (.ifCond .ne 7, 3) := by decide +kernel
theorem dX6_set_17 : decode cX6_set 17 = .ok (.iconst 1, 1) := by decide +kernel
theorem dX6_set_18 : decode cX6_set 18 = .ok (.goto 33, 3) := by decide +kernel
theorem dX6_set_21 : decode cX6_set 21 = .ok (.iload 4, 2) := by decide +kernel
theorem dX6_set_23 : decode cX6_set 23 = .ok (.iconst 0, 1) := by decide +kernel
theorem dX6_set_24 : decode cX6_set 24 = .ok (.sipush 999, 3) := by decide +kernel
theorem dX6_set_27 : decode cX6_set 27 = .ok (.invokestatic 81, 3) := by decide +kernel
theorem dX6_set_30 : decode cX6_set 30 = .ok (.ifCond .ne 7, 3) := by decide +kernel
theorem dX6_set_33 : decode cX6_set 33 = .ok (.iconst 2, 1) := by decide +kernel
theorem dX6_set_34 : decode cX6_set 34 = .ok (.goto 17, 3) := by decide +kernel
theorem dX6_set_37 : decode cX6_set 37 = .ok (.aload_n 0, 1) := by decide +kernel
theorem dX6_set_38 : decode cX6_set 38 = .ok (.getfield 7, 3) := by decide +kernel
theorem dX6_set_41 : decode cX6_set 41 = .ok (.bipush 40, 2) := by decide +kernel
theorem dX6_set_43 : decode cX6_set 43 = .ok (.if_icmp .ne 7, 3) := by decide +kernel
theorem dX6_set_46 : decode cX6_set 46 = .ok (.iconst 3, 1) := by decide +kernel
theorem dX6_set_47 : decode cX6_set 47 = .ok (.goto 4, 3) := by decide +kernel
theorem dX6_set_50 : decode cX6_set 50 = .ok (.iconst 0, 1) := by decide +kernel
theorem dX6_set_51 : decode cX6_set 51 = .ok (.putfield 78, 3) := by decide +kernel
theorem dX6_set_54 : decode cX6_set 54 = .ok (.aload_n 0, 1) := by decide +kernel
theorem dX6_set_55 : decode cX6_set 55 = .ok (.getfield 78, 3) := by decide +kernel
theorem dX6_set_58 : decode cX6_set 58 = .ok (.ifCond .le 5, 3) := by decide +kernel
theorem dX6_set_61 : decode cX6_set 61 = .ok (.iconst 0, 1) := by decide +kernel
theorem dX6_set_62 : decode cX6_set 62 = .ok (.ireturn, 1) := by decide +kernel
theorem dX6_set_63 : decode cX6_set 63 = .ok (.aload_n 0, 1) := by decide +kernel
theorem dX6_set_64 : decode cX6_set 64 = .ok (.iload_n 1, 1) := by decide +kernel
theorem dX6_set_65 : decode cX6_set 65 = .ok (.iconst (-1), 1) := by decide +kernel
theorem dX6_set_66 : decode cX6_set 66 = .ok (.invokevirtual 99, 3) := by decide +kernel
theorem dX6_set_69 : decode cX6_set 69 = .ok (.istore 5, 2) := by decide +kernel
theorem dX6_set_71 : decode cX6_set 71 = .ok (.iconst 4, 1) := by decide +kernel
theorem dX6_set_72 : decode cX6_set 72 = .ok (.bipush 8, 2) := by decide +kernel
theorem dX6_set_74 : decode cX6_set 74 = .ok (.iload 5, 2) := by decide +kernel
theorem dX6_set_76 : decode cX6_set 76 = .ok (.imul, 1) := by decide +kernel
theorem dX6_set_77 : decode cX6_set 77 = .ok (.aload_n 0, 1) := by decide +kernel
theorem dX6_set_78 : decode cX6_set 78 = .ok (.iload 5, 2) := by decide +kernel
theorem dX6_set_80 : decode cX6_set 80 = .ok (.iload_n 2, 1) := by decide +kernel
theorem dX6_set_81 : decode cX6_set 81 = .ok (.invokevirtual 85, 3) := by decide +kernel
theorem dX6_set_84 : decode cX6_set 84 = .ok (.iadd, 1) := by decide +kernel
theorem dX6_set_85 : decode cX6_set 85 = .ok (.imul, 1) := by decide +kernel
theorem dX6_set_86 : decode cX6_set 86 = .ok (.iload_n 3, 1) := by decide +kernel
theorem dX6_set_87 : decode cX6_set 87 = .ok (.iadd, 1) := by decide +kernel
theorem dX6_set_88 : decode cX6_set 88 = .ok (.istore 6, 2) := by decide +kernel
theorem dX6_set_90 : decode cX6_set 90 = .ok (.aload_n 0, 1) := by decide +kernel
theorem dX6_set_91 : decode cX6_set 91 = .ok (.getfield 29, 3) := by decide +kernel
theorem dX6_set_94 : decode cX6_set 94 = .ok (.iload 6, 2) := by decide +kernel
theorem dX6_set_96 : decode cX6_set 96 = .ok (.iaload, 1) := by decide +kernel
theorem dX6_set_97 : decode cX6_set 97 = .ok (.istore 7, 2) := by decide +kernel
theorem dX6_set_99 : decode cX6_set 99 = .ok (.aload_n 0, 1) := by decide +kernel
theorem dX6_set_100 : decode cX6_set 100 = .ok (.getfield 29, 3) := by decide +kernel
theorem dX6_set_103 : decode cX6_set 103 = .ok (.iload 6, 2) := by decide +kernel
theorem dX6_set_105 : decode cX6_set 105 = .ok (.iload 4, 2) := by decide +kernel
theorem dX6_set_107 : decode cX6_set 107 = .ok (.iastore, 1) := by decide +kernel
theorem dX6_set_108 : decode cX6_set 108 = .ok (.iload 7, 2) := by decide +kernel
theorem dX6_set_110 : decode cX6_set 110 = .ok (.ireturn, 1) := by decide +kernel
set_option maxRecDepth 20000 in
theorem ggX6_drop_X6_isInHead : GoodIn wsX6_drop wsX6_isInHead := goodIn_r _ [7, 8, 9, 10, 11, 6, 12, 13, 14, 15, 16, 17, 18, 19, 20, 21, 22, 31, 32, 33, 34, 35, 36, 37, 38, 39, 40, 41, 42, 43, 44, 45, 46, 47, 48, 49, 50, 51, 52, 53, 54, 55, 56, 57, 58] (by decide +kernel) (by decide +kernel)
set_option maxRecDepth 20000 in
theorem gX6_drop_X6_isInHead : GoodIn wsX6_drop (wsV RX6 102 RX6 yX6_isInHead wsX6_isInHead) := goodIn_app (goodIn_of _ (by decide +kernel)) ggX6_drop_X6_isInHead
set_option maxRecDepth 20000 in
theorem ggX6_drop_X6_edits : GoodIn wsX6_drop wsX6_edits := goodIn_r _ [26, 1, 8, 27, 28, 29, 21, 22, 30, 31, 32, 33, 34, 35, 36, 37, 38, 39, 40, 41, 42, 43, 44, 45, 46, 47, 48, 49, 50, 51, 52, 53, 54, 55, 56, 57, 58] (by decide +kernel) (by decide +kernel)
set_option maxRecDepth 20000 in
theorem gX6_drop_X6_edits : GoodIn wsX6_drop (wsV RX6 99 RX6 yX6_edits wsX6_edits) := goodIn_app (goodIn_of _ (by decide +kernel)) ggX6_drop_X6_edits
theorem dX6_drop_0 : decode cX6_drop 0 = .ok (.aload_n 0, 1) := by decide +kernel
theorem dX6_drop_1 : decode cX6_drop 1 = .ok (.aload_n 0, 1) := by decide +kernel
theorem dX6_drop_2 : decode cX6_drop 2 = .ok (.iload_n 1, 1) := by decide +kernel
theorem dX6_drop_3 : decode cX6_drop 3 = .ok (.iload_n 2, 1) := by decide +kernel
theorem dX6_drop_4 : decode cX6_drop 4 = .ok (.invokevirtual 102, 3) := by decide +kernel
theorem dX6_drop_7 : decode cX6_drop 7 = .ok (.ifCond .ne 7, 3) := by decide +kernel
theorem dX6_drop_10 : decode cX6_drop 10 = .ok (.iconst 1, 1) := by decide +kernel
theorem dX6_drop_11 : decode cX6_drop 11 = .ok (.goto 17, 3) := by decide +kernel
theorem dX6_drop_14 : decode cX6_drop 14 = .ok (.aload_n 0, 1) := by decide +kernel
theorem dX6_drop_15 : decode cX6_drop 15 = .ok (.getfield 7, 3) := by decide +kernel
theorem dX6_drop_18 : decode cX6_drop 18 = .ok (.bipush 40, 2) := by decide +kernel
theorem dX6_drop_20 : decode cX6_drop 20 = .ok (.if_icmp .ne 7, 3) := by decide +kernel
theorem dX6_drop_23 : decode cX6_drop 23 = .ok (.iconst 2, 1) := by decide +kernel
theorem dX6_drop_24 : decode cX6_drop 24 = .ok (.goto 4, 3) := by decide +kernel
theorem dX6_drop_27 : decode cX6_drop 27 = .ok (.iconst 0, 1) := by decide +kernel
theorem dX6_drop_28 : decode cX6_drop 28 = .ok (.putfield 78, 3) := by decide +kernel
theorem dX6_drop_31 : decode cX6_drop 31 = .ok (.aload_n 0, 1) := by decide +kernel
theorem dX6_drop_32 : decode cX6_drop 32 = .ok (.getfield 78, 3) := by decide +kernel
theorem dX6_drop_35 : decode cX6_drop 35 = .ok (.ifCond .le 7, 3) := by decide +kernel
theorem dX6_drop_38 : decode cX6_drop 38 = .ok (.iconst 0, 1) := by decide +kernel
theorem dX6_drop_39 : decode cX6_drop 39 = .ok (.goto 9, 3) := by decide +kernel
theorem dX6_drop_42 : decode cX6_drop 42 = .ok (.aload_n 0, 1) := by decide +kernel
theorem dX6_drop_43 : decode cX6_drop 43 = .ok (.iload_n 1, 1) := by decide +kernel
theorem dX6_drop_44 : decode cX6_drop 44 = .ok (.iload_n 2, 1) := by decide +kernel
theorem dX6_drop_45 : decode cX6_drop 45 = .ok (.invokevirtual 99, 3) := by decide +kernel
theorem dX6_drop_48 : decode cX6_drop 48 = .ok (.ireturn, 1) := by decide +kernel
set_option maxRecDepth 20000 in
theorem ggX6_head_X6_isBranch : GoodIn wsX6_head wsX6_isBranch := goodIn_r _ [7, 8, 9, 10, 6, 11, 12, 13, 14, 15, 16, 17, 18, 19, 20, 21, 22, 23, 24, 25, 26, 27, 28, 29, 30, 31, 32, 33, 34, 35, 36, 37, 38, 39] (by decide +kernel) (by decide +kernel)
set_option maxRecDepth 20000 in
theorem gX6_head_X6_isBranch : GoodIn wsX6_head (wsV RX6 93 RX6 yX6_isBranch wsX6_isBranch) := goodIn_app (goodIn_of _ (by decide +kernel)) ggX6_head_X6_isBranch
theorem dX6_head_0 : decode cX6_head 0 = .ok (.aload_n 0, 1) := by decide +kernel
theorem dX6_head_1 : decode cX6_head 1 = .ok (.aload_n 0, 1) := by decide +kernel
theorem dX6_head_2 : decode cX6_head 2 = .ok (.iload_n 1, 1) := by decide +kernel
theorem dX6_head_3 : decode cX6_head 3 = .ok (.invokevirtual 93, 3) := by decide +kernel
theorem dX6_head_6 : decode cX6_head 6 = .ok (.ifCond .eq 7, 3) := by decide +kernel
theorem dX6_head_9 : decode cX6_head 9 = .ok (.iconst 0, 1) := by decide +kernel
theorem dX6_head_10 : decode cX6_head 10 = .ok (.goto 4, 3) := by decide +kernel
theorem dX6_head_13 : decode cX6_head 13 = .ok (.iconst 1, 1) := by decide +kernel
theorem dX6_head_14 : decode cX6_head 14 = .ok (.putfield 78, 3) := by decide +kernel
theorem dX6_head_17 : decode cX6_head 17 = .ok (.aload_n 0, 1) := by decide +kernel
theorem dX6_head_18 : decode cX6_head 18 = .ok (.getfield 78, 3) := by decide +kernel
theorem dX6_head_21 : decode cX6_head 21 = .ok (.ifCond .le 7, 3) := by decide +kernel
theorem dX6_head_24 : decode cX6_head 24 = .ok (.iconst 0, 1) := by decide +kernel
theorem dX6_head_25 : decode cX6_head 25 = .ok (.goto 9, 3) := by decide +kernel
theorem dX6_head_28 : decode cX6_head 28 = .ok (.aload_n 0, 1) := by decide +kernel
theorem dX6_head_29 : decode cX6_head 29 = .ok (.getfield 35, 3) := by decide +kernel
theorem dX6_head_32 : decode cX6_head 32 = .ok (.iload_n 1, 1) := by decide +kernel
theorem dX6_head_33 : decode cX6_head 33 = .ok (.iaload, 1) := by decide +kernel
theorem dX6_head_34 : decode cX6_head 34 = .ok (.ireturn, 1) := by decide +kernel
theorem dX6_layAncestors_0 : decode cX6_layAncestors 0 = .ok (.iconst 0, 1) := by decide +kernel
theorem dX6_layAncestors_1 : decode cX6_layAncestors 1 = .ok (.istore_n 3, 1) := by decide +kernel
theorem dX6_layAncestors_2 : decode cX6_layAncestors 2 = .ok (.bipush 39, 2) := by decide +kernel
theorem dX6_layAncestors_4 : decode cX6_layAncestors 4 = .ok (.istore 4, 2) := by decide +kernel
theorem dX6_layAncestors_6 : decode cX6_layAncestors 6 = .ok (.iload 4, 2) := by decide +kernel
theorem dX6_layAncestors_8 : decode cX6_layAncestors 8 = .ok (.ifCond .lt 166, 3) := by decide +kernel
theorem dX6_layAncestors_11 : decode cX6_layAncestors 11 = .ok (.iload 4, 2) := by decide +kernel
theorem dX6_layAncestors_13 : decode cX6_layAncestors 13 = .ok (.iload_n 1, 1) := by decide +kernel
theorem dX6_layAncestors_14 : decode cX6_layAncestors 14 = .ok (.if_icmp .ne 7, 3) := by decide +kernel
theorem dX6_layAncestors_17 : decode cX6_layAncestors 17 = .ok (.iconst 1, 1) := by decide +kernel
theorem dX6_layAncestors_18 : decode cX6_layAncestors 18 = .ok (.goto 4, 3) := by decide +kernel
theorem dX6_layAncestors_21 : decode cX6_layAncestors 21 = .ok (.iconst 0, 1) := by decide +kernel
theorem dX6_layAncestors_22 : decode cX6_layAncestors 22 = .ok (.istore 5, 2) := by decide +kernel
theorem dX6_layAncestors_24 : decode cX6_layAncestors 24 = .ok (.iload 4, 2) := by decide +kernel
theorem dX6_layAncestors_26 : decode cX6_layAncestors 26 = .ok (.iconst 1, 1) := by decide +kernel
theorem dX6_layAncestors_27 : decode cX6_layAncestors 27 = .ok (.iadd, 1) := by decide +kernel
theorem dX6_layAncestors_28 : decode cX6_layAncestors 28 = .ok (.istore 6, 2) := by decide +kernel
theorem dX6_layAncestors_30 : decode cX6_layAncestors 30 = .ok (.iload 6, 2) := by decide +kernel
theorem dX6_layAncestors_32 : decode cX6_layAncestors 32 = .ok (.aload_n 0, 1) := by decide +kernel
theorem dX6_layAncestors_33 : decode cX6_layAncestors 33 = .ok (.getfield 7, 3) := by decide +kernel
theorem dX6_layAncestors_36 : decode cX6_layAncestors 36 = .ok (.if_icmp .ge 73, 3) := by decide +kernel
theorem dX6_layAncestors_39 : decode cX6_layAncestors 39 = .ok (.iload_n 2, 1) := by decide +kernel
theorem dX6_layAncestors_40 : decode cX6_layAncestors 40 = .ok (.ifCond .eq 13, 3) := by decide +kernel
theorem dX6_layAncestors_43 : decode cX6_layAncestors 43 = .ok (.aload_n 0, 1) := by decide +kernel
theorem dX6_layAncestors_44 : decode cX6_layAncestors 44 = .ok (.getfield 72, 3) := by decide +kernel
theorem dX6_layAncestors_47 : decode cX6_layAncestors 47 = .ok (.iload 6, 2) := by decide +kernel
theorem dX6_layAncestors_49 : decode cX6_layAncestors 49 = .ok (.baload, 1) := by decide +kernel
theorem dX6_layAncestors_50 : decode cX6_layAncestors 50 = .ok (.goto 10, 3) := by decide +kernel
theorem dX6_layAncestors_53 : decode cX6_layAncestors 53 = .ok (.aload_n 0, 1) := by decide +kernel
theorem dX6_layAncestors_54 : decode cX6_layAncestors 54 = .ok (.getfield 68, 3) := by decide +kernel
theorem dX6_layAncestors_57 : decode cX6_layAncestors 57 = .ok (.iload 6, 2) := by decide +kernel
theorem dX6_layAncestors_59 : decode cX6_layAncestors 59 = .ok (.baload, 1) := by decide +kernel
theorem dX6_layAncestors_60 : decode cX6_layAncestors 60 = .ok (.istore 7, 2) := by decide +kernel
theorem dX6_layAncestors_62 : decode cX6_layAncestors 62 = .ok (.iload 5, 2) := by decide +kernel
theorem dX6_layAncestors_64 : decode cX6_layAncestors 64 = .ok (.ifCond .ne 32, 3) := by decide +kernel
theorem dX6_layAncestors_67 : decode cX6_layAncestors 67 = .ok (.iload 7, 2) := by decide +kernel
theorem dX6_layAncestors_69 : decode cX6_layAncestors 69 = .ok (.ifCond .eq 31, 3) := by decide +kernel
theorem dX6_layAncestors_72 : decode cX6_layAncestors 72 = .ok (.aload_n 0, 1) := by decide +kernel
theorem dX6_layAncestors_73 : decode cX6_layAncestors 73 = .ok (.getfield 17, 3) := by decide +kernel
theorem dX6_layAncestors_76 : decode cX6_layAncestors 76 = .ok (.iload 6, 2) := by decide +kernel
theorem dX6_layAncestors_78 : decode cX6_layAncestors 78 = .ok (.iaload, 1) := by decide +kernel
theorem dX6_layAncestors_79 : decode cX6_layAncestors 79 = .ok (.iload 4, 2) := by decide +kernel
theorem dX6_layAncestors_81 : decode cX6_layAncestors 81 = .ok (.if_icmp .eq 15, 3) := by decide +kernel
theorem dX6_layAncestors_84 : decode cX6_layAncestors 84 = .ok (.aload_n 0, 1) := by decide +kernel
theorem dX6_layAncestors_85 : decode cX6_layAncestors 85 = .ok (.getfield 20, 3) := by decide +kernel
theorem dX6_layAncestors_88 : decode cX6_layAncestors 88 = .ok (.iload 6, 2) := by decide +kernel
theorem dX6_layAncestors_90 : decode cX6_layAncestors 90 = .ok (.iaload, 1) := by decide +kernel
theorem dX6_layAncestors_91 : decode cX6_layAncestors 91 = .ok (.iload 4, 2) := by decide +kernel
theorem dX6_layAncestors_93 : decode cX6_layAncestors 93 = .ok (.if_icmp .ne 7, 3) := by decide +kernel
theorem dX6_layAncestors_96 : decode cX6_layAncestors 96 = .ok (.iconst 1, 1) := by decide +kernel
theorem dX6_layAncestors_97 : decode cX6_layAncestors 97 = .ok (.goto 4, 3) := by decide +kernel
theorem dX6_layAncestors_100 : decode cX6_layAncestors 100 = .ok (.iconst 0, 1) := by decide +kernel
theorem dX6_layAncestors_101 : decode cX6_layAncestors 101 = .ok (.istore 5, 2) := by decide +kernel
theorem dX6_layAncestors_103 : decode cX6_layAncestors 103 = .ok (.iinc 6 1, 3) := by decide +kernel
theorem dX6_layAncestors_106 : decode cX6_layAncestors 106 = .ok (.goto (-76), 3) := by decide +kernel
theorem dX6_layAncestors_109 : decode cX6_layAncestors 109 = .ok (.aload_n 0, 1) := by decide +kernel
theorem dX6_layAncestors_110 : decode cX6_layAncestors 110 = .ok (.getfield 68, 3) := by decide +kernel
theorem dX6_layAncestors_113 : decode cX6_layAncestors 113 = .ok (.iload 4, 2) := by decide +kernel
theorem dX6_layAncestors_115 : decode cX6_layAncestors 115 = .ok (.iload_n 2, 1) := by decide +kernel
theorem dX6_layAncestors_116 : decode cX6_layAncestors 116 = .ok (.ifCond .eq 13, 3) := by decide +kernel
theorem dX6_layAncestors_119 : decode cX6_layAncestors 119 = .ok (.aload_n 0, 1) := by decide +kernel
theorem dX6_layAncestors_120 : decode cX6_layAncestors 120 = .ok (.getfield 68, 3) := by decide +kernel
theorem dX6_layAncestors_123 : decode cX6_layAncestors 123 = .ok (.iload 4, 2) := by decide +kernel
theorem dX6_layAncestors_125 : decode cX6_layAncestors 125 = .ok (.baload, 1) := by decide +kernel
theorem dX6_layAncestors_126 : decode cX6_layAncestors 126 = .ok (.goto 5, 3) := by decide +kernel
theorem dX6_layAncestors_129 : decode cX6_layAncestors 129 = .ok (.iload 5, 2) := by decide +kernel
theorem dX6_layAncestors_131 : decode cX6_layAncestors 131 = .ok (.bastore, 1) := by decide +kernel
theorem dX6_layAncestors_132 : decode cX6_layAncestors 132 = .ok (.aload_n 0, 1) := by decide +kernel
theorem dX6_layAncestors_133 : decode cX6_layAncestors 133 = .ok (.getfield 72, 3) := by decide +kernel
theorem dX6_layAncestors_136 : decode cX6_layAncestors 136 = .ok (.iload 4, 2) := by decide +kernel
theorem dX6_layAncestors_138 : decode cX6_layAncestors 138 = .ok (.iload_n 2, 1) := by decide +kernel
theorem dX6_layAncestors_139 : decode cX6_layAncestors 139 = .ok (.ifCond .eq 8, 3) := by decide +kernel
theorem dX6_layAncestors_142 : decode cX6_layAncestors 142 = .ok (.iload 5, 2) := by decide +kernel
theorem dX6_layAncestors_144 : decode cX6_layAncestors 144 = .ok (.goto 10, 3) := by decide +kernel
theorem dX6_layAncestors_147 : decode cX6_layAncestors 147 = .ok (.aload_n 0, 1) := by decide +kernel
theorem dX6_layAncestors_148 : decode cX6_layAncestors 148 = .ok (.getfield 72, 3) := by decide +kernel
theorem dX6_layAncestors_151 : decode cX6_layAncestors 151 = .ok (.iload 4, 2) := by decide +kernel
theorem dX6_layAncestors_153 : decode cX6_layAncestors 153 = .ok (.baload, 1) := by decide +kernel
theorem dX6_layAncestors_154 : decode cX6_layAncestors 154 = .ok (.bastore, 1) := by decide +kernel
theorem dX6_layAncestors_155 : decode cX6_layAncestors 155 = .ok (.iload_n 3, 1) := by decide +kernel
theorem dX6_layAncestors_156 : decode cX6_layAncestors 156 = .ok (.iload 5, 2) := by decide +kernel
theorem dX6_layAncestors_158 : decode cX6_layAncestors 158 = .ok (.ifCond .eq 7, 3) := by decide +kernel
theorem dX6_layAncestors_161 : decode cX6_layAncestors 161 = .ok (.iconst 1, 1) := by decide +kernel
theorem dX6_layAncestors_162 : decode cX6_layAncestors 162 = .ok (.goto 4, 3) := by decide +kernel
theorem dX6_layAncestors_165 : decode cX6_layAncestors 165 = .ok (.iconst 0, 1) := by decide +kernel
theorem dX6_layAncestors_166 : decode cX6_layAncestors 166 = .ok (.iadd, 1) := by decide +kernel
theorem dX6_layAncestors_167 : decode cX6_layAncestors 167 = .ok (.istore_n 3, 1) := by decide +kernel
theorem dX6_layAncestors_168 : decode cX6_layAncestors 168 = .ok (.iinc 4 (-1), 3) := by decide +kernel
theorem dX6_layAncestors_171 : decode cX6_layAncestors 171 = .ok (.goto (-165), 3) := by decide +kernel
theorem dX6_layAncestors_174 : decode cX6_layAncestors 174 = .ok (.iload_n 3, 1) := by decide +kernel
theorem dX6_layAncestors_175 : decode cX6_layAncestors 175 = .ok (.ireturn, 1) := by decide +kernel
set_option maxRecDepth 20000 in
theorem ggX6_about_X6_isVersion : GoodIn wsX6_about wsX6_isVersion := goodIn_r _ [10, 11, 12, 13, 9, 14, 21, 22, 23, 24, 25, 26, 27, 28, 29, 30, 31, 32, 33, 34, 35, 36, 37, 38, 39, 40, 41, 42, 43, 44, 45, 46, 47, 48] (by decide +kernel) (by decide +kernel)
set_option maxRecDepth 20000 in
theorem gX6_about_X6_isVersion : GoodIn wsX6_about (wsV RX6 89 RX6 yX6_isVersion wsX6_isVersion) := goodIn_app (goodIn_of _ (by decide +kernel)) ggX6_about_X6_isVersion
set_option maxRecDepth 20000 in
theorem ggX6_about_X6_in : GoodIn wsX6_about wsX6_in := goodIn_r _ [14] (by decide +kernel) (by decide +kernel)
set_option maxRecDepth 20000 in
theorem gX6_about_X6_in : GoodIn wsX6_about (va_wsS RX6 81 yX6_in wsX6_in) := goodIn_app (goodIn_of _ (by decide +kernel)) ggX6_about_X6_in
set_option maxRecDepth 20000 in
theorem ggX6_about_X6_layAncestors : GoodIn wsX6_about wsX6_layAncestors := goodIn_r _ [18, 11, 19, 20, 3, 4, 21, 22, 23, 24, 25, 26, 27, 28, 29, 30, 31, 32, 33, 34, 35, 36, 37, 38, 39, 40, 41, 42, 43, 44, 45, 46, 47, 48] (by decide +kernel) (by decide +kernel)
set_option maxRecDepth 20000 in
theorem gX6_about_X6_layAncestors : GoodIn wsX6_about (wsV RX6 109 RX6 yX6_layAncestors wsX6_layAncestors) := goodIn_app (goodIn_of _ (by decide +kernel)) ggX6_about_X6_layAncestors
theorem dX6_about_0 : decode cX6_about 0 = .ok (.aload_n 0, 1) := by decide +kernel
theorem dX6_about_1 : decode cX6_about 1 = .ok (.aload_n 0, 1) := by decide +kernel
theorem dX6_about_2 : decode cX6_about 2 = .ok (.iload_n 1, 1) := by decide +kernel
theorem dX6_about_3 : decode cX6_about 3 = .ok (.invokevirtual 89, 3) := by decide +kernel
theorem dX6_about_6 : decode cX6_about 6 = .ok (.ifCond .ne 7, 3) := by decide +kernel
theorem dX6_about_9 : decode cX6_about 9 = .ok (.iconst 1, 1) := by decide +kernel
theorem dX6_about_10 : decode cX6_about 10 = .ok (.goto 17, 3) := by decide +kernel
theorem dX6_about_13 : decode cX6_about 13 = .ok (.iload_n 2, 1) := by decide +kernel
theorem dX6_about_14 : decode cX6_about 14 = .ok (.iconst 0, 1) := by decide +kernel
theorem dX6_about_15 : decode cX6_about 15 = .ok (.iconst 4, 1) := by decide +kernel
theorem dX6_about_16 : decode cX6_about 16 = .ok (.invokestatic 81, 3) := by decide +kernel
theorem dX6_about_19 : decode cX6_about 19 = .ok (.ifCond .ne 7, 3) := by decide +kernel
theorem dX6_about_22 : decode cX6_about 22 = .ok (.iconst 2, 1) := by decide +kernel
theorem dX6_about_23 : decode cX6_about 23 = .ok (.goto 4, 3) := by decide +kernel
theorem dX6_about_26 : decode cX6_about 26 = .ok (.iconst 0, 1) := by decide +kernel
theorem dX6_about_27 : decode cX6_about 27 = .ok (.putfield 78, 3) := by decide +kernel
theorem dX6_about_30 : decode cX6_about 30 = .ok (.aload_n 0, 1) := by decide +kernel
theorem dX6_about_31 : decode cX6_about 31 = .ok (.getfield 78, 3) := by decide +kernel
theorem dX6_about_34 : decode cX6_about 34 = .ok (.ifCond .le 5, 3) := by decide +kernel
theorem dX6_about_37 : decode cX6_about 37 = .ok (.iconst 0, 1) := by decide +kernel
theorem dX6_about_38 : decode cX6_about 38 = .ok (.ireturn, 1) := by decide +kernel
theorem dX6_about_39 : decode cX6_about 39 = .ok (.iload_n 2, 1) := by decide +kernel
theorem dX6_about_40 : decode cX6_about 40 = .ok (.ifCond .ne 12, 3) := by decide +kernel
theorem dX6_about_43 : decode cX6_about 43 = .ok (.aload_n 0, 1) := by decide +kernel
theorem dX6_about_44 : decode cX6_about 44 = .ok (.getfield 13, 3) := by decide +kernel
theorem dX6_about_47 : decode cX6_about 47 = .ok (.iload_n 1, 1) := by decide +kernel
theorem dX6_about_48 : decode cX6_about 48 = .ok (.iaload, 1) := by decide +kernel
theorem dX6_about_49 : decode cX6_about 49 = .ok (.goto 51, 3) := by decide +kernel
theorem dX6_about_52 : decode cX6_about 52 = .ok (.iload_n 2, 1) := by decide +kernel
theorem dX6_about_53 : decode cX6_about 53 = .ok (.iconst 1, 1) := by decide +kernel
theorem dX6_about_54 : decode cX6_about 54 = .ok (.if_icmp .ne 12, 3) := by decide +kernel
theorem dX6_about_57 : decode cX6_about 57 = .ok (.aload_n 0, 1) := by decide +kernel
theorem dX6_about_58 : decode cX6_about 58 = .ok (.getfield 17, 3) := by decide +kernel
theorem dX6_about_61 : decode cX6_about 61 = .ok (.iload_n 1, 1) := by decide +kernel
theorem dX6_about_62 : decode cX6_about 62 = .ok (.iaload, 1) := by decide +kernel
theorem dX6_about_63 : decode cX6_about 63 = .ok (.goto 37, 3) := by decide +kernel
theorem dX6_about_66 : decode cX6_about 66 = .ok (.iload_n 2, 1) := by decide +kernel
theorem dX6_about_67 : decode cX6_about 67 = .ok (.iconst 2, 1) := by decide +kernel
theorem dX6_about_68 : decode cX6_about 68 = .ok (.if_icmp .ne 12, 3) := by decide +kernel
theorem dX6_about_71 : decode cX6_about 71 = .ok (.aload_n 0, 1) := by decide +kernel
theorem dX6_about_72 : decode cX6_about 72 = .ok (.getfield 20, 3) := by decide +kernel
theorem dX6_about_75 : decode cX6_about 75 = .ok (.iload_n 1, 1) := by decide +kernel
theorem dX6_about_76 : decode cX6_about 76 = .ok (.iaload, 1) := by decide +kernel
theorem dX6_about_77 : decode cX6_about 77 = .ok (.goto 23, 3) := by decide +kernel
theorem dX6_about_80 : decode cX6_about 80 = .ok (.iload_n 2, 1) := by decide +kernel
theorem dX6_about_81 : decode cX6_about 81 = .ok (.iconst 3, 1) := by decide +kernel
theorem dX6_about_82 : decode cX6_about 82 = .ok (.if_icmp .ne 12, 3) := by decide +kernel
theorem dX6_about_85 : decode cX6_about 85 = .ok (.aload_n 0, 1) := by decide +kernel
theorem dX6_about_86 : decode cX6_about 86 = .ok (.getfield 23, 3) := by decide +kernel
theorem dX6_about_89 : decode cX6_about 89 = .ok (.iload_n 1, 1) := by decide +kernel
theorem dX6_about_90 : decode cX6_about 90 = .ok (.iaload, 1) := by decide +kernel
theorem dX6_about_91 : decode cX6_about 91 = .ok (.goto 9, 3) := by decide +kernel
theorem dX6_about_94 : decode cX6_about 94 = .ok (.aload_n 0, 1) := by decide +kernel
theorem dX6_about_95 : decode cX6_about 95 = .ok (.iload_n 1, 1) := by decide +kernel
theorem dX6_about_96 : decode cX6_about 96 = .ok (.iconst 0, 1) := by decide +kernel
theorem dX6_about_97 : decode cX6_about 97 = .ok (.invokevirtual 109, 3) := by decide +kernel
theorem dX6_about_100 : decode cX6_about 100 = .ok (.ireturn, 1) := by decide +kernel
set_option maxRecDepth 20000 in
theorem ggX6_isSlide_X6_in : GoodIn wsX6_isSlide wsX6_in := goodIn_r _ [5] (by decide +kernel) (by decide +kernel)
set_option maxRecDepth 20000 in
theorem gX6_isSlide_X6_in : GoodIn wsX6_isSlide (va_wsS RX6 81 yX6_in wsX6_in) := goodIn_app (goodIn_of _ (by decide +kernel)) ggX6_isSlide_X6_in
theorem dX6_isSlide_0 : decode cX6_isSlide 0 = .ok (.iload_n 1, 1) := by decide +kernel
theorem dX6_isSlide_1 : decode cX6_isSlide 1 = .ok (.iconst 0, 1) := by decide +kernel
theorem dX6_isSlide_2 : decode cX6_isSlide 2 = .ok (.aload_n 0, 1) := by decide +kernel
theorem dX6_isSlide_3 : decode cX6_isSlide 3 = .ok (.getfield 96, 3) := by decide +kernel
theorem dX6_isSlide_6 : decode cX6_isSlide 6 = .ok (.iconst 1, 1) := by decide +kernel
theorem dX6_isSlide_7 : decode cX6_isSlide 7 = .ok (.isub, 1) := by decide +kernel
theorem dX6_isSlide_8 : decode cX6_isSlide 8 = .ok (.invokestatic 81, 3) := by decide +kernel
theorem dX6_isSlide_11 : decode cX6_isSlide 11 = .ok (.ireturn, 1) := by decide +kernel
set_option maxRecDepth 20000 in
theorem ggX6_value_X6_isVersion : GoodIn wsX6_value wsX6_isVersion := goodIn_r _ [6, 7, 8, 9, 5, 10, 30, 31, 32, 33, 34, 35, 36, 37, 38, 39, 40, 41, 42, 43, 44, 45, 46, 47, 48, 49, 50, 51, 52, 53, 54, 55, 56, 57] (by decide +kernel) (by decide +kernel)
set_option maxRecDepth 20000 in
theorem gX6_value_X6_isVersion : GoodIn wsX6_value (wsV RX6 89 RX6 yX6_isVersion wsX6_isVersion) := goodIn_app (goodIn_of _ (by decide +kernel)) ggX6_value_X6_isVersion
set_option maxRecDepth 20000 in
theorem ggX6_value_X6_isSlide : GoodIn wsX6_value wsX6_isSlide := goodIn_r _ [14, 15, 8, 9, 5, 10, 30, 31, 32, 33, 34, 35, 36, 37, 38, 39, 40, 41, 42, 43, 44, 45, 46, 47, 48, 49, 50, 51, 52, 53, 54, 55, 56, 57] (by decide +kernel) (by decide +kernel)
set_option maxRecDepth 20000 in
theorem gX6_value_X6_isSlide : GoodIn wsX6_value (wsV RX6 113 RX6 yX6_isSlide wsX6_isSlide) := goodIn_app (goodIn_of _ (by decide +kernel)) ggX6_value_X6_isSlide
set_option maxRecDepth 20000 in
theorem ggX6_value_X6_isObject : GoodIn wsX6_value wsX6_isObject := goodIn_r _ [18, 8, 9, 5, 10] (by decide +kernel) (by decide +kernel)
set_option maxRecDepth 20000 in
theorem gX6_value_X6_isObject : GoodIn wsX6_value (va_wsS RX6 106 yX6_isObject wsX6_isObject) := goodIn_app (goodIn_of _ (by decide +kernel)) ggX6_value_X6_isObject
set_option maxRecDepth 20000 in
theorem ggX6_value_X6_placeOf : GoodIn wsX6_value wsX6_placeOf := goodIn_r _ [22, 23, 24, 30, 31, 32, 33, 34, 35, 36, 37, 38, 39, 40, 41, 42, 43, 44, 45, 46, 47, 48, 49, 50, 51, 52, 53, 54, 55, 56, 57] (by decide +kernel) (by decide +kernel)
set_option maxRecDepth 20000 in
theorem gX6_value_X6_placeOf : GoodIn wsX6_value (wsV RX6 85 RX6 yX6_placeOf wsX6_placeOf) := goodIn_app (goodIn_of _ (by decide +kernel)) ggX6_value_X6_placeOf
set_option maxRecDepth 20000 in
theorem ggX6_value_X6_valueOf : GoodIn wsX6_value wsX6_valueOf := goodIn_r _ [28, 29, 19, 20, 21, 5, 22, 23, 24, 30, 31, 32, 33, 34, 35, 36, 37, 38, 39, 40, 41, 42, 43, 44, 45, 46, 47, 48, 49, 50, 51, 52, 53, 54, 55, 56, 57] (by decide +kernel) (by decide +kernel)
set_option maxRecDepth 20000 in
theorem gX6_value_X6_valueOf : GoodIn wsX6_value (wsV RX6 116 RX6 yX6_valueOf wsX6_valueOf) := goodIn_app (goodIn_of _ (by decide +kernel)) ggX6_value_X6_valueOf
theorem dX6_value_0 : decode cX6_value 0 = .ok (.aload_n 0, 1) := by decide +kernel
theorem dX6_value_1 : decode cX6_value 1 = .ok (.aload_n 0, 1) := by decide +kernel
theorem dX6_value_2 : decode cX6_value 2 = .ok (.iload_n 1, 1) := by decide +kernel
theorem dX6_value_3 : decode cX6_value 3 = .ok (.invokevirtual 89, 3) := by decide +kernel
theorem dX6_value_6 : decode cX6_value 6 = .ok (.ifCond .eq 22, 3) := by decide +kernel
theorem dX6_value_9 : decode cX6_value 9 = .ok (.aload_n 0, 1) := by decide +kernel
theorem dX6_value_10 : decode cX6_value 10 = .ok (.iload_n 2, 1) := by decide +kernel
theorem dX6_value_11 : decode cX6_value 11 = .ok (.invokevirtual 113, 3) := by decide +kernel
theorem dX6_value_14 : decode cX6_value 14 = .ok (.ifCond .eq 14, 3) := by decide +kernel
theorem dX6_value_17 : decode cX6_value 17 = .ok (.iload_n 3, 1) := by decide +kernel
theorem dX6_value_18 : decode cX6_value 18 = .ok (.invokestatic 106, 3) := by decide +kernel
theorem dX6_value_21 : decode cX6_value 21 = .ok (.ifCond .eq 7, 3) := by decide +kernel
theorem dX6_value_24 : decode cX6_value 24 = .ok (.iconst 0, 1) := by decide +kernel
theorem dX6_value_25 : decode cX6_value 25 = .ok (.goto 4, 3) := by decide +kernel
theorem dX6_value_28 : decode cX6_value 28 = .ok (.iconst 1, 1) := by decide +kernel
theorem dX6_value_29 : decode cX6_value 29 = .ok (.putfield 78, 3) := by decide +kernel
theorem dX6_value_32 : decode cX6_value 32 = .ok (.aload_n 0, 1) := by decide +kernel
theorem dX6_value_33 : decode cX6_value 33 = .ok (.getfield 78, 3) := by decide +kernel
theorem dX6_value_36 : decode cX6_value 36 = .ok (.ifCond .le 5, 3) := by decide +kernel
theorem dX6_value_39 : decode cX6_value 39 = .ok (.iconst 0, 1) := by decide +kernel
theorem dX6_value_40 : decode cX6_value 40 = .ok (.ireturn, 1) := by decide +kernel
theorem dX6_value_41 : decode cX6_value 41 = .ok (.aload_n 0, 1) := by decide +kernel
theorem dX6_value_42 : decode cX6_value 42 = .ok (.iload_n 1, 1) := by decide +kernel
theorem dX6_value_43 : decode cX6_value 43 = .ok (.iload_n 2, 1) := by decide +kernel
theorem dX6_value_44 : decode cX6_value 44 = .ok (.invokevirtual 85, 3) := by decide +kernel
theorem dX6_value_47 : decode cX6_value 47 = .ok (.iconst (-1), 1) := by decide +kernel
theorem dX6_value_48 : decode cX6_value 48 = .ok (.if_icmp .ne 7, 3) := by decide +kernel
theorem dX6_value_51 : decode cX6_value 51 = .ok (.iconst (-1), 1) := by decide +kernel
theorem dX6_value_52 : decode cX6_value 52 = .ok (.goto 10, 3) := by decide +kernel
theorem dX6_value_55 : decode cX6_value 55 = .ok (.aload_n 0, 1) := by decide +kernel
theorem dX6_value_56 : decode cX6_value 56 = .ok (.iload_n 1, 1) := by decide +kernel
theorem dX6_value_57 : decode cX6_value 57 = .ok (.iload_n 2, 1) := by decide +kernel
theorem dX6_value_58 : decode cX6_value 58 = .ok (.iload_n 3, 1) := by decide +kernel
theorem dX6_value_59 : decode cX6_value 59 = .ok (.invokevirtual 116, 3) := by decide +kernel
theorem dX6_value_62 : decode cX6_value 62 = .ok (.ireturn, 1) := by decide +kernel
set_option maxRecDepth 20000 in
theorem ggX6_slideAt_X6_isVersion : GoodIn wsX6_slideAt wsX6_isVersion := goodIn_r _ [8, 9, 10, 11, 7, 12, 13, 14, 15, 16, 17, 18, 19, 20, 21, 22, 23, 24, 25, 26, 27, 28, 29, 30, 31, 32, 33, 34, 35, 36, 37, 38, 39, 40] (by decide +kernel) (by decide +kernel)
set_option maxRecDepth 20000 in
theorem gX6_slideAt_X6_isVersion : GoodIn wsX6_slideAt (wsV RX6 89 RX6 yX6_isVersion wsX6_isVersion) := goodIn_app (goodIn_of _ (by decide +kernel)) ggX6_slideAt_X6_isVersion
theorem dX6_slideAt_0 : decode cX6_slideAt 0 = .ok (.aload_n 0, 1) := by decide +kernel
theorem dX6_slideAt_1 : decode cX6_slideAt 1 = .ok (.aload_n 0, 1) := by decide +kernel
theorem dX6_slideAt_2 : decode cX6_slideAt 2 = .ok (.iload_n 1, 1) := by decide +kernel
theorem dX6_slideAt_3 : decode cX6_slideAt 3 = .ok (.invokevirtual 89, 3) := by decide +kernel
theorem dX6_slideAt_6 : decode cX6_slideAt 6 = .ok (.ifCond .eq 11, 3) := by decide +kernel
theorem dX6_slideAt_9 : decode cX6_slideAt 9 = .ok (.iload_n 2, 1) := by decide +kernel
theorem dX6_slideAt_10 : decode cX6_slideAt 10 = .ok (.ifCond .lt 7, 3) := by decide +kernel
theorem dX6_slideAt_13 : decode cX6_slideAt 13 = .ok (.iconst 0, 1) := by decide +kernel
theorem dX6_slideAt_14 : decode cX6_slideAt 14 = .ok (.goto 4, 3) := by decide +kernel
theorem dX6_slideAt_17 : decode cX6_slideAt 17 = .ok (.iconst 1, 1) := by decide +kernel
theorem dX6_slideAt_18 : decode cX6_slideAt 18 = .ok (.putfield 78, 3) := by decide +kernel
theorem dX6_slideAt_21 : decode cX6_slideAt 21 = .ok (.aload_n 0, 1) := by decide +kernel
theorem dX6_slideAt_22 : decode cX6_slideAt 22 = .ok (.getfield 78, 3) := by decide +kernel
theorem dX6_slideAt_25 : decode cX6_slideAt 25 = .ok (.ifCond .le 5, 3) := by decide +kernel
theorem dX6_slideAt_28 : decode cX6_slideAt 28 = .ok (.iconst 0, 1) := by decide +kernel
theorem dX6_slideAt_29 : decode cX6_slideAt 29 = .ok (.ireturn, 1) := by decide +kernel
theorem dX6_slideAt_30 : decode cX6_slideAt 30 = .ok (.iload_n 2, 1) := by decide +kernel
theorem dX6_slideAt_31 : decode cX6_slideAt 31 = .ok (.aload_n 0, 1) := by decide +kernel
theorem dX6_slideAt_32 : decode cX6_slideAt 32 = .ok (.getfield 23, 3) := by decide +kernel
theorem dX6_slideAt_35 : decode cX6_slideAt 35 = .ok (.iload_n 1, 1) := by decide +kernel
theorem dX6_slideAt_36 : decode cX6_slideAt 36 = .ok (.iaload, 1) := by decide +kernel
theorem dX6_slideAt_37 : decode cX6_slideAt 37 = .ok (.if_icmp .ge 17, 3) := by decide +kernel
theorem dX6_slideAt_40 : decode cX6_slideAt 40 = .ok (.aload_n 0, 1) := by decide +kernel
theorem dX6_slideAt_41 : decode cX6_slideAt 41 = .ok (.getfield 26, 3) := by decide +kernel
theorem dX6_slideAt_44 : decode cX6_slideAt 44 = .ok (.bipush 8, 2) := by decide +kernel
theorem dX6_slideAt_46 : decode cX6_slideAt 46 = .ok (.iload_n 1, 1) := by decide +kernel
theorem dX6_slideAt_47 : decode cX6_slideAt 47 = .ok (.imul, 1) := by decide +kernel
theorem dX6_slideAt_48 : decode cX6_slideAt 48 = .ok (.iload_n 2, 1) := by decide +kernel
theorem dX6_slideAt_49 : decode cX6_slideAt 49 = .ok (.iadd, 1) := by decide +kernel
theorem dX6_slideAt_50 : decode cX6_slideAt 50 = .ok (.iaload, 1) := by decide +kernel
theorem dX6_slideAt_51 : decode cX6_slideAt 51 = .ok (.goto 4, 3) := by decide +kernel
theorem dX6_slideAt_54 : decode cX6_slideAt 54 = .ok (.iconst (-1), 1) := by decide +kernel
theorem dX6_slideAt_55 : decode cX6_slideAt 55 = .ok (.ireturn, 1) := by decide +kernel
set_option maxRecDepth 20000 in
theorem ggX6_baseOf_X6_layAncestors : GoodIn wsX6_baseOf wsX6_layAncestors := goodIn_r _ [9, 2, 4, 3, 10, 11, 12, 13, 14, 15, 16, 17, 18, 19, 20, 21, 22, 23, 24, 25, 26, 27, 28, 29, 30, 31, 32, 33, 34, 35, 36, 37, 38, 39] (by decide +kernel) (by decide +kernel)
set_option maxRecDepth 20000 in
theorem gX6_baseOf_X6_layAncestors : GoodIn wsX6_baseOf (wsV RX6 109 RX6 yX6_layAncestors wsX6_layAncestors) := goodIn_app (goodIn_of _ (by decide +kernel)) ggX6_baseOf_X6_layAncestors
theorem dX6_baseOf_0 : decode cX6_baseOf 0 = .ok (.aload_n 0, 1) := by decide +kernel
theorem dX6_baseOf_1 : decode cX6_baseOf 1 = .ok (.aload_n 0, 1) := by decide +kernel
theorem dX6_baseOf_2 : decode cX6_baseOf 2 = .ok (.getfield 35, 3) := by decide +kernel
theorem dX6_baseOf_5 : decode cX6_baseOf 5 = .ok (.iload_n 1, 1) := by decide +kernel
theorem dX6_baseOf_6 : decode cX6_baseOf 6 = .ok (.iaload, 1) := by decide +kernel
theorem dX6_baseOf_7 : decode cX6_baseOf 7 = .ok (.iconst 0, 1) := by decide +kernel
theorem dX6_baseOf_8 : decode cX6_baseOf 8 = .ok (.invokevirtual 109, 3) := by decide +kernel
theorem dX6_baseOf_11 : decode cX6_baseOf 11 = .ok (.aload_n 0, 1) := by decide +kernel
theorem dX6_baseOf_12 : decode cX6_baseOf 12 = .ok (.aload_n 0, 1) := by decide +kernel
theorem dX6_baseOf_13 : decode cX6_baseOf 13 = .ok (.getfield 35, 3) := by decide +kernel
theorem dX6_baseOf_16 : decode cX6_baseOf 16 = .ok (.iload_n 2, 1) := by decide +kernel
theorem dX6_baseOf_17 : decode cX6_baseOf 17 = .ok (.iaload, 1) := by decide +kernel
theorem dX6_baseOf_18 : decode cX6_baseOf 18 = .ok (.iconst 1, 1) := by decide +kernel
theorem dX6_baseOf_19 : decode cX6_baseOf 19 = .ok (.invokevirtual 109, 3) := by decide +kernel
theorem dX6_baseOf_22 : decode cX6_baseOf 22 = .ok (.iadd, 1) := by decide +kernel
theorem dX6_baseOf_23 : decode cX6_baseOf 23 = .ok (.istore_n 3, 1) := by decide +kernel
theorem dX6_baseOf_24 : decode cX6_baseOf 24 = .ok (.iload_n 3, 1) := by decide +kernel
theorem dX6_baseOf_25 : decode cX6_baseOf 25 = .ok (.ifCond .le 7, 3) := by decide +kernel
theorem dX6_baseOf_28 : decode cX6_baseOf 28 = .ok (.iconst 0, 1) := by decide +kernel
theorem dX6_baseOf_29 : decode cX6_baseOf 29 = .ok (.goto 4, 3) := by decide +kernel
theorem dX6_baseOf_32 : decode cX6_baseOf 32 = .ok (.iconst (-1), 1) := by decide +kernel
theorem dX6_baseOf_33 : decode cX6_baseOf 33 = .ok (.istore 4, 2) := by decide +kernel
theorem dX6_baseOf_35 : decode cX6_baseOf 35 = .ok (.iconst 0, 1) := by decide +kernel
theorem dX6_baseOf_36 : decode cX6_baseOf 36 = .ok (.istore 5, 2) := by decide +kernel
theorem dX6_baseOf_38 : decode cX6_baseOf 38 = .ok (.iload 5, 2) := by decide +kernel
theorem dX6_baseOf_40 : decode cX6_baseOf 40 = .ok (.aload_n 0, 1) := by decide +kernel
theorem dX6_baseOf_41 : decode cX6_baseOf 41 = .ok (.getfield 7, 3) := by decide +kernel
theorem dX6_baseOf_44 : decode cX6_baseOf 44 = .ok (.if_icmp .ge 38, 3) := by decide +kernel
theorem dX6_baseOf_47 : decode cX6_baseOf 47 = .ok (.aload_n 0, 1) := by decide +kernel
theorem dX6_baseOf_48 : decode cX6_baseOf 48 = .ok (.getfield 68, 3) := by decide +kernel
theorem dX6_baseOf_51 : decode cX6_baseOf 51 = .ok (.iload 5, 2) := by decide +kernel
theorem dX6_baseOf_53 : decode cX6_baseOf 53 = .ok (.baload, 1) := by decide +kernel
theorem dX6_baseOf_54 : decode cX6_baseOf 54 = .ok (.ifCond .eq 18, 3) := by decide +kernel
theorem dX6_baseOf_57 : decode cX6_baseOf 57 = .ok (.aload_n 0, 1) := by decide +kernel
theorem dX6_baseOf_58 : decode cX6_baseOf 58 = .ok (.getfield 72, 3) := by decide +kernel
theorem dX6_baseOf_61 : decode cX6_baseOf 61 = .ok (.iload 5, 2) := by decide +kernel
theorem dX6_baseOf_63 : decode cX6_baseOf 63 = .ok (.baload, 1) := by decide +kernel
theorem dX6_baseOf_64 : decode cX6_baseOf 64 = .ok (.ifCond .eq 8, 3) := by decide +kernel
theorem dX6_baseOf_67 : decode cX6_baseOf 67 = .ok (.iload 5, 2) := by decide +kernel
theorem dX6_baseOf_69 : decode cX6_baseOf 69 = .ok (.goto 5, 3) := by decide +kernel
theorem dX6_baseOf_72 : decode cX6_baseOf 72 = .ok (.iload 4, 2) := by decide +kernel
theorem dX6_baseOf_74 : decode cX6_baseOf 74 = .ok (.istore 4, 2) := by decide +kernel
theorem dX6_baseOf_76 : decode cX6_baseOf 76 = .ok (.iinc 5 1, 3) := by decide +kernel
theorem dX6_baseOf_79 : decode cX6_baseOf 79 = .ok (.goto (-41), 3) := by decide +kernel
theorem dX6_baseOf_82 : decode cX6_baseOf 82 = .ok (.iload 4, 2) := by decide +kernel
theorem dX6_baseOf_84 : decode cX6_baseOf 84 = .ok (.ireturn, 1) := by decide +kernel
set_option maxRecDepth 20000 in
theorem ggX6_isAs_X6_valueOf : GoodIn wsX6_isAs wsX6_valueOf := goodIn_r _ [5, 6, 7, 8, 9, 4, 10, 11, 12, 13, 14, 15, 16, 17, 18, 19, 20, 21, 22, 23, 24, 25, 26, 27, 28, 29, 30, 31, 32, 33, 34, 35, 36, 37, 38, 39, 40] (by decide +kernel) (by decide +kernel)
set_option maxRecDepth 20000 in
theorem gX6_isAs_X6_valueOf : GoodIn wsX6_isAs (wsV RX6 116 RX6 yX6_valueOf wsX6_valueOf) := goodIn_app (goodIn_of _ (by decide +kernel)) ggX6_isAs_X6_valueOf
theorem dX6_isAs_0 : decode cX6_isAs 0 = .ok (.iconst 1, 1) := by decide +kernel
theorem dX6_isAs_1 : decode cX6_isAs 1 = .ok (.istore 4, 2) := by decide +kernel
theorem dX6_isAs_3 : decode cX6_isAs 3 = .ok (.iconst 0, 1) := by decide +kernel
theorem dX6_isAs_4 : decode cX6_isAs 4 = .ok (.istore 5, 2) := by decide +kernel
theorem dX6_isAs_6 : decode cX6_isAs 6 = .ok (.iload 5, 2) := by decide +kernel
theorem dX6_isAs_8 : decode cX6_isAs 8 = .ok (.iconst 4, 1) := by decide +kernel
theorem dX6_isAs_9 : decode cX6_isAs 9 = .ok (.if_icmp .ge 40, 3) := by decide +kernel
theorem dX6_isAs_12 : decode cX6_isAs 12 = .ok (.iload 4, 2) := by decide +kernel
theorem dX6_isAs_14 : decode cX6_isAs 14 = .ok (.ifCond .eq 26, 3) := by decide +kernel
theorem dX6_isAs_17 : decode cX6_isAs 17 = .ok (.aload_n 0, 1) := by decide +kernel
theorem dX6_isAs_18 : decode cX6_isAs 18 = .ok (.iload_n 1, 1) := by decide +kernel
theorem dX6_isAs_19 : decode cX6_isAs 19 = .ok (.iload_n 3, 1) := by decide +kernel
theorem dX6_isAs_20 : decode cX6_isAs 20 = .ok (.iload 5, 2) := by decide +kernel
theorem dX6_isAs_22 : decode cX6_isAs 22 = .ok (.invokevirtual 116, 3) := by decide +kernel
theorem dX6_isAs_25 : decode cX6_isAs 25 = .ok (.aload_n 0, 1) := by decide +kernel
theorem dX6_isAs_26 : decode cX6_isAs 26 = .ok (.iload_n 2, 1) := by decide +kernel
theorem dX6_isAs_27 : decode cX6_isAs 27 = .ok (.iload_n 3, 1) := by decide +kernel
theorem dX6_isAs_28 : decode cX6_isAs 28 = .ok (.iload 5, 2) := by decide +kernel
theorem dX6_isAs_30 : decode cX6_isAs 30 = .ok (.invokevirtual 116, 3) := by decide +kernel
theorem dX6_isAs_33 : decode cX6_isAs 33 = .ok (.if_icmp .ne 7, 3) := by decide +kernel
theorem dX6_isAs_36 : decode cX6_isAs 36 = .ok (.iconst 1, 1) := by decide +kernel
theorem dX6_isAs_37 : decode cX6_isAs 37 = .ok (.goto 4, 3) := by decide +kernel
theorem dX6_isAs_40 : decode cX6_isAs 40 = .ok (.iconst 0, 1) := by decide +kernel
theorem dX6_isAs_41 : decode cX6_isAs 41 = .ok (.istore 4, 2) := by decide +kernel
theorem dX6_isAs_43 : decode cX6_isAs 43 = .ok (.iinc 5 1, 3) := by decide +kernel
theorem dX6_isAs_46 : decode cX6_isAs 46 = .ok (.goto (-40), 3) := by decide +kernel
theorem dX6_isAs_49 : decode cX6_isAs 49 = .ok (.iload 4, 2) := by decide +kernel
theorem dX6_isAs_51 : decode cX6_isAs 51 = .ok (.ireturn, 1) := by decide +kernel
set_option maxRecDepth 20000 in
theorem ggX6_fate_X6_placeOf : GoodIn wsX6_fate wsX6_placeOf := goodIn_r _ [5, 6, 7, 17, 18, 19, 20, 21, 22, 23, 24, 25, 26, 27, 28, 29, 30, 31, 32, 33, 34, 35, 36, 37, 38, 39, 40, 41, 42, 43, 44] (by decide +kernel) (by decide +kernel)
set_option maxRecDepth 20000 in
theorem gX6_fate_X6_placeOf : GoodIn wsX6_fate (wsV RX6 85 RX6 yX6_placeOf wsX6_placeOf) := goodIn_app (goodIn_of _ (by decide +kernel)) ggX6_fate_X6_placeOf
set_option maxRecDepth 20000 in
theorem ggX6_fate_X6_isAs : GoodIn wsX6_fate wsX6_isAs := goodIn_r _ [11, 12, 13, 14, 4, 15, 16, 1, 2, 3, 5, 6, 7, 17, 18, 19, 20, 21, 22, 23, 24, 25, 26, 27, 28, 29, 30, 31, 32, 33, 34, 35, 36, 37, 38, 39, 40, 41, 42, 43, 44] (by decide +kernel) (by decide +kernel)
set_option maxRecDepth 20000 in
theorem gX6_fate_X6_isAs : GoodIn wsX6_fate (wsV RX6 120 RX6 yX6_isAs wsX6_isAs) := goodIn_app (goodIn_of _ (by decide +kernel)) ggX6_fate_X6_isAs
theorem dX6_fate_0 : decode cX6_fate 0 = .ok (.aload_n 0, 1) := by decide +kernel
theorem dX6_fate_1 : decode cX6_fate 1 = .ok (.iload_n 2, 1) := by decide +kernel
theorem dX6_fate_2 : decode cX6_fate 2 = .ok (.iload 4, 2) := by decide +kernel
theorem dX6_fate_4 : decode cX6_fate 4 = .ok (.invokevirtual 85, 3) := by decide +kernel
theorem dX6_fate_7 : decode cX6_fate 7 = .ok (.iconst (-1), 1) := by decide +kernel
theorem dX6_fate_8 : decode cX6_fate 8 = .ok (.if_icmp .eq 7, 3) := by decide +kernel
theorem dX6_fate_11 : decode cX6_fate 11 = .ok (.iconst 1, 1) := by decide +kernel
theorem dX6_fate_12 : decode cX6_fate 12 = .ok (.goto 4, 3) := by decide +kernel
theorem dX6_fate_15 : decode cX6_fate 15 = .ok (.iconst 0, 1) := by decide +kernel
theorem dX6_fate_16 : decode cX6_fate 16 = .ok (.istore 5, 2) := by decide +kernel
theorem dX6_fate_18 : decode cX6_fate 18 = .ok (.aload_n 0, 1) := by decide +kernel
theorem dX6_fate_19 : decode cX6_fate 19 = .ok (.iload_n 3, 1) := by decide +kernel
theorem dX6_fate_20 : decode cX6_fate 20 = .ok (.iload 4, 2) := by decide +kernel
theorem dX6_fate_22 : decode cX6_fate 22 = .ok (.invokevirtual 85, 3) := by decide +kernel
theorem dX6_fate_25 : decode cX6_fate 25 = .ok (.iconst (-1), 1) := by decide +kernel
theorem dX6_fate_26 : decode cX6_fate 26 = .ok (.if_icmp .eq 7, 3) := by decide +kernel
theorem dX6_fate_29 : decode cX6_fate 29 = .ok (.iconst 1, 1) := by decide +kernel
theorem dX6_fate_30 : decode cX6_fate 30 = .ok (.goto 4, 3) := by decide +kernel
theorem dX6_fate_33 : decode cX6_fate 33 = .ok (.iconst 0, 1) := by decide +kernel
theorem dX6_fate_34 : decode cX6_fate 34 = .ok (.istore 6, 2) := by decide +kernel
theorem dX6_fate_36 : decode cX6_fate 36 = .ok (.aload_n 0, 1) := by decide +kernel
theorem dX6_fate_37 : decode cX6_fate 37 = .ok (.iload_n 1, 1) := by decide +kernel
theorem dX6_fate_38 : decode cX6_fate 38 = .ok (.iload 4, 2) := by decide +kernel
theorem dX6_fate_40 : decode cX6_fate 40 = .ok (.invokevirtual 85, 3) := by decide +kernel
theorem dX6_fate_43 : decode cX6_fate 43 = .ok (.iconst (-1), 1) := by decide +kernel
theorem dX6_fate_44 : decode cX6_fate 44 = .ok (.if_icmp .eq 7, 3) := by decide +kernel
theorem dX6_fate_47 : decode cX6_fate 47 = .ok (.iconst 1, 1) := by decide +kernel
theorem dX6_fate_48 : decode cX6_fate 48 = .ok (.goto 4, 3) := by decide +kernel
theorem dX6_fate_51 : decode cX6_fate 51 = .ok (.iconst 0, 1) := by decide +kernel
theorem dX6_fate_52 : decode cX6_fate 52 = .ok (.istore 7, 2) := by decide +kernel
theorem dX6_fate_54 : decode cX6_fate 54 = .ok (.iload 5, 2) := by decide +kernel
theorem dX6_fate_56 : decode cX6_fate 56 = .ok (.ifCond .eq 19, 3) := by decide +kernel
theorem dX6_fate_59 : decode cX6_fate 59 = .ok (.iload 6, 2) := by decide +kernel
theorem dX6_fate_61 : decode cX6_fate 61 = .ok (.ifCond .eq 14, 3) := by decide +kernel
theorem dX6_fate_64 : decode cX6_fate 64 = .ok (.iload 7, 2) := by decide +kernel
theorem dX6_fate_66 : decode cX6_fate 66 = .ok (.ifCond .eq 7, 3) := by decide +kernel
theorem dX6_fate_69 : decode cX6_fate 69 = .ok (.iconst 4, 1) := by decide +kernel
theorem dX6_fate_70 : decode cX6_fate 70 = .ok (.goto 4, 3) := by decide +kernel
theorem dX6_fate_73 : decode cX6_fate 73 = .ok (.iconst 3, 1) := by decide +kernel
theorem dX6_fate_74 : decode cX6_fate 74 = .ok (.ireturn, 1) := by decide +kernel
theorem dX6_fate_75 : decode cX6_fate 75 = .ok (.iload 5, 2) := by decide +kernel
theorem dX6_fate_77 : decode cX6_fate 77 = .ok (.ifCond .ne 11, 3) := by decide +kernel
theorem dX6_fate_80 : decode cX6_fate 80 = .ok (.iload 6, 2) := by decide +kernel
theorem dX6_fate_82 : decode cX6_fate 82 = .ok (.ifCond .ne 6, 3) := by decide +kernel
theorem dX6_fate_85 : decode cX6_fate 85 = .ok (.bipush (-2), 2) := by decide +kernel
theorem dX6_fate_87 : decode cX6_fate 87 = .ok (.ireturn, 1) := by decide +kernel
theorem dX6_fate_88 : decode cX6_fate 88 = .ok (.iload 7, 2) := by decide +kernel
theorem dX6_fate_90 : decode cX6_fate 90 = .ok (.ifCond .ne 14, 3) := by decide +kernel
theorem dX6_fate_93 : decode cX6_fate 93 = .ok (.iload 5, 2) := by decide +kernel
theorem dX6_fate_95 : decode cX6_fate 95 = .ok (.ifCond .eq 7, 3) := by decide +kernel
theorem dX6_fate_98 : decode cX6_fate 98 = .ok (.iconst 1, 1) := by decide +kernel
theorem dX6_fate_99 : decode cX6_fate 99 = .ok (.goto 4, 3) := by decide +kernel
theorem dX6_fate_102 : decode cX6_fate 102 = .ok (.iconst 2, 1) := by decide +kernel
theorem dX6_fate_103 : decode cX6_fate 103 = .ok (.ireturn, 1) := by decide +kernel
theorem dX6_fate_104 : decode cX6_fate 104 = .ok (.aload_n 0, 1) := by decide +kernel
theorem dX6_fate_105 : decode cX6_fate 105 = .ok (.iload 5, 2) := by decide +kernel
theorem dX6_fate_107 : decode cX6_fate 107 = .ok (.ifCond .eq 7, 3) := by decide +kernel
theorem dX6_fate_110 : decode cX6_fate 110 = .ok (.iload_n 2, 1) := by decide +kernel
theorem dX6_fate_111 : decode cX6_fate 111 = .ok (.goto 4, 3) := by decide +kernel
theorem dX6_fate_114 : decode cX6_fate 114 = .ok (.iload_n 3, 1) := by decide +kernel
theorem dX6_fate_115 : decode cX6_fate 115 = .ok (.iload_n 1, 1) := by decide +kernel
theorem dX6_fate_116 : decode cX6_fate 116 = .ok (.iload 4, 2) := by decide +kernel
theorem dX6_fate_118 : decode cX6_fate 118 = .ok (.invokevirtual 120, 3) := by decide +kernel
theorem dX6_fate_121 : decode cX6_fate 121 = .ok (.ifCond .eq 8, 3) := by decide +kernel
theorem dX6_fate_124 : decode cX6_fate 124 = .ok (.bipush (-2), 2) := by decide +kernel
theorem dX6_fate_126 : decode cX6_fate 126 = .ok (.goto 5, 3) := by decide +kernel
theorem dX6_fate_129 : decode cX6_fate 129 = .ok (.bipush (-3), 2) := by decide +kernel
theorem dX6_fate_131 : decode cX6_fate 131 = .ok (.ireturn, 1) := by decide +kernel
set_option maxRecDepth 20000 in
theorem ggX6_meets_X6_valueOf : GoodIn wsX6_meets wsX6_valueOf := goodIn_r _ [5, 6, 7, 8, 9, 4, 10, 11, 12, 13, 14, 15, 16, 17, 18, 19, 20, 21, 22, 23, 24, 25, 26, 27, 28, 29, 30, 31, 32, 33, 34, 35, 36, 37, 38, 39, 40] (by decide +kernel) (by decide +kernel)
set_option maxRecDepth 20000 in
theorem gX6_meets_X6_valueOf : GoodIn wsX6_meets (wsV RX6 116 RX6 yX6_valueOf wsX6_valueOf) := goodIn_app (goodIn_of _ (by decide +kernel)) ggX6_meets_X6_valueOf
theorem dX6_meets_0 : decode cX6_meets 0 = .ok (.aload_n 0, 1) := by decide +kernel
theorem dX6_meets_1 : decode cX6_meets 1 = .ok (.iload_n 2, 1) := by decide +kernel
theorem dX6_meets_2 : decode cX6_meets 2 = .ok (.iload 4, 2) := by decide +kernel
theorem dX6_meets_4 : decode cX6_meets 4 = .ok (.iload 5, 2) := by decide +kernel
theorem dX6_meets_6 : decode cX6_meets 6 = .ok (.invokevirtual 116, 3) := by decide +kernel
theorem dX6_meets_9 : decode cX6_meets 9 = .ok (.istore 7, 2) := by decide +kernel
theorem dX6_meets_11 : decode cX6_meets 11 = .ok (.aload_n 0, 1) := by decide +kernel
theorem dX6_meets_12 : decode cX6_meets 12 = .ok (.iload_n 3, 1) := by decide +kernel
theorem dX6_meets_13 : decode cX6_meets 13 = .ok (.iload 4, 2) := by decide +kernel
theorem dX6_meets_15 : decode cX6_meets 15 = .ok (.iload 5, 2) := by decide +kernel
theorem dX6_meets_17 : decode cX6_meets 17 = .ok (.invokevirtual 116, 3) := by decide +kernel
theorem dX6_meets_20 : decode cX6_meets 20 = .ok (.istore 8, 2) := by decide +kernel
theorem dX6_meets_22 : decode cX6_meets 22 = .ok (.iload 6, 2) := by decide +kernel
theorem dX6_meets_24 : decode cX6_meets 24 = .ok (.ifCond .eq 15, 3) := by decide +kernel
theorem dX6_meets_27 : decode cX6_meets 27 = .ok (.aload_n 0, 1) := by decide +kernel
theorem dX6_meets_28 : decode cX6_meets 28 = .ok (.iload_n 1, 1) := by decide +kernel
theorem dX6_meets_29 : decode cX6_meets 29 = .ok (.iload 4, 2) := by decide +kernel
theorem dX6_meets_31 : decode cX6_meets 31 = .ok (.iload 5, 2) := by decide +kernel
theorem dX6_meets_33 : decode cX6_meets 33 = .ok (.invokevirtual 116, 3) := by decide +kernel
theorem dX6_meets_36 : decode cX6_meets 36 = .ok (.goto 4, 3) := by decide +kernel
theorem dX6_meets_39 : decode cX6_meets 39 = .ok (.iconst (-1), 1) := by decide +kernel
theorem dX6_meets_40 : decode cX6_meets 40 = .ok (.istore 9, 2) := by decide +kernel
theorem dX6_meets_42 : decode cX6_meets 42 = .ok (.iload 7, 2) := by decide +kernel
theorem dX6_meets_44 : decode cX6_meets 44 = .ok (.iload 8, 2) := by decide +kernel
theorem dX6_meets_46 : decode cX6_meets 46 = .ok (.if_icmp .ne 8, 3) := by decide +kernel
theorem dX6_meets_49 : decode cX6_meets 49 = .ok (.iload 7, 2) := by decide +kernel
theorem dX6_meets_51 : decode cX6_meets 51 = .ok (.goto 29, 3) := by decide +kernel
theorem dX6_meets_54 : decode cX6_meets 54 = .ok (.iload 7, 2) := by decide +kernel
theorem dX6_meets_56 : decode cX6_meets 56 = .ok (.iload 9, 2) := by decide +kernel
theorem dX6_meets_58 : decode cX6_meets 58 = .ok (.if_icmp .ne 8, 3) := by decide +kernel
theorem dX6_meets_61 : decode cX6_meets 61 = .ok (.iload 8, 2) := by decide +kernel
theorem dX6_meets_63 : decode cX6_meets 63 = .ok (.goto 17, 3) := by decide +kernel
theorem dX6_meets_66 : decode cX6_meets 66 = .ok (.iload 8, 2) := by decide +kernel
theorem dX6_meets_68 : decode cX6_meets 68 = .ok (.iload 9, 2) := by decide +kernel
theorem dX6_meets_70 : decode cX6_meets 70 = .ok (.if_icmp .ne 8, 3) := by decide +kernel
theorem dX6_meets_73 : decode cX6_meets 73 = .ok (.iload 7, 2) := by decide +kernel
theorem dX6_meets_75 : decode cX6_meets 75 = .ok (.goto 5, 3) := by decide +kernel
theorem dX6_meets_78 : decode cX6_meets 78 = .ok (.bipush (-3), 2) := by decide +kernel
theorem dX6_meets_80 : decode cX6_meets 80 = .ok (.ireturn, 1) := by decide +kernel
set_option maxRecDepth 20000 in
theorem ggX6_clashesOf_X6_fate : GoodIn wsX6_clashesOf wsX6_fate := goodIn_r _ [6, 7, 8, 9, 5, 10, 11, 12, 13, 14, 15, 16, 17, 18, 19, 20, 21, 26, 27, 28, 29, 30, 31, 32, 33, 34, 35, 36, 37, 38, 39, 40, 41, 42, 43, 44, 45, 46, 47, 48, 49, 50, 51, 52, 53] (by decide +kernel) (by decide +kernel)
set_option maxRecDepth 20000 in
theorem gX6_clashesOf_X6_fate : GoodIn wsX6_clashesOf (wsV RX6 123 RX6 yX6_fate wsX6_fate) := goodIn_app (goodIn_of _ (by decide +kernel)) ggX6_clashesOf_X6_fate
set_option maxRecDepth 20000 in
theorem ggX6_clashesOf_X6_meets : GoodIn wsX6_clashesOf wsX6_meets := goodIn_r _ [25, 17, 18, 19, 5, 20, 21, 7, 8, 9, 10, 11, 12, 26, 27, 28, 29, 30, 31, 32, 33, 34, 35, 36, 37, 38, 39, 40, 41, 42, 43, 44, 45, 46, 47, 48, 49, 50, 51, 52, 53] (by decide +kernel) (by decide +kernel)
set_option maxRecDepth 20000 in
theorem gX6_clashesOf_X6_meets : GoodIn wsX6_clashesOf (wsV RX6 127 RX6 yX6_meets wsX6_meets) := goodIn_app (goodIn_of _ (by decide +kernel)) ggX6_clashesOf_X6_meets
theorem dX6_clashesOf_0 : decode cX6_clashesOf 0 = .ok (.iconst 0, 1) := by decide +kernel
theorem dX6_clashesOf_1 : decode cX6_clashesOf 1 = .ok (.istore 4, 2) := by decide +kernel
theorem dX6_clashesOf_3 : decode cX6_clashesOf 3 = .ok (.iconst 0, 1) := by decide +kernel
theorem dX6_clashesOf_4 : decode cX6_clashesOf 4 = .ok (.istore 5, 2) := by decide +kernel
theorem dX6_clashesOf_6 : decode cX6_clashesOf 6 = .ok (.iload 5, 2) := by decide +kernel
theorem dX6_clashesOf_8 : decode cX6_clashesOf 8 = .ok (.aload_n 0, 1) := by decide +kernel
theorem dX6_clashesOf_9 : decode cX6_clashesOf 9 = .ok (.getfield 96, 3) := by decide +kernel
theorem dX6_clashesOf_12 : decode cX6_clashesOf 12 = .ok (.if_icmp .ge 95, 3) := by decide +kernel
theorem dX6_clashesOf_15 : decode cX6_clashesOf 15 = .ok (.aload_n 0, 1) := by decide +kernel
theorem dX6_clashesOf_16 : decode cX6_clashesOf 16 = .ok (.iload_n 1, 1) := by decide +kernel
theorem dX6_clashesOf_17 : decode cX6_clashesOf 17 = .ok (.iload_n 2, 1) := by decide +kernel
theorem dX6_clashesOf_18 : decode cX6_clashesOf 18 = .ok (.iload_n 3, 1) := by decide +kernel
theorem dX6_clashesOf_19 : decode cX6_clashesOf 19 = .ok (.iload 5, 2) := by decide +kernel
theorem dX6_clashesOf_21 : decode cX6_clashesOf 21 = .ok (.invokevirtual 123, 3) := by decide +kernel
theorem dX6_clashesOf_24 : decode cX6_clashesOf 24 = .ok (.istore 6, 2) := by decide +kernel
theorem dX6_clashesOf_26 : decode cX6_clashesOf 26 = .ok (.iload 4, 2) := by decide +kernel
theorem dX6_clashesOf_28 : decode cX6_clashesOf 28 = .ok (.iload 6, 2) := by decide +kernel
theorem dX6_clashesOf_30 : decode cX6_clashesOf 30 = .ok (.bipush (-3), 2) := by decide +kernel
theorem dX6_clashesOf_32 : decode cX6_clashesOf 32 = .ok (.if_icmp .ne 7, 3) := by decide +kernel
theorem dX6_clashesOf_35 : decode cX6_clashesOf 35 = .ok (.iconst 1, 1) := by decide +kernel
theorem dX6_clashesOf_36 : decode cX6_clashesOf 36 = .ok (.goto 4, 3) := by decide +kernel
theorem dX6_clashesOf_39 : decode cX6_clashesOf 39 = .ok (.iconst 0, 1) := by decide +kernel
theorem dX6_clashesOf_40 : decode cX6_clashesOf 40 = .ok (.iadd, 1) := by decide +kernel
theorem dX6_clashesOf_41 : decode cX6_clashesOf 41 = .ok (.istore 4, 2) := by decide +kernel
theorem dX6_clashesOf_43 : decode cX6_clashesOf 43 = .ok (.iconst 0, 1) := by decide +kernel
theorem dX6_clashesOf_44 : decode cX6_clashesOf 44 = .ok (.istore 7, 2) := by decide +kernel
theorem dX6_clashesOf_46 : decode cX6_clashesOf 46 = .ok (.iload 7, 2) := by decide +kernel
theorem dX6_clashesOf_48 : decode cX6_clashesOf 48 = .ok (.iconst 4, 1) := by decide +kernel
theorem dX6_clashesOf_49 : decode cX6_clashesOf 49 = .ok (.if_icmp .ge 52, 3) := by decide +kernel
theorem dX6_clashesOf_52 : decode cX6_clashesOf 52 = .ok (.iload 6, 2) := by decide +kernel
theorem dX6_clashesOf_54 : decode cX6_clashesOf 54 = .ok (.iconst 3, 1) := by decide +kernel
theorem dX6_clashesOf_55 : decode cX6_clashesOf 55 = .ok (.if_icmp .lt 46, 3) := by decide +kernel
theorem dX6_clashesOf_58 : decode cX6_clashesOf 58 = .ok (.iload 4, 2) := by decide +kernel
theorem dX6_clashesOf_60 : decode cX6_clashesOf 60 = .ok (.aload_n 0, 1) := by decide +kernel
theorem dX6_clashesOf_61 : decode cX6_clashesOf 61 = .ok (.iload_n 1, 1) := by decide +kernel
theorem dX6_clashesOf_62 : decode cX6_clashesOf 62 = .ok (.iload_n 2, 1) := by decide +kernel
theorem dX6_clashesOf_63 : decode cX6_clashesOf 63 = .ok (.iload_n 3, 1) := by decide +kernel
theorem dX6_clashesOf_64 : decode cX6_clashesOf 64 = .ok (.iload 5, 2) := by decide +kernel
theorem dX6_clashesOf_66 : decode cX6_clashesOf 66 = .ok (.iload 7, 2) := by decide +kernel
theorem dX6_clashesOf_68 : decode cX6_clashesOf 68 = .ok (.iload 6, 2) := by decide +kernel
theorem dX6_clashesOf_70 : decode cX6_clashesOf 70 = .ok (.iconst 4, 1) := by decide +kernel
theorem dX6_clashesOf_71 : decode cX6_clashesOf 71 = .ok (.if_icmp .ne 7, 3) := by decide +kernel
theorem dX6_clashesOf_74 : decode cX6_clashesOf 74 = .ok (.iconst 1, 1) := by decide +kernel
theorem dX6_clashesOf_75 : decode cX6_clashesOf 75 = .ok (.goto 4, 3) := by decide +kernel
theorem dX6_clashesOf_78 : decode cX6_clashesOf 78 = .ok (.iconst 0, 1) := by decide +kernel
theorem dX6_clashesOf_79 : decode cX6_clashesOf 79 = .ok (.invokevirtual 127, 3) := by decide +kernel
theorem dX6_clashesOf_82 : decode cX6_clashesOf 82 = .ok (.bipush (-3), 2) := by decide +kernel
theorem dX6_clashesOf_84 : decode cX6_clashesOf 84 = .ok (.if_icmp .ne 7, 3) := by decide +kernel
theorem dX6_clashesOf_87 : decode cX6_clashesOf 87 = .ok (.iconst 1, 1) := by decide +kernel
theorem dX6_clashesOf_88 : decode cX6_clashesOf 88 = .ok (.goto 4, 3) := by decide +kernel
theorem dX6_clashesOf_91 : decode cX6_clashesOf 91 = .ok (.iconst 0, 1) := by decide +kernel
theorem dX6_clashesOf_92 : decode cX6_clashesOf 92 = .ok (.iadd, 1) := by decide +kernel
theorem dX6_clashesOf_93 : decode cX6_clashesOf 93 = .ok (.istore 4, 2) := by decide +kernel
theorem dX6_clashesOf_95 : decode cX6_clashesOf 95 = .ok (.iinc 7 1, 3) := by decide +kernel
theorem dX6_clashesOf_98 : decode cX6_clashesOf 98 = .ok (.goto (-52), 3) := by decide +kernel
theorem dX6_clashesOf_101 : decode cX6_clashesOf 101 = .ok (.iinc 5 1, 3) := by decide +kernel
theorem dX6_clashesOf_104 : decode cX6_clashesOf 104 = .ok (.goto (-98), 3) := by decide +kernel
theorem dX6_clashesOf_107 : decode cX6_clashesOf 107 = .ok (.iload 4, 2) := by decide +kernel
theorem dX6_clashesOf_109 : decode cX6_clashesOf 109 = .ok (.ireturn, 1) := by decide +kernel
set_option maxRecDepth 20000 in
theorem ggX6_settles_X6_fate : GoodIn wsX6_settles wsX6_fate := goodIn_r _ [5, 6, 7, 8, 4, 9, 10, 11, 12, 13, 14, 15, 16, 17, 18, 19, 20, 25, 26, 27, 28, 29, 30, 31, 32, 33, 34, 35, 36, 37, 38, 39, 40, 41, 42, 43, 44, 45, 46, 47, 48, 49, 50, 51, 52] (by decide +kernel) (by decide +kernel)
set_option maxRecDepth 20000 in
theorem gX6_settles_X6_fate : GoodIn wsX6_settles (wsV RX6 123 RX6 yX6_fate wsX6_fate) := goodIn_app (goodIn_of _ (by decide +kernel)) ggX6_settles_X6_fate
set_option maxRecDepth 20000 in
theorem ggX6_settles_X6_placeOf : GoodIn wsX6_settles wsX6_placeOf := goodIn_r _ [9, 10, 11, 25, 26, 27, 28, 29, 30, 31, 32, 33, 34, 35, 36, 37, 38, 39, 40, 41, 42, 43, 44, 45, 46, 47, 48, 49, 50, 51, 52] (by decide +kernel) (by decide +kernel)
set_option maxRecDepth 20000 in
theorem gX6_settles_X6_placeOf : GoodIn wsX6_settles (wsV RX6 85 RX6 yX6_placeOf wsX6_placeOf) := goodIn_app (goodIn_of _ (by decide +kernel)) ggX6_settles_X6_placeOf
set_option maxRecDepth 20000 in
theorem ggX6_settles_X6_valueOf : GoodIn wsX6_settles wsX6_valueOf := goodIn_r _ [19, 20, 6, 7, 8, 4, 9, 10, 11, 25, 26, 27, 28, 29, 30, 31, 32, 33, 34, 35, 36, 37, 38, 39, 40, 41, 42, 43, 44, 45, 46, 47, 48, 49, 50, 51, 52] (by decide +kernel) (by decide +kernel)
set_option maxRecDepth 20000 in
theorem gX6_settles_X6_valueOf : GoodIn wsX6_settles (wsV RX6 116 RX6 yX6_valueOf wsX6_valueOf) := goodIn_app (goodIn_of _ (by decide +kernel)) ggX6_settles_X6_valueOf
set_option maxRecDepth 20000 in
theorem ggX6_settles_X6_meets : GoodIn wsX6_settles wsX6_meets := goodIn_r _ [24, 16, 17, 18, 4, 19, 20, 6, 7, 8, 9, 10, 11, 25, 26, 27, 28, 29, 30, 31, 32, 33, 34, 35, 36, 37, 38, 39, 40, 41, 42, 43, 44, 45, 46, 47, 48, 49, 50, 51, 52] (by decide +kernel) (by decide +kernel)
set_option maxRecDepth 20000 in
theorem gX6_settles_X6_meets : GoodIn wsX6_settles (wsV RX6 127 RX6 yX6_meets wsX6_meets) := goodIn_app (goodIn_of _ (by decide +kernel)) ggX6_settles_X6_meets
theorem dX6_settles_0 : decode cX6_settles 0 = .ok (.aload_n 0, 1) := by decide +kernel
theorem dX6_settles_1 : decode cX6_settles 1 = .ok (.iload_n 1, 1) := by decide +kernel
theorem dX6_settles_2 : decode cX6_settles 2 = .ok (.iload_n 2, 1) := by decide +kernel
theorem dX6_settles_3 : decode cX6_settles 3 = .ok (.iload_n 3, 1) := by decide +kernel
theorem dX6_settles_4 : decode cX6_settles 4 = .ok (.iload 4, 2) := by decide +kernel
theorem dX6_settles_6 : decode cX6_settles 6 = .ok (.invokevirtual 123, 3) := by decide +kernel
theorem dX6_settles_9 : decode cX6_settles 9 = .ok (.istore 7, 2) := by decide +kernel
theorem dX6_settles_11 : decode cX6_settles 11 = .ok (.iload 6, 2) := by decide +kernel
theorem dX6_settles_13 : decode cX6_settles 13 = .ok (.ifCond .ne 7, 3) := by decide +kernel
theorem dX6_settles_16 : decode cX6_settles 16 = .ok (.iload_n 2, 1) := by decide +kernel
theorem dX6_settles_17 : decode cX6_settles 17 = .ok (.goto 4, 3) := by decide +kernel
theorem dX6_settles_20 : decode cX6_settles 20 = .ok (.iload_n 3, 1) := by decide +kernel
theorem dX6_settles_21 : decode cX6_settles 21 = .ok (.istore 8, 2) := by decide +kernel
theorem dX6_settles_23 : decode cX6_settles 23 = .ok (.iload 7, 2) := by decide +kernel
theorem dX6_settles_25 : decode cX6_settles 25 = .ok (.bipush (-2), 2) := by decide +kernel
theorem dX6_settles_27 : decode cX6_settles 27 = .ok (.if_icmp .eq 22, 3) := by decide +kernel
theorem dX6_settles_30 : decode cX6_settles 30 = .ok (.iload 7, 2) := by decide +kernel
theorem dX6_settles_32 : decode cX6_settles 32 = .ok (.bipush (-3), 2) := by decide +kernel
theorem dX6_settles_34 : decode cX6_settles 34 = .ok (.if_icmp .ne 17, 3) := by decide +kernel
theorem dX6_settles_37 : decode cX6_settles 37 = .ok (.aload_n 0, 1) := by decide +kernel
theorem dX6_settles_38 : decode cX6_settles 38 = .ok (.iload 8, 2) := by decide +kernel
theorem dX6_settles_40 : decode cX6_settles 40 = .ok (.iload 4, 2) := by decide +kernel
theorem dX6_settles_42 : decode cX6_settles 42 = .ok (.invokevirtual 85, 3) := by decide +kernel
theorem dX6_settles_45 : decode cX6_settles 45 = .ok (.iconst (-1), 1) := by decide +kernel
theorem dX6_settles_46 : decode cX6_settles 46 = .ok (.if_icmp .ne 5, 3) := by decide +kernel
theorem dX6_settles_49 : decode cX6_settles 49 = .ok (.iconst (-1), 1) := by decide +kernel
theorem dX6_settles_50 : decode cX6_settles 50 = .ok (.ireturn, 1) := by decide +kernel
theorem dX6_settles_51 : decode cX6_settles 51 = .ok (.iload 7, 2) := by decide +kernel
theorem dX6_settles_53 : decode cX6_settles 53 = .ok (.iconst 1, 1) := by decide +kernel
theorem dX6_settles_54 : decode cX6_settles 54 = .ok (.if_icmp .eq 9, 3) := by decide +kernel
theorem dX6_settles_57 : decode cX6_settles 57 = .ok (.iload 7, 2) := by decide +kernel
theorem dX6_settles_59 : decode cX6_settles 59 = .ok (.iconst 2, 1) := by decide +kernel
theorem dX6_settles_60 : decode cX6_settles 60 = .ok (.if_icmp .ne 23, 3) := by decide +kernel
theorem dX6_settles_63 : decode cX6_settles 63 = .ok (.aload_n 0, 1) := by decide +kernel
theorem dX6_settles_64 : decode cX6_settles 64 = .ok (.iload 7, 2) := by decide +kernel
theorem dX6_settles_66 : decode cX6_settles 66 = .ok (.iconst 1, 1) := by decide +kernel
theorem dX6_settles_67 : decode cX6_settles 67 = .ok (.if_icmp .ne 7, 3) := by decide +kernel
theorem dX6_settles_70 : decode cX6_settles 70 = .ok (.iload_n 2, 1) := by decide +kernel
theorem dX6_settles_71 : decode cX6_settles 71 = .ok (.goto 4, 3) := by decide +kernel
theorem dX6_settles_74 : decode cX6_settles 74 = .ok (.iload_n 3, 1) := by decide +kernel
theorem dX6_settles_75 : decode cX6_settles 75 = .ok (.iload 4, 2) := by decide +kernel
theorem dX6_settles_77 : decode cX6_settles 77 = .ok (.iload 5, 2) := by decide +kernel
theorem dX6_settles_79 : decode cX6_settles 79 = .ok (.invokevirtual 116, 3) := by decide +kernel
theorem dX6_settles_82 : decode cX6_settles 82 = .ok (.ireturn, 1) := by decide +kernel
theorem dX6_settles_83 : decode cX6_settles 83 = .ok (.iload 7, 2) := by decide +kernel
theorem dX6_settles_85 : decode cX6_settles 85 = .ok (.bipush (-3), 2) := by decide +kernel
theorem dX6_settles_87 : decode cX6_settles 87 = .ok (.if_icmp .ne 8, 3) := by decide +kernel
theorem dX6_settles_90 : decode cX6_settles 90 = .ok (.bipush (-3), 2) := by decide +kernel
theorem dX6_settles_92 : decode cX6_settles 92 = .ok (.goto 25, 3) := by decide +kernel
theorem dX6_settles_95 : decode cX6_settles 95 = .ok (.aload_n 0, 1) := by decide +kernel
theorem dX6_settles_96 : decode cX6_settles 96 = .ok (.iload_n 1, 1) := by decide +kernel
theorem dX6_settles_97 : decode cX6_settles 97 = .ok (.iload_n 2, 1) := by decide +kernel
theorem dX6_settles_98 : decode cX6_settles 98 = .ok (.iload_n 3, 1) := by decide +kernel
theorem dX6_settles_99 : decode cX6_settles 99 = .ok (.iload 4, 2) := by decide +kernel
theorem dX6_settles_101 : decode cX6_settles 101 = .ok (.iload 5, 2) := by decide +kernel
theorem dX6_settles_103 : decode cX6_settles 103 = .ok (.iload 7, 2) := by decide +kernel
theorem dX6_settles_105 : decode cX6_settles 105 = .ok (.iconst 4, 1) := by decide +kernel
theorem dX6_settles_106 : decode cX6_settles 106 = .ok (.if_icmp .ne 7, 3) := by decide +kernel
theorem dX6_settles_109 : decode cX6_settles 109 = .ok (.iconst 1, 1) := by decide +kernel
theorem dX6_settles_110 : decode cX6_settles 110 = .ok (.goto 4, 3) := by decide +kernel
theorem dX6_settles_113 : decode cX6_settles 113 = .ok (.iconst 0, 1) := by decide +kernel
theorem dX6_settles_114 : decode cX6_settles 114 = .ok (.invokevirtual 127, 3) := by decide +kernel
theorem dX6_settles_117 : decode cX6_settles 117 = .ok (.istore 9, 2) := by decide +kernel
theorem dX6_settles_119 : decode cX6_settles 119 = .ok (.iload 9, 2) := by decide +kernel
theorem dX6_settles_121 : decode cX6_settles 121 = .ok (.bipush (-3), 2) := by decide +kernel
theorem dX6_settles_123 : decode cX6_settles 123 = .ok (.if_icmp .ne 16, 3) := by decide +kernel
theorem dX6_settles_126 : decode cX6_settles 126 = .ok (.aload_n 0, 1) := by decide +kernel
theorem dX6_settles_127 : decode cX6_settles 127 = .ok (.iload 8, 2) := by decide +kernel
theorem dX6_settles_129 : decode cX6_settles 129 = .ok (.iload 4, 2) := by decide +kernel
theorem dX6_settles_131 : decode cX6_settles 131 = .ok (.iload 5, 2) := by decide +kernel
theorem dX6_settles_133 : decode cX6_settles 133 = .ok (.invokevirtual 116, 3) := by decide +kernel
theorem dX6_settles_136 : decode cX6_settles 136 = .ok (.goto 5, 3) := by decide +kernel
theorem dX6_settles_139 : decode cX6_settles 139 = .ok (.iload 9, 2) := by decide +kernel
theorem dX6_settles_141 : decode cX6_settles 141 = .ok (.ireturn, 1) := by decide +kernel
set_option maxRecDepth 20000 in
theorem ggX6_wrong_X6_isBranch : GoodIn wsX6_wrong wsX6_isBranch := goodIn_r _ [5, 6, 7, 8, 4, 9, 10, 11, 12, 13, 14, 15, 16, 17, 18, 19, 20, 21, 22, 23, 24, 25, 26, 27, 28, 29, 30, 31, 32, 33, 34, 35, 36, 37] (by decide +kernel) (by decide +kernel)
set_option maxRecDepth 20000 in
theorem gX6_wrong_X6_isBranch : GoodIn wsX6_wrong (wsV RX6 93 RX6 yX6_isBranch wsX6_isBranch) := goodIn_app (goodIn_of _ (by decide +kernel)) ggX6_wrong_X6_isBranch
theorem dX6_wrong_0 : decode cX6_wrong 0 = .ok (.aload_n 0, 1) := by decide +kernel
theorem dX6_wrong_1 : decode cX6_wrong 1 = .ok (.iload_n 1, 1) := by decide +kernel
theorem dX6_wrong_2 : decode cX6_wrong 2 = .ok (.invokevirtual 93, 3) := by decide +kernel
theorem dX6_wrong_5 : decode cX6_wrong 5 = .ok (.ifCond .eq 11, 3) := by decide +kernel
theorem dX6_wrong_8 : decode cX6_wrong 8 = .ok (.aload_n 0, 1) := by decide +kernel
theorem dX6_wrong_9 : decode cX6_wrong 9 = .ok (.iload_n 2, 1) := by decide +kernel
theorem dX6_wrong_10 : decode cX6_wrong 10 = .ok (.invokevirtual 93, 3) := by decide +kernel
theorem dX6_wrong_13 : decode cX6_wrong 13 = .ok (.ifCond .ne 7, 3) := by decide +kernel
theorem dX6_wrong_16 : decode cX6_wrong 16 = .ok (.iconst 1, 1) := by decide +kernel
theorem dX6_wrong_17 : decode cX6_wrong 17 = .ok (.goto 13, 3) := by decide +kernel
theorem dX6_wrong_20 : decode cX6_wrong 20 = .ok (.iload_n 1, 1) := by decide +kernel
theorem dX6_wrong_21 : decode cX6_wrong 21 = .ok (.iload_n 2, 1) := by decide +kernel
theorem dX6_wrong_22 : decode cX6_wrong 22 = .ok (.if_icmp .ne 7, 3) := by decide +kernel
theorem dX6_wrong_25 : decode cX6_wrong 25 = .ok (.iconst 2, 1) := by decide +kernel
theorem dX6_wrong_26 : decode cX6_wrong 26 = .ok (.goto 4, 3) := by decide +kernel
theorem dX6_wrong_29 : decode cX6_wrong 29 = .ok (.iconst 0, 1) := by decide +kernel
theorem dX6_wrong_30 : decode cX6_wrong 30 = .ok (.ireturn, 1) := by decide +kernel
set_option maxRecDepth 20000 in
theorem ggX6_base_X6_wrong : GoodIn wsX6_base wsX6_wrong := goodIn_r _ [6, 7, 8, 9, 5, 10, 11, 12, 13, 14, 29, 30, 31, 32, 33, 34, 35, 36, 37, 38, 39, 40, 41, 42, 43, 44, 45, 46, 47, 48, 49, 50, 51, 52, 53, 54, 55, 56] (by decide +kernel) (by decide +kernel)
set_option maxRecDepth 20000 in
theorem gX6_base_X6_wrong : GoodIn wsX6_base (wsV RX6 131 RX6 yX6_wrong wsX6_wrong) := goodIn_app (goodIn_of _ (by decide +kernel)) ggX6_base_X6_wrong
set_option maxRecDepth 20000 in
theorem ggX6_base_X6_baseOf : GoodIn wsX6_base wsX6_baseOf := goodIn_r _ [18, 19, 20, 21, 22, 23, 24, 25, 5, 26, 27, 28, 29, 30, 31, 32, 33, 34, 35, 36, 37, 38, 39, 40, 41, 42, 43, 44, 45, 46, 47, 48, 49, 50, 51, 52, 53, 54, 55, 56] (by decide +kernel) (by decide +kernel)
set_option maxRecDepth 20000 in
theorem gX6_base_X6_baseOf : GoodIn wsX6_base (wsV RX6 134 RX6 yX6_baseOf wsX6_baseOf) := goodIn_app (goodIn_of _ (by decide +kernel)) ggX6_base_X6_baseOf
theorem dX6_base_0 : decode cX6_base 0 = .ok (.aload_n 0, 1) := by decide +kernel
theorem dX6_base_1 : decode cX6_base 1 = .ok (.aload_n 0, 1) := by decide +kernel
theorem dX6_base_2 : decode cX6_base 2 = .ok (.iload_n 1, 1) := by decide +kernel
theorem dX6_base_3 : decode cX6_base 3 = .ok (.iload_n 2, 1) := by decide +kernel
theorem dX6_base_4 : decode cX6_base 4 = .ok (.invokevirtual 131, 3) := by decide +kernel
theorem dX6_base_7 : decode cX6_base 7 = .ok (.putfield 78, 3) := by decide +kernel
theorem dX6_base_10 : decode cX6_base 10 = .ok (.aload_n 0, 1) := by decide +kernel
theorem dX6_base_11 : decode cX6_base 11 = .ok (.getfield 78, 3) := by decide +kernel
theorem dX6_base_14 : decode cX6_base 14 = .ok (.ifCond .le 7, 3) := by decide +kernel
theorem dX6_base_17 : decode cX6_base 17 = .ok (.iconst 0, 1) := by decide +kernel
theorem dX6_base_18 : decode cX6_base 18 = .ok (.goto 9, 3) := by decide +kernel
theorem dX6_base_21 : decode cX6_base 21 = .ok (.aload_n 0, 1) := by decide +kernel
theorem dX6_base_22 : decode cX6_base 22 = .ok (.iload_n 1, 1) := by decide +kernel
theorem dX6_base_23 : decode cX6_base 23 = .ok (.iload_n 2, 1) := by decide +kernel
theorem dX6_base_24 : decode cX6_base 24 = .ok (.invokevirtual 134, 3) := by decide +kernel
theorem dX6_base_27 : decode cX6_base 27 = .ok (.ireturn, 1) := by decide +kernel
set_option maxRecDepth 20000 in
theorem ggX6_clashes_X6_wrong : GoodIn wsX6_clashes wsX6_wrong := goodIn_r _ [7, 8, 9, 10, 6, 11, 12, 13, 14, 15, 57, 58, 59, 60, 61, 62, 63, 64, 65, 66, 67, 68, 69, 70, 71, 72, 73, 74, 75, 76, 77, 78, 79, 80, 81, 82, 83, 84] (by decide +kernel) (by decide +kernel)
set_option maxRecDepth 20000 in
theorem gX6_clashes_X6_wrong : GoodIn wsX6_clashes (wsV RX6 131 RX6 yX6_wrong wsX6_wrong) := goodIn_app (goodIn_of _ (by decide +kernel)) ggX6_clashes_X6_wrong
set_option maxRecDepth 20000 in
theorem ggX6_clashes_X6_baseOf : GoodIn wsX6_clashes wsX6_baseOf := goodIn_r _ [19, 2, 20, 21, 22, 23, 24, 25, 6, 26, 27, 28, 57, 58, 59, 60, 61, 62, 63, 64, 65, 66, 67, 68, 69, 70, 71, 72, 73, 74, 75, 76, 77, 78, 79, 80, 81, 82, 83, 84] (by decide +kernel) (by decide +kernel)
set_option maxRecDepth 20000 in
theorem gX6_clashes_X6_baseOf : GoodIn wsX6_clashes (wsV RX6 134 RX6 yX6_baseOf wsX6_baseOf) := goodIn_app (goodIn_of _ (by decide +kernel)) ggX6_clashes_X6_baseOf
set_option maxRecDepth 20000 in
theorem ggX6_clashes_X6_clashesOf : GoodIn wsX6_clashes wsX6_clashesOf := goodIn_r _ [32, 33, 34, 35, 36, 6, 37, 38, 39, 40, 41, 42, 43, 44, 45, 46, 47, 48, 49, 50, 51, 52, 53, 54, 55, 56, 57, 58, 59, 60, 61, 62, 63, 64, 65, 66, 67, 68, 69, 70, 71, 72, 73, 74, 75, 76, 77, 78, 79, 80, 81, 82, 83, 84] (by decide +kernel) (by decide +kernel)
set_option maxRecDepth 20000 in
theorem gX6_clashes_X6_clashesOf : GoodIn wsX6_clashes (wsV RX6 137 RX6 yX6_clashesOf wsX6_clashesOf) := goodIn_app (goodIn_of _ (by decide +kernel)) ggX6_clashes_X6_clashesOf
theorem dX6_clashes_0 : decode cX6_clashes 0 = .ok (.aload_n 0, 1) := by decide +kernel
theorem dX6_clashes_1 : decode cX6_clashes 1 = .ok (.aload_n 0, 1) := by decide +kernel
theorem dX6_clashes_2 : decode cX6_clashes 2 = .ok (.iload_n 1, 1) := by decide +kernel
theorem dX6_clashes_3 : decode cX6_clashes 3 = .ok (.iload_n 2, 1) := by decide +kernel
theorem dX6_clashes_4 : decode cX6_clashes 4 = .ok (.invokevirtual 131, 3) := by decide +kernel
theorem dX6_clashes_7 : decode cX6_clashes 7 = .ok (.putfield 78, 3) := by decide +kernel
theorem dX6_clashes_10 : decode cX6_clashes 10 = .ok (.aload_n 0, 1) := by decide +kernel
theorem dX6_clashes_11 : decode cX6_clashes 11 = .ok (.getfield 78, 3) := by decide +kernel
theorem dX6_clashes_14 : decode cX6_clashes 14 = .ok (.ifCond .le 7, 3) := by decide +kernel
theorem dX6_clashes_17 : decode cX6_clashes 17 = .ok (.iconst 0, 1) := by decide +kernel
theorem dX6_clashes_18 : decode cX6_clashes 18 = .ok (.goto 25, 3) := by decide +kernel
theorem dX6_clashes_21 : decode cX6_clashes 21 = .ok (.aload_n 0, 1) := by decide +kernel
theorem dX6_clashes_22 : decode cX6_clashes 22 = .ok (.aload_n 0, 1) := by decide +kernel
theorem dX6_clashes_23 : decode cX6_clashes 23 = .ok (.iload_n 1, 1) := by decide +kernel
theorem dX6_clashes_24 : decode cX6_clashes 24 = .ok (.iload_n 2, 1) := by decide +kernel
theorem dX6_clashes_25 : decode cX6_clashes 25 = .ok (.invokevirtual 134, 3) := by decide +kernel
theorem dX6_clashes_28 : decode cX6_clashes 28 = .ok (.aload_n 0, 1) := by decide +kernel
theorem dX6_clashes_29 : decode cX6_clashes 29 = .ok (.getfield 35, 3) := by decide +kernel
theorem dX6_clashes_32 : decode cX6_clashes 32 = .ok (.iload_n 1, 1) := by decide +kernel
theorem dX6_clashes_33 : decode cX6_clashes 33 = .ok (.iaload, 1) := by decide +kernel
theorem dX6_clashes_34 : decode cX6_clashes 34 = .ok (.aload_n 0, 1) := by decide +kernel
theorem dX6_clashes_35 : decode cX6_clashes 35 = .ok (.getfield 35, 3) := by decide +kernel
theorem dX6_clashes_38 : decode cX6_clashes 38 = .ok (.iload_n 2, 1) := by decide +kernel
theorem dX6_clashes_39 : decode cX6_clashes 39 = .ok (.iaload, 1) := by decide +kernel
theorem dX6_clashes_40 : decode cX6_clashes 40 = .ok (.invokevirtual 137, 3) := by decide +kernel
theorem dX6_clashes_43 : decode cX6_clashes 43 = .ok (.ireturn, 1) := by decide +kernel
set_option maxRecDepth 20000 in
theorem ggX6_merged_X6_isBranch : GoodIn wsX6_merged wsX6_isBranch := goodIn_r _ [7, 8, 9, 10, 6, 11, 60, 61, 62, 63, 64, 65, 66, 67, 68, 69, 70, 71, 72, 73, 74, 75, 76, 77, 78, 79, 80, 81, 82, 83, 84, 85, 86, 87] (by decide +kernel) (by decide +kernel)
set_option maxRecDepth 20000 in
theorem gX6_merged_X6_isBranch : GoodIn wsX6_merged (wsV RX6 93 RX6 yX6_isBranch wsX6_isBranch) := goodIn_app (goodIn_of _ (by decide +kernel)) ggX6_merged_X6_isBranch
set_option maxRecDepth 20000 in
theorem ggX6_merged_X6_isSlide : GoodIn wsX6_merged wsX6_isSlide := goodIn_r _ [15, 16, 9, 10, 6, 11, 60, 61, 62, 63, 64, 65, 66, 67, 68, 69, 70, 71, 72, 73, 74, 75, 76, 77, 78, 79, 80, 81, 82, 83, 84, 85, 86, 87] (by decide +kernel) (by decide +kernel)
set_option maxRecDepth 20000 in
theorem gX6_merged_X6_isSlide : GoodIn wsX6_merged (wsV RX6 113 RX6 yX6_isSlide wsX6_isSlide) := goodIn_app (goodIn_of _ (by decide +kernel)) ggX6_merged_X6_isSlide
set_option maxRecDepth 20000 in
theorem ggX6_merged_X6_isObject : GoodIn wsX6_merged wsX6_isObject := goodIn_r _ [19, 9, 10, 6, 11] (by decide +kernel) (by decide +kernel)
set_option maxRecDepth 20000 in
theorem gX6_merged_X6_isObject : GoodIn wsX6_merged (va_wsS RX6 106 yX6_isObject wsX6_isObject) := goodIn_app (goodIn_of _ (by decide +kernel)) ggX6_merged_X6_isObject
set_option maxRecDepth 20000 in
theorem ggX6_merged_X6_in : GoodIn wsX6_merged wsX6_in := goodIn_r _ [11] (by decide +kernel) (by decide +kernel)
set_option maxRecDepth 20000 in
theorem gX6_merged_X6_in : GoodIn wsX6_merged (va_wsS RX6 81 yX6_in wsX6_in) := goodIn_app (goodIn_of _ (by decide +kernel)) ggX6_merged_X6_in
set_option maxRecDepth 20000 in
theorem ggX6_merged_X6_baseOf : GoodIn wsX6_merged wsX6_baseOf := goodIn_r _ [23, 2, 24, 25, 26, 27, 28, 29, 6, 30, 31, 32, 60, 61, 62, 63, 64, 65, 66, 67, 68, 69, 70, 71, 72, 73, 74, 75, 76, 77, 78, 79, 80, 81, 82, 83, 84, 85, 86, 87] (by decide +kernel) (by decide +kernel)
set_option maxRecDepth 20000 in
theorem gX6_merged_X6_baseOf : GoodIn wsX6_merged (wsV RX6 134 RX6 yX6_baseOf wsX6_baseOf) := goodIn_app (goodIn_of _ (by decide +kernel)) ggX6_merged_X6_baseOf
set_option maxRecDepth 20000 in
theorem ggX6_merged_X6_settles : GoodIn wsX6_merged wsX6_settles := goodIn_r _ [36, 37, 38, 39, 6, 40, 41, 42, 43, 44, 45, 46, 47, 48, 49, 50, 51, 52, 53, 54, 55, 56, 57, 58, 59, 60, 61, 62, 63, 64, 65, 66, 67, 68, 69, 70, 71, 72, 73, 74, 75, 76, 77, 78, 79, 80, 81, 82, 83, 84, 85, 86, 87] (by decide +kernel) (by decide +kernel)
set_option maxRecDepth 20000 in
theorem gX6_merged_X6_settles : GoodIn wsX6_merged (wsV RX6 140 RX6 yX6_settles wsX6_settles) := goodIn_app (goodIn_of _ (by decide +kernel)) ggX6_merged_X6_settles
theorem dX6_merged_0 : decode cX6_merged 0 = .ok (.aload_n 0, 1) := by decide +kernel
theorem dX6_merged_1 : decode cX6_merged 1 = .ok (.aload_n 0, 1) := by decide +kernel
theorem dX6_merged_2 : decode cX6_merged 2 = .ok (.iload_n 1, 1) := by decide +kernel
theorem dX6_merged_3 : decode cX6_merged 3 = .ok (.invokevirtual 93, 3) := by decide +kernel
theorem dX6_merged_6 : decode cX6_merged 6 = .ok (.ifCond .eq 27, 3) := by decide +kernel
theorem dX6_merged_9 : decode cX6_merged 9 = .ok (.aload_n 0, 1) := by decide +kernel
theorem dX6_merged_10 : decode cX6_merged 10 = .ok (.iload_n 2, 1) := by decide +kernel
theorem dX6_merged_11 : decode cX6_merged 11 = .ok (.invokevirtual 93, 3) := by decide +kernel
theorem dX6_merged_14 : decode cX6_merged 14 = .ok (.ifCond .eq 19, 3) := by decide +kernel
theorem dX6_merged_17 : decode cX6_merged 17 = .ok (.aload_n 0, 1) := by decide +kernel
theorem dX6_merged_18 : decode cX6_merged 18 = .ok (.iload_n 3, 1) := by decide +kernel
theorem dX6_merged_19 : decode cX6_merged 19 = .ok (.invokevirtual 113, 3) := by decide +kernel
theorem dX6_merged_22 : decode cX6_merged 22 = .ok (.ifCond .eq 11, 3) := by decide +kernel
theorem dX6_merged_25 : decode cX6_merged 25 = .ok (.iload 4, 2) := by decide +kernel
theorem dX6_merged_27 : decode cX6_merged 27 = .ok (.invokestatic 106, 3) := by decide +kernel
theorem dX6_merged_30 : decode cX6_merged 30 = .ok (.ifCond .ne 7, 3) := by decide +kernel
theorem dX6_merged_33 : decode cX6_merged 33 = .ok (.iconst 1, 1) := by decide +kernel
theorem dX6_merged_34 : decode cX6_merged 34 = .ok (.goto 23, 3) := by decide +kernel
theorem dX6_merged_37 : decode cX6_merged 37 = .ok (.iload_n 1, 1) := by decide +kernel
theorem dX6_merged_38 : decode cX6_merged 38 = .ok (.iload_n 2, 1) := by decide +kernel
theorem dX6_merged_39 : decode cX6_merged 39 = .ok (.if_icmp .eq 13, 3) := by decide +kernel
theorem dX6_merged_42 : decode cX6_merged 42 = .ok (.iload 5, 2) := by decide +kernel
theorem dX6_merged_44 : decode cX6_merged 44 = .ok (.iconst 0, 1) := by decide +kernel
theorem dX6_merged_45 : decode cX6_merged 45 = .ok (.iconst 1, 1) := by decide +kernel
theorem dX6_merged_46 : decode cX6_merged 46 = .ok (.invokestatic 81, 3) := by decide +kernel
theorem dX6_merged_49 : decode cX6_merged 49 = .ok (.ifCond .ne 7, 3) := by decide +kernel
theorem dX6_merged_52 : decode cX6_merged 52 = .ok (.iconst 2, 1) := by decide +kernel
theorem dX6_merged_53 : decode cX6_merged 53 = .ok (.goto 4, 3) := by decide +kernel
theorem dX6_merged_56 : decode cX6_merged 56 = .ok (.iconst 0, 1) := by decide +kernel
theorem dX6_merged_57 : decode cX6_merged 57 = .ok (.putfield 78, 3) := by decide +kernel
theorem dX6_merged_60 : decode cX6_merged 60 = .ok (.aload_n 0, 1) := by decide +kernel
theorem dX6_merged_61 : decode cX6_merged 61 = .ok (.getfield 78, 3) := by decide +kernel
theorem dX6_merged_64 : decode cX6_merged 64 = .ok (.ifCond .le 7, 3) := by decide +kernel
theorem dX6_merged_67 : decode cX6_merged 67 = .ok (.iconst 0, 1) := by decide +kernel
theorem dX6_merged_68 : decode cX6_merged 68 = .ok (.goto 30, 3) := by decide +kernel
theorem dX6_merged_71 : decode cX6_merged 71 = .ok (.aload_n 0, 1) := by decide +kernel
theorem dX6_merged_72 : decode cX6_merged 72 = .ok (.aload_n 0, 1) := by decide +kernel
theorem dX6_merged_73 : decode cX6_merged 73 = .ok (.iload_n 1, 1) := by decide +kernel
theorem dX6_merged_74 : decode cX6_merged 74 = .ok (.iload_n 2, 1) := by decide +kernel
theorem dX6_merged_75 : decode cX6_merged 75 = .ok (.invokevirtual 134, 3) := by decide +kernel
theorem dX6_merged_78 : decode cX6_merged 78 = .ok (.aload_n 0, 1) := by decide +kernel
theorem dX6_merged_79 : decode cX6_merged 79 = .ok (.getfield 35, 3) := by decide +kernel
theorem dX6_merged_82 : decode cX6_merged 82 = .ok (.iload_n 1, 1) := by decide +kernel
theorem dX6_merged_83 : decode cX6_merged 83 = .ok (.iaload, 1) := by decide +kernel
theorem dX6_merged_84 : decode cX6_merged 84 = .ok (.aload_n 0, 1) := by decide +kernel
theorem dX6_merged_85 : decode cX6_merged 85 = .ok (.getfield 35, 3) := by decide +kernel
theorem dX6_merged_88 : decode cX6_merged 88 = .ok (.iload_n 2, 1) := by decide +kernel
theorem dX6_merged_89 : decode cX6_merged 89 = .ok (.iaload, 1) := by decide +kernel
theorem dX6_merged_90 : decode cX6_merged 90 = .ok (.iload_n 3, 1) := by decide +kernel
theorem dX6_merged_91 : decode cX6_merged 91 = .ok (.iload 4, 2) := by decide +kernel
theorem dX6_merged_93 : decode cX6_merged 93 = .ok (.iload 5, 2) := by decide +kernel
theorem dX6_merged_95 : decode cX6_merged 95 = .ok (.invokevirtual 140, 3) := by decide +kernel
theorem dX6_merged_98 : decode cX6_merged 98 = .ok (.ireturn, 1) := by decide +kernel
set_option maxRecDepth 20000 in
theorem ggX6_lays_X6_settles : GoodIn wsX6_lays wsX6_settles := goodIn_r _ [8, 9, 10, 11, 7, 12, 13, 14, 15, 16, 17, 18, 19, 20, 21, 22, 23, 24, 25, 26, 27, 28, 29, 30, 31, 32, 33, 34, 35, 36, 37, 38, 39, 40, 41, 42, 43, 44, 45, 46, 47, 48, 49, 50, 51, 52, 53, 54, 55, 56, 57, 58, 59] (by decide +kernel) (by decide +kernel)
set_option maxRecDepth 20000 in
theorem gX6_lays_X6_settles : GoodIn wsX6_lays (wsV RX6 140 RX6 yX6_settles wsX6_settles) := goodIn_app (goodIn_of _ (by decide +kernel)) ggX6_lays_X6_settles
theorem dX6_lays_0 : decode cX6_lays 0 = .ok (.aload_n 0, 1) := by decide +kernel
theorem dX6_lays_1 : decode cX6_lays 1 = .ok (.iload_n 1, 1) := by decide +kernel
theorem dX6_lays_2 : decode cX6_lays 2 = .ok (.iload_n 2, 1) := by decide +kernel
theorem dX6_lays_3 : decode cX6_lays 3 = .ok (.iload_n 3, 1) := by decide +kernel
theorem dX6_lays_4 : decode cX6_lays 4 = .ok (.iload 4, 2) := by decide +kernel
theorem dX6_lays_6 : decode cX6_lays 6 = .ok (.iconst 0, 1) := by decide +kernel
theorem dX6_lays_7 : decode cX6_lays 7 = .ok (.iload 5, 2) := by decide +kernel
theorem dX6_lays_9 : decode cX6_lays 9 = .ok (.invokevirtual 140, 3) := by decide +kernel
theorem dX6_lays_12 : decode cX6_lays 12 = .ok (.iconst (-1), 1) := by decide +kernel
theorem dX6_lays_13 : decode cX6_lays 13 = .ok (.if_icmp .ne 4, 3) := by decide +kernel
theorem dX6_lays_16 : decode cX6_lays 16 = .ok (.return_, 1) := by decide +kernel
theorem dX6_lays_17 : decode cX6_lays 17 = .ok (.aload_n 0, 1) := by decide +kernel
theorem dX6_lays_18 : decode cX6_lays 18 = .ok (.getfield 62, 3) := by decide +kernel
theorem dX6_lays_21 : decode cX6_lays 21 = .ok (.aload_n 0, 1) := by decide +kernel
theorem dX6_lays_22 : decode cX6_lays 22 = .ok (.getfield 144, 3) := by decide +kernel
theorem dX6_lays_25 : decode cX6_lays 25 = .ok (.iload 4, 2) := by decide +kernel
theorem dX6_lays_27 : decode cX6_lays 27 = .ok (.iastore, 1) := by decide +kernel
theorem dX6_lays_28 : decode cX6_lays 28 = .ok (.iconst 0, 1) := by decide +kernel
theorem dX6_lays_29 : decode cX6_lays 29 = .ok (.istore 6, 2) := by decide +kernel
theorem dX6_lays_31 : decode cX6_lays 31 = .ok (.iload 6, 2) := by decide +kernel
theorem dX6_lays_33 : decode cX6_lays 33 = .ok (.iconst 4, 1) := by decide +kernel
theorem dX6_lays_34 : decode cX6_lays 34 = .ok (.if_icmp .ge 36, 3) := by decide +kernel
theorem dX6_lays_37 : decode cX6_lays 37 = .ok (.aload_n 0, 1) := by decide +kernel
theorem dX6_lays_38 : decode cX6_lays 38 = .ok (.getfield 65, 3) := by decide +kernel
theorem dX6_lays_41 : decode cX6_lays 41 = .ok (.iconst 4, 1) := by decide +kernel
theorem dX6_lays_42 : decode cX6_lays 42 = .ok (.aload_n 0, 1) := by decide +kernel
theorem dX6_lays_43 : decode cX6_lays 43 = .ok (.getfield 144, 3) := by decide +kernel
theorem dX6_lays_46 : decode cX6_lays 46 = .ok (.imul, 1) := by decide +kernel
theorem dX6_lays_47 : decode cX6_lays 47 = .ok (.iload 6, 2) := by decide +kernel
theorem dX6_lays_49 : decode cX6_lays 49 = .ok (.iadd, 1) := by decide +kernel
theorem dX6_lays_50 : decode cX6_lays 50 = .ok (.aload_n 0, 1) := by decide +kernel
theorem dX6_lays_51 : decode cX6_lays 51 = .ok (.iload_n 1, 1) := by decide +kernel
theorem dX6_lays_52 : decode cX6_lays 52 = .ok (.iload_n 2, 1) := by decide +kernel
theorem dX6_lays_53 : decode cX6_lays 53 = .ok (.iload_n 3, 1) := by decide +kernel
theorem dX6_lays_54 : decode cX6_lays 54 = .ok (.iload 4, 2) := by decide +kernel
theorem dX6_lays_56 : decode cX6_lays 56 = .ok (.iload 6, 2) := by decide +kernel
theorem dX6_lays_58 : decode cX6_lays 58 = .ok (.iload 5, 2) := by decide +kernel
theorem dX6_lays_60 : decode cX6_lays 60 = .ok (.invokevirtual 140, 3) := by decide +kernel
theorem dX6_lays_63 : decode cX6_lays 63 = .ok (.iastore, 1) := by decide +kernel
theorem dX6_lays_64 : decode cX6_lays 64 = .ok (.iinc 6 1, 3) := by decide +kernel
theorem dX6_lays_67 : decode cX6_lays 67 = .ok (.goto (-36), 3) := by decide +kernel
theorem dX6_lays_70 : decode cX6_lays 70 = .ok (.aload_n 0, 1) := by decide +kernel
theorem dX6_lays_71 : decode cX6_lays 71 = .ok (.dup, 1) := by decide +kernel
theorem dX6_lays_72 : decode cX6_lays 72 = .ok (.getfield 144, 3) := by decide +kernel
theorem dX6_lays_75 : decode cX6_lays 75 = .ok (.iconst 1, 1) := by decide +kernel
theorem dX6_lays_76 : decode cX6_lays 76 = .ok (.iadd, 1) := by decide +kernel
theorem dX6_lays_77 : decode cX6_lays 77 = .ok (.putfield 144, 3) := by decide +kernel
theorem dX6_lays_80 : decode cX6_lays 80 = .ok (.return_, 1) := by decide +kernel
set_option maxRecDepth 20000 in
theorem ggX6_layDeck_X6_lays : GoodIn wsX6_layDeck wsX6_lays := goodIn_r _ [8, 9, 1, 10, 11, 12, 13, 7, 14, 15, 16, 17, 18, 19, 20, 21, 22, 2, 3, 23, 24, 25, 26, 27, 28, 29, 30, 31, 32, 33, 34, 35, 36, 37, 38, 39, 40, 41, 42, 43, 44, 45, 46, 47, 48, 49, 50, 51, 52, 53, 54, 55, 56, 57, 58, 59, 60, 61, 62, 63] (by decide +kernel) (by decide +kernel)
set_option maxRecDepth 20000 in
theorem gX6_layDeck_X6_lays : GoodIn wsX6_layDeck (wsV RX6 147 RX6 yX6_lays wsX6_lays) := goodIn_app (goodIn_of _ (by decide +kernel)) ggX6_layDeck_X6_lays
set_option maxRecDepth 20000 in
theorem ggX6_layDeck_X6_placeOf : GoodIn wsX6_layDeck wsX6_placeOf := goodIn_r _ [22, 2, 3, 36, 37, 38, 39, 40, 41, 42, 43, 44, 45, 46, 47, 48, 49, 50, 51, 52, 53, 54, 55, 56, 57, 58, 59, 60, 61, 62, 63] (by decide +kernel) (by decide +kernel)
set_option maxRecDepth 20000 in
theorem gX6_layDeck_X6_placeOf : GoodIn wsX6_layDeck (wsV RX6 85 RX6 yX6_placeOf wsX6_placeOf) := goodIn_app (goodIn_of _ (by decide +kernel)) ggX6_layDeck_X6_placeOf
theorem dX6_layDeck_0 : decode cX6_layDeck 0 = .ok (.aload_n 0, 1) := by decide +kernel
theorem dX6_layDeck_1 : decode cX6_layDeck 1 = .ok (.iconst 0, 1) := by decide +kernel
theorem dX6_layDeck_2 : decode cX6_layDeck 2 = .ok (.putfield 144, 3) := by decide +kernel
theorem dX6_layDeck_5 : decode cX6_layDeck 5 = .ok (.iconst 0, 1) := by decide +kernel
theorem dX6_layDeck_6 : decode cX6_layDeck 6 = .ok (.istore 5, 2) := by decide +kernel
theorem dX6_layDeck_8 : decode cX6_layDeck 8 = .ok (.iload 5, 2) := by decide +kernel
theorem dX6_layDeck_10 : decode cX6_layDeck 10 = .ok (.aload_n 0, 1) := by decide +kernel
theorem dX6_layDeck_11 : decode cX6_layDeck 11 = .ok (.getfield 23, 3) := by decide +kernel
theorem dX6_layDeck_14 : decode cX6_layDeck 14 = .ok (.iload_n 2, 1) := by decide +kernel
theorem dX6_layDeck_15 : decode cX6_layDeck 15 = .ok (.iaload, 1) := by decide +kernel
theorem dX6_layDeck_16 : decode cX6_layDeck 16 = .ok (.if_icmp .ge 30, 3) := by decide +kernel
theorem dX6_layDeck_19 : decode cX6_layDeck 19 = .ok (.aload_n 0, 1) := by decide +kernel
theorem dX6_layDeck_20 : decode cX6_layDeck 20 = .ok (.iload_n 1, 1) := by decide +kernel
theorem dX6_layDeck_21 : decode cX6_layDeck 21 = .ok (.iload_n 2, 1) := by decide +kernel
theorem dX6_layDeck_22 : decode cX6_layDeck 22 = .ok (.iload_n 3, 1) := by decide +kernel
theorem dX6_layDeck_23 : decode cX6_layDeck 23 = .ok (.aload_n 0, 1) := by decide +kernel
theorem dX6_layDeck_24 : decode cX6_layDeck 24 = .ok (.getfield 26, 3) := by decide +kernel
theorem dX6_layDeck_27 : decode cX6_layDeck 27 = .ok (.bipush 8, 2) := by decide +kernel
theorem dX6_layDeck_29 : decode cX6_layDeck 29 = .ok (.iload_n 2, 1) := by decide +kernel
theorem dX6_layDeck_30 : decode cX6_layDeck 30 = .ok (.imul, 1) := by decide +kernel
theorem dX6_layDeck_31 : decode cX6_layDeck 31 = .ok (.iload 5, 2) := by decide +kernel
theorem dX6_layDeck_33 : decode cX6_layDeck 33 = .ok (.iadd, 1) := by decide +kernel
theorem dX6_layDeck_34 : decode cX6_layDeck 34 = .ok (.iaload, 1) := by decide +kernel
theorem dX6_layDeck_35 : decode cX6_layDeck 35 = .ok (.iload 4, 2) := by decide +kernel
theorem dX6_layDeck_37 : decode cX6_layDeck 37 = .ok (.invokevirtual 147, 3) := by decide +kernel
theorem dX6_layDeck_40 : decode cX6_layDeck 40 = .ok (.iinc 5 1, 3) := by decide +kernel
theorem dX6_layDeck_43 : decode cX6_layDeck 43 = .ok (.goto (-35), 3) := by decide +kernel
theorem dX6_layDeck_46 : decode cX6_layDeck 46 = .ok (.iconst 0, 1) := by decide +kernel
theorem dX6_layDeck_47 : decode cX6_layDeck 47 = .ok (.istore 5, 2) := by decide +kernel
theorem dX6_layDeck_49 : decode cX6_layDeck 49 = .ok (.iload 5, 2) := by decide +kernel
theorem dX6_layDeck_51 : decode cX6_layDeck 51 = .ok (.aload_n 0, 1) := by decide +kernel
theorem dX6_layDeck_52 : decode cX6_layDeck 52 = .ok (.getfield 23, 3) := by decide +kernel
theorem dX6_layDeck_55 : decode cX6_layDeck 55 = .ok (.iload_n 3, 1) := by decide +kernel
theorem dX6_layDeck_56 : decode cX6_layDeck 56 = .ok (.iaload, 1) := by decide +kernel
theorem dX6_layDeck_57 : decode cX6_layDeck 57 = .ok (.if_icmp .ge 51, 3) := by decide +kernel
theorem dX6_layDeck_60 : decode cX6_layDeck 60 = .ok (.aload_n 0, 1) := by decide +kernel
theorem dX6_layDeck_61 : decode cX6_layDeck 61 = .ok (.iload_n 2, 1) := by decide +kernel
theorem dX6_layDeck_62 : decode cX6_layDeck 62 = .ok (.aload_n 0, 1) := by decide +kernel
theorem dX6_layDeck_63 : decode cX6_layDeck 63 = .ok (.getfield 26, 3) := by decide +kernel
theorem dX6_layDeck_66 : decode cX6_layDeck 66 = .ok (.bipush 8, 2) := by decide +kernel
theorem dX6_layDeck_68 : decode cX6_layDeck 68 = .ok (.iload_n 3, 1) := by decide +kernel
theorem dX6_layDeck_69 : decode cX6_layDeck 69 = .ok (.imul, 1) := by decide +kernel
theorem dX6_layDeck_70 : decode cX6_layDeck 70 = .ok (.iload 5, 2) := by decide +kernel
theorem dX6_layDeck_72 : decode cX6_layDeck 72 = .ok (.iadd, 1) := by decide +kernel
theorem dX6_layDeck_73 : decode cX6_layDeck 73 = .ok (.iaload, 1) := by decide +kernel
theorem dX6_layDeck_74 : decode cX6_layDeck 74 = .ok (.invokevirtual 85, 3) := by decide +kernel
theorem dX6_layDeck_77 : decode cX6_layDeck 77 = .ok (.iconst (-1), 1) := by decide +kernel
theorem dX6_layDeck_78 : decode cX6_layDeck 78 = .ok (.if_icmp .ne 24, 3) := by decide +kernel
theorem dX6_layDeck_81 : decode cX6_layDeck 81 = .ok (.aload_n 0, 1) := by decide +kernel
theorem dX6_layDeck_82 : decode cX6_layDeck 82 = .ok (.iload_n 1, 1) := by decide +kernel
theorem dX6_layDeck_83 : decode cX6_layDeck 83 = .ok (.iload_n 2, 1) := by decide +kernel
theorem dX6_layDeck_84 : decode cX6_layDeck 84 = .ok (.iload_n 3, 1) := by decide +kernel
theorem dX6_layDeck_85 : decode cX6_layDeck 85 = .ok (.aload_n 0, 1) := by decide +kernel
theorem dX6_layDeck_86 : decode cX6_layDeck 86 = .ok (.getfield 26, 3) := by decide +kernel
theorem dX6_layDeck_89 : decode cX6_layDeck 89 = .ok (.bipush 8, 2) := by decide +kernel
theorem dX6_layDeck_91 : decode cX6_layDeck 91 = .ok (.iload_n 3, 1) := by decide +kernel
theorem dX6_layDeck_92 : decode cX6_layDeck 92 = .ok (.imul, 1) := by decide +kernel
theorem dX6_layDeck_93 : decode cX6_layDeck 93 = .ok (.iload 5, 2) := by decide +kernel
theorem dX6_layDeck_95 : decode cX6_layDeck 95 = .ok (.iadd, 1) := by decide +kernel
theorem dX6_layDeck_96 : decode cX6_layDeck 96 = .ok (.iaload, 1) := by decide +kernel
theorem dX6_layDeck_97 : decode cX6_layDeck 97 = .ok (.iload 4, 2) := by decide +kernel
theorem dX6_layDeck_99 : decode cX6_layDeck 99 = .ok (.invokevirtual 147, 3) := by decide +kernel
theorem dX6_layDeck_102 : decode cX6_layDeck 102 = .ok (.iinc 5 1, 3) := by decide +kernel
theorem dX6_layDeck_105 : decode cX6_layDeck 105 = .ok (.goto (-56), 3) := by decide +kernel
theorem dX6_layDeck_108 : decode cX6_layDeck 108 = .ok (.return_, 1) := by decide +kernel
set_option maxRecDepth 20000 in
theorem ggX6_merge_X6_isBranch : GoodIn wsX6_merge wsX6_isBranch := goodIn_r _ [17, 18, 19, 20, 16, 21, 95, 96, 97, 98, 99, 100, 101, 102, 103, 104, 105, 106, 107, 108, 109, 110, 111, 112, 113, 114, 115, 116, 117, 118, 119, 120, 121, 122] (by decide +kernel) (by decide +kernel)
set_option maxRecDepth 20000 in
theorem gX6_merge_X6_isBranch : GoodIn wsX6_merge (wsV RX6 93 RX6 yX6_isBranch wsX6_isBranch) := goodIn_app (goodIn_of _ (by decide +kernel)) ggX6_merge_X6_isBranch
set_option maxRecDepth 20000 in
theorem ggX6_merge_X6_in : GoodIn wsX6_merge wsX6_in := goodIn_r _ [21] (by decide +kernel) (by decide +kernel)
set_option maxRecDepth 20000 in
theorem gX6_merge_X6_in : GoodIn wsX6_merge (va_wsS RX6 81 yX6_in wsX6_in) := goodIn_app (goodIn_of _ (by decide +kernel)) ggX6_merge_X6_in
set_option maxRecDepth 20000 in
theorem ggX6_merge_X6_baseOf : GoodIn wsX6_merge wsX6_baseOf := goodIn_r _ [25, 2, 8, 26, 27, 28, 29, 30, 16, 31, 32, 9, 95, 96, 97, 98, 99, 100, 101, 102, 103, 104, 105, 106, 107, 108, 109, 110, 111, 112, 113, 114, 115, 116, 117, 118, 119, 120, 121, 122] (by decide +kernel) (by decide +kernel)
set_option maxRecDepth 20000 in
theorem gX6_merge_X6_baseOf : GoodIn wsX6_merge (wsV RX6 134 RX6 yX6_baseOf wsX6_baseOf) := goodIn_app (goodIn_of _ (by decide +kernel)) ggX6_merge_X6_baseOf
set_option maxRecDepth 20000 in
theorem ggX6_merge_X6_layDeck : GoodIn wsX6_merge wsX6_layDeck := goodIn_r _ [36, 3, 10, 11, 37, 38, 39, 16, 40, 5, 6, 41, 42, 43, 44, 45, 46, 47, 48, 49, 50, 51, 52, 53, 54, 55, 56, 57, 58, 59, 60, 12, 61, 62, 63, 64, 95, 96, 97, 98, 99, 100, 101, 102, 103, 104, 105, 106, 107, 108, 109, 110, 111, 112, 113, 114, 115, 116, 117, 118, 119, 120, 121, 122] (by decide +kernel) (by decide +kernel)
set_option maxRecDepth 20000 in
theorem gX6_merge_X6_layDeck : GoodIn wsX6_merge (wsV RX6 151 RX6 yX6_layDeck wsX6_layDeck) := goodIn_app (goodIn_of _ (by decide +kernel)) ggX6_merge_X6_layDeck
set_option maxRecDepth 20000 in
theorem ggX6_merge_X6_isBlocked : GoodIn wsX6_merge wsX6_isBlocked := goodIn_r _ [68, 69, 70, 71, 72, 16, 73, 74, 75, 19, 20, 21, 76, 77, 78, 79, 80, 81, 82, 83, 84, 95, 96, 97, 98, 99, 100, 101, 102, 103, 104, 105, 106, 107, 108, 109, 110, 111, 112, 113, 114, 115, 116, 117, 118, 119, 120, 121, 122] (by decide +kernel) (by decide +kernel)
set_option maxRecDepth 20000 in
theorem gX6_merge_X6_isBlocked : GoodIn wsX6_merge (wsV RX6 158 RX6 yX6_isBlocked wsX6_isBlocked) := goodIn_app (goodIn_of _ (by decide +kernel)) ggX6_merge_X6_isBlocked
set_option maxRecDepth 20000 in
theorem ggX6_merge_X6_clashesOf : GoodIn wsX6_merge wsX6_clashesOf := goodIn_r _ [88, 89, 45, 46, 47, 16, 48, 49, 50, 51, 52, 10, 11, 53, 54, 55, 56, 57, 58, 59, 60, 12, 61, 62, 63, 64, 95, 96, 97, 98, 99, 100, 101, 102, 103, 104, 105, 106, 107, 108, 109, 110, 111, 112, 113, 114, 115, 116, 117, 118, 119, 120, 121, 122] (by decide +kernel) (by decide +kernel)
set_option maxRecDepth 20000 in
theorem gX6_merge_X6_clashesOf : GoodIn wsX6_merge (wsV RX6 137 RX6 yX6_clashesOf wsX6_clashesOf) := goodIn_app (goodIn_of _ (by decide +kernel)) ggX6_merge_X6_clashesOf
set_option maxRecDepth 20000 in
theorem ggX6_merge_X6_edits : GoodIn wsX6_merge wsX6_edits := goodIn_r _ [93, 8, 2, 94, 32, 9, 10, 11, 12, 95, 96, 97, 98, 99, 100, 101, 102, 103, 104, 105, 106, 107, 108, 109, 110, 111, 112, 113, 114, 115, 116, 117, 118, 119, 120, 121, 122] (by decide +kernel) (by decide +kernel)
set_option maxRecDepth 20000 in
theorem gX6_merge_X6_edits : GoodIn wsX6_merge (wsV RX6 99 RX6 yX6_edits wsX6_edits) := goodIn_app (goodIn_of _ (by decide +kernel)) ggX6_merge_X6_edits
theorem dX6_merge_0 : decode cX6_merge 0 = .ok (.aload_n 0, 1) := by decide +kernel
theorem dX6_merge_1 : decode cX6_merge 1 = .ok (.aload_n 0, 1) := by decide +kernel
theorem dX6_merge_2 : decode cX6_merge 2 = .ok (.iload_n 1, 1) := by decide +kernel
theorem dX6_merge_3 : decode cX6_merge 3 = .ok (.invokevirtual 93, 3) := by decide +kernel
theorem dX6_merge_6 : decode cX6_merge 6 = .ok (.ifCond .eq 11, 3) := by decide +kernel
theorem dX6_merge_9 : decode cX6_merge 9 = .ok (.aload_n 0, 1) := by decide +kernel
theorem dX6_merge_10 : decode cX6_merge 10 = .ok (.iload_n 2, 1) := by decide +kernel
theorem dX6_merge_11 : decode cX6_merge 11 = .ok (.invokevirtual 93, 3) := by decide +kernel
theorem dX6_merge_14 : decode cX6_merge 14 = .ok (.ifCond .ne 7, 3) := by decide +kernel
theorem dX6_merge_17 : decode cX6_merge 17 = .ok (.iconst 1, 1) := by decide +kernel
theorem dX6_merge_18 : decode cX6_merge 18 = .ok (.goto 22, 3) := by decide +kernel
theorem dX6_merge_21 : decode cX6_merge 21 = .ok (.iload_n 1, 1) := by decide +kernel
theorem dX6_merge_22 : decode cX6_merge 22 = .ok (.iload_n 2, 1) := by decide +kernel
theorem dX6_merge_23 : decode cX6_merge 23 = .ok (.if_icmp .eq 12, 3) := by decide +kernel
theorem dX6_merge_26 : decode cX6_merge 26 = .ok (.iload_n 3, 1) := by decide +kernel
theorem dX6_merge_27 : decode cX6_merge 27 = .ok (.iconst (-1), 1) := by decide +kernel
theorem dX6_merge_28 : decode cX6_merge 28 = .ok (.iconst 1, 1) := by decide +kernel
theorem dX6_merge_29 : decode cX6_merge 29 = .ok (.invokestatic 81, 3) := by decide +kernel
theorem dX6_merge_32 : decode cX6_merge 32 = .ok (.ifCond .ne 7, 3) := by decide +kernel
theorem dX6_merge_35 : decode cX6_merge 35 = .ok (.iconst 2, 1) := by decide +kernel
theorem dX6_merge_36 : decode cX6_merge 36 = .ok (.goto 4, 3) := by decide +kernel
theorem dX6_merge_39 : decode cX6_merge 39 = .ok (.iconst 0, 1) := by decide +kernel
theorem dX6_merge_40 : decode cX6_merge 40 = .ok (.putfield 78, 3) := by decide +kernel
theorem dX6_merge_43 : decode cX6_merge 43 = .ok (.aload_n 0, 1) := by decide +kernel
theorem dX6_merge_44 : decode cX6_merge 44 = .ok (.getfield 78, 3) := by decide +kernel
theorem dX6_merge_47 : decode cX6_merge 47 = .ok (.ifCond .le 5, 3) := by decide +kernel
theorem dX6_merge_50 : decode cX6_merge 50 = .ok (.iconst 0, 1) := by decide +kernel
theorem dX6_merge_51 : decode cX6_merge 51 = .ok (.ireturn, 1) := by decide +kernel
theorem dX6_merge_52 : decode cX6_merge 52 = .ok (.aload_n 0, 1) := by decide +kernel
theorem dX6_merge_53 : decode cX6_merge 53 = .ok (.iload_n 1, 1) := by decide +kernel
theorem dX6_merge_54 : decode cX6_merge 54 = .ok (.iload_n 2, 1) := by decide +kernel
theorem dX6_merge_55 : decode cX6_merge 55 = .ok (.invokevirtual 134, 3) := by decide +kernel
theorem dX6_merge_58 : decode cX6_merge 58 = .ok (.istore 4, 2) := by decide +kernel
theorem dX6_merge_60 : decode cX6_merge 60 = .ok (.aload_n 0, 1) := by decide +kernel
theorem dX6_merge_61 : decode cX6_merge 61 = .ok (.getfield 35, 3) := by decide +kernel
theorem dX6_merge_64 : decode cX6_merge 64 = .ok (.iload_n 1, 1) := by decide +kernel
theorem dX6_merge_65 : decode cX6_merge 65 = .ok (.iaload, 1) := by decide +kernel
theorem dX6_merge_66 : decode cX6_merge 66 = .ok (.istore 5, 2) := by decide +kernel
theorem dX6_merge_68 : decode cX6_merge 68 = .ok (.aload_n 0, 1) := by decide +kernel
theorem dX6_merge_69 : decode cX6_merge 69 = .ok (.getfield 35, 3) := by decide +kernel
theorem dX6_merge_72 : decode cX6_merge 72 = .ok (.iload_n 2, 1) := by decide +kernel
theorem dX6_merge_73 : decode cX6_merge 73 = .ok (.iaload, 1) := by decide +kernel
theorem dX6_merge_74 : decode cX6_merge 74 = .ok (.istore 6, 2) := by decide +kernel
theorem dX6_merge_76 : decode cX6_merge 76 = .ok (.aload_n 0, 1) := by decide +kernel
theorem dX6_merge_77 : decode cX6_merge 77 = .ok (.iload 4, 2) := by decide +kernel
theorem dX6_merge_79 : decode cX6_merge 79 = .ok (.iload 5, 2) := by decide +kernel
theorem dX6_merge_81 : decode cX6_merge 81 = .ok (.iload 6, 2) := by decide +kernel
theorem dX6_merge_83 : decode cX6_merge 83 = .ok (.iload_n 3, 1) := by decide +kernel
theorem dX6_merge_84 : decode cX6_merge 84 = .ok (.iconst (-1), 1) := by decide +kernel
theorem dX6_merge_85 : decode cX6_merge 85 = .ok (.if_icmp .ne 7, 3) := by decide +kernel
theorem dX6_merge_88 : decode cX6_merge 88 = .ok (.iconst 0, 1) := by decide +kernel
theorem dX6_merge_89 : decode cX6_merge 89 = .ok (.goto 4, 3) := by decide +kernel
theorem dX6_merge_92 : decode cX6_merge 92 = .ok (.iload_n 3, 1) := by decide +kernel
theorem dX6_merge_93 : decode cX6_merge 93 = .ok (.invokevirtual 151, 3) := by decide +kernel
theorem dX6_merge_96 : decode cX6_merge 96 = .ok (.iconst 0, 1) := by decide +kernel
theorem dX6_merge_97 : decode cX6_merge 97 = .ok (.istore 7, 2) := by decide +kernel
theorem dX6_merge_99 : decode cX6_merge 99 = .ok (.iconst 0, 1) := by decide +kernel
theorem dX6_merge_100 : decode cX6_merge 100 = .ok (.istore 8, 2) := by decide +kernel
theorem dX6_merge_102 : decode cX6_merge 102 = .ok (.iload 8, 2) := by decide +kernel
theorem dX6_merge_104 : decode cX6_merge 104 = .ok (.aload_n 0, 1) := by decide +kernel
theorem dX6_merge_105 : decode cX6_merge 105 = .ok (.getfield 144, 3) := by decide +kernel
theorem dX6_merge_108 : decode cX6_merge 108 = .ok (.if_icmp .ge 72, 3) := by decide +kernel
theorem dX6_merge_111 : decode cX6_merge 111 = .ok (.iconst 0, 1) := by decide +kernel
theorem dX6_merge_112 : decode cX6_merge 112 = .ok (.istore 9, 2) := by decide +kernel
theorem dX6_merge_114 : decode cX6_merge 114 = .ok (.iload 9, 2) := by decide +kernel
theorem dX6_merge_116 : decode cX6_merge 116 = .ok (.aload_n 0, 1) := by decide +kernel
theorem dX6_merge_117 : decode cX6_merge 117 = .ok (.getfield 155, 3) := by decide +kernel
theorem dX6_merge_120 : decode cX6_merge 120 = .ok (.if_icmp .ge 54, 3) := by decide +kernel
theorem dX6_merge_123 : decode cX6_merge 123 = .ok (.iload 7, 2) := by decide +kernel
theorem dX6_merge_125 : decode cX6_merge 125 = .ok (.ifCond .ne 36, 3) := by decide +kernel
theorem dX6_merge_128 : decode cX6_merge 128 = .ok (.aload_n 0, 1) := by decide +kernel
theorem dX6_merge_129 : decode cX6_merge 129 = .ok (.iload 9, 2) := by decide +kernel
theorem dX6_merge_131 : decode cX6_merge 131 = .ok (.aload_n 0, 1) := by decide +kernel
theorem dX6_merge_132 : decode cX6_merge 132 = .ok (.getfield 62, 3) := by decide +kernel
theorem dX6_merge_135 : decode cX6_merge 135 = .ok (.iload 8, 2) := by decide +kernel
theorem dX6_merge_137 : decode cX6_merge 137 = .ok (.iaload, 1) := by decide +kernel
theorem dX6_merge_138 : decode cX6_merge 138 = .ok (.aload_n 0, 1) := by decide +kernel
theorem dX6_merge_139 : decode cX6_merge 139 = .ok (.getfield 65, 3) := by decide +kernel
theorem dX6_merge_142 : decode cX6_merge 142 = .ok (.iconst 4, 1) := by decide +kernel
theorem dX6_merge_143 : decode cX6_merge 143 = .ok (.iload 8, 2) := by decide +kernel
theorem dX6_merge_145 : decode cX6_merge 145 = .ok (.imul, 1) := by decide +kernel
theorem dX6_merge_146 : decode cX6_merge 146 = .ok (.aload_n 0, 1) := by decide +kernel
theorem dX6_merge_147 : decode cX6_merge 147 = .ok (.getfield 44, 3) := by decide +kernel
theorem dX6_merge_150 : decode cX6_merge 150 = .ok (.iload 9, 2) := by decide +kernel
theorem dX6_merge_152 : decode cX6_merge 152 = .ok (.iaload, 1) := by decide +kernel
theorem dX6_merge_153 : decode cX6_merge 153 = .ok (.iadd, 1) := by decide +kernel
theorem dX6_merge_154 : decode cX6_merge 154 = .ok (.iaload, 1) := by decide +kernel
theorem dX6_merge_155 : decode cX6_merge 155 = .ok (.invokevirtual 158, 3) := by decide +kernel
theorem dX6_merge_158 : decode cX6_merge 158 = .ok (.ifCond .eq 7, 3) := by decide +kernel
theorem dX6_merge_161 : decode cX6_merge 161 = .ok (.iconst 1, 1) := by decide +kernel
theorem dX6_merge_162 : decode cX6_merge 162 = .ok (.goto 4, 3) := by decide +kernel
theorem dX6_merge_165 : decode cX6_merge 165 = .ok (.iconst 0, 1) := by decide +kernel
theorem dX6_merge_166 : decode cX6_merge 166 = .ok (.istore 7, 2) := by decide +kernel
theorem dX6_merge_168 : decode cX6_merge 168 = .ok (.iinc 9 1, 3) := by decide +kernel
theorem dX6_merge_171 : decode cX6_merge 171 = .ok (.goto (-57), 3) := by decide +kernel
theorem dX6_merge_174 : decode cX6_merge 174 = .ok (.iinc 8 1, 3) := by decide +kernel
theorem dX6_merge_177 : decode cX6_merge 177 = .ok (.goto (-75), 3) := by decide +kernel
theorem dX6_merge_180 : decode cX6_merge 180 = .ok (.aload_n 0, 1) := by decide +kernel
theorem dX6_merge_181 : decode cX6_merge 181 = .ok (.iload_n 3, 1) := by decide +kernel
theorem dX6_merge_182 : decode cX6_merge 182 = .ok (.iconst (-1), 1) := by decide +kernel
theorem dX6_merge_183 : decode cX6_merge 183 = .ok (.if_icmp .ne 16, 3) := by decide +kernel
theorem dX6_merge_186 : decode cX6_merge 186 = .ok (.aload_n 0, 1) := by decide +kernel
theorem dX6_merge_187 : decode cX6_merge 187 = .ok (.iload 4, 2) := by decide +kernel
theorem dX6_merge_189 : decode cX6_merge 189 = .ok (.iload 5, 2) := by decide +kernel
theorem dX6_merge_191 : decode cX6_merge 191 = .ok (.iload 6, 2) := by decide +kernel
theorem dX6_merge_193 : decode cX6_merge 193 = .ok (.invokevirtual 137, 3) := by decide +kernel
theorem dX6_merge_196 : decode cX6_merge 196 = .ok (.ifCond .gt 26, 3) := by decide +kernel
theorem dX6_merge_199 : decode cX6_merge 199 = .ok (.aload_n 0, 1) := by decide +kernel
theorem dX6_merge_200 : decode cX6_merge 200 = .ok (.getfield 144, 3) := by decide +kernel
theorem dX6_merge_203 : decode cX6_merge 203 = .ok (.bipush 8, 2) := by decide +kernel
theorem dX6_merge_205 : decode cX6_merge 205 = .ok (.if_icmp .gt 17, 3) := by decide +kernel
theorem dX6_merge_208 : decode cX6_merge 208 = .ok (.iload 7, 2) := by decide +kernel
theorem dX6_merge_210 : decode cX6_merge 210 = .ok (.ifCond .ne 12, 3) := by decide +kernel
theorem dX6_merge_213 : decode cX6_merge 213 = .ok (.aload_n 0, 1) := by decide +kernel
theorem dX6_merge_214 : decode cX6_merge 214 = .ok (.getfield 7, 3) := by decide +kernel
theorem dX6_merge_217 : decode cX6_merge 217 = .ok (.bipush 40, 2) := by decide +kernel
theorem dX6_merge_219 : decode cX6_merge 219 = .ok (.if_icmp .ne 7, 3) := by decide +kernel
theorem dX6_merge_222 : decode cX6_merge 222 = .ok (.iconst 3, 1) := by decide +kernel
theorem dX6_merge_223 : decode cX6_merge 223 = .ok (.goto 4, 3) := by decide +kernel
theorem dX6_merge_226 : decode cX6_merge 226 = .ok (.iconst 0, 1) := by decide +kernel
theorem dX6_merge_227 : decode cX6_merge 227 = .ok (.putfield 78, 3) := by decide +kernel
theorem dX6_merge_230 : decode cX6_merge 230 = .ok (.aload_n 0, 1) := by decide +kernel
theorem dX6_merge_231 : decode cX6_merge 231 = .ok (.getfield 78, 3) := by decide +kernel
theorem dX6_merge_234 : decode cX6_merge 234 = .ok (.ifCond .le 5, 3) := by decide +kernel
theorem dX6_merge_237 : decode cX6_merge 237 = .ok (.iconst 0, 1) := by decide +kernel
theorem dX6_merge_238 : decode cX6_merge 238 = .ok (.ireturn, 1) := by decide +kernel
theorem dX6_merge_239 : decode cX6_merge 239 = .ok (.aload_n 0, 1) := by decide +kernel
theorem dX6_merge_240 : decode cX6_merge 240 = .ok (.iload_n 1, 1) := by decide +kernel
theorem dX6_merge_241 : decode cX6_merge 241 = .ok (.iconst (-1), 1) := by decide +kernel
theorem dX6_merge_242 : decode cX6_merge 242 = .ok (.invokevirtual 99, 3) := by decide +kernel
theorem dX6_merge_245 : decode cX6_merge 245 = .ok (.istore 8, 2) := by decide +kernel
theorem dX6_merge_247 : decode cX6_merge 247 = .ok (.aload_n 0, 1) := by decide +kernel
theorem dX6_merge_248 : decode cX6_merge 248 = .ok (.getfield 20, 3) := by decide +kernel
theorem dX6_merge_251 : decode cX6_merge 251 = .ok (.iload 8, 2) := by decide +kernel
theorem dX6_merge_253 : decode cX6_merge 253 = .ok (.iload 6, 2) := by decide +kernel
theorem dX6_merge_255 : decode cX6_merge 255 = .ok (.iastore, 1) := by decide +kernel
theorem dX6_merge_256 : decode cX6_merge 256 = .ok (.aload_n 0, 1) := by decide +kernel
theorem dX6_merge_257 : decode cX6_merge 257 = .ok (.getfield 23, 3) := by decide +kernel
theorem dX6_merge_260 : decode cX6_merge 260 = .ok (.iload 8, 2) := by decide +kernel
theorem dX6_merge_262 : decode cX6_merge 262 = .ok (.aload_n 0, 1) := by decide +kernel
theorem dX6_merge_263 : decode cX6_merge 263 = .ok (.getfield 144, 3) := by decide +kernel
theorem dX6_merge_266 : decode cX6_merge 266 = .ok (.iastore, 1) := by decide +kernel
theorem dX6_merge_267 : decode cX6_merge 267 = .ok (.iconst 0, 1) := by decide +kernel
theorem dX6_merge_268 : decode cX6_merge 268 = .ok (.istore 9, 2) := by decide +kernel
theorem dX6_merge_270 : decode cX6_merge 270 = .ok (.iload 9, 2) := by decide +kernel
theorem dX6_merge_272 : decode cX6_merge 272 = .ok (.aload_n 0, 1) := by decide +kernel
theorem dX6_merge_273 : decode cX6_merge 273 = .ok (.getfield 144, 3) := by decide +kernel
theorem dX6_merge_276 : decode cX6_merge 276 = .ok (.if_icmp .ge 74, 3) := by decide +kernel
theorem dX6_merge_279 : decode cX6_merge 279 = .ok (.aload_n 0, 1) := by decide +kernel
theorem dX6_merge_280 : decode cX6_merge 280 = .ok (.getfield 26, 3) := by decide +kernel
theorem dX6_merge_283 : decode cX6_merge 283 = .ok (.bipush 8, 2) := by decide +kernel
theorem dX6_merge_285 : decode cX6_merge 285 = .ok (.iload 8, 2) := by decide +kernel
theorem dX6_merge_287 : decode cX6_merge 287 = .ok (.imul, 1) := by decide +kernel
theorem dX6_merge_288 : decode cX6_merge 288 = .ok (.iload 9, 2) := by decide +kernel
theorem dX6_merge_290 : decode cX6_merge 290 = .ok (.iadd, 1) := by decide +kernel
theorem dX6_merge_291 : decode cX6_merge 291 = .ok (.aload_n 0, 1) := by decide +kernel
theorem dX6_merge_292 : decode cX6_merge 292 = .ok (.getfield 62, 3) := by decide +kernel
theorem dX6_merge_295 : decode cX6_merge 295 = .ok (.iload 9, 2) := by decide +kernel
theorem dX6_merge_297 : decode cX6_merge 297 = .ok (.iaload, 1) := by decide +kernel
theorem dX6_merge_298 : decode cX6_merge 298 = .ok (.iastore, 1) := by decide +kernel
theorem dX6_merge_299 : decode cX6_merge 299 = .ok (.iconst 0, 1) := by decide +kernel
theorem dX6_merge_300 : decode cX6_merge 300 = .ok (.istore 10, 2) := by decide +kernel
theorem dX6_merge_302 : decode cX6_merge 302 = .ok (.iload 10, 2) := by decide +kernel
theorem dX6_merge_304 : decode cX6_merge 304 = .ok (.iconst 4, 1) := by decide +kernel
theorem dX6_merge_305 : decode cX6_merge 305 = .ok (.if_icmp .ge 39, 3) := by decide +kernel
theorem dX6_merge_308 : decode cX6_merge 308 = .ok (.aload_n 0, 1) := by decide +kernel
theorem dX6_merge_309 : decode cX6_merge 309 = .ok (.getfield 29, 3) := by decide +kernel
theorem dX6_merge_312 : decode cX6_merge 312 = .ok (.iconst 4, 1) := by decide +kernel
theorem dX6_merge_313 : decode cX6_merge 313 = .ok (.bipush 8, 2) := by decide +kernel
theorem dX6_merge_315 : decode cX6_merge 315 = .ok (.iload 8, 2) := by decide +kernel
theorem dX6_merge_317 : decode cX6_merge 317 = .ok (.imul, 1) := by decide +kernel
theorem dX6_merge_318 : decode cX6_merge 318 = .ok (.iload 9, 2) := by decide +kernel
theorem dX6_merge_320 : decode cX6_merge 320 = .ok (.iadd, 1) := by decide +kernel
theorem dX6_merge_321 : decode cX6_merge 321 = .ok (.imul, 1) := by decide +kernel
theorem dX6_merge_322 : decode cX6_merge 322 = .ok (.iload 10, 2) := by decide +kernel
theorem dX6_merge_324 : decode cX6_merge 324 = .ok (.iadd, 1) := by decide +kernel
theorem dX6_merge_325 : decode cX6_merge 325 = .ok (.aload_n 0, 1) := by decide +kernel
theorem dX6_merge_326 : decode cX6_merge 326 = .ok (.getfield 65, 3) := by decide +kernel
theorem dX6_merge_329 : decode cX6_merge 329 = .ok (.iconst 4, 1) := by decide +kernel
theorem dX6_merge_330 : decode cX6_merge 330 = .ok (.iload 9, 2) := by decide +kernel
theorem dX6_merge_332 : decode cX6_merge 332 = .ok (.imul, 1) := by decide +kernel
theorem dX6_merge_333 : decode cX6_merge 333 = .ok (.iload 10, 2) := by decide +kernel
theorem dX6_merge_335 : decode cX6_merge 335 = .ok (.iadd, 1) := by decide +kernel
theorem dX6_merge_336 : decode cX6_merge 336 = .ok (.iaload, 1) := by decide +kernel
theorem dX6_merge_337 : decode cX6_merge 337 = .ok (.iastore, 1) := by decide +kernel
theorem dX6_merge_338 : decode cX6_merge 338 = .ok (.iinc 10 1, 3) := by decide +kernel
theorem dX6_merge_341 : decode cX6_merge 341 = .ok (.goto (-39), 3) := by decide +kernel
theorem dX6_merge_344 : decode cX6_merge 344 = .ok (.iinc 9 1, 3) := by decide +kernel
theorem dX6_merge_347 : decode cX6_merge 347 = .ok (.goto (-77), 3) := by decide +kernel
theorem dX6_merge_350 : decode cX6_merge 350 = .ok (.iload 8, 2) := by decide +kernel
theorem dX6_merge_352 : decode cX6_merge 352 = .ok (.ireturn, 1) := by decide +kernel
set_option maxRecDepth 20000 in
theorem ggX6_breaks_X6_in : GoodIn wsX6_breaks wsX6_in := goodIn_r _ [6] (by decide +kernel) (by decide +kernel)
set_option maxRecDepth 20000 in
theorem gX6_breaks_X6_in : GoodIn wsX6_breaks (va_wsS RX6 81 yX6_in wsX6_in) := goodIn_app (goodIn_of _ (by decide +kernel)) ggX6_breaks_X6_in
theorem dX6_breaks_0 : decode cX6_breaks 0 = .ok (.iload_n 2, 1) := by decide +kernel
theorem dX6_breaks_1 : decode cX6_breaks 1 = .ok (.ifCond .eq 26, 3) := by decide +kernel
theorem dX6_breaks_4 : decode cX6_breaks 4 = .ok (.iload_n 2, 1) := by decide +kernel
theorem dX6_breaks_5 : decode cX6_breaks 5 = .ok (.aload_n 0, 1) := by decide +kernel
theorem dX6_breaks_6 : decode cX6_breaks 6 = .ok (.getfield 47, 3) := by decide +kernel
theorem dX6_breaks_9 : decode cX6_breaks 9 = .ok (.iload_n 1, 1) := by decide +kernel
theorem dX6_breaks_10 : decode cX6_breaks 10 = .ok (.iaload, 1) := by decide +kernel
theorem dX6_breaks_11 : decode cX6_breaks 11 = .ok (.aload_n 0, 1) := by decide +kernel
theorem dX6_breaks_12 : decode cX6_breaks 12 = .ok (.getfield 50, 3) := by decide +kernel
theorem dX6_breaks_15 : decode cX6_breaks 15 = .ok (.iload_n 1, 1) := by decide +kernel
theorem dX6_breaks_16 : decode cX6_breaks 16 = .ok (.iaload, 1) := by decide +kernel
theorem dX6_breaks_17 : decode cX6_breaks 17 = .ok (.invokestatic 81, 3) := by decide +kernel
theorem dX6_breaks_20 : decode cX6_breaks 20 = .ok (.ifCond .ne 7, 3) := by decide +kernel
theorem dX6_breaks_23 : decode cX6_breaks 23 = .ok (.iconst 1, 1) := by decide +kernel
theorem dX6_breaks_24 : decode cX6_breaks 24 = .ok (.goto 4, 3) := by decide +kernel
theorem dX6_breaks_27 : decode cX6_breaks 27 = .ok (.iconst 0, 1) := by decide +kernel
theorem dX6_breaks_28 : decode cX6_breaks 28 = .ok (.ireturn, 1) := by decide +kernel
theorem dX6_isWaived_0 : decode cX6_isWaived 0 = .ok (.iconst 0, 1) := by decide +kernel
theorem dX6_isWaived_1 : decode cX6_isWaived 1 = .ok (.istore_n 3, 1) := by decide +kernel
theorem dX6_isWaived_2 : decode cX6_isWaived 2 = .ok (.iconst 0, 1) := by decide +kernel
theorem dX6_isWaived_3 : decode cX6_isWaived 3 = .ok (.istore 4, 2) := by decide +kernel
theorem dX6_isWaived_5 : decode cX6_isWaived 5 = .ok (.iload 4, 2) := by decide +kernel
theorem dX6_isWaived_7 : decode cX6_isWaived 7 = .ok (.aload_n 0, 1) := by decide +kernel
theorem dX6_isWaived_8 : decode cX6_isWaived 8 = .ok (.getfield 161, 3) := by decide +kernel
theorem dX6_isWaived_11 : decode cX6_isWaived 11 = .ok (.if_icmp .ge 55, 3) := by decide +kernel
theorem dX6_isWaived_14 : decode cX6_isWaived 14 = .ok (.iload_n 3, 1) := by decide +kernel
theorem dX6_isWaived_15 : decode cX6_isWaived 15 = .ok (.ifCond .ne 39, 3) := by decide +kernel
theorem dX6_isWaived_18 : decode cX6_isWaived 18 = .ok (.aload_n 0, 1) := by decide +kernel
theorem dX6_isWaived_19 : decode cX6_isWaived 19 = .ok (.getfield 53, 3) := by decide +kernel
theorem dX6_isWaived_22 : decode cX6_isWaived 22 = .ok (.iload 4, 2) := by decide +kernel
theorem dX6_isWaived_24 : decode cX6_isWaived 24 = .ok (.iaload, 1) := by decide +kernel
theorem dX6_isWaived_25 : decode cX6_isWaived 25 = .ok (.iload_n 1, 1) := by decide +kernel
theorem dX6_isWaived_26 : decode cX6_isWaived 26 = .ok (.if_icmp .ne 32, 3) := by decide +kernel
theorem dX6_isWaived_29 : decode cX6_isWaived 29 = .ok (.aload_n 0, 1) := by decide +kernel
theorem dX6_isWaived_30 : decode cX6_isWaived 30 = .ok (.getfield 56, 3) := by decide +kernel
theorem dX6_isWaived_33 : decode cX6_isWaived 33 = .ok (.iload 4, 2) := by decide +kernel
theorem dX6_isWaived_35 : decode cX6_isWaived 35 = .ok (.iaload, 1) := by decide +kernel
theorem dX6_isWaived_36 : decode cX6_isWaived 36 = .ok (.iload_n 2, 1) := by decide +kernel
theorem dX6_isWaived_37 : decode cX6_isWaived 37 = .ok (.if_icmp .ne 21, 3) := by decide +kernel
theorem dX6_isWaived_40 : decode cX6_isWaived 40 = .ok (.aload_n 0, 1) := by decide +kernel
theorem dX6_isWaived_41 : decode cX6_isWaived 41 = .ok (.getfield 59, 3) := by decide +kernel
theorem dX6_isWaived_44 : decode cX6_isWaived 44 = .ok (.iload 4, 2) := by decide +kernel
theorem dX6_isWaived_46 : decode cX6_isWaived 46 = .ok (.iaload, 1) := by decide +kernel
theorem dX6_isWaived_47 : decode cX6_isWaived 47 = .ok (.aload_n 0, 1) := by decide +kernel
theorem dX6_isWaived_48 : decode cX6_isWaived 48 = .ok (.getfield 164, 3) := by decide +kernel
theorem dX6_isWaived_51 : decode cX6_isWaived 51 = .ok (.if_icmp .lt 7, 3) := by decide +kernel
theorem dX6_isWaived_54 : decode cX6_isWaived 54 = .ok (.iconst 1, 1) := by decide +kernel
theorem dX6_isWaived_55 : decode cX6_isWaived 55 = .ok (.goto 4, 3) := by decide +kernel
theorem dX6_isWaived_58 : decode cX6_isWaived 58 = .ok (.iconst 0, 1) := by decide +kernel
theorem dX6_isWaived_59 : decode cX6_isWaived 59 = .ok (.istore_n 3, 1) := by decide +kernel
theorem dX6_isWaived_60 : decode cX6_isWaived 60 = .ok (.iinc 4 1, 3) := by decide +kernel
theorem dX6_isWaived_63 : decode cX6_isWaived 63 = .ok (.goto (-58), 3) := by decide +kernel
theorem dX6_isWaived_66 : decode cX6_isWaived 66 = .ok (.iload_n 3, 1) := by decide +kernel
theorem dX6_isWaived_67 : decode cX6_isWaived 67 = .ok (.ireturn, 1) := by decide +kernel
set_option maxRecDepth 20000 in
theorem ggX6_isBlocked_X6_breaks : GoodIn wsX6_isBlocked wsX6_breaks := goodIn_r _ [6, 7, 8, 9, 10, 5, 11, 21, 22, 23, 24, 25, 26, 27, 28, 29, 30, 31, 32, 33, 34, 35, 36, 37, 38, 39, 40, 41, 42, 43, 44, 45, 46, 47, 48] (by decide +kernel) (by decide +kernel)
set_option maxRecDepth 20000 in
theorem gX6_isBlocked_X6_breaks : GoodIn wsX6_isBlocked (wsV RX6 167 RX6 yX6_breaks wsX6_breaks) := goodIn_app (goodIn_of _ (by decide +kernel)) ggX6_isBlocked_X6_breaks
set_option maxRecDepth 20000 in
theorem ggX6_isBlocked_X6_isWaived : GoodIn wsX6_isBlocked wsX6_isWaived := goodIn_r _ [15, 16, 17, 18, 19, 20, 21, 22, 23, 24, 25, 26, 27, 28, 29, 30, 31, 32, 33, 34, 35, 36, 37, 38, 39, 40, 41, 42, 43, 44, 45, 46, 47, 48] (by decide +kernel) (by decide +kernel)
set_option maxRecDepth 20000 in
theorem gX6_isBlocked_X6_isWaived : GoodIn wsX6_isBlocked (wsV RX6 170 RX6 yX6_isWaived wsX6_isWaived) := goodIn_app (goodIn_of _ (by decide +kernel)) ggX6_isBlocked_X6_isWaived
theorem dX6_isBlocked_0 : decode cX6_isBlocked 0 = .ok (.aload_n 0, 1) := by decide +kernel
theorem dX6_isBlocked_1 : decode cX6_isBlocked 1 = .ok (.iload_n 1, 1) := by decide +kernel
theorem dX6_isBlocked_2 : decode cX6_isBlocked 2 = .ok (.iload_n 3, 1) := by decide +kernel
theorem dX6_isBlocked_3 : decode cX6_isBlocked 3 = .ok (.invokevirtual 167, 3) := by decide +kernel
theorem dX6_isBlocked_6 : decode cX6_isBlocked 6 = .ok (.ifCond .eq 35, 3) := by decide +kernel
theorem dX6_isBlocked_9 : decode cX6_isBlocked 9 = .ok (.aload_n 0, 1) := by decide +kernel
theorem dX6_isBlocked_10 : decode cX6_isBlocked 10 = .ok (.getfield 41, 3) := by decide +kernel
theorem dX6_isBlocked_13 : decode cX6_isBlocked 13 = .ok (.iload_n 1, 1) := by decide +kernel
theorem dX6_isBlocked_14 : decode cX6_isBlocked 14 = .ok (.iaload, 1) := by decide +kernel
theorem dX6_isBlocked_15 : decode cX6_isBlocked 15 = .ok (.ifCond .eq 22, 3) := by decide +kernel
theorem dX6_isBlocked_18 : decode cX6_isBlocked 18 = .ok (.aload_n 0, 1) := by decide +kernel
theorem dX6_isBlocked_19 : decode cX6_isBlocked 19 = .ok (.getfield 41, 3) := by decide +kernel
theorem dX6_isBlocked_22 : decode cX6_isBlocked 22 = .ok (.iload_n 1, 1) := by decide +kernel
theorem dX6_isBlocked_23 : decode cX6_isBlocked 23 = .ok (.iaload, 1) := by decide +kernel
theorem dX6_isBlocked_24 : decode cX6_isBlocked 24 = .ok (.iconst 1, 1) := by decide +kernel
theorem dX6_isBlocked_25 : decode cX6_isBlocked 25 = .ok (.if_icmp .ne 16, 3) := by decide +kernel
theorem dX6_isBlocked_28 : decode cX6_isBlocked 28 = .ok (.aload_n 0, 1) := by decide +kernel
theorem dX6_isBlocked_29 : decode cX6_isBlocked 29 = .ok (.iload_n 1, 1) := by decide +kernel
theorem dX6_isBlocked_30 : decode cX6_isBlocked 30 = .ok (.iload_n 2, 1) := by decide +kernel
theorem dX6_isBlocked_31 : decode cX6_isBlocked 31 = .ok (.invokevirtual 170, 3) := by decide +kernel
theorem dX6_isBlocked_34 : decode cX6_isBlocked 34 = .ok (.ifCond .ne 7, 3) := by decide +kernel
theorem dX6_isBlocked_37 : decode cX6_isBlocked 37 = .ok (.iconst 1, 1) := by decide +kernel
theorem dX6_isBlocked_38 : decode cX6_isBlocked 38 = .ok (.goto 4, 3) := by decide +kernel
theorem dX6_isBlocked_41 : decode cX6_isBlocked 41 = .ok (.iconst 0, 1) := by decide +kernel
theorem dX6_isBlocked_42 : decode cX6_isBlocked 42 = .ok (.ireturn, 1) := by decide +kernel
set_option maxRecDepth 20000 in
theorem ggX6_blocksOf_X6_isBlocked : GoodIn wsX6_blocksOf wsX6_isBlocked := goodIn_r _ [10, 11, 12, 13, 14, 9, 15, 16, 17, 18, 19, 20, 21, 22, 23, 24, 25, 26, 27, 28, 29, 30, 31, 32, 33, 34, 35, 36, 37, 38, 39, 40, 41, 42, 43, 44, 45, 46, 47, 48, 49, 50, 51, 52, 53, 54, 55, 56, 57] (by decide +kernel) (by decide +kernel)
set_option maxRecDepth 20000 in
theorem gX6_blocksOf_X6_isBlocked : GoodIn wsX6_blocksOf (wsV RX6 158 RX6 yX6_isBlocked wsX6_isBlocked) := goodIn_app (goodIn_of _ (by decide +kernel)) ggX6_blocksOf_X6_isBlocked
theorem dX6_blocksOf_0 : decode cX6_blocksOf 0 = .ok (.iconst 0, 1) := by decide +kernel
theorem dX6_blocksOf_1 : decode cX6_blocksOf 1 = .ok (.istore_n 2, 1) := by decide +kernel
theorem dX6_blocksOf_2 : decode cX6_blocksOf 2 = .ok (.iconst 0, 1) := by decide +kernel
theorem dX6_blocksOf_3 : decode cX6_blocksOf 3 = .ok (.istore_n 3, 1) := by decide +kernel
theorem dX6_blocksOf_4 : decode cX6_blocksOf 4 = .ok (.iload_n 3, 1) := by decide +kernel
theorem dX6_blocksOf_5 : decode cX6_blocksOf 5 = .ok (.aload_n 0, 1) := by decide +kernel
theorem dX6_blocksOf_6 : decode cX6_blocksOf 6 = .ok (.getfield 23, 3) := by decide +kernel
theorem dX6_blocksOf_9 : decode cX6_blocksOf 9 = .ok (.iload_n 1, 1) := by decide +kernel
theorem dX6_blocksOf_10 : decode cX6_blocksOf 10 = .ok (.iaload, 1) := by decide +kernel
theorem dX6_blocksOf_11 : decode cX6_blocksOf 11 = .ok (.if_icmp .ge 76, 3) := by decide +kernel
theorem dX6_blocksOf_14 : decode cX6_blocksOf 14 = .ok (.iconst 0, 1) := by decide +kernel
theorem dX6_blocksOf_15 : decode cX6_blocksOf 15 = .ok (.istore 4, 2) := by decide +kernel
theorem dX6_blocksOf_17 : decode cX6_blocksOf 17 = .ok (.iload 4, 2) := by decide +kernel
theorem dX6_blocksOf_19 : decode cX6_blocksOf 19 = .ok (.aload_n 0, 1) := by decide +kernel
theorem dX6_blocksOf_20 : decode cX6_blocksOf 20 = .ok (.getfield 155, 3) := by decide +kernel
theorem dX6_blocksOf_23 : decode cX6_blocksOf 23 = .ok (.if_icmp .ge 58, 3) := by decide +kernel
theorem dX6_blocksOf_26 : decode cX6_blocksOf 26 = .ok (.iload_n 2, 1) := by decide +kernel
theorem dX6_blocksOf_27 : decode cX6_blocksOf 27 = .ok (.aload_n 0, 1) := by decide +kernel
theorem dX6_blocksOf_28 : decode cX6_blocksOf 28 = .ok (.iload 4, 2) := by decide +kernel
theorem dX6_blocksOf_30 : decode cX6_blocksOf 30 = .ok (.aload_n 0, 1) := by decide +kernel
theorem dX6_blocksOf_31 : decode cX6_blocksOf 31 = .ok (.getfield 26, 3) := by decide +kernel
theorem dX6_blocksOf_34 : decode cX6_blocksOf 34 = .ok (.bipush 8, 2) := by decide +kernel
theorem dX6_blocksOf_36 : decode cX6_blocksOf 36 = .ok (.iload_n 1, 1) := by decide +kernel
theorem dX6_blocksOf_37 : decode cX6_blocksOf 37 = .ok (.imul, 1) := by decide +kernel
theorem dX6_blocksOf_38 : decode cX6_blocksOf 38 = .ok (.iload_n 3, 1) := by decide +kernel
theorem dX6_blocksOf_39 : decode cX6_blocksOf 39 = .ok (.iadd, 1) := by decide +kernel
theorem dX6_blocksOf_40 : decode cX6_blocksOf 40 = .ok (.iaload, 1) := by decide +kernel
theorem dX6_blocksOf_41 : decode cX6_blocksOf 41 = .ok (.aload_n 0, 1) := by decide +kernel
theorem dX6_blocksOf_42 : decode cX6_blocksOf 42 = .ok (.getfield 29, 3) := by decide +kernel
theorem dX6_blocksOf_45 : decode cX6_blocksOf 45 = .ok (.iconst 4, 1) := by decide +kernel
theorem dX6_blocksOf_46 : decode cX6_blocksOf 46 = .ok (.bipush 8, 2) := by decide +kernel
theorem dX6_blocksOf_48 : decode cX6_blocksOf 48 = .ok (.iload_n 1, 1) := by decide +kernel
theorem dX6_blocksOf_49 : decode cX6_blocksOf 49 = .ok (.imul, 1) := by decide +kernel
theorem dX6_blocksOf_50 : decode cX6_blocksOf 50 = .ok (.iload_n 3, 1) := by decide +kernel
theorem dX6_blocksOf_51 : decode cX6_blocksOf 51 = .ok (.iadd, 1) := by decide +kernel
theorem dX6_blocksOf_52 : decode cX6_blocksOf 52 = .ok (.imul, 1) := by decide +kernel
theorem dX6_blocksOf_53 : decode cX6_blocksOf 53 = .ok (.aload_n 0, 1) := by decide +kernel
theorem dX6_blocksOf_54 : decode cX6_blocksOf 54 = .ok (.getfield 44, 3) := by decide +kernel
theorem dX6_blocksOf_57 : decode cX6_blocksOf 57 = .ok (.iload 4, 2) := by decide +kernel
theorem dX6_blocksOf_59 : decode cX6_blocksOf 59 = .ok (.iaload, 1) := by decide +kernel
theorem dX6_blocksOf_60 : decode cX6_blocksOf 60 = .ok (.iadd, 1) := by decide +kernel
theorem dX6_blocksOf_61 : decode cX6_blocksOf 61 = .ok (.iaload, 1) := by decide +kernel
theorem dX6_blocksOf_62 : decode cX6_blocksOf 62 = .ok (.invokevirtual 158, 3) := by decide +kernel
theorem dX6_blocksOf_65 : decode cX6_blocksOf 65 = .ok (.ifCond .eq 7, 3) := by decide +kernel
theorem dX6_blocksOf_68 : decode cX6_blocksOf 68 = .ok (.iconst 1, 1) := by decide +kernel
theorem dX6_blocksOf_69 : decode cX6_blocksOf 69 = .ok (.goto 4, 3) := by decide +kernel
theorem dX6_blocksOf_72 : decode cX6_blocksOf 72 = .ok (.iconst 0, 1) := by decide +kernel
theorem dX6_blocksOf_73 : decode cX6_blocksOf 73 = .ok (.iadd, 1) := by decide +kernel
theorem dX6_blocksOf_74 : decode cX6_blocksOf 74 = .ok (.istore_n 2, 1) := by decide +kernel
theorem dX6_blocksOf_75 : decode cX6_blocksOf 75 = .ok (.iinc 4 1, 3) := by decide +kernel
theorem dX6_blocksOf_78 : decode cX6_blocksOf 78 = .ok (.goto (-61), 3) := by decide +kernel
theorem dX6_blocksOf_81 : decode cX6_blocksOf 81 = .ok (.iinc 3 1, 3) := by decide +kernel
theorem dX6_blocksOf_84 : decode cX6_blocksOf 84 = .ok (.goto (-80), 3) := by decide +kernel
theorem dX6_blocksOf_87 : decode cX6_blocksOf 87 = .ok (.iload_n 2, 1) := by decide +kernel
theorem dX6_blocksOf_88 : decode cX6_blocksOf 88 = .ok (.ireturn, 1) := by decide +kernel
set_option maxRecDepth 20000 in
theorem ggX6_rule_X6_in : GoodIn wsX6_rule wsX6_in := goodIn_r _ [10] (by decide +kernel) (by decide +kernel)
set_option maxRecDepth 20000 in
theorem gX6_rule_X6_in : GoodIn wsX6_rule (va_wsS RX6 81 yX6_in wsX6_in) := goodIn_app (goodIn_of _ (by decide +kernel)) ggX6_rule_X6_in
set_option maxRecDepth 20000 in
theorem ggX6_rule_X6_isObject : GoodIn wsX6_rule wsX6_isObject := goodIn_r _ [13, 7, 8, 9, 10] (by decide +kernel) (by decide +kernel)
set_option maxRecDepth 20000 in
theorem gX6_rule_X6_isObject : GoodIn wsX6_rule (va_wsS RX6 106 yX6_isObject wsX6_isObject) := goodIn_app (goodIn_of _ (by decide +kernel)) ggX6_rule_X6_isObject
theorem dX6_rule_0 : decode cX6_rule 0 = .ok (.aload_n 0, 1) := by decide +kernel
theorem dX6_rule_1 : decode cX6_rule 1 = .ok (.iload_n 1, 1) := by decide +kernel
theorem dX6_rule_2 : decode cX6_rule 2 = .ok (.iconst 0, 1) := by decide +kernel
theorem dX6_rule_3 : decode cX6_rule 3 = .ok (.iconst 2, 1) := by decide +kernel
theorem dX6_rule_4 : decode cX6_rule 4 = .ok (.invokestatic 81, 3) := by decide +kernel
theorem dX6_rule_7 : decode cX6_rule 7 = .ok (.ifCond .eq 10, 3) := by decide +kernel
theorem dX6_rule_10 : decode cX6_rule 10 = .ok (.iload_n 2, 1) := by decide +kernel
theorem dX6_rule_11 : decode cX6_rule 11 = .ok (.invokestatic 106, 3) := by decide +kernel
theorem dX6_rule_14 : decode cX6_rule 14 = .ok (.ifCond .ne 7, 3) := by decide +kernel
theorem dX6_rule_17 : decode cX6_rule 17 = .ok (.iconst 1, 1) := by decide +kernel
theorem dX6_rule_18 : decode cX6_rule 18 = .ok (.goto 44, 3) := by decide +kernel
theorem dX6_rule_21 : decode cX6_rule 21 = .ok (.iload_n 3, 1) := by decide +kernel
theorem dX6_rule_22 : decode cX6_rule 22 = .ok (.iconst 1, 1) := by decide +kernel
theorem dX6_rule_23 : decode cX6_rule 23 = .ok (.sipush 999, 3) := by decide +kernel
theorem dX6_rule_26 : decode cX6_rule 26 = .ok (.invokestatic 81, 3) := by decide +kernel
theorem dX6_rule_29 : decode cX6_rule 29 = .ok (.ifCond .eq 15, 3) := by decide +kernel
theorem dX6_rule_32 : decode cX6_rule 32 = .ok (.iload 4, 2) := by decide +kernel
theorem dX6_rule_34 : decode cX6_rule 34 = .ok (.iload_n 3, 1) := by decide +kernel
theorem dX6_rule_35 : decode cX6_rule 35 = .ok (.sipush 999, 3) := by decide +kernel
theorem dX6_rule_38 : decode cX6_rule 38 = .ok (.invokestatic 81, 3) := by decide +kernel
theorem dX6_rule_41 : decode cX6_rule 41 = .ok (.ifCond .ne 7, 3) := by decide +kernel
theorem dX6_rule_44 : decode cX6_rule 44 = .ok (.iconst 2, 1) := by decide +kernel
theorem dX6_rule_45 : decode cX6_rule 45 = .ok (.goto 17, 3) := by decide +kernel
theorem dX6_rule_48 : decode cX6_rule 48 = .ok (.aload_n 0, 1) := by decide +kernel
theorem dX6_rule_49 : decode cX6_rule 49 = .ok (.getfield 155, 3) := by decide +kernel
theorem dX6_rule_52 : decode cX6_rule 52 = .ok (.bipush 8, 2) := by decide +kernel
theorem dX6_rule_54 : decode cX6_rule 54 = .ok (.if_icmp .ne 7, 3) := by decide +kernel
theorem dX6_rule_57 : decode cX6_rule 57 = .ok (.iconst 3, 1) := by decide +kernel
theorem dX6_rule_58 : decode cX6_rule 58 = .ok (.goto 4, 3) := by decide +kernel
theorem dX6_rule_61 : decode cX6_rule 61 = .ok (.iconst 0, 1) := by decide +kernel
theorem dX6_rule_62 : decode cX6_rule 62 = .ok (.putfield 78, 3) := by decide +kernel
theorem dX6_rule_65 : decode cX6_rule 65 = .ok (.aload_n 0, 1) := by decide +kernel
theorem dX6_rule_66 : decode cX6_rule 66 = .ok (.getfield 78, 3) := by decide +kernel
theorem dX6_rule_69 : decode cX6_rule 69 = .ok (.ifCond .le 5, 3) := by decide +kernel
theorem dX6_rule_72 : decode cX6_rule 72 = .ok (.iconst 0, 1) := by decide +kernel
theorem dX6_rule_73 : decode cX6_rule 73 = .ok (.ireturn, 1) := by decide +kernel
theorem dX6_rule_74 : decode cX6_rule 74 = .ok (.aload_n 0, 1) := by decide +kernel
theorem dX6_rule_75 : decode cX6_rule 75 = .ok (.getfield 41, 3) := by decide +kernel
theorem dX6_rule_78 : decode cX6_rule 78 = .ok (.aload_n 0, 1) := by decide +kernel
theorem dX6_rule_79 : decode cX6_rule 79 = .ok (.getfield 155, 3) := by decide +kernel
theorem dX6_rule_82 : decode cX6_rule 82 = .ok (.iload_n 1, 1) := by decide +kernel
theorem dX6_rule_83 : decode cX6_rule 83 = .ok (.iastore, 1) := by decide +kernel
theorem dX6_rule_84 : decode cX6_rule 84 = .ok (.aload_n 0, 1) := by decide +kernel
theorem dX6_rule_85 : decode cX6_rule 85 = .ok (.getfield 44, 3) := by decide +kernel
theorem dX6_rule_88 : decode cX6_rule 88 = .ok (.aload_n 0, 1) := by decide +kernel
theorem dX6_rule_89 : decode cX6_rule 89 = .ok (.getfield 155, 3) := by decide +kernel
theorem dX6_rule_92 : decode cX6_rule 92 = .ok (.iload_n 2, 1) := by decide +kernel
theorem dX6_rule_93 : decode cX6_rule 93 = .ok (.iastore, 1) := by decide +kernel
theorem dX6_rule_94 : decode cX6_rule 94 = .ok (.aload_n 0, 1) := by decide +kernel
theorem dX6_rule_95 : decode cX6_rule 95 = .ok (.getfield 47, 3) := by decide +kernel
theorem dX6_rule_98 : decode cX6_rule 98 = .ok (.aload_n 0, 1) := by decide +kernel
theorem dX6_rule_99 : decode cX6_rule 99 = .ok (.getfield 155, 3) := by decide +kernel
theorem dX6_rule_102 : decode cX6_rule 102 = .ok (.iload_n 3, 1) := by decide +kernel
theorem dX6_rule_103 : decode cX6_rule 103 = .ok (.iastore, 1) := by decide +kernel
theorem dX6_rule_104 : decode cX6_rule 104 = .ok (.aload_n 0, 1) := by decide +kernel
theorem dX6_rule_105 : decode cX6_rule 105 = .ok (.getfield 50, 3) := by decide +kernel
theorem dX6_rule_108 : decode cX6_rule 108 = .ok (.aload_n 0, 1) := by decide +kernel
theorem dX6_rule_109 : decode cX6_rule 109 = .ok (.getfield 155, 3) := by decide +kernel
theorem dX6_rule_112 : decode cX6_rule 112 = .ok (.iload 4, 2) := by decide +kernel
theorem dX6_rule_114 : decode cX6_rule 114 = .ok (.iastore, 1) := by decide +kernel
theorem dX6_rule_115 : decode cX6_rule 115 = .ok (.aload_n 0, 1) := by decide +kernel
theorem dX6_rule_116 : decode cX6_rule 116 = .ok (.dup, 1) := by decide +kernel
theorem dX6_rule_117 : decode cX6_rule 117 = .ok (.getfield 155, 3) := by decide +kernel
theorem dX6_rule_120 : decode cX6_rule 120 = .ok (.iconst 1, 1) := by decide +kernel
theorem dX6_rule_121 : decode cX6_rule 121 = .ok (.iadd, 1) := by decide +kernel
theorem dX6_rule_122 : decode cX6_rule 122 = .ok (.putfield 155, 3) := by decide +kernel
theorem dX6_rule_125 : decode cX6_rule 125 = .ok (.aload_n 0, 1) := by decide +kernel
theorem dX6_rule_126 : decode cX6_rule 126 = .ok (.getfield 155, 3) := by decide +kernel
theorem dX6_rule_129 : decode cX6_rule 129 = .ok (.iconst 1, 1) := by decide +kernel
theorem dX6_rule_130 : decode cX6_rule 130 = .ok (.isub, 1) := by decide +kernel
theorem dX6_rule_131 : decode cX6_rule 131 = .ok (.ireturn, 1) := by decide +kernel
set_option maxRecDepth 20000 in
theorem ggX6_tighten_X6_in : GoodIn wsX6_tighten wsX6_in := goodIn_r _ [10] (by decide +kernel) (by decide +kernel)
set_option maxRecDepth 20000 in
theorem gX6_tighten_X6_in : GoodIn wsX6_tighten (va_wsS RX6 81 yX6_in wsX6_in) := goodIn_app (goodIn_of _ (by decide +kernel)) ggX6_tighten_X6_in
set_option maxRecDepth 20000 in
theorem ggX6_tighten_X6_blocksOf : GoodIn wsX6_tighten wsX6_blocksOf := goodIn_r _ [14, 15, 1, 16, 17, 18, 19, 20, 21, 9, 22, 23, 24, 25, 26, 27, 3, 4, 7, 8, 10, 28, 29, 30, 31, 32, 33, 34, 35, 36, 37, 38, 39, 40, 41, 42, 43, 44, 45, 46, 47, 48, 49, 50, 51, 52, 53, 54, 55, 56, 57, 58, 59, 60, 61, 62, 63, 64] (by decide +kernel) (by decide +kernel)
set_option maxRecDepth 20000 in
theorem gX6_tighten_X6_blocksOf : GoodIn wsX6_tighten (wsV RX6 173 RX6 yX6_blocksOf wsX6_blocksOf) := goodIn_app (goodIn_of _ (by decide +kernel)) ggX6_tighten_X6_blocksOf
theorem dX6_tighten_0 : decode cX6_tighten 0 = .ok (.iload_n 1, 1) := by decide +kernel
theorem dX6_tighten_1 : decode cX6_tighten 1 = .ok (.iconst 0, 1) := by decide +kernel
theorem dX6_tighten_2 : decode cX6_tighten 2 = .ok (.aload_n 0, 1) := by decide +kernel
theorem dX6_tighten_3 : decode cX6_tighten 3 = .ok (.getfield 155, 3) := by decide +kernel
theorem dX6_tighten_6 : decode cX6_tighten 6 = .ok (.iconst 1, 1) := by decide +kernel
theorem dX6_tighten_7 : decode cX6_tighten 7 = .ok (.isub, 1) := by decide +kernel
theorem dX6_tighten_8 : decode cX6_tighten 8 = .ok (.invokestatic 81, 3) := by decide +kernel
theorem dX6_tighten_11 : decode cX6_tighten 11 = .ok (.ifCond .ne 10, 3) := by decide +kernel
theorem dX6_tighten_14 : decode cX6_tighten 14 = .ok (.aload_n 0, 1) := by decide +kernel
theorem dX6_tighten_15 : decode cX6_tighten 15 = .ok (.iconst 1, 1) := by decide +kernel
theorem dX6_tighten_16 : decode cX6_tighten 16 = .ok (.putfield 78, 3) := by decide +kernel
theorem dX6_tighten_19 : decode cX6_tighten 19 = .ok (.iconst 0, 1) := by decide +kernel
theorem dX6_tighten_20 : decode cX6_tighten 20 = .ok (.ireturn, 1) := by decide +kernel
theorem dX6_tighten_21 : decode cX6_tighten 21 = .ok (.aload_n 0, 1) := by decide +kernel
theorem dX6_tighten_22 : decode cX6_tighten 22 = .ok (.iload_n 2, 1) := by decide +kernel
theorem dX6_tighten_23 : decode cX6_tighten 23 = .ok (.aload_n 0, 1) := by decide +kernel
theorem dX6_tighten_24 : decode cX6_tighten 24 = .ok (.getfield 47, 3) := by decide +kernel
theorem dX6_tighten_27 : decode cX6_tighten 27 = .ok (.iload_n 1, 1) := by decide +kernel
theorem dX6_tighten_28 : decode cX6_tighten 28 = .ok (.iaload, 1) := by decide +kernel
theorem dX6_tighten_29 : decode cX6_tighten 29 = .ok (.if_icmp .lt 18, 3) := by decide +kernel
theorem dX6_tighten_32 : decode cX6_tighten 32 = .ok (.iload_n 3, 1) := by decide +kernel
theorem dX6_tighten_33 : decode cX6_tighten 33 = .ok (.aload_n 0, 1) := by decide +kernel
theorem dX6_tighten_34 : decode cX6_tighten 34 = .ok (.getfield 50, 3) := by decide +kernel
theorem dX6_tighten_37 : decode cX6_tighten 37 = .ok (.iload_n 1, 1) := by decide +kernel
theorem dX6_tighten_38 : decode cX6_tighten 38 = .ok (.iaload, 1) := by decide +kernel
theorem dX6_tighten_39 : decode cX6_tighten 39 = .ok (.if_icmp .gt 8, 3) := by decide +kernel
theorem dX6_tighten_42 : decode cX6_tighten 42 = .ok (.iload_n 2, 1) := by decide +kernel
theorem dX6_tighten_43 : decode cX6_tighten 43 = .ok (.iload_n 3, 1) := by decide +kernel
theorem dX6_tighten_44 : decode cX6_tighten 44 = .ok (.if_icmp .le 7, 3) := by decide +kernel
theorem dX6_tighten_47 : decode cX6_tighten 47 = .ok (.iconst 2, 1) := by decide +kernel
theorem dX6_tighten_48 : decode cX6_tighten 48 = .ok (.goto 4, 3) := by decide +kernel
theorem dX6_tighten_51 : decode cX6_tighten 51 = .ok (.iconst 0, 1) := by decide +kernel
theorem dX6_tighten_52 : decode cX6_tighten 52 = .ok (.putfield 78, 3) := by decide +kernel
theorem dX6_tighten_55 : decode cX6_tighten 55 = .ok (.aload_n 0, 1) := by decide +kernel
theorem dX6_tighten_56 : decode cX6_tighten 56 = .ok (.getfield 78, 3) := by decide +kernel
theorem dX6_tighten_59 : decode cX6_tighten 59 = .ok (.ifCond .le 5, 3) := by decide +kernel
theorem dX6_tighten_62 : decode cX6_tighten 62 = .ok (.iconst 0, 1) := by decide +kernel
theorem dX6_tighten_63 : decode cX6_tighten 63 = .ok (.ireturn, 1) := by decide +kernel
theorem dX6_tighten_64 : decode cX6_tighten 64 = .ok (.iconst 0, 1) := by decide +kernel
theorem dX6_tighten_65 : decode cX6_tighten 65 = .ok (.istore 4, 2) := by decide +kernel
theorem dX6_tighten_67 : decode cX6_tighten 67 = .ok (.iload 4, 2) := by decide +kernel
theorem dX6_tighten_69 : decode cX6_tighten 69 = .ok (.aload_n 0, 1) := by decide +kernel
theorem dX6_tighten_70 : decode cX6_tighten 70 = .ok (.getfield 7, 3) := by decide +kernel
theorem dX6_tighten_73 : decode cX6_tighten 73 = .ok (.if_icmp .ge 30, 3) := by decide +kernel
theorem dX6_tighten_76 : decode cX6_tighten 76 = .ok (.aload_n 0, 1) := by decide +kernel
theorem dX6_tighten_77 : decode cX6_tighten 77 = .ok (.getfield 75, 3) := by decide +kernel
theorem dX6_tighten_80 : decode cX6_tighten 80 = .ok (.iload 4, 2) := by decide +kernel
theorem dX6_tighten_82 : decode cX6_tighten 82 = .ok (.aload_n 0, 1) := by decide +kernel
theorem dX6_tighten_83 : decode cX6_tighten 83 = .ok (.iload 4, 2) := by decide +kernel
theorem dX6_tighten_85 : decode cX6_tighten 85 = .ok (.invokevirtual 173, 3) := by decide +kernel
theorem dX6_tighten_88 : decode cX6_tighten 88 = .ok (.ifCond .le 7, 3) := by decide +kernel
theorem dX6_tighten_91 : decode cX6_tighten 91 = .ok (.iconst 1, 1) := by decide +kernel
theorem dX6_tighten_92 : decode cX6_tighten 92 = .ok (.goto 4, 3) := by decide +kernel
theorem dX6_tighten_95 : decode cX6_tighten 95 = .ok (.iconst 0, 1) := by decide +kernel
theorem dX6_tighten_96 : decode cX6_tighten 96 = .ok (.bastore, 1) := by decide +kernel
theorem dX6_tighten_97 : decode cX6_tighten 97 = .ok (.iinc 4 1, 3) := by decide +kernel
theorem dX6_tighten_100 : decode cX6_tighten 100 = .ok (.goto (-33), 3) := by decide +kernel
theorem dX6_tighten_103 : decode cX6_tighten 103 = .ok (.aload_n 0, 1) := by decide +kernel
theorem dX6_tighten_104 : decode cX6_tighten 104 = .ok (.getfield 47, 3) := by decide +kernel
theorem dX6_tighten_107 : decode cX6_tighten 107 = .ok (.iload_n 1, 1) := by decide +kernel
theorem dX6_tighten_108 : decode cX6_tighten 108 = .ok (.iload_n 2, 1) := by decide +kernel
theorem dX6_tighten_109 : decode cX6_tighten 109 = .ok (.iastore, 1) := by decide +kernel
theorem dX6_tighten_110 : decode cX6_tighten 110 = .ok (.aload_n 0, 1) := by decide +kernel
theorem dX6_tighten_111 : decode cX6_tighten 111 = .ok (.getfield 50, 3) := by decide +kernel
theorem dX6_tighten_114 : decode cX6_tighten 114 = .ok (.iload_n 1, 1) := by decide +kernel
theorem dX6_tighten_115 : decode cX6_tighten 115 = .ok (.iload_n 3, 1) := by decide +kernel
theorem dX6_tighten_116 : decode cX6_tighten 116 = .ok (.iastore, 1) := by decide +kernel
theorem dX6_tighten_117 : decode cX6_tighten 117 = .ok (.iconst 0, 1) := by decide +kernel
theorem dX6_tighten_118 : decode cX6_tighten 118 = .ok (.istore 4, 2) := by decide +kernel
theorem dX6_tighten_120 : decode cX6_tighten 120 = .ok (.iconst 0, 1) := by decide +kernel
theorem dX6_tighten_121 : decode cX6_tighten 121 = .ok (.istore 5, 2) := by decide +kernel
theorem dX6_tighten_123 : decode cX6_tighten 123 = .ok (.iload 5, 2) := by decide +kernel
theorem dX6_tighten_125 : decode cX6_tighten 125 = .ok (.aload_n 0, 1) := by decide +kernel
theorem dX6_tighten_126 : decode cX6_tighten 126 = .ok (.getfield 7, 3) := by decide +kernel
theorem dX6_tighten_129 : decode cX6_tighten 129 = .ok (.if_icmp .ge 38, 3) := by decide +kernel
theorem dX6_tighten_132 : decode cX6_tighten 132 = .ok (.iload 4, 2) := by decide +kernel
theorem dX6_tighten_134 : decode cX6_tighten 134 = .ok (.aload_n 0, 1) := by decide +kernel
theorem dX6_tighten_135 : decode cX6_tighten 135 = .ok (.getfield 75, 3) := by decide +kernel
theorem dX6_tighten_138 : decode cX6_tighten 138 = .ok (.iload 5, 2) := by decide +kernel
theorem dX6_tighten_140 : decode cX6_tighten 140 = .ok (.baload, 1) := by decide +kernel
theorem dX6_tighten_141 : decode cX6_tighten 141 = .ok (.ifCond .ne 16, 3) := by decide +kernel
theorem dX6_tighten_144 : decode cX6_tighten 144 = .ok (.aload_n 0, 1) := by decide +kernel
theorem dX6_tighten_145 : decode cX6_tighten 145 = .ok (.iload 5, 2) := by decide +kernel
theorem dX6_tighten_147 : decode cX6_tighten 147 = .ok (.invokevirtual 173, 3) := by decide +kernel
theorem dX6_tighten_150 : decode cX6_tighten 150 = .ok (.ifCond .le 7, 3) := by decide +kernel
theorem dX6_tighten_153 : decode cX6_tighten 153 = .ok (.iconst 1, 1) := by decide +kernel
theorem dX6_tighten_154 : decode cX6_tighten 154 = .ok (.goto 4, 3) := by decide +kernel
theorem dX6_tighten_157 : decode cX6_tighten 157 = .ok (.iconst 0, 1) := by decide +kernel
theorem dX6_tighten_158 : decode cX6_tighten 158 = .ok (.iadd, 1) := by decide +kernel
theorem dX6_tighten_159 : decode cX6_tighten 159 = .ok (.istore 4, 2) := by decide +kernel
theorem dX6_tighten_161 : decode cX6_tighten 161 = .ok (.iinc 5 1, 3) := by decide +kernel
theorem dX6_tighten_164 : decode cX6_tighten 164 = .ok (.goto (-41), 3) := by decide +kernel
theorem dX6_tighten_167 : decode cX6_tighten 167 = .ok (.iload 4, 2) := by decide +kernel
theorem dX6_tighten_169 : decode cX6_tighten 169 = .ok (.ireturn, 1) := by decide +kernel
set_option maxRecDepth 20000 in
theorem ggX6_waive_X6_in : GoodIn wsX6_waive wsX6_in := goodIn_r _ [12] (by decide +kernel) (by decide +kernel)
set_option maxRecDepth 20000 in
theorem gX6_waive_X6_in : GoodIn wsX6_waive (va_wsS RX6 81 yX6_in wsX6_in) := goodIn_app (goodIn_of _ (by decide +kernel)) ggX6_waive_X6_in
set_option maxRecDepth 20000 in
theorem ggX6_waive_X6_isSlide : GoodIn wsX6_waive wsX6_isSlide := goodIn_r _ [16, 17, 9, 10, 11, 12, 18, 19, 20, 21, 22, 23, 24, 25, 26, 27, 28, 29, 30, 31, 32, 33, 34, 35, 36, 37, 38, 39, 40, 41, 42, 43, 44, 45] (by decide +kernel) (by decide +kernel)
set_option maxRecDepth 20000 in
theorem gX6_waive_X6_isSlide : GoodIn wsX6_waive (wsV RX6 113 RX6 yX6_isSlide wsX6_isSlide) := goodIn_app (goodIn_of _ (by decide +kernel)) ggX6_waive_X6_isSlide
theorem dX6_waive_0 : decode cX6_waive 0 = .ok (.aload_n 0, 1) := by decide +kernel
theorem dX6_waive_1 : decode cX6_waive 1 = .ok (.iload_n 1, 1) := by decide +kernel
theorem dX6_waive_2 : decode cX6_waive 2 = .ok (.iconst 0, 1) := by decide +kernel
theorem dX6_waive_3 : decode cX6_waive 3 = .ok (.aload_n 0, 1) := by decide +kernel
theorem dX6_waive_4 : decode cX6_waive 4 = .ok (.getfield 155, 3) := by decide +kernel
theorem dX6_waive_7 : decode cX6_waive 7 = .ok (.iconst 1, 1) := by decide +kernel
theorem dX6_waive_8 : decode cX6_waive 8 = .ok (.isub, 1) := by decide +kernel
theorem dX6_waive_9 : decode cX6_waive 9 = .ok (.invokestatic 81, 3) := by decide +kernel
theorem dX6_waive_12 : decode cX6_waive 12 = .ok (.ifCond .eq 11, 3) := by decide +kernel
theorem dX6_waive_15 : decode cX6_waive 15 = .ok (.aload_n 0, 1) := by decide +kernel
theorem dX6_waive_16 : decode cX6_waive 16 = .ok (.iload_n 2, 1) := by decide +kernel
theorem dX6_waive_17 : decode cX6_waive 17 = .ok (.invokevirtual 113, 3) := by decide +kernel
theorem dX6_waive_20 : decode cX6_waive 20 = .ok (.ifCond .ne 7, 3) := by decide +kernel
theorem dX6_waive_23 : decode cX6_waive 23 = .ok (.iconst 1, 1) := by decide +kernel
theorem dX6_waive_24 : decode cX6_waive 24 = .ok (.goto 45, 3) := by decide +kernel
theorem dX6_waive_27 : decode cX6_waive 27 = .ok (.iload_n 3, 1) := by decide +kernel
theorem dX6_waive_28 : decode cX6_waive 28 = .ok (.aload_n 0, 1) := by decide +kernel
theorem dX6_waive_29 : decode cX6_waive 29 = .ok (.getfield 164, 3) := by decide +kernel
theorem dX6_waive_32 : decode cX6_waive 32 = .ok (.sipush 999, 3) := by decide +kernel
theorem dX6_waive_35 : decode cX6_waive 35 = .ok (.invokestatic 81, 3) := by decide +kernel
theorem dX6_waive_38 : decode cX6_waive 38 = .ok (.ifCond .ne 7, 3) := by decide +kernel
theorem dX6_waive_41 : decode cX6_waive 41 = .ok (.iconst 2, 1) := by decide +kernel
theorem dX6_waive_42 : decode cX6_waive 42 = .ok (.goto 27, 3) := by decide +kernel
theorem dX6_waive_45 : decode cX6_waive 45 = .ok (.aload_n 0, 1) := by decide +kernel
theorem dX6_waive_46 : decode cX6_waive 46 = .ok (.getfield 41, 3) := by decide +kernel
theorem dX6_waive_49 : decode cX6_waive 49 = .ok (.iload_n 1, 1) := by decide +kernel
theorem dX6_waive_50 : decode cX6_waive 50 = .ok (.iaload, 1) := by decide +kernel
theorem dX6_waive_51 : decode cX6_waive 51 = .ok (.iconst 1, 1) := by decide +kernel
theorem dX6_waive_52 : decode cX6_waive 52 = .ok (.if_icmp .ne 12, 3) := by decide +kernel
theorem dX6_waive_55 : decode cX6_waive 55 = .ok (.aload_n 0, 1) := by decide +kernel
theorem dX6_waive_56 : decode cX6_waive 56 = .ok (.getfield 161, 3) := by decide +kernel
theorem dX6_waive_59 : decode cX6_waive 59 = .ok (.bipush 12, 2) := by decide +kernel
theorem dX6_waive_61 : decode cX6_waive 61 = .ok (.if_icmp .ne 7, 3) := by decide +kernel
theorem dX6_waive_64 : decode cX6_waive 64 = .ok (.iconst 3, 1) := by decide +kernel
theorem dX6_waive_65 : decode cX6_waive 65 = .ok (.goto 4, 3) := by decide +kernel
theorem dX6_waive_68 : decode cX6_waive 68 = .ok (.iconst 0, 1) := by decide +kernel
theorem dX6_waive_69 : decode cX6_waive 69 = .ok (.putfield 78, 3) := by decide +kernel
theorem dX6_waive_72 : decode cX6_waive 72 = .ok (.aload_n 0, 1) := by decide +kernel
theorem dX6_waive_73 : decode cX6_waive 73 = .ok (.getfield 78, 3) := by decide +kernel
theorem dX6_waive_76 : decode cX6_waive 76 = .ok (.ifCond .le 5, 3) := by decide +kernel
theorem dX6_waive_79 : decode cX6_waive 79 = .ok (.iconst 0, 1) := by decide +kernel
theorem dX6_waive_80 : decode cX6_waive 80 = .ok (.ireturn, 1) := by decide +kernel
theorem dX6_waive_81 : decode cX6_waive 81 = .ok (.aload_n 0, 1) := by decide +kernel
theorem dX6_waive_82 : decode cX6_waive 82 = .ok (.getfield 53, 3) := by decide +kernel
theorem dX6_waive_85 : decode cX6_waive 85 = .ok (.aload_n 0, 1) := by decide +kernel
theorem dX6_waive_86 : decode cX6_waive 86 = .ok (.getfield 161, 3) := by decide +kernel
theorem dX6_waive_89 : decode cX6_waive 89 = .ok (.iload_n 1, 1) := by decide +kernel
theorem dX6_waive_90 : decode cX6_waive 90 = .ok (.iastore, 1) := by decide +kernel
theorem dX6_waive_91 : decode cX6_waive 91 = .ok (.aload_n 0, 1) := by decide +kernel
theorem dX6_waive_92 : decode cX6_waive 92 = .ok (.getfield 56, 3) := by decide +kernel
theorem dX6_waive_95 : decode cX6_waive 95 = .ok (.aload_n 0, 1) := by decide +kernel
theorem dX6_waive_96 : decode cX6_waive 96 = .ok (.getfield 161, 3) := by decide +kernel
theorem dX6_waive_99 : decode cX6_waive 99 = .ok (.iload_n 2, 1) := by decide +kernel
theorem dX6_waive_100 : decode cX6_waive 100 = .ok (.iastore, 1) := by decide +kernel
theorem dX6_waive_101 : decode cX6_waive 101 = .ok (.aload_n 0, 1) := by decide +kernel
theorem dX6_waive_102 : decode cX6_waive 102 = .ok (.getfield 59, 3) := by decide +kernel
theorem dX6_waive_105 : decode cX6_waive 105 = .ok (.aload_n 0, 1) := by decide +kernel
theorem dX6_waive_106 : decode cX6_waive 106 = .ok (.getfield 161, 3) := by decide +kernel
theorem dX6_waive_109 : decode cX6_waive 109 = .ok (.iload_n 3, 1) := by decide +kernel
theorem dX6_waive_110 : decode cX6_waive 110 = .ok (.iastore, 1) := by decide +kernel
theorem dX6_waive_111 : decode cX6_waive 111 = .ok (.aload_n 0, 1) := by decide +kernel
theorem dX6_waive_112 : decode cX6_waive 112 = .ok (.dup, 1) := by decide +kernel
theorem dX6_waive_113 : decode cX6_waive 113 = .ok (.getfield 161, 3) := by decide +kernel
theorem dX6_waive_116 : decode cX6_waive 116 = .ok (.iconst 1, 1) := by decide +kernel
theorem dX6_waive_117 : decode cX6_waive 117 = .ok (.iadd, 1) := by decide +kernel
theorem dX6_waive_118 : decode cX6_waive 118 = .ok (.putfield 161, 3) := by decide +kernel
theorem dX6_waive_121 : decode cX6_waive 121 = .ok (.aload_n 0, 1) := by decide +kernel
theorem dX6_waive_122 : decode cX6_waive 122 = .ok (.getfield 161, 3) := by decide +kernel
theorem dX6_waive_125 : decode cX6_waive 125 = .ok (.iconst 1, 1) := by decide +kernel
theorem dX6_waive_126 : decode cX6_waive 126 = .ok (.isub, 1) := by decide +kernel
theorem dX6_waive_127 : decode cX6_waive 127 = .ok (.ireturn, 1) := by decide +kernel
set_option maxRecDepth 20000 in
theorem ggX6_blocks_X6_isVersion : GoodIn wsX6_blocks wsX6_isVersion := goodIn_r _ [6, 7, 8, 9, 5, 10, 40, 41, 42, 43, 44, 45, 46, 47, 48, 49, 50, 51, 52, 53, 54, 55, 56, 57, 58, 59, 60, 61, 62, 63, 64, 65, 66, 67] (by decide +kernel) (by decide +kernel)
set_option maxRecDepth 20000 in
theorem gX6_blocks_X6_isVersion : GoodIn wsX6_blocks (wsV RX6 89 RX6 yX6_isVersion wsX6_isVersion) := goodIn_app (goodIn_of _ (by decide +kernel)) ggX6_blocks_X6_isVersion
set_option maxRecDepth 20000 in
theorem ggX6_blocks_X6_blocksOf : GoodIn wsX6_blocks wsX6_blocksOf := goodIn_r _ [14, 15, 16, 17, 18, 19, 20, 21, 22, 5, 23, 24, 25, 26, 27, 28, 29, 30, 8, 9, 10, 31, 32, 33, 34, 35, 36, 37, 38, 39, 40, 41, 42, 43, 44, 45, 46, 47, 48, 49, 50, 51, 52, 53, 54, 55, 56, 57, 58, 59, 60, 61, 62, 63, 64, 65, 66, 67] (by decide +kernel) (by decide +kernel)
set_option maxRecDepth 20000 in
theorem gX6_blocks_X6_blocksOf : GoodIn wsX6_blocks (wsV RX6 173 RX6 yX6_blocksOf wsX6_blocksOf) := goodIn_app (goodIn_of _ (by decide +kernel)) ggX6_blocks_X6_blocksOf
theorem dX6_blocks_0 : decode cX6_blocks 0 = .ok (.aload_n 0, 1) := by decide +kernel
theorem dX6_blocks_1 : decode cX6_blocks 1 = .ok (.aload_n 0, 1) := by decide +kernel
theorem dX6_blocks_2 : decode cX6_blocks 2 = .ok (.iload_n 1, 1) := by decide +kernel
theorem dX6_blocks_3 : decode cX6_blocks 3 = .ok (.invokevirtual 89, 3) := by decide +kernel
theorem dX6_blocks_6 : decode cX6_blocks 6 = .ok (.ifCond .eq 7, 3) := by decide +kernel
theorem dX6_blocks_9 : decode cX6_blocks 9 = .ok (.iconst 0, 1) := by decide +kernel
theorem dX6_blocks_10 : decode cX6_blocks 10 = .ok (.goto 4, 3) := by decide +kernel
theorem dX6_blocks_13 : decode cX6_blocks 13 = .ok (.iconst 1, 1) := by decide +kernel
theorem dX6_blocks_14 : decode cX6_blocks 14 = .ok (.putfield 78, 3) := by decide +kernel
theorem dX6_blocks_17 : decode cX6_blocks 17 = .ok (.aload_n 0, 1) := by decide +kernel
theorem dX6_blocks_18 : decode cX6_blocks 18 = .ok (.getfield 78, 3) := by decide +kernel
theorem dX6_blocks_21 : decode cX6_blocks 21 = .ok (.ifCond .le 7, 3) := by decide +kernel
theorem dX6_blocks_24 : decode cX6_blocks 24 = .ok (.iconst 0, 1) := by decide +kernel
theorem dX6_blocks_25 : decode cX6_blocks 25 = .ok (.goto 8, 3) := by decide +kernel
theorem dX6_blocks_28 : decode cX6_blocks 28 = .ok (.aload_n 0, 1) := by decide +kernel
theorem dX6_blocks_29 : decode cX6_blocks 29 = .ok (.iload_n 1, 1) := by decide +kernel
theorem dX6_blocks_30 : decode cX6_blocks 30 = .ok (.invokevirtual 173, 3) := by decide +kernel
theorem dX6_blocks_33 : decode cX6_blocks 33 = .ok (.ireturn, 1) := by decide +kernel
set_option maxRecDepth 20000 in
theorem ggX6_warnings_X6_isVersion : GoodIn wsX6_warnings wsX6_isVersion := goodIn_r _ [11, 12, 13, 14, 10, 15, 22, 23, 24, 25, 26, 27, 28, 29, 30, 31, 32, 33, 34, 35, 36, 37, 38, 39, 40, 41, 42, 43, 44, 45, 46, 47, 48, 49] (by decide +kernel) (by decide +kernel)
set_option maxRecDepth 20000 in
theorem gX6_warnings_X6_isVersion : GoodIn wsX6_warnings (wsV RX6 89 RX6 yX6_isVersion wsX6_isVersion) := goodIn_app (goodIn_of _ (by decide +kernel)) ggX6_warnings_X6_isVersion
set_option maxRecDepth 20000 in
theorem ggX6_warnings_X6_breaks : GoodIn wsX6_warnings wsX6_breaks := goodIn_r _ [19, 20, 21, 13, 14, 10, 15, 22, 23, 24, 25, 26, 27, 28, 29, 30, 31, 32, 33, 34, 35, 36, 37, 38, 39, 40, 41, 42, 43, 44, 45, 46, 47, 48, 49] (by decide +kernel) (by decide +kernel)
set_option maxRecDepth 20000 in
theorem gX6_warnings_X6_breaks : GoodIn wsX6_warnings (wsV RX6 167 RX6 yX6_breaks wsX6_breaks) := goodIn_app (goodIn_of _ (by decide +kernel)) ggX6_warnings_X6_breaks
theorem dX6_warnings_0 : decode cX6_warnings 0 = .ok (.aload_n 0, 1) := by decide +kernel
theorem dX6_warnings_1 : decode cX6_warnings 1 = .ok (.aload_n 0, 1) := by decide +kernel
theorem dX6_warnings_2 : decode cX6_warnings 2 = .ok (.iload_n 1, 1) := by decide +kernel
theorem dX6_warnings_3 : decode cX6_warnings 3 = .ok (.invokevirtual 89, 3) := by decide +kernel
theorem dX6_warnings_6 : decode cX6_warnings 6 = .ok (.ifCond .eq 7, 3) := by decide +kernel
theorem dX6_warnings_9 : decode cX6_warnings 9 = .ok (.iconst 0, 1) := by decide +kernel
theorem dX6_warnings_10 : decode cX6_warnings 10 = .ok (.goto 4, 3) := by decide +kernel
theorem dX6_warnings_13 : decode cX6_warnings 13 = .ok (.iconst 1, 1) := by decide +kernel
theorem dX6_warnings_14 : decode cX6_warnings 14 = .ok (.putfield 78, 3) := by decide +kernel
theorem dX6_warnings_17 : decode cX6_warnings 17 = .ok (.iconst 0, 1) := by decide +kernel
theorem dX6_warnings_18 : decode cX6_warnings 18 = .ok (.istore_n 2, 1) := by decide +kernel
theorem dX6_warnings_19 : decode cX6_warnings 19 = .ok (.iconst 0, 1) := by decide +kernel
theorem dX6_warnings_20 : decode cX6_warnings 20 = .ok (.istore_n 3, 1) := by decide +kernel
theorem dX6_warnings_21 : decode cX6_warnings 21 = .ok (.aload_n 0, 1) := by decide +kernel
theorem dX6_warnings_22 : decode cX6_warnings 22 = .ok (.getfield 78, 3) := by decide +kernel
theorem dX6_warnings_25 : decode cX6_warnings 25 = .ok (.ifCond .ne 86, 3) := by decide +kernel
theorem dX6_warnings_28 : decode cX6_warnings 28 = .ok (.iload_n 3, 1) := by decide +kernel
theorem dX6_warnings_29 : decode cX6_warnings 29 = .ok (.aload_n 0, 1) := by decide +kernel
theorem dX6_warnings_30 : decode cX6_warnings 30 = .ok (.getfield 23, 3) := by decide +kernel
theorem dX6_warnings_33 : decode cX6_warnings 33 = .ok (.iload_n 1, 1) := by decide +kernel
theorem dX6_warnings_34 : decode cX6_warnings 34 = .ok (.iaload, 1) := by decide +kernel
theorem dX6_warnings_35 : decode cX6_warnings 35 = .ok (.if_icmp .ge 76, 3) := by decide +kernel
theorem dX6_warnings_38 : decode cX6_warnings 38 = .ok (.iconst 0, 1) := by decide +kernel
theorem dX6_warnings_39 : decode cX6_warnings 39 = .ok (.istore 4, 2) := by decide +kernel
theorem dX6_warnings_41 : decode cX6_warnings 41 = .ok (.iload 4, 2) := by decide +kernel
theorem dX6_warnings_43 : decode cX6_warnings 43 = .ok (.aload_n 0, 1) := by decide +kernel
theorem dX6_warnings_44 : decode cX6_warnings 44 = .ok (.getfield 155, 3) := by decide +kernel
theorem dX6_warnings_47 : decode cX6_warnings 47 = .ok (.if_icmp .ge 58, 3) := by decide +kernel
theorem dX6_warnings_50 : decode cX6_warnings 50 = .ok (.iload_n 2, 1) := by decide +kernel
theorem dX6_warnings_51 : decode cX6_warnings 51 = .ok (.aload_n 0, 1) := by decide +kernel
theorem dX6_warnings_52 : decode cX6_warnings 52 = .ok (.getfield 41, 3) := by decide +kernel
theorem dX6_warnings_55 : decode cX6_warnings 55 = .ok (.iload 4, 2) := by decide +kernel
theorem dX6_warnings_57 : decode cX6_warnings 57 = .ok (.iaload, 1) := by decide +kernel
theorem dX6_warnings_58 : decode cX6_warnings 58 = .ok (.iconst 2, 1) := by decide +kernel
theorem dX6_warnings_59 : decode cX6_warnings 59 = .ok (.if_icmp .ne 37, 3) := by decide +kernel
theorem dX6_warnings_62 : decode cX6_warnings 62 = .ok (.aload_n 0, 1) := by decide +kernel
theorem dX6_warnings_63 : decode cX6_warnings 63 = .ok (.iload 4, 2) := by decide +kernel
theorem dX6_warnings_65 : decode cX6_warnings 65 = .ok (.aload_n 0, 1) := by decide +kernel
theorem dX6_warnings_66 : decode cX6_warnings 66 = .ok (.getfield 29, 3) := by decide +kernel
theorem dX6_warnings_69 : decode cX6_warnings 69 = .ok (.iconst 4, 1) := by decide +kernel
theorem dX6_warnings_70 : decode cX6_warnings 70 = .ok (.bipush 8, 2) := by decide +kernel
theorem dX6_warnings_72 : decode cX6_warnings 72 = .ok (.iload_n 1, 1) := by decide +kernel
theorem dX6_warnings_73 : decode cX6_warnings 73 = .ok (.imul, 1) := by decide +kernel
theorem dX6_warnings_74 : decode cX6_warnings 74 = .ok (.iload_n 3, 1) := by decide +kernel
theorem dX6_warnings_75 : decode cX6_warnings 75 = .ok (.iadd, 1) := by decide +kernel
theorem dX6_warnings_76 : decode cX6_warnings 76 = .ok (.imul, 1) := by decide +kernel
theorem dX6_warnings_77 : decode cX6_warnings 77 = .ok (.aload_n 0, 1) := by decide +kernel
theorem dX6_warnings_78 : decode cX6_warnings 78 = .ok (.getfield 44, 3) := by decide +kernel
theorem dX6_warnings_81 : decode cX6_warnings 81 = .ok (.iload 4, 2) := by decide +kernel
theorem dX6_warnings_83 : decode cX6_warnings 83 = .ok (.iaload, 1) := by decide +kernel
theorem dX6_warnings_84 : decode cX6_warnings 84 = .ok (.iadd, 1) := by decide +kernel
theorem dX6_warnings_85 : decode cX6_warnings 85 = .ok (.iaload, 1) := by decide +kernel
theorem dX6_warnings_86 : decode cX6_warnings 86 = .ok (.invokevirtual 167, 3) := by decide +kernel
theorem dX6_warnings_89 : decode cX6_warnings 89 = .ok (.ifCond .eq 7, 3) := by decide +kernel
theorem dX6_warnings_92 : decode cX6_warnings 92 = .ok (.iconst 1, 1) := by decide +kernel
theorem dX6_warnings_93 : decode cX6_warnings 93 = .ok (.goto 4, 3) := by decide +kernel
theorem dX6_warnings_96 : decode cX6_warnings 96 = .ok (.iconst 0, 1) := by decide +kernel
theorem dX6_warnings_97 : decode cX6_warnings 97 = .ok (.iadd, 1) := by decide +kernel
theorem dX6_warnings_98 : decode cX6_warnings 98 = .ok (.istore_n 2, 1) := by decide +kernel
theorem dX6_warnings_99 : decode cX6_warnings 99 = .ok (.iinc 4 1, 3) := by decide +kernel
theorem dX6_warnings_102 : decode cX6_warnings 102 = .ok (.goto (-61), 3) := by decide +kernel
theorem dX6_warnings_105 : decode cX6_warnings 105 = .ok (.iinc 3 1, 3) := by decide +kernel
theorem dX6_warnings_108 : decode cX6_warnings 108 = .ok (.goto (-87), 3) := by decide +kernel
theorem dX6_warnings_111 : decode cX6_warnings 111 = .ok (.iload_n 2, 1) := by decide +kernel
theorem dX6_warnings_112 : decode cX6_warnings 112 = .ok (.ireturn, 1) := by decide +kernel
set_option maxRecDepth 20000 in
theorem ggX6_firstBlock_X6_isVersion : GoodIn wsX6_firstBlock wsX6_isVersion := goodIn_r _ [11, 12, 13, 14, 10, 15, 36, 37, 38, 39, 40, 41, 42, 43, 44, 45, 46, 47, 48, 49, 50, 51, 52, 53, 54, 55, 56, 57, 58, 59, 60, 61, 62, 63] (by decide +kernel) (by decide +kernel)
set_option maxRecDepth 20000 in
theorem gX6_firstBlock_X6_isVersion : GoodIn wsX6_firstBlock (wsV RX6 89 RX6 yX6_isVersion wsX6_isVersion) := goodIn_app (goodIn_of _ (by decide +kernel)) ggX6_firstBlock_X6_isVersion
set_option maxRecDepth 20000 in
theorem ggX6_firstBlock_X6_isBlocked : GoodIn wsX6_firstBlock wsX6_isBlocked := goodIn_r _ [19, 20, 21, 22, 23, 10, 24, 25, 26, 13, 14, 15, 27, 28, 29, 30, 31, 32, 33, 34, 35, 36, 37, 38, 39, 40, 41, 42, 43, 44, 45, 46, 47, 48, 49, 50, 51, 52, 53, 54, 55, 56, 57, 58, 59, 60, 61, 62, 63] (by decide +kernel) (by decide +kernel)
set_option maxRecDepth 20000 in
theorem gX6_firstBlock_X6_isBlocked : GoodIn wsX6_firstBlock (wsV RX6 158 RX6 yX6_isBlocked wsX6_isBlocked) := goodIn_app (goodIn_of _ (by decide +kernel)) ggX6_firstBlock_X6_isBlocked
theorem dX6_firstBlock_0 : decode cX6_firstBlock 0 = .ok (.aload_n 0, 1) := by decide +kernel
theorem dX6_firstBlock_1 : decode cX6_firstBlock 1 = .ok (.aload_n 0, 1) := by decide +kernel
theorem dX6_firstBlock_2 : decode cX6_firstBlock 2 = .ok (.iload_n 1, 1) := by decide +kernel
theorem dX6_firstBlock_3 : decode cX6_firstBlock 3 = .ok (.invokevirtual 89, 3) := by decide +kernel
theorem dX6_firstBlock_6 : decode cX6_firstBlock 6 = .ok (.ifCond .eq 7, 3) := by decide +kernel
theorem dX6_firstBlock_9 : decode cX6_firstBlock 9 = .ok (.iconst 0, 1) := by decide +kernel
theorem dX6_firstBlock_10 : decode cX6_firstBlock 10 = .ok (.goto 4, 3) := by decide +kernel
theorem dX6_firstBlock_13 : decode cX6_firstBlock 13 = .ok (.iconst 1, 1) := by decide +kernel
theorem dX6_firstBlock_14 : decode cX6_firstBlock 14 = .ok (.putfield 78, 3) := by decide +kernel
theorem dX6_firstBlock_17 : decode cX6_firstBlock 17 = .ok (.iconst 0, 1) := by decide +kernel
theorem dX6_firstBlock_18 : decode cX6_firstBlock 18 = .ok (.istore_n 2, 1) := by decide +kernel
theorem dX6_firstBlock_19 : decode cX6_firstBlock 19 = .ok (.aload_n 0, 1) := by decide +kernel
theorem dX6_firstBlock_20 : decode cX6_firstBlock 20 = .ok (.getfield 78, 3) := by decide +kernel
theorem dX6_firstBlock_23 : decode cX6_firstBlock 23 = .ok (.ifCond .ne 86, 3) := by decide +kernel
theorem dX6_firstBlock_26 : decode cX6_firstBlock 26 = .ok (.iload_n 2, 1) := by decide +kernel
theorem dX6_firstBlock_27 : decode cX6_firstBlock 27 = .ok (.aload_n 0, 1) := by decide +kernel
theorem dX6_firstBlock_28 : decode cX6_firstBlock 28 = .ok (.getfield 23, 3) := by decide +kernel
theorem dX6_firstBlock_31 : decode cX6_firstBlock 31 = .ok (.iload_n 1, 1) := by decide +kernel
theorem dX6_firstBlock_32 : decode cX6_firstBlock 32 = .ok (.iaload, 1) := by decide +kernel
theorem dX6_firstBlock_33 : decode cX6_firstBlock 33 = .ok (.if_icmp .ge 76, 3) := by decide +kernel
theorem dX6_firstBlock_36 : decode cX6_firstBlock 36 = .ok (.iconst 0, 1) := by decide +kernel
theorem dX6_firstBlock_37 : decode cX6_firstBlock 37 = .ok (.istore_n 3, 1) := by decide +kernel
theorem dX6_firstBlock_38 : decode cX6_firstBlock 38 = .ok (.iload_n 3, 1) := by decide +kernel
theorem dX6_firstBlock_39 : decode cX6_firstBlock 39 = .ok (.aload_n 0, 1) := by decide +kernel
theorem dX6_firstBlock_40 : decode cX6_firstBlock 40 = .ok (.getfield 155, 3) := by decide +kernel
theorem dX6_firstBlock_43 : decode cX6_firstBlock 43 = .ok (.if_icmp .ge 60, 3) := by decide +kernel
theorem dX6_firstBlock_46 : decode cX6_firstBlock 46 = .ok (.aload_n 0, 1) := by decide +kernel
theorem dX6_firstBlock_47 : decode cX6_firstBlock 47 = .ok (.iload_n 3, 1) := by decide +kernel
theorem dX6_firstBlock_48 : decode cX6_firstBlock 48 = .ok (.aload_n 0, 1) := by decide +kernel
theorem dX6_firstBlock_49 : decode cX6_firstBlock 49 = .ok (.getfield 26, 3) := by decide +kernel
theorem dX6_firstBlock_52 : decode cX6_firstBlock 52 = .ok (.bipush 8, 2) := by decide +kernel
theorem dX6_firstBlock_54 : decode cX6_firstBlock 54 = .ok (.iload_n 1, 1) := by decide +kernel
theorem dX6_firstBlock_55 : decode cX6_firstBlock 55 = .ok (.imul, 1) := by decide +kernel
theorem dX6_firstBlock_56 : decode cX6_firstBlock 56 = .ok (.iload_n 2, 1) := by decide +kernel
theorem dX6_firstBlock_57 : decode cX6_firstBlock 57 = .ok (.iadd, 1) := by decide +kernel
theorem dX6_firstBlock_58 : decode cX6_firstBlock 58 = .ok (.iaload, 1) := by decide +kernel
theorem dX6_firstBlock_59 : decode cX6_firstBlock 59 = .ok (.aload_n 0, 1) := by decide +kernel
theorem dX6_firstBlock_60 : decode cX6_firstBlock 60 = .ok (.getfield 29, 3) := by decide +kernel
theorem dX6_firstBlock_63 : decode cX6_firstBlock 63 = .ok (.iconst 4, 1) := by decide +kernel
theorem dX6_firstBlock_64 : decode cX6_firstBlock 64 = .ok (.bipush 8, 2) := by decide +kernel
theorem dX6_firstBlock_66 : decode cX6_firstBlock 66 = .ok (.iload_n 1, 1) := by decide +kernel
theorem dX6_firstBlock_67 : decode cX6_firstBlock 67 = .ok (.imul, 1) := by decide +kernel
theorem dX6_firstBlock_68 : decode cX6_firstBlock 68 = .ok (.iload_n 2, 1) := by decide +kernel
theorem dX6_firstBlock_69 : decode cX6_firstBlock 69 = .ok (.iadd, 1) := by decide +kernel
theorem dX6_firstBlock_70 : decode cX6_firstBlock 70 = .ok (.imul, 1) := by decide +kernel
theorem dX6_firstBlock_71 : decode cX6_firstBlock 71 = .ok (.aload_n 0, 1) := by decide +kernel
theorem dX6_firstBlock_72 : decode cX6_firstBlock 72 = .ok (.getfield 44, 3) := by decide +kernel
theorem dX6_firstBlock_75 : decode cX6_firstBlock 75 = .ok (.iload_n 3, 1) := by decide +kernel
theorem dX6_firstBlock_76 : decode cX6_firstBlock 76 = .ok (.iaload, 1) := by decide +kernel
theorem dX6_firstBlock_77 : decode cX6_firstBlock 77 = .ok (.iadd, 1) := by decide +kernel
theorem dX6_firstBlock_78 : decode cX6_firstBlock 78 = .ok (.iaload, 1) := by decide +kernel
theorem dX6_firstBlock_79 : decode cX6_firstBlock 79 = .ok (.invokevirtual 158, 3) := by decide +kernel
theorem dX6_firstBlock_82 : decode cX6_firstBlock 82 = .ok (.ifCond .eq 15, 3) := by decide +kernel
theorem dX6_firstBlock_85 : decode cX6_firstBlock 85 = .ok (.aload_n 0, 1) := by decide +kernel
theorem dX6_firstBlock_86 : decode cX6_firstBlock 86 = .ok (.getfield 26, 3) := by decide +kernel
theorem dX6_firstBlock_89 : decode cX6_firstBlock 89 = .ok (.bipush 8, 2) := by decide +kernel
theorem dX6_firstBlock_91 : decode cX6_firstBlock 91 = .ok (.iload_n 1, 1) := by decide +kernel
theorem dX6_firstBlock_92 : decode cX6_firstBlock 92 = .ok (.imul, 1) := by decide +kernel
theorem dX6_firstBlock_93 : decode cX6_firstBlock 93 = .ok (.iload_n 2, 1) := by decide +kernel
theorem dX6_firstBlock_94 : decode cX6_firstBlock 94 = .ok (.iadd, 1) := by decide +kernel
theorem dX6_firstBlock_95 : decode cX6_firstBlock 95 = .ok (.iaload, 1) := by decide +kernel
theorem dX6_firstBlock_96 : decode cX6_firstBlock 96 = .ok (.ireturn, 1) := by decide +kernel
theorem dX6_firstBlock_97 : decode cX6_firstBlock 97 = .ok (.iinc 3 1, 3) := by decide +kernel
theorem dX6_firstBlock_100 : decode cX6_firstBlock 100 = .ok (.goto (-62), 3) := by decide +kernel
theorem dX6_firstBlock_103 : decode cX6_firstBlock 103 = .ok (.iinc 2 1, 3) := by decide +kernel
theorem dX6_firstBlock_106 : decode cX6_firstBlock 106 = .ok (.goto (-87), 3) := by decide +kernel
theorem dX6_firstBlock_109 : decode cX6_firstBlock 109 = .ok (.aload_n 0, 1) := by decide +kernel
theorem dX6_firstBlock_110 : decode cX6_firstBlock 110 = .ok (.getfield 78, 3) := by decide +kernel
theorem dX6_firstBlock_113 : decode cX6_firstBlock 113 = .ok (.ifCond .le 7, 3) := by decide +kernel
theorem dX6_firstBlock_116 : decode cX6_firstBlock 116 = .ok (.iconst 0, 1) := by decide +kernel
theorem dX6_firstBlock_117 : decode cX6_firstBlock 117 = .ok (.goto 4, 3) := by decide +kernel
theorem dX6_firstBlock_120 : decode cX6_firstBlock 120 = .ok (.iconst (-1), 1) := by decide +kernel
theorem dX6_firstBlock_121 : decode cX6_firstBlock 121 = .ok (.ireturn, 1) := by decide +kernel
set_option maxRecDepth 20000 in
theorem ggX6_show_X6_isBranch : GoodIn wsX6_show wsX6_isBranch := goodIn_r _ [8, 9, 10, 11, 7, 12, 42, 43, 44, 45, 46, 47, 48, 49, 50, 51, 52, 53, 54, 55, 56, 57, 58, 59, 60, 61, 62, 63, 64, 65, 66, 67, 68, 69] (by decide +kernel) (by decide +kernel)
set_option maxRecDepth 20000 in
theorem gX6_show_X6_isBranch : GoodIn wsX6_show (wsV RX6 93 RX6 yX6_isBranch wsX6_isBranch) := goodIn_app (goodIn_of _ (by decide +kernel)) ggX6_show_X6_isBranch
set_option maxRecDepth 20000 in
theorem ggX6_show_X6_blocksOf : GoodIn wsX6_show wsX6_blocksOf := goodIn_r _ [16, 17, 18, 19, 20, 21, 22, 23, 24, 7, 25, 26, 27, 28, 29, 30, 31, 32, 10, 11, 12, 33, 34, 35, 36, 37, 38, 39, 40, 41, 42, 43, 44, 45, 46, 47, 48, 49, 50, 51, 52, 53, 54, 55, 56, 57, 58, 59, 60, 61, 62, 63, 64, 65, 66, 67, 68, 69] (by decide +kernel) (by decide +kernel)
set_option maxRecDepth 20000 in
theorem gX6_show_X6_blocksOf : GoodIn wsX6_show (wsV RX6 173 RX6 yX6_blocksOf wsX6_blocksOf) := goodIn_app (goodIn_of _ (by decide +kernel)) ggX6_show_X6_blocksOf
theorem dX6_show_0 : decode cX6_show 0 = .ok (.aload_n 0, 1) := by decide +kernel
theorem dX6_show_1 : decode cX6_show 1 = .ok (.aload_n 0, 1) := by decide +kernel
theorem dX6_show_2 : decode cX6_show 2 = .ok (.iload_n 1, 1) := by decide +kernel
theorem dX6_show_3 : decode cX6_show 3 = .ok (.invokevirtual 93, 3) := by decide +kernel
theorem dX6_show_6 : decode cX6_show 6 = .ok (.ifCond .ne 7, 3) := by decide +kernel
theorem dX6_show_9 : decode cX6_show 9 = .ok (.iconst 1, 1) := by decide +kernel
theorem dX6_show_10 : decode cX6_show 10 = .ok (.goto 21, 3) := by decide +kernel
theorem dX6_show_13 : decode cX6_show 13 = .ok (.aload_n 0, 1) := by decide +kernel
theorem dX6_show_14 : decode cX6_show 14 = .ok (.aload_n 0, 1) := by decide +kernel
theorem dX6_show_15 : decode cX6_show 15 = .ok (.getfield 35, 3) := by decide +kernel
theorem dX6_show_18 : decode cX6_show 18 = .ok (.iload_n 1, 1) := by decide +kernel
theorem dX6_show_19 : decode cX6_show 19 = .ok (.iaload, 1) := by decide +kernel
theorem dX6_show_20 : decode cX6_show 20 = .ok (.invokevirtual 173, 3) := by decide +kernel
theorem dX6_show_23 : decode cX6_show 23 = .ok (.ifCond .le 7, 3) := by decide +kernel
theorem dX6_show_26 : decode cX6_show 26 = .ok (.iconst 2, 1) := by decide +kernel
theorem dX6_show_27 : decode cX6_show 27 = .ok (.goto 4, 3) := by decide +kernel
theorem dX6_show_30 : decode cX6_show 30 = .ok (.iconst 0, 1) := by decide +kernel
theorem dX6_show_31 : decode cX6_show 31 = .ok (.putfield 78, 3) := by decide +kernel
theorem dX6_show_34 : decode cX6_show 34 = .ok (.aload_n 0, 1) := by decide +kernel
theorem dX6_show_35 : decode cX6_show 35 = .ok (.getfield 78, 3) := by decide +kernel
theorem dX6_show_38 : decode cX6_show 38 = .ok (.ifCond .le 5, 3) := by decide +kernel
theorem dX6_show_41 : decode cX6_show 41 = .ok (.iconst 0, 1) := by decide +kernel
theorem dX6_show_42 : decode cX6_show 42 = .ok (.ireturn, 1) := by decide +kernel
theorem dX6_show_43 : decode cX6_show 43 = .ok (.aload_n 0, 1) := by decide +kernel
theorem dX6_show_44 : decode cX6_show 44 = .ok (.getfield 38, 3) := by decide +kernel
theorem dX6_show_47 : decode cX6_show 47 = .ok (.iload_n 1, 1) := by decide +kernel
theorem dX6_show_48 : decode cX6_show 48 = .ok (.aload_n 0, 1) := by decide +kernel
theorem dX6_show_49 : decode cX6_show 49 = .ok (.getfield 35, 3) := by decide +kernel
theorem dX6_show_52 : decode cX6_show 52 = .ok (.iload_n 1, 1) := by decide +kernel
theorem dX6_show_53 : decode cX6_show 53 = .ok (.iaload, 1) := by decide +kernel
theorem dX6_show_54 : decode cX6_show 54 = .ok (.iastore, 1) := by decide +kernel
theorem dX6_show_55 : decode cX6_show 55 = .ok (.aload_n 0, 1) := by decide +kernel
theorem dX6_show_56 : decode cX6_show 56 = .ok (.getfield 35, 3) := by decide +kernel
theorem dX6_show_59 : decode cX6_show 59 = .ok (.iload_n 1, 1) := by decide +kernel
theorem dX6_show_60 : decode cX6_show 60 = .ok (.iaload, 1) := by decide +kernel
theorem dX6_show_61 : decode cX6_show 61 = .ok (.ireturn, 1) := by decide +kernel
set_option maxRecDepth 20000 in
theorem ggX6_shown_X6_isBranch : GoodIn wsX6_shown wsX6_isBranch := goodIn_r _ [7, 8, 9, 10, 6, 11, 41, 42, 43, 44, 45, 46, 47, 48, 49, 50, 51, 52, 53, 54, 55, 56, 57, 58, 59, 60, 61, 62, 63, 64, 65, 66, 67, 68] (by decide +kernel) (by decide +kernel)
set_option maxRecDepth 20000 in
theorem gX6_shown_X6_isBranch : GoodIn wsX6_shown (wsV RX6 93 RX6 yX6_isBranch wsX6_isBranch) := goodIn_app (goodIn_of _ (by decide +kernel)) ggX6_shown_X6_isBranch
set_option maxRecDepth 20000 in
theorem ggX6_shown_X6_blocksOf : GoodIn wsX6_shown wsX6_blocksOf := goodIn_r _ [15, 16, 17, 18, 19, 20, 21, 22, 23, 6, 24, 25, 26, 27, 28, 29, 30, 31, 9, 10, 11, 32, 33, 34, 35, 36, 37, 38, 39, 40, 41, 42, 43, 44, 45, 46, 47, 48, 49, 50, 51, 52, 53, 54, 55, 56, 57, 58, 59, 60, 61, 62, 63, 64, 65, 66, 67, 68] (by decide +kernel) (by decide +kernel)
set_option maxRecDepth 20000 in
theorem gX6_shown_X6_blocksOf : GoodIn wsX6_shown (wsV RX6 173 RX6 yX6_blocksOf wsX6_blocksOf) := goodIn_app (goodIn_of _ (by decide +kernel)) ggX6_shown_X6_blocksOf
theorem dX6_shown_0 : decode cX6_shown 0 = .ok (.aload_n 0, 1) := by decide +kernel
theorem dX6_shown_1 : decode cX6_shown 1 = .ok (.aload_n 0, 1) := by decide +kernel
theorem dX6_shown_2 : decode cX6_shown 2 = .ok (.iload_n 1, 1) := by decide +kernel
theorem dX6_shown_3 : decode cX6_shown 3 = .ok (.invokevirtual 93, 3) := by decide +kernel
theorem dX6_shown_6 : decode cX6_shown 6 = .ok (.ifCond .eq 7, 3) := by decide +kernel
theorem dX6_shown_9 : decode cX6_shown 9 = .ok (.iconst 0, 1) := by decide +kernel
theorem dX6_shown_10 : decode cX6_shown 10 = .ok (.goto 4, 3) := by decide +kernel
theorem dX6_shown_13 : decode cX6_shown 13 = .ok (.iconst 1, 1) := by decide +kernel
theorem dX6_shown_14 : decode cX6_shown 14 = .ok (.putfield 78, 3) := by decide +kernel
theorem dX6_shown_17 : decode cX6_shown 17 = .ok (.aload_n 0, 1) := by decide +kernel
theorem dX6_shown_18 : decode cX6_shown 18 = .ok (.getfield 78, 3) := by decide +kernel
theorem dX6_shown_21 : decode cX6_shown 21 = .ok (.ifCond .le 5, 3) := by decide +kernel
theorem dX6_shown_24 : decode cX6_shown 24 = .ok (.iconst 0, 1) := by decide +kernel
theorem dX6_shown_25 : decode cX6_shown 25 = .ok (.ireturn, 1) := by decide +kernel
theorem dX6_shown_26 : decode cX6_shown 26 = .ok (.aload_n 0, 1) := by decide +kernel
theorem dX6_shown_27 : decode cX6_shown 27 = .ok (.getfield 38, 3) := by decide +kernel
theorem dX6_shown_30 : decode cX6_shown 30 = .ok (.iload_n 1, 1) := by decide +kernel
theorem dX6_shown_31 : decode cX6_shown 31 = .ok (.iaload, 1) := by decide +kernel
theorem dX6_shown_32 : decode cX6_shown 32 = .ok (.iconst (-1), 1) := by decide +kernel
theorem dX6_shown_33 : decode cX6_shown 33 = .ok (.if_icmp .eq 16, 3) := by decide +kernel
theorem dX6_shown_36 : decode cX6_shown 36 = .ok (.aload_n 0, 1) := by decide +kernel
theorem dX6_shown_37 : decode cX6_shown 37 = .ok (.aload_n 0, 1) := by decide +kernel
theorem dX6_shown_38 : decode cX6_shown 38 = .ok (.getfield 38, 3) := by decide +kernel
theorem dX6_shown_41 : decode cX6_shown 41 = .ok (.iload_n 1, 1) := by decide +kernel
theorem dX6_shown_42 : decode cX6_shown 42 = .ok (.iaload, 1) := by decide +kernel
theorem dX6_shown_43 : decode cX6_shown 43 = .ok (.invokevirtual 173, 3) := by decide +kernel
theorem dX6_shown_46 : decode cX6_shown 46 = .ok (.ifCond .le 7, 3) := by decide +kernel
theorem dX6_shown_49 : decode cX6_shown 49 = .ok (.iconst (-1), 1) := by decide +kernel
theorem dX6_shown_50 : decode cX6_shown 50 = .ok (.goto 9, 3) := by decide +kernel
theorem dX6_shown_53 : decode cX6_shown 53 = .ok (.aload_n 0, 1) := by decide +kernel
theorem dX6_shown_54 : decode cX6_shown 54 = .ok (.getfield 38, 3) := by decide +kernel
theorem dX6_shown_57 : decode cX6_shown 57 = .ok (.iload_n 1, 1) := by decide +kernel
theorem dX6_shown_58 : decode cX6_shown 58 = .ok (.iaload, 1) := by decide +kernel
theorem dX6_shown_59 : decode cX6_shown 59 = .ok (.ireturn, 1) := by decide +kernel
set_option maxRecDepth 20000 in
theorem ggX6_pass_X6_in : GoodIn wsX6_pass wsX6_in := goodIn_r _ [6] (by decide +kernel) (by decide +kernel)
set_option maxRecDepth 20000 in
theorem gX6_pass_X6_in : GoodIn wsX6_pass (va_wsS RX6 81 yX6_in wsX6_in) := goodIn_app (goodIn_of _ (by decide +kernel)) ggX6_pass_X6_in
theorem dX6_pass_0 : decode cX6_pass 0 = .ok (.aload_n 0, 1) := by decide +kernel
theorem dX6_pass_1 : decode cX6_pass 1 = .ok (.iload_n 1, 1) := by decide +kernel
theorem dX6_pass_2 : decode cX6_pass 2 = .ok (.iconst 1, 1) := by decide +kernel
theorem dX6_pass_3 : decode cX6_pass 3 = .ok (.bipush 100, 2) := by decide +kernel
theorem dX6_pass_5 : decode cX6_pass 5 = .ok (.invokestatic 81, 3) := by decide +kernel
theorem dX6_pass_8 : decode cX6_pass 8 = .ok (.ifCond .ne 7, 3) := by decide +kernel
theorem dX6_pass_11 : decode cX6_pass 11 = .ok (.iconst 1, 1) := by decide +kernel
theorem dX6_pass_12 : decode cX6_pass 12 = .ok (.goto 20, 3) := by decide +kernel
theorem dX6_pass_15 : decode cX6_pass 15 = .ok (.aload_n 0, 1) := by decide +kernel
theorem dX6_pass_16 : decode cX6_pass 16 = .ok (.getfield 164, 3) := by decide +kernel
theorem dX6_pass_19 : decode cX6_pass 19 = .ok (.iload_n 1, 1) := by decide +kernel
theorem dX6_pass_20 : decode cX6_pass 20 = .ok (.iadd, 1) := by decide +kernel
theorem dX6_pass_21 : decode cX6_pass 21 = .ok (.sipush 999, 3) := by decide +kernel
theorem dX6_pass_24 : decode cX6_pass 24 = .ok (.if_icmp .le 7, 3) := by decide +kernel
theorem dX6_pass_27 : decode cX6_pass 27 = .ok (.iconst 2, 1) := by decide +kernel
theorem dX6_pass_28 : decode cX6_pass 28 = .ok (.goto 4, 3) := by decide +kernel
theorem dX6_pass_31 : decode cX6_pass 31 = .ok (.iconst 0, 1) := by decide +kernel
theorem dX6_pass_32 : decode cX6_pass 32 = .ok (.putfield 78, 3) := by decide +kernel
theorem dX6_pass_35 : decode cX6_pass 35 = .ok (.aload_n 0, 1) := by decide +kernel
theorem dX6_pass_36 : decode cX6_pass 36 = .ok (.getfield 78, 3) := by decide +kernel
theorem dX6_pass_39 : decode cX6_pass 39 = .ok (.ifCond .le 5, 3) := by decide +kernel
theorem dX6_pass_42 : decode cX6_pass 42 = .ok (.iconst 0, 1) := by decide +kernel
theorem dX6_pass_43 : decode cX6_pass 43 = .ok (.ireturn, 1) := by decide +kernel
theorem dX6_pass_44 : decode cX6_pass 44 = .ok (.aload_n 0, 1) := by decide +kernel
theorem dX6_pass_45 : decode cX6_pass 45 = .ok (.dup, 1) := by decide +kernel
theorem dX6_pass_46 : decode cX6_pass 46 = .ok (.getfield 164, 3) := by decide +kernel
theorem dX6_pass_49 : decode cX6_pass 49 = .ok (.iload_n 1, 1) := by decide +kernel
theorem dX6_pass_50 : decode cX6_pass 50 = .ok (.iadd, 1) := by decide +kernel
theorem dX6_pass_51 : decode cX6_pass 51 = .ok (.putfield 164, 3) := by decide +kernel
theorem dX6_pass_54 : decode cX6_pass 54 = .ok (.aload_n 0, 1) := by decide +kernel
theorem dX6_pass_55 : decode cX6_pass 55 = .ok (.getfield 164, 3) := by decide +kernel
theorem dX6_pass_58 : decode cX6_pass 58 = .ok (.ireturn, 1) := by decide +kernel
