theorem dX0_init_0 : decode cX0_init 0 = .ok (.aload_n 0, 1) := by decide +kernel
theorem dX0_init_1 : decode cX0_init 1 = .ok (.invokespecial 3, 3) := by decide +kernel
theorem dX0_init_4 : decode cX0_init 4 = .ok (.aload_n 0, 1) := by decide +kernel
theorem dX0_init_5 : decode cX0_init 5 = .ok (.bipush 8, 2) := by decide +kernel
theorem dX0_init_7 : decode cX0_init 7 = .ok (.newarray .int, 2) := by decide +kernel
theorem dX0_init_9 : decode cX0_init 9 = .ok (.putfield 9, 3) := by decide +kernel
theorem dX0_init_12 : decode cX0_init 12 = .ok (.aload_n 0, 1) := by decide +kernel
theorem dX0_init_13 : decode cX0_init 13 = .ok (.bipush 32, 2) := by decide +kernel
theorem dX0_init_15 : decode cX0_init 15 = .ok (.newarray .int, 2) := by decide +kernel
theorem dX0_init_17 : decode cX0_init 17 = .ok (.putfield 15, 3) := by decide +kernel
theorem dX0_init_20 : decode cX0_init 20 = .ok (.return_, 1) := by decide +kernel
theorem dX0_placeOf_0 : decode cX0_placeOf 0 = .ok (.iconst 0, 1) := by decide +kernel
theorem dX0_placeOf_1 : decode cX0_placeOf 1 = .ok (.istore_n 2, 1) := by decide +kernel
theorem dX0_placeOf_2 : decode cX0_placeOf 2 = .ok (.iload_n 2, 1) := by decide +kernel
theorem dX0_placeOf_3 : decode cX0_placeOf 3 = .ok (.aload_n 0, 1) := by decide +kernel
theorem dX0_placeOf_4 : decode cX0_placeOf 4 = .ok (.getfield 18, 3) := by decide +kernel
theorem dX0_placeOf_7 : decode cX0_placeOf 7 = .ok (.if_icmp .ge 21, 3) := by decide +kernel
theorem dX0_placeOf_10 : decode cX0_placeOf 10 = .ok (.aload_n 0, 1) := by decide +kernel
theorem dX0_placeOf_11 : decode cX0_placeOf 11 = .ok (.getfield 9, 3) := by decide +kernel
theorem dX0_placeOf_14 : decode cX0_placeOf 14 = .ok (.iload_n 2, 1) := by decide +kernel
theorem dX0_placeOf_15 : decode cX0_placeOf 15 = .ok (.iaload, 1) := by decide +kernel
theorem dX0_placeOf_16 : decode cX0_placeOf 16 = .ok (.iload_n 1, 1) := by decide +kernel
theorem dX0_placeOf_17 : decode cX0_placeOf 17 = .ok (.if_icmp .ne 5, 3) := by decide +kernel
theorem dX0_placeOf_20 : decode cX0_placeOf 20 = .ok (.iload_n 2, 1) := by decide +kernel
theorem dX0_placeOf_21 : decode cX0_placeOf 21 = .ok (.ireturn, 1) := by decide +kernel
theorem dX0_placeOf_22 : decode cX0_placeOf 22 = .ok (.iinc 2 1, 3) := by decide +kernel
theorem dX0_placeOf_25 : decode cX0_placeOf 25 = .ok (.goto (-23), 3) := by decide +kernel
theorem dX0_placeOf_28 : decode cX0_placeOf 28 = .ok (.iconst (-1), 1) := by decide +kernel
theorem dX0_placeOf_29 : decode cX0_placeOf 29 = .ok (.ireturn, 1) := by decide +kernel
set_option maxRecDepth 20000 in
theorem ggX0_has_X0_placeOf : GoodIn wsX0_has wsX0_placeOf := goodIn_r _ [5, 6, 7, 8, 9, 10] (by decide +kernel) (by decide +kernel)
set_option maxRecDepth 20000 in
theorem gX0_has_X0_placeOf : GoodIn wsX0_has (wsV RX0 22 RX0 yX0_placeOf wsX0_placeOf) := goodIn_app (goodIn_of _ (by decide +kernel)) ggX0_has_X0_placeOf
theorem dX0_has_0 : decode cX0_has 0 = .ok (.aload_n 0, 1) := by decide +kernel
theorem dX0_has_1 : decode cX0_has 1 = .ok (.iload_n 1, 1) := by decide +kernel
theorem dX0_has_2 : decode cX0_has 2 = .ok (.invokevirtual 22, 3) := by decide +kernel
theorem dX0_has_5 : decode cX0_has 5 = .ok (.iconst (-1), 1) := by decide +kernel
theorem dX0_has_6 : decode cX0_has 6 = .ok (.if_icmp .eq 7, 3) := by decide +kernel
theorem dX0_has_9 : decode cX0_has 9 = .ok (.iconst 1, 1) := by decide +kernel
theorem dX0_has_10 : decode cX0_has 10 = .ok (.goto 4, 3) := by decide +kernel
theorem dX0_has_13 : decode cX0_has 13 = .ok (.iconst 0, 1) := by decide +kernel
theorem dX0_has_14 : decode cX0_has 14 = .ok (.ireturn, 1) := by decide +kernel
theorem dX0_valueAt_0 : decode cX0_valueAt 0 = .ok (.aload_n 0, 1) := by decide +kernel
theorem dX0_valueAt_1 : decode cX0_valueAt 1 = .ok (.getfield 15, 3) := by decide +kernel
theorem dX0_valueAt_4 : decode cX0_valueAt 4 = .ok (.iload_n 1, 1) := by decide +kernel
theorem dX0_valueAt_5 : decode cX0_valueAt 5 = .ok (.iconst 4, 1) := by decide +kernel
theorem dX0_valueAt_6 : decode cX0_valueAt 6 = .ok (.imul, 1) := by decide +kernel
theorem dX0_valueAt_7 : decode cX0_valueAt 7 = .ok (.iload_n 2, 1) := by decide +kernel
theorem dX0_valueAt_8 : decode cX0_valueAt 8 = .ok (.iadd, 1) := by decide +kernel
theorem dX0_valueAt_9 : decode cX0_valueAt 9 = .ok (.iaload, 1) := by decide +kernel
theorem dX0_valueAt_10 : decode cX0_valueAt 10 = .ok (.ireturn, 1) := by decide +kernel
set_option maxRecDepth 20000 in
theorem ggX0_valueOf_X0_placeOf : GoodIn wsX0_valueOf wsX0_placeOf := goodIn_r _ [5, 6, 7, 13, 14, 15] (by decide +kernel) (by decide +kernel)
set_option maxRecDepth 20000 in
theorem gX0_valueOf_X0_placeOf : GoodIn wsX0_valueOf (wsV RX0 22 RX0 yX0_placeOf wsX0_placeOf) := goodIn_app (goodIn_of _ (by decide +kernel)) ggX0_valueOf_X0_placeOf
set_option maxRecDepth 20000 in
theorem ggX0_valueOf_X0_valueAt : GoodIn wsX0_valueOf wsX0_valueAt := goodIn_r _ [11, 12, 13, 14, 15] (by decide +kernel) (by decide +kernel)
set_option maxRecDepth 20000 in
theorem gX0_valueOf_X0_valueAt : GoodIn wsX0_valueOf (wsV RX0 26 RX0 yX0_valueAt wsX0_valueAt) := goodIn_app (goodIn_of _ (by decide +kernel)) ggX0_valueOf_X0_valueAt
theorem dX0_valueOf_0 : decode cX0_valueOf 0 = .ok (.aload_n 0, 1) := by decide +kernel
theorem dX0_valueOf_1 : decode cX0_valueOf 1 = .ok (.iload_n 1, 1) := by decide +kernel
theorem dX0_valueOf_2 : decode cX0_valueOf 2 = .ok (.invokevirtual 22, 3) := by decide +kernel
theorem dX0_valueOf_5 : decode cX0_valueOf 5 = .ok (.istore_n 3, 1) := by decide +kernel
theorem dX0_valueOf_6 : decode cX0_valueOf 6 = .ok (.iload_n 3, 1) := by decide +kernel
theorem dX0_valueOf_7 : decode cX0_valueOf 7 = .ok (.iconst (-1), 1) := by decide +kernel
theorem dX0_valueOf_8 : decode cX0_valueOf 8 = .ok (.if_icmp .ne 7, 3) := by decide +kernel
theorem dX0_valueOf_11 : decode cX0_valueOf 11 = .ok (.iconst (-1), 1) := by decide +kernel
theorem dX0_valueOf_12 : decode cX0_valueOf 12 = .ok (.goto 9, 3) := by decide +kernel
theorem dX0_valueOf_15 : decode cX0_valueOf 15 = .ok (.aload_n 0, 1) := by decide +kernel
theorem dX0_valueOf_16 : decode cX0_valueOf 16 = .ok (.iload_n 3, 1) := by decide +kernel
theorem dX0_valueOf_17 : decode cX0_valueOf 17 = .ok (.iload_n 2, 1) := by decide +kernel
theorem dX0_valueOf_18 : decode cX0_valueOf 18 = .ok (.invokevirtual 26, 3) := by decide +kernel
theorem dX0_valueOf_21 : decode cX0_valueOf 21 = .ok (.ireturn, 1) := by decide +kernel
set_option maxRecDepth 20000 in
theorem ggX0_isAlike_X0_placeOf : GoodIn wsX0_isAlike wsX0_placeOf := goodIn_r _ [5, 6, 7, 13, 14, 15] (by decide +kernel) (by decide +kernel)
set_option maxRecDepth 20000 in
theorem gX0_isAlike_X0_placeOf : GoodIn wsX0_isAlike (wsV RX0 22 RX0 yX0_placeOf wsX0_placeOf) := goodIn_app (goodIn_of _ (by decide +kernel)) ggX0_isAlike_X0_placeOf
set_option maxRecDepth 20000 in
theorem ggX0_isAlike_X0_valueAt : GoodIn wsX0_isAlike wsX0_valueAt := goodIn_r _ [11, 12, 13, 14, 15] (by decide +kernel) (by decide +kernel)
set_option maxRecDepth 20000 in
theorem gX0_isAlike_X0_valueAt : GoodIn wsX0_isAlike (wsV RX0 26 RX0 yX0_valueAt wsX0_valueAt) := goodIn_app (goodIn_of _ (by decide +kernel)) ggX0_isAlike_X0_valueAt
theorem dX0_isAlike_0 : decode cX0_isAlike 0 = .ok (.aload_n 0, 1) := by decide +kernel
theorem dX0_isAlike_1 : decode cX0_isAlike 1 = .ok (.iload_n 2, 1) := by decide +kernel
theorem dX0_isAlike_2 : decode cX0_isAlike 2 = .ok (.invokevirtual 22, 3) := by decide +kernel
theorem dX0_isAlike_5 : decode cX0_isAlike 5 = .ok (.istore_n 3, 1) := by decide +kernel
theorem dX0_isAlike_6 : decode cX0_isAlike 6 = .ok (.aload_n 1, 1) := by decide +kernel
theorem dX0_isAlike_7 : decode cX0_isAlike 7 = .ok (.iload_n 2, 1) := by decide +kernel
theorem dX0_isAlike_8 : decode cX0_isAlike 8 = .ok (.invokevirtual 22, 3) := by decide +kernel
theorem dX0_isAlike_11 : decode cX0_isAlike 11 = .ok (.istore 4, 2) := by decide +kernel
theorem dX0_isAlike_13 : decode cX0_isAlike 13 = .ok (.iload_n 3, 1) := by decide +kernel
theorem dX0_isAlike_14 : decode cX0_isAlike 14 = .ok (.iconst (-1), 1) := by decide +kernel
theorem dX0_isAlike_15 : decode cX0_isAlike 15 = .ok (.if_icmp .eq 9, 3) := by decide +kernel
theorem dX0_isAlike_18 : decode cX0_isAlike 18 = .ok (.iload 4, 2) := by decide +kernel
theorem dX0_isAlike_20 : decode cX0_isAlike 20 = .ok (.iconst (-1), 1) := by decide +kernel
theorem dX0_isAlike_21 : decode cX0_isAlike 21 = .ok (.if_icmp .ne 5, 3) := by decide +kernel
theorem dX0_isAlike_24 : decode cX0_isAlike 24 = .ok (.iconst 0, 1) := by decide +kernel
theorem dX0_isAlike_25 : decode cX0_isAlike 25 = .ok (.ireturn, 1) := by decide +kernel
theorem dX0_isAlike_26 : decode cX0_isAlike 26 = .ok (.iconst 0, 1) := by decide +kernel
theorem dX0_isAlike_27 : decode cX0_isAlike 27 = .ok (.istore 5, 2) := by decide +kernel
theorem dX0_isAlike_29 : decode cX0_isAlike 29 = .ok (.iload 5, 2) := by decide +kernel
theorem dX0_isAlike_31 : decode cX0_isAlike 31 = .ok (.iconst 4, 1) := by decide +kernel
theorem dX0_isAlike_32 : decode cX0_isAlike 32 = .ok (.if_icmp .ge 29, 3) := by decide +kernel
theorem dX0_isAlike_35 : decode cX0_isAlike 35 = .ok (.aload_n 0, 1) := by decide +kernel
theorem dX0_isAlike_36 : decode cX0_isAlike 36 = .ok (.iload_n 3, 1) := by decide +kernel
theorem dX0_isAlike_37 : decode cX0_isAlike 37 = .ok (.iload 5, 2) := by decide +kernel
theorem dX0_isAlike_39 : decode cX0_isAlike 39 = .ok (.invokevirtual 26, 3) := by decide +kernel
theorem dX0_isAlike_42 : decode cX0_isAlike 42 = .ok (.aload_n 1, 1) := by decide +kernel
theorem dX0_isAlike_43 : decode cX0_isAlike 43 = .ok (.iload 4, 2) := by decide +kernel
theorem dX0_isAlike_45 : decode cX0_isAlike 45 = .ok (.iload 5, 2) := by decide +kernel
theorem dX0_isAlike_47 : decode cX0_isAlike 47 = .ok (.invokevirtual 26, 3) := by decide +kernel
theorem dX0_isAlike_50 : decode cX0_isAlike 50 = .ok (.if_icmp .eq 5, 3) := by decide +kernel
theorem dX0_isAlike_53 : decode cX0_isAlike 53 = .ok (.iconst 0, 1) := by decide +kernel
theorem dX0_isAlike_54 : decode cX0_isAlike 54 = .ok (.ireturn, 1) := by decide +kernel
theorem dX0_isAlike_55 : decode cX0_isAlike 55 = .ok (.iinc 5 1, 3) := by decide +kernel
theorem dX0_isAlike_58 : decode cX0_isAlike 58 = .ok (.goto (-29), 3) := by decide +kernel
theorem dX0_isAlike_61 : decode cX0_isAlike 61 = .ok (.iconst 1, 1) := by decide +kernel
theorem dX0_isAlike_62 : decode cX0_isAlike 62 = .ok (.ireturn, 1) := by decide +kernel
theorem dX0_put_0 : decode cX0_put 0 = .ok (.aload_n 0, 1) := by decide +kernel
theorem dX0_put_1 : decode cX0_put 1 = .ok (.getfield 15, 3) := by decide +kernel
theorem dX0_put_4 : decode cX0_put 4 = .ok (.iload_n 1, 1) := by decide +kernel
theorem dX0_put_5 : decode cX0_put 5 = .ok (.iconst 4, 1) := by decide +kernel
theorem dX0_put_6 : decode cX0_put 6 = .ok (.imul, 1) := by decide +kernel
theorem dX0_put_7 : decode cX0_put 7 = .ok (.iload_n 2, 1) := by decide +kernel
theorem dX0_put_8 : decode cX0_put 8 = .ok (.iadd, 1) := by decide +kernel
theorem dX0_put_9 : decode cX0_put 9 = .ok (.iload_n 3, 1) := by decide +kernel
theorem dX0_put_10 : decode cX0_put 10 = .ok (.iastore, 1) := by decide +kernel
theorem dX0_put_11 : decode cX0_put 11 = .ok (.return_, 1) := by decide +kernel
set_option maxRecDepth 20000 in
theorem ggX0_insert_X0_move : GoodIn wsX0_insert wsX0_move := goodIn_r _ [7, 2, 8, 9, 10, 6, 11, 12, 13, 14, 15, 16, 17, 18, 19] (by decide +kernel) (by decide +kernel)
set_option maxRecDepth 20000 in
theorem gX0_insert_X0_move : GoodIn wsX0_insert (wsV RX0 30 RX0 yX0_move wsX0_move) := goodIn_app (goodIn_of _ (by decide +kernel)) ggX0_insert_X0_move
set_option maxRecDepth 20000 in
theorem ggX0_insert_X0_put : GoodIn wsX0_insert wsX0_put := goodIn_r _ [16, 12, 17, 18, 19] (by decide +kernel) (by decide +kernel)
set_option maxRecDepth 20000 in
theorem gX0_insert_X0_put : GoodIn wsX0_insert (wsV RX0 34 RX0 yX0_put wsX0_put) := goodIn_app (goodIn_of _ (by decide +kernel)) ggX0_insert_X0_put
theorem dX0_insert_0 : decode cX0_insert 0 = .ok (.aload_n 0, 1) := by decide +kernel
theorem dX0_insert_1 : decode cX0_insert 1 = .ok (.getfield 18, 3) := by decide +kernel
theorem dX0_insert_4 : decode cX0_insert 4 = .ok (.istore_n 3, 1) := by decide +kernel
theorem dX0_insert_5 : decode cX0_insert 5 = .ok (.iload_n 3, 1) := by decide +kernel
theorem dX0_insert_6 : decode cX0_insert 6 = .ok (.iload_n 1, 1) := by decide +kernel
theorem dX0_insert_7 : decode cX0_insert 7 = .ok (.if_icmp .le 17, 3) := by decide +kernel
theorem dX0_insert_10 : decode cX0_insert 10 = .ok (.aload_n 0, 1) := by decide +kernel
theorem dX0_insert_11 : decode cX0_insert 11 = .ok (.iload_n 3, 1) := by decide +kernel
theorem dX0_insert_12 : decode cX0_insert 12 = .ok (.iconst 1, 1) := by decide +kernel
theorem dX0_insert_13 : decode cX0_insert 13 = .ok (.isub, 1) := by decide +kernel
theorem dX0_insert_14 : decode cX0_insert 14 = .ok (.iload_n 3, 1) := by decide +kernel
theorem dX0_insert_15 : decode cX0_insert 15 = .ok (.invokevirtual 30, 3) := by decide +kernel
theorem dX0_insert_18 : decode cX0_insert 18 = .ok (.iinc 3 (-1), 3) := by decide +kernel
theorem dX0_insert_21 : decode cX0_insert 21 = .ok (.goto (-16), 3) := by decide +kernel
theorem dX0_insert_24 : decode cX0_insert 24 = .ok (.aload_n 0, 1) := by decide +kernel
theorem dX0_insert_25 : decode cX0_insert 25 = .ok (.getfield 9, 3) := by decide +kernel
theorem dX0_insert_28 : decode cX0_insert 28 = .ok (.iload_n 1, 1) := by decide +kernel
theorem dX0_insert_29 : decode cX0_insert 29 = .ok (.iload_n 2, 1) := by decide +kernel
theorem dX0_insert_30 : decode cX0_insert 30 = .ok (.iastore, 1) := by decide +kernel
theorem dX0_insert_31 : decode cX0_insert 31 = .ok (.iconst 0, 1) := by decide +kernel
theorem dX0_insert_32 : decode cX0_insert 32 = .ok (.istore_n 3, 1) := by decide +kernel
theorem dX0_insert_33 : decode cX0_insert 33 = .ok (.iload_n 3, 1) := by decide +kernel
theorem dX0_insert_34 : decode cX0_insert 34 = .ok (.iconst 4, 1) := by decide +kernel
theorem dX0_insert_35 : decode cX0_insert 35 = .ok (.if_icmp .ge 16, 3) := by decide +kernel
theorem dX0_insert_38 : decode cX0_insert 38 = .ok (.aload_n 0, 1) := by decide +kernel
theorem dX0_insert_39 : decode cX0_insert 39 = .ok (.iload_n 1, 1) := by decide +kernel
theorem dX0_insert_40 : decode cX0_insert 40 = .ok (.iload_n 3, 1) := by decide +kernel
theorem dX0_insert_41 : decode cX0_insert 41 = .ok (.iconst 0, 1) := by decide +kernel
theorem dX0_insert_42 : decode cX0_insert 42 = .ok (.invokevirtual 34, 3) := by decide +kernel
theorem dX0_insert_45 : decode cX0_insert 45 = .ok (.iinc 3 1, 3) := by decide +kernel
theorem dX0_insert_48 : decode cX0_insert 48 = .ok (.goto (-15), 3) := by decide +kernel
theorem dX0_insert_51 : decode cX0_insert 51 = .ok (.aload_n 0, 1) := by decide +kernel
theorem dX0_insert_52 : decode cX0_insert 52 = .ok (.dup, 1) := by decide +kernel
theorem dX0_insert_53 : decode cX0_insert 53 = .ok (.getfield 18, 3) := by decide +kernel
theorem dX0_insert_56 : decode cX0_insert 56 = .ok (.iconst 1, 1) := by decide +kernel
theorem dX0_insert_57 : decode cX0_insert 57 = .ok (.iadd, 1) := by decide +kernel
theorem dX0_insert_58 : decode cX0_insert 58 = .ok (.putfield 18, 3) := by decide +kernel
theorem dX0_insert_61 : decode cX0_insert 61 = .ok (.return_, 1) := by decide +kernel
set_option maxRecDepth 20000 in
theorem ggX0_removeAt_X0_move : GoodIn wsX0_removeAt wsX0_move := goodIn_r _ [6, 7, 8, 9, 10, 5, 11, 12, 13, 14, 15, 16, 17, 18, 19] (by decide +kernel) (by decide +kernel)
set_option maxRecDepth 20000 in
theorem gX0_removeAt_X0_move : GoodIn wsX0_removeAt (wsV RX0 30 RX0 yX0_move wsX0_move) := goodIn_app (goodIn_of _ (by decide +kernel)) ggX0_removeAt_X0_move
theorem dX0_removeAt_0 : decode cX0_removeAt 0 = .ok (.iload_n 1, 1) := by decide +kernel
theorem dX0_removeAt_1 : decode cX0_removeAt 1 = .ok (.iconst 1, 1) := by decide +kernel
theorem dX0_removeAt_2 : decode cX0_removeAt 2 = .ok (.iadd, 1) := by decide +kernel
theorem dX0_removeAt_3 : decode cX0_removeAt 3 = .ok (.istore_n 2, 1) := by decide +kernel
theorem dX0_removeAt_4 : decode cX0_removeAt 4 = .ok (.iload_n 2, 1) := by decide +kernel
theorem dX0_removeAt_5 : decode cX0_removeAt 5 = .ok (.aload_n 0, 1) := by decide +kernel
theorem dX0_removeAt_6 : decode cX0_removeAt 6 = .ok (.getfield 18, 3) := by decide +kernel
theorem dX0_removeAt_9 : decode cX0_removeAt 9 = .ok (.if_icmp .ge 17, 3) := by decide +kernel
theorem dX0_removeAt_12 : decode cX0_removeAt 12 = .ok (.aload_n 0, 1) := by decide +kernel
theorem dX0_removeAt_13 : decode cX0_removeAt 13 = .ok (.iload_n 2, 1) := by decide +kernel
theorem dX0_removeAt_14 : decode cX0_removeAt 14 = .ok (.iload_n 2, 1) := by decide +kernel
theorem dX0_removeAt_15 : decode cX0_removeAt 15 = .ok (.iconst 1, 1) := by decide +kernel
theorem dX0_removeAt_16 : decode cX0_removeAt 16 = .ok (.isub, 1) := by decide +kernel
theorem dX0_removeAt_17 : decode cX0_removeAt 17 = .ok (.invokevirtual 30, 3) := by decide +kernel
theorem dX0_removeAt_20 : decode cX0_removeAt 20 = .ok (.iinc 2 1, 3) := by decide +kernel
theorem dX0_removeAt_23 : decode cX0_removeAt 23 = .ok (.goto (-19), 3) := by decide +kernel
theorem dX0_removeAt_26 : decode cX0_removeAt 26 = .ok (.aload_n 0, 1) := by decide +kernel
theorem dX0_removeAt_27 : decode cX0_removeAt 27 = .ok (.dup, 1) := by decide +kernel
theorem dX0_removeAt_28 : decode cX0_removeAt 28 = .ok (.getfield 18, 3) := by decide +kernel
theorem dX0_removeAt_31 : decode cX0_removeAt 31 = .ok (.iconst 1, 1) := by decide +kernel
theorem dX0_removeAt_32 : decode cX0_removeAt 32 = .ok (.isub, 1) := by decide +kernel
theorem dX0_removeAt_33 : decode cX0_removeAt 33 = .ok (.putfield 18, 3) := by decide +kernel
theorem dX0_removeAt_36 : decode cX0_removeAt 36 = .ok (.return_, 1) := by decide +kernel
set_option maxRecDepth 20000 in
theorem ggX0_move_X0_valueAt : GoodIn wsX0_move wsX0_valueAt := goodIn_r _ [6, 7, 12, 13, 14] (by decide +kernel) (by decide +kernel)
set_option maxRecDepth 20000 in
theorem gX0_move_X0_valueAt : GoodIn wsX0_move (wsV RX0 26 RX0 yX0_valueAt wsX0_valueAt) := goodIn_app (goodIn_of _ (by decide +kernel)) ggX0_move_X0_valueAt
set_option maxRecDepth 20000 in
theorem ggX0_move_X0_put : GoodIn wsX0_move wsX0_put := goodIn_r _ [11, 7, 12, 13, 14] (by decide +kernel) (by decide +kernel)
set_option maxRecDepth 20000 in
theorem gX0_move_X0_put : GoodIn wsX0_move (wsV RX0 34 RX0 yX0_put wsX0_put) := goodIn_app (goodIn_of _ (by decide +kernel)) ggX0_move_X0_put
theorem dX0_move_0 : decode cX0_move 0 = .ok (.aload_n 0, 1) := by decide +kernel
theorem dX0_move_1 : decode cX0_move 1 = .ok (.getfield 9, 3) := by decide +kernel
theorem dX0_move_4 : decode cX0_move 4 = .ok (.iload_n 2, 1) := by decide +kernel
theorem dX0_move_5 : decode cX0_move 5 = .ok (.aload_n 0, 1) := by decide +kernel
theorem dX0_move_6 : decode cX0_move 6 = .ok (.getfield 9, 3) := by decide +kernel
theorem dX0_move_9 : decode cX0_move 9 = .ok (.iload_n 1, 1) := by decide +kernel
theorem dX0_move_10 : decode cX0_move 10 = .ok (.iaload, 1) := by decide +kernel
theorem dX0_move_11 : decode cX0_move 11 = .ok (.iastore, 1) := by decide +kernel
theorem dX0_move_12 : decode cX0_move 12 = .ok (.iconst 0, 1) := by decide +kernel
theorem dX0_move_13 : decode cX0_move 13 = .ok (.istore_n 3, 1) := by decide +kernel
theorem dX0_move_14 : decode cX0_move 14 = .ok (.iload_n 3, 1) := by decide +kernel
theorem dX0_move_15 : decode cX0_move 15 = .ok (.iconst 4, 1) := by decide +kernel
theorem dX0_move_16 : decode cX0_move 16 = .ok (.if_icmp .ge 21, 3) := by decide +kernel
theorem dX0_move_19 : decode cX0_move 19 = .ok (.aload_n 0, 1) := by decide +kernel
theorem dX0_move_20 : decode cX0_move 20 = .ok (.iload_n 2, 1) := by decide +kernel
theorem dX0_move_21 : decode cX0_move 21 = .ok (.iload_n 3, 1) := by decide +kernel
theorem dX0_move_22 : decode cX0_move 22 = .ok (.aload_n 0, 1) := by decide +kernel
theorem dX0_move_23 : decode cX0_move 23 = .ok (.iload_n 1, 1) := by decide +kernel
theorem dX0_move_24 : decode cX0_move 24 = .ok (.iload_n 3, 1) := by decide +kernel
theorem dX0_move_25 : decode cX0_move 25 = .ok (.invokevirtual 26, 3) := by decide +kernel
theorem dX0_move_28 : decode cX0_move 28 = .ok (.invokevirtual 34, 3) := by decide +kernel
theorem dX0_move_31 : decode cX0_move 31 = .ok (.iinc 3 1, 3) := by decide +kernel
theorem dX0_move_34 : decode cX0_move 34 = .ok (.goto (-20), 3) := by decide +kernel
theorem dX0_move_37 : decode cX0_move 37 = .ok (.return_, 1) := by decide +kernel
theorem dX0_copyFrom_0 : decode cX0_copyFrom 0 = .ok (.aload_n 1, 1) := by decide +kernel
theorem dX0_copyFrom_1 : decode cX0_copyFrom 1 = .ok (.getfield 9, 3) := by decide +kernel
theorem dX0_copyFrom_4 : decode cX0_copyFrom 4 = .ok (.iconst 0, 1) := by decide +kernel
theorem dX0_copyFrom_5 : decode cX0_copyFrom 5 = .ok (.aload_n 0, 1) := by decide +kernel
theorem dX0_copyFrom_6 : decode cX0_copyFrom 6 = .ok (.getfield 9, 3) := by decide +kernel
theorem dX0_copyFrom_9 : decode cX0_copyFrom 9 = .ok (.iconst 0, 1) := by decide +kernel
theorem dX0_copyFrom_10 : decode cX0_copyFrom 10 = .ok (.aload_n 0, 1) := by decide +kernel
theorem dX0_copyFrom_11 : decode cX0_copyFrom 11 = .ok (.getfield 9, 3) := by decide +kernel
theorem dX0_copyFrom_14 : decode cX0_copyFrom 14 = .ok (.arraylength, 1) := by decide +kernel
theorem dX0_copyFrom_15 : decode cX0_copyFrom 15 = .ok (.invokestatic 38, 3) := by decide +kernel
theorem dX0_copyFrom_18 : decode cX0_copyFrom 18 = .ok (.aload_n 1, 1) := by decide +kernel
theorem dX0_copyFrom_19 : decode cX0_copyFrom 19 = .ok (.getfield 15, 3) := by decide +kernel
theorem dX0_copyFrom_22 : decode cX0_copyFrom 22 = .ok (.iconst 0, 1) := by decide +kernel
theorem dX0_copyFrom_23 : decode cX0_copyFrom 23 = .ok (.aload_n 0, 1) := by decide +kernel
theorem dX0_copyFrom_24 : decode cX0_copyFrom 24 = .ok (.getfield 15, 3) := by decide +kernel
theorem dX0_copyFrom_27 : decode cX0_copyFrom 27 = .ok (.iconst 0, 1) := by decide +kernel
theorem dX0_copyFrom_28 : decode cX0_copyFrom 28 = .ok (.aload_n 0, 1) := by decide +kernel
theorem dX0_copyFrom_29 : decode cX0_copyFrom 29 = .ok (.getfield 15, 3) := by decide +kernel
theorem dX0_copyFrom_32 : decode cX0_copyFrom 32 = .ok (.arraylength, 1) := by decide +kernel
theorem dX0_copyFrom_33 : decode cX0_copyFrom 33 = .ok (.invokestatic 38, 3) := by decide +kernel
theorem dX0_copyFrom_36 : decode cX0_copyFrom 36 = .ok (.aload_n 0, 1) := by decide +kernel
theorem dX0_copyFrom_37 : decode cX0_copyFrom 37 = .ok (.aload_n 1, 1) := by decide +kernel
theorem dX0_copyFrom_38 : decode cX0_copyFrom 38 = .ok (.getfield 18, 3) := by decide +kernel
theorem dX0_copyFrom_41 : decode cX0_copyFrom 41 = .ok (.putfield 18, 3) := by decide +kernel
theorem dX0_copyFrom_44 : decode cX0_copyFrom 44 = .ok (.return_, 1) := by decide +kernel
theorem dX1_init_0 : decode cX1_init 0 = .ok (.aload_n 0, 1) := by decide +kernel
theorem dX1_init_1 : decode cX1_init 1 = .ok (.invokespecial 3, 3) := by decide +kernel
theorem dX1_init_4 : decode cX1_init 4 = .ok (.aload_n 0, 1) := by decide +kernel
theorem dX1_init_5 : decode cX1_init 5 = .ok (.aload_n 1, 1) := by decide +kernel
theorem dX1_init_6 : decode cX1_init 6 = .ok (.putfield 9, 3) := by decide +kernel
theorem dX1_init_9 : decode cX1_init 9 = .ok (.aload_n 0, 1) := by decide +kernel
theorem dX1_init_10 : decode cX1_init 10 = .ok (.aload_n 2, 1) := by decide +kernel
theorem dX1_init_11 : decode cX1_init 11 = .ok (.putfield 15, 3) := by decide +kernel
theorem dX1_init_14 : decode cX1_init 14 = .ok (.aload_n 0, 1) := by decide +kernel
theorem dX1_init_15 : decode cX1_init 15 = .ok (.aload_n 3, 1) := by decide +kernel
theorem dX1_init_16 : decode cX1_init 16 = .ok (.putfield 18, 3) := by decide +kernel
theorem dX1_init_19 : decode cX1_init 19 = .ok (.return_, 1) := by decide +kernel
set_option maxRecDepth 20000 in
theorem ggX1_countClashes_X1_isSlideClash : GoodIn wsX1_countClashes wsX1_isSlideClash := goodIn_r _ [5, 6, 7, 8, 9, 10, 11, 12, 13, 14, 15, 16, 17, 18, 19, 20, 21, 22, 23, 24, 25, 26, 27, 28, 37, 38, 39, 40, 41, 42] (by decide +kernel) (by decide +kernel)
set_option maxRecDepth 20000 in
theorem gX1_countClashes_X1_isSlideClash : GoodIn wsX1_countClashes (wsV RX1 21 RX1 yX1_isSlideClash wsX1_isSlideClash) := goodIn_app (goodIn_of _ (by decide +kernel)) ggX1_countClashes_X1_isSlideClash
set_option maxRecDepth 20000 in
theorem ggX1_countClashes_X1_isObjectClash : GoodIn wsX1_countClashes wsX1_isObjectClash := goodIn_r _ [32, 6, 7, 8, 9, 10, 11, 12, 13, 14, 15, 16, 17, 18, 19, 33, 34, 35, 36, 24, 25, 26, 27, 28, 37, 38, 39, 40, 41, 42] (by decide +kernel) (by decide +kernel)
set_option maxRecDepth 20000 in
theorem gX1_countClashes_X1_isObjectClash : GoodIn wsX1_countClashes (wsV RX1 25 RX1 yX1_isObjectClash wsX1_isObjectClash) := goodIn_app (goodIn_of _ (by decide +kernel)) ggX1_countClashes_X1_isObjectClash
theorem dX1_countClashes_0 : decode cX1_countClashes 0 = .ok (.iconst 0, 1) := by decide +kernel
theorem dX1_countClashes_1 : decode cX1_countClashes 1 = .ok (.istore_n 2, 1) := by decide +kernel
theorem dX1_countClashes_2 : decode cX1_countClashes 2 = .ok (.iconst 0, 1) := by decide +kernel
theorem dX1_countClashes_3 : decode cX1_countClashes 3 = .ok (.istore_n 3, 1) := by decide +kernel
theorem dX1_countClashes_4 : decode cX1_countClashes 4 = .ok (.iload_n 3, 1) := by decide +kernel
theorem dX1_countClashes_5 : decode cX1_countClashes 5 = .ok (.iload_n 1, 1) := by decide +kernel
theorem dX1_countClashes_6 : decode cX1_countClashes 6 = .ok (.if_icmp .ge 48, 3) := by decide +kernel
theorem dX1_countClashes_9 : decode cX1_countClashes 9 = .ok (.aload_n 0, 1) := by decide +kernel
theorem dX1_countClashes_10 : decode cX1_countClashes 10 = .ok (.iload_n 3, 1) := by decide +kernel
theorem dX1_countClashes_11 : decode cX1_countClashes 11 = .ok (.invokevirtual 21, 3) := by decide +kernel
theorem dX1_countClashes_14 : decode cX1_countClashes 14 = .ok (.ifCond .eq 6, 3) := by decide +kernel
theorem dX1_countClashes_17 : decode cX1_countClashes 17 = .ok (.iinc 2 1, 3) := by decide +kernel
theorem dX1_countClashes_20 : decode cX1_countClashes 20 = .ok (.iconst 0, 1) := by decide +kernel
theorem dX1_countClashes_21 : decode cX1_countClashes 21 = .ok (.istore 4, 2) := by decide +kernel
theorem dX1_countClashes_23 : decode cX1_countClashes 23 = .ok (.iload 4, 2) := by decide +kernel
theorem dX1_countClashes_25 : decode cX1_countClashes 25 = .ok (.iconst 4, 1) := by decide +kernel
theorem dX1_countClashes_26 : decode cX1_countClashes 26 = .ok (.if_icmp .ge 22, 3) := by decide +kernel
theorem dX1_countClashes_29 : decode cX1_countClashes 29 = .ok (.aload_n 0, 1) := by decide +kernel
theorem dX1_countClashes_30 : decode cX1_countClashes 30 = .ok (.iload_n 3, 1) := by decide +kernel
theorem dX1_countClashes_31 : decode cX1_countClashes 31 = .ok (.iload 4, 2) := by decide +kernel
theorem dX1_countClashes_33 : decode cX1_countClashes 33 = .ok (.invokevirtual 25, 3) := by decide +kernel
theorem dX1_countClashes_36 : decode cX1_countClashes 36 = .ok (.ifCond .eq 6, 3) := by decide +kernel
theorem dX1_countClashes_39 : decode cX1_countClashes 39 = .ok (.iinc 2 1, 3) := by decide +kernel
theorem dX1_countClashes_42 : decode cX1_countClashes 42 = .ok (.iinc 4 1, 3) := by decide +kernel
theorem dX1_countClashes_45 : decode cX1_countClashes 45 = .ok (.goto (-22), 3) := by decide +kernel
theorem dX1_countClashes_48 : decode cX1_countClashes 48 = .ok (.iinc 3 1, 3) := by decide +kernel
theorem dX1_countClashes_51 : decode cX1_countClashes 51 = .ok (.goto (-47), 3) := by decide +kernel
theorem dX1_countClashes_54 : decode cX1_countClashes 54 = .ok (.iload_n 2, 1) := by decide +kernel
theorem dX1_countClashes_55 : decode cX1_countClashes 55 = .ok (.ireturn, 1) := by decide +kernel
set_option maxRecDepth 20000 in
theorem ggX1_countSlides_X1_isKept : GoodIn wsX1_countSlides wsX1_isKept := goodIn_r _ [5, 6, 7, 8, 9, 10, 11, 12, 13, 14, 15, 16, 17, 18, 19, 20, 21, 22, 4, 23, 24, 25, 26, 27, 28, 29, 30, 31, 32, 33, 34, 35, 36, 37, 38] (by decide +kernel) (by decide +kernel)
set_option maxRecDepth 20000 in
theorem gX1_countSlides_X1_isKept : GoodIn wsX1_countSlides (wsV RX1 29 RX1 yX1_isKept wsX1_isKept) := goodIn_app (goodIn_of _ (by decide +kernel)) ggX1_countSlides_X1_isKept
theorem dX1_countSlides_0 : decode cX1_countSlides 0 = .ok (.iconst 0, 1) := by decide +kernel
theorem dX1_countSlides_1 : decode cX1_countSlides 1 = .ok (.istore_n 3, 1) := by decide +kernel
theorem dX1_countSlides_2 : decode cX1_countSlides 2 = .ok (.iconst 0, 1) := by decide +kernel
theorem dX1_countSlides_3 : decode cX1_countSlides 3 = .ok (.istore 4, 2) := by decide +kernel
theorem dX1_countSlides_5 : decode cX1_countSlides 5 = .ok (.iload 4, 2) := by decide +kernel
theorem dX1_countSlides_7 : decode cX1_countSlides 7 = .ok (.iload_n 1, 1) := by decide +kernel
theorem dX1_countSlides_8 : decode cX1_countSlides 8 = .ok (.if_icmp .ge 22, 3) := by decide +kernel
theorem dX1_countSlides_11 : decode cX1_countSlides 11 = .ok (.aload_n 0, 1) := by decide +kernel
theorem dX1_countSlides_12 : decode cX1_countSlides 12 = .ok (.iload 4, 2) := by decide +kernel
theorem dX1_countSlides_14 : decode cX1_countSlides 14 = .ok (.iload_n 2, 1) := by decide +kernel
theorem dX1_countSlides_15 : decode cX1_countSlides 15 = .ok (.invokevirtual 29, 3) := by decide +kernel
theorem dX1_countSlides_18 : decode cX1_countSlides 18 = .ok (.ifCond .eq 6, 3) := by decide +kernel
theorem dX1_countSlides_21 : decode cX1_countSlides 21 = .ok (.iinc 3 1, 3) := by decide +kernel
theorem dX1_countSlides_24 : decode cX1_countSlides 24 = .ok (.iinc 4 1, 3) := by decide +kernel
theorem dX1_countSlides_27 : decode cX1_countSlides 27 = .ok (.goto (-22), 3) := by decide +kernel
theorem dX1_countSlides_30 : decode cX1_countSlides 30 = .ok (.iload_n 3, 1) := by decide +kernel
theorem dX1_countSlides_31 : decode cX1_countSlides 31 = .ok (.ireturn, 1) := by decide +kernel
set_option maxRecDepth 20000 in
theorem ggX1_resultOf_X1_isKept : GoodIn wsX1_resultOf wsX1_isKept := goodIn_r _ [5, 6, 7, 8, 9, 10, 11, 12, 13, 14, 15, 16, 17, 18, 19, 20, 21, 22, 4, 23, 24, 25, 26, 27, 28, 29, 30, 31, 32, 45, 46, 47, 48, 49, 50] (by decide +kernel) (by decide +kernel)
set_option maxRecDepth 20000 in
theorem gX1_resultOf_X1_isKept : GoodIn wsX1_resultOf (wsV RX1 29 RX1 yX1_isKept wsX1_isKept) := goodIn_app (goodIn_of _ (by decide +kernel)) ggX1_resultOf_X1_isKept
set_option maxRecDepth 20000 in
theorem ggX1_resultOf_X1_keptValue : GoodIn wsX1_resultOf wsX1_keptValue := goodIn_r _ [36, 7, 6, 8, 9, 10, 11, 12, 13, 14, 15, 16, 17, 18, 19, 37, 38, 39, 40, 28, 29, 30, 31, 32, 41, 42, 43, 4, 44, 45, 46, 47, 48, 49, 50] (by decide +kernel) (by decide +kernel)
set_option maxRecDepth 20000 in
theorem gX1_resultOf_X1_keptValue : GoodIn wsX1_resultOf (wsV RX1 32 RX1 yX1_keptValue wsX1_keptValue) := goodIn_app (goodIn_of _ (by decide +kernel)) ggX1_resultOf_X1_keptValue
theorem dX1_resultOf_0 : decode cX1_resultOf 0 = .ok (.aload_n 0, 1) := by decide +kernel
theorem dX1_resultOf_1 : decode cX1_resultOf 1 = .ok (.iload_n 1, 1) := by decide +kernel
theorem dX1_resultOf_2 : decode cX1_resultOf 2 = .ok (.iload_n 3, 1) := by decide +kernel
theorem dX1_resultOf_3 : decode cX1_resultOf 3 = .ok (.invokevirtual 29, 3) := by decide +kernel
theorem dX1_resultOf_6 : decode cX1_resultOf 6 = .ok (.ifCond .eq 13, 3) := by decide +kernel
theorem dX1_resultOf_9 : decode cX1_resultOf 9 = .ok (.aload_n 0, 1) := by decide +kernel
theorem dX1_resultOf_10 : decode cX1_resultOf 10 = .ok (.iload_n 1, 1) := by decide +kernel
theorem dX1_resultOf_11 : decode cX1_resultOf 11 = .ok (.iload_n 2, 1) := by decide +kernel
theorem dX1_resultOf_12 : decode cX1_resultOf 12 = .ok (.iload_n 3, 1) := by decide +kernel
theorem dX1_resultOf_13 : decode cX1_resultOf 13 = .ok (.invokevirtual 32, 3) := by decide +kernel
theorem dX1_resultOf_16 : decode cX1_resultOf 16 = .ok (.goto 4, 3) := by decide +kernel
theorem dX1_resultOf_19 : decode cX1_resultOf 19 = .ok (.iconst (-1), 1) := by decide +kernel
theorem dX1_resultOf_20 : decode cX1_resultOf 20 = .ok (.ireturn, 1) := by decide +kernel
set_option maxRecDepth 20000 in
theorem ggX1_keptValue_X0_has : GoodIn wsX1_keptValue wsX0_has := goodIn_r _ [8, 9, 10, 11, 7, 12, 13, 14, 32, 33, 34] (by decide +kernel) (by decide +kernel)
set_option maxRecDepth 20000 in
theorem gX1_keptValue_X0_has : GoodIn wsX1_keptValue (wsV RX1 36 RX0 yX0_has wsX0_has) := goodIn_app (goodIn_of _ (by decide +kernel)) ggX1_keptValue_X0_has
set_option maxRecDepth 20000 in
theorem ggX1_keptValue_X0_valueOf : GoodIn wsX1_keptValue wsX0_valueOf := goodIn_r _ [18, 9, 10, 11, 7, 12, 13, 14, 19, 20, 21, 22, 23, 32, 33, 34] (by decide +kernel) (by decide +kernel)
set_option maxRecDepth 20000 in
theorem gX1_keptValue_X0_valueOf : GoodIn wsX1_keptValue (wsV RX1 41 RX0 yX0_valueOf wsX0_valueOf) := goodIn_app (goodIn_of _ (by decide +kernel)) ggX1_keptValue_X0_valueOf
set_option maxRecDepth 20000 in
theorem ggX1_keptValue_X1_isObjectClash : GoodIn wsX1_keptValue wsX1_isObjectClash := goodIn_r _ [28, 2, 1, 3, 4, 5, 6, 7, 8, 9, 10, 11, 12, 13, 14, 15, 16, 17, 18, 19, 20, 21, 22, 23, 29, 30, 31, 32, 33, 34] (by decide +kernel) (by decide +kernel)
set_option maxRecDepth 20000 in
theorem gX1_keptValue_X1_isObjectClash : GoodIn wsX1_keptValue (wsV RX1 25 RX1 yX1_isObjectClash wsX1_isObjectClash) := goodIn_app (goodIn_of _ (by decide +kernel)) ggX1_keptValue_X1_isObjectClash
theorem dX1_keptValue_0 : decode cX1_keptValue 0 = .ok (.aload_n 0, 1) := by decide +kernel
theorem dX1_keptValue_1 : decode cX1_keptValue 1 = .ok (.getfield 18, 3) := by decide +kernel
theorem dX1_keptValue_4 : decode cX1_keptValue 4 = .ok (.iload_n 1, 1) := by decide +kernel
theorem dX1_keptValue_5 : decode cX1_keptValue 5 = .ok (.invokevirtual 36, 3) := by decide +kernel
theorem dX1_keptValue_8 : decode cX1_keptValue 8 = .ok (.ifCond .ne 13, 3) := by decide +kernel
theorem dX1_keptValue_11 : decode cX1_keptValue 11 = .ok (.aload_n 0, 1) := by decide +kernel
theorem dX1_keptValue_12 : decode cX1_keptValue 12 = .ok (.getfield 15, 3) := by decide +kernel
theorem dX1_keptValue_15 : decode cX1_keptValue 15 = .ok (.iload_n 1, 1) := by decide +kernel
theorem dX1_keptValue_16 : decode cX1_keptValue 16 = .ok (.iload_n 2, 1) := by decide +kernel
theorem dX1_keptValue_17 : decode cX1_keptValue 17 = .ok (.invokevirtual 41, 3) := by decide +kernel
theorem dX1_keptValue_20 : decode cX1_keptValue 20 = .ok (.ireturn, 1) := by decide +kernel
theorem dX1_keptValue_21 : decode cX1_keptValue 21 = .ok (.aload_n 0, 1) := by decide +kernel
theorem dX1_keptValue_22 : decode cX1_keptValue 22 = .ok (.getfield 15, 3) := by decide +kernel
theorem dX1_keptValue_25 : decode cX1_keptValue 25 = .ok (.iload_n 1, 1) := by decide +kernel
theorem dX1_keptValue_26 : decode cX1_keptValue 26 = .ok (.invokevirtual 36, 3) := by decide +kernel
theorem dX1_keptValue_29 : decode cX1_keptValue 29 = .ok (.ifCond .ne 13, 3) := by decide +kernel
theorem dX1_keptValue_32 : decode cX1_keptValue 32 = .ok (.aload_n 0, 1) := by decide +kernel
theorem dX1_keptValue_33 : decode cX1_keptValue 33 = .ok (.getfield 18, 3) := by decide +kernel
theorem dX1_keptValue_36 : decode cX1_keptValue 36 = .ok (.iload_n 1, 1) := by decide +kernel
theorem dX1_keptValue_37 : decode cX1_keptValue 37 = .ok (.iload_n 2, 1) := by decide +kernel
theorem dX1_keptValue_38 : decode cX1_keptValue 38 = .ok (.invokevirtual 41, 3) := by decide +kernel
theorem dX1_keptValue_41 : decode cX1_keptValue 41 = .ok (.ireturn, 1) := by decide +kernel
theorem dX1_keptValue_42 : decode cX1_keptValue 42 = .ok (.aload_n 0, 1) := by decide +kernel
theorem dX1_keptValue_43 : decode cX1_keptValue 43 = .ok (.getfield 15, 3) := by decide +kernel
theorem dX1_keptValue_46 : decode cX1_keptValue 46 = .ok (.iload_n 1, 1) := by decide +kernel
theorem dX1_keptValue_47 : decode cX1_keptValue 47 = .ok (.iload_n 2, 1) := by decide +kernel
theorem dX1_keptValue_48 : decode cX1_keptValue 48 = .ok (.invokevirtual 41, 3) := by decide +kernel
theorem dX1_keptValue_51 : decode cX1_keptValue 51 = .ok (.istore 4, 2) := by decide +kernel
theorem dX1_keptValue_53 : decode cX1_keptValue 53 = .ok (.aload_n 0, 1) := by decide +kernel
theorem dX1_keptValue_54 : decode cX1_keptValue 54 = .ok (.getfield 18, 3) := by decide +kernel
theorem dX1_keptValue_57 : decode cX1_keptValue 57 = .ok (.iload_n 1, 1) := by decide +kernel
theorem dX1_keptValue_58 : decode cX1_keptValue 58 = .ok (.iload_n 2, 1) := by decide +kernel
theorem dX1_keptValue_59 : decode cX1_keptValue 59 = .ok (.invokevirtual 41, 3) := by decide +kernel
theorem dX1_keptValue_62 : decode cX1_keptValue 62 = .ok (.istore 5, 2) := by decide +kernel
theorem dX1_keptValue_64 : decode cX1_keptValue 64 = .ok (.aload_n 0, 1) := by decide +kernel
theorem dX1_keptValue_65 : decode cX1_keptValue 65 = .ok (.iload_n 1, 1) := by decide +kernel
theorem dX1_keptValue_66 : decode cX1_keptValue 66 = .ok (.iload_n 2, 1) := by decide +kernel
theorem dX1_keptValue_67 : decode cX1_keptValue 67 = .ok (.invokevirtual 25, 3) := by decide +kernel
theorem dX1_keptValue_70 : decode cX1_keptValue 70 = .ok (.ifCond .eq 16, 3) := by decide +kernel
theorem dX1_keptValue_73 : decode cX1_keptValue 73 = .ok (.iload_n 3, 1) := by decide +kernel
theorem dX1_keptValue_74 : decode cX1_keptValue 74 = .ok (.iconst 1, 1) := by decide +kernel
theorem dX1_keptValue_75 : decode cX1_keptValue 75 = .ok (.if_icmp .ne 8, 3) := by decide +kernel
theorem dX1_keptValue_78 : decode cX1_keptValue 78 = .ok (.iload 5, 2) := by decide +kernel
theorem dX1_keptValue_80 : decode cX1_keptValue 80 = .ok (.goto 5, 3) := by decide +kernel
theorem dX1_keptValue_83 : decode cX1_keptValue 83 = .ok (.iload 4, 2) := by decide +kernel
theorem dX1_keptValue_85 : decode cX1_keptValue 85 = .ok (.ireturn, 1) := by decide +kernel
theorem dX1_keptValue_86 : decode cX1_keptValue 86 = .ok (.iload 4, 2) := by decide +kernel
theorem dX1_keptValue_88 : decode cX1_keptValue 88 = .ok (.aload_n 0, 1) := by decide +kernel
theorem dX1_keptValue_89 : decode cX1_keptValue 89 = .ok (.getfield 9, 3) := by decide +kernel
theorem dX1_keptValue_92 : decode cX1_keptValue 92 = .ok (.iload_n 1, 1) := by decide +kernel
theorem dX1_keptValue_93 : decode cX1_keptValue 93 = .ok (.iload_n 2, 1) := by decide +kernel
theorem dX1_keptValue_94 : decode cX1_keptValue 94 = .ok (.invokevirtual 41, 3) := by decide +kernel
theorem dX1_keptValue_97 : decode cX1_keptValue 97 = .ok (.if_icmp .ne 8, 3) := by decide +kernel
theorem dX1_keptValue_100 : decode cX1_keptValue 100 = .ok (.iload 5, 2) := by decide +kernel
theorem dX1_keptValue_102 : decode cX1_keptValue 102 = .ok (.goto 5, 3) := by decide +kernel
theorem dX1_keptValue_105 : decode cX1_keptValue 105 = .ok (.iload 4, 2) := by decide +kernel
theorem dX1_keptValue_107 : decode cX1_keptValue 107 = .ok (.ireturn, 1) := by decide +kernel
set_option maxRecDepth 20000 in
theorem ggX1_fill_X1_isKept : GoodIn wsX1_fill wsX1_isKept := goodIn_r _ [9, 2, 4, 10, 11, 12, 13, 14, 15, 16, 17, 18, 19, 20, 21, 22, 23, 24, 8, 25, 26, 27, 28, 29, 30, 31, 32, 33, 34, 67, 68, 69, 64, 65, 66] (by decide +kernel) (by decide +kernel)
set_option maxRecDepth 20000 in
theorem gX1_fill_X1_isKept : GoodIn wsX1_fill (wsV RX1 29 RX1 yX1_isKept wsX1_isKept) := goodIn_app (goodIn_of _ (by decide +kernel)) ggX1_fill_X1_isKept
set_option maxRecDepth 20000 in
theorem ggX1_fill_X1_append : GoodIn wsX1_fill wsX1_append := goodIn_r _ [38, 1, 39, 40, 41, 14, 42, 20, 21, 43, 44, 45, 46, 30, 31, 32, 33, 34, 47, 48, 49, 50, 51, 52, 53, 8, 54, 4, 2, 10, 11, 12, 13, 15, 16, 17, 18, 19, 55, 56, 57, 58, 59, 60, 61, 62, 63, 64, 65, 66, 67, 68, 69] (by decide +kernel) (by decide +kernel)
set_option maxRecDepth 20000 in
theorem gX1_fill_X1_append : GoodIn wsX1_fill (wsV RX1 53 RX1 yX1_append wsX1_append) := goodIn_app (goodIn_of _ (by decide +kernel)) ggX1_fill_X1_append
set_option maxRecDepth 20000 in
theorem ggX1_fill_X0_has : GoodIn wsX1_fill wsX0_has := goodIn_r _ [15, 16, 17, 18, 14, 19, 20, 21, 64, 65, 66] (by decide +kernel) (by decide +kernel)
set_option maxRecDepth 20000 in
theorem gX1_fill_X0_has : GoodIn wsX1_fill (wsV RX1 36 RX0 yX0_has wsX0_has) := goodIn_app (goodIn_of _ (by decide +kernel)) ggX1_fill_X0_has
theorem dX1_fill_0 : decode cX1_fill 0 = .ok (.aload_n 1, 1) := by decide +kernel
theorem dX1_fill_1 : decode cX1_fill 1 = .ok (.iconst 0, 1) := by decide +kernel
theorem dX1_fill_2 : decode cX1_fill 2 = .ok (.putfield 45, 3) := by decide +kernel
theorem dX1_fill_5 : decode cX1_fill 5 = .ok (.iconst 0, 1) := by decide +kernel
theorem dX1_fill_6 : decode cX1_fill 6 = .ok (.istore_n 3, 1) := by decide +kernel
theorem dX1_fill_7 : decode cX1_fill 7 = .ok (.iload_n 3, 1) := by decide +kernel
theorem dX1_fill_8 : decode cX1_fill 8 = .ok (.aload_n 0, 1) := by decide +kernel
theorem dX1_fill_9 : decode cX1_fill 9 = .ok (.getfield 15, 3) := by decide +kernel
theorem dX1_fill_12 : decode cX1_fill 12 = .ok (.getfield 45, 3) := by decide +kernel
theorem dX1_fill_15 : decode cX1_fill 15 = .ok (.if_icmp .ge 38, 3) := by decide +kernel
theorem dX1_fill_18 : decode cX1_fill 18 = .ok (.aload_n 0, 1) := by decide +kernel
theorem dX1_fill_19 : decode cX1_fill 19 = .ok (.getfield 15, 3) := by decide +kernel
theorem dX1_fill_22 : decode cX1_fill 22 = .ok (.getfield 49, 3) := by decide +kernel
theorem dX1_fill_25 : decode cX1_fill 25 = .ok (.iload_n 3, 1) := by decide +kernel
theorem dX1_fill_26 : decode cX1_fill 26 = .ok (.iaload, 1) := by decide +kernel
theorem dX1_fill_27 : decode cX1_fill 27 = .ok (.istore 4, 2) := by decide +kernel
theorem dX1_fill_29 : decode cX1_fill 29 = .ok (.aload_n 0, 1) := by decide +kernel
theorem dX1_fill_30 : decode cX1_fill 30 = .ok (.iload 4, 2) := by decide +kernel
theorem dX1_fill_32 : decode cX1_fill 32 = .ok (.iload_n 2, 1) := by decide +kernel
theorem dX1_fill_33 : decode cX1_fill 33 = .ok (.invokevirtual 29, 3) := by decide +kernel
theorem dX1_fill_36 : decode cX1_fill 36 = .ok (.ifCond .eq 11, 3) := by decide +kernel
theorem dX1_fill_39 : decode cX1_fill 39 = .ok (.aload_n 0, 1) := by decide +kernel
theorem dX1_fill_40 : decode cX1_fill 40 = .ok (.aload_n 1, 1) := by decide +kernel
theorem dX1_fill_41 : decode cX1_fill 41 = .ok (.iload 4, 2) := by decide +kernel
theorem dX1_fill_43 : decode cX1_fill 43 = .ok (.iload_n 2, 1) := by decide +kernel
theorem dX1_fill_44 : decode cX1_fill 44 = .ok (.invokevirtual 53, 3) := by decide +kernel
theorem dX1_fill_47 : decode cX1_fill 47 = .ok (.iinc 3 1, 3) := by decide +kernel
theorem dX1_fill_50 : decode cX1_fill 50 = .ok (.goto (-43), 3) := by decide +kernel
theorem dX1_fill_53 : decode cX1_fill 53 = .ok (.iconst 0, 1) := by decide +kernel
theorem dX1_fill_54 : decode cX1_fill 54 = .ok (.istore_n 3, 1) := by decide +kernel
theorem dX1_fill_55 : decode cX1_fill 55 = .ok (.iload_n 3, 1) := by decide +kernel
theorem dX1_fill_56 : decode cX1_fill 56 = .ok (.aload_n 0, 1) := by decide +kernel
theorem dX1_fill_57 : decode cX1_fill 57 = .ok (.getfield 18, 3) := by decide +kernel
theorem dX1_fill_60 : decode cX1_fill 60 = .ok (.getfield 45, 3) := by decide +kernel
theorem dX1_fill_63 : decode cX1_fill 63 = .ok (.if_icmp .ge 50, 3) := by decide +kernel
theorem dX1_fill_66 : decode cX1_fill 66 = .ok (.aload_n 0, 1) := by decide +kernel
theorem dX1_fill_67 : decode cX1_fill 67 = .ok (.getfield 18, 3) := by decide +kernel
theorem dX1_fill_70 : decode cX1_fill 70 = .ok (.getfield 49, 3) := by decide +kernel
theorem dX1_fill_73 : decode cX1_fill 73 = .ok (.iload_n 3, 1) := by decide +kernel
theorem dX1_fill_74 : decode cX1_fill 74 = .ok (.iaload, 1) := by decide +kernel
theorem dX1_fill_75 : decode cX1_fill 75 = .ok (.istore 4, 2) := by decide +kernel
theorem dX1_fill_77 : decode cX1_fill 77 = .ok (.aload_n 0, 1) := by decide +kernel
theorem dX1_fill_78 : decode cX1_fill 78 = .ok (.getfield 15, 3) := by decide +kernel
theorem dX1_fill_81 : decode cX1_fill 81 = .ok (.iload 4, 2) := by decide +kernel
theorem dX1_fill_83 : decode cX1_fill 83 = .ok (.invokevirtual 36, 3) := by decide +kernel
theorem dX1_fill_86 : decode cX1_fill 86 = .ok (.ifCond .ne 21, 3) := by decide +kernel
theorem dX1_fill_89 : decode cX1_fill 89 = .ok (.aload_n 0, 1) := by decide +kernel
theorem dX1_fill_90 : decode cX1_fill 90 = .ok (.iload 4, 2) := by decide +kernel
theorem dX1_fill_92 : decode cX1_fill 92 = .ok (.iload_n 2, 1) := by decide +kernel
theorem dX1_fill_93 : decode cX1_fill 93 = .ok (.invokevirtual 29, 3) := by decide +kernel
theorem dX1_fill_96 : decode cX1_fill 96 = .ok (.ifCond .eq 11, 3) := by decide +kernel
theorem dX1_fill_99 : decode cX1_fill 99 = .ok (.aload_n 0, 1) := by decide +kernel
theorem dX1_fill_100 : decode cX1_fill 100 = .ok (.aload_n 1, 1) := by decide +kernel
theorem dX1_fill_101 : decode cX1_fill 101 = .ok (.iload 4, 2) := by decide +kernel
theorem dX1_fill_103 : decode cX1_fill 103 = .ok (.iload_n 2, 1) := by decide +kernel
theorem dX1_fill_104 : decode cX1_fill 104 = .ok (.invokevirtual 53, 3) := by decide +kernel
theorem dX1_fill_107 : decode cX1_fill 107 = .ok (.iinc 3 1, 3) := by decide +kernel
theorem dX1_fill_110 : decode cX1_fill 110 = .ok (.goto (-55), 3) := by decide +kernel
theorem dX1_fill_113 : decode cX1_fill 113 = .ok (.return_, 1) := by decide +kernel
set_option maxRecDepth 20000 in
theorem ggX1_append_X0_insert : GoodIn wsX1_append wsX0_insert := goodIn_r _ [6, 7, 8, 9, 10, 11, 5, 12, 13, 14, 15, 16, 17, 18, 19, 20, 21, 47, 48, 49] (by decide +kernel) (by decide +kernel)
set_option maxRecDepth 20000 in
theorem gX1_append_X0_insert : GoodIn wsX1_append (wsV RX1 57 RX0 yX0_insert wsX0_insert) := goodIn_app (goodIn_of _ (by decide +kernel)) ggX1_append_X0_insert
set_option maxRecDepth 20000 in
theorem ggX1_append_X1_keptValue : GoodIn wsX1_append wsX1_keptValue := goodIn_r _ [26, 27, 28, 29, 30, 31, 32, 5, 33, 34, 35, 36, 37, 7, 8, 38, 39, 40, 41, 13, 14, 15, 16, 17, 42, 43, 44, 25, 45, 50, 51, 52, 47, 48, 49] (by decide +kernel) (by decide +kernel)
set_option maxRecDepth 20000 in
theorem gX1_append_X1_keptValue : GoodIn wsX1_append (wsV RX1 32 RX1 yX1_keptValue wsX1_keptValue) := goodIn_app (goodIn_of _ (by decide +kernel)) ggX1_append_X1_keptValue
set_option maxRecDepth 20000 in
theorem ggX1_append_X0_put : GoodIn wsX1_append wsX0_put := goodIn_r _ [21, 17, 47, 48, 49] (by decide +kernel) (by decide +kernel)
set_option maxRecDepth 20000 in
theorem gX1_append_X0_put : GoodIn wsX1_append (wsV RX1 61 RX0 yX0_put wsX0_put) := goodIn_app (goodIn_of _ (by decide +kernel)) ggX1_append_X0_put
theorem dX1_append_0 : decode cX1_append 0 = .ok (.aload_n 1, 1) := by decide +kernel
theorem dX1_append_1 : decode cX1_append 1 = .ok (.getfield 45, 3) := by decide +kernel
theorem dX1_append_4 : decode cX1_append 4 = .ok (.istore 4, 2) := by decide +kernel
theorem dX1_append_6 : decode cX1_append 6 = .ok (.aload_n 1, 1) := by decide +kernel
theorem dX1_append_7 : decode cX1_append 7 = .ok (.iload 4, 2) := by decide +kernel
theorem dX1_append_9 : decode cX1_append 9 = .ok (.iload_n 2, 1) := by decide +kernel
theorem dX1_append_10 : decode cX1_append 10 = .ok (.invokevirtual 57, 3) := by decide +kernel
theorem dX1_append_13 : decode cX1_append 13 = .ok (.iconst 0, 1) := by decide +kernel
theorem dX1_append_14 : decode cX1_append 14 = .ok (.istore 5, 2) := by decide +kernel
theorem dX1_append_16 : decode cX1_append 16 = .ok (.iload 5, 2) := by decide +kernel
theorem dX1_append_18 : decode cX1_append 18 = .ok (.iconst 4, 1) := by decide +kernel
theorem dX1_append_19 : decode cX1_append 19 = .ok (.if_icmp .ge 25, 3) := by decide +kernel
theorem dX1_append_22 : decode cX1_append 22 = .ok (.aload_n 1, 1) := by decide +kernel
theorem dX1_append_23 : decode cX1_append 23 = .ok (.iload 4, 2) := by decide +kernel
theorem dX1_append_25 : decode cX1_append 25 = .ok (.iload 5, 2) := by decide +kernel
theorem dX1_append_27 : decode cX1_append 27 = .ok (.aload_n 0, 1) := by decide +kernel
theorem dX1_append_28 : decode cX1_append 28 = .ok (.iload_n 2, 1) := by decide +kernel
theorem dX1_append_29 : decode cX1_append 29 = .ok (.iload 5, 2) := by decide +kernel
theorem dX1_append_31 : decode cX1_append 31 = .ok (.iload_n 3, 1) := by decide +kernel
theorem dX1_append_32 : decode cX1_append 32 = .ok (.invokevirtual 32, 3) := by decide +kernel
theorem dX1_append_35 : decode cX1_append 35 = .ok (.invokevirtual 61, 3) := by decide +kernel
theorem dX1_append_38 : decode cX1_append 38 = .ok (.iinc 5 1, 3) := by decide +kernel
theorem dX1_append_41 : decode cX1_append 41 = .ok (.goto (-25), 3) := by decide +kernel
theorem dX1_append_44 : decode cX1_append 44 = .ok (.return_, 1) := by decide +kernel
set_option maxRecDepth 20000 in
theorem ggX1_isKept_X0_has : GoodIn wsX1_isKept wsX0_has := goodIn_r _ [8, 9, 10, 11, 7, 12, 13, 14, 32, 33, 34] (by decide +kernel) (by decide +kernel)
set_option maxRecDepth 20000 in
theorem gX1_isKept_X0_has : GoodIn wsX1_isKept (wsV RX1 36 RX0 yX0_has wsX0_has) := goodIn_app (goodIn_of _ (by decide +kernel)) ggX1_isKept_X0_has
set_option maxRecDepth 20000 in
theorem ggX1_isKept_X1_isSlideClash : GoodIn wsX1_isKept wsX1_isSlideClash := goodIn_r _ [19, 1, 2, 3, 4, 5, 6, 7, 8, 9, 10, 11, 12, 13, 14, 20, 21, 22, 23, 24, 25, 26, 27, 28, 29, 30, 31, 32, 33, 34] (by decide +kernel) (by decide +kernel)
set_option maxRecDepth 20000 in
theorem gX1_isKept_X1_isSlideClash : GoodIn wsX1_isKept (wsV RX1 21 RX1 yX1_isSlideClash wsX1_isSlideClash) := goodIn_app (goodIn_of _ (by decide +kernel)) ggX1_isKept_X1_isSlideClash
theorem dX1_isKept_0 : decode cX1_isKept 0 = .ok (.aload_n 0, 1) := by decide +kernel
theorem dX1_isKept_1 : decode cX1_isKept 1 = .ok (.getfield 15, 3) := by decide +kernel
theorem dX1_isKept_4 : decode cX1_isKept 4 = .ok (.iload_n 1, 1) := by decide +kernel
theorem dX1_isKept_5 : decode cX1_isKept 5 = .ok (.invokevirtual 36, 3) := by decide +kernel
theorem dX1_isKept_8 : decode cX1_isKept 8 = .ok (.istore_n 3, 1) := by decide +kernel
theorem dX1_isKept_9 : decode cX1_isKept 9 = .ok (.aload_n 0, 1) := by decide +kernel
theorem dX1_isKept_10 : decode cX1_isKept 10 = .ok (.getfield 18, 3) := by decide +kernel
theorem dX1_isKept_13 : decode cX1_isKept 13 = .ok (.iload_n 1, 1) := by decide +kernel
theorem dX1_isKept_14 : decode cX1_isKept 14 = .ok (.invokevirtual 36, 3) := by decide +kernel
theorem dX1_isKept_17 : decode cX1_isKept 17 = .ok (.istore 4, 2) := by decide +kernel
theorem dX1_isKept_19 : decode cX1_isKept 19 = .ok (.iload_n 3, 1) := by decide +kernel
theorem dX1_isKept_20 : decode cX1_isKept 20 = .ok (.iload 4, 2) := by decide +kernel
theorem dX1_isKept_22 : decode cX1_isKept 22 = .ok (.if_icmp .eq 14, 3) := by decide +kernel
theorem dX1_isKept_25 : decode cX1_isKept 25 = .ok (.aload_n 0, 1) := by decide +kernel
theorem dX1_isKept_26 : decode cX1_isKept 26 = .ok (.getfield 9, 3) := by decide +kernel
theorem dX1_isKept_29 : decode cX1_isKept 29 = .ok (.iload_n 1, 1) := by decide +kernel
theorem dX1_isKept_30 : decode cX1_isKept 30 = .ok (.invokevirtual 36, 3) := by decide +kernel
theorem dX1_isKept_33 : decode cX1_isKept 33 = .ok (.ifCond .ne 18, 3) := by decide +kernel
theorem dX1_isKept_36 : decode cX1_isKept 36 = .ok (.iload_n 3, 1) := by decide +kernel
theorem dX1_isKept_37 : decode cX1_isKept 37 = .ok (.ifCond .ne 8, 3) := by decide +kernel
theorem dX1_isKept_40 : decode cX1_isKept 40 = .ok (.iload 4, 2) := by decide +kernel
theorem dX1_isKept_42 : decode cX1_isKept 42 = .ok (.ifCond .eq 7, 3) := by decide +kernel
theorem dX1_isKept_45 : decode cX1_isKept 45 = .ok (.iconst 1, 1) := by decide +kernel
theorem dX1_isKept_46 : decode cX1_isKept 46 = .ok (.goto 4, 3) := by decide +kernel
theorem dX1_isKept_49 : decode cX1_isKept 49 = .ok (.iconst 0, 1) := by decide +kernel
theorem dX1_isKept_50 : decode cX1_isKept 50 = .ok (.ireturn, 1) := by decide +kernel
theorem dX1_isKept_51 : decode cX1_isKept 51 = .ok (.aload_n 0, 1) := by decide +kernel
theorem dX1_isKept_52 : decode cX1_isKept 52 = .ok (.iload_n 1, 1) := by decide +kernel
theorem dX1_isKept_53 : decode cX1_isKept 53 = .ok (.invokevirtual 21, 3) := by decide +kernel
theorem dX1_isKept_56 : decode cX1_isKept 56 = .ok (.ifCond .eq 24, 3) := by decide +kernel
theorem dX1_isKept_59 : decode cX1_isKept 59 = .ok (.iload_n 2, 1) := by decide +kernel
theorem dX1_isKept_60 : decode cX1_isKept 60 = .ok (.iconst 1, 1) := by decide +kernel
theorem dX1_isKept_61 : decode cX1_isKept 61 = .ok (.if_icmp .ne 11, 3) := by decide +kernel
theorem dX1_isKept_64 : decode cX1_isKept 64 = .ok (.iload 4, 2) := by decide +kernel
theorem dX1_isKept_66 : decode cX1_isKept 66 = .ok (.ifCond .eq 14, 3) := by decide +kernel
theorem dX1_isKept_69 : decode cX1_isKept 69 = .ok (.goto 7, 3) := by decide +kernel
theorem dX1_isKept_72 : decode cX1_isKept 72 = .ok (.iload_n 3, 1) := by decide +kernel
theorem dX1_isKept_73 : decode cX1_isKept 73 = .ok (.ifCond .eq 7, 3) := by decide +kernel
theorem dX1_isKept_76 : decode cX1_isKept 76 = .ok (.iconst 1, 1) := by decide +kernel
theorem dX1_isKept_77 : decode cX1_isKept 77 = .ok (.goto 4, 3) := by decide +kernel
theorem dX1_isKept_80 : decode cX1_isKept 80 = .ok (.iconst 0, 1) := by decide +kernel
theorem dX1_isKept_81 : decode cX1_isKept 81 = .ok (.ireturn, 1) := by decide +kernel
set_option maxRecDepth 20000 in
theorem ggX1_isSlideClash_X0_has : GoodIn wsX1_isSlideClash wsX0_has := goodIn_r _ [8, 9, 10, 11, 7, 12, 13, 14, 27, 28, 29] (by decide +kernel) (by decide +kernel)
set_option maxRecDepth 20000 in
theorem gX1_isSlideClash_X0_has : GoodIn wsX1_isSlideClash (wsV RX1 36 RX0 yX0_has wsX0_has) := goodIn_app (goodIn_of _ (by decide +kernel)) ggX1_isSlideClash_X0_has
set_option maxRecDepth 20000 in
theorem ggX1_isSlideClash_X0_isAlike : GoodIn wsX1_isSlideClash wsX0_isAlike := goodIn_r _ [18, 9, 10, 11, 7, 12, 13, 14, 19, 20, 21, 22, 23, 27, 28, 29] (by decide +kernel) (by decide +kernel)
set_option maxRecDepth 20000 in
theorem gX1_isSlideClash_X0_isAlike : GoodIn wsX1_isSlideClash (wsV RX1 65 RX0 yX0_isAlike wsX0_isAlike) := goodIn_app (goodIn_of _ (by decide +kernel)) ggX1_isSlideClash_X0_isAlike
theorem dX1_isSlideClash_0 : decode cX1_isSlideClash 0 = .ok (.aload_n 0, 1) := by decide +kernel
theorem dX1_isSlideClash_1 : decode cX1_isSlideClash 1 = .ok (.getfield 15, 3) := by decide +kernel
theorem dX1_isSlideClash_4 : decode cX1_isSlideClash 4 = .ok (.iload_n 1, 1) := by decide +kernel
theorem dX1_isSlideClash_5 : decode cX1_isSlideClash 5 = .ok (.invokevirtual 36, 3) := by decide +kernel
theorem dX1_isSlideClash_8 : decode cX1_isSlideClash 8 = .ok (.istore_n 2, 1) := by decide +kernel
theorem dX1_isSlideClash_9 : decode cX1_isSlideClash 9 = .ok (.iload_n 2, 1) := by decide +kernel
theorem dX1_isSlideClash_10 : decode cX1_isSlideClash 10 = .ok (.aload_n 0, 1) := by decide +kernel
theorem dX1_isSlideClash_11 : decode cX1_isSlideClash 11 = .ok (.getfield 18, 3) := by decide +kernel
theorem dX1_isSlideClash_14 : decode cX1_isSlideClash 14 = .ok (.iload_n 1, 1) := by decide +kernel
theorem dX1_isSlideClash_15 : decode cX1_isSlideClash 15 = .ok (.invokevirtual 36, 3) := by decide +kernel
theorem dX1_isSlideClash_18 : decode cX1_isSlideClash 18 = .ok (.if_icmp .eq 14, 3) := by decide +kernel
theorem dX1_isSlideClash_21 : decode cX1_isSlideClash 21 = .ok (.aload_n 0, 1) := by decide +kernel
theorem dX1_isSlideClash_22 : decode cX1_isSlideClash 22 = .ok (.getfield 9, 3) := by decide +kernel
theorem dX1_isSlideClash_25 : decode cX1_isSlideClash 25 = .ok (.iload_n 1, 1) := by decide +kernel
theorem dX1_isSlideClash_26 : decode cX1_isSlideClash 26 = .ok (.invokevirtual 36, 3) := by decide +kernel
theorem dX1_isSlideClash_29 : decode cX1_isSlideClash 29 = .ok (.ifCond .ne 5, 3) := by decide +kernel
theorem dX1_isSlideClash_32 : decode cX1_isSlideClash 32 = .ok (.iconst 0, 1) := by decide +kernel
theorem dX1_isSlideClash_33 : decode cX1_isSlideClash 33 = .ok (.ireturn, 1) := by decide +kernel
theorem dX1_isSlideClash_34 : decode cX1_isSlideClash 34 = .ok (.aload_n 0, 1) := by decide +kernel
theorem dX1_isSlideClash_35 : decode cX1_isSlideClash 35 = .ok (.getfield 9, 3) := by decide +kernel
theorem dX1_isSlideClash_38 : decode cX1_isSlideClash 38 = .ok (.iload_n 2, 1) := by decide +kernel
theorem dX1_isSlideClash_39 : decode cX1_isSlideClash 39 = .ok (.ifCond .eq 10, 3) := by decide +kernel
theorem dX1_isSlideClash_42 : decode cX1_isSlideClash 42 = .ok (.aload_n 0, 1) := by decide +kernel
theorem dX1_isSlideClash_43 : decode cX1_isSlideClash 43 = .ok (.getfield 15, 3) := by decide +kernel
theorem dX1_isSlideClash_46 : decode cX1_isSlideClash 46 = .ok (.goto 7, 3) := by decide +kernel
theorem dX1_isSlideClash_49 : decode cX1_isSlideClash 49 = .ok (.aload_n 0, 1) := by decide +kernel
theorem dX1_isSlideClash_50 : decode cX1_isSlideClash 50 = .ok (.getfield 18, 3) := by decide +kernel
theorem dX1_isSlideClash_53 : decode cX1_isSlideClash 53 = .ok (.iload_n 1, 1) := by decide +kernel
theorem dX1_isSlideClash_54 : decode cX1_isSlideClash 54 = .ok (.invokevirtual 65, 3) := by decide +kernel
theorem dX1_isSlideClash_57 : decode cX1_isSlideClash 57 = .ok (.ifCond .ne 7, 3) := by decide +kernel
theorem dX1_isSlideClash_60 : decode cX1_isSlideClash 60 = .ok (.iconst 1, 1) := by decide +kernel
theorem dX1_isSlideClash_61 : decode cX1_isSlideClash 61 = .ok (.goto 4, 3) := by decide +kernel
theorem dX1_isSlideClash_64 : decode cX1_isSlideClash 64 = .ok (.iconst 0, 1) := by decide +kernel
theorem dX1_isSlideClash_65 : decode cX1_isSlideClash 65 = .ok (.ireturn, 1) := by decide +kernel
set_option maxRecDepth 20000 in
theorem ggX1_isObjectClash_X0_has : GoodIn wsX1_isObjectClash wsX0_has := goodIn_r _ [8, 9, 10, 11, 7, 12, 13, 14, 27, 28, 29] (by decide +kernel) (by decide +kernel)
set_option maxRecDepth 20000 in
theorem gX1_isObjectClash_X0_has : GoodIn wsX1_isObjectClash (wsV RX1 36 RX0 yX0_has wsX0_has) := goodIn_app (goodIn_of _ (by decide +kernel)) ggX1_isObjectClash_X0_has
set_option maxRecDepth 20000 in
theorem ggX1_isObjectClash_X0_valueOf : GoodIn wsX1_isObjectClash wsX0_valueOf := goodIn_r _ [18, 9, 10, 11, 7, 12, 13, 14, 19, 20, 21, 22, 23, 27, 28, 29] (by decide +kernel) (by decide +kernel)
set_option maxRecDepth 20000 in
theorem gX1_isObjectClash_X0_valueOf : GoodIn wsX1_isObjectClash (wsV RX1 41 RX0 yX0_valueOf wsX0_valueOf) := goodIn_app (goodIn_of _ (by decide +kernel)) ggX1_isObjectClash_X0_valueOf
theorem dX1_isObjectClash_0 : decode cX1_isObjectClash 0 = .ok (.aload_n 0, 1) := by decide +kernel
theorem dX1_isObjectClash_1 : decode cX1_isObjectClash 1 = .ok (.getfield 15, 3) := by decide +kernel
theorem dX1_isObjectClash_4 : decode cX1_isObjectClash 4 = .ok (.iload_n 1, 1) := by decide +kernel
theorem dX1_isObjectClash_5 : decode cX1_isObjectClash 5 = .ok (.invokevirtual 36, 3) := by decide +kernel
theorem dX1_isObjectClash_8 : decode cX1_isObjectClash 8 = .ok (.ifCond .eq 14, 3) := by decide +kernel
theorem dX1_isObjectClash_11 : decode cX1_isObjectClash 11 = .ok (.aload_n 0, 1) := by decide +kernel
theorem dX1_isObjectClash_12 : decode cX1_isObjectClash 12 = .ok (.getfield 18, 3) := by decide +kernel
theorem dX1_isObjectClash_15 : decode cX1_isObjectClash 15 = .ok (.iload_n 1, 1) := by decide +kernel
theorem dX1_isObjectClash_16 : decode cX1_isObjectClash 16 = .ok (.invokevirtual 36, 3) := by decide +kernel
theorem dX1_isObjectClash_19 : decode cX1_isObjectClash 19 = .ok (.ifCond .ne 5, 3) := by decide +kernel
theorem dX1_isObjectClash_22 : decode cX1_isObjectClash 22 = .ok (.iconst 0, 1) := by decide +kernel
theorem dX1_isObjectClash_23 : decode cX1_isObjectClash 23 = .ok (.ireturn, 1) := by decide +kernel
theorem dX1_isObjectClash_24 : decode cX1_isObjectClash 24 = .ok (.aload_n 0, 1) := by decide +kernel
theorem dX1_isObjectClash_25 : decode cX1_isObjectClash 25 = .ok (.getfield 15, 3) := by decide +kernel
theorem dX1_isObjectClash_28 : decode cX1_isObjectClash 28 = .ok (.iload_n 1, 1) := by decide +kernel
theorem dX1_isObjectClash_29 : decode cX1_isObjectClash 29 = .ok (.iload_n 2, 1) := by decide +kernel
theorem dX1_isObjectClash_30 : decode cX1_isObjectClash 30 = .ok (.invokevirtual 41, 3) := by decide +kernel
theorem dX1_isObjectClash_33 : decode cX1_isObjectClash 33 = .ok (.istore_n 3, 1) := by decide +kernel
theorem dX1_isObjectClash_34 : decode cX1_isObjectClash 34 = .ok (.aload_n 0, 1) := by decide +kernel
theorem dX1_isObjectClash_35 : decode cX1_isObjectClash 35 = .ok (.getfield 18, 3) := by decide +kernel
theorem dX1_isObjectClash_38 : decode cX1_isObjectClash 38 = .ok (.iload_n 1, 1) := by decide +kernel
theorem dX1_isObjectClash_39 : decode cX1_isObjectClash 39 = .ok (.iload_n 2, 1) := by decide +kernel
theorem dX1_isObjectClash_40 : decode cX1_isObjectClash 40 = .ok (.invokevirtual 41, 3) := by decide +kernel
theorem dX1_isObjectClash_43 : decode cX1_isObjectClash 43 = .ok (.istore 4, 2) := by decide +kernel
theorem dX1_isObjectClash_45 : decode cX1_isObjectClash 45 = .ok (.aload_n 0, 1) := by decide +kernel
theorem dX1_isObjectClash_46 : decode cX1_isObjectClash 46 = .ok (.getfield 9, 3) := by decide +kernel
theorem dX1_isObjectClash_49 : decode cX1_isObjectClash 49 = .ok (.iload_n 1, 1) := by decide +kernel
theorem dX1_isObjectClash_50 : decode cX1_isObjectClash 50 = .ok (.iload_n 2, 1) := by decide +kernel
theorem dX1_isObjectClash_51 : decode cX1_isObjectClash 51 = .ok (.invokevirtual 41, 3) := by decide +kernel
theorem dX1_isObjectClash_54 : decode cX1_isObjectClash 54 = .ok (.istore 5, 2) := by decide +kernel
theorem dX1_isObjectClash_56 : decode cX1_isObjectClash 56 = .ok (.iload_n 3, 1) := by decide +kernel
theorem dX1_isObjectClash_57 : decode cX1_isObjectClash 57 = .ok (.iload 4, 2) := by decide +kernel
theorem dX1_isObjectClash_59 : decode cX1_isObjectClash 59 = .ok (.if_icmp .eq 20, 3) := by decide +kernel
theorem dX1_isObjectClash_62 : decode cX1_isObjectClash 62 = .ok (.iload_n 3, 1) := by decide +kernel
theorem dX1_isObjectClash_63 : decode cX1_isObjectClash 63 = .ok (.iload 5, 2) := by decide +kernel
theorem dX1_isObjectClash_65 : decode cX1_isObjectClash 65 = .ok (.if_icmp .eq 14, 3) := by decide +kernel
theorem dX1_isObjectClash_68 : decode cX1_isObjectClash 68 = .ok (.iload 4, 2) := by decide +kernel
theorem dX1_isObjectClash_70 : decode cX1_isObjectClash 70 = .ok (.iload 5, 2) := by decide +kernel
theorem dX1_isObjectClash_72 : decode cX1_isObjectClash 72 = .ok (.if_icmp .eq 7, 3) := by decide +kernel
theorem dX1_isObjectClash_75 : decode cX1_isObjectClash 75 = .ok (.iconst 1, 1) := by decide +kernel
theorem dX1_isObjectClash_76 : decode cX1_isObjectClash 76 = .ok (.goto 4, 3) := by decide +kernel
theorem dX1_isObjectClash_79 : decode cX1_isObjectClash 79 = .ok (.iconst 0, 1) := by decide +kernel
theorem dX1_isObjectClash_80 : decode cX1_isObjectClash 80 = .ok (.ireturn, 1) := by decide +kernel
theorem dX2_init_0 : decode cX2_init 0 = .ok (.aload_n 0, 1) := by decide +kernel
theorem dX2_init_1 : decode cX2_init 1 = .ok (.invokespecial 1, 3) := by decide +kernel
theorem dX2_init_4 : decode cX2_init 4 = .ok (.return_, 1) := by decide +kernel
set_option maxRecDepth 20000 in
theorem ggX2_isBrokenAt_X0_valueAt : GoodIn wsX2_isBrokenAt wsX0_valueAt := goodIn_r _ [8, 9, 14, 15, 16] (by decide +kernel) (by decide +kernel)
set_option maxRecDepth 20000 in
theorem gX2_isBrokenAt_X0_valueAt : GoodIn wsX2_isBrokenAt (wsV RX2 13 RX0 yX0_valueAt wsX0_valueAt) := goodIn_app (goodIn_of _ (by decide +kernel)) ggX2_isBrokenAt_X0_valueAt
theorem dX2_isBrokenAt_0 : decode cX2_isBrokenAt 0 = .ok (.aload_n 1, 1) := by decide +kernel
theorem dX2_isBrokenAt_1 : decode cX2_isBrokenAt 1 = .ok (.iload_n 2, 1) := by decide +kernel
theorem dX2_isBrokenAt_2 : decode cX2_isBrokenAt 2 = .ok (.aload_n 0, 1) := by decide +kernel
theorem dX2_isBrokenAt_3 : decode cX2_isBrokenAt 3 = .ok (.getfield 7, 3) := by decide +kernel
theorem dX2_isBrokenAt_6 : decode cX2_isBrokenAt 6 = .ok (.invokevirtual 13, 3) := by decide +kernel
theorem dX2_isBrokenAt_9 : decode cX2_isBrokenAt 9 = .ok (.istore_n 3, 1) := by decide +kernel
theorem dX2_isBrokenAt_10 : decode cX2_isBrokenAt 10 = .ok (.iload_n 3, 1) := by decide +kernel
theorem dX2_isBrokenAt_11 : decode cX2_isBrokenAt 11 = .ok (.ifCond .eq 23, 3) := by decide +kernel
theorem dX2_isBrokenAt_14 : decode cX2_isBrokenAt 14 = .ok (.iload_n 3, 1) := by decide +kernel
theorem dX2_isBrokenAt_15 : decode cX2_isBrokenAt 15 = .ok (.aload_n 0, 1) := by decide +kernel
theorem dX2_isBrokenAt_16 : decode cX2_isBrokenAt 16 = .ok (.getfield 19, 3) := by decide +kernel
theorem dX2_isBrokenAt_19 : decode cX2_isBrokenAt 19 = .ok (.if_icmp .lt 11, 3) := by decide +kernel
theorem dX2_isBrokenAt_22 : decode cX2_isBrokenAt 22 = .ok (.iload_n 3, 1) := by decide +kernel
theorem dX2_isBrokenAt_23 : decode cX2_isBrokenAt 23 = .ok (.aload_n 0, 1) := by decide +kernel
theorem dX2_isBrokenAt_24 : decode cX2_isBrokenAt 24 = .ok (.getfield 22, 3) := by decide +kernel
theorem dX2_isBrokenAt_27 : decode cX2_isBrokenAt 27 = .ok (.if_icmp .le 7, 3) := by decide +kernel
theorem dX2_isBrokenAt_30 : decode cX2_isBrokenAt 30 = .ok (.iconst 1, 1) := by decide +kernel
theorem dX2_isBrokenAt_31 : decode cX2_isBrokenAt 31 = .ok (.goto 4, 3) := by decide +kernel
theorem dX2_isBrokenAt_34 : decode cX2_isBrokenAt 34 = .ok (.iconst 0, 1) := by decide +kernel
theorem dX2_isBrokenAt_35 : decode cX2_isBrokenAt 35 = .ok (.ireturn, 1) := by decide +kernel
set_option maxRecDepth 20000 in
theorem ggX3_init_X0_init : GoodIn wsX3_init wsX0_init := goodIn_r _ [11, 12, 2, 3, 13, 14, 15, 16, 17, 18] (by decide +kernel) (by decide +kernel)
set_option maxRecDepth 20000 in
theorem gX3_init_X0_init_n11 : GoodIn wsX3_init (wsX0_init) := ggX3_init_X0_init
theorem dX3_init_0 : decode cX3_init 0 = .ok (.aload_n 0, 1) := by decide +kernel
theorem dX3_init_1 : decode cX3_init 1 = .ok (.invokespecial 3, 3) := by decide +kernel
theorem dX3_init_4 : decode cX3_init 4 = .ok (.aload_n 0, 1) := by decide +kernel
theorem dX3_init_5 : decode cX3_init 5 = .ok (.new 9, 3) := by decide +kernel
theorem dX3_init_8 : decode cX3_init 8 = .ok (.dup, 1) := by decide +kernel
theorem dX3_init_9 : decode cX3_init 9 = .ok (.invokespecial 11, 3) := by decide +kernel
theorem dX3_init_12 : decode cX3_init 12 = .ok (.putfield 12, 3) := by decide +kernel
theorem dX3_init_15 : decode cX3_init 15 = .ok (.aload_n 0, 1) := by decide +kernel
theorem dX3_init_16 : decode cX3_init 16 = .ok (.iconst (-1), 1) := by decide +kernel
theorem dX3_init_17 : decode cX3_init 17 = .ok (.putfield 18, 3) := by decide +kernel
theorem dX3_init_20 : decode cX3_init 20 = .ok (.aload_n 0, 1) := by decide +kernel
theorem dX3_init_21 : decode cX3_init 21 = .ok (.iconst (-1), 1) := by decide +kernel
theorem dX3_init_22 : decode cX3_init 22 = .ok (.putfield 22, 3) := by decide +kernel
theorem dX3_init_25 : decode cX3_init 25 = .ok (.return_, 1) := by decide +kernel
theorem dX4_init_0 : decode cX4_init 0 = .ok (.aload_n 0, 1) := by decide +kernel
theorem dX4_init_1 : decode cX4_init 1 = .ok (.invokespecial 1, 3) := by decide +kernel
theorem dX4_init_4 : decode cX4_init 4 = .ok (.return_, 1) := by decide +kernel
