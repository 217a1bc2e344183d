theorem dX8_init_5 : decode cX8_init 5 = .ok (.bipush 32, 2) := by decide +kernel
theorem dX8_init_7 : decode cX8_init 7 = .ok (.newarray .boolean, 2) := by decide +kernel
theorem dX8_init_9 : decode cX8_init 9 = .ok (.putfield 9, 3) := by decide +kernel
theorem dX8_init_12 : decode cX8_init 12 = .ok (.aload_n 0, 1) := by decide +kernel
theorem dX8_init_13 : decode cX8_init 13 = .ok (.bipush 32, 2) := by decide +kernel
theorem dX8_init_15 : decode cX8_init 15 = .ok (.newarray .int, 2) := by decide +kernel
theorem dX8_init_17 : decode cX8_init 17 = .ok (.putfield 15, 3) := by decide +kernel
theorem dX8_init_20 : decode cX8_init 20 = .ok (.aload_n 0, 1) := by decide +kernel
theorem dX8_init_21 : decode cX8_init 21 = .ok (.bipush 32, 2) := by decide +kernel
theorem dX8_init_23 : decode cX8_init 23 = .ok (.newarray .int, 2) := by decide +kernel
theorem dX8_init_25 : decode cX8_init 25 = .ok (.putfield 19, 3) := by decide +kernel
theorem dX8_init_28 : decode cX8_init 28 = .ok (.aload_n 0, 1) := by decide +kernel
theorem dX8_init_29 : decode cX8_init 29 = .ok (.iconst 0, 1) := by decide +kernel
theorem dX8_init_30 : decode cX8_init 30 = .ok (.putfield 22, 3) := by decide +kernel
theorem dX8_init_33 : decode cX8_init 33 = .ok (.return_, 1) := by decide +kernel
theorem dX8_add_0 : decode cX8_add 0 = .ok (.aload_n 0, 1) := by decide +kernel
theorem dX8_add_1 : decode cX8_add 1 = .ok (.getfield 9, 3) := by decide +kernel
theorem dX8_add_4 : decode cX8_add 4 = .ok (.iload_n 1, 1) := by decide +kernel
theorem dX8_add_5 : decode cX8_add 5 = .ok (.baload, 1) := by decide +kernel
theorem dX8_add_6 : decode cX8_add 6 = .ok (.ifCond .ne 27, 3) := by decide +kernel
theorem dX8_add_9 : decode cX8_add 9 = .ok (.aload_n 0, 1) := by decide +kernel
theorem dX8_add_10 : decode cX8_add 10 = .ok (.getfield 9, 3) := by decide +kernel
theorem dX8_add_13 : decode cX8_add 13 = .ok (.iload_n 1, 1) := by decide +kernel
theorem dX8_add_14 : decode cX8_add 14 = .ok (.iconst 1, 1) := by decide +kernel
theorem dX8_add_15 : decode cX8_add 15 = .ok (.bastore, 1) := by decide +kernel
theorem dX8_add_16 : decode cX8_add 16 = .ok (.aload_n 0, 1) := by decide +kernel
theorem dX8_add_17 : decode cX8_add 17 = .ok (.getfield 19, 3) := by decide +kernel
theorem dX8_add_20 : decode cX8_add 20 = .ok (.iload_n 1, 1) := by decide +kernel
theorem dX8_add_21 : decode cX8_add 21 = .ok (.iload_n 3, 1) := by decide +kernel
theorem dX8_add_22 : decode cX8_add 22 = .ok (.iastore, 1) := by decide +kernel
theorem dX8_add_23 : decode cX8_add 23 = .ok (.aload_n 0, 1) := by decide +kernel
theorem dX8_add_24 : decode cX8_add 24 = .ok (.dup, 1) := by decide +kernel
theorem dX8_add_25 : decode cX8_add 25 = .ok (.getfield 22, 3) := by decide +kernel
theorem dX8_add_28 : decode cX8_add 28 = .ok (.iconst 1, 1) := by decide +kernel
theorem dX8_add_29 : decode cX8_add 29 = .ok (.iadd, 1) := by decide +kernel
theorem dX8_add_30 : decode cX8_add 30 = .ok (.putfield 22, 3) := by decide +kernel
theorem dX8_add_33 : decode cX8_add 33 = .ok (.aload_n 0, 1) := by decide +kernel
theorem dX8_add_34 : decode cX8_add 34 = .ok (.getfield 15, 3) := by decide +kernel
theorem dX8_add_37 : decode cX8_add 37 = .ok (.iload_n 1, 1) := by decide +kernel
theorem dX8_add_38 : decode cX8_add 38 = .ok (.iload_n 2, 1) := by decide +kernel
theorem dX8_add_39 : decode cX8_add 39 = .ok (.iastore, 1) := by decide +kernel
theorem dX8_add_40 : decode cX8_add 40 = .ok (.return_, 1) := by decide +kernel
theorem dX8_remove_0 : decode cX8_remove 0 = .ok (.aload_n 0, 1) := by decide +kernel
theorem dX8_remove_1 : decode cX8_remove 1 = .ok (.getfield 9, 3) := by decide +kernel
theorem dX8_remove_4 : decode cX8_remove 4 = .ok (.iload_n 1, 1) := by decide +kernel
theorem dX8_remove_5 : decode cX8_remove 5 = .ok (.baload, 1) := by decide +kernel
theorem dX8_remove_6 : decode cX8_remove 6 = .ok (.ifCond .eq 20, 3) := by decide +kernel
theorem dX8_remove_9 : decode cX8_remove 9 = .ok (.aload_n 0, 1) := by decide +kernel
theorem dX8_remove_10 : decode cX8_remove 10 = .ok (.getfield 9, 3) := by decide +kernel
theorem dX8_remove_13 : decode cX8_remove 13 = .ok (.iload_n 1, 1) := by decide +kernel
theorem dX8_remove_14 : decode cX8_remove 14 = .ok (.iconst 0, 1) := by decide +kernel
theorem dX8_remove_15 : decode cX8_remove 15 = .ok (.bastore, 1) := by decide +kernel
theorem dX8_remove_16 : decode cX8_remove 16 = .ok (.aload_n 0, 1) := by decide +kernel
theorem dX8_remove_17 : decode cX8_remove 17 = .ok (.dup, 1) := by decide +kernel
theorem dX8_remove_18 : decode cX8_remove 18 = .ok (.getfield 22, 3) := by decide +kernel
theorem dX8_remove_21 : decode cX8_remove 21 = .ok (.iconst 1, 1) := by decide +kernel
theorem dX8_remove_22 : decode cX8_remove 22 = .ok (.isub, 1) := by decide +kernel
theorem dX8_remove_23 : decode cX8_remove 23 = .ok (.putfield 22, 3) := by decide +kernel
theorem dX8_remove_26 : decode cX8_remove 26 = .ok (.return_, 1) := by decide +kernel
set_option maxRecDepth 20000 in
theorem ggX8_nextOf_X8_isBefore : GoodIn wsX8_nextOf wsX8_isBefore := goodIn_ca (goodIn_r _ [7, 8, 9, 10, 11, 12, 13, 14, 15, 16, 17] (by decide +kernel) (by decide +kernel)) (goodIn_sub (fun _ h => List.mem_cons_of_mem _ (List.mem_append_right _ h)) (by decide +kernel))
set_option maxRecDepth 20000 in
theorem gX8_nextOf_X8_isBefore : GoodIn wsX8_nextOf (wsV RX8 31 RX8 yX8_isBefore wsX8_isBefore) := goodIn_app (goodIn_of _ (by decide +kernel)) ggX8_nextOf_X8_isBefore
theorem dX8_nextOf_0 : decode cX8_nextOf 0 = .ok (.iconst (-1), 1) := by decide +kernel
theorem dX8_nextOf_1 : decode cX8_nextOf 1 = .ok (.istore_n 3, 1) := by decide +kernel
theorem dX8_nextOf_2 : decode cX8_nextOf 2 = .ok (.iconst 0, 1) := by decide +kernel
theorem dX8_nextOf_3 : decode cX8_nextOf 3 = .ok (.istore 4, 2) := by decide +kernel
theorem dX8_nextOf_5 : decode cX8_nextOf 5 = .ok (.iload 4, 2) := by decide +kernel
theorem dX8_nextOf_7 : decode cX8_nextOf 7 = .ok (.bipush 32, 2) := by decide +kernel
theorem dX8_nextOf_9 : decode cX8_nextOf 9 = .ok (.if_icmp .ge 66, 3) := by decide +kernel
theorem dX8_nextOf_12 : decode cX8_nextOf 12 = .ok (.aload_n 0, 1) := by decide +kernel
theorem dX8_nextOf_13 : decode cX8_nextOf 13 = .ok (.getfield 9, 3) := by decide +kernel
theorem dX8_nextOf_16 : decode cX8_nextOf 16 = .ok (.iload 4, 2) := by decide +kernel
theorem dX8_nextOf_18 : decode cX8_nextOf 18 = .ok (.baload, 1) := by decide +kernel
theorem dX8_nextOf_19 : decode cX8_nextOf 19 = .ok (.ifCond .eq 23, 3) := by decide +kernel
theorem dX8_nextOf_22 : decode cX8_nextOf 22 = .ok (.iload_n 2, 1) := by decide +kernel
theorem dX8_nextOf_23 : decode cX8_nextOf 23 = .ok (.iconst (-1), 1) := by decide +kernel
theorem dX8_nextOf_24 : decode cX8_nextOf 24 = .ok (.if_icmp .eq 14, 3) := by decide +kernel
theorem dX8_nextOf_27 : decode cX8_nextOf 27 = .ok (.aload_n 1, 1) := by decide +kernel
theorem dX8_nextOf_28 : decode cX8_nextOf 28 = .ok (.getfield 26, 3) := by decide +kernel
theorem dX8_nextOf_31 : decode cX8_nextOf 31 = .ok (.iload 4, 2) := by decide +kernel
theorem dX8_nextOf_33 : decode cX8_nextOf 33 = .ok (.iaload, 1) := by decide +kernel
theorem dX8_nextOf_34 : decode cX8_nextOf 34 = .ok (.iload_n 2, 1) := by decide +kernel
theorem dX8_nextOf_35 : decode cX8_nextOf 35 = .ok (.if_icmp .ne 7, 3) := by decide +kernel
theorem dX8_nextOf_38 : decode cX8_nextOf 38 = .ok (.iconst 1, 1) := by decide +kernel
theorem dX8_nextOf_39 : decode cX8_nextOf 39 = .ok (.goto 4, 3) := by decide +kernel
theorem dX8_nextOf_42 : decode cX8_nextOf 42 = .ok (.iconst 0, 1) := by decide +kernel
theorem dX8_nextOf_43 : decode cX8_nextOf 43 = .ok (.istore 5, 2) := by decide +kernel
theorem dX8_nextOf_45 : decode cX8_nextOf 45 = .ok (.iload 5, 2) := by decide +kernel
theorem dX8_nextOf_47 : decode cX8_nextOf 47 = .ok (.ifCond .eq 22, 3) := by decide +kernel
theorem dX8_nextOf_50 : decode cX8_nextOf 50 = .ok (.iload_n 3, 1) := by decide +kernel
theorem dX8_nextOf_51 : decode cX8_nextOf 51 = .ok (.iconst (-1), 1) := by decide +kernel
theorem dX8_nextOf_52 : decode cX8_nextOf 52 = .ok (.if_icmp .eq 14, 3) := by decide +kernel
theorem dX8_nextOf_55 : decode cX8_nextOf 55 = .ok (.aload_n 0, 1) := by decide +kernel
theorem dX8_nextOf_56 : decode cX8_nextOf 56 = .ok (.aload_n 1, 1) := by decide +kernel
theorem dX8_nextOf_57 : decode cX8_nextOf 57 = .ok (.iload 4, 2) := by decide +kernel
theorem dX8_nextOf_59 : decode cX8_nextOf 59 = .ok (.iload_n 3, 1) := by decide +kernel
theorem dX8_nextOf_60 : decode cX8_nextOf 60 = .ok (.invokevirtual 31, 3) := by decide +kernel
theorem dX8_nextOf_63 : decode cX8_nextOf 63 = .ok (.ifCond .eq 6, 3) := by decide +kernel
theorem dX8_nextOf_66 : decode cX8_nextOf 66 = .ok (.iload 4, 2) := by decide +kernel
theorem dX8_nextOf_68 : decode cX8_nextOf 68 = .ok (.istore_n 3, 1) := by decide +kernel
theorem dX8_nextOf_69 : decode cX8_nextOf 69 = .ok (.iinc 4 1, 3) := by decide +kernel
theorem dX8_nextOf_72 : decode cX8_nextOf 72 = .ok (.goto (-67), 3) := by decide +kernel
theorem dX8_nextOf_75 : decode cX8_nextOf 75 = .ok (.iload_n 3, 1) := by decide +kernel
theorem dX8_nextOf_76 : decode cX8_nextOf 76 = .ok (.ireturn, 1) := by decide +kernel
theorem dX8_isBefore_0 : decode cX8_isBefore 0 = .ok (.aload_n 0, 1) := by decide +kernel
theorem dX8_isBefore_1 : decode cX8_isBefore 1 = .ok (.getfield 19, 3) := by decide +kernel
theorem dX8_isBefore_4 : decode cX8_isBefore 4 = .ok (.iload_n 2, 1) := by decide +kernel
theorem dX8_isBefore_5 : decode cX8_isBefore 5 = .ok (.iaload, 1) := by decide +kernel
theorem dX8_isBefore_6 : decode cX8_isBefore 6 = .ok (.aload_n 0, 1) := by decide +kernel
theorem dX8_isBefore_7 : decode cX8_isBefore 7 = .ok (.getfield 19, 3) := by decide +kernel
theorem dX8_isBefore_10 : decode cX8_isBefore 10 = .ok (.iload_n 3, 1) := by decide +kernel
theorem dX8_isBefore_11 : decode cX8_isBefore 11 = .ok (.iaload, 1) := by decide +kernel
theorem dX8_isBefore_12 : decode cX8_isBefore 12 = .ok (.if_icmp .lt 33, 3) := by decide +kernel
theorem dX8_isBefore_15 : decode cX8_isBefore 15 = .ok (.aload_n 0, 1) := by decide +kernel
theorem dX8_isBefore_16 : decode cX8_isBefore 16 = .ok (.getfield 19, 3) := by decide +kernel
theorem dX8_isBefore_19 : decode cX8_isBefore 19 = .ok (.iload_n 2, 1) := by decide +kernel
theorem dX8_isBefore_20 : decode cX8_isBefore 20 = .ok (.iaload, 1) := by decide +kernel
theorem dX8_isBefore_21 : decode cX8_isBefore 21 = .ok (.aload_n 0, 1) := by decide +kernel
theorem dX8_isBefore_22 : decode cX8_isBefore 22 = .ok (.getfield 19, 3) := by decide +kernel
theorem dX8_isBefore_25 : decode cX8_isBefore 25 = .ok (.iload_n 3, 1) := by decide +kernel
theorem dX8_isBefore_26 : decode cX8_isBefore 26 = .ok (.iaload, 1) := by decide +kernel
theorem dX8_isBefore_27 : decode cX8_isBefore 27 = .ok (.if_icmp .ne 22, 3) := by decide +kernel
theorem dX8_isBefore_30 : decode cX8_isBefore 30 = .ok (.aload_n 1, 1) := by decide +kernel
theorem dX8_isBefore_31 : decode cX8_isBefore 31 = .ok (.getfield 35, 3) := by decide +kernel
theorem dX8_isBefore_34 : decode cX8_isBefore 34 = .ok (.iload_n 2, 1) := by decide +kernel
theorem dX8_isBefore_35 : decode cX8_isBefore 35 = .ok (.iaload, 1) := by decide +kernel
theorem dX8_isBefore_36 : decode cX8_isBefore 36 = .ok (.aload_n 1, 1) := by decide +kernel
theorem dX8_isBefore_37 : decode cX8_isBefore 37 = .ok (.getfield 35, 3) := by decide +kernel
theorem dX8_isBefore_40 : decode cX8_isBefore 40 = .ok (.iload_n 3, 1) := by decide +kernel
theorem dX8_isBefore_41 : decode cX8_isBefore 41 = .ok (.iaload, 1) := by decide +kernel
theorem dX8_isBefore_42 : decode cX8_isBefore 42 = .ok (.if_icmp .le 7, 3) := by decide +kernel
theorem dX8_isBefore_45 : decode cX8_isBefore 45 = .ok (.iconst 1, 1) := by decide +kernel
theorem dX8_isBefore_46 : decode cX8_isBefore 46 = .ok (.goto 4, 3) := by decide +kernel
theorem dX8_isBefore_49 : decode cX8_isBefore 49 = .ok (.iconst 0, 1) := by decide +kernel
theorem dX8_isBefore_50 : decode cX8_isBefore 50 = .ok (.ireturn, 1) := by decide +kernel
theorem dX9_init_0 : decode cX9_init 0 = .ok (.aload_n 0, 1) := by decide +kernel
theorem dX9_init_1 : decode cX9_init 1 = .ok (.invokespecial 3, 3) := by decide +kernel
theorem dX9_init_4 : decode cX9_init 4 = .ok (.aload_n 0, 1) := by decide +kernel
theorem dX9_init_5 : decode cX9_init 5 = .ok (.bipush 64, 2) := by decide +kernel
theorem dX9_init_7 : decode cX9_init 7 = .ok (.newarray .int, 2) := by decide +kernel
theorem dX9_init_9 : decode cX9_init 9 = .ok (.putfield 9, 3) := by decide +kernel
theorem dX9_init_12 : decode cX9_init 12 = .ok (.aload_n 0, 1) := by decide +kernel
theorem dX9_init_13 : decode cX9_init 13 = .ok (.iconst 0, 1) := by decide +kernel
theorem dX9_init_14 : decode cX9_init 14 = .ok (.putfield 15, 3) := by decide +kernel
theorem dX9_init_17 : decode cX9_init 17 = .ok (.return_, 1) := by decide +kernel
theorem dX9_placeOf_0 : decode cX9_placeOf 0 = .ok (.iload_n 1, 1) := by decide +kernel
theorem dX9_placeOf_1 : decode cX9_placeOf 1 = .ok (.bipush 16, 2) := by decide +kernel
theorem dX9_placeOf_3 : decode cX9_placeOf 3 = .ok (.imul, 1) := by decide +kernel
theorem dX9_placeOf_4 : decode cX9_placeOf 4 = .ok (.iload_n 0, 1) := by decide +kernel
theorem dX9_placeOf_5 : decode cX9_placeOf 5 = .ok (.getstatic 19, 3) := by decide +kernel
theorem dX9_placeOf_8 : decode cX9_placeOf 8 = .ok (.iload_n 1, 1) := by decide +kernel
theorem dX9_placeOf_9 : decode cX9_placeOf 9 = .ok (.iaload, 1) := by decide +kernel
theorem dX9_placeOf_10 : decode cX9_placeOf 10 = .ok (.imul, 1) := by decide +kernel
theorem dX9_placeOf_11 : decode cX9_placeOf 11 = .ok (.iconst 3, 1) := by decide +kernel
theorem dX9_placeOf_12 : decode cX9_placeOf 12 = .ok (.iload_n 1, 1) := by decide +kernel
theorem dX9_placeOf_13 : decode cX9_placeOf 13 = .ok (.imul, 1) := by decide +kernel
theorem dX9_placeOf_14 : decode cX9_placeOf 14 = .ok (.iadd, 1) := by decide +kernel
theorem dX9_placeOf_15 : decode cX9_placeOf 15 = .ok (.bipush 15, 2) := by decide +kernel
theorem dX9_placeOf_17 : decode cX9_placeOf 17 = .ok (.iand, 1) := by decide +kernel
theorem dX9_placeOf_18 : decode cX9_placeOf 18 = .ok (.iadd, 1) := by decide +kernel
theorem dX9_placeOf_19 : decode cX9_placeOf 19 = .ok (.ireturn, 1) := by decide +kernel
set_option maxRecDepth 20000 in
theorem ggX9_leastOf_X9_placeOf : GoodIn wsX9_leastOf wsX9_placeOf := goodIn_ca (goodIn_r _ [5] (by decide +kernel) (by decide +kernel)) (goodIn_sub (fun _ h => List.mem_cons_of_mem _ (List.mem_append_right _ h)) (by decide +kernel))
set_option maxRecDepth 20000 in
theorem gX9_leastOf_X9_placeOf : GoodIn wsX9_leastOf (va_wsS RX9 22 yX9_placeOf wsX9_placeOf) := goodIn_app (goodIn_of _ (by decide +kernel)) ggX9_leastOf_X9_placeOf
theorem dX9_leastOf_0 : decode cX9_leastOf 0 = .ok (.bipush 15, 2) := by decide +kernel
theorem dX9_leastOf_2 : decode cX9_leastOf 2 = .ok (.istore_n 2, 1) := by decide +kernel
theorem dX9_leastOf_3 : decode cX9_leastOf 3 = .ok (.iconst 0, 1) := by decide +kernel
theorem dX9_leastOf_4 : decode cX9_leastOf 4 = .ok (.istore_n 3, 1) := by decide +kernel
theorem dX9_leastOf_5 : decode cX9_leastOf 5 = .ok (.iload_n 3, 1) := by decide +kernel
theorem dX9_leastOf_6 : decode cX9_leastOf 6 = .ok (.iconst 4, 1) := by decide +kernel
theorem dX9_leastOf_7 : decode cX9_leastOf 7 = .ok (.if_icmp .ge 34, 3) := by decide +kernel
theorem dX9_leastOf_10 : decode cX9_leastOf 10 = .ok (.aload_n 0, 1) := by decide +kernel
theorem dX9_leastOf_11 : decode cX9_leastOf 11 = .ok (.getfield 9, 3) := by decide +kernel
theorem dX9_leastOf_14 : decode cX9_leastOf 14 = .ok (.iload_n 1, 1) := by decide +kernel
theorem dX9_leastOf_15 : decode cX9_leastOf 15 = .ok (.iload_n 3, 1) := by decide +kernel
theorem dX9_leastOf_16 : decode cX9_leastOf 16 = .ok (.invokestatic 22, 3) := by decide +kernel
theorem dX9_leastOf_19 : decode cX9_leastOf 19 = .ok (.iaload, 1) := by decide +kernel
theorem dX9_leastOf_20 : decode cX9_leastOf 20 = .ok (.istore 4, 2) := by decide +kernel
theorem dX9_leastOf_22 : decode cX9_leastOf 22 = .ok (.iload 4, 2) := by decide +kernel
theorem dX9_leastOf_24 : decode cX9_leastOf 24 = .ok (.iload_n 2, 1) := by decide +kernel
theorem dX9_leastOf_25 : decode cX9_leastOf 25 = .ok (.if_icmp .ge 8, 3) := by decide +kernel
theorem dX9_leastOf_28 : decode cX9_leastOf 28 = .ok (.iload 4, 2) := by decide +kernel
theorem dX9_leastOf_30 : decode cX9_leastOf 30 = .ok (.goto 4, 3) := by decide +kernel
theorem dX9_leastOf_33 : decode cX9_leastOf 33 = .ok (.iload_n 2, 1) := by decide +kernel
theorem dX9_leastOf_34 : decode cX9_leastOf 34 = .ok (.istore_n 2, 1) := by decide +kernel
theorem dX9_leastOf_35 : decode cX9_leastOf 35 = .ok (.iinc 3 1, 3) := by decide +kernel
theorem dX9_leastOf_38 : decode cX9_leastOf 38 = .ok (.goto (-33), 3) := by decide +kernel
theorem dX9_leastOf_41 : decode cX9_leastOf 41 = .ok (.iload_n 2, 1) := by decide +kernel
theorem dX9_leastOf_42 : decode cX9_leastOf 42 = .ok (.ireturn, 1) := by decide +kernel
set_option maxRecDepth 20000 in
theorem ggX9_count_X9_leastOf : GoodIn wsX9_count wsX9_leastOf := goodIn_ca (goodIn_r _ [7, 1, 8, 9, 6, 10, 15, 16] (by decide +kernel) (by decide +kernel)) (goodIn_sub (fun _ h => List.mem_cons_of_mem _ (List.mem_append_right _ h)) (by decide +kernel))
set_option maxRecDepth 20000 in
theorem gX9_count_X9_leastOf : GoodIn wsX9_count (wsV RX9 26 RX9 yX9_leastOf wsX9_leastOf) := goodIn_app (goodIn_of _ (by decide +kernel)) ggX9_count_X9_leastOf
set_option maxRecDepth 20000 in
theorem ggX9_count_X9_placeOf : GoodIn wsX9_count wsX9_placeOf := goodIn_ca (goodIn_r _ [10] (by decide +kernel) (by decide +kernel)) (goodIn_sub (fun _ h => List.mem_cons_of_mem _ (List.mem_append_right _ h)) (by decide +kernel))
set_option maxRecDepth 20000 in
theorem gX9_count_X9_placeOf : GoodIn wsX9_count (va_wsS RX9 22 yX9_placeOf wsX9_placeOf) := goodIn_app (goodIn_of _ (by decide +kernel)) ggX9_count_X9_placeOf
set_option maxRecDepth 20000 in
theorem ggX9_count_X9_halve : GoodIn wsX9_count wsX9_halve := goodIn_ca (goodIn_r _ [14, 1, 15, 16] (by decide +kernel) (by decide +kernel)) (goodIn_sub (fun _ h => List.mem_cons_of_mem _ (List.mem_append_right _ h)) (by decide +kernel))
set_option maxRecDepth 20000 in
theorem gX9_count_X9_halve : GoodIn wsX9_count (wsV RX9 30 RX9 yX9_halve wsX9_halve) := goodIn_app (goodIn_of _ (by decide +kernel)) ggX9_count_X9_halve
theorem dX9_count_0 : decode cX9_count 0 = .ok (.aload_n 0, 1) := by decide +kernel
theorem dX9_count_1 : decode cX9_count 1 = .ok (.iload_n 1, 1) := by decide +kernel
theorem dX9_count_2 : decode cX9_count 2 = .ok (.invokevirtual 26, 3) := by decide +kernel
theorem dX9_count_5 : decode cX9_count 5 = .ok (.istore_n 2, 1) := by decide +kernel
theorem dX9_count_6 : decode cX9_count 6 = .ok (.iconst 0, 1) := by decide +kernel
theorem dX9_count_7 : decode cX9_count 7 = .ok (.istore_n 3, 1) := by decide +kernel
theorem dX9_count_8 : decode cX9_count 8 = .ok (.iload_n 3, 1) := by decide +kernel
theorem dX9_count_9 : decode cX9_count 9 = .ok (.iconst 4, 1) := by decide +kernel
theorem dX9_count_10 : decode cX9_count 10 = .ok (.if_icmp .ge 44, 3) := by decide +kernel
theorem dX9_count_13 : decode cX9_count 13 = .ok (.iload_n 2, 1) := by decide +kernel
theorem dX9_count_14 : decode cX9_count 14 = .ok (.bipush 15, 2) := by decide +kernel
theorem dX9_count_16 : decode cX9_count 16 = .ok (.if_icmp .ge 38, 3) := by decide +kernel
theorem dX9_count_19 : decode cX9_count 19 = .ok (.iload_n 1, 1) := by decide +kernel
theorem dX9_count_20 : decode cX9_count 20 = .ok (.iload_n 3, 1) := by decide +kernel
theorem dX9_count_21 : decode cX9_count 21 = .ok (.invokestatic 22, 3) := by decide +kernel
theorem dX9_count_24 : decode cX9_count 24 = .ok (.istore 4, 2) := by decide +kernel
theorem dX9_count_26 : decode cX9_count 26 = .ok (.aload_n 0, 1) := by decide +kernel
theorem dX9_count_27 : decode cX9_count 27 = .ok (.getfield 9, 3) := by decide +kernel
theorem dX9_count_30 : decode cX9_count 30 = .ok (.iload 4, 2) := by decide +kernel
theorem dX9_count_32 : decode cX9_count 32 = .ok (.iaload, 1) := by decide +kernel
theorem dX9_count_33 : decode cX9_count 33 = .ok (.iload_n 2, 1) := by decide +kernel
theorem dX9_count_34 : decode cX9_count 34 = .ok (.if_icmp .ne 14, 3) := by decide +kernel
theorem dX9_count_37 : decode cX9_count 37 = .ok (.aload_n 0, 1) := by decide +kernel
theorem dX9_count_38 : decode cX9_count 38 = .ok (.getfield 9, 3) := by decide +kernel
theorem dX9_count_41 : decode cX9_count 41 = .ok (.iload 4, 2) := by decide +kernel
theorem dX9_count_43 : decode cX9_count 43 = .ok (.dup2, 1) := by decide +kernel
theorem dX9_count_44 : decode cX9_count 44 = .ok (.iaload, 1) := by decide +kernel
theorem dX9_count_45 : decode cX9_count 45 = .ok (.iconst 1, 1) := by decide +kernel
theorem dX9_count_46 : decode cX9_count 46 = .ok (.iadd, 1) := by decide +kernel
theorem dX9_count_47 : decode cX9_count 47 = .ok (.iastore, 1) := by decide +kernel
theorem dX9_count_48 : decode cX9_count 48 = .ok (.iinc 3 1, 3) := by decide +kernel
theorem dX9_count_51 : decode cX9_count 51 = .ok (.goto (-43), 3) := by decide +kernel
theorem dX9_count_54 : decode cX9_count 54 = .ok (.aload_n 0, 1) := by decide +kernel
theorem dX9_count_55 : decode cX9_count 55 = .ok (.dup, 1) := by decide +kernel
theorem dX9_count_56 : decode cX9_count 56 = .ok (.getfield 15, 3) := by decide +kernel
theorem dX9_count_59 : decode cX9_count 59 = .ok (.iconst 1, 1) := by decide +kernel
theorem dX9_count_60 : decode cX9_count 60 = .ok (.iadd, 1) := by decide +kernel
theorem dX9_count_61 : decode cX9_count 61 = .ok (.putfield 15, 3) := by decide +kernel
theorem dX9_count_64 : decode cX9_count 64 = .ok (.aload_n 0, 1) := by decide +kernel
theorem dX9_count_65 : decode cX9_count 65 = .ok (.getfield 15, 3) := by decide +kernel
theorem dX9_count_68 : decode cX9_count 68 = .ok (.bipush 64, 2) := by decide +kernel
theorem dX9_count_70 : decode cX9_count 70 = .ok (.if_icmp .ne 12, 3) := by decide +kernel
theorem dX9_count_73 : decode cX9_count 73 = .ok (.aload_n 0, 1) := by decide +kernel
theorem dX9_count_74 : decode cX9_count 74 = .ok (.iconst 0, 1) := by decide +kernel
theorem dX9_count_75 : decode cX9_count 75 = .ok (.putfield 15, 3) := by decide +kernel
theorem dX9_count_78 : decode cX9_count 78 = .ok (.aload_n 0, 1) := by decide +kernel
theorem dX9_count_79 : decode cX9_count 79 = .ok (.invokevirtual 30, 3) := by decide +kernel
theorem dX9_count_82 : decode cX9_count 82 = .ok (.return_, 1) := by decide +kernel
theorem dX9_halve_0 : decode cX9_halve 0 = .ok (.iconst 0, 1) := by decide +kernel
theorem dX9_halve_1 : decode cX9_halve 1 = .ok (.istore_n 1, 1) := by decide +kernel
theorem dX9_halve_2 : decode cX9_halve 2 = .ok (.iload_n 1, 1) := by decide +kernel
theorem dX9_halve_3 : decode cX9_halve 3 = .ok (.bipush 64, 2) := by decide +kernel
theorem dX9_halve_5 : decode cX9_halve 5 = .ok (.if_icmp .ge 19, 3) := by decide +kernel
theorem dX9_halve_8 : decode cX9_halve 8 = .ok (.aload_n 0, 1) := by decide +kernel
theorem dX9_halve_9 : decode cX9_halve 9 = .ok (.getfield 9, 3) := by decide +kernel
theorem dX9_halve_12 : decode cX9_halve 12 = .ok (.iload_n 1, 1) := by decide +kernel
theorem dX9_halve_13 : decode cX9_halve 13 = .ok (.dup2, 1) := by decide +kernel
theorem dX9_halve_14 : decode cX9_halve 14 = .ok (.iaload, 1) := by decide +kernel
theorem dX9_halve_15 : decode cX9_halve 15 = .ok (.iconst 2, 1) := by decide +kernel
theorem dX9_halve_16 : decode cX9_halve 16 = .ok (.idiv, 1) := by decide +kernel
theorem dX9_halve_17 : decode cX9_halve 17 = .ok (.iastore, 1) := by decide +kernel
theorem dX9_halve_18 : decode cX9_halve 18 = .ok (.iinc 1 1, 3) := by decide +kernel
theorem dX9_halve_21 : decode cX9_halve 21 = .ok (.goto (-19), 3) := by decide +kernel
theorem dX9_halve_24 : decode cX9_halve 24 = .ok (.return_, 1) := by decide +kernel
theorem dX9_clear_0 : decode cX9_clear 0 = .ok (.aload_n 0, 1) := by decide +kernel
theorem dX9_clear_1 : decode cX9_clear 1 = .ok (.iconst 0, 1) := by decide +kernel
theorem dX9_clear_2 : decode cX9_clear 2 = .ok (.putfield 15, 3) := by decide +kernel
theorem dX9_clear_5 : decode cX9_clear 5 = .ok (.iconst 0, 1) := by decide +kernel
theorem dX9_clear_6 : decode cX9_clear 6 = .ok (.istore_n 1, 1) := by decide +kernel
theorem dX9_clear_7 : decode cX9_clear 7 = .ok (.iload_n 1, 1) := by decide +kernel
theorem dX9_clear_8 : decode cX9_clear 8 = .ok (.bipush 64, 2) := by decide +kernel
theorem dX9_clear_10 : decode cX9_clear 10 = .ok (.if_icmp .ge 16, 3) := by decide +kernel
theorem dX9_clear_13 : decode cX9_clear 13 = .ok (.aload_n 0, 1) := by decide +kernel
theorem dX9_clear_14 : decode cX9_clear 14 = .ok (.getfield 9, 3) := by decide +kernel
theorem dX9_clear_17 : decode cX9_clear 17 = .ok (.iload_n 1, 1) := by decide +kernel
theorem dX9_clear_18 : decode cX9_clear 18 = .ok (.iconst 0, 1) := by decide +kernel
theorem dX9_clear_19 : decode cX9_clear 19 = .ok (.iastore, 1) := by decide +kernel
theorem dX9_clear_20 : decode cX9_clear 20 = .ok (.iinc 1 1, 3) := by decide +kernel
theorem dX9_clear_23 : decode cX9_clear 23 = .ok (.goto (-16), 3) := by decide +kernel
theorem dX9_clear_26 : decode cX9_clear 26 = .ok (.return_, 1) := by decide +kernel
theorem dX10_init_0 : decode cX10_init 0 = .ok (.aload_n 0, 1) := by decide +kernel
theorem dX10_init_1 : decode cX10_init 1 = .ok (.invokespecial 3, 3) := by decide +kernel
theorem dX10_init_4 : decode cX10_init 4 = .ok (.aload_n 0, 1) := by decide +kernel
theorem dX10_init_5 : decode cX10_init 5 = .ok (.bipush 32, 2) := by decide +kernel
theorem dX10_init_7 : decode cX10_init 7 = .ok (.newarray .int, 2) := by decide +kernel
theorem dX10_init_9 : decode cX10_init 9 = .ok (.putfield 9, 3) := by decide +kernel
theorem dX10_init_12 : decode cX10_init 12 = .ok (.aload_n 0, 1) := by decide +kernel
theorem dX10_init_13 : decode cX10_init 13 = .ok (.bipush 32, 2) := by decide +kernel
theorem dX10_init_15 : decode cX10_init 15 = .ok (.newarray .int, 2) := by decide +kernel
theorem dX10_init_17 : decode cX10_init 17 = .ok (.putfield 15, 3) := by decide +kernel
theorem dX10_init_20 : decode cX10_init 20 = .ok (.aload_n 0, 1) := by decide +kernel
theorem dX10_init_21 : decode cX10_init 21 = .ok (.sipush 400, 3) := by decide +kernel
theorem dX10_init_24 : decode cX10_init 24 = .ok (.newarray .int, 2) := by decide +kernel
theorem dX10_init_26 : decode cX10_init 26 = .ok (.putfield 18, 3) := by decide +kernel
theorem dX10_init_29 : decode cX10_init 29 = .ok (.aload_n 0, 1) := by decide +kernel
theorem dX10_init_30 : decode cX10_init 30 = .ok (.sipush 400, 3) := by decide +kernel
theorem dX10_init_33 : decode cX10_init 33 = .ok (.newarray .int, 2) := by decide +kernel
theorem dX10_init_35 : decode cX10_init 35 = .ok (.putfield 21, 3) := by decide +kernel
theorem dX10_init_38 : decode cX10_init 38 = .ok (.aload_n 0, 1) := by decide +kernel
theorem dX10_init_39 : decode cX10_init 39 = .ok (.sipush 400, 3) := by decide +kernel
theorem dX10_init_42 : decode cX10_init 42 = .ok (.newarray .int, 2) := by decide +kernel
theorem dX10_init_44 : decode cX10_init 44 = .ok (.putfield 24, 3) := by decide +kernel
theorem dX10_init_47 : decode cX10_init 47 = .ok (.aload_n 0, 1) := by decide +kernel
theorem dX10_init_48 : decode cX10_init 48 = .ok (.iconst 0, 1) := by decide +kernel
theorem dX10_init_49 : decode cX10_init 49 = .ok (.putfield 27, 3) := by decide +kernel
theorem dX10_init_52 : decode cX10_init 52 = .ok (.return_, 1) := by decide +kernel
theorem dX10_put_0 : decode cX10_put 0 = .ok (.aload_n 0, 1) := by decide +kernel
theorem dX10_put_1 : decode cX10_put 1 = .ok (.getfield 9, 3) := by decide +kernel
theorem dX10_put_4 : decode cX10_put 4 = .ok (.iload_n 1, 1) := by decide +kernel
theorem dX10_put_5 : decode cX10_put 5 = .ok (.iload_n 2, 1) := by decide +kernel
theorem dX10_put_6 : decode cX10_put 6 = .ok (.iastore, 1) := by decide +kernel
theorem dX10_put_7 : decode cX10_put 7 = .ok (.aload_n 0, 1) := by decide +kernel
theorem dX10_put_8 : decode cX10_put 8 = .ok (.getfield 15, 3) := by decide +kernel
theorem dX10_put_11 : decode cX10_put 11 = .ok (.iload_n 1, 1) := by decide +kernel
theorem dX10_put_12 : decode cX10_put 12 = .ok (.dup2, 1) := by decide +kernel
theorem dX10_put_13 : decode cX10_put 13 = .ok (.iaload, 1) := by decide +kernel
theorem dX10_put_14 : decode cX10_put 14 = .ok (.iconst 1, 1) := by decide +kernel
theorem dX10_put_15 : decode cX10_put 15 = .ok (.iadd, 1) := by decide +kernel
theorem dX10_put_16 : decode cX10_put 16 = .ok (.iastore, 1) := by decide +kernel
theorem dX10_put_17 : decode cX10_put 17 = .ok (.aload_n 0, 1) := by decide +kernel
theorem dX10_put_18 : decode cX10_put 18 = .ok (.getfield 27, 3) := by decide +kernel
theorem dX10_put_21 : decode cX10_put 21 = .ok (.sipush 400, 3) := by decide +kernel
theorem dX10_put_24 : decode cX10_put 24 = .ok (.if_icmp .ge 48, 3) := by decide +kernel
theorem dX10_put_27 : decode cX10_put 27 = .ok (.aload_n 0, 1) := by decide +kernel
theorem dX10_put_28 : decode cX10_put 28 = .ok (.getfield 18, 3) := by decide +kernel
theorem dX10_put_31 : decode cX10_put 31 = .ok (.aload_n 0, 1) := by decide +kernel
theorem dX10_put_32 : decode cX10_put 32 = .ok (.getfield 27, 3) := by decide +kernel
theorem dX10_put_35 : decode cX10_put 35 = .ok (.iload_n 1, 1) := by decide +kernel
theorem dX10_put_36 : decode cX10_put 36 = .ok (.iastore, 1) := by decide +kernel
theorem dX10_put_37 : decode cX10_put 37 = .ok (.aload_n 0, 1) := by decide +kernel
theorem dX10_put_38 : decode cX10_put 38 = .ok (.getfield 21, 3) := by decide +kernel
theorem dX10_put_41 : decode cX10_put 41 = .ok (.aload_n 0, 1) := by decide +kernel
theorem dX10_put_42 : decode cX10_put 42 = .ok (.getfield 27, 3) := by decide +kernel
theorem dX10_put_45 : decode cX10_put 45 = .ok (.aload_n 0, 1) := by decide +kernel
theorem dX10_put_46 : decode cX10_put 46 = .ok (.getfield 15, 3) := by decide +kernel
theorem dX10_put_49 : decode cX10_put 49 = .ok (.iload_n 1, 1) := by decide +kernel
theorem dX10_put_50 : decode cX10_put 50 = .ok (.iaload, 1) := by decide +kernel
theorem dX10_put_51 : decode cX10_put 51 = .ok (.iastore, 1) := by decide +kernel
theorem dX10_put_52 : decode cX10_put 52 = .ok (.aload_n 0, 1) := by decide +kernel
theorem dX10_put_53 : decode cX10_put 53 = .ok (.getfield 24, 3) := by decide +kernel
theorem dX10_put_56 : decode cX10_put 56 = .ok (.aload_n 0, 1) := by decide +kernel
theorem dX10_put_57 : decode cX10_put 57 = .ok (.getfield 27, 3) := by decide +kernel
theorem dX10_put_60 : decode cX10_put 60 = .ok (.iload_n 3, 1) := by decide +kernel
theorem dX10_put_61 : decode cX10_put 61 = .ok (.iastore, 1) := by decide +kernel
theorem dX10_put_62 : decode cX10_put 62 = .ok (.aload_n 0, 1) := by decide +kernel
theorem dX10_put_63 : decode cX10_put 63 = .ok (.dup, 1) := by decide +kernel
theorem dX10_put_64 : decode cX10_put 64 = .ok (.getfield 27, 3) := by decide +kernel
theorem dX10_put_67 : decode cX10_put 67 = .ok (.iconst 1, 1) := by decide +kernel
theorem dX10_put_68 : decode cX10_put 68 = .ok (.iadd, 1) := by decide +kernel
theorem dX10_put_69 : decode cX10_put 69 = .ok (.putfield 27, 3) := by decide +kernel
theorem dX10_put_72 : decode cX10_put 72 = .ok (.aload_n 0, 1) := by decide +kernel
theorem dX10_put_73 : decode cX10_put 73 = .ok (.getfield 15, 3) := by decide +kernel
theorem dX10_put_76 : decode cX10_put 76 = .ok (.iload_n 1, 1) := by decide +kernel
theorem dX10_put_77 : decode cX10_put 77 = .ok (.iaload, 1) := by decide +kernel
theorem dX10_put_78 : decode cX10_put 78 = .ok (.ireturn, 1) := by decide +kernel
theorem dX10_staleBy_0 : decode cX10_staleBy 0 = .ok (.iconst 0, 1) := by decide +kernel
theorem dX10_staleBy_1 : decode cX10_staleBy 1 = .ok (.istore 4, 2) := by decide +kernel
theorem dX10_staleBy_3 : decode cX10_staleBy 3 = .ok (.iload 4, 2) := by decide +kernel
theorem dX10_staleBy_5 : decode cX10_staleBy 5 = .ok (.aload_n 0, 1) := by decide +kernel
theorem dX10_staleBy_6 : decode cX10_staleBy 6 = .ok (.getfield 27, 3) := by decide +kernel
theorem dX10_staleBy_9 : decode cX10_staleBy 9 = .ok (.if_icmp .ge 43, 3) := by decide +kernel
theorem dX10_staleBy_12 : decode cX10_staleBy 12 = .ok (.aload_n 0, 1) := by decide +kernel
theorem dX10_staleBy_13 : decode cX10_staleBy 13 = .ok (.getfield 18, 3) := by decide +kernel
theorem dX10_staleBy_16 : decode cX10_staleBy 16 = .ok (.iload 4, 2) := by decide +kernel
theorem dX10_staleBy_18 : decode cX10_staleBy 18 = .ok (.iaload, 1) := by decide +kernel
theorem dX10_staleBy_19 : decode cX10_staleBy 19 = .ok (.iload_n 1, 1) := by decide +kernel
theorem dX10_staleBy_20 : decode cX10_staleBy 20 = .ok (.if_icmp .ne 26, 3) := by decide +kernel
theorem dX10_staleBy_23 : decode cX10_staleBy 23 = .ok (.aload_n 0, 1) := by decide +kernel
theorem dX10_staleBy_24 : decode cX10_staleBy 24 = .ok (.getfield 21, 3) := by decide +kernel
theorem dX10_staleBy_27 : decode cX10_staleBy 27 = .ok (.iload 4, 2) := by decide +kernel
theorem dX10_staleBy_29 : decode cX10_staleBy 29 = .ok (.iaload, 1) := by decide +kernel
theorem dX10_staleBy_30 : decode cX10_staleBy 30 = .ok (.iload_n 2, 1) := by decide +kernel
theorem dX10_staleBy_31 : decode cX10_staleBy 31 = .ok (.iconst 1, 1) := by decide +kernel
theorem dX10_staleBy_32 : decode cX10_staleBy 32 = .ok (.iadd, 1) := by decide +kernel
theorem dX10_staleBy_33 : decode cX10_staleBy 33 = .ok (.if_icmp .ne 13, 3) := by decide +kernel
theorem dX10_staleBy_36 : decode cX10_staleBy 36 = .ok (.iload_n 3, 1) := by decide +kernel
theorem dX10_staleBy_37 : decode cX10_staleBy 37 = .ok (.aload_n 0, 1) := by decide +kernel
theorem dX10_staleBy_38 : decode cX10_staleBy 38 = .ok (.getfield 24, 3) := by decide +kernel
theorem dX10_staleBy_41 : decode cX10_staleBy 41 = .ok (.iload 4, 2) := by decide +kernel
theorem dX10_staleBy_43 : decode cX10_staleBy 43 = .ok (.iaload, 1) := by decide +kernel
theorem dX10_staleBy_44 : decode cX10_staleBy 44 = .ok (.isub, 1) := by decide +kernel
theorem dX10_staleBy_45 : decode cX10_staleBy 45 = .ok (.ireturn, 1) := by decide +kernel
theorem dX10_staleBy_46 : decode cX10_staleBy 46 = .ok (.iinc 4 1, 3) := by decide +kernel
theorem dX10_staleBy_49 : decode cX10_staleBy 49 = .ok (.goto (-46), 3) := by decide +kernel
theorem dX10_staleBy_52 : decode cX10_staleBy 52 = .ok (.iconst 0, 1) := by decide +kernel
theorem dX10_staleBy_53 : decode cX10_staleBy 53 = .ok (.ireturn, 1) := by decide +kernel
set_option maxRecDepth 20000 in
theorem ggX11_init_X4_init : GoodIn wsX11_init wsX4_init := goodIn_ca (goodIn_r _ [52, 53, 2, 3, 54, 55, 56, 57, 58, 154, 155, 156, 157] (by decide +kernel) (by decide +kernel)) (goodIn_sub (fun _ h => List.mem_cons_of_mem _ (List.mem_append_right _ h)) (by decide +kernel))
set_option maxRecDepth 20000 in
theorem gX11_init_X4_init : GoodIn wsX11_init (wsX4_init) := ggX11_init_X4_init
set_option maxRecDepth 20000 in
theorem ggX11_init_X10_init : GoodIn wsX11_init wsX10_init := goodIn_r _ [60, 61, 2, 3, 54, 62, 63, 64, 65, 66, 67, 171, 172, 173, 174, 175, 176] (by decide +kernel) (by decide +kernel)
set_option maxRecDepth 20000 in
theorem gX11_init_X10_init_n18 : GoodIn wsX11_init (wsX10_init) := ggX11_init_X10_init
set_option maxRecDepth 20000 in
theorem ggX11_init_X7_init : GoodIn wsX11_init wsX7_init := goodIn_r _ [69, 70, 2, 3, 54, 71, 72, 73, 74, 75, 76, 177, 178, 179, 180, 181, 182] (by decide +kernel) (by decide +kernel)
set_option maxRecDepth 20000 in
theorem gX11_init_X7_init_n25 : GoodIn wsX11_init (wsX7_init) := ggX11_init_X7_init
set_option maxRecDepth 20000 in
theorem ggX11_init_X9_init : GoodIn wsX11_init wsX9_init := goodIn_r _ [78, 79, 2, 3, 54, 80, 81, 183, 184] (by decide +kernel) (by decide +kernel)
set_option maxRecDepth 20000 in
theorem gX11_init_X9_init_n32 : GoodIn wsX11_init (wsX9_init) := ggX11_init_X9_init
set_option maxRecDepth 20000 in
theorem ggX11_init_X6_init : GoodIn wsX11_init wsX6_init := goodIn_r _ [83, 84, 2, 3, 85, 45, 46, 86, 87, 88, 54, 89, 90, 91, 92, 93, 94, 95, 96, 97, 98, 99, 218, 219, 220, 221, 185, 186, 187, 188, 189] (by decide +kernel) (by decide +kernel)
set_option maxRecDepth 20000 in
theorem gX11_init_X6_init_n39 : GoodIn wsX11_init (wsX6_init) := ggX11_init_X6_init
set_option maxRecDepth 20000 in
theorem ggX11_init_X3_init : GoodIn wsX11_init wsX3_init := goodIn_ca (goodIn_r _ [102, 103, 2, 3, 104, 45, 46, 105, 54, 106, 107, 108, 109, 110, 93, 94, 95, 96, 97, 98, 99, 111, 112, 113, 26, 114, 218, 219, 220, 221, 190, 191, 192, 193, 194] (by decide +kernel) (by decide +kernel)) (goodIn_sub (fun _ h => List.mem_cons_of_mem _ (List.mem_append_right _ h)) (by decide +kernel))
set_option maxRecDepth 20000 in
theorem gX11_init_X3_init : GoodIn wsX11_init (wsX3_init) := ggX11_init_X3_init
set_option maxRecDepth 20000 in
theorem ggX11_init_X8_init : GoodIn wsX11_init wsX8_init := goodIn_r _ [116, 117, 2, 3, 87, 118, 54, 119, 120, 121, 195, 196, 197, 198] (by decide +kernel) (by decide +kernel)
set_option maxRecDepth 20000 in
theorem gX11_init_X8_init_n53 : GoodIn wsX11_init (wsX8_init) := ggX11_init_X8_init
set_option maxRecDepth 20000 in
theorem ggX11_init_X5_init : GoodIn wsX11_init wsX5_init := goodIn_r _ [123, 124, 2, 3, 125, 45, 46, 126, 54, 127, 128, 87, 129, 130, 131, 132, 133, 134, 93, 94, 95, 96, 97, 98, 99, 218, 219, 220, 221, 199, 200, 201, 202, 203, 204, 205] (by decide +kernel) (by decide +kernel)
set_option maxRecDepth 20000 in
theorem gX11_init_X5_init_n60 : GoodIn wsX11_init (wsX5_init) := ggX11_init_X5_init
set_option maxRecDepth 20000 in
theorem ggX11_init_X0_init : GoodIn wsX11_init wsX0_init := goodIn_r _ [136, 137, 2, 3, 138, 139, 140, 141, 142, 143, 144, 206, 207, 208, 209, 210, 211, 212] (by decide +kernel) (by decide +kernel)
set_option maxRecDepth 20000 in
theorem gX11_init_X0_init_n67 : GoodIn wsX11_init (wsX0_init) := ggX11_init_X0_init
set_option maxRecDepth 20000 in
theorem ggX11_init_X1_init : GoodIn wsX11_init wsX1_init := goodIn_r _ [146, 147, 2, 3, 87, 148, 54, 149, 150, 151, 152, 213, 214, 215, 216, 217] (by decide +kernel) (by decide +kernel)
set_option maxRecDepth 20000 in
theorem gX11_init_X1_init_n74 : GoodIn wsX11_init (wsX1_init) := ggX11_init_X1_init
set_option maxRecDepth 20000 in
theorem ggX11_init_X2_init : GoodIn wsX11_init wsX2_init := goodIn_r _ [94, 95, 2, 3, 54, 96, 97, 98, 99, 218, 219, 220, 221] (by decide +kernel) (by decide +kernel)
set_option maxRecDepth 20000 in
theorem gX11_init_X2_init : GoodIn wsX11_init (wsX2_init) := ggX11_init_X2_init
theorem dX11_init_0 : decode cX11_init 0 = .ok (.aload_n 0, 1) := by decide +kernel
theorem dX11_init_1 : decode cX11_init 1 = .ok (.invokespecial 3, 3) := by decide +kernel
theorem dX11_init_4 : decode cX11_init 4 = .ok (.aload_n 0, 1) := by decide +kernel
theorem dX11_init_5 : decode cX11_init 5 = .ok (.new 9, 3) := by decide +kernel
theorem dX11_init_8 : decode cX11_init 8 = .ok (.dup, 1) := by decide +kernel
theorem dX11_init_9 : decode cX11_init 9 = .ok (.invokespecial 11, 3) := by decide +kernel
theorem dX11_init_12 : decode cX11_init 12 = .ok (.putfield 12, 3) := by decide +kernel
theorem dX11_init_15 : decode cX11_init 15 = .ok (.aload_n 0, 1) := by decide +kernel
theorem dX11_init_16 : decode cX11_init 16 = .ok (.new 16, 3) := by decide +kernel
theorem dX11_init_19 : decode cX11_init 19 = .ok (.dup, 1) := by decide +kernel
theorem dX11_init_20 : decode cX11_init 20 = .ok (.invokespecial 18, 3) := by decide +kernel
theorem dX11_init_23 : decode cX11_init 23 = .ok (.putfield 19, 3) := by decide +kernel
theorem dX11_init_26 : decode cX11_init 26 = .ok (.aload_n 0, 1) := by decide +kernel
theorem dX11_init_27 : decode cX11_init 27 = .ok (.new 23, 3) := by decide +kernel
theorem dX11_init_30 : decode cX11_init 30 = .ok (.dup, 1) := by decide +kernel
theorem dX11_init_31 : decode cX11_init 31 = .ok (.invokespecial 25, 3) := by decide +kernel
theorem dX11_init_34 : decode cX11_init 34 = .ok (.putfield 26, 3) := by decide +kernel
theorem dX11_init_37 : decode cX11_init 37 = .ok (.aload_n 0, 1) := by decide +kernel
theorem dX11_init_38 : decode cX11_init 38 = .ok (.new 30, 3) := by decide +kernel
theorem dX11_init_41 : decode cX11_init 41 = .ok (.dup, 1) := by decide +kernel
theorem dX11_init_42 : decode cX11_init 42 = .ok (.invokespecial 32, 3) := by decide +kernel
theorem dX11_init_45 : decode cX11_init 45 = .ok (.putfield 33, 3) := by decide +kernel
theorem dX11_init_48 : decode cX11_init 48 = .ok (.aload_n 0, 1) := by decide +kernel
theorem dX11_init_49 : decode cX11_init 49 = .ok (.new 37, 3) := by decide +kernel
theorem dX11_init_52 : decode cX11_init 52 = .ok (.dup, 1) := by decide +kernel
theorem dX11_init_53 : decode cX11_init 53 = .ok (.invokespecial 39, 3) := by decide +kernel
theorem dX11_init_56 : decode cX11_init 56 = .ok (.putfield 40, 3) := by decide +kernel
theorem dX11_init_59 : decode cX11_init 59 = .ok (.aload_n 0, 1) := by decide +kernel
theorem dX11_init_60 : decode cX11_init 60 = .ok (.new 44, 3) := by decide +kernel
theorem dX11_init_63 : decode cX11_init 63 = .ok (.dup, 1) := by decide +kernel
theorem dX11_init_64 : decode cX11_init 64 = .ok (.invokespecial 46, 3) := by decide +kernel
theorem dX11_init_67 : decode cX11_init 67 = .ok (.putfield 47, 3) := by decide +kernel
theorem dX11_init_70 : decode cX11_init 70 = .ok (.aload_n 0, 1) := by decide +kernel
theorem dX11_init_71 : decode cX11_init 71 = .ok (.new 51, 3) := by decide +kernel
theorem dX11_init_74 : decode cX11_init 74 = .ok (.dup, 1) := by decide +kernel
theorem dX11_init_75 : decode cX11_init 75 = .ok (.invokespecial 53, 3) := by decide +kernel
theorem dX11_init_78 : decode cX11_init 78 = .ok (.putfield 54, 3) := by decide +kernel
theorem dX11_init_81 : decode cX11_init 81 = .ok (.aload_n 0, 1) := by decide +kernel
theorem dX11_init_82 : decode cX11_init 82 = .ok (.new 58, 3) := by decide +kernel
theorem dX11_init_85 : decode cX11_init 85 = .ok (.dup, 1) := by decide +kernel
theorem dX11_init_86 : decode cX11_init 86 = .ok (.invokespecial 60, 3) := by decide +kernel
theorem dX11_init_89 : decode cX11_init 89 = .ok (.putfield 61, 3) := by decide +kernel
theorem dX11_init_92 : decode cX11_init 92 = .ok (.aload_n 0, 1) := by decide +kernel
theorem dX11_init_93 : decode cX11_init 93 = .ok (.new 65, 3) := by decide +kernel
theorem dX11_init_96 : decode cX11_init 96 = .ok (.dup, 1) := by decide +kernel
theorem dX11_init_97 : decode cX11_init 97 = .ok (.invokespecial 67, 3) := by decide +kernel
theorem dX11_init_100 : decode cX11_init 100 = .ok (.putfield 68, 3) := by decide +kernel
theorem dX11_init_103 : decode cX11_init 103 = .ok (.aload_n 0, 1) := by decide +kernel
theorem dX11_init_104 : decode cX11_init 104 = .ok (.new 72, 3) := by decide +kernel
theorem dX11_init_107 : decode cX11_init 107 = .ok (.dup, 1) := by decide +kernel
theorem dX11_init_108 : decode cX11_init 108 = .ok (.invokespecial 74, 3) := by decide +kernel
theorem dX11_init_111 : decode cX11_init 111 = .ok (.putfield 75, 3) := by decide +kernel
theorem dX11_init_114 : decode cX11_init 114 = .ok (.aload_n 0, 1) := by decide +kernel
theorem dX11_init_115 : decode cX11_init 115 = .ok (.new 79, 3) := by decide +kernel
theorem dX11_init_118 : decode cX11_init 118 = .ok (.dup, 1) := by decide +kernel
theorem dX11_init_119 : decode cX11_init 119 = .ok (.iconst 1, 1) := by decide +kernel
theorem dX11_init_120 : decode cX11_init 120 = .ok (.invokespecial 81, 3) := by decide +kernel
theorem dX11_init_123 : decode cX11_init 123 = .ok (.putfield 84, 3) := by decide +kernel
theorem dX11_init_126 : decode cX11_init 126 = .ok (.aload_n 0, 1) := by decide +kernel
theorem dX11_init_127 : decode cX11_init 127 = .ok (.iconst 0, 1) := by decide +kernel
theorem dX11_init_128 : decode cX11_init 128 = .ok (.putfield 88, 3) := by decide +kernel
theorem dX11_init_131 : decode cX11_init 131 = .ok (.aload_n 0, 1) := by decide +kernel
theorem dX11_init_132 : decode cX11_init 132 = .ok (.iconst 0, 1) := by decide +kernel
theorem dX11_init_133 : decode cX11_init 133 = .ok (.putfield 92, 3) := by decide +kernel
theorem dX11_init_136 : decode cX11_init 136 = .ok (.return_, 1) := by decide +kernel
set_option maxRecDepth 20000 in
theorem ggX11_setKey_X11_requireKey : GoodIn wsX11_setKey wsX11_requireKey := goodIn_ca (goodIn_r _ [12, 13, 14] (by decide +kernel) (by decide +kernel)) (goodIn_sub (fun _ h => List.mem_cons_of_mem _ (List.mem_append_left _ (List.mem_append_right _ h))) (by decide +kernel))
set_option maxRecDepth 20000 in
theorem gX11_setKey_X11_requireKey : GoodIn wsX11_setKey (va_wsS RX11 96 yX11_requireKey wsX11_requireKey) := goodIn_app (goodIn_of _ (by decide +kernel)) ggX11_setKey_X11_requireKey
set_option maxRecDepth 20000 in
theorem ggX11_setKey_X11_requireWithin : GoodIn wsX11_setKey wsX11_requireWithin := goodIn_ca (goodIn_r _ [17, 18, 19] (by decide +kernel) (by decide +kernel)) (goodIn_sub (fun _ h => List.mem_cons_of_mem _ (List.mem_append_right _ h)) (by decide +kernel))
set_option maxRecDepth 20000 in
theorem gX11_setKey_X11_requireWithin : GoodIn wsX11_setKey (va_wsS RX11 99 yX11_requireWithin wsX11_requireWithin) := goodIn_app (goodIn_of _ (by decide +kernel)) ggX11_setKey_X11_requireWithin
set_option maxRecDepth 20000 in
theorem ggX11_setKey_X11_requireUp : GoodIn wsX11_setKey wsX11_requireUp := goodIn_ca (goodIn_r _ [23, 1, 2, 24, 47, 48, 49, 50, 51, 52, 53, 54, 55, 56, 57, 58, 59] (by decide +kernel) (by decide +kernel)) (goodIn_sub (fun _ h => List.mem_cons_of_mem _ (List.mem_append_left _ (List.mem_append_left _ (List.mem_append_left _ (List.mem_append_right _ h))))) (by decide +kernel))
set_option maxRecDepth 20000 in
theorem gX11_setKey_X11_requireUp : GoodIn wsX11_setKey (wsV RX11 103 RX11 yX11_requireUp wsX11_requireUp) := goodIn_app (goodIn_of _ (by decide +kernel)) ggX11_setKey_X11_requireUp
set_option maxRecDepth 20000 in
theorem ggX11_setKey_X11_isKept : GoodIn wsX11_setKey wsX11_isKept := goodIn_ca (goodIn_r _ [28, 29, 30, 31, 32, 47, 48, 49, 50, 51, 52, 53, 54, 55, 56, 57, 58, 59, 64, 65, 66, 67, 68, 69, 70, 71, 72, 73] (by decide +kernel) (by decide +kernel)) (goodIn_sub (fun _ h => List.mem_cons_of_mem _ (List.mem_append_left _ (List.mem_append_left _ (List.mem_append_right _ h)))) (by decide +kernel))
set_option maxRecDepth 20000 in
theorem gX11_setKey_X11_isKept : GoodIn wsX11_setKey (wsV RX11 106 RX11 yX11_isKept wsX11_isKept) := goodIn_app (goodIn_of _ (by decide +kernel)) ggX11_setKey_X11_isKept
set_option maxRecDepth 20000 in
theorem ggX11_setKey_X5_isOutFor : GoodIn wsX11_setKey wsX5_isOutFor := goodIn_ca (goodIn_r _ [37, 38, 39, 40, 41, 42, 43, 36, 44, 45, 46, 74, 75, 76, 77, 78, 79, 80] (by decide +kernel) (by decide +kernel)) (goodIn_sub (fun _ h => List.mem_cons_of_mem _ (List.mem_append_left _ (List.mem_append_left _ (List.mem_append_right _ h)))) (by decide +kernel))
set_option maxRecDepth 20000 in
theorem gX11_setKey_X5_isOutFor : GoodIn wsX11_setKey (wsV RX11 110 RX5 yX5_isOutFor wsX5_isOutFor) := goodIn_app (goodIn_of _ (by decide +kernel)) ggX11_setKey_X5_isOutFor
theorem dX11_setKey_0 : decode cX11_setKey 0 = .ok (.iload_n 1, 1) := by decide +kernel
theorem dX11_setKey_1 : decode cX11_setKey 1 = .ok (.invokestatic 96, 3) := by decide +kernel
theorem dX11_setKey_4 : decode cX11_setKey 4 = .ok (.iload_n 2, 1) := by decide +kernel
theorem dX11_setKey_5 : decode cX11_setKey 5 = .ok (.iconst 1, 1) := by decide +kernel
theorem dX11_setKey_6 : decode cX11_setKey 6 = .ok (.iconst 4, 1) := by decide +kernel
theorem dX11_setKey_7 : decode cX11_setKey 7 = .ok (.invokestatic 99, 3) := by decide +kernel
theorem dX11_setKey_10 : decode cX11_setKey 10 = .ok (.iload_n 3, 1) := by decide +kernel
theorem dX11_setKey_11 : decode cX11_setKey 11 = .ok (.iconst 1, 1) := by decide +kernel
theorem dX11_setKey_12 : decode cX11_setKey 12 = .ok (.bipush 9, 2) := by decide +kernel
theorem dX11_setKey_14 : decode cX11_setKey 14 = .ok (.invokestatic 99, 3) := by decide +kernel
theorem dX11_setKey_17 : decode cX11_setKey 17 = .ok (.iload 4, 2) := by decide +kernel
theorem dX11_setKey_19 : decode cX11_setKey 19 = .ok (.iconst 0, 1) := by decide +kernel
theorem dX11_setKey_20 : decode cX11_setKey 20 = .ok (.iconst 3, 1) := by decide +kernel
theorem dX11_setKey_21 : decode cX11_setKey 21 = .ok (.invokestatic 99, 3) := by decide +kernel
theorem dX11_setKey_24 : decode cX11_setKey 24 = .ok (.aload_n 0, 1) := by decide +kernel
theorem dX11_setKey_25 : decode cX11_setKey 25 = .ok (.invokevirtual 103, 3) := by decide +kernel
theorem dX11_setKey_28 : decode cX11_setKey 28 = .ok (.aload_n 0, 1) := by decide +kernel
theorem dX11_setKey_29 : decode cX11_setKey 29 = .ok (.iload_n 1, 1) := by decide +kernel
theorem dX11_setKey_30 : decode cX11_setKey 30 = .ok (.invokevirtual 106, 3) := by decide +kernel
theorem dX11_setKey_33 : decode cX11_setKey 33 = .ok (.ifCond .ne 18, 3) := by decide +kernel
theorem dX11_setKey_36 : decode cX11_setKey 36 = .ok (.aload_n 0, 1) := by decide +kernel
theorem dX11_setKey_37 : decode cX11_setKey 37 = .ok (.getfield 61, 3) := by decide +kernel
theorem dX11_setKey_40 : decode cX11_setKey 40 = .ok (.iload_n 1, 1) := by decide +kernel
theorem dX11_setKey_41 : decode cX11_setKey 41 = .ok (.aload_n 0, 1) := by decide +kernel
theorem dX11_setKey_42 : decode cX11_setKey 42 = .ok (.getfield 88, 3) := by decide +kernel
theorem dX11_setKey_45 : decode cX11_setKey 45 = .ok (.invokevirtual 110, 3) := by decide +kernel
theorem dX11_setKey_48 : decode cX11_setKey 48 = .ok (.ifCond .eq 13, 3) := by decide +kernel
theorem dX11_setKey_51 : decode cX11_setKey 51 = .ok (.new 114, 3) := by decide +kernel
theorem dX11_setKey_54 : decode cX11_setKey 54 = .ok (.dup, 1) := by decide +kernel
theorem dX11_setKey_55 : decode cX11_setKey 55 = .ok (.ldc 116, 2) := by decide +kernel
theorem dX11_setKey_57 : decode cX11_setKey 57 = .ok (.invokespecial 118, 3) := by decide +kernel
theorem dX11_setKey_60 : decode cX11_setKey 60 = .ok (.athrow, 1) := by decide +kernel
theorem dX11_setKey_61 : decode cX11_setKey 61 = .ok (.aload_n 0, 1) := by decide +kernel
theorem dX11_setKey_62 : decode cX11_setKey 62 = .ok (.getfield 12, 3) := by decide +kernel
theorem dX11_setKey_65 : decode cX11_setKey 65 = .ok (.getfield 121, 3) := by decide +kernel
theorem dX11_setKey_68 : decode cX11_setKey 68 = .ok (.iload_n 1, 1) := by decide +kernel
theorem dX11_setKey_69 : decode cX11_setKey 69 = .ok (.iaload, 1) := by decide +kernel
theorem dX11_setKey_70 : decode cX11_setKey 70 = .ok (.istore 5, 2) := by decide +kernel
theorem dX11_setKey_72 : decode cX11_setKey 72 = .ok (.aload_n 0, 1) := by decide +kernel
theorem dX11_setKey_73 : decode cX11_setKey 73 = .ok (.getfield 12, 3) := by decide +kernel
theorem dX11_setKey_76 : decode cX11_setKey 76 = .ok (.getfield 125, 3) := by decide +kernel
theorem dX11_setKey_79 : decode cX11_setKey 79 = .ok (.iload_n 1, 1) := by decide +kernel
theorem dX11_setKey_80 : decode cX11_setKey 80 = .ok (.iload_n 2, 1) := by decide +kernel
theorem dX11_setKey_81 : decode cX11_setKey 81 = .ok (.iastore, 1) := by decide +kernel
theorem dX11_setKey_82 : decode cX11_setKey 82 = .ok (.aload_n 0, 1) := by decide +kernel
theorem dX11_setKey_83 : decode cX11_setKey 83 = .ok (.getfield 12, 3) := by decide +kernel
theorem dX11_setKey_86 : decode cX11_setKey 86 = .ok (.getfield 128, 3) := by decide +kernel
theorem dX11_setKey_89 : decode cX11_setKey 89 = .ok (.iload_n 1, 1) := by decide +kernel
theorem dX11_setKey_90 : decode cX11_setKey 90 = .ok (.iload_n 3, 1) := by decide +kernel
theorem dX11_setKey_91 : decode cX11_setKey 91 = .ok (.iastore, 1) := by decide +kernel
theorem dX11_setKey_92 : decode cX11_setKey 92 = .ok (.aload_n 0, 1) := by decide +kernel
theorem dX11_setKey_93 : decode cX11_setKey 93 = .ok (.getfield 12, 3) := by decide +kernel
theorem dX11_setKey_96 : decode cX11_setKey 96 = .ok (.getfield 121, 3) := by decide +kernel
theorem dX11_setKey_99 : decode cX11_setKey 99 = .ok (.iload_n 1, 1) := by decide +kernel
theorem dX11_setKey_100 : decode cX11_setKey 100 = .ok (.iload 4, 2) := by decide +kernel
theorem dX11_setKey_102 : decode cX11_setKey 102 = .ok (.iastore, 1) := by decide +kernel
theorem dX11_setKey_103 : decode cX11_setKey 103 = .ok (.iload 5, 2) := by decide +kernel
theorem dX11_setKey_105 : decode cX11_setKey 105 = .ok (.ireturn, 1) := by decide +kernel
set_option maxRecDepth 20000 in
theorem ggX11_get_X11_requireKey : GoodIn wsX11_get wsX11_requireKey := goodIn_ca (goodIn_r _ [12, 13, 14] (by decide +kernel) (by decide +kernel)) (goodIn_sub (fun _ h => List.mem_cons_of_mem _ (List.mem_append_left _ (List.mem_append_left _ (List.mem_append_right _ h)))) (by decide +kernel))
set_option maxRecDepth 20000 in
theorem gX11_get_X11_requireKey : GoodIn wsX11_get (va_wsS RX11 96 yX11_requireKey wsX11_requireKey) := goodIn_app (goodIn_of _ (by decide +kernel)) ggX11_get_X11_requireKey
set_option maxRecDepth 20000 in
theorem ggX11_get_X11_requireWithin : GoodIn wsX11_get wsX11_requireWithin := goodIn_ca (goodIn_r _ [17, 18, 19] (by decide +kernel) (by decide +kernel)) (goodIn_sub (fun _ h => List.mem_cons_of_mem _ (List.mem_append_left _ (List.mem_append_right _ h))) (by decide +kernel))
set_option maxRecDepth 20000 in
theorem gX11_get_X11_requireWithin : GoodIn wsX11_get (va_wsS RX11 99 yX11_requireWithin wsX11_requireWithin) := goodIn_app (goodIn_of _ (by decide +kernel)) ggX11_get_X11_requireWithin
set_option maxRecDepth 20000 in
theorem ggX11_get_X11_requireUp : GoodIn wsX11_get wsX11_requireUp := goodIn_ca (goodIn_r _ [23, 24, 25, 26, 227, 228, 229, 230, 231, 232, 233, 234, 235, 236, 237, 238, 239] (by decide +kernel) (by decide +kernel)) (goodIn_sub (fun _ h => List.mem_cons_of_mem _ (List.mem_append_right _ h)) (by decide +kernel))
set_option maxRecDepth 20000 in
theorem gX11_get_X11_requireUp : GoodIn wsX11_get (wsV RX11 103 RX11 yX11_requireUp wsX11_requireUp) := goodIn_app (goodIn_of _ (by decide +kernel)) ggX11_get_X11_requireUp
set_option maxRecDepth 20000 in
theorem ggX11_get_X11_goodSource : GoodIn wsX11_get wsX11_goodSource := goodIn_ca (goodIn_r _ [30, 31, 32, 33, 34, 35, 36, 37, 38, 39, 40, 41, 11, 42, 43, 6, 4, 44, 45, 46, 47, 48, 49, 50, 51, 227, 228, 229, 230, 231, 232, 233, 234, 235, 236, 237, 238, 239, 251, 252, 253, 254, 255, 256, 257, 258, 259, 260, 261, 262, 263, 264, 265, 266, 267, 268, 247, 248, 249, 250] (by decide +kernel) (by decide +kernel)) (goodIn_sub (fun _ h => List.mem_cons_of_mem _ (List.mem_append_left _ (List.mem_append_left _ (List.mem_append_left _ (List.mem_append_right _ h))))) (by decide +kernel))
set_option maxRecDepth 20000 in
theorem gX11_get_X11_goodSource : GoodIn wsX11_get (wsV RX11 131 RX11 yX11_goodSource wsX11_goodSource) := goodIn_app (goodIn_of _ (by decide +kernel)) ggX11_get_X11_goodSource
set_option maxRecDepth 20000 in
theorem ggX11_get_X5_isOutFor : GoodIn wsX11_get wsX5_isOutFor := goodIn_ca (goodIn_r _ [56, 57, 58, 59, 60, 61, 62, 55, 63, 64, 65, 240, 241, 242, 243, 244, 245, 246] (by decide +kernel) (by decide +kernel)) (goodIn_sub (fun _ h => List.mem_cons_of_mem _ (List.mem_append_left _ (List.mem_append_left _ (List.mem_append_left _ (List.mem_append_right _ h))))) (by decide +kernel))
set_option maxRecDepth 20000 in
theorem gX11_get_X5_isOutFor : GoodIn wsX11_get (wsV RX11 110 RX5 yX5_isOutFor wsX5_isOutFor) := goodIn_app (goodIn_of _ (by decide +kernel)) ggX11_get_X5_isOutFor
set_option maxRecDepth 20000 in
theorem ggX11_get_X5_give : GoodIn wsX11_get wsX5_give := goodIn_ca (goodIn_r _ [69, 57, 58, 64, 59, 70, 240, 241, 242, 243, 244, 245, 246] (by decide +kernel) (by decide +kernel)) (goodIn_sub (fun _ h => List.mem_cons_of_mem _ (List.mem_append_left _ (List.mem_append_left _ (List.mem_append_left _ (List.mem_append_right _ h))))) (by decide +kernel))
set_option maxRecDepth 20000 in
theorem gX11_get_X5_give : GoodIn wsX11_get (wsV RX11 143 RX5 yX5_give wsX5_give) := goodIn_app (goodIn_of _ (by decide +kernel)) ggX11_get_X5_give
set_option maxRecDepth 20000 in
theorem ggX11_get_X11_answer : GoodIn wsX11_get wsX11_answer := goodIn_ca (goodIn_r _ [74, 33, 34, 75, 31, 35, 76, 4, 77, 78, 79, 36, 38, 37, 80, 81, 82, 83, 84, 85, 86, 87, 88, 89, 90, 91, 92, 93, 94, 95, 96, 97, 98, 99, 100, 101, 102, 103, 104, 105, 106, 107, 108, 109, 110, 111, 112, 113, 114, 115, 116, 117, 118, 119, 120, 121, 122, 123, 11, 124, 125, 126, 127, 128, 129, 130, 131, 32, 132, 6, 133, 134, 135, 136, 137, 138, 139, 140, 141, 142, 143, 144, 145, 146, 8, 7, 147, 148, 149, 150, 151, 152, 153, 154, 155, 156, 157, 158, 159, 160, 161, 162, 163, 164, 165, 166, 167, 168, 169, 170, 171, 172, 173, 174, 175, 176, 177, 178, 179, 180, 181, 182, 183, 184, 185, 186, 187, 188, 189, 190, 191, 192, 193, 194, 195, 196, 197, 198, 199, 200, 201, 202, 203, 204, 205, 206, 207, 208, 209, 210, 211, 212, 213, 214, 215, 216, 227, 228, 229, 230, 231, 232, 233, 234, 235, 236, 237, 238, 239, 256, 257, 258, 259, 251, 252, 253, 254, 255, 265, 266, 267, 268, 260, 261, 262, 263, 264, 269, 270, 271, 272, 273, 274, 275, 276, 277, 278, 279, 280, 281, 282, 283, 284, 285, 286, 247, 248, 249, 250, 287, 288] (by decide +kernel) (by decide +kernel)) (goodIn_sub (fun _ h => List.mem_cons_of_mem _ (List.mem_append_left _ (List.mem_append_left _ (List.mem_append_left _ (List.mem_append_right _ h))))) (by decide +kernel))
set_option maxRecDepth 20000 in
theorem gX11_get_X11_answer : GoodIn wsX11_get (wsV RX11 146 RX11 yX11_answer wsX11_answer) := goodIn_app (goodIn_of _ (by decide +kernel)) ggX11_get_X11_answer
set_option maxRecDepth 20000 in
theorem ggX11_get_X9_count : GoodIn wsX11_get wsX9_count := goodIn_ca (goodIn_r _ [220, 152, 221, 222, 148, 149, 150, 151, 153, 154, 155, 223, 224, 225, 226, 287, 288] (by decide +kernel) (by decide +kernel)) (goodIn_sub (fun _ h => List.mem_cons_of_mem _ (List.mem_append_left _ (List.mem_append_left _ (List.mem_append_left _ (List.mem_append_right _ h))))) (by decide +kernel))
set_option maxRecDepth 20000 in
theorem gX11_get_X9_count : GoodIn wsX11_get (wsV RX11 150 RX9 yX9_count wsX9_count) := goodIn_app (goodIn_of _ (by decide +kernel)) ggX11_get_X9_count
theorem dX11_get_0 : decode cX11_get 0 = .ok (.iload_n 1, 1) := by decide +kernel
theorem dX11_get_1 : decode cX11_get 1 = .ok (.invokestatic 96, 3) := by decide +kernel
theorem dX11_get_4 : decode cX11_get 4 = .ok (.iload_n 2, 1) := by decide +kernel
theorem dX11_get_5 : decode cX11_get 5 = .ok (.iconst 0, 1) := by decide +kernel
theorem dX11_get_6 : decode cX11_get 6 = .ok (.bipush 60, 2) := by decide +kernel
theorem dX11_get_8 : decode cX11_get 8 = .ok (.invokestatic 99, 3) := by decide +kernel
theorem dX11_get_11 : decode cX11_get 11 = .ok (.iload_n 3, 1) := by decide +kernel
theorem dX11_get_12 : decode cX11_get 12 = .ok (.iconst 0, 1) := by decide +kernel
theorem dX11_get_13 : decode cX11_get 13 = .ok (.bipush 60, 2) := by decide +kernel
theorem dX11_get_15 : decode cX11_get 15 = .ok (.invokestatic 99, 3) := by decide +kernel
theorem dX11_get_18 : decode cX11_get 18 = .ok (.aload_n 0, 1) := by decide +kernel
theorem dX11_get_19 : decode cX11_get 19 = .ok (.invokevirtual 103, 3) := by decide +kernel
theorem dX11_get_22 : decode cX11_get 22 = .ok (.iload_n 2, 1) := by decide +kernel
theorem dX11_get_23 : decode cX11_get 23 = .ok (.istore 4, 2) := by decide +kernel
theorem dX11_get_25 : decode cX11_get 25 = .ok (.aload_n 0, 1) := by decide +kernel
theorem dX11_get_26 : decode cX11_get 26 = .ok (.iload_n 1, 1) := by decide +kernel
theorem dX11_get_27 : decode cX11_get 27 = .ok (.iload 4, 2) := by decide +kernel
theorem dX11_get_29 : decode cX11_get 29 = .ok (.invokevirtual 131, 3) := by decide +kernel
theorem dX11_get_32 : decode cX11_get 32 = .ok (.istore 5, 2) := by decide +kernel
theorem dX11_get_34 : decode cX11_get 34 = .ok (.iload 5, 2) := by decide +kernel
theorem dX11_get_36 : decode cX11_get 36 = .ok (.istore 6, 2) := by decide +kernel
theorem dX11_get_38 : decode cX11_get 38 = .ok (.iload 5, 2) := by decide +kernel
theorem dX11_get_40 : decode cX11_get 40 = .ok (.bipush 45, 2) := by decide +kernel
theorem dX11_get_42 : decode cX11_get 42 = .ok (.if_icmp .ne 51, 3) := by decide +kernel
theorem dX11_get_45 : decode cX11_get 45 = .ok (.aload_n 0, 1) := by decide +kernel
theorem dX11_get_46 : decode cX11_get 46 = .ok (.getfield 61, 3) := by decide +kernel
theorem dX11_get_49 : decode cX11_get 49 = .ok (.iload_n 1, 1) := by decide +kernel
theorem dX11_get_50 : decode cX11_get 50 = .ok (.aload_n 0, 1) := by decide +kernel
theorem dX11_get_51 : decode cX11_get 51 = .ok (.getfield 88, 3) := by decide +kernel
theorem dX11_get_54 : decode cX11_get 54 = .ok (.invokevirtual 110, 3) := by decide +kernel
theorem dX11_get_57 : decode cX11_get 57 = .ok (.ifCond .eq 36, 3) := by decide +kernel
theorem dX11_get_60 : decode cX11_get 60 = .ok (.iload_n 2, 1) := by decide +kernel
theorem dX11_get_61 : decode cX11_get 61 = .ok (.iload_n 3, 1) := by decide +kernel
theorem dX11_get_62 : decode cX11_get 62 = .ok (.iadd, 1) := by decide +kernel
theorem dX11_get_63 : decode cX11_get 63 = .ok (.istore 4, 2) := by decide +kernel
theorem dX11_get_65 : decode cX11_get 65 = .ok (.aload_n 0, 1) := by decide +kernel
theorem dX11_get_66 : decode cX11_get 66 = .ok (.iload_n 1, 1) := by decide +kernel
theorem dX11_get_67 : decode cX11_get 67 = .ok (.iload 4, 2) := by decide +kernel
theorem dX11_get_69 : decode cX11_get 69 = .ok (.invokevirtual 131, 3) := by decide +kernel
theorem dX11_get_72 : decode cX11_get 72 = .ok (.istore 5, 2) := by decide +kernel
theorem dX11_get_74 : decode cX11_get 74 = .ok (.iload 5, 2) := by decide +kernel
theorem dX11_get_76 : decode cX11_get 76 = .ok (.bipush 45, 2) := by decide +kernel
theorem dX11_get_78 : decode cX11_get 78 = .ok (.if_icmp .ne 8, 3) := by decide +kernel
theorem dX11_get_81 : decode cX11_get 81 = .ok (.bipush 119, 2) := by decide +kernel
theorem dX11_get_83 : decode cX11_get 83 = .ok (.goto 5, 3) := by decide +kernel
theorem dX11_get_86 : decode cX11_get 86 = .ok (.bipush 115, 2) := by decide +kernel
theorem dX11_get_88 : decode cX11_get 88 = .ok (.istore 6, 2) := by decide +kernel
theorem dX11_get_90 : decode cX11_get 90 = .ok (.goto 14, 3) := by decide +kernel
theorem dX11_get_93 : decode cX11_get 93 = .ok (.iload 5, 2) := by decide +kernel
theorem dX11_get_95 : decode cX11_get 95 = .ok (.bipush 45, 2) := by decide +kernel
theorem dX11_get_97 : decode cX11_get 97 = .ok (.if_icmp .ne 7, 3) := by decide +kernel
theorem dX11_get_100 : decode cX11_get 100 = .ok (.bipush 108, 2) := by decide +kernel
theorem dX11_get_102 : decode cX11_get 102 = .ok (.istore 6, 2) := by decide +kernel
theorem dX11_get_104 : decode cX11_get 104 = .ok (.iload 6, 2) := by decide +kernel
theorem dX11_get_106 : decode cX11_get 106 = .ok (.bipush 108, 2) := by decide +kernel
theorem dX11_get_108 : decode cX11_get 108 = .ok (.if_icmp .ne 25, 3) := by decide +kernel
theorem dX11_get_111 : decode cX11_get 111 = .ok (.aload_n 0, 1) := by decide +kernel
theorem dX11_get_112 : decode cX11_get 112 = .ok (.getfield 61, 3) := by decide +kernel
theorem dX11_get_115 : decode cX11_get 115 = .ok (.getfield 135, 3) := by decide +kernel
theorem dX11_get_118 : decode cX11_get 118 = .ok (.bipush 60, 2) := by decide +kernel
theorem dX11_get_120 : decode cX11_get 120 = .ok (.if_icmp .lt 13, 3) := by decide +kernel
theorem dX11_get_123 : decode cX11_get 123 = .ok (.new 138, 3) := by decide +kernel
theorem dX11_get_126 : decode cX11_get 126 = .ok (.dup, 1) := by decide +kernel
theorem dX11_get_127 : decode cX11_get 127 = .ok (.ldc 140, 2) := by decide +kernel
theorem dX11_get_129 : decode cX11_get 129 = .ok (.invokespecial 142, 3) := by decide +kernel
theorem dX11_get_132 : decode cX11_get 132 = .ok (.athrow, 1) := by decide +kernel
theorem dX11_get_133 : decode cX11_get 133 = .ok (.iload 6, 2) := by decide +kernel
theorem dX11_get_135 : decode cX11_get 135 = .ok (.bipush 108, 2) := by decide +kernel
theorem dX11_get_137 : decode cX11_get 137 = .ok (.if_icmp .ne 24, 3) := by decide +kernel
theorem dX11_get_140 : decode cX11_get 140 = .ok (.aload_n 0, 1) := by decide +kernel
theorem dX11_get_141 : decode cX11_get 141 = .ok (.getfield 61, 3) := by decide +kernel
theorem dX11_get_144 : decode cX11_get 144 = .ok (.iload_n 1, 1) := by decide +kernel
theorem dX11_get_145 : decode cX11_get 145 = .ok (.aload_n 0, 1) := by decide +kernel
theorem dX11_get_146 : decode cX11_get 146 = .ok (.getfield 88, 3) := by decide +kernel
theorem dX11_get_149 : decode cX11_get 149 = .ok (.aload_n 0, 1) := by decide +kernel
theorem dX11_get_150 : decode cX11_get 150 = .ok (.getfield 12, 3) := by decide +kernel
theorem dX11_get_153 : decode cX11_get 153 = .ok (.getfield 128, 3) := by decide +kernel
theorem dX11_get_156 : decode cX11_get 156 = .ok (.iload_n 1, 1) := by decide +kernel
theorem dX11_get_157 : decode cX11_get 157 = .ok (.iaload, 1) := by decide +kernel
theorem dX11_get_158 : decode cX11_get 158 = .ok (.invokevirtual 143, 3) := by decide +kernel
theorem dX11_get_161 : decode cX11_get 161 = .ok (.aload_n 0, 1) := by decide +kernel
theorem dX11_get_162 : decode cX11_get 162 = .ok (.iload_n 1, 1) := by decide +kernel
theorem dX11_get_163 : decode cX11_get 163 = .ok (.iload 5, 2) := by decide +kernel
theorem dX11_get_165 : decode cX11_get 165 = .ok (.iload 4, 2) := by decide +kernel
theorem dX11_get_167 : decode cX11_get 167 = .ok (.invokevirtual 146, 3) := by decide +kernel
theorem dX11_get_170 : decode cX11_get 170 = .ok (.aload_n 0, 1) := by decide +kernel
theorem dX11_get_171 : decode cX11_get 171 = .ok (.getfield 33, 3) := by decide +kernel
theorem dX11_get_174 : decode cX11_get 174 = .ok (.iload_n 1, 1) := by decide +kernel
theorem dX11_get_175 : decode cX11_get 175 = .ok (.invokevirtual 150, 3) := by decide +kernel
theorem dX11_get_178 : decode cX11_get 178 = .ok (.iload 6, 2) := by decide +kernel
theorem dX11_get_180 : decode cX11_get 180 = .ok (.ireturn, 1) := by decide +kernel
set_option maxRecDepth 20000 in
theorem ggX11_value_X11_requireAnswer : GoodIn wsX11_value wsX11_requireAnswer := goodIn_ca (goodIn_r _ [7, 8, 9, 1, 10, 11, 12, 13, 14, 15, 16, 17, 18, 19, 20, 21, 22, 23, 24, 25, 26, 27, 28, 29, 30] (by decide +kernel) (by decide +kernel)) (goodIn_sub (fun _ h => List.mem_cons_of_mem _ (List.mem_append_right _ h)) (by decide +kernel))
set_option maxRecDepth 20000 in
theorem gX11_value_X11_requireAnswer : GoodIn wsX11_value (wsV RX11 152 RX11 yX11_requireAnswer wsX11_requireAnswer) := goodIn_app (goodIn_of _ (by decide +kernel)) ggX11_value_X11_requireAnswer
theorem dX11_value_0 : decode cX11_value 0 = .ok (.aload_n 0, 1) := by decide +kernel
theorem dX11_value_1 : decode cX11_value 1 = .ok (.invokevirtual 152, 3) := by decide +kernel
theorem dX11_value_4 : decode cX11_value 4 = .ok (.aload_n 0, 1) := by decide +kernel
theorem dX11_value_5 : decode cX11_value 5 = .ok (.getfield 68, 3) := by decide +kernel
theorem dX11_value_8 : decode cX11_value 8 = .ok (.getfield 155, 3) := by decide +kernel
theorem dX11_value_11 : decode cX11_value 11 = .ok (.ireturn, 1) := by decide +kernel
set_option maxRecDepth 20000 in
theorem ggX11_staleness_X11_requireAnswer : GoodIn wsX11_staleness wsX11_requireAnswer := goodIn_ca (goodIn_r _ [7, 8, 9, 1, 10, 11, 12, 13, 14, 15, 16, 17, 18, 19, 20, 21, 22, 23, 24, 25, 26, 27, 28, 29, 30] (by decide +kernel) (by decide +kernel)) (goodIn_sub (fun _ h => List.mem_cons_of_mem _ (List.mem_append_right _ h)) (by decide +kernel))
set_option maxRecDepth 20000 in
theorem gX11_staleness_X11_requireAnswer : GoodIn wsX11_staleness (wsV RX11 152 RX11 yX11_requireAnswer wsX11_requireAnswer) := goodIn_app (goodIn_of _ (by decide +kernel)) ggX11_staleness_X11_requireAnswer
theorem dX11_staleness_0 : decode cX11_staleness 0 = .ok (.aload_n 0, 1) := by decide +kernel
theorem dX11_staleness_1 : decode cX11_staleness 1 = .ok (.invokevirtual 152, 3) := by decide +kernel
theorem dX11_staleness_4 : decode cX11_staleness 4 = .ok (.aload_n 0, 1) := by decide +kernel
theorem dX11_staleness_5 : decode cX11_staleness 5 = .ok (.getfield 68, 3) := by decide +kernel
theorem dX11_staleness_8 : decode cX11_staleness 8 = .ok (.getfield 158, 3) := by decide +kernel
theorem dX11_staleness_11 : decode cX11_staleness 11 = .ok (.ireturn, 1) := by decide +kernel
theorem dX11_lease_0 : decode cX11_lease 0 = .ok (.aload_n 0, 1) := by decide +kernel
theorem dX11_lease_1 : decode cX11_lease 1 = .ok (.getfield 61, 3) := by decide +kernel
theorem dX11_lease_4 : decode cX11_lease 4 = .ok (.getfield 135, 3) := by decide +kernel
theorem dX11_lease_7 : decode cX11_lease 7 = .ok (.ifCond .ne 13, 3) := by decide +kernel
theorem dX11_lease_10 : decode cX11_lease 10 = .ok (.new 161, 3) := by decide +kernel
theorem dX11_lease_13 : decode cX11_lease 13 = .ok (.dup, 1) := by decide +kernel
theorem dX11_lease_14 : decode cX11_lease 14 = .ok (.ldc 163, 2) := by decide +kernel
theorem dX11_lease_16 : decode cX11_lease 16 = .ok (.invokespecial 165, 3) := by decide +kernel
theorem dX11_lease_19 : decode cX11_lease 19 = .ok (.athrow, 1) := by decide +kernel
theorem dX11_lease_20 : decode cX11_lease 20 = .ok (.aload_n 0, 1) := by decide +kernel
theorem dX11_lease_21 : decode cX11_lease 21 = .ok (.getfield 61, 3) := by decide +kernel
theorem dX11_lease_24 : decode cX11_lease 24 = .ok (.getfield 135, 3) := by decide +kernel
theorem dX11_lease_27 : decode cX11_lease 27 = .ok (.iconst 1, 1) := by decide +kernel
theorem dX11_lease_28 : decode cX11_lease 28 = .ok (.isub, 1) := by decide +kernel
theorem dX11_lease_29 : decode cX11_lease 29 = .ok (.ireturn, 1) := by decide +kernel
set_option maxRecDepth 20000 in
theorem ggX11_read_X11_requireLease : GoodIn wsX11_read wsX11_requireLease := goodIn_ca (goodIn_r _ [16, 17, 18, 3, 19, 44, 45, 46, 47, 48, 49, 50, 51, 52, 53, 54, 55, 56, 57, 58, 59, 60, 61, 62, 63] (by decide +kernel) (by decide +kernel)) (goodIn_sub (fun _ h => List.mem_cons_of_mem _ (List.mem_append_right _ h)) (by decide +kernel))
set_option maxRecDepth 20000 in
theorem gX11_read_X11_requireLease : GoodIn wsX11_read (wsV RX11 166 RX11 yX11_requireLease wsX11_requireLease) := goodIn_app (goodIn_of _ (by decide +kernel)) ggX11_read_X11_requireLease
set_option maxRecDepth 20000 in
theorem ggX11_read_X5_stateOf : GoodIn wsX11_read wsX5_stateOf := goodIn_ca (goodIn_r _ [24, 25, 26, 27, 57, 58, 59, 60, 61, 62, 63] (by decide +kernel) (by decide +kernel)) (goodIn_sub (fun _ h => List.mem_cons_of_mem _ (List.mem_append_left _ (List.mem_append_right _ h))) (by decide +kernel))
set_option maxRecDepth 20000 in
theorem gX11_read_X5_stateOf : GoodIn wsX11_read (wsV RX11 169 RX5 yX5_stateOf wsX5_stateOf) := goodIn_app (goodIn_of _ (by decide +kernel)) ggX11_read_X5_stateOf
set_option maxRecDepth 20000 in
theorem ggX11_read_X4_numberFor : GoodIn wsX11_read wsX4_numberFor := goodIn_ca (goodIn_r _ [32, 33, 34, 70, 71, 72, 73] (by decide +kernel) (by decide +kernel)) (goodIn_sub (fun _ h => List.mem_cons_of_mem _ (List.mem_append_left _ (List.mem_append_right _ h))) (by decide +kernel))
set_option maxRecDepth 20000 in
theorem gX11_read_X4_numberFor : GoodIn wsX11_read (wsV RX11 190 RX4 yX4_numberFor wsX4_numberFor) := goodIn_app (goodIn_of _ (by decide +kernel)) ggX11_read_X4_numberFor
set_option maxRecDepth 20000 in
theorem ggX11_read_X2_put : GoodIn wsX11_read wsX2_put := goodIn_ca (goodIn_r _ [39, 40, 41, 42, 43, 74, 75, 76, 77] (by decide +kernel) (by decide +kernel)) (goodIn_sub (fun _ h => List.mem_cons_of_mem _ (List.mem_append_left _ (List.mem_append_right _ h))) (by decide +kernel))
set_option maxRecDepth 20000 in
theorem gX11_read_X2_put : GoodIn wsX11_read (wsV RX11 194 RX2 yX2_put wsX2_put) := goodIn_app (goodIn_of _ (by decide +kernel)) ggX11_read_X2_put
theorem dX11_read_0 : decode cX11_read 0 = .ok (.aload_n 0, 1) := by decide +kernel
theorem dX11_read_1 : decode cX11_read 1 = .ok (.iload_n 1, 1) := by decide +kernel
theorem dX11_read_2 : decode cX11_read 2 = .ok (.invokevirtual 166, 3) := by decide +kernel
theorem dX11_read_5 : decode cX11_read 5 = .ok (.aload_n 0, 1) := by decide +kernel
theorem dX11_read_6 : decode cX11_read 6 = .ok (.getfield 61, 3) := by decide +kernel
theorem dX11_read_9 : decode cX11_read 9 = .ok (.iload_n 1, 1) := by decide +kernel
theorem dX11_read_10 : decode cX11_read 10 = .ok (.aload_n 0, 1) := by decide +kernel
theorem dX11_read_11 : decode cX11_read 11 = .ok (.getfield 88, 3) := by decide +kernel
theorem dX11_read_14 : decode cX11_read 14 = .ok (.invokevirtual 169, 3) := by decide +kernel
theorem dX11_read_17 : decode cX11_read 17 = .ok (.bipush 111, 2) := by decide +kernel
theorem dX11_read_19 : decode cX11_read 19 = .ok (.if_icmp .eq 13, 3) := by decide +kernel
theorem dX11_read_22 : decode cX11_read 22 = .ok (.new 114, 3) := by decide +kernel
theorem dX11_read_25 : decode cX11_read 25 = .ok (.dup, 1) := by decide +kernel
theorem dX11_read_26 : decode cX11_read 26 = .ok (.ldc 172, 2) := by decide +kernel
theorem dX11_read_28 : decode cX11_read 28 = .ok (.invokespecial 118, 3) := by decide +kernel
theorem dX11_read_31 : decode cX11_read 31 = .ok (.athrow, 1) := by decide +kernel
theorem dX11_read_32 : decode cX11_read 32 = .ok (.aload_n 0, 1) := by decide +kernel
theorem dX11_read_33 : decode cX11_read 33 = .ok (.getfield 61, 3) := by decide +kernel
theorem dX11_read_36 : decode cX11_read 36 = .ok (.getfield 174, 3) := by decide +kernel
theorem dX11_read_39 : decode cX11_read 39 = .ok (.iload_n 1, 1) := by decide +kernel
theorem dX11_read_40 : decode cX11_read 40 = .ok (.iaload, 1) := by decide +kernel
theorem dX11_read_41 : decode cX11_read 41 = .ok (.istore_n 2, 1) := by decide +kernel
theorem dX11_read_42 : decode cX11_read 42 = .ok (.aload_n 0, 1) := by decide +kernel
theorem dX11_read_43 : decode cX11_read 43 = .ok (.getfield 19, 3) := by decide +kernel
theorem dX11_read_46 : decode cX11_read 46 = .ok (.getfield 177, 3) := by decide +kernel
theorem dX11_read_49 : decode cX11_read 49 = .ok (.iload_n 2, 1) := by decide +kernel
theorem dX11_read_50 : decode cX11_read 50 = .ok (.iaload, 1) := by decide +kernel
theorem dX11_read_51 : decode cX11_read 51 = .ok (.istore_n 3, 1) := by decide +kernel
theorem dX11_read_52 : decode cX11_read 52 = .ok (.aload_n 0, 1) := by decide +kernel
theorem dX11_read_53 : decode cX11_read 53 = .ok (.getfield 61, 3) := by decide +kernel
theorem dX11_read_56 : decode cX11_read 56 = .ok (.getfield 180, 3) := by decide +kernel
theorem dX11_read_59 : decode cX11_read 59 = .ok (.iload_n 1, 1) := by decide +kernel
theorem dX11_read_60 : decode cX11_read 60 = .ok (.iconst 1, 1) := by decide +kernel
theorem dX11_read_61 : decode cX11_read 61 = .ok (.bastore, 1) := by decide +kernel
theorem dX11_read_62 : decode cX11_read 62 = .ok (.aload_n 0, 1) := by decide +kernel
theorem dX11_read_63 : decode cX11_read 63 = .ok (.getfield 61, 3) := by decide +kernel
theorem dX11_read_66 : decode cX11_read 66 = .ok (.getfield 184, 3) := by decide +kernel
theorem dX11_read_69 : decode cX11_read 69 = .ok (.iload_n 1, 1) := by decide +kernel
theorem dX11_read_70 : decode cX11_read 70 = .ok (.iload_n 3, 1) := by decide +kernel
theorem dX11_read_71 : decode cX11_read 71 = .ok (.aload_n 0, 1) := by decide +kernel
theorem dX11_read_72 : decode cX11_read 72 = .ok (.getfield 19, 3) := by decide +kernel
theorem dX11_read_75 : decode cX11_read 75 = .ok (.getfield 187, 3) := by decide +kernel
theorem dX11_read_78 : decode cX11_read 78 = .ok (.iload_n 2, 1) := by decide +kernel
theorem dX11_read_79 : decode cX11_read 79 = .ok (.iaload, 1) := by decide +kernel
theorem dX11_read_80 : decode cX11_read 80 = .ok (.aload_n 0, 1) := by decide +kernel
theorem dX11_read_81 : decode cX11_read 81 = .ok (.getfield 88, 3) := by decide +kernel
theorem dX11_read_84 : decode cX11_read 84 = .ok (.aload_n 0, 1) := by decide +kernel
theorem dX11_read_85 : decode cX11_read 85 = .ok (.getfield 12, 3) := by decide +kernel
theorem dX11_read_88 : decode cX11_read 88 = .ok (.iload_n 2, 1) := by decide +kernel
theorem dX11_read_89 : decode cX11_read 89 = .ok (.invokevirtual 190, 3) := by decide +kernel
theorem dX11_read_92 : decode cX11_read 92 = .ok (.invokevirtual 194, 3) := by decide +kernel
theorem dX11_read_95 : decode cX11_read 95 = .ok (.iload_n 3, 1) := by decide +kernel
theorem dX11_read_96 : decode cX11_read 96 = .ok (.ireturn, 1) := by decide +kernel
set_option maxRecDepth 20000 in
theorem ggX11_fill_X11_requireLease : GoodIn wsX11_fill wsX11_requireLease := goodIn_ca (goodIn_r _ [14, 15, 16, 3, 17, 142, 143, 144, 145, 146, 147, 148, 149, 150, 151, 152, 153, 154, 155, 156, 157, 158, 159, 160, 161] (by decide +kernel) (by decide +kernel)) (goodIn_sub (fun _ h => List.mem_cons_of_mem _ (List.mem_append_right _ h)) (by decide +kernel))
set_option maxRecDepth 20000 in
theorem gX11_fill_X11_requireLease : GoodIn wsX11_fill (wsV RX11 166 RX11 yX11_requireLease wsX11_requireLease) := goodIn_app (goodIn_of _ (by decide +kernel)) ggX11_fill_X11_requireLease
set_option maxRecDepth 20000 in
theorem ggX11_fill_X5_stateOf : GoodIn wsX11_fill wsX5_stateOf := goodIn_ca (goodIn_r _ [22, 23, 24, 25, 155, 156, 157, 158, 159, 160, 161] (by decide +kernel) (by decide +kernel)) (goodIn_sub (fun _ h => List.mem_cons_of_mem _ (List.mem_append_left _ (List.mem_append_left _ (List.mem_append_right _ h)))) (by decide +kernel))
set_option maxRecDepth 20000 in
theorem gX11_fill_X5_stateOf : GoodIn wsX11_fill (wsV RX11 169 RX5 yX5_stateOf wsX5_stateOf) := goodIn_app (goodIn_of _ (by decide +kernel)) ggX11_fill_X5_stateOf
set_option maxRecDepth 20000 in
theorem ggX11_fill_X2_take : GoodIn wsX11_fill wsX2_take := goodIn_ca (goodIn_r _ [30, 31, 32, 33, 34, 35, 36, 37, 29, 38, 162, 163, 164, 165] (by decide +kernel) (by decide +kernel)) (goodIn_sub (fun _ h => List.mem_cons_of_mem _ (List.mem_append_left _ (List.mem_append_left _ (List.mem_append_right _ h)))) (by decide +kernel))
set_option maxRecDepth 20000 in
theorem gX11_fill_X2_take : GoodIn wsX11_fill (wsV RX11 204 RX2 yX2_take wsX2_take) := goodIn_app (goodIn_of _ (by decide +kernel)) ggX11_fill_X2_take
set_option maxRecDepth 20000 in
theorem ggX11_fill_X11_comeIfWorthIt : GoodIn wsX11_fill wsX11_comeIfWorthIt := goodIn_ca (goodIn_r _ [42, 43, 44, 45, 46, 47, 48, 13, 49, 50, 51, 52, 53, 54, 55, 56, 57, 58, 59, 60, 61, 62, 63, 64, 65, 66, 67, 68, 69, 70, 71, 72, 73, 74, 75, 76, 77, 78, 79, 80, 81, 82, 83, 84, 85, 86, 87, 88, 89, 90, 91, 92, 93, 94, 95, 96, 97, 98, 99, 100, 101, 102, 103, 7, 104, 105, 106, 107, 108, 109, 110, 111, 112, 113, 114, 115, 116, 117, 118, 119, 120, 121, 122, 27, 28, 29, 30, 31, 32, 33, 34, 35, 36, 37, 38, 123, 124, 125, 126, 127, 128, 129, 130, 131, 132, 133, 134, 135, 136, 137, 138, 139, 140, 141, 142, 143, 144, 145, 146, 147, 148, 149, 150, 151, 152, 153, 154, 166, 167, 168, 169, 170, 171, 172, 173, 174, 175, 176, 177, 178, 179, 180, 181, 182, 183, 184, 185, 186, 187, 188, 189, 190, 162, 163, 164, 165] (by decide +kernel) (by decide +kernel)) (goodIn_sub (fun _ h => List.mem_cons_of_mem _ (List.mem_append_left _ (List.mem_append_left _ (List.mem_append_right _ h)))) (by decide +kernel))
set_option maxRecDepth 20000 in
theorem gX11_fill_X11_comeIfWorthIt : GoodIn wsX11_fill (wsV RX11 208 RX11 yX11_comeIfWorthIt wsX11_comeIfWorthIt) := goodIn_app (goodIn_of _ (by decide +kernel)) ggX11_fill_X11_comeIfWorthIt
theorem dX11_fill_0 : decode cX11_fill 0 = .ok (.aload_n 0, 1) := by decide +kernel
theorem dX11_fill_1 : decode cX11_fill 1 = .ok (.iload_n 1, 1) := by decide +kernel
theorem dX11_fill_2 : decode cX11_fill 2 = .ok (.invokevirtual 166, 3) := by decide +kernel
theorem dX11_fill_5 : decode cX11_fill 5 = .ok (.aload_n 0, 1) := by decide +kernel
theorem dX11_fill_6 : decode cX11_fill 6 = .ok (.getfield 61, 3) := by decide +kernel
theorem dX11_fill_9 : decode cX11_fill 9 = .ok (.iload_n 1, 1) := by decide +kernel
theorem dX11_fill_10 : decode cX11_fill 10 = .ok (.aload_n 0, 1) := by decide +kernel
theorem dX11_fill_11 : decode cX11_fill 11 = .ok (.getfield 88, 3) := by decide +kernel
theorem dX11_fill_14 : decode cX11_fill 14 = .ok (.invokevirtual 169, 3) := by decide +kernel
theorem dX11_fill_17 : decode cX11_fill 17 = .ok (.istore_n 2, 1) := by decide +kernel
theorem dX11_fill_18 : decode cX11_fill 18 = .ok (.iload_n 2, 1) := by decide +kernel
theorem dX11_fill_19 : decode cX11_fill 19 = .ok (.bipush 102, 2) := by decide +kernel
theorem dX11_fill_21 : decode cX11_fill 21 = .ok (.if_icmp .eq 15, 3) := by decide +kernel
theorem dX11_fill_24 : decode cX11_fill 24 = .ok (.aload_n 0, 1) := by decide +kernel
theorem dX11_fill_25 : decode cX11_fill 25 = .ok (.getfield 61, 3) := by decide +kernel
theorem dX11_fill_28 : decode cX11_fill 28 = .ok (.getfield 180, 3) := by decide +kernel
theorem dX11_fill_31 : decode cX11_fill 31 = .ok (.iload_n 1, 1) := by decide +kernel
theorem dX11_fill_32 : decode cX11_fill 32 = .ok (.baload, 1) := by decide +kernel
theorem dX11_fill_33 : decode cX11_fill 33 = .ok (.ifCond .ne 13, 3) := by decide +kernel
theorem dX11_fill_36 : decode cX11_fill 36 = .ok (.new 114, 3) := by decide +kernel
theorem dX11_fill_39 : decode cX11_fill 39 = .ok (.dup, 1) := by decide +kernel
theorem dX11_fill_40 : decode cX11_fill 40 = .ok (.ldc 198, 2) := by decide +kernel
theorem dX11_fill_42 : decode cX11_fill 42 = .ok (.invokespecial 118, 3) := by decide +kernel
theorem dX11_fill_45 : decode cX11_fill 45 = .ok (.athrow, 1) := by decide +kernel
theorem dX11_fill_46 : decode cX11_fill 46 = .ok (.iload_n 2, 1) := by decide +kernel
theorem dX11_fill_47 : decode cX11_fill 47 = .ok (.bipush 120, 2) := by decide +kernel
theorem dX11_fill_49 : decode cX11_fill 49 = .ok (.if_icmp .ne 6, 3) := by decide +kernel
theorem dX11_fill_52 : decode cX11_fill 52 = .ok (.bipush 120, 2) := by decide +kernel
theorem dX11_fill_54 : decode cX11_fill 54 = .ok (.ireturn, 1) := by decide +kernel
theorem dX11_fill_55 : decode cX11_fill 55 = .ok (.aload_n 0, 1) := by decide +kernel
theorem dX11_fill_56 : decode cX11_fill 56 = .ok (.getfield 61, 3) := by decide +kernel
theorem dX11_fill_59 : decode cX11_fill 59 = .ok (.getfield 200, 3) := by decide +kernel
theorem dX11_fill_62 : decode cX11_fill 62 = .ok (.iload_n 1, 1) := by decide +kernel
theorem dX11_fill_63 : decode cX11_fill 63 = .ok (.bipush 102, 2) := by decide +kernel
theorem dX11_fill_65 : decode cX11_fill 65 = .ok (.castore, 1) := by decide +kernel
theorem dX11_fill_66 : decode cX11_fill 66 = .ok (.aload_n 0, 1) := by decide +kernel
theorem dX11_fill_67 : decode cX11_fill 67 = .ok (.getfield 84, 3) := by decide +kernel
theorem dX11_fill_70 : decode cX11_fill 70 = .ok (.iconst 0, 1) := by decide +kernel
theorem dX11_fill_71 : decode cX11_fill 71 = .ok (.aload_n 0, 1) := by decide +kernel
theorem dX11_fill_72 : decode cX11_fill 72 = .ok (.getfield 61, 3) := by decide +kernel
theorem dX11_fill_75 : decode cX11_fill 75 = .ok (.getfield 184, 3) := by decide +kernel
theorem dX11_fill_78 : decode cX11_fill 78 = .ok (.iload_n 1, 1) := by decide +kernel
theorem dX11_fill_79 : decode cX11_fill 79 = .ok (.invokevirtual 204, 3) := by decide +kernel
theorem dX11_fill_82 : decode cX11_fill 82 = .ok (.aload_n 0, 1) := by decide +kernel
theorem dX11_fill_83 : decode cX11_fill 83 = .ok (.aload_n 0, 1) := by decide +kernel
theorem dX11_fill_84 : decode cX11_fill 84 = .ok (.getfield 61, 3) := by decide +kernel
theorem dX11_fill_87 : decode cX11_fill 87 = .ok (.getfield 174, 3) := by decide +kernel
theorem dX11_fill_90 : decode cX11_fill 90 = .ok (.iload_n 1, 1) := by decide +kernel
theorem dX11_fill_91 : decode cX11_fill 91 = .ok (.iaload, 1) := by decide +kernel
theorem dX11_fill_92 : decode cX11_fill 92 = .ok (.invokevirtual 208, 3) := by decide +kernel
theorem dX11_fill_95 : decode cX11_fill 95 = .ok (.ifCond .eq 8, 3) := by decide +kernel
theorem dX11_fill_98 : decode cX11_fill 98 = .ok (.bipush 105, 2) := by decide +kernel
theorem dX11_fill_100 : decode cX11_fill 100 = .ok (.goto 5, 3) := by decide +kernel
theorem dX11_fill_103 : decode cX11_fill 103 = .ok (.bipush 110, 2) := by decide +kernel
theorem dX11_fill_105 : decode cX11_fill 105 = .ok (.ireturn, 1) := by decide +kernel
set_option maxRecDepth 20000 in
theorem ggX11_leaseState_X11_requireLease : GoodIn wsX11_leaseState wsX11_requireLease := goodIn_ca (goodIn_r _ [7, 8, 9, 1, 10, 19, 20, 21, 22, 23, 24, 25, 26, 27, 28, 29, 30, 31, 32, 33, 34, 35, 36, 37, 38] (by decide +kernel) (by decide +kernel)) (goodIn_sub (fun _ h => List.mem_cons_of_mem _ (List.mem_append_left _ (List.mem_append_right _ h))) (by decide +kernel))
set_option maxRecDepth 20000 in
theorem gX11_leaseState_X11_requireLease : GoodIn wsX11_leaseState (wsV RX11 166 RX11 yX11_requireLease wsX11_requireLease) := goodIn_app (goodIn_of _ (by decide +kernel)) ggX11_leaseState_X11_requireLease
set_option maxRecDepth 20000 in
theorem ggX11_leaseState_X5_stateOf : GoodIn wsX11_leaseState wsX5_stateOf := goodIn_ca (goodIn_r _ [15, 16, 17, 18, 32, 33, 34, 35, 36, 37, 38] (by decide +kernel) (by decide +kernel)) (goodIn_sub (fun _ h => List.mem_cons_of_mem _ (List.mem_append_right _ h)) (by decide +kernel))
set_option maxRecDepth 20000 in
theorem gX11_leaseState_X5_stateOf : GoodIn wsX11_leaseState (wsV RX11 169 RX5 yX5_stateOf wsX5_stateOf) := goodIn_app (goodIn_of _ (by decide +kernel)) ggX11_leaseState_X5_stateOf
theorem dX11_leaseState_0 : decode cX11_leaseState 0 = .ok (.aload_n 0, 1) := by decide +kernel
theorem dX11_leaseState_1 : decode cX11_leaseState 1 = .ok (.iload_n 1, 1) := by decide +kernel
theorem dX11_leaseState_2 : decode cX11_leaseState 2 = .ok (.invokevirtual 166, 3) := by decide +kernel
theorem dX11_leaseState_5 : decode cX11_leaseState 5 = .ok (.aload_n 0, 1) := by decide +kernel
theorem dX11_leaseState_6 : decode cX11_leaseState 6 = .ok (.getfield 61, 3) := by decide +kernel
theorem dX11_leaseState_9 : decode cX11_leaseState 9 = .ok (.iload_n 1, 1) := by decide +kernel
theorem dX11_leaseState_10 : decode cX11_leaseState 10 = .ok (.aload_n 0, 1) := by decide +kernel
theorem dX11_leaseState_11 : decode cX11_leaseState 11 = .ok (.getfield 88, 3) := by decide +kernel
theorem dX11_leaseState_14 : decode cX11_leaseState 14 = .ok (.invokevirtual 169, 3) := by decide +kernel
theorem dX11_leaseState_17 : decode cX11_leaseState 17 = .ok (.ireturn, 1) := by decide +kernel
set_option maxRecDepth 20000 in
theorem ggX11_write_X11_requireKey : GoodIn wsX11_write wsX11_requireKey := goodIn_ca (goodIn_r _ [15, 16, 17] (by decide +kernel) (by decide +kernel)) (goodIn_sub (fun _ h => List.mem_cons_of_mem _ (List.mem_append_right _ h)) (by decide +kernel))
set_option maxRecDepth 20000 in
theorem gX11_write_X11_requireKey : GoodIn wsX11_write (va_wsS RX11 96 yX11_requireKey wsX11_requireKey) := goodIn_app (goodIn_of _ (by decide +kernel)) ggX11_write_X11_requireKey
set_option maxRecDepth 20000 in
theorem ggX11_write_X11_requireUp : GoodIn wsX11_write wsX11_requireUp := goodIn_ca (goodIn_r _ [21, 3, 4, 22, 202, 203, 204, 205, 206, 207, 208, 209, 210, 211, 212, 213, 214] (by decide +kernel) (by decide +kernel)) (goodIn_sub (fun _ h => List.mem_cons_of_mem _ (List.mem_append_left _ (List.mem_append_left _ (List.mem_append_left _ (List.mem_append_right _ h))))) (by decide +kernel))
set_option maxRecDepth 20000 in
theorem gX11_write_X11_requireUp : GoodIn wsX11_write (wsV RX11 103 RX11 yX11_requireUp wsX11_requireUp) := goodIn_app (goodIn_of _ (by decide +kernel)) ggX11_write_X11_requireUp
set_option maxRecDepth 20000 in
theorem ggX11_write_X11_chooseLeavers : GoodIn wsX11_write wsX11_chooseLeavers := goodIn_ca (goodIn_r _ [26, 27, 28, 29, 30, 31, 32, 33, 34, 35, 36, 37, 38, 39, 40, 41, 42, 43, 44, 14, 45, 46, 47, 48, 49, 50, 51, 52, 53, 54, 55, 56, 57, 58, 59, 60, 9, 61, 62, 63, 64, 65, 66, 67, 68, 69, 70, 71, 72, 73, 202, 203, 204, 205, 206, 207, 208, 209, 210, 211, 212, 213, 214, 225, 226, 227, 228, 229, 230, 231, 232, 233, 234, 235, 236, 237, 238, 239, 240, 221, 222, 223, 224] (by decide +kernel) (by decide +kernel)) (goodIn_sub (fun _ h => List.mem_cons_of_mem _ (List.mem_append_left _ (List.mem_append_right _ h))) (by decide +kernel))
set_option maxRecDepth 20000 in
theorem gX11_write_X11_chooseLeavers : GoodIn wsX11_write (wsV RX11 222 RX11 yX11_chooseLeavers wsX11_chooseLeavers) := goodIn_app (goodIn_of _ (by decide +kernel)) ggX11_write_X11_chooseLeavers
set_option maxRecDepth 20000 in
theorem ggX11_write_X11_writeThrough : GoodIn wsX11_write wsX11_writeThrough := goodIn_ca (goodIn_r _ [77, 9, 28, 29, 78, 79, 31, 80, 81, 82, 83, 84, 14, 85, 7, 86, 87, 88, 89, 90, 91, 92, 93, 94, 95, 96, 97, 98, 99, 100, 101, 102, 103, 104, 105, 106, 107, 108, 109, 110, 111, 112, 113, 114, 115, 116, 117, 118, 119, 120, 121, 122, 123, 124, 125, 126, 127, 128, 129, 130, 131, 132, 133, 134, 135, 136, 137, 138, 139, 140, 141, 142, 143, 144, 145, 146, 147, 148, 149, 150, 151, 152, 153, 154, 155, 156, 157, 158, 159, 160, 161, 202, 203, 204, 205, 206, 207, 208, 209, 210, 211, 212, 213, 214, 225, 226, 227, 228, 229, 215, 216, 217, 218, 219, 220, 241, 242, 243, 244, 245, 246, 221, 222, 223, 224, 230, 231, 232, 233, 247, 248, 249, 250, 251, 252, 253, 254, 255, 256, 257, 258, 259, 260, 261, 262] (by decide +kernel) (by decide +kernel)) (goodIn_sub (fun _ h => List.mem_cons_of_mem _ (List.mem_append_left _ (List.mem_append_right _ h))) (by decide +kernel))
set_option maxRecDepth 20000 in
theorem gX11_write_X11_writeThrough : GoodIn wsX11_write (wsV RX11 227 RX11 yX11_writeThrough wsX11_writeThrough) := goodIn_app (goodIn_of _ (by decide +kernel)) ggX11_write_X11_writeThrough
set_option maxRecDepth 20000 in
theorem ggX11_write_X11_writeBehind : GoodIn wsX11_write wsX11_writeBehind := goodIn_ca (goodIn_r _ [165, 166, 7, 11, 79, 31, 80, 9, 81, 114, 115, 116, 117, 118, 119, 120, 121, 122, 123, 124, 125, 126, 127, 128, 129, 167, 168, 169, 14, 170, 27, 171, 172, 46, 28, 78, 32, 48, 49, 50, 51, 52, 53, 54, 55, 56, 173, 174, 175, 140, 176, 143, 177, 142, 144, 145, 146, 147, 148, 149, 150, 151, 152, 153, 178, 179, 180, 181, 182, 183, 184, 185, 133, 186, 187, 188, 189, 190, 191, 192, 193, 194, 195, 131, 132, 134, 135, 136, 137, 138, 139, 141, 196, 197, 198, 110, 199, 112, 200, 113, 201, 154, 155, 156, 157, 158, 159, 160, 161, 202, 203, 204, 205, 206, 207, 208, 209, 210, 211, 212, 213, 214, 215, 216, 217, 218, 219, 220, 230, 231, 232, 233, 247, 248, 249, 250, 234, 235, 236, 237, 238, 225, 226, 227, 228, 229, 239, 240, 251, 252, 253, 254, 255, 221, 222, 223, 224, 256, 257, 258, 259, 260, 261, 262] (by decide +kernel) (by decide +kernel)) (goodIn_sub (fun _ h => List.mem_cons_of_mem _ (List.mem_append_left _ (List.mem_append_right _ h))) (by decide +kernel))
set_option maxRecDepth 20000 in
theorem gX11_write_X11_writeBehind : GoodIn wsX11_write (wsV RX11 231 RX11 yX11_writeBehind wsX11_writeBehind) := goodIn_app (goodIn_of _ (by decide +kernel)) ggX11_write_X11_writeBehind
set_option maxRecDepth 20000 in
theorem ggX11_write_X11_writeStore : GoodIn wsX11_write wsX11_writeStore := goodIn_ca (goodIn_r _ [85, 7, 79, 86, 87, 88, 89, 90, 91, 92, 93, 94, 95, 96, 97, 98, 99, 100, 101, 102, 103, 104, 105, 106, 202, 203, 204, 205, 206, 207, 208, 209, 210, 211, 212, 213, 214, 215, 216, 217, 218, 219, 220, 241, 242, 243, 244, 245, 246] (by decide +kernel) (by decide +kernel)) (goodIn_sub (fun _ h => List.mem_cons_of_mem _ (List.mem_append_left _ (List.mem_append_right _ h))) (by decide +kernel))
set_option maxRecDepth 20000 in
theorem gX11_write_X11_writeStore : GoodIn wsX11_write (wsV RX11 234 RX11 yX11_writeStore wsX11_writeStore) := goodIn_app (goodIn_of _ (by decide +kernel)) ggX11_write_X11_writeStore
theorem dX11_write_0 : decode cX11_write 0 = .ok (.iload_n 1, 1) := by decide +kernel
theorem dX11_write_1 : decode cX11_write 1 = .ok (.invokestatic 96, 3) := by decide +kernel
theorem dX11_write_4 : decode cX11_write 4 = .ok (.iload_n 3, 1) := by decide +kernel
theorem dX11_write_5 : decode cX11_write 5 = .ok (.bipush 116, 2) := by decide +kernel
theorem dX11_write_7 : decode cX11_write 7 = .ok (.if_icmp .eq 25, 3) := by decide +kernel
theorem dX11_write_10 : decode cX11_write 10 = .ok (.iload_n 3, 1) := by decide +kernel
theorem dX11_write_11 : decode cX11_write 11 = .ok (.bipush 98, 2) := by decide +kernel
theorem dX11_write_13 : decode cX11_write 13 = .ok (.if_icmp .eq 19, 3) := by decide +kernel
theorem dX11_write_16 : decode cX11_write 16 = .ok (.iload_n 3, 1) := by decide +kernel
theorem dX11_write_17 : decode cX11_write 17 = .ok (.bipush 97, 2) := by decide +kernel
theorem dX11_write_19 : decode cX11_write 19 = .ok (.if_icmp .eq 13, 3) := by decide +kernel
theorem dX11_write_22 : decode cX11_write 22 = .ok (.new 211, 3) := by decide +kernel
theorem dX11_write_25 : decode cX11_write 25 = .ok (.dup, 1) := by decide +kernel
theorem dX11_write_26 : decode cX11_write 26 = .ok (.ldc 213, 2) := by decide +kernel
theorem dX11_write_28 : decode cX11_write 28 = .ok (.invokespecial 215, 3) := by decide +kernel
theorem dX11_write_31 : decode cX11_write 31 = .ok (.athrow, 1) := by decide +kernel
theorem dX11_write_32 : decode cX11_write 32 = .ok (.iload_n 3, 1) := by decide +kernel
theorem dX11_write_33 : decode cX11_write 33 = .ok (.bipush 97, 2) := by decide +kernel
theorem dX11_write_35 : decode cX11_write 35 = .ok (.if_icmp .eq 7, 3) := by decide +kernel
theorem dX11_write_38 : decode cX11_write 38 = .ok (.aload_n 0, 1) := by decide +kernel
theorem dX11_write_39 : decode cX11_write 39 = .ok (.invokevirtual 103, 3) := by decide +kernel
theorem dX11_write_42 : decode cX11_write 42 = .ok (.aload_n 0, 1) := by decide +kernel
theorem dX11_write_43 : decode cX11_write 43 = .ok (.getfield 19, 3) := by decide +kernel
theorem dX11_write_46 : decode cX11_write 46 = .ok (.getfield 216, 3) := by decide +kernel
theorem dX11_write_49 : decode cX11_write 49 = .ok (.aload_n 0, 1) := by decide +kernel
theorem dX11_write_50 : decode cX11_write 50 = .ok (.getfield 54, 3) := by decide +kernel
theorem dX11_write_53 : decode cX11_write 53 = .ok (.getfield 219, 3) := by decide +kernel
theorem dX11_write_56 : decode cX11_write 56 = .ok (.iadd, 1) := by decide +kernel
theorem dX11_write_57 : decode cX11_write 57 = .ok (.sipush 400, 3) := by decide +kernel
theorem dX11_write_60 : decode cX11_write 60 = .ok (.if_icmp .lt 13, 3) := by decide +kernel
theorem dX11_write_63 : decode cX11_write 63 = .ok (.new 114, 3) := by decide +kernel
theorem dX11_write_66 : decode cX11_write 66 = .ok (.dup, 1) := by decide +kernel
theorem dX11_write_67 : decode cX11_write 67 = .ok (.ldc 220, 2) := by decide +kernel
theorem dX11_write_69 : decode cX11_write 69 = .ok (.invokespecial 118, 3) := by decide +kernel
theorem dX11_write_72 : decode cX11_write 72 = .ok (.athrow, 1) := by decide +kernel
theorem dX11_write_73 : decode cX11_write 73 = .ok (.iload_n 3, 1) := by decide +kernel
theorem dX11_write_74 : decode cX11_write 74 = .ok (.bipush 98, 2) := by decide +kernel
theorem dX11_write_76 : decode cX11_write 76 = .ok (.if_icmp .ne 21, 3) := by decide +kernel
theorem dX11_write_79 : decode cX11_write 79 = .ok (.aload_n 0, 1) := by decide +kernel
theorem dX11_write_80 : decode cX11_write 80 = .ok (.iload_n 1, 1) := by decide +kernel
theorem dX11_write_81 : decode cX11_write 81 = .ok (.invokevirtual 222, 3) := by decide +kernel
theorem dX11_write_84 : decode cX11_write 84 = .ok (.ifCond .ne 13, 3) := by decide +kernel
theorem dX11_write_87 : decode cX11_write 87 = .ok (.new 138, 3) := by decide +kernel
theorem dX11_write_90 : decode cX11_write 90 = .ok (.dup, 1) := by decide +kernel
theorem dX11_write_91 : decode cX11_write 91 = .ok (.ldc 225, 2) := by decide +kernel
theorem dX11_write_93 : decode cX11_write 93 = .ok (.invokespecial 142, 3) := by decide +kernel
theorem dX11_write_96 : decode cX11_write 96 = .ok (.athrow, 1) := by decide +kernel
theorem dX11_write_97 : decode cX11_write 97 = .ok (.iload_n 3, 1) := by decide +kernel
theorem dX11_write_98 : decode cX11_write 98 = .ok (.bipush 116, 2) := by decide +kernel
theorem dX11_write_100 : decode cX11_write 100 = .ok (.if_icmp .ne 12, 3) := by decide +kernel
theorem dX11_write_103 : decode cX11_write 103 = .ok (.aload_n 0, 1) := by decide +kernel
theorem dX11_write_104 : decode cX11_write 104 = .ok (.iload_n 1, 1) := by decide +kernel
theorem dX11_write_105 : decode cX11_write 105 = .ok (.iload_n 2, 1) := by decide +kernel
theorem dX11_write_106 : decode cX11_write 106 = .ok (.invokevirtual 227, 3) := by decide +kernel
theorem dX11_write_109 : decode cX11_write 109 = .ok (.goto 25, 3) := by decide +kernel
theorem dX11_write_112 : decode cX11_write 112 = .ok (.iload_n 3, 1) := by decide +kernel
theorem dX11_write_113 : decode cX11_write 113 = .ok (.bipush 98, 2) := by decide +kernel
theorem dX11_write_115 : decode cX11_write 115 = .ok (.if_icmp .ne 12, 3) := by decide +kernel
theorem dX11_write_118 : decode cX11_write 118 = .ok (.aload_n 0, 1) := by decide +kernel
theorem dX11_write_119 : decode cX11_write 119 = .ok (.iload_n 1, 1) := by decide +kernel
theorem dX11_write_120 : decode cX11_write 120 = .ok (.iload_n 2, 1) := by decide +kernel
theorem dX11_write_121 : decode cX11_write 121 = .ok (.invokevirtual 231, 3) := by decide +kernel
theorem dX11_write_124 : decode cX11_write 124 = .ok (.goto 10, 3) := by decide +kernel
theorem dX11_write_127 : decode cX11_write 127 = .ok (.aload_n 0, 1) := by decide +kernel
theorem dX11_write_128 : decode cX11_write 128 = .ok (.iload_n 1, 1) := by decide +kernel
theorem dX11_write_129 : decode cX11_write 129 = .ok (.iload_n 2, 1) := by decide +kernel
theorem dX11_write_130 : decode cX11_write 130 = .ok (.invokevirtual 234, 3) := by decide +kernel
theorem dX11_write_133 : decode cX11_write 133 = .ok (.pop, 1) := by decide +kernel
theorem dX11_write_134 : decode cX11_write 134 = .ok (.aload_n 0, 1) := by decide +kernel
theorem dX11_write_135 : decode cX11_write 135 = .ok (.getfield 19, 3) := by decide +kernel
theorem dX11_write_138 : decode cX11_write 138 = .ok (.getfield 187, 3) := by decide +kernel
theorem dX11_write_141 : decode cX11_write 141 = .ok (.iload_n 1, 1) := by decide +kernel
theorem dX11_write_142 : decode cX11_write 142 = .ok (.iaload, 1) := by decide +kernel
theorem dX11_write_143 : decode cX11_write 143 = .ok (.ireturn, 1) := by decide +kernel
set_option maxRecDepth 20000 in
theorem ggX11_drop_X11_requireKey : GoodIn wsX11_drop wsX11_requireKey := goodIn_ca (goodIn_r _ [11, 12, 13] (by decide +kernel) (by decide +kernel)) (goodIn_sub (fun _ h => List.mem_cons_of_mem _ (List.mem_append_left _ (List.mem_append_right _ h))) (by decide +kernel))
set_option maxRecDepth 20000 in
theorem gX11_drop_X11_requireKey : GoodIn wsX11_drop (va_wsS RX11 96 yX11_requireKey wsX11_requireKey) := goodIn_app (goodIn_of _ (by decide +kernel)) ggX11_drop_X11_requireKey
set_option maxRecDepth 20000 in
theorem ggX11_drop_X11_requireUp : GoodIn wsX11_drop wsX11_requireUp := goodIn_ca (goodIn_r _ [17, 18, 19, 20, 101, 102, 103, 104, 105, 106, 107, 108, 109, 110, 111, 112, 113] (by decide +kernel) (by decide +kernel)) (goodIn_sub (fun _ h => List.mem_cons_of_mem _ (List.mem_append_right _ h)) (by decide +kernel))
set_option maxRecDepth 20000 in
theorem gX11_drop_X11_requireUp : GoodIn wsX11_drop (wsV RX11 103 RX11 yX11_requireUp wsX11_requireUp) := goodIn_app (goodIn_of _ (by decide +kernel)) ggX11_drop_X11_requireUp
set_option maxRecDepth 20000 in
theorem ggX11_drop_X11_isKept : GoodIn wsX11_drop wsX11_isKept := goodIn_ca (goodIn_r _ [24, 3, 25, 6, 26, 101, 102, 103, 104, 105, 106, 107, 108, 109, 110, 111, 112, 113, 122, 123, 124, 125, 126, 127, 128, 129, 130, 131] (by decide +kernel) (by decide +kernel)) (goodIn_sub (fun _ h => List.mem_cons_of_mem _ (List.mem_append_left _ (List.mem_append_left _ (List.mem_append_right _ h)))) (by decide +kernel))
set_option maxRecDepth 20000 in
theorem gX11_drop_X11_isKept : GoodIn wsX11_drop (wsV RX11 106 RX11 yX11_isKept wsX11_isKept) := goodIn_app (goodIn_of _ (by decide +kernel)) ggX11_drop_X11_isKept
set_option maxRecDepth 20000 in
theorem ggX11_drop_X11_keepPromise : GoodIn wsX11_drop wsX11_keepPromise := goodIn_ca (goodIn_r _ [30, 1, 31, 3, 25, 32, 33, 34, 35, 36, 37, 38, 10, 39, 40, 41, 42, 43, 44, 45, 46, 47, 48, 49, 50, 51, 52, 53, 54, 55, 56, 57, 58, 59, 60, 61, 62, 63, 64, 65, 66, 67, 68, 101, 102, 103, 104, 105, 106, 107, 108, 109, 110, 111, 112, 113, 114, 115, 116, 117, 122, 123, 124, 125, 126, 132, 133, 134, 135, 136, 137, 138, 139, 140, 141, 142, 143, 144, 145, 146, 147] (by decide +kernel) (by decide +kernel)) (goodIn_sub (fun _ h => List.mem_cons_of_mem _ (List.mem_append_left _ (List.mem_append_left _ (List.mem_append_right _ h)))) (by decide +kernel))
set_option maxRecDepth 20000 in
theorem gX11_drop_X11_keepPromise : GoodIn wsX11_drop (wsV RX11 241 RX11 yX11_keepPromise wsX11_keepPromise) := goodIn_app (goodIn_of _ (by decide +kernel)) ggX11_drop_X11_keepPromise
set_option maxRecDepth 20000 in
theorem ggX11_drop_X6_remove : GoodIn wsX11_drop wsX6_remove := goodIn_ca (goodIn_r _ [73, 74, 75, 122, 123, 124, 125, 126] (by decide +kernel) (by decide +kernel)) (goodIn_sub (fun _ h => List.mem_cons_of_mem _ (List.mem_append_left _ (List.mem_append_left _ (List.mem_append_right _ h)))) (by decide +kernel))
set_option maxRecDepth 20000 in
theorem gX11_drop_X6_remove : GoodIn wsX11_drop (wsV RX11 244 RX6 yX6_remove wsX6_remove) := goodIn_app (goodIn_of _ (by decide +kernel)) ggX11_drop_X6_remove
set_option maxRecDepth 20000 in
theorem ggX11_drop_X3_takeOut : GoodIn wsX11_drop wsX3_takeOut := goodIn_ca (goodIn_r _ [80, 81, 82, 83, 84, 85, 79, 86, 87, 88, 89, 90, 91, 92, 127, 128, 129, 130, 131] (by decide +kernel) (by decide +kernel)) (goodIn_sub (fun _ h => List.mem_cons_of_mem _ (List.mem_append_left _ (List.mem_append_left _ (List.mem_append_right _ h)))) (by decide +kernel))
set_option maxRecDepth 20000 in
theorem gX11_drop_X3_takeOut : GoodIn wsX11_drop (wsV RX11 247 RX3 yX3_takeOut wsX3_takeOut) := goodIn_app (goodIn_of _ (by decide +kernel)) ggX11_drop_X3_takeOut
set_option maxRecDepth 20000 in
theorem ggX11_drop_X5_voidFor : GoodIn wsX11_drop wsX5_voidFor := goodIn_ca (goodIn_r _ [97, 98, 99, 100, 148, 149, 150, 151, 152, 153, 154] (by decide +kernel) (by decide +kernel)) (goodIn_sub (fun _ h => List.mem_cons_of_mem _ (List.mem_append_left _ (List.mem_append_left _ (List.mem_append_right _ h)))) (by decide +kernel))
set_option maxRecDepth 20000 in
theorem gX11_drop_X5_voidFor : GoodIn wsX11_drop (wsV RX11 250 RX5 yX5_voidFor wsX5_voidFor) := goodIn_app (goodIn_of _ (by decide +kernel)) ggX11_drop_X5_voidFor
theorem dX11_drop_0 : decode cX11_drop 0 = .ok (.iload_n 1, 1) := by decide +kernel
theorem dX11_drop_1 : decode cX11_drop 1 = .ok (.invokestatic 96, 3) := by decide +kernel
theorem dX11_drop_4 : decode cX11_drop 4 = .ok (.aload_n 0, 1) := by decide +kernel
theorem dX11_drop_5 : decode cX11_drop 5 = .ok (.invokevirtual 103, 3) := by decide +kernel
theorem dX11_drop_8 : decode cX11_drop 8 = .ok (.aload_n 0, 1) := by decide +kernel
theorem dX11_drop_9 : decode cX11_drop 9 = .ok (.iload_n 1, 1) := by decide +kernel
theorem dX11_drop_10 : decode cX11_drop 10 = .ok (.invokevirtual 106, 3) := by decide +kernel
theorem dX11_drop_13 : decode cX11_drop 13 = .ok (.istore_n 2, 1) := by decide +kernel
theorem dX11_drop_14 : decode cX11_drop 14 = .ok (.aload_n 0, 1) := by decide +kernel
theorem dX11_drop_15 : decode cX11_drop 15 = .ok (.getfield 54, 3) := by decide +kernel
theorem dX11_drop_18 : decode cX11_drop 18 = .ok (.getfield 238, 3) := by decide +kernel
theorem dX11_drop_21 : decode cX11_drop 21 = .ok (.iload_n 1, 1) := by decide +kernel
theorem dX11_drop_22 : decode cX11_drop 22 = .ok (.baload, 1) := by decide +kernel
theorem dX11_drop_23 : decode cX11_drop 23 = .ok (.ifCond .eq 8, 3) := by decide +kernel
theorem dX11_drop_26 : decode cX11_drop 26 = .ok (.aload_n 0, 1) := by decide +kernel
theorem dX11_drop_27 : decode cX11_drop 27 = .ok (.iload_n 1, 1) := by decide +kernel
theorem dX11_drop_28 : decode cX11_drop 28 = .ok (.invokevirtual 241, 3) := by decide +kernel
theorem dX11_drop_31 : decode cX11_drop 31 = .ok (.aload_n 0, 1) := by decide +kernel
theorem dX11_drop_32 : decode cX11_drop 32 = .ok (.getfield 40, 3) := by decide +kernel
theorem dX11_drop_35 : decode cX11_drop 35 = .ok (.iload_n 1, 1) := by decide +kernel
theorem dX11_drop_36 : decode cX11_drop 36 = .ok (.aload_n 0, 1) := by decide +kernel
theorem dX11_drop_37 : decode cX11_drop 37 = .ok (.getfield 12, 3) := by decide +kernel
theorem dX11_drop_40 : decode cX11_drop 40 = .ok (.getfield 125, 3) := by decide +kernel
theorem dX11_drop_43 : decode cX11_drop 43 = .ok (.iload_n 1, 1) := by decide +kernel
theorem dX11_drop_44 : decode cX11_drop 44 = .ok (.iaload, 1) := by decide +kernel
theorem dX11_drop_45 : decode cX11_drop 45 = .ok (.invokevirtual 244, 3) := by decide +kernel
theorem dX11_drop_48 : decode cX11_drop 48 = .ok (.aload_n 0, 1) := by decide +kernel
theorem dX11_drop_49 : decode cX11_drop 49 = .ok (.getfield 47, 3) := by decide +kernel
theorem dX11_drop_52 : decode cX11_drop 52 = .ok (.iload_n 1, 1) := by decide +kernel
theorem dX11_drop_53 : decode cX11_drop 53 = .ok (.invokevirtual 247, 3) := by decide +kernel
theorem dX11_drop_56 : decode cX11_drop 56 = .ok (.aload_n 0, 1) := by decide +kernel
theorem dX11_drop_57 : decode cX11_drop 57 = .ok (.getfield 61, 3) := by decide +kernel
theorem dX11_drop_60 : decode cX11_drop 60 = .ok (.iload_n 1, 1) := by decide +kernel
theorem dX11_drop_61 : decode cX11_drop 61 = .ok (.invokevirtual 250, 3) := by decide +kernel
theorem dX11_drop_64 : decode cX11_drop 64 = .ok (.iload_n 2, 1) := by decide +kernel
theorem dX11_drop_65 : decode cX11_drop 65 = .ok (.ireturn, 1) := by decide +kernel
set_option maxRecDepth 20000 in
theorem ggX11_bump_X11_requireUp : GoodIn wsX11_bump wsX11_requireUp := goodIn_ca (goodIn_r _ [11, 12, 13, 14, 84, 85, 86, 87, 88, 89, 90, 91, 92, 93, 94, 95, 96] (by decide +kernel) (by decide +kernel)) (goodIn_sub (fun _ h => List.mem_cons_of_mem _ (List.mem_append_right _ h)) (by decide +kernel))
set_option maxRecDepth 20000 in
theorem gX11_bump_X11_requireUp : GoodIn wsX11_bump (wsV RX11 103 RX11 yX11_requireUp wsX11_requireUp) := goodIn_app (goodIn_of _ (by decide +kernel)) ggX11_bump_X11_requireUp
set_option maxRecDepth 20000 in
theorem ggX11_bump_X11_keepPromises : GoodIn wsX11_bump wsX11_keepPromises := goodIn_ca (goodIn_r _ [18, 19, 3, 20, 21, 22, 23, 24, 25, 26, 27, 28, 29, 30, 31, 32, 33, 34, 35, 36, 10, 37, 38, 39, 40, 41, 42, 43, 44, 45, 46, 47, 48, 49, 50, 51, 52, 53, 54, 55, 56, 57, 58, 59, 60, 61, 62, 63, 64, 65, 66, 67, 68, 69, 70, 71, 72, 73, 74, 75, 84, 85, 86, 87, 88, 89, 90, 91, 92, 93, 94, 95, 96, 101, 102, 103, 104, 97, 98, 99, 100, 105, 106, 107, 108, 109, 110, 111, 112, 113, 114, 115, 116, 117, 118, 119, 120, 121, 122, 123, 124, 125] (by decide +kernel) (by decide +kernel)) (goodIn_sub (fun _ h => List.mem_cons_of_mem _ (List.mem_append_left _ (List.mem_append_right _ h))) (by decide +kernel))
set_option maxRecDepth 20000 in
theorem gX11_bump_X11_keepPromises : GoodIn wsX11_bump (wsV RX11 258 RX11 yX11_keepPromises wsX11_keepPromises) := goodIn_app (goodIn_of _ (by decide +kernel)) ggX11_bump_X11_keepPromises
set_option maxRecDepth 20000 in
theorem ggX11_bump_X5_voidFor : GoodIn wsX11_bump wsX5_voidFor := goodIn_ca (goodIn_r _ [80, 81, 82, 83, 126, 127, 128, 129, 130, 131, 132] (by decide +kernel) (by decide +kernel)) (goodIn_sub (fun _ h => List.mem_cons_of_mem _ (List.mem_append_left _ (List.mem_append_right _ h))) (by decide +kernel))
set_option maxRecDepth 20000 in
theorem gX11_bump_X5_voidFor : GoodIn wsX11_bump (wsV RX11 250 RX5 yX5_voidFor wsX5_voidFor) := goodIn_app (goodIn_of _ (by decide +kernel)) ggX11_bump_X5_voidFor
theorem dX11_bump_0 : decode cX11_bump 0 = .ok (.iload_n 1, 1) := by decide +kernel
theorem dX11_bump_1 : decode cX11_bump 1 = .ok (.ifCond .lt 8, 3) := by decide +kernel
theorem dX11_bump_4 : decode cX11_bump 4 = .ok (.iload_n 1, 1) := by decide +kernel
theorem dX11_bump_5 : decode cX11_bump 5 = .ok (.iconst 4, 1) := by decide +kernel
theorem dX11_bump_6 : decode cX11_bump 6 = .ok (.if_icmp .lt 13, 3) := by decide +kernel
theorem dX11_bump_9 : decode cX11_bump 9 = .ok (.new 253, 3) := by decide +kernel
theorem dX11_bump_12 : decode cX11_bump 12 = .ok (.dup, 1) := by decide +kernel
theorem dX11_bump_13 : decode cX11_bump 13 = .ok (.ldc 255, 2) := by decide +kernel
theorem dX11_bump_15 : decode cX11_bump 15 = .ok (.invokespecial 257, 3) := by decide +kernel
theorem dX11_bump_18 : decode cX11_bump 18 = .ok (.athrow, 1) := by decide +kernel
theorem dX11_bump_19 : decode cX11_bump 19 = .ok (.aload_n 0, 1) := by decide +kernel
theorem dX11_bump_20 : decode cX11_bump 20 = .ok (.invokevirtual 103, 3) := by decide +kernel
theorem dX11_bump_23 : decode cX11_bump 23 = .ok (.aload_n 0, 1) := by decide +kernel
theorem dX11_bump_24 : decode cX11_bump 24 = .ok (.sipush 5003, 3) := by decide +kernel
theorem dX11_bump_27 : decode cX11_bump 27 = .ok (.iload_n 1, 1) := by decide +kernel
theorem dX11_bump_28 : decode cX11_bump 28 = .ok (.invokevirtual 258, 3) := by decide +kernel
theorem dX11_bump_31 : decode cX11_bump 31 = .ok (.pop, 1) := by decide +kernel
theorem dX11_bump_32 : decode cX11_bump 32 = .ok (.iconst 0, 1) := by decide +kernel
theorem dX11_bump_33 : decode cX11_bump 33 = .ok (.istore_n 2, 1) := by decide +kernel
theorem dX11_bump_34 : decode cX11_bump 34 = .ok (.iload_n 2, 1) := by decide +kernel
theorem dX11_bump_35 : decode cX11_bump 35 = .ok (.bipush 32, 2) := by decide +kernel
theorem dX11_bump_37 : decode cX11_bump 37 = .ok (.if_icmp .ge 30, 3) := by decide +kernel
theorem dX11_bump_40 : decode cX11_bump 40 = .ok (.aload_n 0, 1) := by decide +kernel
theorem dX11_bump_41 : decode cX11_bump 41 = .ok (.getfield 12, 3) := by decide +kernel
theorem dX11_bump_44 : decode cX11_bump 44 = .ok (.getfield 121, 3) := by decide +kernel
theorem dX11_bump_47 : decode cX11_bump 47 = .ok (.iload_n 2, 1) := by decide +kernel
theorem dX11_bump_48 : decode cX11_bump 48 = .ok (.iaload, 1) := by decide +kernel
theorem dX11_bump_49 : decode cX11_bump 49 = .ok (.iload_n 1, 1) := by decide +kernel
theorem dX11_bump_50 : decode cX11_bump 50 = .ok (.if_icmp .ne 11, 3) := by decide +kernel
theorem dX11_bump_53 : decode cX11_bump 53 = .ok (.aload_n 0, 1) := by decide +kernel
theorem dX11_bump_54 : decode cX11_bump 54 = .ok (.getfield 61, 3) := by decide +kernel
theorem dX11_bump_57 : decode cX11_bump 57 = .ok (.iload_n 2, 1) := by decide +kernel
theorem dX11_bump_58 : decode cX11_bump 58 = .ok (.invokevirtual 250, 3) := by decide +kernel
theorem dX11_bump_61 : decode cX11_bump 61 = .ok (.iinc 2 1, 3) := by decide +kernel
