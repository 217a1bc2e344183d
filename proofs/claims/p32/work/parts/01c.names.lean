theorem inJx145de : ∀ w ∈ wsJx145de0, w ∈ lw_tbl := by decide +kernel
theorem inJx00060 : ∀ w ∈ wsJx000600, w ∈ lw_tbl := by decide +kernel
theorem inJ9 : ∀ w ∈ wsJ90, w ∈ lw_tbl := by decide +kernel
theorem inJ0 : ∀ w ∈ wsJ00, w ∈ lw_tbl := by decide +kernel
theorem dX0_init_0 : decode cX0_init 0 = .ok (.aload_n 0, 1) := by decide +kernel
theorem dX0_init_1 : decode cX0_init 1 = .ok (.invokespecial 1, 3) := by decide +kernel
theorem dX0_init_4 : decode cX0_init 4 = .ok (.aload_n 0, 1) := by decide +kernel
theorem dX0_init_5 : decode cX0_init 5 = .ok (.iconst 0, 1) := by decide +kernel
theorem dX0_init_6 : decode cX0_init 6 = .ok (.putfield 7, 3) := by decide +kernel
theorem dX0_init_9 : decode cX0_init 9 = .ok (.aload_n 0, 1) := by decide +kernel
theorem dX0_init_10 : decode cX0_init 10 = .ok (.iconst 0, 1) := by decide +kernel
theorem dX0_init_11 : decode cX0_init 11 = .ok (.putfield 13, 3) := by decide +kernel
theorem dX0_init_14 : decode cX0_init 14 = .ok (.aload_n 0, 1) := by decide +kernel
theorem dX0_init_15 : decode cX0_init 15 = .ok (.iconst 0, 1) := by decide +kernel
theorem dX0_init_16 : decode cX0_init 16 = .ok (.putfield 17, 3) := by decide +kernel
theorem dX0_init_19 : decode cX0_init 19 = .ok (.aload_n 0, 1) := by decide +kernel
theorem dX0_init_20 : decode cX0_init 20 = .ok (.iconst 0, 1) := by decide +kernel
theorem dX0_init_21 : decode cX0_init 21 = .ok (.putfield 20, 3) := by decide +kernel
theorem dX0_init_24 : decode cX0_init 24 = .ok (.aload_n 0, 1) := by decide +kernel
theorem dX0_init_25 : decode cX0_init 25 = .ok (.iconst 0, 1) := by decide +kernel
theorem dX0_init_26 : decode cX0_init 26 = .ok (.putfield 23, 3) := by decide +kernel
theorem dX0_init_29 : decode cX0_init 29 = .ok (.aload_n 0, 1) := by decide +kernel
theorem dX0_init_30 : decode cX0_init 30 = .ok (.lconst 0, 1) := by decide +kernel
theorem dX0_init_31 : decode cX0_init 31 = .ok (.putfield 26, 3) := by decide +kernel
theorem dX0_init_34 : decode cX0_init 34 = .ok (.aload_n 0, 1) := by decide +kernel
theorem dX0_init_35 : decode cX0_init 35 = .ok (.iconst 0, 1) := by decide +kernel
theorem dX0_init_36 : decode cX0_init 36 = .ok (.putfield 30, 3) := by decide +kernel
theorem dX0_init_39 : decode cX0_init 39 = .ok (.return_, 1) := by decide +kernel
theorem dX0_tell_0 : decode cX0_tell 0 = .ok (.aload_n 0, 1) := by decide +kernel
theorem dX0_tell_1 : decode cX0_tell 1 = .ok (.dup, 1) := by decide +kernel
theorem dX0_tell_2 : decode cX0_tell 2 = .ok (.getfield 20, 3) := by decide +kernel
theorem dX0_tell_5 : decode cX0_tell 5 = .ok (.iconst 1, 1) := by decide +kernel
theorem dX0_tell_6 : decode cX0_tell 6 = .ok (.iadd, 1) := by decide +kernel
theorem dX0_tell_7 : decode cX0_tell 7 = .ok (.putfield 20, 3) := by decide +kernel
theorem dX0_tell_10 : decode cX0_tell 10 = .ok (.aload_n 0, 1) := by decide +kernel
theorem dX0_tell_11 : decode cX0_tell 11 = .ok (.dup, 1) := by decide +kernel
theorem dX0_tell_12 : decode cX0_tell 12 = .ok (.getfield 23, 3) := by decide +kernel
theorem dX0_tell_15 : decode cX0_tell 15 = .ok (.iconst 1, 1) := by decide +kernel
theorem dX0_tell_16 : decode cX0_tell 16 = .ok (.iadd, 1) := by decide +kernel
theorem dX0_tell_17 : decode cX0_tell 17 = .ok (.putfield 23, 3) := by decide +kernel
theorem dX0_tell_20 : decode cX0_tell 20 = .ok (.aload_n 0, 1) := by decide +kernel
theorem dX0_tell_21 : decode cX0_tell 21 = .ok (.iconst 1, 1) := by decide +kernel
theorem dX0_tell_22 : decode cX0_tell 22 = .ok (.putfield 7, 3) := by decide +kernel
theorem dX0_tell_25 : decode cX0_tell 25 = .ok (.aload_n 0, 1) := by decide +kernel
theorem dX0_tell_26 : decode cX0_tell 26 = .ok (.iload_n 1, 1) := by decide +kernel
theorem dX0_tell_27 : decode cX0_tell 27 = .ok (.putfield 13, 3) := by decide +kernel
theorem dX0_tell_30 : decode cX0_tell 30 = .ok (.aload_n 0, 1) := by decide +kernel
theorem dX0_tell_31 : decode cX0_tell 31 = .ok (.iload_n 2, 1) := by decide +kernel
theorem dX0_tell_32 : decode cX0_tell 32 = .ok (.putfield 17, 3) := by decide +kernel
theorem dX0_tell_35 : decode cX0_tell 35 = .ok (.aload_n 0, 1) := by decide +kernel
theorem dX0_tell_36 : decode cX0_tell 36 = .ok (.dup, 1) := by decide +kernel
theorem dX0_tell_37 : decode cX0_tell 37 = .ok (.getfield 26, 3) := by decide +kernel
theorem dX0_tell_40 : decode cX0_tell 40 = .ok (.iload_n 2, 1) := by decide +kernel
theorem dX0_tell_41 : decode cX0_tell 41 = .ok (.i2l, 1) := by decide +kernel
theorem dX0_tell_42 : decode cX0_tell 42 = .ok (.ladd, 1) := by decide +kernel
theorem dX0_tell_43 : decode cX0_tell 43 = .ok (.putfield 26, 3) := by decide +kernel
theorem dX0_tell_46 : decode cX0_tell 46 = .ok (.aload_n 0, 1) := by decide +kernel
theorem dX0_tell_47 : decode cX0_tell 47 = .ok (.aload_n 0, 1) := by decide +kernel
theorem dX0_tell_48 : decode cX0_tell 48 = .ok (.getfield 30, 3) := by decide +kernel
theorem dX0_tell_51 : decode cX0_tell 51 = .ok (.ifCond .ne 8, 3) := by decide +kernel
theorem dX0_tell_54 : decode cX0_tell 54 = .ok (.iload_n 2, 1) := by decide +kernel
theorem dX0_tell_55 : decode cX0_tell 55 = .ok (.iload_n 3, 1) := by decide +kernel
theorem dX0_tell_56 : decode cX0_tell 56 = .ok (.if_icmp .le 7, 3) := by decide +kernel
theorem dX0_tell_59 : decode cX0_tell 59 = .ok (.iconst 1, 1) := by decide +kernel
theorem dX0_tell_60 : decode cX0_tell 60 = .ok (.goto 4, 3) := by decide +kernel
theorem dX0_tell_63 : decode cX0_tell 63 = .ok (.iconst 0, 1) := by decide +kernel
theorem dX0_tell_64 : decode cX0_tell 64 = .ok (.putfield 30, 3) := by decide +kernel
theorem dX0_tell_67 : decode cX0_tell 67 = .ok (.return_, 1) := by decide +kernel
theorem dX0_tellNothing_0 : decode cX0_tellNothing 0 = .ok (.aload_n 0, 1) := by decide +kernel
theorem dX0_tellNothing_1 : decode cX0_tellNothing 1 = .ok (.dup, 1) := by decide +kernel
theorem dX0_tellNothing_2 : decode cX0_tellNothing 2 = .ok (.getfield 20, 3) := by decide +kernel
theorem dX0_tellNothing_5 : decode cX0_tellNothing 5 = .ok (.iconst 1, 1) := by decide +kernel
theorem dX0_tellNothing_6 : decode cX0_tellNothing 6 = .ok (.iadd, 1) := by decide +kernel
theorem dX0_tellNothing_7 : decode cX0_tellNothing 7 = .ok (.putfield 20, 3) := by decide +kernel
theorem dX0_tellNothing_10 : decode cX0_tellNothing 10 = .ok (.aload_n 0, 1) := by decide +kernel
theorem dX0_tellNothing_11 : decode cX0_tellNothing 11 = .ok (.iconst 0, 1) := by decide +kernel
theorem dX0_tellNothing_12 : decode cX0_tellNothing 12 = .ok (.putfield 7, 3) := by decide +kernel
theorem dX0_tellNothing_15 : decode cX0_tellNothing 15 = .ok (.return_, 1) := by decide +kernel
theorem dX1_init_0 : decode cX1_init 0 = .ok (.aload_n 0, 1) := by decide +kernel
theorem dX1_init_1 : decode cX1_init 1 = .ok (.invokespecial 3, 3) := by decide +kernel
theorem dX1_init_4 : decode cX1_init 4 = .ok (.aload_n 0, 1) := by decide +kernel
theorem dX1_init_5 : decode cX1_init 5 = .ok (.bipush 32, 2) := by decide +kernel
theorem dX1_init_7 : decode cX1_init 7 = .ok (.newarray .boolean, 2) := by decide +kernel
theorem dX1_init_9 : decode cX1_init 9 = .ok (.putfield 9, 3) := by decide +kernel
theorem dX1_init_12 : decode cX1_init 12 = .ok (.aload_n 0, 1) := by decide +kernel
theorem dX1_init_13 : decode cX1_init 13 = .ok (.bipush 32, 2) := by decide +kernel
theorem dX1_init_15 : decode cX1_init 15 = .ok (.newarray .int, 2) := by decide +kernel
theorem dX1_init_17 : decode cX1_init 17 = .ok (.putfield 15, 3) := by decide +kernel
theorem dX1_init_20 : decode cX1_init 20 = .ok (.aload_n 0, 1) := by decide +kernel
theorem dX1_init_21 : decode cX1_init 21 = .ok (.bipush 32, 2) := by decide +kernel
theorem dX1_init_23 : decode cX1_init 23 = .ok (.newarray .int, 2) := by decide +kernel
theorem dX1_init_25 : decode cX1_init 25 = .ok (.putfield 19, 3) := by decide +kernel
theorem dX1_init_28 : decode cX1_init 28 = .ok (.aload_n 0, 1) := by decide +kernel
theorem dX1_init_29 : decode cX1_init 29 = .ok (.iconst 0, 1) := by decide +kernel
theorem dX1_init_30 : decode cX1_init 30 = .ok (.putfield 22, 3) := by decide +kernel
theorem dX1_init_33 : decode cX1_init 33 = .ok (.aload_n 0, 1) := by decide +kernel
theorem dX1_init_34 : decode cX1_init 34 = .ok (.iconst 0, 1) := by decide +kernel
theorem dX1_init_35 : decode cX1_init 35 = .ok (.putfield 26, 3) := by decide +kernel
theorem dX1_init_38 : decode cX1_init 38 = .ok (.return_, 1) := by decide +kernel
theorem dX1_clear_0 : decode cX1_clear 0 = .ok (.aload_n 0, 1) := by decide +kernel
theorem dX1_clear_1 : decode cX1_clear 1 = .ok (.iconst 0, 1) := by decide +kernel
theorem dX1_clear_2 : decode cX1_clear 2 = .ok (.putfield 22, 3) := by decide +kernel
theorem dX1_clear_5 : decode cX1_clear 5 = .ok (.aload_n 0, 1) := by decide +kernel
theorem dX1_clear_6 : decode cX1_clear 6 = .ok (.iconst 0, 1) := by decide +kernel
theorem dX1_clear_7 : decode cX1_clear 7 = .ok (.putfield 26, 3) := by decide +kernel
theorem dX1_clear_10 : decode cX1_clear 10 = .ok (.iconst 0, 1) := by decide +kernel
theorem dX1_clear_11 : decode cX1_clear 11 = .ok (.istore_n 1, 1) := by decide +kernel
theorem dX1_clear_12 : decode cX1_clear 12 = .ok (.iload_n 1, 1) := by decide +kernel
theorem dX1_clear_13 : decode cX1_clear 13 = .ok (.bipush 32, 2) := by decide +kernel
theorem dX1_clear_15 : decode cX1_clear 15 = .ok (.if_icmp .ge 16, 3) := by decide +kernel
theorem dX1_clear_18 : decode cX1_clear 18 = .ok (.aload_n 0, 1) := by decide +kernel
theorem dX1_clear_19 : decode cX1_clear 19 = .ok (.getfield 9, 3) := by decide +kernel
theorem dX1_clear_22 : decode cX1_clear 22 = .ok (.iload_n 1, 1) := by decide +kernel
theorem dX1_clear_23 : decode cX1_clear 23 = .ok (.iconst 0, 1) := by decide +kernel
theorem dX1_clear_24 : decode cX1_clear 24 = .ok (.bastore, 1) := by decide +kernel
theorem dX1_clear_25 : decode cX1_clear 25 = .ok (.iinc 1 1, 3) := by decide +kernel
theorem dX1_clear_28 : decode cX1_clear 28 = .ok (.goto (-16), 3) := by decide +kernel
theorem dX1_clear_31 : decode cX1_clear 31 = .ok (.return_, 1) := by decide +kernel
theorem dX1_add_0 : decode cX1_add 0 = .ok (.aload_n 0, 1) := by decide +kernel
theorem dX1_add_1 : decode cX1_add 1 = .ok (.getfield 22, 3) := by decide +kernel
theorem dX1_add_4 : decode cX1_add 4 = .ok (.bipush 32, 2) := by decide +kernel
theorem dX1_add_6 : decode cX1_add 6 = .ok (.if_icmp .ge 45, 3) := by decide +kernel
theorem dX1_add_9 : decode cX1_add 9 = .ok (.aload_n 0, 1) := by decide +kernel
theorem dX1_add_10 : decode cX1_add 10 = .ok (.getfield 9, 3) := by decide +kernel
theorem dX1_add_13 : decode cX1_add 13 = .ok (.iload_n 1, 1) := by decide +kernel
theorem dX1_add_14 : decode cX1_add 14 = .ok (.iconst 1, 1) := by decide +kernel
theorem dX1_add_15 : decode cX1_add 15 = .ok (.bastore, 1) := by decide +kernel
theorem dX1_add_16 : decode cX1_add 16 = .ok (.aload_n 0, 1) := by decide +kernel
theorem dX1_add_17 : decode cX1_add 17 = .ok (.getfield 19, 3) := by decide +kernel
theorem dX1_add_20 : decode cX1_add 20 = .ok (.aload_n 0, 1) := by decide +kernel
theorem dX1_add_21 : decode cX1_add 21 = .ok (.getfield 22, 3) := by decide +kernel
theorem dX1_add_24 : decode cX1_add 24 = .ok (.iload_n 1, 1) := by decide +kernel
theorem dX1_add_25 : decode cX1_add 25 = .ok (.iastore, 1) := by decide +kernel
theorem dX1_add_26 : decode cX1_add 26 = .ok (.aload_n 0, 1) := by decide +kernel
theorem dX1_add_27 : decode cX1_add 27 = .ok (.dup, 1) := by decide +kernel
theorem dX1_add_28 : decode cX1_add 28 = .ok (.getfield 22, 3) := by decide +kernel
theorem dX1_add_31 : decode cX1_add 31 = .ok (.iconst 1, 1) := by decide +kernel
theorem dX1_add_32 : decode cX1_add 32 = .ok (.iadd, 1) := by decide +kernel
theorem dX1_add_33 : decode cX1_add 33 = .ok (.putfield 22, 3) := by decide +kernel
theorem dX1_add_36 : decode cX1_add 36 = .ok (.aload_n 0, 1) := by decide +kernel
theorem dX1_add_37 : decode cX1_add 37 = .ok (.dup, 1) := by decide +kernel
theorem dX1_add_38 : decode cX1_add 38 = .ok (.getfield 26, 3) := by decide +kernel
theorem dX1_add_41 : decode cX1_add 41 = .ok (.aload_n 0, 1) := by decide +kernel
theorem dX1_add_42 : decode cX1_add 42 = .ok (.getfield 15, 3) := by decide +kernel
theorem dX1_add_45 : decode cX1_add 45 = .ok (.iload_n 1, 1) := by decide +kernel
theorem dX1_add_46 : decode cX1_add 46 = .ok (.iaload, 1) := by decide +kernel
theorem dX1_add_47 : decode cX1_add 47 = .ok (.iadd, 1) := by decide +kernel
theorem dX1_add_48 : decode cX1_add 48 = .ok (.putfield 26, 3) := by decide +kernel
theorem dX1_add_51 : decode cX1_add 51 = .ok (.return_, 1) := by decide +kernel
theorem dX2_init_0 : decode cX2_init 0 = .ok (.aload_n 0, 1) := by decide +kernel
theorem dX2_init_1 : decode cX2_init 1 = .ok (.invokespecial 1, 3) := by decide +kernel
theorem dX2_init_4 : decode cX2_init 4 = .ok (.iload_n 1, 1) := by decide +kernel
theorem dX2_init_5 : decode cX2_init 5 = .ok (.ifCond .le 7, 3) := by decide +kernel
theorem dX2_init_8 : decode cX2_init 8 = .ok (.iload_n 1, 1) := by decide +kernel
theorem dX2_init_9 : decode cX2_init 9 = .ok (.goto 4, 3) := by decide +kernel
theorem dX2_init_12 : decode cX2_init 12 = .ok (.iconst 0, 1) := by decide +kernel
theorem dX2_init_13 : decode cX2_init 13 = .ok (.istore_n 2, 1) := by decide +kernel
theorem dX2_init_14 : decode cX2_init 14 = .ok (.aload_n 0, 1) := by decide +kernel
theorem dX2_init_15 : decode cX2_init 15 = .ok (.iload_n 2, 1) := by decide +kernel
theorem dX2_init_16 : decode cX2_init 16 = .ok (.newarray .int, 2) := by decide +kernel
theorem dX2_init_18 : decode cX2_init 18 = .ok (.putfield 7, 3) := by decide +kernel
theorem dX2_init_21 : decode cX2_init 21 = .ok (.aload_n 0, 1) := by decide +kernel
theorem dX2_init_22 : decode cX2_init 22 = .ok (.iload_n 2, 1) := by decide +kernel
theorem dX2_init_23 : decode cX2_init 23 = .ok (.newarray .int, 2) := by decide +kernel
theorem dX2_init_25 : decode cX2_init 25 = .ok (.putfield 13, 3) := by decide +kernel
theorem dX2_init_28 : decode cX2_init 28 = .ok (.aload_n 0, 1) := by decide +kernel
theorem dX2_init_29 : decode cX2_init 29 = .ok (.iload_n 2, 1) := by decide +kernel
theorem dX2_init_30 : decode cX2_init 30 = .ok (.newarray .int, 2) := by decide +kernel
theorem dX2_init_32 : decode cX2_init 32 = .ok (.putfield 16, 3) := by decide +kernel
theorem dX2_init_35 : decode cX2_init 35 = .ok (.aload_n 0, 1) := by decide +kernel
theorem dX2_init_36 : decode cX2_init 36 = .ok (.iload_n 2, 1) := by decide +kernel
theorem dX2_init_37 : decode cX2_init 37 = .ok (.newarray .int, 2) := by decide +kernel
theorem dX2_init_39 : decode cX2_init 39 = .ok (.putfield 19, 3) := by decide +kernel
theorem dX2_init_42 : decode cX2_init 42 = .ok (.return_, 1) := by decide +kernel
theorem dX2_put_0 : decode cX2_put 0 = .ok (.aload_n 0, 1) := by decide +kernel
theorem dX2_put_1 : decode cX2_put 1 = .ok (.getfield 7, 3) := by decide +kernel
theorem dX2_put_4 : decode cX2_put 4 = .ok (.iload_n 1, 1) := by decide +kernel
theorem dX2_put_5 : decode cX2_put 5 = .ok (.iload_n 2, 1) := by decide +kernel
theorem dX2_put_6 : decode cX2_put 6 = .ok (.iastore, 1) := by decide +kernel
theorem dX2_put_7 : decode cX2_put 7 = .ok (.aload_n 0, 1) := by decide +kernel
theorem dX2_put_8 : decode cX2_put 8 = .ok (.getfield 13, 3) := by decide +kernel
theorem dX2_put_11 : decode cX2_put 11 = .ok (.iload_n 1, 1) := by decide +kernel
theorem dX2_put_12 : decode cX2_put 12 = .ok (.iload_n 3, 1) := by decide +kernel
theorem dX2_put_13 : decode cX2_put 13 = .ok (.iastore, 1) := by decide +kernel
theorem dX2_put_14 : decode cX2_put 14 = .ok (.aload_n 0, 1) := by decide +kernel
theorem dX2_put_15 : decode cX2_put 15 = .ok (.getfield 16, 3) := by decide +kernel
theorem dX2_put_18 : decode cX2_put 18 = .ok (.iload_n 1, 1) := by decide +kernel
theorem dX2_put_19 : decode cX2_put 19 = .ok (.iload 4, 2) := by decide +kernel
theorem dX2_put_21 : decode cX2_put 21 = .ok (.iastore, 1) := by decide +kernel
theorem dX2_put_22 : decode cX2_put 22 = .ok (.aload_n 0, 1) := by decide +kernel
theorem dX2_put_23 : decode cX2_put 23 = .ok (.getfield 19, 3) := by decide +kernel
theorem dX2_put_26 : decode cX2_put 26 = .ok (.iload_n 1, 1) := by decide +kernel
theorem dX2_put_27 : decode cX2_put 27 = .ok (.iload 5, 2) := by decide +kernel
theorem dX2_put_29 : decode cX2_put 29 = .ok (.iastore, 1) := by decide +kernel
theorem dX2_put_30 : decode cX2_put 30 = .ok (.return_, 1) := by decide +kernel
set_option maxRecDepth 20000 in
theorem ggX2_take_X2_put : GoodIn wsX2_take wsX2_put := goodIn_ca (goodIn_r _ [9, 1, 2, 3, 4, 10, 11, 12, 13] (by decide +kernel) (by decide +kernel)) (goodIn_sub (fun _ h => List.mem_cons_of_mem _ (List.mem_append_right _ h)) (by decide +kernel))
set_option maxRecDepth 20000 in
theorem gX2_take_X2_put : GoodIn wsX2_take (wsV RX2 22 RX2 yX2_put wsX2_put) := goodIn_app (goodIn_of _ (by decide +kernel)) ggX2_take_X2_put
theorem dX2_take_0 : decode cX2_take 0 = .ok (.aload_n 0, 1) := by decide +kernel
theorem dX2_take_1 : decode cX2_take 1 = .ok (.iload_n 1, 1) := by decide +kernel
theorem dX2_take_2 : decode cX2_take 2 = .ok (.aload_n 2, 1) := by decide +kernel
theorem dX2_take_3 : decode cX2_take 3 = .ok (.getfield 7, 3) := by decide +kernel
theorem dX2_take_6 : decode cX2_take 6 = .ok (.iload_n 3, 1) := by decide +kernel
theorem dX2_take_7 : decode cX2_take 7 = .ok (.iaload, 1) := by decide +kernel
theorem dX2_take_8 : decode cX2_take 8 = .ok (.aload_n 2, 1) := by decide +kernel
theorem dX2_take_9 : decode cX2_take 9 = .ok (.getfield 13, 3) := by decide +kernel
theorem dX2_take_12 : decode cX2_take 12 = .ok (.iload_n 3, 1) := by decide +kernel
theorem dX2_take_13 : decode cX2_take 13 = .ok (.iaload, 1) := by decide +kernel
theorem dX2_take_14 : decode cX2_take 14 = .ok (.aload_n 2, 1) := by decide +kernel
theorem dX2_take_15 : decode cX2_take 15 = .ok (.getfield 16, 3) := by decide +kernel
theorem dX2_take_18 : decode cX2_take 18 = .ok (.iload_n 3, 1) := by decide +kernel
theorem dX2_take_19 : decode cX2_take 19 = .ok (.iaload, 1) := by decide +kernel
theorem dX2_take_20 : decode cX2_take 20 = .ok (.aload_n 2, 1) := by decide +kernel
theorem dX2_take_21 : decode cX2_take 21 = .ok (.getfield 19, 3) := by decide +kernel
theorem dX2_take_24 : decode cX2_take 24 = .ok (.iload_n 3, 1) := by decide +kernel
theorem dX2_take_25 : decode cX2_take 25 = .ok (.iaload, 1) := by decide +kernel
theorem dX2_take_26 : decode cX2_take 26 = .ok (.invokevirtual 22, 3) := by decide +kernel
theorem dX2_take_29 : decode cX2_take 29 = .ok (.return_, 1) := by decide +kernel
set_option maxRecDepth 20000 in
theorem ggX3_init_X2_init : GoodIn wsX3_init wsX2_init := goodIn_r _ [15, 16, 2, 3, 8, 17, 18, 19, 20, 26, 27, 28, 29] (by decide +kernel) (by decide +kernel)
set_option maxRecDepth 20000 in
theorem gX3_init_X2_init : GoodIn wsX3_init (wsX2_init) := ggX3_init_X2_init
set_option maxRecDepth 20000 in
theorem ggX3_init_X3_loseIndex : GoodIn wsX3_init wsX3_loseIndex := goodIn_ca (goodIn_r _ [25, 10, 30, 31, 32, 33, 34] (by decide +kernel) (by decide +kernel)) (goodIn_sub (fun _ h => List.mem_cons_of_mem _ (List.mem_append_right _ h)) (by decide +kernel))
set_option maxRecDepth 20000 in
theorem gX3_init_X3_loseIndex : GoodIn wsX3_init (wsV RX3 34 RX3 yX3_loseIndex wsX3_loseIndex) := goodIn_app (goodIn_of _ (by decide +kernel)) ggX3_init_X3_loseIndex
theorem dX3_init_0 : decode cX3_init 0 = .ok (.aload_n 0, 1) := by decide +kernel
theorem dX3_init_1 : decode cX3_init 1 = .ok (.invokespecial 3, 3) := by decide +kernel
theorem dX3_init_4 : decode cX3_init 4 = .ok (.aload_n 0, 1) := by decide +kernel
theorem dX3_init_5 : decode cX3_init 5 = .ok (.new 9, 3) := by decide +kernel
theorem dX3_init_8 : decode cX3_init 8 = .ok (.dup, 1) := by decide +kernel
theorem dX3_init_9 : decode cX3_init 9 = .ok (.bipush 16, 2) := by decide +kernel
theorem dX3_init_11 : decode cX3_init 11 = .ok (.invokespecial 11, 3) := by decide +kernel
theorem dX3_init_14 : decode cX3_init 14 = .ok (.putfield 14, 3) := by decide +kernel
theorem dX3_init_17 : decode cX3_init 17 = .ok (.aload_n 0, 1) := by decide +kernel
theorem dX3_init_18 : decode cX3_init 18 = .ok (.bipush 16, 2) := by decide +kernel
theorem dX3_init_20 : decode cX3_init 20 = .ok (.newarray .int, 2) := by decide +kernel
theorem dX3_init_22 : decode cX3_init 22 = .ok (.putfield 20, 3) := by decide +kernel
theorem dX3_init_25 : decode cX3_init 25 = .ok (.aload_n 0, 1) := by decide +kernel
theorem dX3_init_26 : decode cX3_init 26 = .ok (.bipush 32, 2) := by decide +kernel
theorem dX3_init_28 : decode cX3_init 28 = .ok (.newarray .int, 2) := by decide +kernel
theorem dX3_init_30 : decode cX3_init 30 = .ok (.putfield 24, 3) := by decide +kernel
theorem dX3_init_33 : decode cX3_init 33 = .ok (.aload_n 0, 1) := by decide +kernel
theorem dX3_init_34 : decode cX3_init 34 = .ok (.iconst 4, 1) := by decide +kernel
theorem dX3_init_35 : decode cX3_init 35 = .ok (.newarray .int, 2) := by decide +kernel
theorem dX3_init_37 : decode cX3_init 37 = .ok (.putfield 27, 3) := by decide +kernel
theorem dX3_init_40 : decode cX3_init 40 = .ok (.aload_n 0, 1) := by decide +kernel
theorem dX3_init_41 : decode cX3_init 41 = .ok (.iconst 0, 1) := by decide +kernel
theorem dX3_init_42 : decode cX3_init 42 = .ok (.putfield 30, 3) := by decide +kernel
theorem dX3_init_45 : decode cX3_init 45 = .ok (.iconst 0, 1) := by decide +kernel
theorem dX3_init_46 : decode cX3_init 46 = .ok (.istore_n 1, 1) := by decide +kernel
theorem dX3_init_47 : decode cX3_init 47 = .ok (.iload_n 1, 1) := by decide +kernel
theorem dX3_init_48 : decode cX3_init 48 = .ok (.bipush 16, 2) := by decide +kernel
theorem dX3_init_50 : decode cX3_init 50 = .ok (.if_icmp .ge 16, 3) := by decide +kernel
theorem dX3_init_53 : decode cX3_init 53 = .ok (.aload_n 0, 1) := by decide +kernel
theorem dX3_init_54 : decode cX3_init 54 = .ok (.getfield 20, 3) := by decide +kernel
theorem dX3_init_57 : decode cX3_init 57 = .ok (.iload_n 1, 1) := by decide +kernel
theorem dX3_init_58 : decode cX3_init 58 = .ok (.iconst (-1), 1) := by decide +kernel
theorem dX3_init_59 : decode cX3_init 59 = .ok (.iastore, 1) := by decide +kernel
theorem dX3_init_60 : decode cX3_init 60 = .ok (.iinc 1 1, 3) := by decide +kernel
theorem dX3_init_63 : decode cX3_init 63 = .ok (.goto (-16), 3) := by decide +kernel
theorem dX3_init_66 : decode cX3_init 66 = .ok (.aload_n 0, 1) := by decide +kernel
theorem dX3_init_67 : decode cX3_init 67 = .ok (.invokevirtual 34, 3) := by decide +kernel
theorem dX3_init_70 : decode cX3_init 70 = .ok (.return_, 1) := by decide +kernel
theorem dX3_loseIndex_0 : decode cX3_loseIndex 0 = .ok (.iconst 0, 1) := by decide +kernel
theorem dX3_loseIndex_1 : decode cX3_loseIndex 1 = .ok (.istore_n 1, 1) := by decide +kernel
theorem dX3_loseIndex_2 : decode cX3_loseIndex 2 = .ok (.iload_n 1, 1) := by decide +kernel
theorem dX3_loseIndex_3 : decode cX3_loseIndex 3 = .ok (.bipush 32, 2) := by decide +kernel
theorem dX3_loseIndex_5 : decode cX3_loseIndex 5 = .ok (.if_icmp .ge 16, 3) := by decide +kernel
theorem dX3_loseIndex_8 : decode cX3_loseIndex 8 = .ok (.aload_n 0, 1) := by decide +kernel
theorem dX3_loseIndex_9 : decode cX3_loseIndex 9 = .ok (.getfield 24, 3) := by decide +kernel
theorem dX3_loseIndex_12 : decode cX3_loseIndex 12 = .ok (.iload_n 1, 1) := by decide +kernel
theorem dX3_loseIndex_13 : decode cX3_loseIndex 13 = .ok (.iconst (-1), 1) := by decide +kernel
theorem dX3_loseIndex_14 : decode cX3_loseIndex 14 = .ok (.iastore, 1) := by decide +kernel
theorem dX3_loseIndex_15 : decode cX3_loseIndex 15 = .ok (.iinc 1 1, 3) := by decide +kernel
theorem dX3_loseIndex_18 : decode cX3_loseIndex 18 = .ok (.goto (-16), 3) := by decide +kernel
theorem dX3_loseIndex_21 : decode cX3_loseIndex 21 = .ok (.return_, 1) := by decide +kernel
theorem dX3_indexed_0 : decode cX3_indexed 0 = .ok (.iconst 0, 1) := by decide +kernel
theorem dX3_indexed_1 : decode cX3_indexed 1 = .ok (.istore_n 1, 1) := by decide +kernel
theorem dX3_indexed_2 : decode cX3_indexed 2 = .ok (.iconst 0, 1) := by decide +kernel
theorem dX3_indexed_3 : decode cX3_indexed 3 = .ok (.istore_n 2, 1) := by decide +kernel
theorem dX3_indexed_4 : decode cX3_indexed 4 = .ok (.iload_n 2, 1) := by decide +kernel
theorem dX3_indexed_5 : decode cX3_indexed 5 = .ok (.bipush 32, 2) := by decide +kernel
theorem dX3_indexed_7 : decode cX3_indexed 7 = .ok (.if_icmp .ge 27, 3) := by decide +kernel
theorem dX3_indexed_10 : decode cX3_indexed 10 = .ok (.iload_n 1, 1) := by decide +kernel
theorem dX3_indexed_11 : decode cX3_indexed 11 = .ok (.aload_n 0, 1) := by decide +kernel
theorem dX3_indexed_12 : decode cX3_indexed 12 = .ok (.getfield 24, 3) := by decide +kernel
theorem dX3_indexed_15 : decode cX3_indexed 15 = .ok (.iload_n 2, 1) := by decide +kernel
theorem dX3_indexed_16 : decode cX3_indexed 16 = .ok (.iaload, 1) := by decide +kernel
theorem dX3_indexed_17 : decode cX3_indexed 17 = .ok (.iconst (-1), 1) := by decide +kernel
theorem dX3_indexed_18 : decode cX3_indexed 18 = .ok (.if_icmp .ne 7, 3) := by decide +kernel
theorem dX3_indexed_21 : decode cX3_indexed 21 = .ok (.iconst 0, 1) := by decide +kernel
theorem dX3_indexed_22 : decode cX3_indexed 22 = .ok (.goto 4, 3) := by decide +kernel
theorem dX3_indexed_25 : decode cX3_indexed 25 = .ok (.iconst 1, 1) := by decide +kernel
theorem dX3_indexed_26 : decode cX3_indexed 26 = .ok (.iadd, 1) := by decide +kernel
theorem dX3_indexed_27 : decode cX3_indexed 27 = .ok (.istore_n 1, 1) := by decide +kernel
theorem dX3_indexed_28 : decode cX3_indexed 28 = .ok (.iinc 2 1, 3) := by decide +kernel
theorem dX3_indexed_31 : decode cX3_indexed 31 = .ok (.goto (-27), 3) := by decide +kernel
theorem dX3_indexed_34 : decode cX3_indexed 34 = .ok (.iload_n 1, 1) := by decide +kernel
theorem dX3_indexed_35 : decode cX3_indexed 35 = .ok (.ireturn, 1) := by decide +kernel
set_option maxRecDepth 20000 in
theorem ggX3_append_X3_nextSlot : GoodIn wsX3_append wsX3_nextSlot := goodIn_ca (goodIn_r _ [8, 9, 10, 11, 12, 7, 13, 3, 1, 14, 28, 29, 30, 31, 32] (by decide +kernel) (by decide +kernel)) (goodIn_sub (fun _ h => List.mem_cons_of_mem _ (List.mem_append_right _ h)) (by decide +kernel))
set_option maxRecDepth 20000 in
theorem gX3_append_X3_nextSlot : GoodIn wsX3_append (wsV RX3 37 RX3 yX3_nextSlot wsX3_nextSlot) := goodIn_app (goodIn_of _ (by decide +kernel)) ggX3_append_X3_nextSlot
set_option maxRecDepth 20000 in
theorem ggX3_append_X2_take : GoodIn wsX3_append wsX2_take := goodIn_ca (goodIn_r _ [19, 20, 21, 22, 23, 24, 25, 26, 18, 27, 33, 34, 35, 36] (by decide +kernel) (by decide +kernel)) (goodIn_sub (fun _ h => List.mem_cons_of_mem _ (List.mem_append_right _ h)) (by decide +kernel))
set_option maxRecDepth 20000 in
theorem gX3_append_X2_take : GoodIn wsX3_append (wsV RX3 41 RX2 yX2_take wsX2_take) := goodIn_app (goodIn_of _ (by decide +kernel)) ggX3_append_X2_take
theorem dX3_append_0 : decode cX3_append 0 = .ok (.aload_n 0, 1) := by decide +kernel
theorem dX3_append_1 : decode cX3_append 1 = .ok (.invokevirtual 37, 3) := by decide +kernel
theorem dX3_append_4 : decode cX3_append 4 = .ok (.istore_n 3, 1) := by decide +kernel
theorem dX3_append_5 : decode cX3_append 5 = .ok (.aload_n 0, 1) := by decide +kernel
theorem dX3_append_6 : decode cX3_append 6 = .ok (.getfield 20, 3) := by decide +kernel
theorem dX3_append_9 : decode cX3_append 9 = .ok (.iload_n 3, 1) := by decide +kernel
theorem dX3_append_10 : decode cX3_append 10 = .ok (.iload_n 1, 1) := by decide +kernel
theorem dX3_append_11 : decode cX3_append 11 = .ok (.iastore, 1) := by decide +kernel
theorem dX3_append_12 : decode cX3_append 12 = .ok (.aload_n 0, 1) := by decide +kernel
theorem dX3_append_13 : decode cX3_append 13 = .ok (.getfield 14, 3) := by decide +kernel
theorem dX3_append_16 : decode cX3_append 16 = .ok (.iload_n 3, 1) := by decide +kernel
theorem dX3_append_17 : decode cX3_append 17 = .ok (.aload_n 2, 1) := by decide +kernel
theorem dX3_append_18 : decode cX3_append 18 = .ok (.iload_n 1, 1) := by decide +kernel
theorem dX3_append_19 : decode cX3_append 19 = .ok (.invokevirtual 41, 3) := by decide +kernel
theorem dX3_append_22 : decode cX3_append 22 = .ok (.aload_n 0, 1) := by decide +kernel
theorem dX3_append_23 : decode cX3_append 23 = .ok (.getfield 24, 3) := by decide +kernel
theorem dX3_append_26 : decode cX3_append 26 = .ok (.iload_n 1, 1) := by decide +kernel
theorem dX3_append_27 : decode cX3_append 27 = .ok (.iload_n 3, 1) := by decide +kernel
theorem dX3_append_28 : decode cX3_append 28 = .ok (.iastore, 1) := by decide +kernel
theorem dX3_append_29 : decode cX3_append 29 = .ok (.return_, 1) := by decide +kernel
set_option maxRecDepth 20000 in
theorem ggX3_takeOut_X3_nextSlot : GoodIn wsX3_takeOut wsX3_nextSlot := goodIn_ca (goodIn_r _ [7, 8, 9, 10, 11, 6, 12, 1, 2, 13, 14, 15, 16, 17, 18] (by decide +kernel) (by decide +kernel)) (goodIn_sub (fun _ h => List.mem_cons_of_mem _ (List.mem_append_right _ h)) (by decide +kernel))
set_option maxRecDepth 20000 in
theorem gX3_takeOut_X3_nextSlot : GoodIn wsX3_takeOut (wsV RX3 37 RX3 yX3_nextSlot wsX3_nextSlot) := goodIn_app (goodIn_of _ (by decide +kernel)) ggX3_takeOut_X3_nextSlot
theorem dX3_takeOut_0 : decode cX3_takeOut 0 = .ok (.aload_n 0, 1) := by decide +kernel
theorem dX3_takeOut_1 : decode cX3_takeOut 1 = .ok (.getfield 24, 3) := by decide +kernel
theorem dX3_takeOut_4 : decode cX3_takeOut 4 = .ok (.iload_n 1, 1) := by decide +kernel
theorem dX3_takeOut_5 : decode cX3_takeOut 5 = .ok (.iaload, 1) := by decide +kernel
theorem dX3_takeOut_6 : decode cX3_takeOut 6 = .ok (.iconst (-1), 1) := by decide +kernel
theorem dX3_takeOut_7 : decode cX3_takeOut 7 = .ok (.if_icmp .eq 23, 3) := by decide +kernel
theorem dX3_takeOut_10 : decode cX3_takeOut 10 = .ok (.aload_n 0, 1) := by decide +kernel
theorem dX3_takeOut_11 : decode cX3_takeOut 11 = .ok (.getfield 20, 3) := by decide +kernel
theorem dX3_takeOut_14 : decode cX3_takeOut 14 = .ok (.aload_n 0, 1) := by decide +kernel
theorem dX3_takeOut_15 : decode cX3_takeOut 15 = .ok (.invokevirtual 37, 3) := by decide +kernel
theorem dX3_takeOut_18 : decode cX3_takeOut 18 = .ok (.bipush 100, 2) := by decide +kernel
theorem dX3_takeOut_20 : decode cX3_takeOut 20 = .ok (.iload_n 1, 1) := by decide +kernel
theorem dX3_takeOut_21 : decode cX3_takeOut 21 = .ok (.iadd, 1) := by decide +kernel
theorem dX3_takeOut_22 : decode cX3_takeOut 22 = .ok (.iastore, 1) := by decide +kernel
theorem dX3_takeOut_23 : decode cX3_takeOut 23 = .ok (.aload_n 0, 1) := by decide +kernel
theorem dX3_takeOut_24 : decode cX3_takeOut 24 = .ok (.getfield 24, 3) := by decide +kernel
theorem dX3_takeOut_27 : decode cX3_takeOut 27 = .ok (.iload_n 1, 1) := by decide +kernel
theorem dX3_takeOut_28 : decode cX3_takeOut 28 = .ok (.iconst (-1), 1) := by decide +kernel
theorem dX3_takeOut_29 : decode cX3_takeOut 29 = .ok (.iastore, 1) := by decide +kernel
theorem dX3_takeOut_30 : decode cX3_takeOut 30 = .ok (.return_, 1) := by decide +kernel
set_option maxRecDepth 20000 in
theorem ggX3_nextSlot_X3_beginAnew : GoodIn wsX3_nextSlot wsX3_beginAnew := goodIn_ca (goodIn_r _ [6, 7, 8, 9, 10, 11, 12, 13, 14] (by decide +kernel) (by decide +kernel)) (goodIn_sub (fun _ h => List.mem_cons_of_mem _ (List.mem_append_right _ h)) (by decide +kernel))
set_option maxRecDepth 20000 in
theorem gX3_nextSlot_X3_beginAnew : GoodIn wsX3_nextSlot (wsV RX3 45 RX3 yX3_beginAnew wsX3_beginAnew) := goodIn_app (goodIn_of _ (by decide +kernel)) ggX3_nextSlot_X3_beginAnew
theorem dX3_nextSlot_0 : decode cX3_nextSlot 0 = .ok (.aload_n 0, 1) := by decide +kernel
theorem dX3_nextSlot_1 : decode cX3_nextSlot 1 = .ok (.getfield 30, 3) := by decide +kernel
theorem dX3_nextSlot_4 : decode cX3_nextSlot 4 = .ok (.istore_n 1, 1) := by decide +kernel
theorem dX3_nextSlot_5 : decode cX3_nextSlot 5 = .ok (.iload_n 1, 1) := by decide +kernel
theorem dX3_nextSlot_6 : decode cX3_nextSlot 6 = .ok (.iconst 4, 1) := by decide +kernel
theorem dX3_nextSlot_7 : decode cX3_nextSlot 7 = .ok (.irem, 1) := by decide +kernel
theorem dX3_nextSlot_8 : decode cX3_nextSlot 8 = .ok (.ifCond .ne 10, 3) := by decide +kernel
theorem dX3_nextSlot_11 : decode cX3_nextSlot 11 = .ok (.aload_n 0, 1) := by decide +kernel
theorem dX3_nextSlot_12 : decode cX3_nextSlot 12 = .ok (.iload_n 1, 1) := by decide +kernel
theorem dX3_nextSlot_13 : decode cX3_nextSlot 13 = .ok (.iconst 4, 1) := by decide +kernel
theorem dX3_nextSlot_14 : decode cX3_nextSlot 14 = .ok (.idiv, 1) := by decide +kernel
theorem dX3_nextSlot_15 : decode cX3_nextSlot 15 = .ok (.invokevirtual 45, 3) := by decide +kernel
theorem dX3_nextSlot_18 : decode cX3_nextSlot 18 = .ok (.aload_n 0, 1) := by decide +kernel
theorem dX3_nextSlot_19 : decode cX3_nextSlot 19 = .ok (.iload_n 1, 1) := by decide +kernel
theorem dX3_nextSlot_20 : decode cX3_nextSlot 20 = .ok (.iconst 1, 1) := by decide +kernel
theorem dX3_nextSlot_21 : decode cX3_nextSlot 21 = .ok (.iadd, 1) := by decide +kernel
theorem dX3_nextSlot_22 : decode cX3_nextSlot 22 = .ok (.bipush 16, 2) := by decide +kernel
theorem dX3_nextSlot_24 : decode cX3_nextSlot 24 = .ok (.irem, 1) := by decide +kernel
theorem dX3_nextSlot_25 : decode cX3_nextSlot 25 = .ok (.putfield 30, 3) := by decide +kernel
theorem dX3_nextSlot_28 : decode cX3_nextSlot 28 = .ok (.iload_n 1, 1) := by decide +kernel
theorem dX3_nextSlot_29 : decode cX3_nextSlot 29 = .ok (.ireturn, 1) := by decide +kernel
theorem dX3_beginAnew_0 : decode cX3_beginAnew 0 = .ok (.iload_n 1, 1) := by decide +kernel
theorem dX3_beginAnew_1 : decode cX3_beginAnew 1 = .ok (.iconst 4, 1) := by decide +kernel
theorem dX3_beginAnew_2 : decode cX3_beginAnew 2 = .ok (.imul, 1) := by decide +kernel
theorem dX3_beginAnew_3 : decode cX3_beginAnew 3 = .ok (.istore_n 2, 1) := by decide +kernel
theorem dX3_beginAnew_4 : decode cX3_beginAnew 4 = .ok (.iconst 0, 1) := by decide +kernel
theorem dX3_beginAnew_5 : decode cX3_beginAnew 5 = .ok (.istore_n 3, 1) := by decide +kernel
theorem dX3_beginAnew_6 : decode cX3_beginAnew 6 = .ok (.iload_n 3, 1) := by decide +kernel
theorem dX3_beginAnew_7 : decode cX3_beginAnew 7 = .ok (.bipush 32, 2) := by decide +kernel
theorem dX3_beginAnew_9 : decode cX3_beginAnew 9 = .ok (.if_icmp .ge 38, 3) := by decide +kernel
theorem dX3_beginAnew_12 : decode cX3_beginAnew 12 = .ok (.aload_n 0, 1) := by decide +kernel
theorem dX3_beginAnew_13 : decode cX3_beginAnew 13 = .ok (.getfield 24, 3) := by decide +kernel
theorem dX3_beginAnew_16 : decode cX3_beginAnew 16 = .ok (.iload_n 3, 1) := by decide +kernel
theorem dX3_beginAnew_17 : decode cX3_beginAnew 17 = .ok (.iaload, 1) := by decide +kernel
theorem dX3_beginAnew_18 : decode cX3_beginAnew 18 = .ok (.iload_n 2, 1) := by decide +kernel
theorem dX3_beginAnew_19 : decode cX3_beginAnew 19 = .ok (.if_icmp .lt 22, 3) := by decide +kernel
theorem dX3_beginAnew_22 : decode cX3_beginAnew 22 = .ok (.aload_n 0, 1) := by decide +kernel
theorem dX3_beginAnew_23 : decode cX3_beginAnew 23 = .ok (.getfield 24, 3) := by decide +kernel
theorem dX3_beginAnew_26 : decode cX3_beginAnew 26 = .ok (.iload_n 3, 1) := by decide +kernel
theorem dX3_beginAnew_27 : decode cX3_beginAnew 27 = .ok (.iaload, 1) := by decide +kernel
theorem dX3_beginAnew_28 : decode cX3_beginAnew 28 = .ok (.iload_n 2, 1) := by decide +kernel
theorem dX3_beginAnew_29 : decode cX3_beginAnew 29 = .ok (.iconst 4, 1) := by decide +kernel
theorem dX3_beginAnew_30 : decode cX3_beginAnew 30 = .ok (.iadd, 1) := by decide +kernel
theorem dX3_beginAnew_31 : decode cX3_beginAnew 31 = .ok (.if_icmp .ge 10, 3) := by decide +kernel
theorem dX3_beginAnew_34 : decode cX3_beginAnew 34 = .ok (.aload_n 0, 1) := by decide +kernel
theorem dX3_beginAnew_35 : decode cX3_beginAnew 35 = .ok (.getfield 24, 3) := by decide +kernel
theorem dX3_beginAnew_38 : decode cX3_beginAnew 38 = .ok (.iload_n 3, 1) := by decide +kernel
theorem dX3_beginAnew_39 : decode cX3_beginAnew 39 = .ok (.iconst (-1), 1) := by decide +kernel
theorem dX3_beginAnew_40 : decode cX3_beginAnew 40 = .ok (.iastore, 1) := by decide +kernel
theorem dX3_beginAnew_41 : decode cX3_beginAnew 41 = .ok (.iinc 3 1, 3) := by decide +kernel
theorem dX3_beginAnew_44 : decode cX3_beginAnew 44 = .ok (.goto (-38), 3) := by decide +kernel
theorem dX3_beginAnew_47 : decode cX3_beginAnew 47 = .ok (.iload_n 2, 1) := by decide +kernel
theorem dX3_beginAnew_48 : decode cX3_beginAnew 48 = .ok (.istore_n 3, 1) := by decide +kernel
theorem dX3_beginAnew_49 : decode cX3_beginAnew 49 = .ok (.iload_n 3, 1) := by decide +kernel
theorem dX3_beginAnew_50 : decode cX3_beginAnew 50 = .ok (.iload_n 2, 1) := by decide +kernel
theorem dX3_beginAnew_51 : decode cX3_beginAnew 51 = .ok (.iconst 4, 1) := by decide +kernel
theorem dX3_beginAnew_52 : decode cX3_beginAnew 52 = .ok (.iadd, 1) := by decide +kernel
theorem dX3_beginAnew_53 : decode cX3_beginAnew 53 = .ok (.if_icmp .ge 16, 3) := by decide +kernel
theorem dX3_beginAnew_56 : decode cX3_beginAnew 56 = .ok (.aload_n 0, 1) := by decide +kernel
theorem dX3_beginAnew_57 : decode cX3_beginAnew 57 = .ok (.getfield 20, 3) := by decide +kernel
theorem dX3_beginAnew_60 : decode cX3_beginAnew 60 = .ok (.iload_n 3, 1) := by decide +kernel
theorem dX3_beginAnew_61 : decode cX3_beginAnew 61 = .ok (.iconst (-1), 1) := by decide +kernel
theorem dX3_beginAnew_62 : decode cX3_beginAnew 62 = .ok (.iastore, 1) := by decide +kernel
theorem dX3_beginAnew_63 : decode cX3_beginAnew 63 = .ok (.iinc 3 1, 3) := by decide +kernel
theorem dX3_beginAnew_66 : decode cX3_beginAnew 66 = .ok (.goto (-17), 3) := by decide +kernel
theorem dX3_beginAnew_69 : decode cX3_beginAnew 69 = .ok (.aload_n 0, 1) := by decide +kernel
theorem dX3_beginAnew_70 : decode cX3_beginAnew 70 = .ok (.getfield 27, 3) := by decide +kernel
theorem dX3_beginAnew_73 : decode cX3_beginAnew 73 = .ok (.iload_n 1, 1) := by decide +kernel
theorem dX3_beginAnew_74 : decode cX3_beginAnew 74 = .ok (.dup2, 1) := by decide +kernel
theorem dX3_beginAnew_75 : decode cX3_beginAnew 75 = .ok (.iaload, 1) := by decide +kernel
theorem dX3_beginAnew_76 : decode cX3_beginAnew 76 = .ok (.iconst 1, 1) := by decide +kernel
theorem dX3_beginAnew_77 : decode cX3_beginAnew 77 = .ok (.iadd, 1) := by decide +kernel
theorem dX3_beginAnew_78 : decode cX3_beginAnew 78 = .ok (.iastore, 1) := by decide +kernel
theorem dX3_beginAnew_79 : decode cX3_beginAnew 79 = .ok (.return_, 1) := by decide +kernel
set_option maxRecDepth 20000 in
theorem ggX3_readAgain_X4_numberFor : GoodIn wsX3_readAgain wsX4_numberFor := goodIn_ca (goodIn_r _ [10, 11, 12, 22, 23, 24, 25] (by decide +kernel) (by decide +kernel)) (goodIn_sub (fun _ h => List.mem_cons_of_mem _ (List.mem_append_right _ h)) (by decide +kernel))
set_option maxRecDepth 20000 in
theorem gX3_readAgain_X4_numberFor : GoodIn wsX3_readAgain (wsV RX3 51 RX4 yX4_numberFor wsX4_numberFor) := goodIn_app (goodIn_of _ (by decide +kernel)) ggX3_readAgain_X4_numberFor
theorem dX3_readAgain_0 : decode cX3_readAgain 0 = .ok (.iconst 0, 1) := by decide +kernel
theorem dX3_readAgain_1 : decode cX3_readAgain 1 = .ok (.istore_n 2, 1) := by decide +kernel
theorem dX3_readAgain_2 : decode cX3_readAgain 2 = .ok (.iload_n 2, 1) := by decide +kernel
theorem dX3_readAgain_3 : decode cX3_readAgain 3 = .ok (.bipush 16, 2) := by decide +kernel
theorem dX3_readAgain_5 : decode cX3_readAgain 5 = .ok (.if_icmp .ge 84, 3) := by decide +kernel
theorem dX3_readAgain_8 : decode cX3_readAgain 8 = .ok (.aload_n 0, 1) := by decide +kernel
theorem dX3_readAgain_9 : decode cX3_readAgain 9 = .ok (.getfield 30, 3) := by decide +kernel
theorem dX3_readAgain_12 : decode cX3_readAgain 12 = .ok (.iload_n 2, 1) := by decide +kernel
theorem dX3_readAgain_13 : decode cX3_readAgain 13 = .ok (.iadd, 1) := by decide +kernel
theorem dX3_readAgain_14 : decode cX3_readAgain 14 = .ok (.bipush 16, 2) := by decide +kernel
theorem dX3_readAgain_16 : decode cX3_readAgain 16 = .ok (.irem, 1) := by decide +kernel
theorem dX3_readAgain_17 : decode cX3_readAgain 17 = .ok (.istore_n 3, 1) := by decide +kernel
theorem dX3_readAgain_18 : decode cX3_readAgain 18 = .ok (.aload_n 0, 1) := by decide +kernel
theorem dX3_readAgain_19 : decode cX3_readAgain 19 = .ok (.getfield 20, 3) := by decide +kernel
theorem dX3_readAgain_22 : decode cX3_readAgain 22 = .ok (.iload_n 3, 1) := by decide +kernel
theorem dX3_readAgain_23 : decode cX3_readAgain 23 = .ok (.iaload, 1) := by decide +kernel
theorem dX3_readAgain_24 : decode cX3_readAgain 24 = .ok (.istore 4, 2) := by decide +kernel
theorem dX3_readAgain_26 : decode cX3_readAgain 26 = .ok (.iload 4, 2) := by decide +kernel
theorem dX3_readAgain_28 : decode cX3_readAgain 28 = .ok (.bipush 100, 2) := by decide +kernel
theorem dX3_readAgain_30 : decode cX3_readAgain 30 = .ok (.if_icmp .lt 17, 3) := by decide +kernel
theorem dX3_readAgain_33 : decode cX3_readAgain 33 = .ok (.aload_n 0, 1) := by decide +kernel
theorem dX3_readAgain_34 : decode cX3_readAgain 34 = .ok (.getfield 24, 3) := by decide +kernel
theorem dX3_readAgain_37 : decode cX3_readAgain 37 = .ok (.iload 4, 2) := by decide +kernel
theorem dX3_readAgain_39 : decode cX3_readAgain 39 = .ok (.bipush 100, 2) := by decide +kernel
theorem dX3_readAgain_41 : decode cX3_readAgain 41 = .ok (.isub, 1) := by decide +kernel
theorem dX3_readAgain_42 : decode cX3_readAgain 42 = .ok (.iconst (-1), 1) := by decide +kernel
theorem dX3_readAgain_43 : decode cX3_readAgain 43 = .ok (.iastore, 1) := by decide +kernel
theorem dX3_readAgain_44 : decode cX3_readAgain 44 = .ok (.goto 39, 3) := by decide +kernel
theorem dX3_readAgain_47 : decode cX3_readAgain 47 = .ok (.iload 4, 2) := by decide +kernel
theorem dX3_readAgain_49 : decode cX3_readAgain 49 = .ok (.iconst (-1), 1) := by decide +kernel
theorem dX3_readAgain_50 : decode cX3_readAgain 50 = .ok (.if_icmp .eq 33, 3) := by decide +kernel
theorem dX3_readAgain_53 : decode cX3_readAgain 53 = .ok (.aload_n 0, 1) := by decide +kernel
theorem dX3_readAgain_54 : decode cX3_readAgain 54 = .ok (.getfield 24, 3) := by decide +kernel
theorem dX3_readAgain_57 : decode cX3_readAgain 57 = .ok (.iload 4, 2) := by decide +kernel
theorem dX3_readAgain_59 : decode cX3_readAgain 59 = .ok (.aload_n 0, 1) := by decide +kernel
theorem dX3_readAgain_60 : decode cX3_readAgain 60 = .ok (.getfield 14, 3) := by decide +kernel
theorem dX3_readAgain_63 : decode cX3_readAgain 63 = .ok (.getfield 48, 3) := by decide +kernel
theorem dX3_readAgain_66 : decode cX3_readAgain 66 = .ok (.iload_n 3, 1) := by decide +kernel
theorem dX3_readAgain_67 : decode cX3_readAgain 67 = .ok (.iaload, 1) := by decide +kernel
theorem dX3_readAgain_68 : decode cX3_readAgain 68 = .ok (.aload_n 1, 1) := by decide +kernel
theorem dX3_readAgain_69 : decode cX3_readAgain 69 = .ok (.iload 4, 2) := by decide +kernel
theorem dX3_readAgain_71 : decode cX3_readAgain 71 = .ok (.invokevirtual 51, 3) := by decide +kernel
theorem dX3_readAgain_74 : decode cX3_readAgain 74 = .ok (.if_icmp .ne 7, 3) := by decide +kernel
theorem dX3_readAgain_77 : decode cX3_readAgain 77 = .ok (.iload_n 3, 1) := by decide +kernel
theorem dX3_readAgain_78 : decode cX3_readAgain 78 = .ok (.goto 4, 3) := by decide +kernel
theorem dX3_readAgain_81 : decode cX3_readAgain 81 = .ok (.iconst (-1), 1) := by decide +kernel
theorem dX3_readAgain_82 : decode cX3_readAgain 82 = .ok (.iastore, 1) := by decide +kernel
theorem dX3_readAgain_83 : decode cX3_readAgain 83 = .ok (.iinc 2 1, 3) := by decide +kernel
theorem dX3_readAgain_86 : decode cX3_readAgain 86 = .ok (.goto (-84), 3) := by decide +kernel
theorem dX3_readAgain_89 : decode cX3_readAgain 89 = .ok (.return_, 1) := by decide +kernel
theorem dX4_init_0 : decode cX4_init 0 = .ok (.aload_n 0, 1) := by decide +kernel
theorem dX4_init_1 : decode cX4_init 1 = .ok (.invokespecial 3, 3) := by decide +kernel
theorem dX4_init_4 : decode cX4_init 4 = .ok (.aload_n 0, 1) := by decide +kernel
theorem dX4_init_5 : decode cX4_init 5 = .ok (.bipush 32, 2) := by decide +kernel
theorem dX4_init_7 : decode cX4_init 7 = .ok (.newarray .int, 2) := by decide +kernel
theorem dX4_init_9 : decode cX4_init 9 = .ok (.putfield 9, 3) := by decide +kernel
theorem dX4_init_12 : decode cX4_init 12 = .ok (.aload_n 0, 1) := by decide +kernel
theorem dX4_init_13 : decode cX4_init 13 = .ok (.bipush 32, 2) := by decide +kernel
theorem dX4_init_15 : decode cX4_init 15 = .ok (.newarray .int, 2) := by decide +kernel
theorem dX4_init_17 : decode cX4_init 17 = .ok (.putfield 15, 3) := by decide +kernel
theorem dX4_init_20 : decode cX4_init 20 = .ok (.aload_n 0, 1) := by decide +kernel
theorem dX4_init_21 : decode cX4_init 21 = .ok (.bipush 32, 2) := by decide +kernel
theorem dX4_init_23 : decode cX4_init 23 = .ok (.newarray .int, 2) := by decide +kernel
theorem dX4_init_25 : decode cX4_init 25 = .ok (.putfield 18, 3) := by decide +kernel
theorem dX4_init_28 : decode cX4_init 28 = .ok (.aload_n 0, 1) := by decide +kernel
theorem dX4_init_29 : decode cX4_init 29 = .ok (.iconst 4, 1) := by decide +kernel
theorem dX4_init_30 : decode cX4_init 30 = .ok (.newarray .int, 2) := by decide +kernel
theorem dX4_init_32 : decode cX4_init 32 = .ok (.putfield 21, 3) := by decide +kernel
theorem dX4_init_35 : decode cX4_init 35 = .ok (.iconst 0, 1) := by decide +kernel
theorem dX4_init_36 : decode cX4_init 36 = .ok (.istore_n 1, 1) := by decide +kernel
theorem dX4_init_37 : decode cX4_init 37 = .ok (.iload_n 1, 1) := by decide +kernel
theorem dX4_init_38 : decode cX4_init 38 = .ok (.bipush 32, 2) := by decide +kernel
theorem dX4_init_40 : decode cX4_init 40 = .ok (.if_icmp .ge 23, 3) := by decide +kernel
theorem dX4_init_43 : decode cX4_init 43 = .ok (.aload_n 0, 1) := by decide +kernel
theorem dX4_init_44 : decode cX4_init 44 = .ok (.getfield 9, 3) := by decide +kernel
theorem dX4_init_47 : decode cX4_init 47 = .ok (.iload_n 1, 1) := by decide +kernel
theorem dX4_init_48 : decode cX4_init 48 = .ok (.iconst 1, 1) := by decide +kernel
theorem dX4_init_49 : decode cX4_init 49 = .ok (.iastore, 1) := by decide +kernel
theorem dX4_init_50 : decode cX4_init 50 = .ok (.aload_n 0, 1) := by decide +kernel
theorem dX4_init_51 : decode cX4_init 51 = .ok (.getfield 15, 3) := by decide +kernel
theorem dX4_init_54 : decode cX4_init 54 = .ok (.iload_n 1, 1) := by decide +kernel
theorem dX4_init_55 : decode cX4_init 55 = .ok (.iconst 1, 1) := by decide +kernel
theorem dX4_init_56 : decode cX4_init 56 = .ok (.iastore, 1) := by decide +kernel
theorem dX4_init_57 : decode cX4_init 57 = .ok (.iinc 1 1, 3) := by decide +kernel
theorem dX4_init_60 : decode cX4_init 60 = .ok (.goto (-23), 3) := by decide +kernel
theorem dX4_init_63 : decode cX4_init 63 = .ok (.return_, 1) := by decide +kernel
theorem dX4_numberFor_0 : decode cX4_numberFor 0 = .ok (.aload_n 0, 1) := by decide +kernel
theorem dX4_numberFor_1 : decode cX4_numberFor 1 = .ok (.getfield 21, 3) := by decide +kernel
theorem dX4_numberFor_4 : decode cX4_numberFor 4 = .ok (.aload_n 0, 1) := by decide +kernel
theorem dX4_numberFor_5 : decode cX4_numberFor 5 = .ok (.getfield 18, 3) := by decide +kernel
theorem dX4_numberFor_8 : decode cX4_numberFor 8 = .ok (.iload_n 1, 1) := by decide +kernel
theorem dX4_numberFor_9 : decode cX4_numberFor 9 = .ok (.iaload, 1) := by decide +kernel
theorem dX4_numberFor_10 : decode cX4_numberFor 10 = .ok (.iaload, 1) := by decide +kernel
theorem dX4_numberFor_11 : decode cX4_numberFor 11 = .ok (.ireturn, 1) := by decide +kernel
set_option maxRecDepth 20000 in
theorem ggX5_init_X2_init : GoodIn wsX5_init wsX2_init := goodIn_r _ [19, 20, 2, 3, 8, 21, 22, 23, 24, 25, 26, 27, 28] (by decide +kernel) (by decide +kernel)
set_option maxRecDepth 20000 in
theorem gX5_init_X2_init : GoodIn wsX5_init (wsX2_init) := ggX5_init_X2_init
theorem dX5_init_0 : decode cX5_init 0 = .ok (.aload_n 0, 1) := by decide +kernel
theorem dX5_init_1 : decode cX5_init 1 = .ok (.invokespecial 3, 3) := by decide +kernel
theorem dX5_init_4 : decode cX5_init 4 = .ok (.aload_n 0, 1) := by decide +kernel
theorem dX5_init_5 : decode cX5_init 5 = .ok (.new 9, 3) := by decide +kernel
theorem dX5_init_8 : decode cX5_init 8 = .ok (.dup, 1) := by decide +kernel
theorem dX5_init_9 : decode cX5_init 9 = .ok (.bipush 60, 2) := by decide +kernel
theorem dX5_init_11 : decode cX5_init 11 = .ok (.invokespecial 11, 3) := by decide +kernel
theorem dX5_init_14 : decode cX5_init 14 = .ok (.putfield 14, 3) := by decide +kernel
theorem dX5_init_17 : decode cX5_init 17 = .ok (.aload_n 0, 1) := by decide +kernel
theorem dX5_init_18 : decode cX5_init 18 = .ok (.bipush 60, 2) := by decide +kernel
theorem dX5_init_20 : decode cX5_init 20 = .ok (.newarray .int, 2) := by decide +kernel
theorem dX5_init_22 : decode cX5_init 22 = .ok (.putfield 20, 3) := by decide +kernel
theorem dX5_init_25 : decode cX5_init 25 = .ok (.aload_n 0, 1) := by decide +kernel
theorem dX5_init_26 : decode cX5_init 26 = .ok (.bipush 60, 2) := by decide +kernel
theorem dX5_init_28 : decode cX5_init 28 = .ok (.newarray .int, 2) := by decide +kernel
theorem dX5_init_30 : decode cX5_init 30 = .ok (.putfield 24, 3) := by decide +kernel
theorem dX5_init_33 : decode cX5_init 33 = .ok (.aload_n 0, 1) := by decide +kernel
theorem dX5_init_34 : decode cX5_init 34 = .ok (.bipush 60, 2) := by decide +kernel
theorem dX5_init_36 : decode cX5_init 36 = .ok (.newarray .boolean, 2) := by decide +kernel
theorem dX5_init_38 : decode cX5_init 38 = .ok (.putfield 27, 3) := by decide +kernel
theorem dX5_init_41 : decode cX5_init 41 = .ok (.aload_n 0, 1) := by decide +kernel
theorem dX5_init_42 : decode cX5_init 42 = .ok (.bipush 60, 2) := by decide +kernel
theorem dX5_init_44 : decode cX5_init 44 = .ok (.newarray .char, 2) := by decide +kernel
theorem dX5_init_46 : decode cX5_init 46 = .ok (.putfield 31, 3) := by decide +kernel
theorem dX5_init_49 : decode cX5_init 49 = .ok (.aload_n 0, 1) := by decide +kernel
theorem dX5_init_50 : decode cX5_init 50 = .ok (.iconst 0, 1) := by decide +kernel
theorem dX5_init_51 : decode cX5_init 51 = .ok (.putfield 35, 3) := by decide +kernel
theorem dX5_init_54 : decode cX5_init 54 = .ok (.aload_n 0, 1) := by decide +kernel
theorem dX5_init_55 : decode cX5_init 55 = .ok (.lconst 0, 1) := by decide +kernel
theorem dX5_init_56 : decode cX5_init 56 = .ok (.putfield 39, 3) := by decide +kernel
theorem dX5_init_59 : decode cX5_init 59 = .ok (.return_, 1) := by decide +kernel
theorem dX5_give_0 : decode cX5_give 0 = .ok (.aload_n 0, 1) := by decide +kernel
theorem dX5_give_1 : decode cX5_give 1 = .ok (.getfield 35, 3) := by decide +kernel
theorem dX5_give_4 : decode cX5_give 4 = .ok (.bipush 60, 2) := by decide +kernel
theorem dX5_give_6 : decode cX5_give 6 = .ok (.if_icmp .ge 55, 3) := by decide +kernel
theorem dX5_give_9 : decode cX5_give 9 = .ok (.aload_n 0, 1) := by decide +kernel
theorem dX5_give_10 : decode cX5_give 10 = .ok (.getfield 20, 3) := by decide +kernel
theorem dX5_give_13 : decode cX5_give 13 = .ok (.aload_n 0, 1) := by decide +kernel
theorem dX5_give_14 : decode cX5_give 14 = .ok (.getfield 35, 3) := by decide +kernel
theorem dX5_give_17 : decode cX5_give 17 = .ok (.iload_n 1, 1) := by decide +kernel
theorem dX5_give_18 : decode cX5_give 18 = .ok (.iastore, 1) := by decide +kernel
theorem dX5_give_19 : decode cX5_give 19 = .ok (.aload_n 0, 1) := by decide +kernel
theorem dX5_give_20 : decode cX5_give 20 = .ok (.getfield 24, 3) := by decide +kernel
theorem dX5_give_23 : decode cX5_give 23 = .ok (.aload_n 0, 1) := by decide +kernel
theorem dX5_give_24 : decode cX5_give 24 = .ok (.getfield 35, 3) := by decide +kernel
theorem dX5_give_27 : decode cX5_give 27 = .ok (.iload_n 2, 1) := by decide +kernel
theorem dX5_give_28 : decode cX5_give 28 = .ok (.iastore, 1) := by decide +kernel
theorem dX5_give_29 : decode cX5_give 29 = .ok (.aload_n 0, 1) := by decide +kernel
theorem dX5_give_30 : decode cX5_give 30 = .ok (.getfield 31, 3) := by decide +kernel
theorem dX5_give_33 : decode cX5_give 33 = .ok (.aload_n 0, 1) := by decide +kernel
theorem dX5_give_34 : decode cX5_give 34 = .ok (.getfield 35, 3) := by decide +kernel
theorem dX5_give_37 : decode cX5_give 37 = .ok (.bipush 111, 2) := by decide +kernel
theorem dX5_give_39 : decode cX5_give 39 = .ok (.castore, 1) := by decide +kernel
theorem dX5_give_40 : decode cX5_give 40 = .ok (.aload_n 0, 1) := by decide +kernel
theorem dX5_give_41 : decode cX5_give 41 = .ok (.dup, 1) := by decide +kernel
theorem dX5_give_42 : decode cX5_give 42 = .ok (.getfield 35, 3) := by decide +kernel
theorem dX5_give_45 : decode cX5_give 45 = .ok (.iconst 1, 1) := by decide +kernel
theorem dX5_give_46 : decode cX5_give 46 = .ok (.iadd, 1) := by decide +kernel
theorem dX5_give_47 : decode cX5_give 47 = .ok (.putfield 35, 3) := by decide +kernel
theorem dX5_give_50 : decode cX5_give 50 = .ok (.aload_n 0, 1) := by decide +kernel
theorem dX5_give_51 : decode cX5_give 51 = .ok (.dup, 1) := by decide +kernel
theorem dX5_give_52 : decode cX5_give 52 = .ok (.getfield 39, 3) := by decide +kernel
theorem dX5_give_55 : decode cX5_give 55 = .ok (.iload_n 3, 1) := by decide +kernel
theorem dX5_give_56 : decode cX5_give 56 = .ok (.i2l, 1) := by decide +kernel
theorem dX5_give_57 : decode cX5_give 57 = .ok (.ladd, 1) := by decide +kernel
theorem dX5_give_58 : decode cX5_give 58 = .ok (.putfield 39, 3) := by decide +kernel
theorem dX5_give_61 : decode cX5_give 61 = .ok (.return_, 1) := by decide +kernel
theorem dX5_stateOf_0 : decode cX5_stateOf 0 = .ok (.aload_n 0, 1) := by decide +kernel
theorem dX5_stateOf_1 : decode cX5_stateOf 1 = .ok (.getfield 31, 3) := by decide +kernel
theorem dX5_stateOf_4 : decode cX5_stateOf 4 = .ok (.iload_n 1, 1) := by decide +kernel
theorem dX5_stateOf_5 : decode cX5_stateOf 5 = .ok (.caload, 1) := by decide +kernel
theorem dX5_stateOf_6 : decode cX5_stateOf 6 = .ok (.bipush 111, 2) := by decide +kernel
theorem dX5_stateOf_8 : decode cX5_stateOf 8 = .ok (.if_icmp .eq 10, 3) := by decide +kernel
theorem dX5_stateOf_11 : decode cX5_stateOf 11 = .ok (.aload_n 0, 1) := by decide +kernel
theorem dX5_stateOf_12 : decode cX5_stateOf 12 = .ok (.getfield 31, 3) := by decide +kernel
theorem dX5_stateOf_15 : decode cX5_stateOf 15 = .ok (.iload_n 1, 1) := by decide +kernel
theorem dX5_stateOf_16 : decode cX5_stateOf 16 = .ok (.caload, 1) := by decide +kernel
theorem dX5_stateOf_17 : decode cX5_stateOf 17 = .ok (.ireturn, 1) := by decide +kernel
theorem dX5_stateOf_18 : decode cX5_stateOf 18 = .ok (.iload_n 2, 1) := by decide +kernel
theorem dX5_stateOf_19 : decode cX5_stateOf 19 = .ok (.aload_n 0, 1) := by decide +kernel
theorem dX5_stateOf_20 : decode cX5_stateOf 20 = .ok (.getfield 24, 3) := by decide +kernel
theorem dX5_stateOf_23 : decode cX5_stateOf 23 = .ok (.iload_n 1, 1) := by decide +kernel
theorem dX5_stateOf_24 : decode cX5_stateOf 24 = .ok (.iaload, 1) := by decide +kernel
theorem dX5_stateOf_25 : decode cX5_stateOf 25 = .ok (.isub, 1) := by decide +kernel
theorem dX5_stateOf_26 : decode cX5_stateOf 26 = .ok (.iconst 5, 1) := by decide +kernel
theorem dX5_stateOf_27 : decode cX5_stateOf 27 = .ok (.if_icmp .le 6, 3) := by decide +kernel
theorem dX5_stateOf_30 : decode cX5_stateOf 30 = .ok (.bipush 120, 2) := by decide +kernel
theorem dX5_stateOf_32 : decode cX5_stateOf 32 = .ok (.ireturn, 1) := by decide +kernel
theorem dX5_stateOf_33 : decode cX5_stateOf 33 = .ok (.aload_n 0, 1) := by decide +kernel
theorem dX5_stateOf_34 : decode cX5_stateOf 34 = .ok (.getfield 27, 3) := by decide +kernel
theorem dX5_stateOf_37 : decode cX5_stateOf 37 = .ok (.iload_n 1, 1) := by decide +kernel
theorem dX5_stateOf_38 : decode cX5_stateOf 38 = .ok (.baload, 1) := by decide +kernel
theorem dX5_stateOf_39 : decode cX5_stateOf 39 = .ok (.ifCond .eq 8, 3) := by decide +kernel
theorem dX5_stateOf_42 : decode cX5_stateOf 42 = .ok (.bipush 114, 2) := by decide +kernel
theorem dX5_stateOf_44 : decode cX5_stateOf 44 = .ok (.goto 5, 3) := by decide +kernel
theorem dX5_stateOf_47 : decode cX5_stateOf 47 = .ok (.bipush 111, 2) := by decide +kernel
theorem dX5_stateOf_49 : decode cX5_stateOf 49 = .ok (.ireturn, 1) := by decide +kernel
set_option maxRecDepth 20000 in
theorem ggX5_isOutFor_X5_stateOf : GoodIn wsX5_isOutFor wsX5_stateOf := goodIn_ca (goodIn_r _ [8, 3, 9, 10, 11, 12, 13, 14, 15, 16, 17] (by decide +kernel) (by decide +kernel)) (goodIn_sub (fun _ h => List.mem_cons_of_mem _ (List.mem_append_right _ h)) (by decide +kernel))
set_option maxRecDepth 20000 in
theorem gX5_isOutFor_X5_stateOf : GoodIn wsX5_isOutFor (wsV RX5 43 RX5 yX5_stateOf wsX5_stateOf) := goodIn_app (goodIn_of _ (by decide +kernel)) ggX5_isOutFor_X5_stateOf
theorem dX5_isOutFor_0 : decode cX5_isOutFor 0 = .ok (.iconst 0, 1) := by decide +kernel
theorem dX5_isOutFor_1 : decode cX5_isOutFor 1 = .ok (.istore_n 3, 1) := by decide +kernel
theorem dX5_isOutFor_2 : decode cX5_isOutFor 2 = .ok (.iload_n 3, 1) := by decide +kernel
theorem dX5_isOutFor_3 : decode cX5_isOutFor 3 = .ok (.aload_n 0, 1) := by decide +kernel
theorem dX5_isOutFor_4 : decode cX5_isOutFor 4 = .ok (.getfield 35, 3) := by decide +kernel
theorem dX5_isOutFor_7 : decode cX5_isOutFor 7 = .ok (.if_icmp .ge 43, 3) := by decide +kernel
theorem dX5_isOutFor_10 : decode cX5_isOutFor 10 = .ok (.aload_n 0, 1) := by decide +kernel
theorem dX5_isOutFor_11 : decode cX5_isOutFor 11 = .ok (.getfield 20, 3) := by decide +kernel
theorem dX5_isOutFor_14 : decode cX5_isOutFor 14 = .ok (.iload_n 3, 1) := by decide +kernel
theorem dX5_isOutFor_15 : decode cX5_isOutFor 15 = .ok (.iaload, 1) := by decide +kernel
theorem dX5_isOutFor_16 : decode cX5_isOutFor 16 = .ok (.iload_n 1, 1) := by decide +kernel
theorem dX5_isOutFor_17 : decode cX5_isOutFor 17 = .ok (.if_icmp .ne 27, 3) := by decide +kernel
theorem dX5_isOutFor_20 : decode cX5_isOutFor 20 = .ok (.aload_n 0, 1) := by decide +kernel
theorem dX5_isOutFor_21 : decode cX5_isOutFor 21 = .ok (.getfield 31, 3) := by decide +kernel
theorem dX5_isOutFor_24 : decode cX5_isOutFor 24 = .ok (.iload_n 3, 1) := by decide +kernel
theorem dX5_isOutFor_25 : decode cX5_isOutFor 25 = .ok (.caload, 1) := by decide +kernel
theorem dX5_isOutFor_26 : decode cX5_isOutFor 26 = .ok (.bipush 111, 2) := by decide +kernel
theorem dX5_isOutFor_28 : decode cX5_isOutFor 28 = .ok (.if_icmp .ne 16, 3) := by decide +kernel
theorem dX5_isOutFor_31 : decode cX5_isOutFor 31 = .ok (.aload_n 0, 1) := by decide +kernel
theorem dX5_isOutFor_32 : decode cX5_isOutFor 32 = .ok (.iload_n 3, 1) := by decide +kernel
theorem dX5_isOutFor_33 : decode cX5_isOutFor 33 = .ok (.iload_n 2, 1) := by decide +kernel
theorem dX5_isOutFor_34 : decode cX5_isOutFor 34 = .ok (.invokevirtual 43, 3) := by decide +kernel
theorem dX5_isOutFor_37 : decode cX5_isOutFor 37 = .ok (.bipush 120, 2) := by decide +kernel
theorem dX5_isOutFor_39 : decode cX5_isOutFor 39 = .ok (.if_icmp .eq 5, 3) := by decide +kernel
theorem dX5_isOutFor_42 : decode cX5_isOutFor 42 = .ok (.iconst 1, 1) := by decide +kernel
theorem dX5_isOutFor_43 : decode cX5_isOutFor 43 = .ok (.ireturn, 1) := by decide +kernel
theorem dX5_isOutFor_44 : decode cX5_isOutFor 44 = .ok (.iinc 3 1, 3) := by decide +kernel
theorem dX5_isOutFor_47 : decode cX5_isOutFor 47 = .ok (.goto (-45), 3) := by decide +kernel
theorem dX5_isOutFor_50 : decode cX5_isOutFor 50 = .ok (.iconst 0, 1) := by decide +kernel
theorem dX5_isOutFor_51 : decode cX5_isOutFor 51 = .ok (.ireturn, 1) := by decide +kernel
theorem dX5_voidFor_0 : decode cX5_voidFor 0 = .ok (.iconst 0, 1) := by decide +kernel
theorem dX5_voidFor_1 : decode cX5_voidFor 1 = .ok (.istore_n 2, 1) := by decide +kernel
theorem dX5_voidFor_2 : decode cX5_voidFor 2 = .ok (.iload_n 2, 1) := by decide +kernel
theorem dX5_voidFor_3 : decode cX5_voidFor 3 = .ok (.aload_n 0, 1) := by decide +kernel
theorem dX5_voidFor_4 : decode cX5_voidFor 4 = .ok (.getfield 35, 3) := by decide +kernel
theorem dX5_voidFor_7 : decode cX5_voidFor 7 = .ok (.if_icmp .ge 38, 3) := by decide +kernel
theorem dX5_voidFor_10 : decode cX5_voidFor 10 = .ok (.aload_n 0, 1) := by decide +kernel
theorem dX5_voidFor_11 : decode cX5_voidFor 11 = .ok (.getfield 20, 3) := by decide +kernel
theorem dX5_voidFor_14 : decode cX5_voidFor 14 = .ok (.iload_n 2, 1) := by decide +kernel
theorem dX5_voidFor_15 : decode cX5_voidFor 15 = .ok (.iaload, 1) := by decide +kernel
theorem dX5_voidFor_16 : decode cX5_voidFor 16 = .ok (.iload_n 1, 1) := by decide +kernel
theorem dX5_voidFor_17 : decode cX5_voidFor 17 = .ok (.if_icmp .ne 22, 3) := by decide +kernel
theorem dX5_voidFor_20 : decode cX5_voidFor 20 = .ok (.aload_n 0, 1) := by decide +kernel
theorem dX5_voidFor_21 : decode cX5_voidFor 21 = .ok (.getfield 31, 3) := by decide +kernel
theorem dX5_voidFor_24 : decode cX5_voidFor 24 = .ok (.iload_n 2, 1) := by decide +kernel
theorem dX5_voidFor_25 : decode cX5_voidFor 25 = .ok (.caload, 1) := by decide +kernel
theorem dX5_voidFor_26 : decode cX5_voidFor 26 = .ok (.bipush 111, 2) := by decide +kernel
theorem dX5_voidFor_28 : decode cX5_voidFor 28 = .ok (.if_icmp .ne 11, 3) := by decide +kernel
theorem dX5_voidFor_31 : decode cX5_voidFor 31 = .ok (.aload_n 0, 1) := by decide +kernel
theorem dX5_voidFor_32 : decode cX5_voidFor 32 = .ok (.getfield 31, 3) := by decide +kernel
theorem dX5_voidFor_35 : decode cX5_voidFor 35 = .ok (.iload_n 2, 1) := by decide +kernel
theorem dX5_voidFor_36 : decode cX5_voidFor 36 = .ok (.bipush 120, 2) := by decide +kernel
theorem dX5_voidFor_38 : decode cX5_voidFor 38 = .ok (.castore, 1) := by decide +kernel
theorem dX5_voidFor_39 : decode cX5_voidFor 39 = .ok (.iinc 2 1, 3) := by decide +kernel
theorem dX5_voidFor_42 : decode cX5_voidFor 42 = .ok (.goto (-40), 3) := by decide +kernel
theorem dX5_voidFor_45 : decode cX5_voidFor 45 = .ok (.return_, 1) := by decide +kernel
set_option maxRecDepth 20000 in
theorem ggX5_voidAll_X5_voidFor : GoodIn wsX5_voidAll wsX5_voidFor := goodIn_ca (goodIn_r _ [5, 6, 7, 8, 9, 10, 11, 12, 13, 14, 15] (by decide +kernel) (by decide +kernel)) (goodIn_sub (fun _ h => List.mem_cons_of_mem _ (List.mem_append_right _ h)) (by decide +kernel))
set_option maxRecDepth 20000 in
theorem gX5_voidAll_X5_voidFor : GoodIn wsX5_voidAll (wsV RX5 47 RX5 yX5_voidFor wsX5_voidFor) := goodIn_app (goodIn_of _ (by decide +kernel)) ggX5_voidAll_X5_voidFor
theorem dX5_voidAll_0 : decode cX5_voidAll 0 = .ok (.iconst 0, 1) := by decide +kernel
theorem dX5_voidAll_1 : decode cX5_voidAll 1 = .ok (.istore_n 1, 1) := by decide +kernel
theorem dX5_voidAll_2 : decode cX5_voidAll 2 = .ok (.iload_n 1, 1) := by decide +kernel
theorem dX5_voidAll_3 : decode cX5_voidAll 3 = .ok (.bipush 32, 2) := by decide +kernel
theorem dX5_voidAll_5 : decode cX5_voidAll 5 = .ok (.if_icmp .ge 14, 3) := by decide +kernel
theorem dX5_voidAll_8 : decode cX5_voidAll 8 = .ok (.aload_n 0, 1) := by decide +kernel
theorem dX5_voidAll_9 : decode cX5_voidAll 9 = .ok (.iload_n 1, 1) := by decide +kernel
theorem dX5_voidAll_10 : decode cX5_voidAll 10 = .ok (.invokevirtual 47, 3) := by decide +kernel
theorem dX5_voidAll_13 : decode cX5_voidAll 13 = .ok (.iinc 1 1, 3) := by decide +kernel
theorem dX5_voidAll_16 : decode cX5_voidAll 16 = .ok (.goto (-14), 3) := by decide +kernel
theorem dX5_voidAll_19 : decode cX5_voidAll 19 = .ok (.return_, 1) := by decide +kernel
set_option maxRecDepth 20000 in
theorem ggX6_init_X2_init : GoodIn wsX6_init wsX2_init := goodIn_r _ [16, 17, 2, 3, 10, 18, 19, 20, 21, 22, 23, 24, 25] (by decide +kernel) (by decide +kernel)
set_option maxRecDepth 20000 in
theorem gX6_init_X2_init : GoodIn wsX6_init (wsX2_init) := ggX6_init_X2_init
theorem dX6_init_0 : decode cX6_init 0 = .ok (.aload_n 0, 1) := by decide +kernel
theorem dX6_init_1 : decode cX6_init 1 = .ok (.invokespecial 3, 3) := by decide +kernel
theorem dX6_init_4 : decode cX6_init 4 = .ok (.aload_n 0, 1) := by decide +kernel
theorem dX6_init_5 : decode cX6_init 5 = .ok (.new 9, 3) := by decide +kernel
theorem dX6_init_8 : decode cX6_init 8 = .ok (.dup, 1) := by decide +kernel
theorem dX6_init_9 : decode cX6_init 9 = .ok (.bipush 32, 2) := by decide +kernel
theorem dX6_init_11 : decode cX6_init 11 = .ok (.invokespecial 11, 3) := by decide +kernel
theorem dX6_init_14 : decode cX6_init 14 = .ok (.putfield 14, 3) := by decide +kernel
theorem dX6_init_17 : decode cX6_init 17 = .ok (.aload_n 0, 1) := by decide +kernel
theorem dX6_init_18 : decode cX6_init 18 = .ok (.bipush 32, 2) := by decide +kernel
theorem dX6_init_20 : decode cX6_init 20 = .ok (.newarray .boolean, 2) := by decide +kernel
theorem dX6_init_22 : decode cX6_init 22 = .ok (.putfield 20, 3) := by decide +kernel
theorem dX6_init_25 : decode cX6_init 25 = .ok (.aload_n 0, 1) := by decide +kernel
theorem dX6_init_26 : decode cX6_init 26 = .ok (.bipush 32, 2) := by decide +kernel
theorem dX6_init_28 : decode cX6_init 28 = .ok (.newarray .int, 2) := by decide +kernel
theorem dX6_init_30 : decode cX6_init 30 = .ok (.putfield 24, 3) := by decide +kernel
theorem dX6_init_33 : decode cX6_init 33 = .ok (.aload_n 0, 1) := by decide +kernel
theorem dX6_init_34 : decode cX6_init 34 = .ok (.iconst 0, 1) := by decide +kernel
theorem dX6_init_35 : decode cX6_init 35 = .ok (.putfield 28, 3) := by decide +kernel
theorem dX6_init_38 : decode cX6_init 38 = .ok (.aload_n 0, 1) := by decide +kernel
theorem dX6_init_39 : decode cX6_init 39 = .ok (.iconst 0, 1) := by decide +kernel
theorem dX6_init_40 : decode cX6_init 40 = .ok (.putfield 32, 3) := by decide +kernel
theorem dX6_init_43 : decode cX6_init 43 = .ok (.return_, 1) := by decide +kernel
set_option maxRecDepth 20000 in
theorem ggX6_put_X2_take : GoodIn wsX6_put wsX2_take := goodIn_ca (goodIn_r _ [8, 9, 10, 11, 12, 13, 14, 15, 7, 16, 29, 30, 31, 32] (by decide +kernel) (by decide +kernel)) (goodIn_sub (fun _ h => List.mem_cons_of_mem _ (List.mem_append_right _ h)) (by decide +kernel))
set_option maxRecDepth 20000 in
theorem gX6_put_X2_take : GoodIn wsX6_put (wsV RX6 35 RX2 yX2_take wsX2_take) := goodIn_app (goodIn_of _ (by decide +kernel)) ggX6_put_X2_take
set_option maxRecDepth 20000 in
theorem ggX6_put_X6_touch : GoodIn wsX6_put wsX6_touch := goodIn_ca (goodIn_r _ [21, 22, 23, 24, 25, 26, 27, 28] (by decide +kernel) (by decide +kernel)) (goodIn_sub (fun _ h => List.mem_cons_of_mem _ (List.mem_append_right _ h)) (by decide +kernel))
set_option maxRecDepth 20000 in
theorem gX6_put_X6_touch : GoodIn wsX6_put (wsV RX6 39 RX6 yX6_touch wsX6_touch) := goodIn_app (goodIn_of _ (by decide +kernel)) ggX6_put_X6_touch
theorem dX6_put_0 : decode cX6_put 0 = .ok (.aload_n 0, 1) := by decide +kernel
theorem dX6_put_1 : decode cX6_put 1 = .ok (.getfield 20, 3) := by decide +kernel
theorem dX6_put_4 : decode cX6_put 4 = .ok (.iload_n 1, 1) := by decide +kernel
theorem dX6_put_5 : decode cX6_put 5 = .ok (.baload, 1) := by decide +kernel
theorem dX6_put_6 : decode cX6_put 6 = .ok (.ifCond .ne 20, 3) := by decide +kernel
theorem dX6_put_9 : decode cX6_put 9 = .ok (.aload_n 0, 1) := by decide +kernel
theorem dX6_put_10 : decode cX6_put 10 = .ok (.getfield 20, 3) := by decide +kernel
theorem dX6_put_13 : decode cX6_put 13 = .ok (.iload_n 1, 1) := by decide +kernel
theorem dX6_put_14 : decode cX6_put 14 = .ok (.iconst 1, 1) := by decide +kernel
theorem dX6_put_15 : decode cX6_put 15 = .ok (.bastore, 1) := by decide +kernel
theorem dX6_put_16 : decode cX6_put 16 = .ok (.aload_n 0, 1) := by decide +kernel
theorem dX6_put_17 : decode cX6_put 17 = .ok (.dup, 1) := by decide +kernel
theorem dX6_put_18 : decode cX6_put 18 = .ok (.getfield 32, 3) := by decide +kernel
theorem dX6_put_21 : decode cX6_put 21 = .ok (.iload_n 2, 1) := by decide +kernel
theorem dX6_put_22 : decode cX6_put 22 = .ok (.iadd, 1) := by decide +kernel
theorem dX6_put_23 : decode cX6_put 23 = .ok (.putfield 32, 3) := by decide +kernel
theorem dX6_put_26 : decode cX6_put 26 = .ok (.aload_n 0, 1) := by decide +kernel
theorem dX6_put_27 : decode cX6_put 27 = .ok (.getfield 14, 3) := by decide +kernel
theorem dX6_put_30 : decode cX6_put 30 = .ok (.iload_n 1, 1) := by decide +kernel
theorem dX6_put_31 : decode cX6_put 31 = .ok (.aload_n 3, 1) := by decide +kernel
theorem dX6_put_32 : decode cX6_put 32 = .ok (.iconst 0, 1) := by decide +kernel
theorem dX6_put_33 : decode cX6_put 33 = .ok (.invokevirtual 35, 3) := by decide +kernel
theorem dX6_put_36 : decode cX6_put 36 = .ok (.aload_n 0, 1) := by decide +kernel
theorem dX6_put_37 : decode cX6_put 37 = .ok (.iload_n 1, 1) := by decide +kernel
theorem dX6_put_38 : decode cX6_put 38 = .ok (.invokevirtual 39, 3) := by decide +kernel
theorem dX6_put_41 : decode cX6_put 41 = .ok (.return_, 1) := by decide +kernel
theorem dX6_remove_0 : decode cX6_remove 0 = .ok (.aload_n 0, 1) := by decide +kernel
theorem dX6_remove_1 : decode cX6_remove 1 = .ok (.getfield 20, 3) := by decide +kernel
theorem dX6_remove_4 : decode cX6_remove 4 = .ok (.iload_n 1, 1) := by decide +kernel
theorem dX6_remove_5 : decode cX6_remove 5 = .ok (.baload, 1) := by decide +kernel
theorem dX6_remove_6 : decode cX6_remove 6 = .ok (.ifCond .eq 20, 3) := by decide +kernel
theorem dX6_remove_9 : decode cX6_remove 9 = .ok (.aload_n 0, 1) := by decide +kernel
theorem dX6_remove_10 : decode cX6_remove 10 = .ok (.getfield 20, 3) := by decide +kernel
theorem dX6_remove_13 : decode cX6_remove 13 = .ok (.iload_n 1, 1) := by decide +kernel
theorem dX6_remove_14 : decode cX6_remove 14 = .ok (.iconst 0, 1) := by decide +kernel
theorem dX6_remove_15 : decode cX6_remove 15 = .ok (.bastore, 1) := by decide +kernel
theorem dX6_remove_16 : decode cX6_remove 16 = .ok (.aload_n 0, 1) := by decide +kernel
theorem dX6_remove_17 : decode cX6_remove 17 = .ok (.dup, 1) := by decide +kernel
theorem dX6_remove_18 : decode cX6_remove 18 = .ok (.getfield 32, 3) := by decide +kernel
theorem dX6_remove_21 : decode cX6_remove 21 = .ok (.iload_n 2, 1) := by decide +kernel
theorem dX6_remove_22 : decode cX6_remove 22 = .ok (.isub, 1) := by decide +kernel
theorem dX6_remove_23 : decode cX6_remove 23 = .ok (.putfield 32, 3) := by decide +kernel
theorem dX6_remove_26 : decode cX6_remove 26 = .ok (.return_, 1) := by decide +kernel
theorem dX6_touch_0 : decode cX6_touch 0 = .ok (.aload_n 0, 1) := by decide +kernel
theorem dX6_touch_1 : decode cX6_touch 1 = .ok (.dup, 1) := by decide +kernel
theorem dX6_touch_2 : decode cX6_touch 2 = .ok (.getfield 28, 3) := by decide +kernel
theorem dX6_touch_5 : decode cX6_touch 5 = .ok (.iconst 1, 1) := by decide +kernel
theorem dX6_touch_6 : decode cX6_touch 6 = .ok (.iadd, 1) := by decide +kernel
theorem dX6_touch_7 : decode cX6_touch 7 = .ok (.putfield 28, 3) := by decide +kernel
theorem dX6_touch_10 : decode cX6_touch 10 = .ok (.aload_n 0, 1) := by decide +kernel
theorem dX6_touch_11 : decode cX6_touch 11 = .ok (.getfield 24, 3) := by decide +kernel
theorem dX6_touch_14 : decode cX6_touch 14 = .ok (.iload_n 1, 1) := by decide +kernel
theorem dX6_touch_15 : decode cX6_touch 15 = .ok (.aload_n 0, 1) := by decide +kernel
theorem dX6_touch_16 : decode cX6_touch 16 = .ok (.getfield 28, 3) := by decide +kernel
theorem dX6_touch_19 : decode cX6_touch 19 = .ok (.iastore, 1) := by decide +kernel
theorem dX6_touch_20 : decode cX6_touch 20 = .ok (.return_, 1) := by decide +kernel
theorem dX6_entries_0 : decode cX6_entries 0 = .ok (.iconst 0, 1) := by decide +kernel
theorem dX6_entries_1 : decode cX6_entries 1 = .ok (.istore_n 1, 1) := by decide +kernel
theorem dX6_entries_2 : decode cX6_entries 2 = .ok (.iconst 0, 1) := by decide +kernel
theorem dX6_entries_3 : decode cX6_entries 3 = .ok (.istore_n 2, 1) := by decide +kernel
theorem dX6_entries_4 : decode cX6_entries 4 = .ok (.iload_n 2, 1) := by decide +kernel
theorem dX6_entries_5 : decode cX6_entries 5 = .ok (.bipush 32, 2) := by decide +kernel
theorem dX6_entries_7 : decode cX6_entries 7 = .ok (.if_icmp .ge 26, 3) := by decide +kernel
theorem dX6_entries_10 : decode cX6_entries 10 = .ok (.iload_n 1, 1) := by decide +kernel
theorem dX6_entries_11 : decode cX6_entries 11 = .ok (.aload_n 0, 1) := by decide +kernel
theorem dX6_entries_12 : decode cX6_entries 12 = .ok (.getfield 20, 3) := by decide +kernel
theorem dX6_entries_15 : decode cX6_entries 15 = .ok (.iload_n 2, 1) := by decide +kernel
theorem dX6_entries_16 : decode cX6_entries 16 = .ok (.baload, 1) := by decide +kernel
theorem dX6_entries_17 : decode cX6_entries 17 = .ok (.ifCond .eq 7, 3) := by decide +kernel
theorem dX6_entries_20 : decode cX6_entries 20 = .ok (.iconst 1, 1) := by decide +kernel
theorem dX6_entries_21 : decode cX6_entries 21 = .ok (.goto 4, 3) := by decide +kernel
theorem dX6_entries_24 : decode cX6_entries 24 = .ok (.iconst 0, 1) := by decide +kernel
theorem dX6_entries_25 : decode cX6_entries 25 = .ok (.iadd, 1) := by decide +kernel
theorem dX6_entries_26 : decode cX6_entries 26 = .ok (.istore_n 1, 1) := by decide +kernel
theorem dX6_entries_27 : decode cX6_entries 27 = .ok (.iinc 2 1, 3) := by decide +kernel
theorem dX6_entries_30 : decode cX6_entries 30 = .ok (.goto (-26), 3) := by decide +kernel
theorem dX6_entries_33 : decode cX6_entries 33 = .ok (.iload_n 1, 1) := by decide +kernel
theorem dX6_entries_34 : decode cX6_entries 34 = .ok (.ireturn, 1) := by decide +kernel
theorem dX6_clear_0 : decode cX6_clear 0 = .ok (.aload_n 0, 1) := by decide +kernel
theorem dX6_clear_1 : decode cX6_clear 1 = .ok (.iconst 0, 1) := by decide +kernel
theorem dX6_clear_2 : decode cX6_clear 2 = .ok (.putfield 32, 3) := by decide +kernel
theorem dX6_clear_5 : decode cX6_clear 5 = .ok (.iconst 0, 1) := by decide +kernel
theorem dX6_clear_6 : decode cX6_clear 6 = .ok (.istore_n 1, 1) := by decide +kernel
theorem dX6_clear_7 : decode cX6_clear 7 = .ok (.iload_n 1, 1) := by decide +kernel
theorem dX6_clear_8 : decode cX6_clear 8 = .ok (.bipush 32, 2) := by decide +kernel
theorem dX6_clear_10 : decode cX6_clear 10 = .ok (.if_icmp .ge 16, 3) := by decide +kernel
theorem dX6_clear_13 : decode cX6_clear 13 = .ok (.aload_n 0, 1) := by decide +kernel
theorem dX6_clear_14 : decode cX6_clear 14 = .ok (.getfield 20, 3) := by decide +kernel
theorem dX6_clear_17 : decode cX6_clear 17 = .ok (.iload_n 1, 1) := by decide +kernel
theorem dX6_clear_18 : decode cX6_clear 18 = .ok (.iconst 0, 1) := by decide +kernel
theorem dX6_clear_19 : decode cX6_clear 19 = .ok (.bastore, 1) := by decide +kernel
theorem dX6_clear_20 : decode cX6_clear 20 = .ok (.iinc 1 1, 3) := by decide +kernel
theorem dX6_clear_23 : decode cX6_clear 23 = .ok (.goto (-16), 3) := by decide +kernel
theorem dX6_clear_26 : decode cX6_clear 26 = .ok (.return_, 1) := by decide +kernel
theorem dX7_init_0 : decode cX7_init 0 = .ok (.aload_n 0, 1) := by decide +kernel
theorem dX7_init_1 : decode cX7_init 1 = .ok (.invokespecial 3, 3) := by decide +kernel
theorem dX7_init_4 : decode cX7_init 4 = .ok (.aload_n 0, 1) := by decide +kernel
theorem dX7_init_5 : decode cX7_init 5 = .ok (.bipush 32, 2) := by decide +kernel
theorem dX7_init_7 : decode cX7_init 7 = .ok (.newarray .int, 2) := by decide +kernel
theorem dX7_init_9 : decode cX7_init 9 = .ok (.putfield 9, 3) := by decide +kernel
theorem dX7_init_12 : decode cX7_init 12 = .ok (.aload_n 0, 1) := by decide +kernel
theorem dX7_init_13 : decode cX7_init 13 = .ok (.bipush 32, 2) := by decide +kernel
theorem dX7_init_15 : decode cX7_init 15 = .ok (.newarray .int, 2) := by decide +kernel
theorem dX7_init_17 : decode cX7_init 17 = .ok (.putfield 15, 3) := by decide +kernel
theorem dX7_init_20 : decode cX7_init 20 = .ok (.aload_n 0, 1) := by decide +kernel
theorem dX7_init_21 : decode cX7_init 21 = .ok (.sipush 400, 3) := by decide +kernel
theorem dX7_init_24 : decode cX7_init 24 = .ok (.newarray .int, 2) := by decide +kernel
theorem dX7_init_26 : decode cX7_init 26 = .ok (.putfield 18, 3) := by decide +kernel
theorem dX7_init_29 : decode cX7_init 29 = .ok (.aload_n 0, 1) := by decide +kernel
theorem dX7_init_30 : decode cX7_init 30 = .ok (.sipush 400, 3) := by decide +kernel
theorem dX7_init_33 : decode cX7_init 33 = .ok (.newarray .int, 2) := by decide +kernel
theorem dX7_init_35 : decode cX7_init 35 = .ok (.putfield 21, 3) := by decide +kernel
theorem dX7_init_38 : decode cX7_init 38 = .ok (.aload_n 0, 1) := by decide +kernel
theorem dX7_init_39 : decode cX7_init 39 = .ok (.sipush 400, 3) := by decide +kernel
theorem dX7_init_42 : decode cX7_init 42 = .ok (.newarray .int, 2) := by decide +kernel
theorem dX7_init_44 : decode cX7_init 44 = .ok (.putfield 24, 3) := by decide +kernel
theorem dX7_init_47 : decode cX7_init 47 = .ok (.aload_n 0, 1) := by decide +kernel
theorem dX7_init_48 : decode cX7_init 48 = .ok (.iconst 0, 1) := by decide +kernel
theorem dX7_init_49 : decode cX7_init 49 = .ok (.putfield 27, 3) := by decide +kernel
theorem dX7_init_52 : decode cX7_init 52 = .ok (.return_, 1) := by decide +kernel
theorem dX7_send_0 : decode cX7_send 0 = .ok (.aload_n 0, 1) := by decide +kernel
theorem dX7_send_1 : decode cX7_send 1 = .ok (.getfield 27, 3) := by decide +kernel
theorem dX7_send_4 : decode cX7_send 4 = .ok (.sipush 400, 3) := by decide +kernel
theorem dX7_send_7 : decode cX7_send 7 = .ok (.if_icmp .ge 43, 3) := by decide +kernel
theorem dX7_send_10 : decode cX7_send 10 = .ok (.aload_n 0, 1) := by decide +kernel
theorem dX7_send_11 : decode cX7_send 11 = .ok (.getfield 18, 3) := by decide +kernel
theorem dX7_send_14 : decode cX7_send 14 = .ok (.aload_n 0, 1) := by decide +kernel
theorem dX7_send_15 : decode cX7_send 15 = .ok (.getfield 27, 3) := by decide +kernel
theorem dX7_send_18 : decode cX7_send 18 = .ok (.iload_n 1, 1) := by decide +kernel
theorem dX7_send_19 : decode cX7_send 19 = .ok (.iastore, 1) := by decide +kernel
theorem dX7_send_20 : decode cX7_send 20 = .ok (.aload_n 0, 1) := by decide +kernel
theorem dX7_send_21 : decode cX7_send 21 = .ok (.getfield 21, 3) := by decide +kernel
theorem dX7_send_24 : decode cX7_send 24 = .ok (.aload_n 0, 1) := by decide +kernel
theorem dX7_send_25 : decode cX7_send 25 = .ok (.getfield 27, 3) := by decide +kernel
theorem dX7_send_28 : decode cX7_send 28 = .ok (.iload_n 2, 1) := by decide +kernel
theorem dX7_send_29 : decode cX7_send 29 = .ok (.iastore, 1) := by decide +kernel
theorem dX7_send_30 : decode cX7_send 30 = .ok (.aload_n 0, 1) := by decide +kernel
theorem dX7_send_31 : decode cX7_send 31 = .ok (.getfield 24, 3) := by decide +kernel
theorem dX7_send_34 : decode cX7_send 34 = .ok (.aload_n 0, 1) := by decide +kernel
theorem dX7_send_35 : decode cX7_send 35 = .ok (.getfield 27, 3) := by decide +kernel
theorem dX7_send_38 : decode cX7_send 38 = .ok (.iload_n 3, 1) := by decide +kernel
theorem dX7_send_39 : decode cX7_send 39 = .ok (.iastore, 1) := by decide +kernel
theorem dX7_send_40 : decode cX7_send 40 = .ok (.aload_n 0, 1) := by decide +kernel
theorem dX7_send_41 : decode cX7_send 41 = .ok (.dup, 1) := by decide +kernel
theorem dX7_send_42 : decode cX7_send 42 = .ok (.getfield 27, 3) := by decide +kernel
theorem dX7_send_45 : decode cX7_send 45 = .ok (.iconst 1, 1) := by decide +kernel
theorem dX7_send_46 : decode cX7_send 46 = .ok (.iadd, 1) := by decide +kernel
theorem dX7_send_47 : decode cX7_send 47 = .ok (.putfield 27, 3) := by decide +kernel
theorem dX7_send_50 : decode cX7_send 50 = .ok (.return_, 1) := by decide +kernel
theorem dX7_receive_0 : decode cX7_receive 0 = .ok (.aload_n 0, 1) := by decide +kernel
theorem dX7_receive_1 : decode cX7_receive 1 = .ok (.getfield 18, 3) := by decide +kernel
theorem dX7_receive_4 : decode cX7_receive 4 = .ok (.iload_n 1, 1) := by decide +kernel
theorem dX7_receive_5 : decode cX7_receive 5 = .ok (.iaload, 1) := by decide +kernel
theorem dX7_receive_6 : decode cX7_receive 6 = .ok (.istore_n 2, 1) := by decide +kernel
theorem dX7_receive_7 : decode cX7_receive 7 = .ok (.aload_n 0, 1) := by decide +kernel
theorem dX7_receive_8 : decode cX7_receive 8 = .ok (.getfield 21, 3) := by decide +kernel
theorem dX7_receive_11 : decode cX7_receive 11 = .ok (.iload_n 1, 1) := by decide +kernel
theorem dX7_receive_12 : decode cX7_receive 12 = .ok (.iaload, 1) := by decide +kernel
theorem dX7_receive_13 : decode cX7_receive 13 = .ok (.aload_n 0, 1) := by decide +kernel
theorem dX7_receive_14 : decode cX7_receive 14 = .ok (.getfield 15, 3) := by decide +kernel
theorem dX7_receive_17 : decode cX7_receive 17 = .ok (.iload_n 2, 1) := by decide +kernel
theorem dX7_receive_18 : decode cX7_receive 18 = .ok (.iaload, 1) := by decide +kernel
theorem dX7_receive_19 : decode cX7_receive 19 = .ok (.if_icmp .le 7, 3) := by decide +kernel
theorem dX7_receive_22 : decode cX7_receive 22 = .ok (.iconst 1, 1) := by decide +kernel
theorem dX7_receive_23 : decode cX7_receive 23 = .ok (.goto 4, 3) := by decide +kernel
theorem dX7_receive_26 : decode cX7_receive 26 = .ok (.iconst 0, 1) := by decide +kernel
theorem dX7_receive_27 : decode cX7_receive 27 = .ok (.istore_n 3, 1) := by decide +kernel
theorem dX7_receive_28 : decode cX7_receive 28 = .ok (.iload_n 3, 1) := by decide +kernel
theorem dX7_receive_29 : decode cX7_receive 29 = .ok (.ifCond .eq 27, 3) := by decide +kernel
theorem dX7_receive_32 : decode cX7_receive 32 = .ok (.aload_n 0, 1) := by decide +kernel
theorem dX7_receive_33 : decode cX7_receive 33 = .ok (.getfield 15, 3) := by decide +kernel
theorem dX7_receive_36 : decode cX7_receive 36 = .ok (.iload_n 2, 1) := by decide +kernel
theorem dX7_receive_37 : decode cX7_receive 37 = .ok (.aload_n 0, 1) := by decide +kernel
theorem dX7_receive_38 : decode cX7_receive 38 = .ok (.getfield 21, 3) := by decide +kernel
theorem dX7_receive_41 : decode cX7_receive 41 = .ok (.iload_n 1, 1) := by decide +kernel
theorem dX7_receive_42 : decode cX7_receive 42 = .ok (.iaload, 1) := by decide +kernel
theorem dX7_receive_43 : decode cX7_receive 43 = .ok (.iastore, 1) := by decide +kernel
theorem dX7_receive_44 : decode cX7_receive 44 = .ok (.aload_n 0, 1) := by decide +kernel
theorem dX7_receive_45 : decode cX7_receive 45 = .ok (.getfield 9, 3) := by decide +kernel
theorem dX7_receive_48 : decode cX7_receive 48 = .ok (.iload_n 2, 1) := by decide +kernel
theorem dX7_receive_49 : decode cX7_receive 49 = .ok (.aload_n 0, 1) := by decide +kernel
theorem dX7_receive_50 : decode cX7_receive 50 = .ok (.getfield 24, 3) := by decide +kernel
theorem dX7_receive_53 : decode cX7_receive 53 = .ok (.iload_n 1, 1) := by decide +kernel
theorem dX7_receive_54 : decode cX7_receive 54 = .ok (.iaload, 1) := by decide +kernel
theorem dX7_receive_55 : decode cX7_receive 55 = .ok (.iastore, 1) := by decide +kernel
theorem dX7_receive_56 : decode cX7_receive 56 = .ok (.aload_n 0, 1) := by decide +kernel
theorem dX7_receive_57 : decode cX7_receive 57 = .ok (.dup, 1) := by decide +kernel
theorem dX7_receive_58 : decode cX7_receive 58 = .ok (.getfield 27, 3) := by decide +kernel
theorem dX7_receive_61 : decode cX7_receive 61 = .ok (.iconst 1, 1) := by decide +kernel
theorem dX7_receive_62 : decode cX7_receive 62 = .ok (.isub, 1) := by decide +kernel
theorem dX7_receive_63 : decode cX7_receive 63 = .ok (.putfield 27, 3) := by decide +kernel
theorem dX7_receive_66 : decode cX7_receive 66 = .ok (.iload_n 1, 1) := by decide +kernel
theorem dX7_receive_67 : decode cX7_receive 67 = .ok (.istore 4, 2) := by decide +kernel
theorem dX7_receive_69 : decode cX7_receive 69 = .ok (.iload 4, 2) := by decide +kernel
theorem dX7_receive_71 : decode cX7_receive 71 = .ok (.aload_n 0, 1) := by decide +kernel
theorem dX7_receive_72 : decode cX7_receive 72 = .ok (.getfield 27, 3) := by decide +kernel
theorem dX7_receive_75 : decode cX7_receive 75 = .ok (.if_icmp .ge 57, 3) := by decide +kernel
theorem dX7_receive_78 : decode cX7_receive 78 = .ok (.aload_n 0, 1) := by decide +kernel
theorem dX7_receive_79 : decode cX7_receive 79 = .ok (.getfield 18, 3) := by decide +kernel
theorem dX7_receive_82 : decode cX7_receive 82 = .ok (.iload 4, 2) := by decide +kernel
theorem dX7_receive_84 : decode cX7_receive 84 = .ok (.aload_n 0, 1) := by decide +kernel
theorem dX7_receive_85 : decode cX7_receive 85 = .ok (.getfield 18, 3) := by decide +kernel
theorem dX7_receive_88 : decode cX7_receive 88 = .ok (.iload 4, 2) := by decide +kernel
theorem dX7_receive_90 : decode cX7_receive 90 = .ok (.iconst 1, 1) := by decide +kernel
theorem dX7_receive_91 : decode cX7_receive 91 = .ok (.iadd, 1) := by decide +kernel
theorem dX7_receive_92 : decode cX7_receive 92 = .ok (.iaload, 1) := by decide +kernel
theorem dX7_receive_93 : decode cX7_receive 93 = .ok (.iastore, 1) := by decide +kernel
theorem dX7_receive_94 : decode cX7_receive 94 = .ok (.aload_n 0, 1) := by decide +kernel
theorem dX7_receive_95 : decode cX7_receive 95 = .ok (.getfield 21, 3) := by decide +kernel
theorem dX7_receive_98 : decode cX7_receive 98 = .ok (.iload 4, 2) := by decide +kernel
theorem dX7_receive_100 : decode cX7_receive 100 = .ok (.aload_n 0, 1) := by decide +kernel
theorem dX7_receive_101 : decode cX7_receive 101 = .ok (.getfield 21, 3) := by decide +kernel
theorem dX7_receive_104 : decode cX7_receive 104 = .ok (.iload 4, 2) := by decide +kernel
theorem dX7_receive_106 : decode cX7_receive 106 = .ok (.iconst 1, 1) := by decide +kernel
theorem dX7_receive_107 : decode cX7_receive 107 = .ok (.iadd, 1) := by decide +kernel
theorem dX7_receive_108 : decode cX7_receive 108 = .ok (.iaload, 1) := by decide +kernel
theorem dX7_receive_109 : decode cX7_receive 109 = .ok (.iastore, 1) := by decide +kernel
theorem dX7_receive_110 : decode cX7_receive 110 = .ok (.aload_n 0, 1) := by decide +kernel
theorem dX7_receive_111 : decode cX7_receive 111 = .ok (.getfield 24, 3) := by decide +kernel
theorem dX7_receive_114 : decode cX7_receive 114 = .ok (.iload 4, 2) := by decide +kernel
theorem dX7_receive_116 : decode cX7_receive 116 = .ok (.aload_n 0, 1) := by decide +kernel
theorem dX7_receive_117 : decode cX7_receive 117 = .ok (.getfield 24, 3) := by decide +kernel
theorem dX7_receive_120 : decode cX7_receive 120 = .ok (.iload 4, 2) := by decide +kernel
theorem dX7_receive_122 : decode cX7_receive 122 = .ok (.iconst 1, 1) := by decide +kernel
theorem dX7_receive_123 : decode cX7_receive 123 = .ok (.iadd, 1) := by decide +kernel
theorem dX7_receive_124 : decode cX7_receive 124 = .ok (.iaload, 1) := by decide +kernel
theorem dX7_receive_125 : decode cX7_receive 125 = .ok (.iastore, 1) := by decide +kernel
theorem dX7_receive_126 : decode cX7_receive 126 = .ok (.iinc 4 1, 3) := by decide +kernel
theorem dX7_receive_129 : decode cX7_receive 129 = .ok (.goto (-60), 3) := by decide +kernel
theorem dX7_receive_132 : decode cX7_receive 132 = .ok (.iload_n 3, 1) := by decide +kernel
theorem dX7_receive_133 : decode cX7_receive 133 = .ok (.ireturn, 1) := by decide +kernel
theorem dX8_init_0 : decode cX8_init 0 = .ok (.aload_n 0, 1) := by decide +kernel
theorem dX8_init_1 : decode cX8_init 1 = .ok (.invokespecial 3, 3) := by decide +kernel
theorem dX8_init_4 : decode cX8_init 4 = .ok (.aload_n 0, 1) := by decide +kernel
