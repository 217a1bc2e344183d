theorem dX11_nextToComeAgain_0 : decode cX11_nextToComeAgain 0 = .ok (.iconst (-1), 1) := by decide +kernel
theorem dX11_nextToComeAgain_1 : decode cX11_nextToComeAgain 1 = .ok (.istore_n 1, 1) := by decide +kernel
theorem dX11_nextToComeAgain_2 : decode cX11_nextToComeAgain 2 = .ok (.iconst 0, 1) := by decide +kernel
theorem dX11_nextToComeAgain_3 : decode cX11_nextToComeAgain 3 = .ok (.istore_n 2, 1) := by decide +kernel
theorem dX11_nextToComeAgain_4 : decode cX11_nextToComeAgain 4 = .ok (.iload_n 2, 1) := by decide +kernel
theorem dX11_nextToComeAgain_5 : decode cX11_nextToComeAgain 5 = .ok (.bipush 32, 2) := by decide +kernel
theorem dX11_nextToComeAgain_7 : decode cX11_nextToComeAgain 7 = .ok (.if_icmp .ge 60, 3) := by decide +kernel
theorem dX11_nextToComeAgain_10 : decode cX11_nextToComeAgain 10 = .ok (.aload_n 0, 1) := by decide +kernel
theorem dX11_nextToComeAgain_11 : decode cX11_nextToComeAgain 11 = .ok (.getfield 47, 3) := by decide +kernel
theorem dX11_nextToComeAgain_14 : decode cX11_nextToComeAgain 14 = .ok (.getfield 295, 3) := by decide +kernel
theorem dX11_nextToComeAgain_17 : decode cX11_nextToComeAgain 17 = .ok (.iload_n 2, 1) := by decide +kernel
theorem dX11_nextToComeAgain_18 : decode cX11_nextToComeAgain 18 = .ok (.iaload, 1) := by decide +kernel
theorem dX11_nextToComeAgain_19 : decode cX11_nextToComeAgain 19 = .ok (.iconst (-1), 1) := by decide +kernel
theorem dX11_nextToComeAgain_20 : decode cX11_nextToComeAgain 20 = .ok (.if_icmp .eq 19, 3) := by decide +kernel
theorem dX11_nextToComeAgain_23 : decode cX11_nextToComeAgain 23 = .ok (.aload_n 0, 1) := by decide +kernel
theorem dX11_nextToComeAgain_24 : decode cX11_nextToComeAgain 24 = .ok (.getfield 75, 3) := by decide +kernel
theorem dX11_nextToComeAgain_27 : decode cX11_nextToComeAgain 27 = .ok (.getfield 405, 3) := by decide +kernel
theorem dX11_nextToComeAgain_30 : decode cX11_nextToComeAgain 30 = .ok (.iload_n 2, 1) := by decide +kernel
theorem dX11_nextToComeAgain_31 : decode cX11_nextToComeAgain 31 = .ok (.baload, 1) := by decide +kernel
theorem dX11_nextToComeAgain_32 : decode cX11_nextToComeAgain 32 = .ok (.ifCond .ne 7, 3) := by decide +kernel
theorem dX11_nextToComeAgain_35 : decode cX11_nextToComeAgain 35 = .ok (.iconst 1, 1) := by decide +kernel
theorem dX11_nextToComeAgain_36 : decode cX11_nextToComeAgain 36 = .ok (.goto 4, 3) := by decide +kernel
theorem dX11_nextToComeAgain_39 : decode cX11_nextToComeAgain 39 = .ok (.iconst 0, 1) := by decide +kernel
theorem dX11_nextToComeAgain_40 : decode cX11_nextToComeAgain 40 = .ok (.istore_n 3, 1) := by decide +kernel
theorem dX11_nextToComeAgain_41 : decode cX11_nextToComeAgain 41 = .ok (.iload_n 3, 1) := by decide +kernel
theorem dX11_nextToComeAgain_42 : decode cX11_nextToComeAgain 42 = .ok (.ifCond .eq 19, 3) := by decide +kernel
theorem dX11_nextToComeAgain_45 : decode cX11_nextToComeAgain 45 = .ok (.iload_n 1, 1) := by decide +kernel
theorem dX11_nextToComeAgain_46 : decode cX11_nextToComeAgain 46 = .ok (.iconst (-1), 1) := by decide +kernel
theorem dX11_nextToComeAgain_47 : decode cX11_nextToComeAgain 47 = .ok (.if_icmp .eq 12, 3) := by decide +kernel
theorem dX11_nextToComeAgain_50 : decode cX11_nextToComeAgain 50 = .ok (.aload_n 0, 1) := by decide +kernel
theorem dX11_nextToComeAgain_51 : decode cX11_nextToComeAgain 51 = .ok (.iload_n 2, 1) := by decide +kernel
theorem dX11_nextToComeAgain_52 : decode cX11_nextToComeAgain 52 = .ok (.iload_n 1, 1) := by decide +kernel
theorem dX11_nextToComeAgain_53 : decode cX11_nextToComeAgain 53 = .ok (.invokevirtual 434, 3) := by decide +kernel
theorem dX11_nextToComeAgain_56 : decode cX11_nextToComeAgain 56 = .ok (.ifCond .eq 5, 3) := by decide +kernel
theorem dX11_nextToComeAgain_59 : decode cX11_nextToComeAgain 59 = .ok (.iload_n 2, 1) := by decide +kernel
theorem dX11_nextToComeAgain_60 : decode cX11_nextToComeAgain 60 = .ok (.istore_n 1, 1) := by decide +kernel
theorem dX11_nextToComeAgain_61 : decode cX11_nextToComeAgain 61 = .ok (.iinc 2 1, 3) := by decide +kernel
theorem dX11_nextToComeAgain_64 : decode cX11_nextToComeAgain 64 = .ok (.goto (-60), 3) := by decide +kernel
theorem dX11_nextToComeAgain_67 : decode cX11_nextToComeAgain 67 = .ok (.iload_n 1, 1) := by decide +kernel
theorem dX11_nextToComeAgain_68 : decode cX11_nextToComeAgain 68 = .ok (.ireturn, 1) := by decide +kernel
theorem dX11_comesAgainBefore_0 : decode cX11_comesAgainBefore 0 = .ok (.aload_n 0, 1) := by decide +kernel
theorem dX11_comesAgainBefore_1 : decode cX11_comesAgainBefore 1 = .ok (.getfield 12, 3) := by decide +kernel
theorem dX11_comesAgainBefore_4 : decode cX11_comesAgainBefore 4 = .ok (.getfield 128, 3) := by decide +kernel
theorem dX11_comesAgainBefore_7 : decode cX11_comesAgainBefore 7 = .ok (.iload_n 1, 1) := by decide +kernel
theorem dX11_comesAgainBefore_8 : decode cX11_comesAgainBefore 8 = .ok (.iaload, 1) := by decide +kernel
theorem dX11_comesAgainBefore_9 : decode cX11_comesAgainBefore 9 = .ok (.aload_n 0, 1) := by decide +kernel
theorem dX11_comesAgainBefore_10 : decode cX11_comesAgainBefore 10 = .ok (.getfield 12, 3) := by decide +kernel
theorem dX11_comesAgainBefore_13 : decode cX11_comesAgainBefore 13 = .ok (.getfield 128, 3) := by decide +kernel
theorem dX11_comesAgainBefore_16 : decode cX11_comesAgainBefore 16 = .ok (.iload_n 2, 1) := by decide +kernel
theorem dX11_comesAgainBefore_17 : decode cX11_comesAgainBefore 17 = .ok (.iaload, 1) := by decide +kernel
theorem dX11_comesAgainBefore_18 : decode cX11_comesAgainBefore 18 = .ok (.isub, 1) := by decide +kernel
theorem dX11_comesAgainBefore_19 : decode cX11_comesAgainBefore 19 = .ok (.istore_n 3, 1) := by decide +kernel
theorem dX11_comesAgainBefore_20 : decode cX11_comesAgainBefore 20 = .ok (.iload_n 3, 1) := by decide +kernel
theorem dX11_comesAgainBefore_21 : decode cX11_comesAgainBefore 21 = .ok (.ifCond .gt 50, 3) := by decide +kernel
theorem dX11_comesAgainBefore_24 : decode cX11_comesAgainBefore 24 = .ok (.iload_n 3, 1) := by decide +kernel
theorem dX11_comesAgainBefore_25 : decode cX11_comesAgainBefore 25 = .ok (.ifCond .ne 50, 3) := by decide +kernel
theorem dX11_comesAgainBefore_28 : decode cX11_comesAgainBefore 28 = .ok (.aload_n 0, 1) := by decide +kernel
theorem dX11_comesAgainBefore_29 : decode cX11_comesAgainBefore 29 = .ok (.getfield 47, 3) := by decide +kernel
theorem dX11_comesAgainBefore_32 : decode cX11_comesAgainBefore 32 = .ok (.getfield 308, 3) := by decide +kernel
theorem dX11_comesAgainBefore_35 : decode cX11_comesAgainBefore 35 = .ok (.getfield 375, 3) := by decide +kernel
theorem dX11_comesAgainBefore_38 : decode cX11_comesAgainBefore 38 = .ok (.aload_n 0, 1) := by decide +kernel
theorem dX11_comesAgainBefore_39 : decode cX11_comesAgainBefore 39 = .ok (.getfield 47, 3) := by decide +kernel
theorem dX11_comesAgainBefore_42 : decode cX11_comesAgainBefore 42 = .ok (.getfield 295, 3) := by decide +kernel
theorem dX11_comesAgainBefore_45 : decode cX11_comesAgainBefore 45 = .ok (.iload_n 1, 1) := by decide +kernel
theorem dX11_comesAgainBefore_46 : decode cX11_comesAgainBefore 46 = .ok (.iaload, 1) := by decide +kernel
theorem dX11_comesAgainBefore_47 : decode cX11_comesAgainBefore 47 = .ok (.iaload, 1) := by decide +kernel
theorem dX11_comesAgainBefore_48 : decode cX11_comesAgainBefore 48 = .ok (.aload_n 0, 1) := by decide +kernel
theorem dX11_comesAgainBefore_49 : decode cX11_comesAgainBefore 49 = .ok (.getfield 47, 3) := by decide +kernel
theorem dX11_comesAgainBefore_52 : decode cX11_comesAgainBefore 52 = .ok (.getfield 308, 3) := by decide +kernel
theorem dX11_comesAgainBefore_55 : decode cX11_comesAgainBefore 55 = .ok (.getfield 375, 3) := by decide +kernel
theorem dX11_comesAgainBefore_58 : decode cX11_comesAgainBefore 58 = .ok (.aload_n 0, 1) := by decide +kernel
theorem dX11_comesAgainBefore_59 : decode cX11_comesAgainBefore 59 = .ok (.getfield 47, 3) := by decide +kernel
theorem dX11_comesAgainBefore_62 : decode cX11_comesAgainBefore 62 = .ok (.getfield 295, 3) := by decide +kernel
theorem dX11_comesAgainBefore_65 : decode cX11_comesAgainBefore 65 = .ok (.iload_n 2, 1) := by decide +kernel
theorem dX11_comesAgainBefore_66 : decode cX11_comesAgainBefore 66 = .ok (.iaload, 1) := by decide +kernel
theorem dX11_comesAgainBefore_67 : decode cX11_comesAgainBefore 67 = .ok (.iaload, 1) := by decide +kernel
theorem dX11_comesAgainBefore_68 : decode cX11_comesAgainBefore 68 = .ok (.if_icmp .le 7, 3) := by decide +kernel
theorem dX11_comesAgainBefore_71 : decode cX11_comesAgainBefore 71 = .ok (.iconst 1, 1) := by decide +kernel
theorem dX11_comesAgainBefore_72 : decode cX11_comesAgainBefore 72 = .ok (.goto 4, 3) := by decide +kernel
theorem dX11_comesAgainBefore_75 : decode cX11_comesAgainBefore 75 = .ok (.iconst 0, 1) := by decide +kernel
theorem dX11_comesAgainBefore_76 : decode cX11_comesAgainBefore 76 = .ok (.ireturn, 1) := by decide +kernel
set_option maxRecDepth 20000 in
theorem ggX11_writeStore_X10_put : GoodIn wsX11_writeStore wsX10_put := goodIn_ca (goodIn_r _ [8, 9, 10, 11, 12, 13, 14, 37, 38, 39, 40, 41, 42] (by decide +kernel) (by decide +kernel)) (goodIn_sub (fun _ h => List.mem_cons_of_mem _ (List.mem_append_right _ h)) (by decide +kernel))
set_option maxRecDepth 20000 in
theorem gX11_writeStore_X10_put : GoodIn wsX11_writeStore (wsV RX11 437 RX10 yX10_put wsX10_put) := goodIn_app (goodIn_of _ (by decide +kernel)) ggX11_writeStore_X10_put
set_option maxRecDepth 20000 in
theorem ggX11_writeStore_X7_send : GoodIn wsX11_writeStore wsX7_send := goodIn_ca (goodIn_r _ [19, 20, 21, 22, 23, 43, 44, 45, 46, 47, 48] (by decide +kernel) (by decide +kernel)) (goodIn_sub (fun _ h => List.mem_cons_of_mem _ (List.mem_append_right _ h)) (by decide +kernel))
set_option maxRecDepth 20000 in
theorem gX11_writeStore_X7_send : GoodIn wsX11_writeStore (wsV RX11 439 RX7 yX7_send wsX7_send) := goodIn_app (goodIn_of _ (by decide +kernel)) ggX11_writeStore_X7_send
theorem dX11_writeStore_0 : decode cX11_writeStore 0 = .ok (.aload_n 0, 1) := by decide +kernel
theorem dX11_writeStore_1 : decode cX11_writeStore 1 = .ok (.getfield 19, 3) := by decide +kernel
theorem dX11_writeStore_4 : decode cX11_writeStore 4 = .ok (.iload_n 1, 1) := by decide +kernel
theorem dX11_writeStore_5 : decode cX11_writeStore 5 = .ok (.iload_n 2, 1) := by decide +kernel
theorem dX11_writeStore_6 : decode cX11_writeStore 6 = .ok (.aload_n 0, 1) := by decide +kernel
theorem dX11_writeStore_7 : decode cX11_writeStore 7 = .ok (.getfield 88, 3) := by decide +kernel
theorem dX11_writeStore_10 : decode cX11_writeStore 10 = .ok (.invokevirtual 437, 3) := by decide +kernel
theorem dX11_writeStore_13 : decode cX11_writeStore 13 = .ok (.istore_n 3, 1) := by decide +kernel
theorem dX11_writeStore_14 : decode cX11_writeStore 14 = .ok (.aload_n 0, 1) := by decide +kernel
theorem dX11_writeStore_15 : decode cX11_writeStore 15 = .ok (.getfield 26, 3) := by decide +kernel
theorem dX11_writeStore_18 : decode cX11_writeStore 18 = .ok (.iload_n 1, 1) := by decide +kernel
theorem dX11_writeStore_19 : decode cX11_writeStore 19 = .ok (.iload_n 3, 1) := by decide +kernel
theorem dX11_writeStore_20 : decode cX11_writeStore 20 = .ok (.iload_n 2, 1) := by decide +kernel
theorem dX11_writeStore_21 : decode cX11_writeStore 21 = .ok (.invokevirtual 439, 3) := by decide +kernel
theorem dX11_writeStore_24 : decode cX11_writeStore 24 = .ok (.iload_n 3, 1) := by decide +kernel
theorem dX11_writeStore_25 : decode cX11_writeStore 25 = .ok (.ireturn, 1) := by decide +kernel
set_option maxRecDepth 20000 in
theorem ggX11_writeThrough_X11_writeStore : GoodIn wsX11_writeThrough wsX11_writeStore := goodIn_ca (goodIn_r _ [13, 14, 5, 15, 16, 17, 18, 19, 20, 21, 22, 23, 24, 25, 26, 27, 28, 29, 30, 31, 32, 33, 34, 35, 91, 92, 93, 94, 95, 96, 97, 98, 99, 100, 101, 102, 103, 109, 110, 111, 112, 113, 114, 115, 116, 117, 118, 119, 120] (by decide +kernel) (by decide +kernel)) (goodIn_sub (fun _ h => List.mem_cons_of_mem _ (List.mem_append_right _ h)) (by decide +kernel))
set_option maxRecDepth 20000 in
theorem gX11_writeThrough_X11_writeStore : GoodIn wsX11_writeThrough (wsV RX11 234 RX11 yX11_writeStore wsX11_writeStore) := goodIn_app (goodIn_of _ (by decide +kernel)) ggX11_writeThrough_X11_writeStore
set_option maxRecDepth 20000 in
theorem ggX11_writeThrough_X8_remove : GoodIn wsX11_writeThrough wsX8_remove := goodIn_ca (goodIn_r _ [40, 41, 42, 121, 122, 123, 124] (by decide +kernel) (by decide +kernel)) (goodIn_sub (fun _ h => List.mem_cons_of_mem _ (List.mem_append_right _ h)) (by decide +kernel))
set_option maxRecDepth 20000 in
theorem gX11_writeThrough_X8_remove : GoodIn wsX11_writeThrough (wsV RX11 442 RX8 yX8_remove wsX8_remove) := goodIn_app (goodIn_of _ (by decide +kernel)) ggX11_writeThrough_X8_remove
set_option maxRecDepth 20000 in
theorem ggX11_writeThrough_X4_numberFor : GoodIn wsX11_writeThrough wsX4_numberFor := goodIn_ca (goodIn_r _ [47, 48, 49, 125, 126, 127, 128] (by decide +kernel) (by decide +kernel)) (goodIn_sub (fun _ h => List.mem_cons_of_mem _ (List.mem_append_right _ h)) (by decide +kernel))
set_option maxRecDepth 20000 in
theorem gX11_writeThrough_X4_numberFor : GoodIn wsX11_writeThrough (wsV RX11 190 RX4 yX4_numberFor wsX4_numberFor) := goodIn_app (goodIn_of _ (by decide +kernel)) ggX11_writeThrough_X4_numberFor
set_option maxRecDepth 20000 in
theorem ggX11_writeThrough_X2_put : GoodIn wsX11_writeThrough wsX2_put := goodIn_ca (goodIn_r _ [54, 55, 56, 57, 58, 129, 130, 131, 132] (by decide +kernel) (by decide +kernel)) (goodIn_sub (fun _ h => List.mem_cons_of_mem _ (List.mem_append_right _ h)) (by decide +kernel))
set_option maxRecDepth 20000 in
theorem gX11_writeThrough_X2_put : GoodIn wsX11_writeThrough (wsV RX11 194 RX2 yX2_put wsX2_put) := goodIn_app (goodIn_of _ (by decide +kernel)) ggX11_writeThrough_X2_put
set_option maxRecDepth 20000 in
theorem ggX11_writeThrough_X6_touch : GoodIn wsX11_writeThrough wsX6_touch := goodIn_ca (goodIn_r _ [63, 64, 65, 104, 105, 106, 107, 108] (by decide +kernel) (by decide +kernel)) (goodIn_sub (fun _ h => List.mem_cons_of_mem _ (List.mem_append_right _ h)) (by decide +kernel))
set_option maxRecDepth 20000 in
theorem gX11_writeThrough_X6_touch : GoodIn wsX11_writeThrough (wsV RX11 386 RX6 yX6_touch wsX6_touch) := goodIn_app (goodIn_of _ (by decide +kernel)) ggX11_writeThrough_X6_touch
set_option maxRecDepth 20000 in
theorem ggX11_writeThrough_X3_takeOut : GoodIn wsX11_writeThrough wsX3_takeOut := goodIn_ca (goodIn_r _ [70, 71, 72, 73, 74, 75, 69, 76, 77, 78, 79, 80, 81, 82, 133, 134, 135, 136, 137] (by decide +kernel) (by decide +kernel)) (goodIn_sub (fun _ h => List.mem_cons_of_mem _ (List.mem_append_right _ h)) (by decide +kernel))
set_option maxRecDepth 20000 in
theorem gX11_writeThrough_X3_takeOut : GoodIn wsX11_writeThrough (wsV RX11 247 RX3 yX3_takeOut wsX3_takeOut) := goodIn_app (goodIn_of _ (by decide +kernel)) ggX11_writeThrough_X3_takeOut
set_option maxRecDepth 20000 in
theorem ggX11_writeThrough_X5_voidFor : GoodIn wsX11_writeThrough wsX5_voidFor := goodIn_ca (goodIn_r _ [87, 88, 89, 90, 138, 139, 140, 141, 142, 143, 144] (by decide +kernel) (by decide +kernel)) (goodIn_sub (fun _ h => List.mem_cons_of_mem _ (List.mem_append_right _ h)) (by decide +kernel))
set_option maxRecDepth 20000 in
theorem gX11_writeThrough_X5_voidFor : GoodIn wsX11_writeThrough (wsV RX11 250 RX5 yX5_voidFor wsX5_voidFor) := goodIn_app (goodIn_of _ (by decide +kernel)) ggX11_writeThrough_X5_voidFor
theorem dX11_writeThrough_0 : decode cX11_writeThrough 0 = .ok (.aload_n 0, 1) := by decide +kernel
theorem dX11_writeThrough_1 : decode cX11_writeThrough 1 = .ok (.iload_n 1, 1) := by decide +kernel
theorem dX11_writeThrough_2 : decode cX11_writeThrough 2 = .ok (.iload_n 2, 1) := by decide +kernel
theorem dX11_writeThrough_3 : decode cX11_writeThrough 3 = .ok (.invokevirtual 234, 3) := by decide +kernel
theorem dX11_writeThrough_6 : decode cX11_writeThrough 6 = .ok (.istore_n 3, 1) := by decide +kernel
theorem dX11_writeThrough_7 : decode cX11_writeThrough 7 = .ok (.aload_n 0, 1) := by decide +kernel
theorem dX11_writeThrough_8 : decode cX11_writeThrough 8 = .ok (.getfield 54, 3) := by decide +kernel
theorem dX11_writeThrough_11 : decode cX11_writeThrough 11 = .ok (.iload_n 1, 1) := by decide +kernel
theorem dX11_writeThrough_12 : decode cX11_writeThrough 12 = .ok (.invokevirtual 442, 3) := by decide +kernel
theorem dX11_writeThrough_15 : decode cX11_writeThrough 15 = .ok (.aload_n 0, 1) := by decide +kernel
theorem dX11_writeThrough_16 : decode cX11_writeThrough 16 = .ok (.getfield 40, 3) := by decide +kernel
theorem dX11_writeThrough_19 : decode cX11_writeThrough 19 = .ok (.getfield 292, 3) := by decide +kernel
theorem dX11_writeThrough_22 : decode cX11_writeThrough 22 = .ok (.iload_n 1, 1) := by decide +kernel
theorem dX11_writeThrough_23 : decode cX11_writeThrough 23 = .ok (.baload, 1) := by decide +kernel
theorem dX11_writeThrough_24 : decode cX11_writeThrough 24 = .ok (.ifCond .eq 36, 3) := by decide +kernel
theorem dX11_writeThrough_27 : decode cX11_writeThrough 27 = .ok (.aload_n 0, 1) := by decide +kernel
theorem dX11_writeThrough_28 : decode cX11_writeThrough 28 = .ok (.getfield 40, 3) := by decide +kernel
theorem dX11_writeThrough_31 : decode cX11_writeThrough 31 = .ok (.getfield 306, 3) := by decide +kernel
theorem dX11_writeThrough_34 : decode cX11_writeThrough 34 = .ok (.iload_n 1, 1) := by decide +kernel
theorem dX11_writeThrough_35 : decode cX11_writeThrough 35 = .ok (.iload_n 2, 1) := by decide +kernel
theorem dX11_writeThrough_36 : decode cX11_writeThrough 36 = .ok (.iload_n 3, 1) := by decide +kernel
theorem dX11_writeThrough_37 : decode cX11_writeThrough 37 = .ok (.aload_n 0, 1) := by decide +kernel
theorem dX11_writeThrough_38 : decode cX11_writeThrough 38 = .ok (.getfield 88, 3) := by decide +kernel
theorem dX11_writeThrough_41 : decode cX11_writeThrough 41 = .ok (.aload_n 0, 1) := by decide +kernel
theorem dX11_writeThrough_42 : decode cX11_writeThrough 42 = .ok (.getfield 12, 3) := by decide +kernel
theorem dX11_writeThrough_45 : decode cX11_writeThrough 45 = .ok (.iload_n 1, 1) := by decide +kernel
theorem dX11_writeThrough_46 : decode cX11_writeThrough 46 = .ok (.invokevirtual 190, 3) := by decide +kernel
theorem dX11_writeThrough_49 : decode cX11_writeThrough 49 = .ok (.invokevirtual 194, 3) := by decide +kernel
theorem dX11_writeThrough_52 : decode cX11_writeThrough 52 = .ok (.aload_n 0, 1) := by decide +kernel
theorem dX11_writeThrough_53 : decode cX11_writeThrough 53 = .ok (.getfield 40, 3) := by decide +kernel
theorem dX11_writeThrough_56 : decode cX11_writeThrough 56 = .ok (.iload_n 1, 1) := by decide +kernel
theorem dX11_writeThrough_57 : decode cX11_writeThrough 57 = .ok (.invokevirtual 386, 3) := by decide +kernel
theorem dX11_writeThrough_60 : decode cX11_writeThrough 60 = .ok (.aload_n 0, 1) := by decide +kernel
theorem dX11_writeThrough_61 : decode cX11_writeThrough 61 = .ok (.getfield 47, 3) := by decide +kernel
theorem dX11_writeThrough_64 : decode cX11_writeThrough 64 = .ok (.iload_n 1, 1) := by decide +kernel
theorem dX11_writeThrough_65 : decode cX11_writeThrough 65 = .ok (.invokevirtual 247, 3) := by decide +kernel
theorem dX11_writeThrough_68 : decode cX11_writeThrough 68 = .ok (.aload_n 0, 1) := by decide +kernel
theorem dX11_writeThrough_69 : decode cX11_writeThrough 69 = .ok (.getfield 61, 3) := by decide +kernel
theorem dX11_writeThrough_72 : decode cX11_writeThrough 72 = .ok (.iload_n 1, 1) := by decide +kernel
theorem dX11_writeThrough_73 : decode cX11_writeThrough 73 = .ok (.invokevirtual 250, 3) := by decide +kernel
theorem dX11_writeThrough_76 : decode cX11_writeThrough 76 = .ok (.return_, 1) := by decide +kernel
set_option maxRecDepth 20000 in
theorem ggX11_writeBehind_X4_numberFor : GoodIn wsX11_writeBehind wsX4_numberFor := goodIn_ca (goodIn_r _ [13, 14, 15, 128, 129, 130, 131] (by decide +kernel) (by decide +kernel)) (goodIn_sub (fun _ h => List.mem_cons_of_mem _ (List.mem_append_right _ h)) (by decide +kernel))
set_option maxRecDepth 20000 in
theorem gX11_writeBehind_X4_numberFor : GoodIn wsX11_writeBehind (wsV RX11 190 RX4 yX4_numberFor wsX4_numberFor) := goodIn_app (goodIn_of _ (by decide +kernel)) ggX11_writeBehind_X4_numberFor
set_option maxRecDepth 20000 in
theorem ggX11_writeBehind_X2_put : GoodIn wsX11_writeBehind wsX2_put := goodIn_ca (goodIn_r _ [20, 21, 22, 23, 24, 132, 133, 134, 135] (by decide +kernel) (by decide +kernel)) (goodIn_sub (fun _ h => List.mem_cons_of_mem _ (List.mem_append_right _ h)) (by decide +kernel))
set_option maxRecDepth 20000 in
theorem gX11_writeBehind_X2_put : GoodIn wsX11_writeBehind (wsV RX11 194 RX2 yX2_put wsX2_put) := goodIn_app (goodIn_of _ (by decide +kernel)) ggX11_writeBehind_X2_put
set_option maxRecDepth 20000 in
theorem ggX11_writeBehind_X11_come : GoodIn wsX11_writeBehind wsX11_come := goodIn_ca (goodIn_r _ [29, 30, 31, 32, 33, 6, 34, 35, 5, 36, 1, 37, 38, 39, 40, 41, 42, 43, 44, 45, 46, 47, 48, 49, 50, 51, 52, 53, 54, 55, 56, 57, 58, 59, 60, 61, 62, 63, 64, 65, 66, 19, 67, 21, 22, 23, 24, 68, 17, 18, 20, 69, 70, 71, 72, 73, 74, 75, 76, 77, 78, 79, 80, 81, 82, 83, 84, 85, 86, 87, 109, 110, 111, 112, 113, 114, 115, 116, 117, 118, 119, 120, 121, 136, 137, 138, 139, 140, 141, 142, 143, 144, 145, 128, 129, 130, 131, 146, 147, 148, 149, 150, 151, 152, 132, 133, 134, 135] (by decide +kernel) (by decide +kernel)) (goodIn_sub (fun _ h => List.mem_cons_of_mem _ (List.mem_append_right _ h)) (by decide +kernel))
set_option maxRecDepth 20000 in
theorem gX11_writeBehind_X11_come : GoodIn wsX11_writeBehind (wsV RX11 418 RX11 yX11_come wsX11_come) := goodIn_app (goodIn_of _ (by decide +kernel)) ggX11_writeBehind_X11_come
set_option maxRecDepth 20000 in
theorem ggX11_writeBehind_X3_takeOut : GoodIn wsX11_writeBehind wsX3_takeOut := goodIn_ca (goodIn_r _ [91, 53, 51, 54, 55, 56, 49, 57, 58, 59, 60, 61, 62, 63, 148, 149, 150, 151, 152] (by decide +kernel) (by decide +kernel)) (goodIn_sub (fun _ h => List.mem_cons_of_mem _ (List.mem_append_right _ h)) (by decide +kernel))
set_option maxRecDepth 20000 in
theorem gX11_writeBehind_X3_takeOut : GoodIn wsX11_writeBehind (wsV RX11 247 RX3 yX3_takeOut wsX3_takeOut) := goodIn_app (goodIn_of _ (by decide +kernel)) ggX11_writeBehind_X3_takeOut
set_option maxRecDepth 20000 in
theorem ggX11_writeBehind_X8_add : GoodIn wsX11_writeBehind wsX8_add := goodIn_ca (goodIn_r _ [96, 97, 98, 99, 100, 153, 154, 155, 156] (by decide +kernel) (by decide +kernel)) (goodIn_sub (fun _ h => List.mem_cons_of_mem _ (List.mem_append_right _ h)) (by decide +kernel))
set_option maxRecDepth 20000 in
theorem gX11_writeBehind_X8_add : GoodIn wsX11_writeBehind (wsV RX11 444 RX8 yX8_add wsX8_add) := goodIn_app (goodIn_of _ (by decide +kernel)) ggX11_writeBehind_X8_add
set_option maxRecDepth 20000 in
theorem ggX11_writeBehind_X5_voidFor : GoodIn wsX11_writeBehind wsX5_voidFor := goodIn_ca (goodIn_r _ [105, 106, 107, 108, 157, 158, 159, 160, 161, 162, 163] (by decide +kernel) (by decide +kernel)) (goodIn_sub (fun _ h => List.mem_cons_of_mem _ (List.mem_append_right _ h)) (by decide +kernel))
set_option maxRecDepth 20000 in
theorem gX11_writeBehind_X5_voidFor : GoodIn wsX11_writeBehind (wsV RX11 250 RX5 yX5_voidFor wsX5_voidFor) := goodIn_app (goodIn_of _ (by decide +kernel)) ggX11_writeBehind_X5_voidFor
theorem dX11_writeBehind_0 : decode cX11_writeBehind 0 = .ok (.aload_n 0, 1) := by decide +kernel
theorem dX11_writeBehind_1 : decode cX11_writeBehind 1 = .ok (.getfield 84, 3) := by decide +kernel
theorem dX11_writeBehind_4 : decode cX11_writeBehind 4 = .ok (.iconst 0, 1) := by decide +kernel
theorem dX11_writeBehind_5 : decode cX11_writeBehind 5 = .ok (.iload_n 2, 1) := by decide +kernel
theorem dX11_writeBehind_6 : decode cX11_writeBehind 6 = .ok (.aload_n 0, 1) := by decide +kernel
theorem dX11_writeBehind_7 : decode cX11_writeBehind 7 = .ok (.getfield 19, 3) := by decide +kernel
theorem dX11_writeBehind_10 : decode cX11_writeBehind 10 = .ok (.getfield 187, 3) := by decide +kernel
theorem dX11_writeBehind_13 : decode cX11_writeBehind 13 = .ok (.iload_n 1, 1) := by decide +kernel
theorem dX11_writeBehind_14 : decode cX11_writeBehind 14 = .ok (.iaload, 1) := by decide +kernel
theorem dX11_writeBehind_15 : decode cX11_writeBehind 15 = .ok (.iconst 1, 1) := by decide +kernel
theorem dX11_writeBehind_16 : decode cX11_writeBehind 16 = .ok (.iadd, 1) := by decide +kernel
theorem dX11_writeBehind_17 : decode cX11_writeBehind 17 = .ok (.aload_n 0, 1) := by decide +kernel
theorem dX11_writeBehind_18 : decode cX11_writeBehind 18 = .ok (.getfield 88, 3) := by decide +kernel
theorem dX11_writeBehind_21 : decode cX11_writeBehind 21 = .ok (.aload_n 0, 1) := by decide +kernel
theorem dX11_writeBehind_22 : decode cX11_writeBehind 22 = .ok (.getfield 12, 3) := by decide +kernel
theorem dX11_writeBehind_25 : decode cX11_writeBehind 25 = .ok (.iload_n 1, 1) := by decide +kernel
theorem dX11_writeBehind_26 : decode cX11_writeBehind 26 = .ok (.invokevirtual 190, 3) := by decide +kernel
theorem dX11_writeBehind_29 : decode cX11_writeBehind 29 = .ok (.invokevirtual 194, 3) := by decide +kernel
theorem dX11_writeBehind_32 : decode cX11_writeBehind 32 = .ok (.aload_n 0, 1) := by decide +kernel
theorem dX11_writeBehind_33 : decode cX11_writeBehind 33 = .ok (.iload_n 1, 1) := by decide +kernel
theorem dX11_writeBehind_34 : decode cX11_writeBehind 34 = .ok (.invokevirtual 418, 3) := by decide +kernel
theorem dX11_writeBehind_37 : decode cX11_writeBehind 37 = .ok (.aload_n 0, 1) := by decide +kernel
theorem dX11_writeBehind_38 : decode cX11_writeBehind 38 = .ok (.getfield 47, 3) := by decide +kernel
theorem dX11_writeBehind_41 : decode cX11_writeBehind 41 = .ok (.iload_n 1, 1) := by decide +kernel
theorem dX11_writeBehind_42 : decode cX11_writeBehind 42 = .ok (.invokevirtual 247, 3) := by decide +kernel
theorem dX11_writeBehind_45 : decode cX11_writeBehind 45 = .ok (.aload_n 0, 1) := by decide +kernel
theorem dX11_writeBehind_46 : decode cX11_writeBehind 46 = .ok (.getfield 54, 3) := by decide +kernel
theorem dX11_writeBehind_49 : decode cX11_writeBehind 49 = .ok (.iload_n 1, 1) := by decide +kernel
theorem dX11_writeBehind_50 : decode cX11_writeBehind 50 = .ok (.iload_n 2, 1) := by decide +kernel
theorem dX11_writeBehind_51 : decode cX11_writeBehind 51 = .ok (.aload_n 0, 1) := by decide +kernel
theorem dX11_writeBehind_52 : decode cX11_writeBehind 52 = .ok (.getfield 88, 3) := by decide +kernel
theorem dX11_writeBehind_55 : decode cX11_writeBehind 55 = .ok (.iconst 3, 1) := by decide +kernel
theorem dX11_writeBehind_56 : decode cX11_writeBehind 56 = .ok (.iadd, 1) := by decide +kernel
theorem dX11_writeBehind_57 : decode cX11_writeBehind 57 = .ok (.invokevirtual 444, 3) := by decide +kernel
theorem dX11_writeBehind_60 : decode cX11_writeBehind 60 = .ok (.aload_n 0, 1) := by decide +kernel
theorem dX11_writeBehind_61 : decode cX11_writeBehind 61 = .ok (.getfield 61, 3) := by decide +kernel
theorem dX11_writeBehind_64 : decode cX11_writeBehind 64 = .ok (.iload_n 1, 1) := by decide +kernel
theorem dX11_writeBehind_65 : decode cX11_writeBehind 65 = .ok (.invokevirtual 250, 3) := by decide +kernel
theorem dX11_writeBehind_68 : decode cX11_writeBehind 68 = .ok (.return_, 1) := by decide +kernel
set_option maxRecDepth 20000 in
theorem ggX11_keepPromise_X11_writeStore : GoodIn wsX11_keepPromise wsX11_writeStore := goodIn_ca (goodIn_r _ [13, 14, 8, 15, 16, 17, 18, 19, 20, 21, 22, 23, 24, 25, 26, 27, 28, 29, 30, 31, 32, 33, 34, 35, 43, 44, 45, 46, 47, 48, 49, 50, 51, 52, 53, 54, 55, 69, 70, 71, 72, 73, 74, 75, 76, 77, 78, 79, 80] (by decide +kernel) (by decide +kernel)) (goodIn_sub (fun _ h => List.mem_cons_of_mem _ (List.mem_append_right _ h)) (by decide +kernel))
set_option maxRecDepth 20000 in
theorem gX11_keepPromise_X11_writeStore : GoodIn wsX11_keepPromise (wsV RX11 234 RX11 yX11_writeStore wsX11_writeStore) := goodIn_app (goodIn_of _ (by decide +kernel)) ggX11_keepPromise_X11_writeStore
set_option maxRecDepth 20000 in
theorem ggX11_keepPromise_X8_remove : GoodIn wsX11_keepPromise wsX8_remove := goodIn_ca (goodIn_r _ [40, 41, 42, 56, 57, 58, 59] (by decide +kernel) (by decide +kernel)) (goodIn_sub (fun _ h => List.mem_cons_of_mem _ (List.mem_append_right _ h)) (by decide +kernel))
set_option maxRecDepth 20000 in
theorem gX11_keepPromise_X8_remove : GoodIn wsX11_keepPromise (wsV RX11 442 RX8 yX8_remove wsX8_remove) := goodIn_app (goodIn_of _ (by decide +kernel)) ggX11_keepPromise_X8_remove
theorem dX11_keepPromise_0 : decode cX11_keepPromise 0 = .ok (.aload_n 0, 1) := by decide +kernel
theorem dX11_keepPromise_1 : decode cX11_keepPromise 1 = .ok (.iload_n 1, 1) := by decide +kernel
theorem dX11_keepPromise_2 : decode cX11_keepPromise 2 = .ok (.aload_n 0, 1) := by decide +kernel
theorem dX11_keepPromise_3 : decode cX11_keepPromise 3 = .ok (.getfield 54, 3) := by decide +kernel
theorem dX11_keepPromise_6 : decode cX11_keepPromise 6 = .ok (.getfield 446, 3) := by decide +kernel
theorem dX11_keepPromise_9 : decode cX11_keepPromise 9 = .ok (.iload_n 1, 1) := by decide +kernel
theorem dX11_keepPromise_10 : decode cX11_keepPromise 10 = .ok (.iaload, 1) := by decide +kernel
theorem dX11_keepPromise_11 : decode cX11_keepPromise 11 = .ok (.invokevirtual 234, 3) := by decide +kernel
theorem dX11_keepPromise_14 : decode cX11_keepPromise 14 = .ok (.istore_n 2, 1) := by decide +kernel
theorem dX11_keepPromise_15 : decode cX11_keepPromise 15 = .ok (.aload_n 0, 1) := by decide +kernel
theorem dX11_keepPromise_16 : decode cX11_keepPromise 16 = .ok (.getfield 54, 3) := by decide +kernel
theorem dX11_keepPromise_19 : decode cX11_keepPromise 19 = .ok (.iload_n 1, 1) := by decide +kernel
theorem dX11_keepPromise_20 : decode cX11_keepPromise 20 = .ok (.invokevirtual 442, 3) := by decide +kernel
theorem dX11_keepPromise_23 : decode cX11_keepPromise 23 = .ok (.aload_n 0, 1) := by decide +kernel
theorem dX11_keepPromise_24 : decode cX11_keepPromise 24 = .ok (.getfield 40, 3) := by decide +kernel
theorem dX11_keepPromise_27 : decode cX11_keepPromise 27 = .ok (.getfield 292, 3) := by decide +kernel
theorem dX11_keepPromise_30 : decode cX11_keepPromise 30 = .ok (.iload_n 1, 1) := by decide +kernel
theorem dX11_keepPromise_31 : decode cX11_keepPromise 31 = .ok (.baload, 1) := by decide +kernel
theorem dX11_keepPromise_32 : decode cX11_keepPromise 32 = .ok (.ifCond .eq 32, 3) := by decide +kernel
theorem dX11_keepPromise_35 : decode cX11_keepPromise 35 = .ok (.aload_n 0, 1) := by decide +kernel
theorem dX11_keepPromise_36 : decode cX11_keepPromise 36 = .ok (.getfield 40, 3) := by decide +kernel
theorem dX11_keepPromise_39 : decode cX11_keepPromise 39 = .ok (.getfield 306, 3) := by decide +kernel
theorem dX11_keepPromise_42 : decode cX11_keepPromise 42 = .ok (.getfield 307, 3) := by decide +kernel
theorem dX11_keepPromise_45 : decode cX11_keepPromise 45 = .ok (.iload_n 1, 1) := by decide +kernel
theorem dX11_keepPromise_46 : decode cX11_keepPromise 46 = .ok (.iload_n 2, 1) := by decide +kernel
theorem dX11_keepPromise_47 : decode cX11_keepPromise 47 = .ok (.iastore, 1) := by decide +kernel
theorem dX11_keepPromise_48 : decode cX11_keepPromise 48 = .ok (.aload_n 0, 1) := by decide +kernel
theorem dX11_keepPromise_49 : decode cX11_keepPromise 49 = .ok (.getfield 40, 3) := by decide +kernel
theorem dX11_keepPromise_52 : decode cX11_keepPromise 52 = .ok (.getfield 306, 3) := by decide +kernel
theorem dX11_keepPromise_55 : decode cX11_keepPromise 55 = .ok (.getfield 375, 3) := by decide +kernel
theorem dX11_keepPromise_58 : decode cX11_keepPromise 58 = .ok (.iload_n 1, 1) := by decide +kernel
theorem dX11_keepPromise_59 : decode cX11_keepPromise 59 = .ok (.aload_n 0, 1) := by decide +kernel
theorem dX11_keepPromise_60 : decode cX11_keepPromise 60 = .ok (.getfield 88, 3) := by decide +kernel
theorem dX11_keepPromise_63 : decode cX11_keepPromise 63 = .ok (.iastore, 1) := by decide +kernel
theorem dX11_keepPromise_64 : decode cX11_keepPromise 64 = .ok (.return_, 1) := by decide +kernel
set_option maxRecDepth 20000 in
theorem ggX11_keepPromises_X8_nextOf : GoodIn wsX11_keepPromises wsX8_nextOf := goodIn_ca (goodIn_r _ [8, 9, 10, 11, 12, 13, 7, 14, 15, 16, 73, 74, 75, 76, 77, 78, 79, 80] (by decide +kernel) (by decide +kernel)) (goodIn_sub (fun _ h => List.mem_cons_of_mem _ (List.mem_append_right _ h)) (by decide +kernel))
set_option maxRecDepth 20000 in
theorem gX11_keepPromises_X8_nextOf : GoodIn wsX11_keepPromises (wsV RX11 320 RX8 yX8_nextOf wsX8_nextOf) := goodIn_app (goodIn_of _ (by decide +kernel)) ggX11_keepPromises_X8_nextOf
set_option maxRecDepth 20000 in
theorem ggX11_keepPromises_X11_keepPromise : GoodIn wsX11_keepPromises wsX11_keepPromise := goodIn_ca (goodIn_r _ [21, 1, 22, 23, 24, 25, 26, 27, 28, 29, 30, 31, 20, 32, 33, 34, 35, 36, 37, 38, 39, 40, 41, 42, 43, 44, 45, 46, 47, 48, 49, 50, 51, 52, 53, 54, 55, 56, 57, 7, 58, 9, 59, 60, 61, 62, 63, 64, 65, 66, 67, 68, 69, 70, 71, 72, 73, 74, 75, 76, 81, 82, 83, 84, 85, 86, 87, 88, 89, 90, 91, 92, 93, 94, 95, 96, 97, 98, 99, 100, 101] (by decide +kernel) (by decide +kernel)) (goodIn_sub (fun _ h => List.mem_cons_of_mem _ (List.mem_append_right _ h)) (by decide +kernel))
set_option maxRecDepth 20000 in
theorem gX11_keepPromises_X11_keepPromise : GoodIn wsX11_keepPromises (wsV RX11 241 RX11 yX11_keepPromise wsX11_keepPromise) := goodIn_app (goodIn_of _ (by decide +kernel)) ggX11_keepPromises_X11_keepPromise
theorem dX11_keepPromises_0 : decode cX11_keepPromises 0 = .ok (.iconst 0, 1) := by decide +kernel
theorem dX11_keepPromises_1 : decode cX11_keepPromises 1 = .ok (.istore_n 3, 1) := by decide +kernel
theorem dX11_keepPromises_2 : decode cX11_keepPromises 2 = .ok (.iconst 0, 1) := by decide +kernel
theorem dX11_keepPromises_3 : decode cX11_keepPromises 3 = .ok (.istore 4, 2) := by decide +kernel
theorem dX11_keepPromises_5 : decode cX11_keepPromises 5 = .ok (.iload 4, 2) := by decide +kernel
theorem dX11_keepPromises_7 : decode cX11_keepPromises 7 = .ok (.bipush 32, 2) := by decide +kernel
theorem dX11_keepPromises_9 : decode cX11_keepPromises 9 = .ok (.if_icmp .ge 54, 3) := by decide +kernel
theorem dX11_keepPromises_12 : decode cX11_keepPromises 12 = .ok (.aload_n 0, 1) := by decide +kernel
theorem dX11_keepPromises_13 : decode cX11_keepPromises 13 = .ok (.getfield 54, 3) := by decide +kernel
theorem dX11_keepPromises_16 : decode cX11_keepPromises 16 = .ok (.aload_n 0, 1) := by decide +kernel
theorem dX11_keepPromises_17 : decode cX11_keepPromises 17 = .ok (.getfield 12, 3) := by decide +kernel
theorem dX11_keepPromises_20 : decode cX11_keepPromises 20 = .ok (.iload_n 2, 1) := by decide +kernel
theorem dX11_keepPromises_21 : decode cX11_keepPromises 21 = .ok (.invokevirtual 320, 3) := by decide +kernel
theorem dX11_keepPromises_24 : decode cX11_keepPromises 24 = .ok (.istore 5, 2) := by decide +kernel
theorem dX11_keepPromises_26 : decode cX11_keepPromises 26 = .ok (.iload 5, 2) := by decide +kernel
theorem dX11_keepPromises_28 : decode cX11_keepPromises 28 = .ok (.iconst (-1), 1) := by decide +kernel
theorem dX11_keepPromises_29 : decode cX11_keepPromises 29 = .ok (.if_icmp .eq 17, 3) := by decide +kernel
theorem dX11_keepPromises_32 : decode cX11_keepPromises 32 = .ok (.aload_n 0, 1) := by decide +kernel
theorem dX11_keepPromises_33 : decode cX11_keepPromises 33 = .ok (.getfield 54, 3) := by decide +kernel
theorem dX11_keepPromises_36 : decode cX11_keepPromises 36 = .ok (.getfield 447, 3) := by decide +kernel
theorem dX11_keepPromises_39 : decode cX11_keepPromises 39 = .ok (.iload 5, 2) := by decide +kernel
theorem dX11_keepPromises_41 : decode cX11_keepPromises 41 = .ok (.iaload, 1) := by decide +kernel
theorem dX11_keepPromises_42 : decode cX11_keepPromises 42 = .ok (.iload_n 1, 1) := by decide +kernel
theorem dX11_keepPromises_43 : decode cX11_keepPromises 43 = .ok (.if_icmp .le 5, 3) := by decide +kernel
theorem dX11_keepPromises_46 : decode cX11_keepPromises 46 = .ok (.iload_n 3, 1) := by decide +kernel
theorem dX11_keepPromises_47 : decode cX11_keepPromises 47 = .ok (.ireturn, 1) := by decide +kernel
theorem dX11_keepPromises_48 : decode cX11_keepPromises 48 = .ok (.aload_n 0, 1) := by decide +kernel
theorem dX11_keepPromises_49 : decode cX11_keepPromises 49 = .ok (.iload 5, 2) := by decide +kernel
theorem dX11_keepPromises_51 : decode cX11_keepPromises 51 = .ok (.invokevirtual 241, 3) := by decide +kernel
theorem dX11_keepPromises_54 : decode cX11_keepPromises 54 = .ok (.iinc 3 1, 3) := by decide +kernel
theorem dX11_keepPromises_57 : decode cX11_keepPromises 57 = .ok (.iinc 4 1, 3) := by decide +kernel
theorem dX11_keepPromises_60 : decode cX11_keepPromises 60 = .ok (.goto (-55), 3) := by decide +kernel
theorem dX11_keepPromises_63 : decode cX11_keepPromises 63 = .ok (.iload_n 3, 1) := by decide +kernel
theorem dX11_keepPromises_64 : decode cX11_keepPromises 64 = .ok (.ireturn, 1) := by decide +kernel
theorem dX12_init_0 : decode cX12_init 0 = .ok (.aload_n 0, 1) := by decide +kernel
theorem dX12_init_1 : decode cX12_init 1 = .ok (.invokespecial 1, 3) := by decide +kernel
theorem dX12_init_4 : decode cX12_init 4 = .ok (.aload_n 0, 1) := by decide +kernel
theorem dX12_init_5 : decode cX12_init 5 = .ok (.bipush 32, 2) := by decide +kernel
theorem dX12_init_7 : decode cX12_init 7 = .ok (.newarray .int, 2) := by decide +kernel
theorem dX12_init_9 : decode cX12_init 9 = .ok (.putfield 7, 3) := by decide +kernel
theorem dX12_init_12 : decode cX12_init 12 = .ok (.aload_n 0, 1) := by decide +kernel
theorem dX12_init_13 : decode cX12_init 13 = .ok (.bipush 32, 2) := by decide +kernel
theorem dX12_init_15 : decode cX12_init 15 = .ok (.newarray .int, 2) := by decide +kernel
theorem dX12_init_17 : decode cX12_init 17 = .ok (.putfield 13, 3) := by decide +kernel
theorem dX12_init_20 : decode cX12_init 20 = .ok (.aload_n 0, 1) := by decide +kernel
theorem dX12_init_21 : decode cX12_init 21 = .ok (.sipush 800, 3) := by decide +kernel
theorem dX12_init_24 : decode cX12_init 24 = .ok (.newarray .int, 2) := by decide +kernel
theorem dX12_init_26 : decode cX12_init 26 = .ok (.putfield 16, 3) := by decide +kernel
theorem dX12_init_29 : decode cX12_init 29 = .ok (.aload_n 0, 1) := by decide +kernel
theorem dX12_init_30 : decode cX12_init 30 = .ok (.sipush 800, 3) := by decide +kernel
theorem dX12_init_33 : decode cX12_init 33 = .ok (.newarray .int, 2) := by decide +kernel
theorem dX12_init_35 : decode cX12_init 35 = .ok (.putfield 19, 3) := by decide +kernel
theorem dX12_init_38 : decode cX12_init 38 = .ok (.aload_n 0, 1) := by decide +kernel
theorem dX12_init_39 : decode cX12_init 39 = .ok (.sipush 800, 3) := by decide +kernel
theorem dX12_init_42 : decode cX12_init 42 = .ok (.newarray .int, 2) := by decide +kernel
theorem dX12_init_44 : decode cX12_init 44 = .ok (.putfield 22, 3) := by decide +kernel
theorem dX12_init_47 : decode cX12_init 47 = .ok (.aload_n 0, 1) := by decide +kernel
theorem dX12_init_48 : decode cX12_init 48 = .ok (.sipush 800, 3) := by decide +kernel
theorem dX12_init_51 : decode cX12_init 51 = .ok (.newarray .int, 2) := by decide +kernel
theorem dX12_init_53 : decode cX12_init 53 = .ok (.putfield 25, 3) := by decide +kernel
theorem dX12_init_56 : decode cX12_init 56 = .ok (.aload_n 0, 1) := by decide +kernel
theorem dX12_init_57 : decode cX12_init 57 = .ok (.sipush 800, 3) := by decide +kernel
theorem dX12_init_60 : decode cX12_init 60 = .ok (.newarray .boolean, 2) := by decide +kernel
theorem dX12_init_62 : decode cX12_init 62 = .ok (.putfield 28, 3) := by decide +kernel
theorem dX12_init_65 : decode cX12_init 65 = .ok (.aload_n 0, 1) := by decide +kernel
theorem dX12_init_66 : decode cX12_init 66 = .ok (.bipush 32, 2) := by decide +kernel
theorem dX12_init_68 : decode cX12_init 68 = .ok (.newarray .int, 2) := by decide +kernel
theorem dX12_init_70 : decode cX12_init 70 = .ok (.putfield 32, 3) := by decide +kernel
theorem dX12_init_73 : decode cX12_init 73 = .ok (.aload_n 0, 1) := by decide +kernel
theorem dX12_init_74 : decode cX12_init 74 = .ok (.bipush 32, 2) := by decide +kernel
theorem dX12_init_76 : decode cX12_init 76 = .ok (.newarray .int, 2) := by decide +kernel
theorem dX12_init_78 : decode cX12_init 78 = .ok (.putfield 35, 3) := by decide +kernel
theorem dX12_init_81 : decode cX12_init 81 = .ok (.aload_n 0, 1) := by decide +kernel
theorem dX12_init_82 : decode cX12_init 82 = .ok (.bipush 32, 2) := by decide +kernel
theorem dX12_init_84 : decode cX12_init 84 = .ok (.newarray .int, 2) := by decide +kernel
theorem dX12_init_86 : decode cX12_init 86 = .ok (.putfield 38, 3) := by decide +kernel
theorem dX12_init_89 : decode cX12_init 89 = .ok (.aload_n 0, 1) := by decide +kernel
theorem dX12_init_90 : decode cX12_init 90 = .ok (.bipush 32, 2) := by decide +kernel
theorem dX12_init_92 : decode cX12_init 92 = .ok (.newarray .int, 2) := by decide +kernel
theorem dX12_init_94 : decode cX12_init 94 = .ok (.putfield 41, 3) := by decide +kernel
theorem dX12_init_97 : decode cX12_init 97 = .ok (.aload_n 0, 1) := by decide +kernel
theorem dX12_init_98 : decode cX12_init 98 = .ok (.bipush 32, 2) := by decide +kernel
theorem dX12_init_100 : decode cX12_init 100 = .ok (.newarray .int, 2) := by decide +kernel
theorem dX12_init_102 : decode cX12_init 102 = .ok (.putfield 44, 3) := by decide +kernel
theorem dX12_init_105 : decode cX12_init 105 = .ok (.aload_n 0, 1) := by decide +kernel
theorem dX12_init_106 : decode cX12_init 106 = .ok (.iconst 4, 1) := by decide +kernel
theorem dX12_init_107 : decode cX12_init 107 = .ok (.newarray .int, 2) := by decide +kernel
theorem dX12_init_109 : decode cX12_init 109 = .ok (.putfield 47, 3) := by decide +kernel
theorem dX12_init_112 : decode cX12_init 112 = .ok (.aload_n 0, 1) := by decide +kernel
theorem dX12_init_113 : decode cX12_init 113 = .ok (.bipush 64, 2) := by decide +kernel
theorem dX12_init_115 : decode cX12_init 115 = .ok (.newarray .int, 2) := by decide +kernel
theorem dX12_init_117 : decode cX12_init 117 = .ok (.putfield 50, 3) := by decide +kernel
theorem dX12_init_120 : decode cX12_init 120 = .ok (.aload_n 0, 1) := by decide +kernel
theorem dX12_init_121 : decode cX12_init 121 = .ok (.bipush 32, 2) := by decide +kernel
theorem dX12_init_123 : decode cX12_init 123 = .ok (.newarray .boolean, 2) := by decide +kernel
theorem dX12_init_125 : decode cX12_init 125 = .ok (.putfield 53, 3) := by decide +kernel
theorem dX12_init_128 : decode cX12_init 128 = .ok (.aload_n 0, 1) := by decide +kernel
theorem dX12_init_129 : decode cX12_init 129 = .ok (.bipush 32, 2) := by decide +kernel
theorem dX12_init_131 : decode cX12_init 131 = .ok (.newarray .int, 2) := by decide +kernel
theorem dX12_init_133 : decode cX12_init 133 = .ok (.putfield 56, 3) := by decide +kernel
theorem dX12_init_136 : decode cX12_init 136 = .ok (.aload_n 0, 1) := by decide +kernel
theorem dX12_init_137 : decode cX12_init 137 = .ok (.bipush 32, 2) := by decide +kernel
theorem dX12_init_139 : decode cX12_init 139 = .ok (.newarray .int, 2) := by decide +kernel
theorem dX12_init_141 : decode cX12_init 141 = .ok (.putfield 59, 3) := by decide +kernel
theorem dX12_init_144 : decode cX12_init 144 = .ok (.aload_n 0, 1) := by decide +kernel
theorem dX12_init_145 : decode cX12_init 145 = .ok (.bipush 32, 2) := by decide +kernel
theorem dX12_init_147 : decode cX12_init 147 = .ok (.newarray .int, 2) := by decide +kernel
theorem dX12_init_149 : decode cX12_init 149 = .ok (.putfield 62, 3) := by decide +kernel
theorem dX12_init_152 : decode cX12_init 152 = .ok (.aload_n 0, 1) := by decide +kernel
theorem dX12_init_153 : decode cX12_init 153 = .ok (.bipush 32, 2) := by decide +kernel
theorem dX12_init_155 : decode cX12_init 155 = .ok (.newarray .int, 2) := by decide +kernel
theorem dX12_init_157 : decode cX12_init 157 = .ok (.putfield 65, 3) := by decide +kernel
theorem dX12_init_160 : decode cX12_init 160 = .ok (.aload_n 0, 1) := by decide +kernel
theorem dX12_init_161 : decode cX12_init 161 = .ok (.bipush 32, 2) := by decide +kernel
theorem dX12_init_163 : decode cX12_init 163 = .ok (.newarray .int, 2) := by decide +kernel
theorem dX12_init_165 : decode cX12_init 165 = .ok (.putfield 68, 3) := by decide +kernel
theorem dX12_init_168 : decode cX12_init 168 = .ok (.aload_n 0, 1) := by decide +kernel
theorem dX12_init_169 : decode cX12_init 169 = .ok (.bipush 32, 2) := by decide +kernel
theorem dX12_init_171 : decode cX12_init 171 = .ok (.newarray .boolean, 2) := by decide +kernel
theorem dX12_init_173 : decode cX12_init 173 = .ok (.putfield 71, 3) := by decide +kernel
theorem dX12_init_176 : decode cX12_init 176 = .ok (.aload_n 0, 1) := by decide +kernel
theorem dX12_init_177 : decode cX12_init 177 = .ok (.bipush 32, 2) := by decide +kernel
theorem dX12_init_179 : decode cX12_init 179 = .ok (.newarray .int, 2) := by decide +kernel
theorem dX12_init_181 : decode cX12_init 181 = .ok (.putfield 74, 3) := by decide +kernel
theorem dX12_init_184 : decode cX12_init 184 = .ok (.aload_n 0, 1) := by decide +kernel
theorem dX12_init_185 : decode cX12_init 185 = .ok (.bipush 32, 2) := by decide +kernel
theorem dX12_init_187 : decode cX12_init 187 = .ok (.newarray .int, 2) := by decide +kernel
theorem dX12_init_189 : decode cX12_init 189 = .ok (.putfield 77, 3) := by decide +kernel
theorem dX12_init_192 : decode cX12_init 192 = .ok (.aload_n 0, 1) := by decide +kernel
theorem dX12_init_193 : decode cX12_init 193 = .ok (.bipush 16, 2) := by decide +kernel
theorem dX12_init_195 : decode cX12_init 195 = .ok (.newarray .int, 2) := by decide +kernel
theorem dX12_init_197 : decode cX12_init 197 = .ok (.putfield 80, 3) := by decide +kernel
theorem dX12_init_200 : decode cX12_init 200 = .ok (.aload_n 0, 1) := by decide +kernel
theorem dX12_init_201 : decode cX12_init 201 = .ok (.bipush 16, 2) := by decide +kernel
theorem dX12_init_203 : decode cX12_init 203 = .ok (.newarray .int, 2) := by decide +kernel
theorem dX12_init_205 : decode cX12_init 205 = .ok (.putfield 83, 3) := by decide +kernel
theorem dX12_init_208 : decode cX12_init 208 = .ok (.aload_n 0, 1) := by decide +kernel
theorem dX12_init_209 : decode cX12_init 209 = .ok (.bipush 16, 2) := by decide +kernel
theorem dX12_init_211 : decode cX12_init 211 = .ok (.newarray .int, 2) := by decide +kernel
theorem dX12_init_213 : decode cX12_init 213 = .ok (.putfield 86, 3) := by decide +kernel
theorem dX12_init_216 : decode cX12_init 216 = .ok (.aload_n 0, 1) := by decide +kernel
theorem dX12_init_217 : decode cX12_init 217 = .ok (.bipush 16, 2) := by decide +kernel
theorem dX12_init_219 : decode cX12_init 219 = .ok (.newarray .int, 2) := by decide +kernel
theorem dX12_init_221 : decode cX12_init 221 = .ok (.putfield 89, 3) := by decide +kernel
theorem dX12_init_224 : decode cX12_init 224 = .ok (.aload_n 0, 1) := by decide +kernel
theorem dX12_init_225 : decode cX12_init 225 = .ok (.bipush 16, 2) := by decide +kernel
theorem dX12_init_227 : decode cX12_init 227 = .ok (.newarray .int, 2) := by decide +kernel
theorem dX12_init_229 : decode cX12_init 229 = .ok (.putfield 92, 3) := by decide +kernel
theorem dX12_init_232 : decode cX12_init 232 = .ok (.aload_n 0, 1) := by decide +kernel
theorem dX12_init_233 : decode cX12_init 233 = .ok (.bipush 16, 2) := by decide +kernel
theorem dX12_init_235 : decode cX12_init 235 = .ok (.newarray .int, 2) := by decide +kernel
theorem dX12_init_237 : decode cX12_init 237 = .ok (.putfield 95, 3) := by decide +kernel
theorem dX12_init_240 : decode cX12_init 240 = .ok (.aload_n 0, 1) := by decide +kernel
theorem dX12_init_241 : decode cX12_init 241 = .ok (.iconst 4, 1) := by decide +kernel
theorem dX12_init_242 : decode cX12_init 242 = .ok (.newarray .int, 2) := by decide +kernel
theorem dX12_init_244 : decode cX12_init 244 = .ok (.putfield 98, 3) := by decide +kernel
theorem dX12_init_247 : decode cX12_init 247 = .ok (.aload_n 0, 1) := by decide +kernel
theorem dX12_init_248 : decode cX12_init 248 = .ok (.bipush 32, 2) := by decide +kernel
theorem dX12_init_250 : decode cX12_init 250 = .ok (.newarray .int, 2) := by decide +kernel
theorem dX12_init_252 : decode cX12_init 252 = .ok (.putfield 101, 3) := by decide +kernel
theorem dX12_init_255 : decode cX12_init 255 = .ok (.aload_n 0, 1) := by decide +kernel
theorem dX12_init_256 : decode cX12_init 256 = .ok (.bipush 60, 2) := by decide +kernel
theorem dX12_init_258 : decode cX12_init 258 = .ok (.newarray .int, 2) := by decide +kernel
theorem dX12_init_260 : decode cX12_init 260 = .ok (.putfield 104, 3) := by decide +kernel
theorem dX12_init_263 : decode cX12_init 263 = .ok (.aload_n 0, 1) := by decide +kernel
theorem dX12_init_264 : decode cX12_init 264 = .ok (.bipush 60, 2) := by decide +kernel
theorem dX12_init_266 : decode cX12_init 266 = .ok (.newarray .int, 2) := by decide +kernel
theorem dX12_init_268 : decode cX12_init 268 = .ok (.putfield 107, 3) := by decide +kernel
theorem dX12_init_271 : decode cX12_init 271 = .ok (.aload_n 0, 1) := by decide +kernel
theorem dX12_init_272 : decode cX12_init 272 = .ok (.bipush 60, 2) := by decide +kernel
theorem dX12_init_274 : decode cX12_init 274 = .ok (.newarray .char, 2) := by decide +kernel
theorem dX12_init_276 : decode cX12_init 276 = .ok (.putfield 110, 3) := by decide +kernel
theorem dX12_init_279 : decode cX12_init 279 = .ok (.aload_n 0, 1) := by decide +kernel
theorem dX12_init_280 : decode cX12_init 280 = .ok (.bipush 60, 2) := by decide +kernel
theorem dX12_init_282 : decode cX12_init 282 = .ok (.newarray .boolean, 2) := by decide +kernel
theorem dX12_init_284 : decode cX12_init 284 = .ok (.putfield 114, 3) := by decide +kernel
theorem dX12_init_287 : decode cX12_init 287 = .ok (.aload_n 0, 1) := by decide +kernel
theorem dX12_init_288 : decode cX12_init 288 = .ok (.bipush 60, 2) := by decide +kernel
theorem dX12_init_290 : decode cX12_init 290 = .ok (.newarray .int, 2) := by decide +kernel
theorem dX12_init_292 : decode cX12_init 292 = .ok (.putfield 117, 3) := by decide +kernel
theorem dX12_init_295 : decode cX12_init 295 = .ok (.aload_n 0, 1) := by decide +kernel
theorem dX12_init_296 : decode cX12_init 296 = .ok (.bipush 60, 2) := by decide +kernel
theorem dX12_init_298 : decode cX12_init 298 = .ok (.newarray .int, 2) := by decide +kernel
theorem dX12_init_300 : decode cX12_init 300 = .ok (.putfield 120, 3) := by decide +kernel
theorem dX12_init_303 : decode cX12_init 303 = .ok (.aload_n 0, 1) := by decide +kernel
theorem dX12_init_304 : decode cX12_init 304 = .ok (.bipush 60, 2) := by decide +kernel
theorem dX12_init_306 : decode cX12_init 306 = .ok (.newarray .int, 2) := by decide +kernel
theorem dX12_init_308 : decode cX12_init 308 = .ok (.putfield 123, 3) := by decide +kernel
theorem dX12_init_311 : decode cX12_init 311 = .ok (.aload_n 0, 1) := by decide +kernel
theorem dX12_init_312 : decode cX12_init 312 = .ok (.bipush 32, 2) := by decide +kernel
theorem dX12_init_314 : decode cX12_init 314 = .ok (.newarray .boolean, 2) := by decide +kernel
theorem dX12_init_316 : decode cX12_init 316 = .ok (.putfield 126, 3) := by decide +kernel
theorem dX12_init_319 : decode cX12_init 319 = .ok (.iconst 0, 1) := by decide +kernel
theorem dX12_init_320 : decode cX12_init 320 = .ok (.istore_n 1, 1) := by decide +kernel
theorem dX12_init_321 : decode cX12_init 321 = .ok (.iload_n 1, 1) := by decide +kernel
theorem dX12_init_322 : decode cX12_init 322 = .ok (.bipush 32, 2) := by decide +kernel
theorem dX12_init_324 : decode cX12_init 324 = .ok (.if_icmp .ge 30, 3) := by decide +kernel
theorem dX12_init_327 : decode cX12_init 327 = .ok (.aload_n 0, 1) := by decide +kernel
theorem dX12_init_328 : decode cX12_init 328 = .ok (.getfield 38, 3) := by decide +kernel
theorem dX12_init_331 : decode cX12_init 331 = .ok (.iload_n 1, 1) := by decide +kernel
theorem dX12_init_332 : decode cX12_init 332 = .ok (.iconst 1, 1) := by decide +kernel
theorem dX12_init_333 : decode cX12_init 333 = .ok (.iastore, 1) := by decide +kernel
theorem dX12_init_334 : decode cX12_init 334 = .ok (.aload_n 0, 1) := by decide +kernel
theorem dX12_init_335 : decode cX12_init 335 = .ok (.getfield 41, 3) := by decide +kernel
theorem dX12_init_338 : decode cX12_init 338 = .ok (.iload_n 1, 1) := by decide +kernel
theorem dX12_init_339 : decode cX12_init 339 = .ok (.iconst 1, 1) := by decide +kernel
theorem dX12_init_340 : decode cX12_init 340 = .ok (.iastore, 1) := by decide +kernel
theorem dX12_init_341 : decode cX12_init 341 = .ok (.aload_n 0, 1) := by decide +kernel
theorem dX12_init_342 : decode cX12_init 342 = .ok (.getfield 101, 3) := by decide +kernel
theorem dX12_init_345 : decode cX12_init 345 = .ok (.iload_n 1, 1) := by decide +kernel
theorem dX12_init_346 : decode cX12_init 346 = .ok (.iconst (-1), 1) := by decide +kernel
theorem dX12_init_347 : decode cX12_init 347 = .ok (.iastore, 1) := by decide +kernel
theorem dX12_init_348 : decode cX12_init 348 = .ok (.iinc 1 1, 3) := by decide +kernel
theorem dX12_init_351 : decode cX12_init 351 = .ok (.goto (-30), 3) := by decide +kernel
theorem dX12_init_354 : decode cX12_init 354 = .ok (.iconst 0, 1) := by decide +kernel
theorem dX12_init_355 : decode cX12_init 355 = .ok (.istore_n 1, 1) := by decide +kernel
theorem dX12_init_356 : decode cX12_init 356 = .ok (.iload_n 1, 1) := by decide +kernel
theorem dX12_init_357 : decode cX12_init 357 = .ok (.bipush 16, 2) := by decide +kernel
theorem dX12_init_359 : decode cX12_init 359 = .ok (.if_icmp .ge 16, 3) := by decide +kernel
theorem dX12_init_362 : decode cX12_init 362 = .ok (.aload_n 0, 1) := by decide +kernel
theorem dX12_init_363 : decode cX12_init 363 = .ok (.getfield 80, 3) := by decide +kernel
theorem dX12_init_366 : decode cX12_init 366 = .ok (.iload_n 1, 1) := by decide +kernel
theorem dX12_init_367 : decode cX12_init 367 = .ok (.iconst (-1), 1) := by decide +kernel
theorem dX12_init_368 : decode cX12_init 368 = .ok (.iastore, 1) := by decide +kernel
theorem dX12_init_369 : decode cX12_init 369 = .ok (.iinc 1 1, 3) := by decide +kernel
theorem dX12_init_372 : decode cX12_init 372 = .ok (.goto (-16), 3) := by decide +kernel
theorem dX12_init_375 : decode cX12_init 375 = .ok (.return_, 1) := by decide +kernel
theorem dX12_in_0 : decode cX12_in 0 = .ok (.iload_n 0, 1) := by decide +kernel
theorem dX12_in_1 : decode cX12_in 1 = .ok (.iload_n 1, 1) := by decide +kernel
theorem dX12_in_2 : decode cX12_in 2 = .ok (.if_icmp .lt 12, 3) := by decide +kernel
theorem dX12_in_5 : decode cX12_in 5 = .ok (.iload_n 0, 1) := by decide +kernel
theorem dX12_in_6 : decode cX12_in 6 = .ok (.iload_n 2, 1) := by decide +kernel
theorem dX12_in_7 : decode cX12_in 7 = .ok (.if_icmp .gt 7, 3) := by decide +kernel
theorem dX12_in_10 : decode cX12_in 10 = .ok (.iconst 1, 1) := by decide +kernel
theorem dX12_in_11 : decode cX12_in 11 = .ok (.goto 4, 3) := by decide +kernel
theorem dX12_in_14 : decode cX12_in 14 = .ok (.iconst 0, 1) := by decide +kernel
theorem dX12_in_15 : decode cX12_in 15 = .ok (.ireturn, 1) := by decide +kernel
theorem dX12_fails_0 : decode cX12_fails 0 = .ok (.aload_n 0, 1) := by decide +kernel
theorem dX12_fails_1 : decode cX12_fails 1 = .ok (.iload_n 1, 1) := by decide +kernel
theorem dX12_fails_2 : decode cX12_fails 2 = .ok (.putfield 129, 3) := by decide +kernel
theorem dX12_fails_5 : decode cX12_fails 5 = .ok (.iconst 0, 1) := by decide +kernel
theorem dX12_fails_6 : decode cX12_fails 6 = .ok (.ireturn, 1) := by decide +kernel
theorem dX12_failsChar_0 : decode cX12_failsChar 0 = .ok (.aload_n 0, 1) := by decide +kernel
theorem dX12_failsChar_1 : decode cX12_failsChar 1 = .ok (.iload_n 1, 1) := by decide +kernel
theorem dX12_failsChar_2 : decode cX12_failsChar 2 = .ok (.putfield 129, 3) := by decide +kernel
theorem dX12_failsChar_5 : decode cX12_failsChar 5 = .ok (.iconst 0, 1) := by decide +kernel
theorem dX12_failsChar_6 : decode cX12_failsChar 6 = .ok (.ireturn, 1) := by decide +kernel
set_option maxRecDepth 20000 in
theorem ggX12_isKey_X12_in : GoodIn wsX12_isKey wsX12_in := goodIn_r _ [4] (by decide +kernel) (by decide +kernel)
set_option maxRecDepth 20000 in
theorem gX12_isKey_X12_in : GoodIn wsX12_isKey (va_wsS RX12 133 yX12_in wsX12_in) := goodIn_app (goodIn_of _ (by decide +kernel)) ggX12_isKey_X12_in
theorem dX12_isKey_0 : decode cX12_isKey 0 = .ok (.iload_n 0, 1) := by decide +kernel
theorem dX12_isKey_1 : decode cX12_isKey 1 = .ok (.iconst 0, 1) := by decide +kernel
theorem dX12_isKey_2 : decode cX12_isKey 2 = .ok (.bipush 31, 2) := by decide +kernel
theorem dX12_isKey_4 : decode cX12_isKey 4 = .ok (.invokestatic 133, 3) := by decide +kernel
theorem dX12_isKey_7 : decode cX12_isKey 7 = .ok (.ireturn, 1) := by decide +kernel
theorem dX12_place_0 : decode cX12_place 0 = .ok (.iload_n 1, 1) := by decide +kernel
theorem dX12_place_1 : decode cX12_place 1 = .ok (.ifCond .ne 7, 3) := by decide +kernel
theorem dX12_place_4 : decode cX12_place 4 = .ok (.iconst 5, 1) := by decide +kernel
theorem dX12_place_5 : decode cX12_place 5 = .ok (.goto 25, 3) := by decide +kernel
theorem dX12_place_8 : decode cX12_place 8 = .ok (.iload_n 1, 1) := by decide +kernel
theorem dX12_place_9 : decode cX12_place 9 = .ok (.iconst 1, 1) := by decide +kernel
theorem dX12_place_10 : decode cX12_place 10 = .ok (.if_icmp .ne 8, 3) := by decide +kernel
theorem dX12_place_13 : decode cX12_place 13 = .ok (.bipush 7, 2) := by decide +kernel
theorem dX12_place_15 : decode cX12_place 15 = .ok (.goto 15, 3) := by decide +kernel
theorem dX12_place_18 : decode cX12_place 18 = .ok (.iload_n 1, 1) := by decide +kernel
theorem dX12_place_19 : decode cX12_place 19 = .ok (.iconst 2, 1) := by decide +kernel
theorem dX12_place_20 : decode cX12_place 20 = .ok (.if_icmp .ne 8, 3) := by decide +kernel
theorem dX12_place_23 : decode cX12_place 23 = .ok (.bipush 11, 2) := by decide +kernel
theorem dX12_place_25 : decode cX12_place 25 = .ok (.goto 5, 3) := by decide +kernel
theorem dX12_place_28 : decode cX12_place 28 = .ok (.bipush 13, 2) := by decide +kernel
theorem dX12_place_30 : decode cX12_place 30 = .ok (.istore_n 2, 1) := by decide +kernel
theorem dX12_place_31 : decode cX12_place 31 = .ok (.bipush 16, 2) := by decide +kernel
theorem dX12_place_33 : decode cX12_place 33 = .ok (.iload_n 1, 1) := by decide +kernel
theorem dX12_place_34 : decode cX12_place 34 = .ok (.imul, 1) := by decide +kernel
theorem dX12_place_35 : decode cX12_place 35 = .ok (.iload_n 0, 1) := by decide +kernel
theorem dX12_place_36 : decode cX12_place 36 = .ok (.iload_n 2, 1) := by decide +kernel
theorem dX12_place_37 : decode cX12_place 37 = .ok (.imul, 1) := by decide +kernel
theorem dX12_place_38 : decode cX12_place 38 = .ok (.iconst 3, 1) := by decide +kernel
theorem dX12_place_39 : decode cX12_place 39 = .ok (.iload_n 1, 1) := by decide +kernel
theorem dX12_place_40 : decode cX12_place 40 = .ok (.imul, 1) := by decide +kernel
theorem dX12_place_41 : decode cX12_place 41 = .ok (.iadd, 1) := by decide +kernel
theorem dX12_place_42 : decode cX12_place 42 = .ok (.bipush 15, 2) := by decide +kernel
theorem dX12_place_44 : decode cX12_place 44 = .ok (.iand, 1) := by decide +kernel
theorem dX12_place_45 : decode cX12_place 45 = .ok (.iadd, 1) := by decide +kernel
theorem dX12_place_46 : decode cX12_place 46 = .ok (.ireturn, 1) := by decide +kernel
set_option maxRecDepth 20000 in
theorem ggX12_estimateOf_X12_place : GoodIn wsX12_estimateOf wsX12_place := goodIn_r _ [9] (by decide +kernel) (by decide +kernel)
set_option maxRecDepth 20000 in
theorem gX12_estimateOf_X12_place : GoodIn wsX12_estimateOf (va_wsS RX12 137 yX12_place wsX12_place) := goodIn_app (goodIn_of _ (by decide +kernel)) ggX12_estimateOf_X12_place
theorem dX12_estimateOf_0 : decode cX12_estimateOf 0 = .ok (.bipush 15, 2) := by decide +kernel
theorem dX12_estimateOf_2 : decode cX12_estimateOf 2 = .ok (.istore_n 2, 1) := by decide +kernel
theorem dX12_estimateOf_3 : decode cX12_estimateOf 3 = .ok (.iconst 0, 1) := by decide +kernel
theorem dX12_estimateOf_4 : decode cX12_estimateOf 4 = .ok (.istore_n 3, 1) := by decide +kernel
theorem dX12_estimateOf_5 : decode cX12_estimateOf 5 = .ok (.iload_n 3, 1) := by decide +kernel
theorem dX12_estimateOf_6 : decode cX12_estimateOf 6 = .ok (.iconst 4, 1) := by decide +kernel
theorem dX12_estimateOf_7 : decode cX12_estimateOf 7 = .ok (.if_icmp .ge 24, 3) := by decide +kernel
theorem dX12_estimateOf_10 : decode cX12_estimateOf 10 = .ok (.iload_n 2, 1) := by decide +kernel
theorem dX12_estimateOf_11 : decode cX12_estimateOf 11 = .ok (.aload_n 0, 1) := by decide +kernel
theorem dX12_estimateOf_12 : decode cX12_estimateOf 12 = .ok (.getfield 50, 3) := by decide +kernel
theorem dX12_estimateOf_15 : decode cX12_estimateOf 15 = .ok (.iload_n 1, 1) := by decide +kernel
theorem dX12_estimateOf_16 : decode cX12_estimateOf 16 = .ok (.iload_n 3, 1) := by decide +kernel
theorem dX12_estimateOf_17 : decode cX12_estimateOf 17 = .ok (.invokestatic 137, 3) := by decide +kernel
theorem dX12_estimateOf_20 : decode cX12_estimateOf 20 = .ok (.iaload, 1) := by decide +kernel
theorem dX12_estimateOf_21 : decode cX12_estimateOf 21 = .ok (.invokestatic 141, 3) := by decide +kernel
theorem dX12_estimateOf_24 : decode cX12_estimateOf 24 = .ok (.istore_n 2, 1) := by decide +kernel
theorem dX12_estimateOf_25 : decode cX12_estimateOf 25 = .ok (.iinc 3 1, 3) := by decide +kernel
theorem dX12_estimateOf_28 : decode cX12_estimateOf 28 = .ok (.goto (-23), 3) := by decide +kernel
theorem dX12_estimateOf_31 : decode cX12_estimateOf 31 = .ok (.iload_n 2, 1) := by decide +kernel
theorem dX12_estimateOf_32 : decode cX12_estimateOf 32 = .ok (.ireturn, 1) := by decide +kernel
set_option maxRecDepth 20000 in
theorem ggX12_counts_X12_estimateOf : GoodIn wsX12_counts wsX12_estimateOf := goodIn_ca (goodIn_r _ [8, 1, 9, 10, 11, 12, 13, 14, 7, 15, 16, 17, 18, 19, 20, 21, 22, 23, 24, 25, 26, 27, 28, 29, 30, 31, 32, 33, 34, 35, 36, 37, 38, 39, 40, 41, 42, 43, 44, 45, 46, 47, 48, 49, 50, 51, 52, 53, 54, 55, 56, 57, 58, 59, 60, 61, 62, 63, 64, 65, 66, 67, 68, 69, 70] (by decide +kernel) (by decide +kernel)) (goodIn_sub (fun _ h => List.mem_cons_of_mem _ (List.mem_append_right _ h)) (by decide +kernel))
set_option maxRecDepth 20000 in
theorem gX12_counts_X12_estimateOf : GoodIn wsX12_counts (wsV RX12 146 RX12 yX12_estimateOf wsX12_estimateOf) := goodIn_app (goodIn_of _ (by decide +kernel)) ggX12_counts_X12_estimateOf
set_option maxRecDepth 20000 in
theorem ggX12_counts_X12_place : GoodIn wsX12_counts wsX12_place := goodIn_r _ [15] (by decide +kernel) (by decide +kernel)
set_option maxRecDepth 20000 in
theorem gX12_counts_X12_place : GoodIn wsX12_counts (va_wsS RX12 137 yX12_place wsX12_place) := goodIn_app (goodIn_of _ (by decide +kernel)) ggX12_counts_X12_place
theorem dX12_counts_0 : decode cX12_counts 0 = .ok (.aload_n 0, 1) := by decide +kernel
theorem dX12_counts_1 : decode cX12_counts 1 = .ok (.iload_n 1, 1) := by decide +kernel
theorem dX12_counts_2 : decode cX12_counts 2 = .ok (.invokevirtual 146, 3) := by decide +kernel
theorem dX12_counts_5 : decode cX12_counts 5 = .ok (.istore_n 2, 1) := by decide +kernel
theorem dX12_counts_6 : decode cX12_counts 6 = .ok (.iconst 0, 1) := by decide +kernel
theorem dX12_counts_7 : decode cX12_counts 7 = .ok (.istore_n 3, 1) := by decide +kernel
theorem dX12_counts_8 : decode cX12_counts 8 = .ok (.iload_n 3, 1) := by decide +kernel
theorem dX12_counts_9 : decode cX12_counts 9 = .ok (.iconst 4, 1) := by decide +kernel
theorem dX12_counts_10 : decode cX12_counts 10 = .ok (.if_icmp .ge 53, 3) := by decide +kernel
theorem dX12_counts_13 : decode cX12_counts 13 = .ok (.iload_n 1, 1) := by decide +kernel
theorem dX12_counts_14 : decode cX12_counts 14 = .ok (.iload_n 3, 1) := by decide +kernel
theorem dX12_counts_15 : decode cX12_counts 15 = .ok (.invokestatic 137, 3) := by decide +kernel
theorem dX12_counts_18 : decode cX12_counts 18 = .ok (.istore 4, 2) := by decide +kernel
theorem dX12_counts_20 : decode cX12_counts 20 = .ok (.aload_n 0, 1) := by decide +kernel
theorem dX12_counts_21 : decode cX12_counts 21 = .ok (.getfield 50, 3) := by decide +kernel
theorem dX12_counts_24 : decode cX12_counts 24 = .ok (.iload 4, 2) := by decide +kernel
theorem dX12_counts_26 : decode cX12_counts 26 = .ok (.aload_n 0, 1) := by decide +kernel
theorem dX12_counts_27 : decode cX12_counts 27 = .ok (.getfield 50, 3) := by decide +kernel
theorem dX12_counts_30 : decode cX12_counts 30 = .ok (.iload 4, 2) := by decide +kernel
theorem dX12_counts_32 : decode cX12_counts 32 = .ok (.iaload, 1) := by decide +kernel
theorem dX12_counts_33 : decode cX12_counts 33 = .ok (.iload_n 2, 1) := by decide +kernel
theorem dX12_counts_34 : decode cX12_counts 34 = .ok (.if_icmp .ne 15, 3) := by decide +kernel
theorem dX12_counts_37 : decode cX12_counts 37 = .ok (.iload_n 2, 1) := by decide +kernel
theorem dX12_counts_38 : decode cX12_counts 38 = .ok (.bipush 15, 2) := by decide +kernel
theorem dX12_counts_40 : decode cX12_counts 40 = .ok (.if_icmp .ge 9, 3) := by decide +kernel
theorem dX12_counts_43 : decode cX12_counts 43 = .ok (.iload_n 2, 1) := by decide +kernel
theorem dX12_counts_44 : decode cX12_counts 44 = .ok (.iconst 1, 1) := by decide +kernel
theorem dX12_counts_45 : decode cX12_counts 45 = .ok (.iadd, 1) := by decide +kernel
theorem dX12_counts_46 : decode cX12_counts 46 = .ok (.goto 10, 3) := by decide +kernel
theorem dX12_counts_49 : decode cX12_counts 49 = .ok (.aload_n 0, 1) := by decide +kernel
theorem dX12_counts_50 : decode cX12_counts 50 = .ok (.getfield 50, 3) := by decide +kernel
theorem dX12_counts_53 : decode cX12_counts 53 = .ok (.iload 4, 2) := by decide +kernel
theorem dX12_counts_55 : decode cX12_counts 55 = .ok (.iaload, 1) := by decide +kernel
theorem dX12_counts_56 : decode cX12_counts 56 = .ok (.iastore, 1) := by decide +kernel
theorem dX12_counts_57 : decode cX12_counts 57 = .ok (.iinc 3 1, 3) := by decide +kernel
theorem dX12_counts_60 : decode cX12_counts 60 = .ok (.goto (-52), 3) := by decide +kernel
theorem dX12_counts_63 : decode cX12_counts 63 = .ok (.aload_n 0, 1) := by decide +kernel
theorem dX12_counts_64 : decode cX12_counts 64 = .ok (.dup, 1) := by decide +kernel
theorem dX12_counts_65 : decode cX12_counts 65 = .ok (.getfield 150, 3) := by decide +kernel
theorem dX12_counts_68 : decode cX12_counts 68 = .ok (.iconst 1, 1) := by decide +kernel
theorem dX12_counts_69 : decode cX12_counts 69 = .ok (.iadd, 1) := by decide +kernel
theorem dX12_counts_70 : decode cX12_counts 70 = .ok (.putfield 150, 3) := by decide +kernel
theorem dX12_counts_73 : decode cX12_counts 73 = .ok (.aload_n 0, 1) := by decide +kernel
theorem dX12_counts_74 : decode cX12_counts 74 = .ok (.dup, 1) := by decide +kernel
theorem dX12_counts_75 : decode cX12_counts 75 = .ok (.getfield 153, 3) := by decide +kernel
theorem dX12_counts_78 : decode cX12_counts 78 = .ok (.iconst 1, 1) := by decide +kernel
theorem dX12_counts_79 : decode cX12_counts 79 = .ok (.iadd, 1) := by decide +kernel
theorem dX12_counts_80 : decode cX12_counts 80 = .ok (.putfield 153, 3) := by decide +kernel
theorem dX12_counts_83 : decode cX12_counts 83 = .ok (.iconst 0, 1) := by decide +kernel
theorem dX12_counts_84 : decode cX12_counts 84 = .ok (.istore_n 3, 1) := by decide +kernel
theorem dX12_counts_85 : decode cX12_counts 85 = .ok (.iload_n 3, 1) := by decide +kernel
theorem dX12_counts_86 : decode cX12_counts 86 = .ok (.bipush 64, 2) := by decide +kernel
theorem dX12_counts_88 : decode cX12_counts 88 = .ok (.if_icmp .ge 29, 3) := by decide +kernel
theorem dX12_counts_91 : decode cX12_counts 91 = .ok (.aload_n 0, 1) := by decide +kernel
theorem dX12_counts_92 : decode cX12_counts 92 = .ok (.getfield 153, 3) := by decide +kernel
theorem dX12_counts_95 : decode cX12_counts 95 = .ok (.bipush 64, 2) := by decide +kernel
theorem dX12_counts_97 : decode cX12_counts 97 = .ok (.irem, 1) := by decide +kernel
theorem dX12_counts_98 : decode cX12_counts 98 = .ok (.ifCond .ne 19, 3) := by decide +kernel
theorem dX12_counts_101 : decode cX12_counts 101 = .ok (.aload_n 0, 1) := by decide +kernel
theorem dX12_counts_102 : decode cX12_counts 102 = .ok (.getfield 50, 3) := by decide +kernel
theorem dX12_counts_105 : decode cX12_counts 105 = .ok (.iload_n 3, 1) := by decide +kernel
theorem dX12_counts_106 : decode cX12_counts 106 = .ok (.dup2, 1) := by decide +kernel
theorem dX12_counts_107 : decode cX12_counts 107 = .ok (.iaload, 1) := by decide +kernel
theorem dX12_counts_108 : decode cX12_counts 108 = .ok (.iconst 2, 1) := by decide +kernel
theorem dX12_counts_109 : decode cX12_counts 109 = .ok (.idiv, 1) := by decide +kernel
theorem dX12_counts_110 : decode cX12_counts 110 = .ok (.iastore, 1) := by decide +kernel
theorem dX12_counts_111 : decode cX12_counts 111 = .ok (.iinc 3 1, 3) := by decide +kernel
theorem dX12_counts_114 : decode cX12_counts 114 = .ok (.goto (-29), 3) := by decide +kernel
theorem dX12_counts_117 : decode cX12_counts 117 = .ok (.return_, 1) := by decide +kernel
set_option maxRecDepth 20000 in
theorem ggX12_worth_X12_estimateOf : GoodIn wsX12_worth wsX12_estimateOf := goodIn_ca (goodIn_r _ [6, 7, 8, 9, 10, 11, 12, 13, 5, 14, 15, 16, 17, 18, 19, 20, 21, 22, 23, 24, 25, 26, 27, 28, 29, 30, 31, 32, 33, 34, 35, 36, 37, 38, 39, 40, 41, 42, 43, 44, 45, 46, 47, 48, 49, 50, 51, 52, 53, 54, 55, 56, 57, 58, 59, 60, 61, 62, 63, 64, 65, 66, 67, 68, 69] (by decide +kernel) (by decide +kernel)) (goodIn_sub (fun _ h => List.mem_cons_of_mem _ (List.mem_append_right _ h)) (by decide +kernel))
set_option maxRecDepth 20000 in
theorem gX12_worth_X12_estimateOf : GoodIn wsX12_worth (wsV RX12 146 RX12 yX12_estimateOf wsX12_estimateOf) := goodIn_app (goodIn_of _ (by decide +kernel)) ggX12_worth_X12_estimateOf
theorem dX12_worth_0 : decode cX12_worth 0 = .ok (.aload_n 0, 1) := by decide +kernel
theorem dX12_worth_1 : decode cX12_worth 1 = .ok (.iload_n 1, 1) := by decide +kernel
theorem dX12_worth_2 : decode cX12_worth 2 = .ok (.invokevirtual 146, 3) := by decide +kernel
theorem dX12_worth_5 : decode cX12_worth 5 = .ok (.aload_n 0, 1) := by decide +kernel
theorem dX12_worth_6 : decode cX12_worth 6 = .ok (.getfield 41, 3) := by decide +kernel
theorem dX12_worth_9 : decode cX12_worth 9 = .ok (.iload_n 1, 1) := by decide +kernel
theorem dX12_worth_10 : decode cX12_worth 10 = .ok (.iaload, 1) := by decide +kernel
theorem dX12_worth_11 : decode cX12_worth 11 = .ok (.imul, 1) := by decide +kernel
theorem dX12_worth_12 : decode cX12_worth 12 = .ok (.ireturn, 1) := by decide +kernel
theorem dX12_stores_0 : decode cX12_stores 0 = .ok (.aload_n 0, 1) := by decide +kernel
theorem dX12_stores_1 : decode cX12_stores 1 = .ok (.getfield 13, 3) := by decide +kernel
theorem dX12_stores_4 : decode cX12_stores 4 = .ok (.iload_n 1, 1) := by decide +kernel
theorem dX12_stores_5 : decode cX12_stores 5 = .ok (.dup2, 1) := by decide +kernel
theorem dX12_stores_6 : decode cX12_stores 6 = .ok (.iaload, 1) := by decide +kernel
theorem dX12_stores_7 : decode cX12_stores 7 = .ok (.iconst 1, 1) := by decide +kernel
theorem dX12_stores_8 : decode cX12_stores 8 = .ok (.iadd, 1) := by decide +kernel
theorem dX12_stores_9 : decode cX12_stores 9 = .ok (.iastore, 1) := by decide +kernel
theorem dX12_stores_10 : decode cX12_stores 10 = .ok (.aload_n 0, 1) := by decide +kernel
theorem dX12_stores_11 : decode cX12_stores 11 = .ok (.getfield 7, 3) := by decide +kernel
theorem dX12_stores_14 : decode cX12_stores 14 = .ok (.iload_n 1, 1) := by decide +kernel
theorem dX12_stores_15 : decode cX12_stores 15 = .ok (.iload_n 2, 1) := by decide +kernel
theorem dX12_stores_16 : decode cX12_stores 16 = .ok (.iastore, 1) := by decide +kernel
theorem dX12_stores_17 : decode cX12_stores 17 = .ok (.aload_n 0, 1) := by decide +kernel
theorem dX12_stores_18 : decode cX12_stores 18 = .ok (.getfield 16, 3) := by decide +kernel
theorem dX12_stores_21 : decode cX12_stores 21 = .ok (.aload_n 0, 1) := by decide +kernel
theorem dX12_stores_22 : decode cX12_stores 22 = .ok (.getfield 156, 3) := by decide +kernel
theorem dX12_stores_25 : decode cX12_stores 25 = .ok (.iload_n 1, 1) := by decide +kernel
theorem dX12_stores_26 : decode cX12_stores 26 = .ok (.iastore, 1) := by decide +kernel
theorem dX12_stores_27 : decode cX12_stores 27 = .ok (.aload_n 0, 1) := by decide +kernel
theorem dX12_stores_28 : decode cX12_stores 28 = .ok (.getfield 19, 3) := by decide +kernel
theorem dX12_stores_31 : decode cX12_stores 31 = .ok (.aload_n 0, 1) := by decide +kernel
theorem dX12_stores_32 : decode cX12_stores 32 = .ok (.getfield 156, 3) := by decide +kernel
theorem dX12_stores_35 : decode cX12_stores 35 = .ok (.aload_n 0, 1) := by decide +kernel
theorem dX12_stores_36 : decode cX12_stores 36 = .ok (.getfield 13, 3) := by decide +kernel
theorem dX12_stores_39 : decode cX12_stores 39 = .ok (.iload_n 1, 1) := by decide +kernel
theorem dX12_stores_40 : decode cX12_stores 40 = .ok (.iaload, 1) := by decide +kernel
theorem dX12_stores_41 : decode cX12_stores 41 = .ok (.iastore, 1) := by decide +kernel
theorem dX12_stores_42 : decode cX12_stores 42 = .ok (.aload_n 0, 1) := by decide +kernel
theorem dX12_stores_43 : decode cX12_stores 43 = .ok (.getfield 22, 3) := by decide +kernel
theorem dX12_stores_46 : decode cX12_stores 46 = .ok (.aload_n 0, 1) := by decide +kernel
theorem dX12_stores_47 : decode cX12_stores 47 = .ok (.getfield 156, 3) := by decide +kernel
theorem dX12_stores_50 : decode cX12_stores 50 = .ok (.aload_n 0, 1) := by decide +kernel
theorem dX12_stores_51 : decode cX12_stores 51 = .ok (.getfield 159, 3) := by decide +kernel
theorem dX12_stores_54 : decode cX12_stores 54 = .ok (.iastore, 1) := by decide +kernel
theorem dX12_stores_55 : decode cX12_stores 55 = .ok (.aload_n 0, 1) := by decide +kernel
theorem dX12_stores_56 : decode cX12_stores 56 = .ok (.getfield 25, 3) := by decide +kernel
theorem dX12_stores_59 : decode cX12_stores 59 = .ok (.aload_n 0, 1) := by decide +kernel
theorem dX12_stores_60 : decode cX12_stores 60 = .ok (.getfield 156, 3) := by decide +kernel
theorem dX12_stores_63 : decode cX12_stores 63 = .ok (.iload_n 2, 1) := by decide +kernel
theorem dX12_stores_64 : decode cX12_stores 64 = .ok (.iastore, 1) := by decide +kernel
theorem dX12_stores_65 : decode cX12_stores 65 = .ok (.aload_n 0, 1) := by decide +kernel
theorem dX12_stores_66 : decode cX12_stores 66 = .ok (.getfield 28, 3) := by decide +kernel
theorem dX12_stores_69 : decode cX12_stores 69 = .ok (.aload_n 0, 1) := by decide +kernel
theorem dX12_stores_70 : decode cX12_stores 70 = .ok (.getfield 156, 3) := by decide +kernel
theorem dX12_stores_73 : decode cX12_stores 73 = .ok (.iconst 1, 1) := by decide +kernel
theorem dX12_stores_74 : decode cX12_stores 74 = .ok (.bastore, 1) := by decide +kernel
theorem dX12_stores_75 : decode cX12_stores 75 = .ok (.aload_n 0, 1) := by decide +kernel
theorem dX12_stores_76 : decode cX12_stores 76 = .ok (.dup, 1) := by decide +kernel
theorem dX12_stores_77 : decode cX12_stores 77 = .ok (.getfield 156, 3) := by decide +kernel
theorem dX12_stores_80 : decode cX12_stores 80 = .ok (.iconst 1, 1) := by decide +kernel
theorem dX12_stores_81 : decode cX12_stores 81 = .ok (.iadd, 1) := by decide +kernel
theorem dX12_stores_82 : decode cX12_stores 82 = .ok (.putfield 156, 3) := by decide +kernel
theorem dX12_stores_85 : decode cX12_stores 85 = .ok (.return_, 1) := by decide +kernel
theorem dX12_promiseCount_0 : decode cX12_promiseCount 0 = .ok (.iconst 0, 1) := by decide +kernel
theorem dX12_promiseCount_1 : decode cX12_promiseCount 1 = .ok (.istore_n 1, 1) := by decide +kernel
theorem dX12_promiseCount_2 : decode cX12_promiseCount 2 = .ok (.iconst 0, 1) := by decide +kernel
theorem dX12_promiseCount_3 : decode cX12_promiseCount 3 = .ok (.istore_n 2, 1) := by decide +kernel
theorem dX12_promiseCount_4 : decode cX12_promiseCount 4 = .ok (.iload_n 2, 1) := by decide +kernel
theorem dX12_promiseCount_5 : decode cX12_promiseCount 5 = .ok (.bipush 32, 2) := by decide +kernel
theorem dX12_promiseCount_7 : decode cX12_promiseCount 7 = .ok (.if_icmp .ge 26, 3) := by decide +kernel
theorem dX12_promiseCount_10 : decode cX12_promiseCount 10 = .ok (.iload_n 1, 1) := by decide +kernel
theorem dX12_promiseCount_11 : decode cX12_promiseCount 11 = .ok (.aload_n 0, 1) := by decide +kernel
theorem dX12_promiseCount_12 : decode cX12_promiseCount 12 = .ok (.getfield 71, 3) := by decide +kernel
theorem dX12_promiseCount_15 : decode cX12_promiseCount 15 = .ok (.iload_n 2, 1) := by decide +kernel
theorem dX12_promiseCount_16 : decode cX12_promiseCount 16 = .ok (.baload, 1) := by decide +kernel
theorem dX12_promiseCount_17 : decode cX12_promiseCount 17 = .ok (.ifCond .eq 7, 3) := by decide +kernel
theorem dX12_promiseCount_20 : decode cX12_promiseCount 20 = .ok (.iconst 1, 1) := by decide +kernel
theorem dX12_promiseCount_21 : decode cX12_promiseCount 21 = .ok (.goto 4, 3) := by decide +kernel
theorem dX12_promiseCount_24 : decode cX12_promiseCount 24 = .ok (.iconst 0, 1) := by decide +kernel
theorem dX12_promiseCount_25 : decode cX12_promiseCount 25 = .ok (.iadd, 1) := by decide +kernel
theorem dX12_promiseCount_26 : decode cX12_promiseCount 26 = .ok (.istore_n 1, 1) := by decide +kernel
theorem dX12_promiseCount_27 : decode cX12_promiseCount 27 = .ok (.iinc 2 1, 3) := by decide +kernel
theorem dX12_promiseCount_30 : decode cX12_promiseCount 30 = .ok (.goto (-26), 3) := by decide +kernel
theorem dX12_promiseCount_33 : decode cX12_promiseCount 33 = .ok (.iload_n 1, 1) := by decide +kernel
theorem dX12_promiseCount_34 : decode cX12_promiseCount 34 = .ok (.ireturn, 1) := by decide +kernel
theorem dX12_nextTurn_0 : decode cX12_nextTurn 0 = .ok (.iconst (-1), 1) := by decide +kernel
theorem dX12_nextTurn_1 : decode cX12_nextTurn 1 = .ok (.istore_n 2, 1) := by decide +kernel
theorem dX12_nextTurn_2 : decode cX12_nextTurn 2 = .ok (.iconst 0, 1) := by decide +kernel
theorem dX12_nextTurn_3 : decode cX12_nextTurn 3 = .ok (.istore_n 3, 1) := by decide +kernel
theorem dX12_nextTurn_4 : decode cX12_nextTurn 4 = .ok (.iload_n 3, 1) := by decide +kernel
theorem dX12_nextTurn_5 : decode cX12_nextTurn 5 = .ok (.bipush 32, 2) := by decide +kernel
theorem dX12_nextTurn_7 : decode cX12_nextTurn 7 = .ok (.if_icmp .ge 101, 3) := by decide +kernel
theorem dX12_nextTurn_10 : decode cX12_nextTurn 10 = .ok (.aload_n 0, 1) := by decide +kernel
theorem dX12_nextTurn_11 : decode cX12_nextTurn 11 = .ok (.getfield 71, 3) := by decide +kernel
theorem dX12_nextTurn_14 : decode cX12_nextTurn 14 = .ok (.iload_n 3, 1) := by decide +kernel
theorem dX12_nextTurn_15 : decode cX12_nextTurn 15 = .ok (.baload, 1) := by decide +kernel
theorem dX12_nextTurn_16 : decode cX12_nextTurn 16 = .ok (.ifCond .eq 86, 3) := by decide +kernel
theorem dX12_nextTurn_19 : decode cX12_nextTurn 19 = .ok (.iload_n 1, 1) := by decide +kernel
theorem dX12_nextTurn_20 : decode cX12_nextTurn 20 = .ok (.iconst (-1), 1) := by decide +kernel
theorem dX12_nextTurn_21 : decode cX12_nextTurn 21 = .ok (.if_icmp .eq 13, 3) := by decide +kernel
theorem dX12_nextTurn_24 : decode cX12_nextTurn 24 = .ok (.aload_n 0, 1) := by decide +kernel
theorem dX12_nextTurn_25 : decode cX12_nextTurn 25 = .ok (.getfield 44, 3) := by decide +kernel
theorem dX12_nextTurn_28 : decode cX12_nextTurn 28 = .ok (.iload_n 3, 1) := by decide +kernel
theorem dX12_nextTurn_29 : decode cX12_nextTurn 29 = .ok (.iaload, 1) := by decide +kernel
theorem dX12_nextTurn_30 : decode cX12_nextTurn 30 = .ok (.iload_n 1, 1) := by decide +kernel
theorem dX12_nextTurn_31 : decode cX12_nextTurn 31 = .ok (.if_icmp .ne 71, 3) := by decide +kernel
theorem dX12_nextTurn_34 : decode cX12_nextTurn 34 = .ok (.iload_n 2, 1) := by decide +kernel
theorem dX12_nextTurn_35 : decode cX12_nextTurn 35 = .ok (.iconst (-1), 1) := by decide +kernel
theorem dX12_nextTurn_36 : decode cX12_nextTurn 36 = .ok (.if_icmp .eq 48, 3) := by decide +kernel
theorem dX12_nextTurn_39 : decode cX12_nextTurn 39 = .ok (.aload_n 0, 1) := by decide +kernel
theorem dX12_nextTurn_40 : decode cX12_nextTurn 40 = .ok (.getfield 77, 3) := by decide +kernel
theorem dX12_nextTurn_43 : decode cX12_nextTurn 43 = .ok (.iload_n 3, 1) := by decide +kernel
theorem dX12_nextTurn_44 : decode cX12_nextTurn 44 = .ok (.iaload, 1) := by decide +kernel
theorem dX12_nextTurn_45 : decode cX12_nextTurn 45 = .ok (.aload_n 0, 1) := by decide +kernel
theorem dX12_nextTurn_46 : decode cX12_nextTurn 46 = .ok (.getfield 77, 3) := by decide +kernel
theorem dX12_nextTurn_49 : decode cX12_nextTurn 49 = .ok (.iload_n 2, 1) := by decide +kernel
theorem dX12_nextTurn_50 : decode cX12_nextTurn 50 = .ok (.iaload, 1) := by decide +kernel
theorem dX12_nextTurn_51 : decode cX12_nextTurn 51 = .ok (.if_icmp .lt 33, 3) := by decide +kernel
theorem dX12_nextTurn_54 : decode cX12_nextTurn 54 = .ok (.aload_n 0, 1) := by decide +kernel
theorem dX12_nextTurn_55 : decode cX12_nextTurn 55 = .ok (.getfield 77, 3) := by decide +kernel
theorem dX12_nextTurn_58 : decode cX12_nextTurn 58 = .ok (.iload_n 3, 1) := by decide +kernel
theorem dX12_nextTurn_59 : decode cX12_nextTurn 59 = .ok (.iaload, 1) := by decide +kernel
theorem dX12_nextTurn_60 : decode cX12_nextTurn 60 = .ok (.aload_n 0, 1) := by decide +kernel
theorem dX12_nextTurn_61 : decode cX12_nextTurn 61 = .ok (.getfield 77, 3) := by decide +kernel
theorem dX12_nextTurn_64 : decode cX12_nextTurn 64 = .ok (.iload_n 2, 1) := by decide +kernel
theorem dX12_nextTurn_65 : decode cX12_nextTurn 65 = .ok (.iaload, 1) := by decide +kernel
theorem dX12_nextTurn_66 : decode cX12_nextTurn 66 = .ok (.if_icmp .ne 22, 3) := by decide +kernel
theorem dX12_nextTurn_69 : decode cX12_nextTurn 69 = .ok (.aload_n 0, 1) := by decide +kernel
theorem dX12_nextTurn_70 : decode cX12_nextTurn 70 = .ok (.getfield 41, 3) := by decide +kernel
theorem dX12_nextTurn_73 : decode cX12_nextTurn 73 = .ok (.iload_n 3, 1) := by decide +kernel
theorem dX12_nextTurn_74 : decode cX12_nextTurn 74 = .ok (.iaload, 1) := by decide +kernel
theorem dX12_nextTurn_75 : decode cX12_nextTurn 75 = .ok (.aload_n 0, 1) := by decide +kernel
theorem dX12_nextTurn_76 : decode cX12_nextTurn 76 = .ok (.getfield 41, 3) := by decide +kernel
theorem dX12_nextTurn_79 : decode cX12_nextTurn 79 = .ok (.iload_n 2, 1) := by decide +kernel
theorem dX12_nextTurn_80 : decode cX12_nextTurn 80 = .ok (.iaload, 1) := by decide +kernel
theorem dX12_nextTurn_81 : decode cX12_nextTurn 81 = .ok (.if_icmp .le 7, 3) := by decide +kernel
theorem dX12_nextTurn_84 : decode cX12_nextTurn 84 = .ok (.iconst 1, 1) := by decide +kernel
theorem dX12_nextTurn_85 : decode cX12_nextTurn 85 = .ok (.goto 4, 3) := by decide +kernel
theorem dX12_nextTurn_88 : decode cX12_nextTurn 88 = .ok (.iconst 0, 1) := by decide +kernel
theorem dX12_nextTurn_89 : decode cX12_nextTurn 89 = .ok (.istore 4, 2) := by decide +kernel
theorem dX12_nextTurn_91 : decode cX12_nextTurn 91 = .ok (.iload 4, 2) := by decide +kernel
theorem dX12_nextTurn_93 : decode cX12_nextTurn 93 = .ok (.ifCond .eq 7, 3) := by decide +kernel
theorem dX12_nextTurn_96 : decode cX12_nextTurn 96 = .ok (.iload_n 3, 1) := by decide +kernel
theorem dX12_nextTurn_97 : decode cX12_nextTurn 97 = .ok (.goto 4, 3) := by decide +kernel
theorem dX12_nextTurn_100 : decode cX12_nextTurn 100 = .ok (.iload_n 2, 1) := by decide +kernel
theorem dX12_nextTurn_101 : decode cX12_nextTurn 101 = .ok (.istore_n 2, 1) := by decide +kernel
theorem dX12_nextTurn_102 : decode cX12_nextTurn 102 = .ok (.iinc 3 1, 3) := by decide +kernel
theorem dX12_nextTurn_105 : decode cX12_nextTurn 105 = .ok (.goto (-101), 3) := by decide +kernel
theorem dX12_nextTurn_108 : decode cX12_nextTurn 108 = .ok (.iload_n 2, 1) := by decide +kernel
theorem dX12_nextTurn_109 : decode cX12_nextTurn 109 = .ok (.ireturn, 1) := by decide +kernel
set_option maxRecDepth 20000 in
theorem ggX12_keepsPromise_X12_stores : GoodIn wsX12_keepsPromise wsX12_stores := goodIn_ca (goodIn_r _ [12, 5, 13, 14, 15, 16, 17, 7, 18, 19, 20, 21, 22, 23, 24, 25, 26, 27, 28, 29, 30, 31, 32, 33, 34, 35, 36, 37, 38, 39, 40, 41, 42, 43, 44, 45, 46, 47, 48, 49, 50, 51, 52, 53, 54, 55, 56, 57, 58, 59, 60, 61, 62, 63, 64, 65, 66, 67, 68, 69, 70, 71, 72, 73, 74] (by decide +kernel) (by decide +kernel)) (goodIn_sub (fun _ h => List.mem_cons_of_mem _ (List.mem_append_right _ h)) (by decide +kernel))
set_option maxRecDepth 20000 in
theorem gX12_keepsPromise_X12_stores : GoodIn wsX12_keepsPromise (wsV RX12 162 RX12 yX12_stores wsX12_stores) := goodIn_app (goodIn_of _ (by decide +kernel)) ggX12_keepsPromise_X12_stores
theorem dX12_keepsPromise_0 : decode cX12_keepsPromise 0 = .ok (.aload_n 0, 1) := by decide +kernel
theorem dX12_keepsPromise_1 : decode cX12_keepsPromise 1 = .ok (.iload_n 1, 1) := by decide +kernel
theorem dX12_keepsPromise_2 : decode cX12_keepsPromise 2 = .ok (.aload_n 0, 1) := by decide +kernel
theorem dX12_keepsPromise_3 : decode cX12_keepsPromise 3 = .ok (.getfield 74, 3) := by decide +kernel
theorem dX12_keepsPromise_6 : decode cX12_keepsPromise 6 = .ok (.iload_n 1, 1) := by decide +kernel
theorem dX12_keepsPromise_7 : decode cX12_keepsPromise 7 = .ok (.iaload, 1) := by decide +kernel
theorem dX12_keepsPromise_8 : decode cX12_keepsPromise 8 = .ok (.invokevirtual 162, 3) := by decide +kernel
theorem dX12_keepsPromise_11 : decode cX12_keepsPromise 11 = .ok (.aload_n 0, 1) := by decide +kernel
theorem dX12_keepsPromise_12 : decode cX12_keepsPromise 12 = .ok (.getfield 71, 3) := by decide +kernel
theorem dX12_keepsPromise_15 : decode cX12_keepsPromise 15 = .ok (.iload_n 1, 1) := by decide +kernel
theorem dX12_keepsPromise_16 : decode cX12_keepsPromise 16 = .ok (.iconst 0, 1) := by decide +kernel
theorem dX12_keepsPromise_17 : decode cX12_keepsPromise 17 = .ok (.bastore, 1) := by decide +kernel
theorem dX12_keepsPromise_18 : decode cX12_keepsPromise 18 = .ok (.aload_n 0, 1) := by decide +kernel
theorem dX12_keepsPromise_19 : decode cX12_keepsPromise 19 = .ok (.getfield 53, 3) := by decide +kernel
theorem dX12_keepsPromise_22 : decode cX12_keepsPromise 22 = .ok (.iload_n 1, 1) := by decide +kernel
theorem dX12_keepsPromise_23 : decode cX12_keepsPromise 23 = .ok (.baload, 1) := by decide +kernel
theorem dX12_keepsPromise_24 : decode cX12_keepsPromise 24 = .ok (.ifCond .eq 25, 3) := by decide +kernel
theorem dX12_keepsPromise_27 : decode cX12_keepsPromise 27 = .ok (.aload_n 0, 1) := by decide +kernel
theorem dX12_keepsPromise_28 : decode cX12_keepsPromise 28 = .ok (.getfield 59, 3) := by decide +kernel
theorem dX12_keepsPromise_31 : decode cX12_keepsPromise 31 = .ok (.iload_n 1, 1) := by decide +kernel
theorem dX12_keepsPromise_32 : decode cX12_keepsPromise 32 = .ok (.aload_n 0, 1) := by decide +kernel
theorem dX12_keepsPromise_33 : decode cX12_keepsPromise 33 = .ok (.getfield 13, 3) := by decide +kernel
theorem dX12_keepsPromise_36 : decode cX12_keepsPromise 36 = .ok (.iload_n 1, 1) := by decide +kernel
theorem dX12_keepsPromise_37 : decode cX12_keepsPromise 37 = .ok (.iaload, 1) := by decide +kernel
theorem dX12_keepsPromise_38 : decode cX12_keepsPromise 38 = .ok (.iastore, 1) := by decide +kernel
theorem dX12_keepsPromise_39 : decode cX12_keepsPromise 39 = .ok (.aload_n 0, 1) := by decide +kernel
theorem dX12_keepsPromise_40 : decode cX12_keepsPromise 40 = .ok (.getfield 62, 3) := by decide +kernel
theorem dX12_keepsPromise_43 : decode cX12_keepsPromise 43 = .ok (.iload_n 1, 1) := by decide +kernel
theorem dX12_keepsPromise_44 : decode cX12_keepsPromise 44 = .ok (.aload_n 0, 1) := by decide +kernel
theorem dX12_keepsPromise_45 : decode cX12_keepsPromise 45 = .ok (.getfield 159, 3) := by decide +kernel
theorem dX12_keepsPromise_48 : decode cX12_keepsPromise 48 = .ok (.iastore, 1) := by decide +kernel
theorem dX12_keepsPromise_49 : decode cX12_keepsPromise 49 = .ok (.return_, 1) := by decide +kernel
theorem dX12_nextPlace_0 : decode cX12_nextPlace 0 = .ok (.aload_n 0, 1) := by decide +kernel
theorem dX12_nextPlace_1 : decode cX12_nextPlace 1 = .ok (.getfield 166, 3) := by decide +kernel
theorem dX12_nextPlace_4 : decode cX12_nextPlace 4 = .ok (.istore_n 1, 1) := by decide +kernel
theorem dX12_nextPlace_5 : decode cX12_nextPlace 5 = .ok (.iload_n 1, 1) := by decide +kernel
theorem dX12_nextPlace_6 : decode cX12_nextPlace 6 = .ok (.iconst 4, 1) := by decide +kernel
theorem dX12_nextPlace_7 : decode cX12_nextPlace 7 = .ok (.irem, 1) := by decide +kernel
theorem dX12_nextPlace_8 : decode cX12_nextPlace 8 = .ok (.ifCond .ne 89, 3) := by decide +kernel
theorem dX12_nextPlace_11 : decode cX12_nextPlace 11 = .ok (.iload_n 1, 1) := by decide +kernel
theorem dX12_nextPlace_12 : decode cX12_nextPlace 12 = .ok (.istore_n 2, 1) := by decide +kernel
theorem dX12_nextPlace_13 : decode cX12_nextPlace 13 = .ok (.iload_n 2, 1) := by decide +kernel
theorem dX12_nextPlace_14 : decode cX12_nextPlace 14 = .ok (.iload_n 1, 1) := by decide +kernel
theorem dX12_nextPlace_15 : decode cX12_nextPlace 15 = .ok (.iconst 4, 1) := by decide +kernel
theorem dX12_nextPlace_16 : decode cX12_nextPlace 16 = .ok (.iadd, 1) := by decide +kernel
theorem dX12_nextPlace_17 : decode cX12_nextPlace 17 = .ok (.if_icmp .ge 16, 3) := by decide +kernel
theorem dX12_nextPlace_20 : decode cX12_nextPlace 20 = .ok (.aload_n 0, 1) := by decide +kernel
theorem dX12_nextPlace_21 : decode cX12_nextPlace 21 = .ok (.getfield 80, 3) := by decide +kernel
theorem dX12_nextPlace_24 : decode cX12_nextPlace 24 = .ok (.iload_n 2, 1) := by decide +kernel
theorem dX12_nextPlace_25 : decode cX12_nextPlace 25 = .ok (.iconst (-1), 1) := by decide +kernel
theorem dX12_nextPlace_26 : decode cX12_nextPlace 26 = .ok (.iastore, 1) := by decide +kernel
theorem dX12_nextPlace_27 : decode cX12_nextPlace 27 = .ok (.iinc 2 1, 3) := by decide +kernel
theorem dX12_nextPlace_30 : decode cX12_nextPlace 30 = .ok (.goto (-17), 3) := by decide +kernel
theorem dX12_nextPlace_33 : decode cX12_nextPlace 33 = .ok (.aload_n 0, 1) := by decide +kernel
theorem dX12_nextPlace_34 : decode cX12_nextPlace 34 = .ok (.getfield 98, 3) := by decide +kernel
theorem dX12_nextPlace_37 : decode cX12_nextPlace 37 = .ok (.iload_n 1, 1) := by decide +kernel
theorem dX12_nextPlace_38 : decode cX12_nextPlace 38 = .ok (.iconst 4, 1) := by decide +kernel
theorem dX12_nextPlace_39 : decode cX12_nextPlace 39 = .ok (.idiv, 1) := by decide +kernel
theorem dX12_nextPlace_40 : decode cX12_nextPlace 40 = .ok (.dup2, 1) := by decide +kernel
theorem dX12_nextPlace_41 : decode cX12_nextPlace 41 = .ok (.iaload, 1) := by decide +kernel
theorem dX12_nextPlace_42 : decode cX12_nextPlace 42 = .ok (.iconst 1, 1) := by decide +kernel
theorem dX12_nextPlace_43 : decode cX12_nextPlace 43 = .ok (.iadd, 1) := by decide +kernel
theorem dX12_nextPlace_44 : decode cX12_nextPlace 44 = .ok (.iastore, 1) := by decide +kernel
theorem dX12_nextPlace_45 : decode cX12_nextPlace 45 = .ok (.iconst 0, 1) := by decide +kernel
theorem dX12_nextPlace_46 : decode cX12_nextPlace 46 = .ok (.istore_n 2, 1) := by decide +kernel
theorem dX12_nextPlace_47 : decode cX12_nextPlace 47 = .ok (.iload_n 2, 1) := by decide +kernel
theorem dX12_nextPlace_48 : decode cX12_nextPlace 48 = .ok (.bipush 32, 2) := by decide +kernel
theorem dX12_nextPlace_50 : decode cX12_nextPlace 50 = .ok (.if_icmp .ge 47, 3) := by decide +kernel
theorem dX12_nextPlace_53 : decode cX12_nextPlace 53 = .ok (.aload_n 0, 1) := by decide +kernel
theorem dX12_nextPlace_54 : decode cX12_nextPlace 54 = .ok (.getfield 101, 3) := by decide +kernel
theorem dX12_nextPlace_57 : decode cX12_nextPlace 57 = .ok (.iload_n 2, 1) := by decide +kernel
theorem dX12_nextPlace_58 : decode cX12_nextPlace 58 = .ok (.aload_n 0, 1) := by decide +kernel
theorem dX12_nextPlace_59 : decode cX12_nextPlace 59 = .ok (.getfield 101, 3) := by decide +kernel
theorem dX12_nextPlace_62 : decode cX12_nextPlace 62 = .ok (.iload_n 2, 1) := by decide +kernel
theorem dX12_nextPlace_63 : decode cX12_nextPlace 63 = .ok (.iaload, 1) := by decide +kernel
theorem dX12_nextPlace_64 : decode cX12_nextPlace 64 = .ok (.iload_n 1, 1) := by decide +kernel
theorem dX12_nextPlace_65 : decode cX12_nextPlace 65 = .ok (.if_icmp .lt 19, 3) := by decide +kernel
theorem dX12_nextPlace_68 : decode cX12_nextPlace 68 = .ok (.aload_n 0, 1) := by decide +kernel
theorem dX12_nextPlace_69 : decode cX12_nextPlace 69 = .ok (.getfield 101, 3) := by decide +kernel
theorem dX12_nextPlace_72 : decode cX12_nextPlace 72 = .ok (.iload_n 2, 1) := by decide +kernel
theorem dX12_nextPlace_73 : decode cX12_nextPlace 73 = .ok (.iaload, 1) := by decide +kernel
theorem dX12_nextPlace_74 : decode cX12_nextPlace 74 = .ok (.iload_n 1, 1) := by decide +kernel
theorem dX12_nextPlace_75 : decode cX12_nextPlace 75 = .ok (.iconst 4, 1) := by decide +kernel
theorem dX12_nextPlace_76 : decode cX12_nextPlace 76 = .ok (.iadd, 1) := by decide +kernel
theorem dX12_nextPlace_77 : decode cX12_nextPlace 77 = .ok (.if_icmp .ge 7, 3) := by decide +kernel
theorem dX12_nextPlace_80 : decode cX12_nextPlace 80 = .ok (.iconst (-1), 1) := by decide +kernel
theorem dX12_nextPlace_81 : decode cX12_nextPlace 81 = .ok (.goto 9, 3) := by decide +kernel
theorem dX12_nextPlace_84 : decode cX12_nextPlace 84 = .ok (.aload_n 0, 1) := by decide +kernel
theorem dX12_nextPlace_85 : decode cX12_nextPlace 85 = .ok (.getfield 101, 3) := by decide +kernel
theorem dX12_nextPlace_88 : decode cX12_nextPlace 88 = .ok (.iload_n 2, 1) := by decide +kernel
theorem dX12_nextPlace_89 : decode cX12_nextPlace 89 = .ok (.iaload, 1) := by decide +kernel
theorem dX12_nextPlace_90 : decode cX12_nextPlace 90 = .ok (.iastore, 1) := by decide +kernel
theorem dX12_nextPlace_91 : decode cX12_nextPlace 91 = .ok (.iinc 2 1, 3) := by decide +kernel
theorem dX12_nextPlace_94 : decode cX12_nextPlace 94 = .ok (.goto (-47), 3) := by decide +kernel
theorem dX12_nextPlace_97 : decode cX12_nextPlace 97 = .ok (.aload_n 0, 1) := by decide +kernel
theorem dX12_nextPlace_98 : decode cX12_nextPlace 98 = .ok (.iload_n 1, 1) := by decide +kernel
theorem dX12_nextPlace_99 : decode cX12_nextPlace 99 = .ok (.iconst 1, 1) := by decide +kernel
theorem dX12_nextPlace_100 : decode cX12_nextPlace 100 = .ok (.iadd, 1) := by decide +kernel
theorem dX12_nextPlace_101 : decode cX12_nextPlace 101 = .ok (.bipush 16, 2) := by decide +kernel
theorem dX12_nextPlace_103 : decode cX12_nextPlace 103 = .ok (.irem, 1) := by decide +kernel
theorem dX12_nextPlace_104 : decode cX12_nextPlace 104 = .ok (.putfield 166, 3) := by decide +kernel
theorem dX12_nextPlace_107 : decode cX12_nextPlace 107 = .ok (.aload_n 0, 1) := by decide +kernel
theorem dX12_nextPlace_108 : decode cX12_nextPlace 108 = .ok (.dup, 1) := by decide +kernel
theorem dX12_nextPlace_109 : decode cX12_nextPlace 109 = .ok (.getfield 169, 3) := by decide +kernel
theorem dX12_nextPlace_112 : decode cX12_nextPlace 112 = .ok (.iconst 1, 1) := by decide +kernel
theorem dX12_nextPlace_113 : decode cX12_nextPlace 113 = .ok (.iadd, 1) := by decide +kernel
theorem dX12_nextPlace_114 : decode cX12_nextPlace 114 = .ok (.putfield 169, 3) := by decide +kernel
theorem dX12_nextPlace_117 : decode cX12_nextPlace 117 = .ok (.aload_n 0, 1) := by decide +kernel
theorem dX12_nextPlace_118 : decode cX12_nextPlace 118 = .ok (.getfield 95, 3) := by decide +kernel
theorem dX12_nextPlace_121 : decode cX12_nextPlace 121 = .ok (.iload_n 1, 1) := by decide +kernel
theorem dX12_nextPlace_122 : decode cX12_nextPlace 122 = .ok (.aload_n 0, 1) := by decide +kernel
theorem dX12_nextPlace_123 : decode cX12_nextPlace 123 = .ok (.getfield 169, 3) := by decide +kernel
theorem dX12_nextPlace_126 : decode cX12_nextPlace 126 = .ok (.iastore, 1) := by decide +kernel
theorem dX12_nextPlace_127 : decode cX12_nextPlace 127 = .ok (.iload_n 1, 1) := by decide +kernel
theorem dX12_nextPlace_128 : decode cX12_nextPlace 128 = .ok (.ireturn, 1) := by decide +kernel
set_option maxRecDepth 20000 in
theorem ggX12_toFlash_X12_nextPlace : GoodIn wsX12_toFlash wsX12_nextPlace := goodIn_ca (goodIn_r _ [15, 16, 1, 17, 10, 18, 19, 20, 21, 22, 23, 24, 25, 26, 27, 28, 29, 30, 31, 32, 33, 34, 35, 36, 37, 38, 39, 40, 41, 42, 43, 44, 45, 46, 47, 48, 49, 50, 51, 52, 53, 54, 55, 56, 57, 58, 59, 60, 61, 62, 63, 64, 65, 66, 67, 68, 69, 70, 71, 72, 73, 74] (by decide +kernel) (by decide +kernel)) (goodIn_sub (fun _ h => List.mem_cons_of_mem _ (List.mem_append_right _ h)) (by decide +kernel))
set_option maxRecDepth 20000 in
theorem gX12_toFlash_X12_nextPlace : GoodIn wsX12_toFlash (wsV RX12 172 RX12 yX12_nextPlace wsX12_nextPlace) := goodIn_app (goodIn_of _ (by decide +kernel)) ggX12_toFlash_X12_nextPlace
theorem dX12_toFlash_0 : decode cX12_toFlash 0 = .ok (.aload_n 0, 1) := by decide +kernel
theorem dX12_toFlash_1 : decode cX12_toFlash 1 = .ok (.invokevirtual 172, 3) := by decide +kernel
theorem dX12_toFlash_4 : decode cX12_toFlash 4 = .ok (.istore_n 2, 1) := by decide +kernel
theorem dX12_toFlash_5 : decode cX12_toFlash 5 = .ok (.aload_n 0, 1) := by decide +kernel
theorem dX12_toFlash_6 : decode cX12_toFlash 6 = .ok (.getfield 80, 3) := by decide +kernel
theorem dX12_toFlash_9 : decode cX12_toFlash 9 = .ok (.iload_n 2, 1) := by decide +kernel
theorem dX12_toFlash_10 : decode cX12_toFlash 10 = .ok (.iload_n 1, 1) := by decide +kernel
theorem dX12_toFlash_11 : decode cX12_toFlash 11 = .ok (.iastore, 1) := by decide +kernel
theorem dX12_toFlash_12 : decode cX12_toFlash 12 = .ok (.aload_n 0, 1) := by decide +kernel
theorem dX12_toFlash_13 : decode cX12_toFlash 13 = .ok (.getfield 83, 3) := by decide +kernel
theorem dX12_toFlash_16 : decode cX12_toFlash 16 = .ok (.iload_n 2, 1) := by decide +kernel
theorem dX12_toFlash_17 : decode cX12_toFlash 17 = .ok (.aload_n 0, 1) := by decide +kernel
theorem dX12_toFlash_18 : decode cX12_toFlash 18 = .ok (.getfield 56, 3) := by decide +kernel
theorem dX12_toFlash_21 : decode cX12_toFlash 21 = .ok (.iload_n 1, 1) := by decide +kernel
theorem dX12_toFlash_22 : decode cX12_toFlash 22 = .ok (.iaload, 1) := by decide +kernel
theorem dX12_toFlash_23 : decode cX12_toFlash 23 = .ok (.iastore, 1) := by decide +kernel
theorem dX12_toFlash_24 : decode cX12_toFlash 24 = .ok (.aload_n 0, 1) := by decide +kernel
theorem dX12_toFlash_25 : decode cX12_toFlash 25 = .ok (.getfield 86, 3) := by decide +kernel
theorem dX12_toFlash_28 : decode cX12_toFlash 28 = .ok (.iload_n 2, 1) := by decide +kernel
theorem dX12_toFlash_29 : decode cX12_toFlash 29 = .ok (.aload_n 0, 1) := by decide +kernel
theorem dX12_toFlash_30 : decode cX12_toFlash 30 = .ok (.getfield 59, 3) := by decide +kernel
theorem dX12_toFlash_33 : decode cX12_toFlash 33 = .ok (.iload_n 1, 1) := by decide +kernel
theorem dX12_toFlash_34 : decode cX12_toFlash 34 = .ok (.iaload, 1) := by decide +kernel
theorem dX12_toFlash_35 : decode cX12_toFlash 35 = .ok (.iastore, 1) := by decide +kernel
theorem dX12_toFlash_36 : decode cX12_toFlash 36 = .ok (.aload_n 0, 1) := by decide +kernel
theorem dX12_toFlash_37 : decode cX12_toFlash 37 = .ok (.getfield 89, 3) := by decide +kernel
theorem dX12_toFlash_40 : decode cX12_toFlash 40 = .ok (.iload_n 2, 1) := by decide +kernel
theorem dX12_toFlash_41 : decode cX12_toFlash 41 = .ok (.aload_n 0, 1) := by decide +kernel
theorem dX12_toFlash_42 : decode cX12_toFlash 42 = .ok (.getfield 62, 3) := by decide +kernel
theorem dX12_toFlash_45 : decode cX12_toFlash 45 = .ok (.iload_n 1, 1) := by decide +kernel
theorem dX12_toFlash_46 : decode cX12_toFlash 46 = .ok (.iaload, 1) := by decide +kernel
theorem dX12_toFlash_47 : decode cX12_toFlash 47 = .ok (.iastore, 1) := by decide +kernel
theorem dX12_toFlash_48 : decode cX12_toFlash 48 = .ok (.aload_n 0, 1) := by decide +kernel
theorem dX12_toFlash_49 : decode cX12_toFlash 49 = .ok (.getfield 92, 3) := by decide +kernel
theorem dX12_toFlash_52 : decode cX12_toFlash 52 = .ok (.iload_n 2, 1) := by decide +kernel
theorem dX12_toFlash_53 : decode cX12_toFlash 53 = .ok (.aload_n 0, 1) := by decide +kernel
theorem dX12_toFlash_54 : decode cX12_toFlash 54 = .ok (.getfield 65, 3) := by decide +kernel
theorem dX12_toFlash_57 : decode cX12_toFlash 57 = .ok (.iload_n 1, 1) := by decide +kernel
theorem dX12_toFlash_58 : decode cX12_toFlash 58 = .ok (.iaload, 1) := by decide +kernel
theorem dX12_toFlash_59 : decode cX12_toFlash 59 = .ok (.iastore, 1) := by decide +kernel
theorem dX12_toFlash_60 : decode cX12_toFlash 60 = .ok (.aload_n 0, 1) := by decide +kernel
theorem dX12_toFlash_61 : decode cX12_toFlash 61 = .ok (.getfield 101, 3) := by decide +kernel
theorem dX12_toFlash_64 : decode cX12_toFlash 64 = .ok (.iload_n 1, 1) := by decide +kernel
theorem dX12_toFlash_65 : decode cX12_toFlash 65 = .ok (.iload_n 2, 1) := by decide +kernel
theorem dX12_toFlash_66 : decode cX12_toFlash 66 = .ok (.iastore, 1) := by decide +kernel
theorem dX12_toFlash_67 : decode cX12_toFlash 67 = .ok (.return_, 1) := by decide +kernel
set_option maxRecDepth 20000 in
theorem ggX12_takesOut_X12_nextPlace : GoodIn wsX12_takesOut wsX12_nextPlace := goodIn_ca (goodIn_r _ [7, 8, 2, 9, 1, 10, 11, 12, 13, 14, 15, 16, 17, 18, 19, 20, 21, 22, 23, 24, 25, 26, 27, 28, 29, 30, 31, 32, 33, 34, 35, 36, 37, 38, 39, 40, 41, 42, 43, 44, 45, 46, 47, 48, 49, 50, 51, 52, 53, 54, 55, 56, 57, 58, 59, 60, 61, 62, 63, 64, 65, 66] (by decide +kernel) (by decide +kernel)) (goodIn_sub (fun _ h => List.mem_cons_of_mem _ (List.mem_append_right _ h)) (by decide +kernel))
set_option maxRecDepth 20000 in
theorem gX12_takesOut_X12_nextPlace : GoodIn wsX12_takesOut (wsV RX12 172 RX12 yX12_nextPlace wsX12_nextPlace) := goodIn_app (goodIn_of _ (by decide +kernel)) ggX12_takesOut_X12_nextPlace
theorem dX12_takesOut_0 : decode cX12_takesOut 0 = .ok (.aload_n 0, 1) := by decide +kernel
theorem dX12_takesOut_1 : decode cX12_takesOut 1 = .ok (.getfield 101, 3) := by decide +kernel
theorem dX12_takesOut_4 : decode cX12_takesOut 4 = .ok (.iload_n 1, 1) := by decide +kernel
theorem dX12_takesOut_5 : decode cX12_takesOut 5 = .ok (.iaload, 1) := by decide +kernel
theorem dX12_takesOut_6 : decode cX12_takesOut 6 = .ok (.iconst (-1), 1) := by decide +kernel
theorem dX12_takesOut_7 : decode cX12_takesOut 7 = .ok (.if_icmp .eq 25, 3) := by decide +kernel
theorem dX12_takesOut_10 : decode cX12_takesOut 10 = .ok (.aload_n 0, 1) := by decide +kernel
theorem dX12_takesOut_11 : decode cX12_takesOut 11 = .ok (.invokevirtual 172, 3) := by decide +kernel
theorem dX12_takesOut_14 : decode cX12_takesOut 14 = .ok (.istore_n 2, 1) := by decide +kernel
theorem dX12_takesOut_15 : decode cX12_takesOut 15 = .ok (.aload_n 0, 1) := by decide +kernel
theorem dX12_takesOut_16 : decode cX12_takesOut 16 = .ok (.getfield 80, 3) := by decide +kernel
theorem dX12_takesOut_19 : decode cX12_takesOut 19 = .ok (.iload_n 2, 1) := by decide +kernel
theorem dX12_takesOut_20 : decode cX12_takesOut 20 = .ok (.bipush 100, 2) := by decide +kernel
theorem dX12_takesOut_22 : decode cX12_takesOut 22 = .ok (.iload_n 1, 1) := by decide +kernel
theorem dX12_takesOut_23 : decode cX12_takesOut 23 = .ok (.iadd, 1) := by decide +kernel
theorem dX12_takesOut_24 : decode cX12_takesOut 24 = .ok (.iastore, 1) := by decide +kernel
theorem dX12_takesOut_25 : decode cX12_takesOut 25 = .ok (.aload_n 0, 1) := by decide +kernel
theorem dX12_takesOut_26 : decode cX12_takesOut 26 = .ok (.getfield 101, 3) := by decide +kernel
theorem dX12_takesOut_29 : decode cX12_takesOut 29 = .ok (.iload_n 1, 1) := by decide +kernel
theorem dX12_takesOut_30 : decode cX12_takesOut 30 = .ok (.iconst (-1), 1) := by decide +kernel
theorem dX12_takesOut_31 : decode cX12_takesOut 31 = .ok (.iastore, 1) := by decide +kernel
theorem dX12_takesOut_32 : decode cX12_takesOut 32 = .ok (.return_, 1) := by decide +kernel
theorem dX12_usedNow_0 : decode cX12_usedNow 0 = .ok (.iconst 0, 1) := by decide +kernel
theorem dX12_usedNow_1 : decode cX12_usedNow 1 = .ok (.istore_n 1, 1) := by decide +kernel
theorem dX12_usedNow_2 : decode cX12_usedNow 2 = .ok (.iconst 0, 1) := by decide +kernel
theorem dX12_usedNow_3 : decode cX12_usedNow 3 = .ok (.istore_n 2, 1) := by decide +kernel
theorem dX12_usedNow_4 : decode cX12_usedNow 4 = .ok (.iload_n 2, 1) := by decide +kernel
theorem dX12_usedNow_5 : decode cX12_usedNow 5 = .ok (.bipush 32, 2) := by decide +kernel
theorem dX12_usedNow_7 : decode cX12_usedNow 7 = .ok (.if_icmp .ge 31, 3) := by decide +kernel
theorem dX12_usedNow_10 : decode cX12_usedNow 10 = .ok (.iload_n 1, 1) := by decide +kernel
theorem dX12_usedNow_11 : decode cX12_usedNow 11 = .ok (.aload_n 0, 1) := by decide +kernel
theorem dX12_usedNow_12 : decode cX12_usedNow 12 = .ok (.getfield 53, 3) := by decide +kernel
theorem dX12_usedNow_15 : decode cX12_usedNow 15 = .ok (.iload_n 2, 1) := by decide +kernel
theorem dX12_usedNow_16 : decode cX12_usedNow 16 = .ok (.baload, 1) := by decide +kernel
theorem dX12_usedNow_17 : decode cX12_usedNow 17 = .ok (.ifCond .eq 12, 3) := by decide +kernel
theorem dX12_usedNow_20 : decode cX12_usedNow 20 = .ok (.aload_n 0, 1) := by decide +kernel
theorem dX12_usedNow_21 : decode cX12_usedNow 21 = .ok (.getfield 38, 3) := by decide +kernel
theorem dX12_usedNow_24 : decode cX12_usedNow 24 = .ok (.iload_n 2, 1) := by decide +kernel
theorem dX12_usedNow_25 : decode cX12_usedNow 25 = .ok (.iaload, 1) := by decide +kernel
theorem dX12_usedNow_26 : decode cX12_usedNow 26 = .ok (.goto 4, 3) := by decide +kernel
theorem dX12_usedNow_29 : decode cX12_usedNow 29 = .ok (.iconst 0, 1) := by decide +kernel
theorem dX12_usedNow_30 : decode cX12_usedNow 30 = .ok (.iadd, 1) := by decide +kernel
theorem dX12_usedNow_31 : decode cX12_usedNow 31 = .ok (.istore_n 1, 1) := by decide +kernel
theorem dX12_usedNow_32 : decode cX12_usedNow 32 = .ok (.iinc 2 1, 3) := by decide +kernel
theorem dX12_usedNow_35 : decode cX12_usedNow 35 = .ok (.goto (-31), 3) := by decide +kernel
theorem dX12_usedNow_38 : decode cX12_usedNow 38 = .ok (.iload_n 1, 1) := by decide +kernel
theorem dX12_usedNow_39 : decode cX12_usedNow 39 = .ok (.ireturn, 1) := by decide +kernel
theorem dX12_uses_0 : decode cX12_uses 0 = .ok (.aload_n 0, 1) := by decide +kernel
theorem dX12_uses_1 : decode cX12_uses 1 = .ok (.dup, 1) := by decide +kernel
theorem dX12_uses_2 : decode cX12_uses 2 = .ok (.getfield 176, 3) := by decide +kernel
theorem dX12_uses_5 : decode cX12_uses 5 = .ok (.iconst 1, 1) := by decide +kernel
theorem dX12_uses_6 : decode cX12_uses 6 = .ok (.iadd, 1) := by decide +kernel
theorem dX12_uses_7 : decode cX12_uses 7 = .ok (.putfield 176, 3) := by decide +kernel
theorem dX12_uses_10 : decode cX12_uses 10 = .ok (.aload_n 0, 1) := by decide +kernel
theorem dX12_uses_11 : decode cX12_uses 11 = .ok (.getfield 68, 3) := by decide +kernel
theorem dX12_uses_14 : decode cX12_uses 14 = .ok (.iload_n 1, 1) := by decide +kernel
theorem dX12_uses_15 : decode cX12_uses 15 = .ok (.aload_n 0, 1) := by decide +kernel
theorem dX12_uses_16 : decode cX12_uses 16 = .ok (.getfield 176, 3) := by decide +kernel
theorem dX12_uses_19 : decode cX12_uses 19 = .ok (.iastore, 1) := by decide +kernel
theorem dX12_uses_20 : decode cX12_uses 20 = .ok (.return_, 1) := by decide +kernel
set_option maxRecDepth 20000 in
theorem ggX12_victim_X12_worth : GoodIn wsX12_victim wsX12_worth := goodIn_ca (goodIn_r _ [9, 10, 11, 12, 13, 8, 14, 15, 16, 17, 18, 19, 20, 21, 22, 23, 24, 25, 26, 27, 28, 29, 30, 31, 32, 33, 34, 35, 36, 37, 38, 39, 40, 41, 42, 43, 44, 45, 46, 47, 48, 49, 50, 51, 52, 53, 54, 55, 56, 57, 58, 59, 60, 61, 62, 63, 64, 65, 66, 67, 68, 69, 70, 71, 72, 73, 74, 75, 76, 77] (by decide +kernel) (by decide +kernel)) (goodIn_sub (fun _ h => List.mem_cons_of_mem _ (List.mem_append_right _ h)) (by decide +kernel))
set_option maxRecDepth 20000 in
theorem gX12_victim_X12_worth : GoodIn wsX12_victim (wsV RX12 179 RX12 yX12_worth wsX12_worth) := goodIn_app (goodIn_of _ (by decide +kernel)) ggX12_victim_X12_worth
theorem dX12_victim_0 : decode cX12_victim 0 = .ok (.iconst (-1), 1) := by decide +kernel
theorem dX12_victim_1 : decode cX12_victim 1 = .ok (.istore_n 2, 1) := by decide +kernel
theorem dX12_victim_2 : decode cX12_victim 2 = .ok (.iconst 0, 1) := by decide +kernel
theorem dX12_victim_3 : decode cX12_victim 3 = .ok (.istore_n 3, 1) := by decide +kernel
theorem dX12_victim_4 : decode cX12_victim 4 = .ok (.iload_n 3, 1) := by decide +kernel
theorem dX12_victim_5 : decode cX12_victim 5 = .ok (.bipush 32, 2) := by decide +kernel
theorem dX12_victim_7 : decode cX12_victim 7 = .ok (.if_icmp .ge 105, 3) := by decide +kernel
theorem dX12_victim_10 : decode cX12_victim 10 = .ok (.aload_n 0, 1) := by decide +kernel
theorem dX12_victim_11 : decode cX12_victim 11 = .ok (.getfield 53, 3) := by decide +kernel
theorem dX12_victim_14 : decode cX12_victim 14 = .ok (.iload_n 3, 1) := by decide +kernel
theorem dX12_victim_15 : decode cX12_victim 15 = .ok (.baload, 1) := by decide +kernel
theorem dX12_victim_16 : decode cX12_victim 16 = .ok (.ifCond .eq 90, 3) := by decide +kernel
theorem dX12_victim_19 : decode cX12_victim 19 = .ok (.iload_n 3, 1) := by decide +kernel
theorem dX12_victim_20 : decode cX12_victim 20 = .ok (.iload_n 1, 1) := by decide +kernel
theorem dX12_victim_21 : decode cX12_victim 21 = .ok (.if_icmp .eq 85, 3) := by decide +kernel
theorem dX12_victim_24 : decode cX12_victim 24 = .ok (.aload_n 0, 1) := by decide +kernel
theorem dX12_victim_25 : decode cX12_victim 25 = .ok (.getfield 71, 3) := by decide +kernel
theorem dX12_victim_28 : decode cX12_victim 28 = .ok (.iload_n 3, 1) := by decide +kernel
theorem dX12_victim_29 : decode cX12_victim 29 = .ok (.baload, 1) := by decide +kernel
theorem dX12_victim_30 : decode cX12_victim 30 = .ok (.ifCond .ne 76, 3) := by decide +kernel
theorem dX12_victim_33 : decode cX12_victim 33 = .ok (.aload_n 0, 1) := by decide +kernel
theorem dX12_victim_34 : decode cX12_victim 34 = .ok (.getfield 126, 3) := by decide +kernel
theorem dX12_victim_37 : decode cX12_victim 37 = .ok (.iload_n 3, 1) := by decide +kernel
theorem dX12_victim_38 : decode cX12_victim 38 = .ok (.baload, 1) := by decide +kernel
theorem dX12_victim_39 : decode cX12_victim 39 = .ok (.ifCond .ne 67, 3) := by decide +kernel
theorem dX12_victim_42 : decode cX12_victim 42 = .ok (.iload_n 2, 1) := by decide +kernel
theorem dX12_victim_43 : decode cX12_victim 43 = .ok (.iconst (-1), 1) := by decide +kernel
theorem dX12_victim_44 : decode cX12_victim 44 = .ok (.if_icmp .eq 44, 3) := by decide +kernel
theorem dX12_victim_47 : decode cX12_victim 47 = .ok (.aload_n 0, 1) := by decide +kernel
theorem dX12_victim_48 : decode cX12_victim 48 = .ok (.iload_n 3, 1) := by decide +kernel
theorem dX12_victim_49 : decode cX12_victim 49 = .ok (.invokevirtual 179, 3) := by decide +kernel
