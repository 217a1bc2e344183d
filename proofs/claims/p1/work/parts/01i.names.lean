theorem dX12_slot_16 : decode cX12_slot 16 = .ok (.iconst 3, 1) := by decide +kernel
theorem dX12_slot_17 : decode cX12_slot 17 = .ok (.invokestatic 133, 3) := by decide +kernel
theorem dX12_slot_20 : decode cX12_slot 20 = .ok (.ifCond .eq 16, 3) := by decide +kernel
theorem dX12_slot_23 : decode cX12_slot 23 = .ok (.aload_n 0, 1) := by decide +kernel
theorem dX12_slot_24 : decode cX12_slot 24 = .ok (.getfield 80, 3) := by decide +kernel
theorem dX12_slot_27 : decode cX12_slot 27 = .ok (.iconst 4, 1) := by decide +kernel
theorem dX12_slot_28 : decode cX12_slot 28 = .ok (.iload_n 1, 1) := by decide +kernel
theorem dX12_slot_29 : decode cX12_slot 29 = .ok (.imul, 1) := by decide +kernel
theorem dX12_slot_30 : decode cX12_slot 30 = .ok (.iload_n 2, 1) := by decide +kernel
theorem dX12_slot_31 : decode cX12_slot 31 = .ok (.iadd, 1) := by decide +kernel
theorem dX12_slot_32 : decode cX12_slot 32 = .ok (.iaload, 1) := by decide +kernel
theorem dX12_slot_33 : decode cX12_slot 33 = .ok (.goto 8, 3) := by decide +kernel
theorem dX12_slot_36 : decode cX12_slot 36 = .ok (.aload_n 0, 1) := by decide +kernel
theorem dX12_slot_37 : decode cX12_slot 37 = .ok (.iconst 1, 1) := by decide +kernel
theorem dX12_slot_38 : decode cX12_slot 38 = .ok (.invokevirtual 201, 3) := by decide +kernel
theorem dX12_slot_41 : decode cX12_slot 41 = .ok (.ireturn, 1) := by decide +kernel
set_option maxRecDepth 20000 in
theorem ggX12_wear_X12_in : GoodIn wsX12_wear wsX12_in := goodIn_r _ [6] (by decide +kernel) (by decide +kernel)
set_option maxRecDepth 20000 in
theorem gX12_wear_X12_in : GoodIn wsX12_wear (va_wsS RX12 133 yX12_in wsX12_in) := goodIn_app (goodIn_of _ (by decide +kernel)) ggX12_wear_X12_in
set_option maxRecDepth 20000 in
theorem ggX12_wear_X12_fails : GoodIn wsX12_wear wsX12_fails := goodIn_r _ [10, 1, 11, 12, 13, 14, 15, 16, 17, 18, 19, 20, 21, 22, 23, 24, 25, 26, 27, 28, 29, 30, 31, 32, 33, 34, 35, 36, 37, 38, 39, 40, 41, 42, 43, 44, 45, 46, 47, 48, 49, 50, 51, 52, 53, 54, 55, 56, 57, 58, 59, 60, 61, 62, 63, 64, 65] (by decide +kernel) (by decide +kernel)
set_option maxRecDepth 20000 in
theorem gX12_wear_X12_fails : GoodIn wsX12_wear (wsV RX12 201 RX12 yX12_fails wsX12_fails) := goodIn_app (goodIn_of _ (by decide +kernel)) ggX12_wear_X12_fails
theorem dX12_wear_0 : decode cX12_wear 0 = .ok (.aload_n 0, 1) := by decide +kernel
theorem dX12_wear_1 : decode cX12_wear 1 = .ok (.iconst 0, 1) := by decide +kernel
theorem dX12_wear_2 : decode cX12_wear 2 = .ok (.putfield 129, 3) := by decide +kernel
theorem dX12_wear_5 : decode cX12_wear 5 = .ok (.iload_n 1, 1) := by decide +kernel
theorem dX12_wear_6 : decode cX12_wear 6 = .ok (.iconst 0, 1) := by decide +kernel
theorem dX12_wear_7 : decode cX12_wear 7 = .ok (.iconst 3, 1) := by decide +kernel
theorem dX12_wear_8 : decode cX12_wear 8 = .ok (.invokestatic 133, 3) := by decide +kernel
theorem dX12_wear_11 : decode cX12_wear 11 = .ok (.ifCond .eq 12, 3) := by decide +kernel
theorem dX12_wear_14 : decode cX12_wear 14 = .ok (.aload_n 0, 1) := by decide +kernel
theorem dX12_wear_15 : decode cX12_wear 15 = .ok (.getfield 98, 3) := by decide +kernel
theorem dX12_wear_18 : decode cX12_wear 18 = .ok (.iload_n 1, 1) := by decide +kernel
theorem dX12_wear_19 : decode cX12_wear 19 = .ok (.iaload, 1) := by decide +kernel
theorem dX12_wear_20 : decode cX12_wear 20 = .ok (.goto 8, 3) := by decide +kernel
theorem dX12_wear_23 : decode cX12_wear 23 = .ok (.aload_n 0, 1) := by decide +kernel
theorem dX12_wear_24 : decode cX12_wear 24 = .ok (.iconst 1, 1) := by decide +kernel
theorem dX12_wear_25 : decode cX12_wear 25 = .ok (.invokevirtual 201, 3) := by decide +kernel
theorem dX12_wear_28 : decode cX12_wear 28 = .ok (.ireturn, 1) := by decide +kernel
set_option maxRecDepth 20000 in
theorem ggX12_stored_X12_isKey : GoodIn wsX12_stored wsX12_isKey := goodIn_r _ [6, 7, 8, 5, 9] (by decide +kernel) (by decide +kernel)
set_option maxRecDepth 20000 in
theorem gX12_stored_X12_isKey : GoodIn wsX12_stored (va_wsS RX12 197 yX12_isKey wsX12_isKey) := goodIn_app (goodIn_of _ (by decide +kernel)) ggX12_stored_X12_isKey
set_option maxRecDepth 20000 in
theorem ggX12_stored_X12_fails : GoodIn wsX12_stored wsX12_fails := goodIn_r _ [13, 1, 14, 15, 16, 17, 18, 19, 20, 21, 22, 23, 24, 25, 26, 27, 28, 29, 30, 31, 32, 33, 34, 35, 36, 37, 38, 39, 40, 41, 42, 43, 44, 45, 46, 47, 48, 49, 50, 51, 52, 53, 54, 55, 56, 57, 58, 59, 60, 61, 62, 63, 64, 65, 66, 67, 68] (by decide +kernel) (by decide +kernel)
set_option maxRecDepth 20000 in
theorem gX12_stored_X12_fails : GoodIn wsX12_stored (wsV RX12 201 RX12 yX12_fails wsX12_fails) := goodIn_app (goodIn_of _ (by decide +kernel)) ggX12_stored_X12_fails
theorem dX12_stored_0 : decode cX12_stored 0 = .ok (.aload_n 0, 1) := by decide +kernel
theorem dX12_stored_1 : decode cX12_stored 1 = .ok (.iconst 0, 1) := by decide +kernel
theorem dX12_stored_2 : decode cX12_stored 2 = .ok (.putfield 129, 3) := by decide +kernel
theorem dX12_stored_5 : decode cX12_stored 5 = .ok (.iload_n 1, 1) := by decide +kernel
theorem dX12_stored_6 : decode cX12_stored 6 = .ok (.invokestatic 197, 3) := by decide +kernel
theorem dX12_stored_9 : decode cX12_stored 9 = .ok (.ifCond .eq 12, 3) := by decide +kernel
theorem dX12_stored_12 : decode cX12_stored 12 = .ok (.aload_n 0, 1) := by decide +kernel
theorem dX12_stored_13 : decode cX12_stored 13 = .ok (.getfield 7, 3) := by decide +kernel
theorem dX12_stored_16 : decode cX12_stored 16 = .ok (.iload_n 1, 1) := by decide +kernel
theorem dX12_stored_17 : decode cX12_stored 17 = .ok (.iaload, 1) := by decide +kernel
theorem dX12_stored_18 : decode cX12_stored 18 = .ok (.goto 8, 3) := by decide +kernel
theorem dX12_stored_21 : decode cX12_stored 21 = .ok (.aload_n 0, 1) := by decide +kernel
theorem dX12_stored_22 : decode cX12_stored 22 = .ok (.iconst 1, 1) := by decide +kernel
theorem dX12_stored_23 : decode cX12_stored 23 = .ok (.invokevirtual 201, 3) := by decide +kernel
theorem dX12_stored_26 : decode cX12_stored 26 = .ok (.ireturn, 1) := by decide +kernel
set_option maxRecDepth 20000 in
theorem ggX12_promises_X12_promiseCount : GoodIn wsX12_promises wsX12_promiseCount := goodIn_ca (goodIn_r _ [6, 7, 8, 9, 10, 11, 12, 13, 14, 15, 16, 17, 18, 19, 20, 21, 22, 23, 24, 25, 26, 27, 28, 29, 30, 31, 32, 33, 34, 35, 36, 37, 38, 39, 40, 41, 42, 43, 44, 45, 46, 47, 48, 49, 50, 51, 52, 53, 54, 55, 56, 57, 58, 59, 60, 61, 62] (by decide +kernel) (by decide +kernel)) (goodIn_sub (fun _ h => List.mem_cons_of_mem _ (List.mem_append_right _ h)) (by decide +kernel))
set_option maxRecDepth 20000 in
theorem gX12_promises_X12_promiseCount : GoodIn wsX12_promises (wsV RX12 268 RX12 yX12_promiseCount wsX12_promiseCount) := goodIn_app (goodIn_of _ (by decide +kernel)) ggX12_promises_X12_promiseCount
theorem dX12_promises_0 : decode cX12_promises 0 = .ok (.aload_n 0, 1) := by decide +kernel
theorem dX12_promises_1 : decode cX12_promises 1 = .ok (.iconst 0, 1) := by decide +kernel
theorem dX12_promises_2 : decode cX12_promises 2 = .ok (.putfield 129, 3) := by decide +kernel
theorem dX12_promises_5 : decode cX12_promises 5 = .ok (.aload_n 0, 1) := by decide +kernel
theorem dX12_promises_6 : decode cX12_promises 6 = .ok (.invokevirtual 268, 3) := by decide +kernel
theorem dX12_promises_9 : decode cX12_promises 9 = .ok (.ireturn, 1) := by decide +kernel
set_option maxRecDepth 20000 in
theorem ggX12_nextPromise_X12_nextTurn : GoodIn wsX12_nextPromise wsX12_nextTurn := goodIn_ca (goodIn_r _ [6, 7, 8, 9, 10, 15, 16, 17, 18, 19, 20, 21, 22, 23, 24, 25, 26, 27, 28, 29, 30, 31, 32, 33, 34, 35, 36, 37, 38, 39, 40, 41, 42, 43, 44, 45, 46, 47, 48, 49, 50, 51, 52, 53, 54, 55, 56, 57, 58, 59, 60, 61, 62, 63, 64, 65, 66, 67, 68, 69] (by decide +kernel) (by decide +kernel)) (goodIn_sub (fun _ h => List.mem_cons_of_mem _ (List.mem_append_right _ h)) (by decide +kernel))
set_option maxRecDepth 20000 in
theorem gX12_nextPromise_X12_nextTurn : GoodIn wsX12_nextPromise (wsV RX12 280 RX12 yX12_nextTurn wsX12_nextTurn) := goodIn_app (goodIn_of _ (by decide +kernel)) ggX12_nextPromise_X12_nextTurn
set_option maxRecDepth 20000 in
theorem ggX12_nextPromise_X12_fails : GoodIn wsX12_nextPromise wsX12_fails := goodIn_r _ [14, 1, 15, 16, 17, 18, 19, 20, 21, 22, 23, 24, 25, 26, 27, 28, 29, 30, 31, 32, 33, 34, 35, 36, 37, 38, 39, 40, 41, 42, 43, 44, 45, 46, 47, 48, 49, 50, 51, 52, 53, 54, 55, 56, 57, 58, 59, 60, 61, 62, 63, 64, 65, 66, 67, 68, 69] (by decide +kernel) (by decide +kernel)
set_option maxRecDepth 20000 in
theorem gX12_nextPromise_X12_fails : GoodIn wsX12_nextPromise (wsV RX12 201 RX12 yX12_fails wsX12_fails) := goodIn_app (goodIn_of _ (by decide +kernel)) ggX12_nextPromise_X12_fails
theorem dX12_nextPromise_0 : decode cX12_nextPromise 0 = .ok (.aload_n 0, 1) := by decide +kernel
theorem dX12_nextPromise_1 : decode cX12_nextPromise 1 = .ok (.iconst 0, 1) := by decide +kernel
theorem dX12_nextPromise_2 : decode cX12_nextPromise 2 = .ok (.putfield 129, 3) := by decide +kernel
theorem dX12_nextPromise_5 : decode cX12_nextPromise 5 = .ok (.aload_n 0, 1) := by decide +kernel
theorem dX12_nextPromise_6 : decode cX12_nextPromise 6 = .ok (.iconst (-1), 1) := by decide +kernel
theorem dX12_nextPromise_7 : decode cX12_nextPromise 7 = .ok (.invokevirtual 280, 3) := by decide +kernel
theorem dX12_nextPromise_10 : decode cX12_nextPromise 10 = .ok (.istore_n 1, 1) := by decide +kernel
theorem dX12_nextPromise_11 : decode cX12_nextPromise 11 = .ok (.iload_n 1, 1) := by decide +kernel
theorem dX12_nextPromise_12 : decode cX12_nextPromise 12 = .ok (.iconst (-1), 1) := by decide +kernel
theorem dX12_nextPromise_13 : decode cX12_nextPromise 13 = .ok (.if_icmp .ne 11, 3) := by decide +kernel
theorem dX12_nextPromise_16 : decode cX12_nextPromise 16 = .ok (.aload_n 0, 1) := by decide +kernel
theorem dX12_nextPromise_17 : decode cX12_nextPromise 17 = .ok (.iconst 1, 1) := by decide +kernel
theorem dX12_nextPromise_18 : decode cX12_nextPromise 18 = .ok (.invokevirtual 201, 3) := by decide +kernel
theorem dX12_nextPromise_21 : decode cX12_nextPromise 21 = .ok (.goto 4, 3) := by decide +kernel
theorem dX12_nextPromise_24 : decode cX12_nextPromise 24 = .ok (.iload_n 1, 1) := by decide +kernel
theorem dX12_nextPromise_25 : decode cX12_nextPromise 25 = .ok (.ireturn, 1) := by decide +kernel
theorem dX12_underWay_0 : decode cX12_underWay 0 = .ok (.iconst 0, 1) := by decide +kernel
theorem dX12_underWay_1 : decode cX12_underWay 1 = .ok (.istore_n 1, 1) := by decide +kernel
theorem dX12_underWay_2 : decode cX12_underWay 2 = .ok (.iconst 0, 1) := by decide +kernel
theorem dX12_underWay_3 : decode cX12_underWay 3 = .ok (.istore_n 2, 1) := by decide +kernel
theorem dX12_underWay_4 : decode cX12_underWay 4 = .ok (.iload_n 2, 1) := by decide +kernel
theorem dX12_underWay_5 : decode cX12_underWay 5 = .ok (.aload_n 0, 1) := by decide +kernel
theorem dX12_underWay_6 : decode cX12_underWay 6 = .ok (.getfield 156, 3) := by decide +kernel
theorem dX12_underWay_9 : decode cX12_underWay 9 = .ok (.if_icmp .ge 26, 3) := by decide +kernel
theorem dX12_underWay_12 : decode cX12_underWay 12 = .ok (.iload_n 1, 1) := by decide +kernel
theorem dX12_underWay_13 : decode cX12_underWay 13 = .ok (.aload_n 0, 1) := by decide +kernel
theorem dX12_underWay_14 : decode cX12_underWay 14 = .ok (.getfield 28, 3) := by decide +kernel
theorem dX12_underWay_17 : decode cX12_underWay 17 = .ok (.iload_n 2, 1) := by decide +kernel
theorem dX12_underWay_18 : decode cX12_underWay 18 = .ok (.baload, 1) := by decide +kernel
theorem dX12_underWay_19 : decode cX12_underWay 19 = .ok (.ifCond .eq 7, 3) := by decide +kernel
theorem dX12_underWay_22 : decode cX12_underWay 22 = .ok (.iconst 1, 1) := by decide +kernel
theorem dX12_underWay_23 : decode cX12_underWay 23 = .ok (.goto 4, 3) := by decide +kernel
theorem dX12_underWay_26 : decode cX12_underWay 26 = .ok (.iconst 0, 1) := by decide +kernel
theorem dX12_underWay_27 : decode cX12_underWay 27 = .ok (.iadd, 1) := by decide +kernel
theorem dX12_underWay_28 : decode cX12_underWay 28 = .ok (.istore_n 1, 1) := by decide +kernel
theorem dX12_underWay_29 : decode cX12_underWay 29 = .ok (.iinc 2 1, 3) := by decide +kernel
theorem dX12_underWay_32 : decode cX12_underWay 32 = .ok (.goto (-28), 3) := by decide +kernel
theorem dX12_underWay_35 : decode cX12_underWay 35 = .ok (.iload_n 1, 1) := by decide +kernel
theorem dX12_underWay_36 : decode cX12_underWay 36 = .ok (.ireturn, 1) := by decide +kernel
set_option maxRecDepth 20000 in
theorem ggX12_messages_X12_underWay : GoodIn wsX12_messages wsX12_underWay := goodIn_ca (goodIn_r _ [6, 7, 8, 9, 10, 11, 12, 13, 14, 15, 16, 17, 18, 19, 20, 21, 22, 23, 24, 25, 26, 27, 28, 29, 30, 31, 32, 33, 34, 35, 36, 37, 38, 39, 40, 41, 42, 43, 44, 45, 46, 47, 48, 49, 50, 51, 52, 53, 54, 55, 56, 57, 58, 59, 60, 61, 62, 63] (by decide +kernel) (by decide +kernel)) (goodIn_sub (fun _ h => List.mem_cons_of_mem _ (List.mem_append_right _ h)) (by decide +kernel))
set_option maxRecDepth 20000 in
theorem gX12_messages_X12_underWay : GoodIn wsX12_messages (wsV RX12 286 RX12 yX12_underWay wsX12_underWay) := goodIn_app (goodIn_of _ (by decide +kernel)) ggX12_messages_X12_underWay
theorem dX12_messages_0 : decode cX12_messages 0 = .ok (.aload_n 0, 1) := by decide +kernel
theorem dX12_messages_1 : decode cX12_messages 1 = .ok (.iconst 0, 1) := by decide +kernel
theorem dX12_messages_2 : decode cX12_messages 2 = .ok (.putfield 129, 3) := by decide +kernel
theorem dX12_messages_5 : decode cX12_messages 5 = .ok (.aload_n 0, 1) := by decide +kernel
theorem dX12_messages_6 : decode cX12_messages 6 = .ok (.invokevirtual 286, 3) := by decide +kernel
theorem dX12_messages_9 : decode cX12_messages 9 = .ok (.ireturn, 1) := by decide +kernel
set_option maxRecDepth 20000 in
theorem ggX12_deliver_X12_underWay : GoodIn wsX12_deliver wsX12_underWay := goodIn_ca (goodIn_r _ [12, 13, 2, 17, 18, 19, 20, 21, 22, 23, 24, 25, 26, 27, 28, 29, 30, 31, 32, 33, 34, 35, 36, 37, 38, 39, 40, 41, 42, 43, 44, 45, 46, 47, 48, 49, 50, 51, 52, 53, 54, 55, 56, 57, 58, 59, 60, 61, 62, 63, 64, 65, 66, 67, 68, 69, 70, 71] (by decide +kernel) (by decide +kernel)) (goodIn_sub (fun _ h => List.mem_cons_of_mem _ (List.mem_append_right _ h)) (by decide +kernel))
set_option maxRecDepth 20000 in
theorem gX12_deliver_X12_underWay : GoodIn wsX12_deliver (wsV RX12 286 RX12 yX12_underWay wsX12_underWay) := goodIn_app (goodIn_of _ (by decide +kernel)) ggX12_deliver_X12_underWay
set_option maxRecDepth 20000 in
theorem ggX12_deliver_X12_in : GoodIn wsX12_deliver wsX12_in := goodIn_r _ [16] (by decide +kernel) (by decide +kernel)
set_option maxRecDepth 20000 in
theorem gX12_deliver_X12_in : GoodIn wsX12_deliver (va_wsS RX12 133 yX12_in wsX12_in) := goodIn_app (goodIn_of _ (by decide +kernel)) ggX12_deliver_X12_in
theorem dX12_deliver_0 : decode cX12_deliver 0 = .ok (.aload_n 0, 1) := by decide +kernel
theorem dX12_deliver_1 : decode cX12_deliver 1 = .ok (.iload_n 1, 1) := by decide +kernel
theorem dX12_deliver_2 : decode cX12_deliver 2 = .ok (.iconst 0, 1) := by decide +kernel
theorem dX12_deliver_3 : decode cX12_deliver 3 = .ok (.aload_n 0, 1) := by decide +kernel
theorem dX12_deliver_4 : decode cX12_deliver 4 = .ok (.invokevirtual 286, 3) := by decide +kernel
theorem dX12_deliver_7 : decode cX12_deliver 7 = .ok (.iconst 1, 1) := by decide +kernel
theorem dX12_deliver_8 : decode cX12_deliver 8 = .ok (.isub, 1) := by decide +kernel
theorem dX12_deliver_9 : decode cX12_deliver 9 = .ok (.invokestatic 133, 3) := by decide +kernel
theorem dX12_deliver_12 : decode cX12_deliver 12 = .ok (.ifCond .eq 7, 3) := by decide +kernel
theorem dX12_deliver_15 : decode cX12_deliver 15 = .ok (.iconst 0, 1) := by decide +kernel
theorem dX12_deliver_16 : decode cX12_deliver 16 = .ok (.goto 4, 3) := by decide +kernel
theorem dX12_deliver_19 : decode cX12_deliver 19 = .ok (.iconst 1, 1) := by decide +kernel
theorem dX12_deliver_20 : decode cX12_deliver 20 = .ok (.putfield 129, 3) := by decide +kernel
theorem dX12_deliver_23 : decode cX12_deliver 23 = .ok (.aload_n 0, 1) := by decide +kernel
theorem dX12_deliver_24 : decode cX12_deliver 24 = .ok (.getfield 129, 3) := by decide +kernel
theorem dX12_deliver_27 : decode cX12_deliver 27 = .ok (.ifCond .le 5, 3) := by decide +kernel
theorem dX12_deliver_30 : decode cX12_deliver 30 = .ok (.iconst 0, 1) := by decide +kernel
theorem dX12_deliver_31 : decode cX12_deliver 31 = .ok (.ireturn, 1) := by decide +kernel
theorem dX12_deliver_32 : decode cX12_deliver 32 = .ok (.iconst 0, 1) := by decide +kernel
theorem dX12_deliver_33 : decode cX12_deliver 33 = .ok (.istore_n 2, 1) := by decide +kernel
theorem dX12_deliver_34 : decode cX12_deliver 34 = .ok (.iload_n 1, 1) := by decide +kernel
theorem dX12_deliver_35 : decode cX12_deliver 35 = .ok (.istore_n 3, 1) := by decide +kernel
theorem dX12_deliver_36 : decode cX12_deliver 36 = .ok (.aload_n 0, 1) := by decide +kernel
theorem dX12_deliver_37 : decode cX12_deliver 37 = .ok (.getfield 28, 3) := by decide +kernel
theorem dX12_deliver_40 : decode cX12_deliver 40 = .ok (.iload_n 2, 1) := by decide +kernel
theorem dX12_deliver_41 : decode cX12_deliver 41 = .ok (.baload, 1) := by decide +kernel
theorem dX12_deliver_42 : decode cX12_deliver 42 = .ok (.ifCond .eq 7, 3) := by decide +kernel
theorem dX12_deliver_45 : decode cX12_deliver 45 = .ok (.iload_n 3, 1) := by decide +kernel
theorem dX12_deliver_46 : decode cX12_deliver 46 = .ok (.ifCond .le 26, 3) := by decide +kernel
theorem dX12_deliver_49 : decode cX12_deliver 49 = .ok (.iload_n 3, 1) := by decide +kernel
theorem dX12_deliver_50 : decode cX12_deliver 50 = .ok (.aload_n 0, 1) := by decide +kernel
theorem dX12_deliver_51 : decode cX12_deliver 51 = .ok (.getfield 28, 3) := by decide +kernel
theorem dX12_deliver_54 : decode cX12_deliver 54 = .ok (.iload_n 2, 1) := by decide +kernel
theorem dX12_deliver_55 : decode cX12_deliver 55 = .ok (.baload, 1) := by decide +kernel
theorem dX12_deliver_56 : decode cX12_deliver 56 = .ok (.ifCond .eq 7, 3) := by decide +kernel
theorem dX12_deliver_59 : decode cX12_deliver 59 = .ok (.iconst 1, 1) := by decide +kernel
theorem dX12_deliver_60 : decode cX12_deliver 60 = .ok (.goto 4, 3) := by decide +kernel
theorem dX12_deliver_63 : decode cX12_deliver 63 = .ok (.iconst 0, 1) := by decide +kernel
theorem dX12_deliver_64 : decode cX12_deliver 64 = .ok (.isub, 1) := by decide +kernel
theorem dX12_deliver_65 : decode cX12_deliver 65 = .ok (.istore_n 3, 1) := by decide +kernel
theorem dX12_deliver_66 : decode cX12_deliver 66 = .ok (.iinc 2 1, 3) := by decide +kernel
theorem dX12_deliver_69 : decode cX12_deliver 69 = .ok (.goto (-33), 3) := by decide +kernel
theorem dX12_deliver_72 : decode cX12_deliver 72 = .ok (.aload_n 0, 1) := by decide +kernel
theorem dX12_deliver_73 : decode cX12_deliver 73 = .ok (.getfield 28, 3) := by decide +kernel
theorem dX12_deliver_76 : decode cX12_deliver 76 = .ok (.iload_n 2, 1) := by decide +kernel
theorem dX12_deliver_77 : decode cX12_deliver 77 = .ok (.iconst 0, 1) := by decide +kernel
theorem dX12_deliver_78 : decode cX12_deliver 78 = .ok (.bastore, 1) := by decide +kernel
theorem dX12_deliver_79 : decode cX12_deliver 79 = .ok (.aload_n 0, 1) := by decide +kernel
theorem dX12_deliver_80 : decode cX12_deliver 80 = .ok (.getfield 16, 3) := by decide +kernel
theorem dX12_deliver_83 : decode cX12_deliver 83 = .ok (.iload_n 2, 1) := by decide +kernel
theorem dX12_deliver_84 : decode cX12_deliver 84 = .ok (.iaload, 1) := by decide +kernel
theorem dX12_deliver_85 : decode cX12_deliver 85 = .ok (.istore 4, 2) := by decide +kernel
theorem dX12_deliver_87 : decode cX12_deliver 87 = .ok (.aload_n 0, 1) := by decide +kernel
theorem dX12_deliver_88 : decode cX12_deliver 88 = .ok (.getfield 19, 3) := by decide +kernel
theorem dX12_deliver_91 : decode cX12_deliver 91 = .ok (.iload_n 2, 1) := by decide +kernel
theorem dX12_deliver_92 : decode cX12_deliver 92 = .ok (.iaload, 1) := by decide +kernel
theorem dX12_deliver_93 : decode cX12_deliver 93 = .ok (.aload_n 0, 1) := by decide +kernel
theorem dX12_deliver_94 : decode cX12_deliver 94 = .ok (.getfield 35, 3) := by decide +kernel
theorem dX12_deliver_97 : decode cX12_deliver 97 = .ok (.iload 4, 2) := by decide +kernel
theorem dX12_deliver_99 : decode cX12_deliver 99 = .ok (.iaload, 1) := by decide +kernel
theorem dX12_deliver_100 : decode cX12_deliver 100 = .ok (.if_icmp .le 7, 3) := by decide +kernel
theorem dX12_deliver_103 : decode cX12_deliver 103 = .ok (.iconst 1, 1) := by decide +kernel
theorem dX12_deliver_104 : decode cX12_deliver 104 = .ok (.goto 4, 3) := by decide +kernel
theorem dX12_deliver_107 : decode cX12_deliver 107 = .ok (.iconst 0, 1) := by decide +kernel
theorem dX12_deliver_108 : decode cX12_deliver 108 = .ok (.istore 5, 2) := by decide +kernel
theorem dX12_deliver_110 : decode cX12_deliver 110 = .ok (.aload_n 0, 1) := by decide +kernel
theorem dX12_deliver_111 : decode cX12_deliver 111 = .ok (.getfield 32, 3) := by decide +kernel
theorem dX12_deliver_114 : decode cX12_deliver 114 = .ok (.iload 4, 2) := by decide +kernel
theorem dX12_deliver_116 : decode cX12_deliver 116 = .ok (.iload 5, 2) := by decide +kernel
theorem dX12_deliver_118 : decode cX12_deliver 118 = .ok (.ifCond .eq 12, 3) := by decide +kernel
theorem dX12_deliver_121 : decode cX12_deliver 121 = .ok (.aload_n 0, 1) := by decide +kernel
theorem dX12_deliver_122 : decode cX12_deliver 122 = .ok (.getfield 25, 3) := by decide +kernel
theorem dX12_deliver_125 : decode cX12_deliver 125 = .ok (.iload_n 2, 1) := by decide +kernel
theorem dX12_deliver_126 : decode cX12_deliver 126 = .ok (.iaload, 1) := by decide +kernel
theorem dX12_deliver_127 : decode cX12_deliver 127 = .ok (.goto 10, 3) := by decide +kernel
theorem dX12_deliver_130 : decode cX12_deliver 130 = .ok (.aload_n 0, 1) := by decide +kernel
theorem dX12_deliver_131 : decode cX12_deliver 131 = .ok (.getfield 32, 3) := by decide +kernel
theorem dX12_deliver_134 : decode cX12_deliver 134 = .ok (.iload 4, 2) := by decide +kernel
theorem dX12_deliver_136 : decode cX12_deliver 136 = .ok (.iaload, 1) := by decide +kernel
theorem dX12_deliver_137 : decode cX12_deliver 137 = .ok (.iastore, 1) := by decide +kernel
theorem dX12_deliver_138 : decode cX12_deliver 138 = .ok (.aload_n 0, 1) := by decide +kernel
theorem dX12_deliver_139 : decode cX12_deliver 139 = .ok (.getfield 35, 3) := by decide +kernel
theorem dX12_deliver_142 : decode cX12_deliver 142 = .ok (.iload 4, 2) := by decide +kernel
theorem dX12_deliver_144 : decode cX12_deliver 144 = .ok (.iload 5, 2) := by decide +kernel
theorem dX12_deliver_146 : decode cX12_deliver 146 = .ok (.ifCond .eq 12, 3) := by decide +kernel
theorem dX12_deliver_149 : decode cX12_deliver 149 = .ok (.aload_n 0, 1) := by decide +kernel
theorem dX12_deliver_150 : decode cX12_deliver 150 = .ok (.getfield 19, 3) := by decide +kernel
theorem dX12_deliver_153 : decode cX12_deliver 153 = .ok (.iload_n 2, 1) := by decide +kernel
theorem dX12_deliver_154 : decode cX12_deliver 154 = .ok (.iaload, 1) := by decide +kernel
theorem dX12_deliver_155 : decode cX12_deliver 155 = .ok (.goto 10, 3) := by decide +kernel
theorem dX12_deliver_158 : decode cX12_deliver 158 = .ok (.aload_n 0, 1) := by decide +kernel
theorem dX12_deliver_159 : decode cX12_deliver 159 = .ok (.getfield 35, 3) := by decide +kernel
theorem dX12_deliver_162 : decode cX12_deliver 162 = .ok (.iload 4, 2) := by decide +kernel
theorem dX12_deliver_164 : decode cX12_deliver 164 = .ok (.iaload, 1) := by decide +kernel
theorem dX12_deliver_165 : decode cX12_deliver 165 = .ok (.iastore, 1) := by decide +kernel
theorem dX12_deliver_166 : decode cX12_deliver 166 = .ok (.iload 5, 2) := by decide +kernel
theorem dX12_deliver_168 : decode cX12_deliver 168 = .ok (.ireturn, 1) := by decide +kernel
set_option maxRecDepth 20000 in
theorem ggX12_mirrored_X12_isKey : GoodIn wsX12_mirrored wsX12_isKey := goodIn_r _ [6, 7, 8, 5, 9] (by decide +kernel) (by decide +kernel)
set_option maxRecDepth 20000 in
theorem gX12_mirrored_X12_isKey : GoodIn wsX12_mirrored (va_wsS RX12 197 yX12_isKey wsX12_isKey) := goodIn_app (goodIn_of _ (by decide +kernel)) ggX12_mirrored_X12_isKey
set_option maxRecDepth 20000 in
theorem ggX12_mirrored_X12_fails : GoodIn wsX12_mirrored wsX12_fails := goodIn_r _ [13, 1, 14, 15, 16, 17, 18, 19, 20, 21, 22, 23, 24, 25, 26, 27, 28, 29, 30, 31, 32, 33, 34, 35, 36, 37, 38, 39, 40, 41, 42, 43, 44, 45, 46, 47, 48, 49, 50, 51, 52, 53, 54, 55, 56, 57, 58, 59, 60, 61, 62, 63, 64, 65, 66, 67, 68] (by decide +kernel) (by decide +kernel)
set_option maxRecDepth 20000 in
theorem gX12_mirrored_X12_fails : GoodIn wsX12_mirrored (wsV RX12 201 RX12 yX12_fails wsX12_fails) := goodIn_app (goodIn_of _ (by decide +kernel)) ggX12_mirrored_X12_fails
theorem dX12_mirrored_0 : decode cX12_mirrored 0 = .ok (.aload_n 0, 1) := by decide +kernel
theorem dX12_mirrored_1 : decode cX12_mirrored 1 = .ok (.iconst 0, 1) := by decide +kernel
theorem dX12_mirrored_2 : decode cX12_mirrored 2 = .ok (.putfield 129, 3) := by decide +kernel
theorem dX12_mirrored_5 : decode cX12_mirrored 5 = .ok (.iload_n 1, 1) := by decide +kernel
theorem dX12_mirrored_6 : decode cX12_mirrored 6 = .ok (.invokestatic 197, 3) := by decide +kernel
theorem dX12_mirrored_9 : decode cX12_mirrored 9 = .ok (.ifCond .eq 12, 3) := by decide +kernel
theorem dX12_mirrored_12 : decode cX12_mirrored 12 = .ok (.aload_n 0, 1) := by decide +kernel
theorem dX12_mirrored_13 : decode cX12_mirrored 13 = .ok (.getfield 32, 3) := by decide +kernel
theorem dX12_mirrored_16 : decode cX12_mirrored 16 = .ok (.iload_n 1, 1) := by decide +kernel
theorem dX12_mirrored_17 : decode cX12_mirrored 17 = .ok (.iaload, 1) := by decide +kernel
theorem dX12_mirrored_18 : decode cX12_mirrored 18 = .ok (.goto 8, 3) := by decide +kernel
theorem dX12_mirrored_21 : decode cX12_mirrored 21 = .ok (.aload_n 0, 1) := by decide +kernel
theorem dX12_mirrored_22 : decode cX12_mirrored 22 = .ok (.iconst 1, 1) := by decide +kernel
theorem dX12_mirrored_23 : decode cX12_mirrored 23 = .ok (.invokevirtual 201, 3) := by decide +kernel
theorem dX12_mirrored_26 : decode cX12_mirrored 26 = .ok (.ireturn, 1) := by decide +kernel
theorem dX12_paid_0 : decode cX12_paid 0 = .ok (.aload_n 0, 1) := by decide +kernel
theorem dX12_paid_1 : decode cX12_paid 1 = .ok (.iconst 0, 1) := by decide +kernel
theorem dX12_paid_2 : decode cX12_paid 2 = .ok (.putfield 129, 3) := by decide +kernel
theorem dX12_paid_5 : decode cX12_paid 5 = .ok (.aload_n 0, 1) := by decide +kernel
theorem dX12_paid_6 : decode cX12_paid 6 = .ok (.getfield 262, 3) := by decide +kernel
theorem dX12_paid_9 : decode cX12_paid 9 = .ok (.lreturn, 1) := by decide +kernel
theorem dX12_answeredShare_0 : decode cX12_answeredShare 0 = .ok (.aload_n 0, 1) := by decide +kernel
theorem dX12_answeredShare_1 : decode cX12_answeredShare 1 = .ok (.aload_n 0, 1) := by decide +kernel
theorem dX12_answeredShare_2 : decode cX12_answeredShare 2 = .ok (.getfield 150, 3) := by decide +kernel
theorem dX12_answeredShare_5 : decode cX12_answeredShare 5 = .ok (.ifCond .ne 7, 3) := by decide +kernel
theorem dX12_answeredShare_8 : decode cX12_answeredShare 8 = .ok (.iconst 1, 1) := by decide +kernel
theorem dX12_answeredShare_9 : decode cX12_answeredShare 9 = .ok (.goto 4, 3) := by decide +kernel
theorem dX12_answeredShare_12 : decode cX12_answeredShare 12 = .ok (.iconst 0, 1) := by decide +kernel
theorem dX12_answeredShare_13 : decode cX12_answeredShare 13 = .ok (.putfield 129, 3) := by decide +kernel
theorem dX12_answeredShare_16 : decode cX12_answeredShare 16 = .ok (.aload_n 0, 1) := by decide +kernel
theorem dX12_answeredShare_17 : decode cX12_answeredShare 17 = .ok (.getfield 129, 3) := by decide +kernel
theorem dX12_answeredShare_20 : decode cX12_answeredShare 20 = .ok (.ifCond .le 7, 3) := by decide +kernel
theorem dX12_answeredShare_23 : decode cX12_answeredShare 23 = .ok (.fconst 0, 1) := by decide +kernel
theorem dX12_answeredShare_24 : decode cX12_answeredShare 24 = .ok (.goto 14, 3) := by decide +kernel
theorem dX12_answeredShare_27 : decode cX12_answeredShare 27 = .ok (.aload_n 0, 1) := by decide +kernel
theorem dX12_answeredShare_28 : decode cX12_answeredShare 28 = .ok (.getfield 214, 3) := by decide +kernel
theorem dX12_answeredShare_31 : decode cX12_answeredShare 31 = .ok (.i2f, 1) := by decide +kernel
theorem dX12_answeredShare_32 : decode cX12_answeredShare 32 = .ok (.aload_n 0, 1) := by decide +kernel
theorem dX12_answeredShare_33 : decode cX12_answeredShare 33 = .ok (.getfield 150, 3) := by decide +kernel
theorem dX12_answeredShare_36 : decode cX12_answeredShare 36 = .ok (.i2f, 1) := by decide +kernel
theorem dX12_answeredShare_37 : decode cX12_answeredShare 37 = .ok (.fdiv, 1) := by decide +kernel
theorem dX12_answeredShare_38 : decode cX12_answeredShare 38 = .ok (.freturn, 1) := by decide +kernel
theorem dX12_meanStaleness_0 : decode cX12_meanStaleness 0 = .ok (.aload_n 0, 1) := by decide +kernel
theorem dX12_meanStaleness_1 : decode cX12_meanStaleness 1 = .ok (.aload_n 0, 1) := by decide +kernel
theorem dX12_meanStaleness_2 : decode cX12_meanStaleness 2 = .ok (.getfield 214, 3) := by decide +kernel
theorem dX12_meanStaleness_5 : decode cX12_meanStaleness 5 = .ok (.ifCond .ne 7, 3) := by decide +kernel
theorem dX12_meanStaleness_8 : decode cX12_meanStaleness 8 = .ok (.iconst 1, 1) := by decide +kernel
theorem dX12_meanStaleness_9 : decode cX12_meanStaleness 9 = .ok (.goto 4, 3) := by decide +kernel
theorem dX12_meanStaleness_12 : decode cX12_meanStaleness 12 = .ok (.iconst 0, 1) := by decide +kernel
theorem dX12_meanStaleness_13 : decode cX12_meanStaleness 13 = .ok (.putfield 129, 3) := by decide +kernel
theorem dX12_meanStaleness_16 : decode cX12_meanStaleness 16 = .ok (.aload_n 0, 1) := by decide +kernel
theorem dX12_meanStaleness_17 : decode cX12_meanStaleness 17 = .ok (.getfield 129, 3) := by decide +kernel
theorem dX12_meanStaleness_20 : decode cX12_meanStaleness 20 = .ok (.ifCond .le 7, 3) := by decide +kernel
theorem dX12_meanStaleness_23 : decode cX12_meanStaleness 23 = .ok (.dconst 0, 1) := by decide +kernel
theorem dX12_meanStaleness_24 : decode cX12_meanStaleness 24 = .ok (.goto 14, 3) := by decide +kernel
theorem dX12_meanStaleness_27 : decode cX12_meanStaleness 27 = .ok (.aload_n 0, 1) := by decide +kernel
theorem dX12_meanStaleness_28 : decode cX12_meanStaleness 28 = .ok (.getfield 226, 3) := by decide +kernel
theorem dX12_meanStaleness_31 : decode cX12_meanStaleness 31 = .ok (.l2d, 1) := by decide +kernel
theorem dX12_meanStaleness_32 : decode cX12_meanStaleness 32 = .ok (.aload_n 0, 1) := by decide +kernel
theorem dX12_meanStaleness_33 : decode cX12_meanStaleness 33 = .ok (.getfield 214, 3) := by decide +kernel
theorem dX12_meanStaleness_36 : decode cX12_meanStaleness 36 = .ok (.i2d, 1) := by decide +kernel
theorem dX12_meanStaleness_37 : decode cX12_meanStaleness 37 = .ok (.ddiv, 1) := by decide +kernel
theorem dX12_meanStaleness_38 : decode cX12_meanStaleness 38 = .ok (.dreturn, 1) := by decide +kernel
theorem dX12_isHonest_0 : decode cX12_isHonest 0 = .ok (.aload_n 0, 1) := by decide +kernel
theorem dX12_isHonest_1 : decode cX12_isHonest 1 = .ok (.iconst 0, 1) := by decide +kernel
theorem dX12_isHonest_2 : decode cX12_isHonest 2 = .ok (.putfield 129, 3) := by decide +kernel
theorem dX12_isHonest_5 : decode cX12_isHonest 5 = .ok (.iconst 1, 1) := by decide +kernel
theorem dX12_isHonest_6 : decode cX12_isHonest 6 = .ok (.ireturn, 1) := by decide +kernel
theorem dJx00060_init_a7421_0 : decode cJx00060_init_a7421 0 = .ok (.aload_n 0, 1) := by decide +kernel
theorem dJx00060_init_a7421_1 : decode cJx00060_init_a7421 1 = .ok (.aload_n 1, 1) := by decide +kernel
theorem dJx00060_init_a7421_2 : decode cJx00060_init_a7421 2 = .ok (.invokespecial 7, 3) := by decide +kernel
theorem dJx00060_init_a7421_5 : decode cJx00060_init_a7421 5 = .ok (.return_, 1) := by decide +kernel
theorem dJ9_min_7cf53_0 : decode cJ9_min_7cf53 0 = .ok (.iload_n 0, 1) := by decide +kernel
theorem dJ9_min_7cf53_1 : decode cJ9_min_7cf53 1 = .ok (.iload_n 1, 1) := by decide +kernel
theorem dJ9_min_7cf53_2 : decode cJ9_min_7cf53 2 = .ok (.if_icmp .gt 7, 3) := by decide +kernel
theorem dJ9_min_7cf53_5 : decode cJ9_min_7cf53 5 = .ok (.iload_n 0, 1) := by decide +kernel
theorem dJ9_min_7cf53_6 : decode cJ9_min_7cf53 6 = .ok (.goto 4, 3) := by decide +kernel
theorem dJ9_min_7cf53_9 : decode cJ9_min_7cf53 9 = .ok (.iload_n 1, 1) := by decide +kernel
theorem dJ9_min_7cf53_10 : decode cJ9_min_7cf53 10 = .ok (.ireturn, 1) := by decide +kernel
set_option maxRecDepth 20000 in
theorem ggL_setKey_X11_setKey : GoodIn wsL_setKey wsX11_setKey := goodIn_ca (goodIn_ca (goodIn_ca (goodIn_ca (goodIn_r _ [8, 9, 10, 11, 12, 13, 14, 15, 16, 17, 18, 7, 19, 20, 21, 22, 23, 24, 25, 26, 27, 28, 29, 30, 31, 32, 33, 34, 35, 36, 37, 38, 39, 40, 41, 42, 43, 44, 45, 46, 47, 48, 49, 50, 51, 52, 53, 54, 55, 56, 57, 58, 59, 60, 61, 62, 63, 64, 65, 66, 67, 68, 69, 70, 71, 72, 73, 74, 75, 76, 77, 78, 79, 80, 81, 82, 83, 84, 85, 86, 87] (by decide +kernel) (by decide +kernel)) (goodIn_sub (fun _ h => List.mem_cons_of_mem _ (List.mem_append_left _ (List.mem_append_left _ (List.mem_append_right _ h)))) (by decide +kernel))) (goodIn_sub (fun _ h => List.mem_cons_of_mem _ (List.mem_append_left _ (List.mem_append_left _ (List.mem_append_left _ (List.mem_append_right _ h))))) (by decide +kernel))) (goodIn_sub (fun _ h => List.mem_cons_of_mem _ (List.mem_append_left _ (List.mem_append_right _ h))) (by decide +kernel))) (goodIn_sub (fun _ h => List.mem_cons_of_mem _ (List.mem_append_right _ h)) (by decide +kernel))
set_option maxRecDepth 20000 in
theorem gL_setKey_X11_setKey : GoodIn wsL_setKey (wsV RL 7 RX11 yX11_setKey wsX11_setKey) := goodIn_app (goodIn_of _ (by decide +kernel)) ggL_setKey_X11_setKey
theorem dL_setKey_0 : decode cL_setKey 0 = .ok (.aload 5, 2) := by decide +kernel
theorem dL_setKey_2 : decode cL_setKey 2 = .ok (.iconst 0, 1) := by decide +kernel
theorem dL_setKey_3 : decode cL_setKey 3 = .ok (.aload_n 0, 1) := by decide +kernel
theorem dL_setKey_4 : decode cL_setKey 4 = .ok (.iload_n 1, 1) := by decide +kernel
theorem dL_setKey_5 : decode cL_setKey 5 = .ok (.iload_n 2, 1) := by decide +kernel
theorem dL_setKey_6 : decode cL_setKey 6 = .ok (.iload_n 3, 1) := by decide +kernel
theorem dL_setKey_7 : decode cL_setKey 7 = .ok (.iload 4, 2) := by decide +kernel
theorem dL_setKey_9 : decode cL_setKey 9 = .ok (.invokevirtual 7, 3) := by decide +kernel
theorem dL_setKey_12 : decode cL_setKey 12 = .ok (.i2l, 1) := by decide +kernel
theorem dL_setKey_13 : decode cL_setKey 13 = .ok (.lastore, 1) := by decide +kernel
theorem dL_setKey_14 : decode cL_setKey 14 = .ok (.goto 15, 3) := by decide +kernel
theorem dL_setKey_17 : decode cL_setKey 17 = .ok (.astore 6, 2) := by decide +kernel
theorem dL_setKey_19 : decode cL_setKey 19 = .ok (.iconst 1, 1) := by decide +kernel
theorem dL_setKey_20 : decode cL_setKey 20 = .ok (.ireturn, 1) := by decide +kernel
theorem dL_setKey_21 : decode cL_setKey 21 = .ok (.astore 6, 2) := by decide +kernel
theorem dL_setKey_23 : decode cL_setKey 23 = .ok (.iconst 2, 1) := by decide +kernel
theorem dL_setKey_24 : decode cL_setKey 24 = .ok (.ireturn, 1) := by decide +kernel
theorem dL_setKey_25 : decode cL_setKey 25 = .ok (.astore 6, 2) := by decide +kernel
theorem dL_setKey_27 : decode cL_setKey 27 = .ok (.iconst 3, 1) := by decide +kernel
theorem dL_setKey_28 : decode cL_setKey 28 = .ok (.ireturn, 1) := by decide +kernel
theorem dL_setKey_29 : decode cL_setKey 29 = .ok (.iconst 0, 1) := by decide +kernel
theorem dL_setKey_30 : decode cL_setKey 30 = .ok (.ireturn, 1) := by decide +kernel
set_option maxRecDepth 20000 in
theorem ggL_get_X11_get : GoodIn wsL_get wsX11_get := goodIn_ca (goodIn_ca (goodIn_ca (goodIn_ca (goodIn_ca (goodIn_r _ [9, 10, 11, 12, 13, 14, 15, 16, 17, 18, 19, 8, 20, 21, 22, 23, 24, 25, 26, 27, 28, 29, 30, 31, 32, 33, 34, 35, 36, 37, 38, 39, 40, 41, 42, 43, 44, 45, 46, 47, 48, 49, 50, 51, 52, 53, 54, 55, 56, 57, 58, 59, 60, 61, 62, 63, 64, 65, 66, 67, 68, 69, 70, 71, 72, 73, 74, 75, 76, 77, 78, 79, 80, 81, 82, 83, 84, 85, 86, 87, 88, 89, 90, 91, 92, 93, 94, 95, 96, 97, 98, 99, 100, 101, 102, 103, 104, 105, 106, 107, 108, 109, 110, 111, 112, 113, 114, 115, 116, 117, 118, 119, 120, 121, 122, 123, 124, 125, 126, 127, 128, 129, 130, 131, 132, 133, 134, 135, 136, 137, 138, 139, 140, 141, 142, 143, 144, 145, 146, 147, 148, 149, 150, 151, 152, 153, 154, 155, 156, 157, 158, 159, 160, 161, 162, 163, 164, 165, 166, 167, 168, 169, 170, 171, 172, 173, 174, 175, 176, 177, 178, 179, 180, 181, 182, 183, 184, 185, 186, 187, 188, 189, 190, 191, 192, 193, 194, 195, 196, 197, 198, 199, 200, 201, 202, 203, 204, 205, 206, 207, 208, 209, 210, 211, 212, 213, 214, 215, 216, 217, 218, 219, 220, 221, 222, 223, 224, 225, 226, 227, 228, 229, 230, 231, 232, 233, 234, 235, 236, 237, 238, 239, 240, 241, 242, 243, 244, 245, 246, 247, 248, 249, 250, 251, 252, 253, 254, 255, 256, 257, 258, 259, 260, 261, 262, 263, 264, 265, 266, 267, 268, 269, 270, 271, 272, 273, 274, 275, 276, 277, 278, 279, 280, 281, 282, 283, 284, 285, 286, 287, 288, 289, 290, 291, 292, 293, 294, 295, 296] (by decide +kernel) (by decide +kernel)) (goodIn_sub (fun _ h => List.mem_cons_of_mem _ (List.mem_append_left _ (List.mem_append_left _ (List.mem_append_left _ (List.mem_append_right _ h))))) (by decide +kernel))) (goodIn_sub (fun _ h => List.mem_cons_of_mem _ (List.mem_append_left _ (List.mem_append_left _ (List.mem_append_left _ (List.mem_append_left _ (List.mem_append_right _ h)))))) (by decide +kernel))) (goodIn_sub (fun _ h => List.mem_cons_of_mem _ (List.mem_append_left _ (List.mem_append_left _ (List.mem_append_right _ h)))) (by decide +kernel))) (goodIn_sub (fun _ h => List.mem_cons_of_mem _ (List.mem_append_left _ (List.mem_append_right _ h))) (by decide +kernel))) (goodIn_sub (fun _ h => List.mem_cons_of_mem _ (List.mem_append_right _ h)) (by decide +kernel))
set_option maxRecDepth 20000 in
theorem gL_get_X11_get : GoodIn wsL_get (wsV RL 19 RX11 yX11_get wsX11_get) := goodIn_app (goodIn_of _ (by decide +kernel)) ggL_get_X11_get
theorem dL_get_0 : decode cL_get 0 = .ok (.aload 4, 2) := by decide +kernel
theorem dL_get_2 : decode cL_get 2 = .ok (.iconst 0, 1) := by decide +kernel
theorem dL_get_3 : decode cL_get 3 = .ok (.aload_n 0, 1) := by decide +kernel
theorem dL_get_4 : decode cL_get 4 = .ok (.iload_n 1, 1) := by decide +kernel
theorem dL_get_5 : decode cL_get 5 = .ok (.iload_n 2, 1) := by decide +kernel
theorem dL_get_6 : decode cL_get 6 = .ok (.iload_n 3, 1) := by decide +kernel
theorem dL_get_7 : decode cL_get 7 = .ok (.invokevirtual 19, 3) := by decide +kernel
theorem dL_get_10 : decode cL_get 10 = .ok (.i2l, 1) := by decide +kernel
theorem dL_get_11 : decode cL_get 11 = .ok (.lastore, 1) := by decide +kernel
theorem dL_get_12 : decode cL_get 12 = .ok (.goto 19, 3) := by decide +kernel
theorem dL_get_15 : decode cL_get 15 = .ok (.astore 5, 2) := by decide +kernel
theorem dL_get_17 : decode cL_get 17 = .ok (.iconst 1, 1) := by decide +kernel
theorem dL_get_18 : decode cL_get 18 = .ok (.ireturn, 1) := by decide +kernel
theorem dL_get_19 : decode cL_get 19 = .ok (.astore 5, 2) := by decide +kernel
theorem dL_get_21 : decode cL_get 21 = .ok (.iconst 2, 1) := by decide +kernel
theorem dL_get_22 : decode cL_get 22 = .ok (.ireturn, 1) := by decide +kernel
theorem dL_get_23 : decode cL_get 23 = .ok (.astore 5, 2) := by decide +kernel
theorem dL_get_25 : decode cL_get 25 = .ok (.iconst 3, 1) := by decide +kernel
theorem dL_get_26 : decode cL_get 26 = .ok (.ireturn, 1) := by decide +kernel
theorem dL_get_27 : decode cL_get 27 = .ok (.astore 5, 2) := by decide +kernel
theorem dL_get_29 : decode cL_get 29 = .ok (.iconst 4, 1) := by decide +kernel
theorem dL_get_30 : decode cL_get 30 = .ok (.ireturn, 1) := by decide +kernel
theorem dL_get_31 : decode cL_get 31 = .ok (.iconst 0, 1) := by decide +kernel
theorem dL_get_32 : decode cL_get 32 = .ok (.ireturn, 1) := by decide +kernel
set_option maxRecDepth 20000 in
theorem ggL_value_X11_value : GoodIn wsL_value wsX11_value := goodIn_ca (goodIn_r _ [6, 7, 8, 9, 10, 11, 5, 12, 13, 14, 15, 16, 17, 18, 19, 20, 21, 22, 23, 24, 25, 26, 27, 28, 29, 30, 31, 32, 33, 34, 35] (by decide +kernel) (by decide +kernel)) (goodIn_sub (fun _ h => List.mem_cons_of_mem _ (List.mem_append_right _ h)) (by decide +kernel))
set_option maxRecDepth 20000 in
theorem gL_value_X11_value : GoodIn wsL_value (wsV RL 25 RX11 yX11_value wsX11_value) := goodIn_app (goodIn_of _ (by decide +kernel)) ggL_value_X11_value
theorem dL_value_0 : decode cL_value 0 = .ok (.aload_n 1, 1) := by decide +kernel
theorem dL_value_1 : decode cL_value 1 = .ok (.iconst 0, 1) := by decide +kernel
theorem dL_value_2 : decode cL_value 2 = .ok (.aload_n 0, 1) := by decide +kernel
theorem dL_value_3 : decode cL_value 3 = .ok (.invokevirtual 25, 3) := by decide +kernel
theorem dL_value_6 : decode cL_value 6 = .ok (.i2l, 1) := by decide +kernel
theorem dL_value_7 : decode cL_value 7 = .ok (.lastore, 1) := by decide +kernel
theorem dL_value_8 : decode cL_value 8 = .ok (.goto 6, 3) := by decide +kernel
theorem dL_value_11 : decode cL_value 11 = .ok (.astore_n 2, 1) := by decide +kernel
theorem dL_value_12 : decode cL_value 12 = .ok (.iconst 1, 1) := by decide +kernel
theorem dL_value_13 : decode cL_value 13 = .ok (.ireturn, 1) := by decide +kernel
theorem dL_value_14 : decode cL_value 14 = .ok (.iconst 0, 1) := by decide +kernel
theorem dL_value_15 : decode cL_value 15 = .ok (.ireturn, 1) := by decide +kernel
set_option maxRecDepth 20000 in
theorem ggL_staleness_X11_staleness : GoodIn wsL_staleness wsX11_staleness := goodIn_ca (goodIn_r _ [6, 7, 8, 9, 10, 11, 5, 12, 13, 14, 15, 16, 17, 18, 19, 20, 21, 22, 23, 24, 25, 26, 27, 28, 29, 30, 31, 32, 33, 34, 35] (by decide +kernel) (by decide +kernel)) (goodIn_sub (fun _ h => List.mem_cons_of_mem _ (List.mem_append_right _ h)) (by decide +kernel))
set_option maxRecDepth 20000 in
theorem gL_staleness_X11_staleness : GoodIn wsL_staleness (wsV RL 31 RX11 yX11_staleness wsX11_staleness) := goodIn_app (goodIn_of _ (by decide +kernel)) ggL_staleness_X11_staleness
theorem dL_staleness_0 : decode cL_staleness 0 = .ok (.aload_n 1, 1) := by decide +kernel
theorem dL_staleness_1 : decode cL_staleness 1 = .ok (.iconst 0, 1) := by decide +kernel
theorem dL_staleness_2 : decode cL_staleness 2 = .ok (.aload_n 0, 1) := by decide +kernel
theorem dL_staleness_3 : decode cL_staleness 3 = .ok (.invokevirtual 31, 3) := by decide +kernel
theorem dL_staleness_6 : decode cL_staleness 6 = .ok (.i2l, 1) := by decide +kernel
theorem dL_staleness_7 : decode cL_staleness 7 = .ok (.lastore, 1) := by decide +kernel
theorem dL_staleness_8 : decode cL_staleness 8 = .ok (.goto 6, 3) := by decide +kernel
theorem dL_staleness_11 : decode cL_staleness 11 = .ok (.astore_n 2, 1) := by decide +kernel
theorem dL_staleness_12 : decode cL_staleness 12 = .ok (.iconst 1, 1) := by decide +kernel
theorem dL_staleness_13 : decode cL_staleness 13 = .ok (.ireturn, 1) := by decide +kernel
theorem dL_staleness_14 : decode cL_staleness 14 = .ok (.iconst 0, 1) := by decide +kernel
theorem dL_staleness_15 : decode cL_staleness 15 = .ok (.ireturn, 1) := by decide +kernel
set_option maxRecDepth 20000 in
theorem ggL_lease_X11_lease : GoodIn wsL_lease wsX11_lease := goodIn_ca (goodIn_r _ [6, 7, 8, 9, 10, 11, 12, 13, 14, 15, 16, 17, 18, 19, 20, 21, 22, 23, 24, 25, 26, 27, 28, 29, 30] (by decide +kernel) (by decide +kernel)) (goodIn_sub (fun _ h => List.mem_cons_of_mem _ (List.mem_append_right _ h)) (by decide +kernel))
set_option maxRecDepth 20000 in
theorem gL_lease_X11_lease : GoodIn wsL_lease (wsV RL 34 RX11 yX11_lease wsX11_lease) := goodIn_app (goodIn_of _ (by decide +kernel)) ggL_lease_X11_lease
theorem dL_lease_0 : decode cL_lease 0 = .ok (.aload_n 1, 1) := by decide +kernel
theorem dL_lease_1 : decode cL_lease 1 = .ok (.iconst 0, 1) := by decide +kernel
theorem dL_lease_2 : decode cL_lease 2 = .ok (.aload_n 0, 1) := by decide +kernel
theorem dL_lease_3 : decode cL_lease 3 = .ok (.invokevirtual 34, 3) := by decide +kernel
theorem dL_lease_6 : decode cL_lease 6 = .ok (.i2l, 1) := by decide +kernel
theorem dL_lease_7 : decode cL_lease 7 = .ok (.lastore, 1) := by decide +kernel
theorem dL_lease_8 : decode cL_lease 8 = .ok (.goto 6, 3) := by decide +kernel
theorem dL_lease_11 : decode cL_lease 11 = .ok (.astore_n 2, 1) := by decide +kernel
theorem dL_lease_12 : decode cL_lease 12 = .ok (.iconst 1, 1) := by decide +kernel
theorem dL_lease_13 : decode cL_lease 13 = .ok (.ireturn, 1) := by decide +kernel
theorem dL_lease_14 : decode cL_lease 14 = .ok (.iconst 0, 1) := by decide +kernel
theorem dL_lease_15 : decode cL_lease 15 = .ok (.ireturn, 1) := by decide +kernel
set_option maxRecDepth 20000 in
theorem ggL_read_X11_read : GoodIn wsL_read wsX11_read := goodIn_ca (goodIn_ca (goodIn_ca (goodIn_r _ [7, 8, 9, 10, 11, 12, 13, 14, 15, 16, 17, 18, 19, 20, 21, 6, 22, 23, 24, 25, 26, 27, 28, 29, 30, 31, 32, 33, 34, 35, 36, 37, 38, 39, 40, 41, 42, 43, 44, 45, 46, 47, 48, 49, 50, 51, 52, 53, 54, 55, 56, 57, 58, 59, 60, 61, 62, 63, 64, 65, 66, 67, 68, 69, 70, 71, 72, 73, 74, 75, 76, 77, 78, 79, 80, 81, 82, 83] (by decide +kernel) (by decide +kernel)) (goodIn_sub (fun _ h => List.mem_cons_of_mem _ (List.mem_append_left _ (List.mem_append_right _ h))) (by decide +kernel))) (goodIn_sub (fun _ h => List.mem_cons_of_mem _ (List.mem_append_left _ (List.mem_append_left _ (List.mem_append_right _ h)))) (by decide +kernel))) (goodIn_sub (fun _ h => List.mem_cons_of_mem _ (List.mem_append_right _ h)) (by decide +kernel))
set_option maxRecDepth 20000 in
theorem gL_read_X11_read : GoodIn wsL_read (wsV RL 37 RX11 yX11_read wsX11_read) := goodIn_app (goodIn_of _ (by decide +kernel)) ggL_read_X11_read
theorem dL_read_0 : decode cL_read 0 = .ok (.aload_n 2, 1) := by decide +kernel
theorem dL_read_1 : decode cL_read 1 = .ok (.iconst 0, 1) := by decide +kernel
theorem dL_read_2 : decode cL_read 2 = .ok (.aload_n 0, 1) := by decide +kernel
theorem dL_read_3 : decode cL_read 3 = .ok (.iload_n 1, 1) := by decide +kernel
theorem dL_read_4 : decode cL_read 4 = .ok (.invokevirtual 37, 3) := by decide +kernel
theorem dL_read_7 : decode cL_read 7 = .ok (.i2l, 1) := by decide +kernel
theorem dL_read_8 : decode cL_read 8 = .ok (.lastore, 1) := by decide +kernel
theorem dL_read_9 : decode cL_read 9 = .ok (.goto 9, 3) := by decide +kernel
theorem dL_read_12 : decode cL_read 12 = .ok (.astore_n 3, 1) := by decide +kernel
theorem dL_read_13 : decode cL_read 13 = .ok (.iconst 1, 1) := by decide +kernel
theorem dL_read_14 : decode cL_read 14 = .ok (.ireturn, 1) := by decide +kernel
theorem dL_read_15 : decode cL_read 15 = .ok (.astore_n 3, 1) := by decide +kernel
theorem dL_read_16 : decode cL_read 16 = .ok (.iconst 2, 1) := by decide +kernel
theorem dL_read_17 : decode cL_read 17 = .ok (.ireturn, 1) := by decide +kernel
theorem dL_read_18 : decode cL_read 18 = .ok (.iconst 0, 1) := by decide +kernel
theorem dL_read_19 : decode cL_read 19 = .ok (.ireturn, 1) := by decide +kernel
set_option maxRecDepth 20000 in
theorem ggL_fill_X11_fill : GoodIn wsL_fill wsX11_fill := goodIn_ca (goodIn_ca (goodIn_ca (goodIn_r _ [7, 8, 9, 10, 11, 12, 13, 14, 15, 16, 17, 18, 19, 6, 20, 21, 22, 23, 24, 25, 26, 27, 28, 29, 30, 31, 32, 33, 34, 35, 36, 37, 38, 39, 40, 41, 42, 43, 44, 45, 46, 47, 48, 49, 50, 51, 52, 53, 54, 55, 56, 57, 58, 59, 60, 61, 62, 63, 64, 65, 66, 67, 68, 69, 70, 71, 72, 73, 74, 75, 76, 77, 78, 79, 80, 81, 82, 83, 84, 85, 86, 87, 88, 89, 90, 91, 92, 93, 94, 95, 96, 97, 98, 99, 100, 101, 102, 103, 104, 105, 106, 107, 108, 109, 110, 111, 112, 113, 114, 115, 116, 117, 118, 119, 120, 121, 122, 123, 124, 125, 126, 127, 128, 129, 130, 131, 132, 133, 134, 135, 136, 137, 138, 139, 140, 141, 142, 143, 144, 145, 146, 147, 148, 149, 150, 151, 152, 153, 154, 155, 156, 157, 158, 159, 160, 161, 162, 163, 164, 165, 166, 167, 168, 169, 170, 171, 172, 173, 174, 175, 176, 177, 178, 179, 180, 181, 182, 183, 184, 185, 186, 187, 188, 189, 190, 191, 192, 193, 194, 195, 196] (by decide +kernel) (by decide +kernel)) (goodIn_sub (fun _ h => List.mem_cons_of_mem _ (List.mem_append_left _ (List.mem_append_left _ (List.mem_append_right _ h)))) (by decide +kernel))) (goodIn_sub (fun _ h => List.mem_cons_of_mem _ (List.mem_append_left _ (List.mem_append_right _ h))) (by decide +kernel))) (goodIn_sub (fun _ h => List.mem_cons_of_mem _ (List.mem_append_right _ h)) (by decide +kernel))
set_option maxRecDepth 20000 in
theorem gL_fill_X11_fill : GoodIn wsL_fill (wsV RL 41 RX11 yX11_fill wsX11_fill) := goodIn_app (goodIn_of _ (by decide +kernel)) ggL_fill_X11_fill
theorem dL_fill_0 : decode cL_fill 0 = .ok (.aload_n 2, 1) := by decide +kernel
theorem dL_fill_1 : decode cL_fill 1 = .ok (.iconst 0, 1) := by decide +kernel
theorem dL_fill_2 : decode cL_fill 2 = .ok (.aload_n 0, 1) := by decide +kernel
theorem dL_fill_3 : decode cL_fill 3 = .ok (.iload_n 1, 1) := by decide +kernel
theorem dL_fill_4 : decode cL_fill 4 = .ok (.invokevirtual 41, 3) := by decide +kernel
theorem dL_fill_7 : decode cL_fill 7 = .ok (.i2l, 1) := by decide +kernel
theorem dL_fill_8 : decode cL_fill 8 = .ok (.lastore, 1) := by decide +kernel
theorem dL_fill_9 : decode cL_fill 9 = .ok (.goto 9, 3) := by decide +kernel
theorem dL_fill_12 : decode cL_fill 12 = .ok (.astore_n 3, 1) := by decide +kernel
theorem dL_fill_13 : decode cL_fill 13 = .ok (.iconst 1, 1) := by decide +kernel
theorem dL_fill_14 : decode cL_fill 14 = .ok (.ireturn, 1) := by decide +kernel
theorem dL_fill_15 : decode cL_fill 15 = .ok (.astore_n 3, 1) := by decide +kernel
theorem dL_fill_16 : decode cL_fill 16 = .ok (.iconst 2, 1) := by decide +kernel
theorem dL_fill_17 : decode cL_fill 17 = .ok (.ireturn, 1) := by decide +kernel
theorem dL_fill_18 : decode cL_fill 18 = .ok (.iconst 0, 1) := by decide +kernel
theorem dL_fill_19 : decode cL_fill 19 = .ok (.ireturn, 1) := by decide +kernel
set_option maxRecDepth 20000 in
theorem ggL_leaseState_X11_leaseState : GoodIn wsL_leaseState wsX11_leaseState := goodIn_ca (goodIn_ca (goodIn_r _ [6, 7, 8, 9, 10, 11, 5, 12, 13, 14, 15, 16, 17, 18, 19, 20, 21, 22, 23, 24, 25, 26, 27, 28, 29, 30, 31, 32, 33, 34, 35, 36, 37, 38, 39, 40, 41, 42, 43] (by decide +kernel) (by decide +kernel)) (goodIn_sub (fun _ h => List.mem_cons_of_mem _ (List.mem_append_right _ h)) (by decide +kernel))) (goodIn_sub (fun _ h => List.mem_cons_of_mem _ (List.mem_append_left _ (List.mem_append_right _ h))) (by decide +kernel))
set_option maxRecDepth 20000 in
theorem gL_leaseState_X11_leaseState : GoodIn wsL_leaseState (wsV RL 45 RX11 yX11_leaseState wsX11_leaseState) := goodIn_app (goodIn_of _ (by decide +kernel)) ggL_leaseState_X11_leaseState
theorem dL_leaseState_0 : decode cL_leaseState 0 = .ok (.aload_n 2, 1) := by decide +kernel
theorem dL_leaseState_1 : decode cL_leaseState 1 = .ok (.iconst 0, 1) := by decide +kernel
theorem dL_leaseState_2 : decode cL_leaseState 2 = .ok (.aload_n 0, 1) := by decide +kernel
theorem dL_leaseState_3 : decode cL_leaseState 3 = .ok (.iload_n 1, 1) := by decide +kernel
theorem dL_leaseState_4 : decode cL_leaseState 4 = .ok (.invokevirtual 45, 3) := by decide +kernel
theorem dL_leaseState_7 : decode cL_leaseState 7 = .ok (.i2l, 1) := by decide +kernel
theorem dL_leaseState_8 : decode cL_leaseState 8 = .ok (.lastore, 1) := by decide +kernel
theorem dL_leaseState_9 : decode cL_leaseState 9 = .ok (.goto 6, 3) := by decide +kernel
theorem dL_leaseState_12 : decode cL_leaseState 12 = .ok (.astore_n 3, 1) := by decide +kernel
theorem dL_leaseState_13 : decode cL_leaseState 13 = .ok (.iconst 1, 1) := by decide +kernel
theorem dL_leaseState_14 : decode cL_leaseState 14 = .ok (.ireturn, 1) := by decide +kernel
theorem dL_leaseState_15 : decode cL_leaseState 15 = .ok (.iconst 0, 1) := by decide +kernel
theorem dL_leaseState_16 : decode cL_leaseState 16 = .ok (.ireturn, 1) := by decide +kernel
set_option maxRecDepth 20000 in
theorem ggL_write_X11_write : GoodIn wsL_write wsX11_write := goodIn_ca (goodIn_ca (goodIn_ca (goodIn_ca (goodIn_ca (goodIn_r _ [9, 10, 11, 12, 13, 14, 15, 16, 17, 18, 19, 20, 21, 22, 8, 23, 24, 25, 26, 27, 28, 29, 30, 31, 32, 33, 34, 35, 36, 37, 38, 39, 40, 41, 42, 43, 44, 45, 46, 47, 48, 49, 50, 51, 52, 53, 54, 55, 56, 57, 58, 59, 60, 61, 62, 63, 64, 65, 66, 67, 68, 69, 70, 71, 72, 73, 74, 75, 76, 77, 78, 79, 80, 81, 82, 83, 84, 85, 86, 87, 88, 89, 90, 91, 92, 93, 94, 95, 96, 97, 98, 99, 100, 101, 102, 103, 104, 105, 106, 107, 108, 109, 110, 111, 112, 113, 114, 115, 116, 117, 118, 119, 120, 121, 122, 123, 124, 125, 126, 127, 128, 129, 130, 131, 132, 133, 134, 135, 136, 137, 138, 139, 140, 141, 142, 143, 144, 145, 146, 147, 148, 149, 150, 151, 152, 153, 154, 155, 156, 157, 158, 159, 160, 161, 162, 163, 164, 165, 166, 167, 168, 169, 170, 171, 172, 173, 174, 175, 176, 177, 178, 179, 180, 181, 182, 183, 184, 185, 186, 187, 188, 189, 190, 191, 192, 193, 194, 195, 196, 197, 198, 199, 200, 201, 202, 203, 204, 205, 206, 207, 208, 209, 210, 211, 212, 213, 214, 215, 216, 217, 218, 219, 220, 221, 222, 223, 224, 225, 226, 227, 228, 229, 230, 231, 232, 233, 234, 235, 236, 237, 238, 239, 240, 241, 242, 243, 244, 245, 246, 247, 248, 249, 250, 251, 252, 253, 254, 255, 256, 257, 258, 259, 260, 261, 262, 263, 264, 265, 266, 267, 268, 269, 270] (by decide +kernel) (by decide +kernel)) (goodIn_sub (fun _ h => List.mem_cons_of_mem _ (List.mem_append_left _ (List.mem_append_left _ (List.mem_append_left _ (List.mem_append_right _ h))))) (by decide +kernel))) (goodIn_sub (fun _ h => List.mem_cons_of_mem _ (List.mem_append_left _ (List.mem_append_left _ (List.mem_append_right _ h)))) (by decide +kernel))) (goodIn_sub (fun _ h => List.mem_cons_of_mem _ (List.mem_append_left _ (List.mem_append_right _ h))) (by decide +kernel))) (goodIn_sub (fun _ h => List.mem_cons_of_mem _ (List.mem_append_left _ (List.mem_append_left _ (List.mem_append_left _ (List.mem_append_left _ (List.mem_append_right _ h)))))) (by decide +kernel))) (goodIn_sub (fun _ h => List.mem_cons_of_mem _ (List.mem_append_right _ h)) (by decide +kernel))
set_option maxRecDepth 20000 in
theorem gL_write_X11_write : GoodIn wsL_write (wsV RL 48 RX11 yX11_write wsX11_write) := goodIn_app (goodIn_of _ (by decide +kernel)) ggL_write_X11_write
theorem dL_write_0 : decode cL_write 0 = .ok (.aload 4, 2) := by decide +kernel
theorem dL_write_2 : decode cL_write 2 = .ok (.iconst 0, 1) := by decide +kernel
theorem dL_write_3 : decode cL_write 3 = .ok (.aload_n 0, 1) := by decide +kernel
theorem dL_write_4 : decode cL_write 4 = .ok (.iload_n 1, 1) := by decide +kernel
theorem dL_write_5 : decode cL_write 5 = .ok (.iload_n 2, 1) := by decide +kernel
theorem dL_write_6 : decode cL_write 6 = .ok (.iload_n 3, 1) := by decide +kernel
theorem dL_write_7 : decode cL_write 7 = .ok (.invokevirtual 48, 3) := by decide +kernel
theorem dL_write_10 : decode cL_write 10 = .ok (.i2l, 1) := by decide +kernel
theorem dL_write_11 : decode cL_write 11 = .ok (.lastore, 1) := by decide +kernel
theorem dL_write_12 : decode cL_write 12 = .ok (.goto 19, 3) := by decide +kernel
theorem dL_write_15 : decode cL_write 15 = .ok (.astore 5, 2) := by decide +kernel
theorem dL_write_17 : decode cL_write 17 = .ok (.iconst 1, 1) := by decide +kernel
theorem dL_write_18 : decode cL_write 18 = .ok (.ireturn, 1) := by decide +kernel
theorem dL_write_19 : decode cL_write 19 = .ok (.astore 5, 2) := by decide +kernel
theorem dL_write_21 : decode cL_write 21 = .ok (.iconst 2, 1) := by decide +kernel
theorem dL_write_22 : decode cL_write 22 = .ok (.ireturn, 1) := by decide +kernel
theorem dL_write_23 : decode cL_write 23 = .ok (.astore 5, 2) := by decide +kernel
theorem dL_write_25 : decode cL_write 25 = .ok (.iconst 3, 1) := by decide +kernel
theorem dL_write_26 : decode cL_write 26 = .ok (.ireturn, 1) := by decide +kernel
theorem dL_write_27 : decode cL_write 27 = .ok (.astore 5, 2) := by decide +kernel
theorem dL_write_29 : decode cL_write 29 = .ok (.iconst 4, 1) := by decide +kernel
theorem dL_write_30 : decode cL_write 30 = .ok (.ireturn, 1) := by decide +kernel
theorem dL_write_31 : decode cL_write 31 = .ok (.iconst 0, 1) := by decide +kernel
theorem dL_write_32 : decode cL_write 32 = .ok (.ireturn, 1) := by decide +kernel
set_option maxRecDepth 20000 in
theorem ggL_drop_X11_drop : GoodIn wsL_drop wsX11_drop := goodIn_ca (goodIn_ca (goodIn_ca (goodIn_r _ [7, 8, 9, 10, 11, 12, 13, 14, 15, 16, 6, 17, 18, 19, 20, 21, 22, 23, 24, 25, 26, 27, 28, 29, 30, 31, 32, 33, 34, 35, 36, 37, 38, 39, 40, 41, 42, 43, 44, 45, 46, 47, 48, 49, 50, 51, 52, 53, 54, 55, 56, 57, 58, 59, 60, 61, 62, 63, 64, 65, 66, 67, 68, 69, 70, 71, 72, 73, 74, 75, 76, 77, 78, 79, 80, 81, 82, 83, 84, 85, 86, 87, 88, 89, 90, 91, 92, 93, 94, 95, 96, 97, 98, 99, 100, 101, 102, 103, 104, 105, 106, 107, 108, 109, 110, 111, 112, 113, 114, 115, 116, 117, 118, 119, 120, 121, 122, 123, 124, 125, 126, 127, 128, 129, 130, 131, 132, 133, 134, 135, 136, 137, 138, 139, 140, 141, 142, 143, 144, 145, 146, 147, 148, 149, 150, 151, 152, 153, 154, 155, 156, 157, 158, 159, 160] (by decide +kernel) (by decide +kernel)) (goodIn_sub (fun _ h => List.mem_cons_of_mem _ (List.mem_append_left _ (List.mem_append_left _ (List.mem_append_right _ h)))) (by decide +kernel))) (goodIn_sub (fun _ h => List.mem_cons_of_mem _ (List.mem_append_left _ (List.mem_append_right _ h))) (by decide +kernel))) (goodIn_sub (fun _ h => List.mem_cons_of_mem _ (List.mem_append_right _ h)) (by decide +kernel))
set_option maxRecDepth 20000 in
theorem gL_drop_X11_drop : GoodIn wsL_drop (wsV RL 52 RX11 yX11_drop wsX11_drop) := goodIn_app (goodIn_of _ (by decide +kernel)) ggL_drop_X11_drop
theorem dL_drop_0 : decode cL_drop 0 = .ok (.aload_n 2, 1) := by decide +kernel
theorem dL_drop_1 : decode cL_drop 1 = .ok (.iconst 0, 1) := by decide +kernel
theorem dL_drop_2 : decode cL_drop 2 = .ok (.aload_n 0, 1) := by decide +kernel
theorem dL_drop_3 : decode cL_drop 3 = .ok (.iload_n 1, 1) := by decide +kernel
theorem dL_drop_4 : decode cL_drop 4 = .ok (.invokevirtual 52, 3) := by decide +kernel
theorem dL_drop_7 : decode cL_drop 7 = .ok (.ifCond .eq 7, 3) := by decide +kernel
theorem dL_drop_10 : decode cL_drop 10 = .ok (.lconst 1, 1) := by decide +kernel
theorem dL_drop_11 : decode cL_drop 11 = .ok (.goto 4, 3) := by decide +kernel
theorem dL_drop_14 : decode cL_drop 14 = .ok (.lconst 0, 1) := by decide +kernel
theorem dL_drop_15 : decode cL_drop 15 = .ok (.lastore, 1) := by decide +kernel
theorem dL_drop_16 : decode cL_drop 16 = .ok (.goto 9, 3) := by decide +kernel
theorem dL_drop_19 : decode cL_drop 19 = .ok (.astore_n 3, 1) := by decide +kernel
theorem dL_drop_20 : decode cL_drop 20 = .ok (.iconst 1, 1) := by decide +kernel
theorem dL_drop_21 : decode cL_drop 21 = .ok (.ireturn, 1) := by decide +kernel
theorem dL_drop_22 : decode cL_drop 22 = .ok (.astore_n 3, 1) := by decide +kernel
theorem dL_drop_23 : decode cL_drop 23 = .ok (.iconst 2, 1) := by decide +kernel
theorem dL_drop_24 : decode cL_drop 24 = .ok (.ireturn, 1) := by decide +kernel
theorem dL_drop_25 : decode cL_drop 25 = .ok (.iconst 0, 1) := by decide +kernel
theorem dL_drop_26 : decode cL_drop 26 = .ok (.ireturn, 1) := by decide +kernel
set_option maxRecDepth 20000 in
theorem ggL_bump_X11_bump : GoodIn wsL_bump wsX11_bump := goodIn_ca (goodIn_ca (goodIn_ca (goodIn_r _ [7, 8, 9, 10, 11, 12, 13, 14, 15, 16, 6, 17, 18, 19, 20, 21, 22, 23, 24, 25, 26, 27, 28, 29, 30, 31, 32, 33, 34, 35, 36, 37, 38, 39, 40, 41, 42, 43, 44, 45, 46, 47, 48, 49, 50, 51, 52, 53, 54, 55, 56, 57, 58, 59, 60, 61, 62, 63, 64, 65, 66, 67, 68, 69, 70, 71, 72, 73, 74, 75, 76, 77, 78, 79, 80, 81, 82, 83, 84, 85, 86, 87, 88, 89, 90, 91, 92, 93, 94, 95, 96, 97, 98, 99, 100, 101, 102, 103, 104, 105, 106, 107, 108, 109, 110, 111, 112, 113, 114, 115, 116, 117, 118, 119, 120, 121, 122, 123, 124, 125, 126, 127, 128, 129, 130, 131, 132, 133, 134, 135, 136, 137, 138] (by decide +kernel) (by decide +kernel)) (goodIn_sub (fun _ h => List.mem_cons_of_mem _ (List.mem_append_left _ (List.mem_append_right _ h))) (by decide +kernel))) (goodIn_sub (fun _ h => List.mem_cons_of_mem _ (List.mem_append_left _ (List.mem_append_left _ (List.mem_append_right _ h)))) (by decide +kernel))) (goodIn_sub (fun _ h => List.mem_cons_of_mem _ (List.mem_append_right _ h)) (by decide +kernel))
set_option maxRecDepth 20000 in
theorem gL_bump_X11_bump : GoodIn wsL_bump (wsV RL 56 RX11 yX11_bump wsX11_bump) := goodIn_app (goodIn_of _ (by decide +kernel)) ggL_bump_X11_bump
theorem dL_bump_0 : decode cL_bump 0 = .ok (.aload_n 2, 1) := by decide +kernel
theorem dL_bump_1 : decode cL_bump 1 = .ok (.iconst 0, 1) := by decide +kernel
theorem dL_bump_2 : decode cL_bump 2 = .ok (.aload_n 0, 1) := by decide +kernel
theorem dL_bump_3 : decode cL_bump 3 = .ok (.iload_n 1, 1) := by decide +kernel
theorem dL_bump_4 : decode cL_bump 4 = .ok (.invokevirtual 56, 3) := by decide +kernel
theorem dL_bump_7 : decode cL_bump 7 = .ok (.i2l, 1) := by decide +kernel
theorem dL_bump_8 : decode cL_bump 8 = .ok (.lastore, 1) := by decide +kernel
theorem dL_bump_9 : decode cL_bump 9 = .ok (.goto 9, 3) := by decide +kernel
theorem dL_bump_12 : decode cL_bump 12 = .ok (.astore_n 3, 1) := by decide +kernel
theorem dL_bump_13 : decode cL_bump 13 = .ok (.iconst 1, 1) := by decide +kernel
theorem dL_bump_14 : decode cL_bump 14 = .ok (.ireturn, 1) := by decide +kernel
theorem dL_bump_15 : decode cL_bump 15 = .ok (.astore_n 3, 1) := by decide +kernel
theorem dL_bump_16 : decode cL_bump 16 = .ok (.iconst 2, 1) := by decide +kernel
theorem dL_bump_17 : decode cL_bump 17 = .ok (.ireturn, 1) := by decide +kernel
theorem dL_bump_18 : decode cL_bump 18 = .ok (.iconst 0, 1) := by decide +kernel
theorem dL_bump_19 : decode cL_bump 19 = .ok (.ireturn, 1) := by decide +kernel
set_option maxRecDepth 20000 in
theorem ggL_pass_X11_pass : GoodIn wsL_pass wsX11_pass := goodIn_ca (goodIn_ca (goodIn_ca (goodIn_r _ [7, 8, 9, 10, 11, 12, 13, 6, 14, 15, 16, 17, 18, 19, 20, 21, 22, 23, 24, 25, 26, 27, 28, 29, 30, 31, 32, 33, 34, 35, 36, 37, 38, 39, 40, 41, 42, 43, 44, 45, 46, 47, 48, 49, 50, 51, 52, 53, 54, 55, 56, 57, 58, 59, 60, 61, 62, 63, 64, 65, 66, 67, 68, 69, 70, 71, 72, 73, 74, 75, 76, 77, 78, 79, 80, 81, 82, 83, 84, 85, 86, 87, 88, 89, 90, 91, 92, 93, 94, 95, 96, 97, 98, 99, 100, 101, 102, 103, 104, 105, 106, 107, 108, 109, 110, 111, 112, 113, 114, 115, 116, 117, 118, 119] (by decide +kernel) (by decide +kernel)) (goodIn_sub (fun _ h => List.mem_cons_of_mem _ (List.mem_append_left _ (List.mem_append_right _ h))) (by decide +kernel))) (goodIn_sub (fun _ h => List.mem_cons_of_mem _ (List.mem_append_right _ h)) (by decide +kernel))) (goodIn_sub (fun _ h => List.mem_cons_of_mem _ (List.mem_append_left _ (List.mem_append_left _ (List.mem_append_right _ h)))) (by decide +kernel))
set_option maxRecDepth 20000 in
theorem gL_pass_X11_pass : GoodIn wsL_pass (wsV RL 59 RX11 yX11_pass wsX11_pass) := goodIn_app (goodIn_of _ (by decide +kernel)) ggL_pass_X11_pass
theorem dL_pass_0 : decode cL_pass 0 = .ok (.aload_n 2, 1) := by decide +kernel
theorem dL_pass_1 : decode cL_pass 1 = .ok (.iconst 0, 1) := by decide +kernel
theorem dL_pass_2 : decode cL_pass 2 = .ok (.aload_n 0, 1) := by decide +kernel
theorem dL_pass_3 : decode cL_pass 3 = .ok (.iload_n 1, 1) := by decide +kernel
theorem dL_pass_4 : decode cL_pass 4 = .ok (.invokevirtual 59, 3) := by decide +kernel
theorem dL_pass_7 : decode cL_pass 7 = .ok (.i2l, 1) := by decide +kernel
theorem dL_pass_8 : decode cL_pass 8 = .ok (.lastore, 1) := by decide +kernel
theorem dL_pass_9 : decode cL_pass 9 = .ok (.goto 9, 3) := by decide +kernel
theorem dL_pass_12 : decode cL_pass 12 = .ok (.astore_n 3, 1) := by decide +kernel
theorem dL_pass_13 : decode cL_pass 13 = .ok (.iconst 1, 1) := by decide +kernel
theorem dL_pass_14 : decode cL_pass 14 = .ok (.ireturn, 1) := by decide +kernel
theorem dL_pass_15 : decode cL_pass 15 = .ok (.astore_n 3, 1) := by decide +kernel
theorem dL_pass_16 : decode cL_pass 16 = .ok (.iconst 2, 1) := by decide +kernel
theorem dL_pass_17 : decode cL_pass 17 = .ok (.ireturn, 1) := by decide +kernel
theorem dL_pass_18 : decode cL_pass 18 = .ok (.iconst 0, 1) := by decide +kernel
theorem dL_pass_19 : decode cL_pass 19 = .ok (.ireturn, 1) := by decide +kernel
set_option maxRecDepth 20000 in
theorem ggL_crash_X11_crash : GoodIn wsL_crash wsX11_crash := goodIn_ca (goodIn_ca (goodIn_r _ [6, 7, 8, 9, 10, 11, 12, 13, 14, 5, 15, 16, 17, 18, 19, 20, 21, 22, 23, 24, 25, 26, 27, 28, 29, 30, 31, 32, 33, 34, 35, 36, 37, 38, 39, 40, 41, 42, 43, 44, 45, 46, 47, 48, 49, 50, 51, 52, 53, 54, 55, 56, 57, 58, 59, 60, 61, 62, 63, 64, 65, 66, 67, 68, 69, 70, 71, 72, 73, 74, 75, 76, 77, 78, 79, 80, 81, 82, 83, 84, 85] (by decide +kernel) (by decide +kernel)) (goodIn_sub (fun _ h => List.mem_cons_of_mem _ (List.mem_append_right _ h)) (by decide +kernel))) (goodIn_sub (fun _ h => List.mem_cons_of_mem _ (List.mem_append_left _ (List.mem_append_right _ h))) (by decide +kernel))
set_option maxRecDepth 20000 in
theorem gL_crash_X11_crash : GoodIn wsL_crash (wsV RL 62 RX11 yX11_crash wsX11_crash) := goodIn_app (goodIn_of _ (by decide +kernel)) ggL_crash_X11_crash
theorem dL_crash_0 : decode cL_crash 0 = .ok (.aload_n 1, 1) := by decide +kernel
theorem dL_crash_1 : decode cL_crash 1 = .ok (.iconst 0, 1) := by decide +kernel
theorem dL_crash_2 : decode cL_crash 2 = .ok (.aload_n 0, 1) := by decide +kernel
theorem dL_crash_3 : decode cL_crash 3 = .ok (.invokevirtual 62, 3) := by decide +kernel
theorem dL_crash_6 : decode cL_crash 6 = .ok (.i2l, 1) := by decide +kernel
theorem dL_crash_7 : decode cL_crash 7 = .ok (.lastore, 1) := by decide +kernel
theorem dL_crash_8 : decode cL_crash 8 = .ok (.goto 6, 3) := by decide +kernel
theorem dL_crash_11 : decode cL_crash 11 = .ok (.astore_n 2, 1) := by decide +kernel
theorem dL_crash_12 : decode cL_crash 12 = .ok (.iconst 1, 1) := by decide +kernel
theorem dL_crash_13 : decode cL_crash 13 = .ok (.ireturn, 1) := by decide +kernel
theorem dL_crash_14 : decode cL_crash 14 = .ok (.iconst 0, 1) := by decide +kernel
theorem dL_crash_15 : decode cL_crash 15 = .ok (.ireturn, 1) := by decide +kernel
set_option maxRecDepth 20000 in
theorem ggL_recover_X11_recover : GoodIn wsL_recover wsX11_recover := goodIn_ca (goodIn_ca (goodIn_r _ [6, 7, 8, 9, 10, 11, 12, 13, 14, 5, 15, 16, 17, 18, 19, 20, 21, 22, 23, 24, 25, 26, 27, 28, 29, 30, 31, 32, 33, 34, 35, 36, 37, 38, 39, 40, 41, 42, 43, 44, 45, 46, 47, 48, 49, 50, 51, 52, 53, 54, 55, 56, 57, 58, 59, 60, 61, 62, 63, 64, 65, 66, 67, 68, 69, 70, 71, 72, 73, 74, 75, 76, 77, 78, 79, 80, 81, 82, 83, 84, 85, 86, 87, 88, 89, 90, 91, 92, 93, 94, 95, 96, 97, 98, 99, 100, 101, 102, 103, 104, 105, 106, 107, 108, 109, 110, 111, 112, 113, 114, 115, 116, 117, 118, 119, 120, 121, 122, 123, 124, 125, 126, 127, 128, 129, 130, 131, 132, 133, 134, 135, 136, 137, 138, 139, 140, 141, 142, 143, 144, 145, 146, 147, 148, 149, 150, 151, 152, 153, 154, 155, 156, 157, 158, 159, 160, 161, 162, 163, 164, 165, 166, 167, 168, 169, 170, 171, 172, 173, 174, 175, 176, 177, 178, 179, 180, 181, 182, 183, 184, 185, 186, 187, 188, 189, 190, 191, 192, 193, 194, 195, 196, 197, 198, 199, 200, 201] (by decide +kernel) (by decide +kernel)) (goodIn_sub (fun _ h => List.mem_cons_of_mem _ (List.mem_append_right _ h)) (by decide +kernel))) (goodIn_sub (fun _ h => List.mem_cons_of_mem _ (List.mem_append_left _ (List.mem_append_right _ h))) (by decide +kernel))
set_option maxRecDepth 20000 in
theorem gL_recover_X11_recover : GoodIn wsL_recover (wsV RL 65 RX11 yX11_recover wsX11_recover) := goodIn_app (goodIn_of _ (by decide +kernel)) ggL_recover_X11_recover
theorem dL_recover_0 : decode cL_recover 0 = .ok (.aload_n 1, 1) := by decide +kernel
theorem dL_recover_1 : decode cL_recover 1 = .ok (.iconst 0, 1) := by decide +kernel
theorem dL_recover_2 : decode cL_recover 2 = .ok (.aload_n 0, 1) := by decide +kernel
theorem dL_recover_3 : decode cL_recover 3 = .ok (.invokevirtual 65, 3) := by decide +kernel
theorem dL_recover_6 : decode cL_recover 6 = .ok (.i2l, 1) := by decide +kernel
theorem dL_recover_7 : decode cL_recover 7 = .ok (.lastore, 1) := by decide +kernel
theorem dL_recover_8 : decode cL_recover 8 = .ok (.goto 6, 3) := by decide +kernel
theorem dL_recover_11 : decode cL_recover 11 = .ok (.astore_n 2, 1) := by decide +kernel
theorem dL_recover_12 : decode cL_recover 12 = .ok (.iconst 1, 1) := by decide +kernel
theorem dL_recover_13 : decode cL_recover 13 = .ok (.ireturn, 1) := by decide +kernel
theorem dL_recover_14 : decode cL_recover 14 = .ok (.iconst 0, 1) := by decide +kernel
theorem dL_recover_15 : decode cL_recover 15 = .ok (.ireturn, 1) := by decide +kernel
set_option maxRecDepth 20000 in
theorem ggL_where_X11_where : GoodIn wsL_where wsX11_where := goodIn_ca (goodIn_ca (goodIn_r _ [6, 7, 8, 9, 10, 11, 12, 13, 14, 5, 15, 16, 17, 18, 19, 20, 21, 22, 23, 24, 25, 26, 27, 28, 29, 30, 31, 32, 33, 34, 35, 36, 37, 38, 39, 40, 41, 42, 43, 44] (by decide +kernel) (by decide +kernel)) (goodIn_sub (fun _ h => List.mem_cons_of_mem _ (List.mem_append_left _ (List.mem_append_right _ h))) (by decide +kernel))) (goodIn_sub (fun _ h => List.mem_cons_of_mem _ (List.mem_append_right _ h)) (by decide +kernel))
set_option maxRecDepth 20000 in
theorem gL_where_X11_where : GoodIn wsL_where (wsV RL 68 RX11 yX11_where wsX11_where) := goodIn_app (goodIn_of _ (by decide +kernel)) ggL_where_X11_where
theorem dL_where_0 : decode cL_where 0 = .ok (.aload_n 2, 1) := by decide +kernel
theorem dL_where_1 : decode cL_where 1 = .ok (.iconst 0, 1) := by decide +kernel
theorem dL_where_2 : decode cL_where 2 = .ok (.aload_n 0, 1) := by decide +kernel
theorem dL_where_3 : decode cL_where 3 = .ok (.iload_n 1, 1) := by decide +kernel
theorem dL_where_4 : decode cL_where 4 = .ok (.invokevirtual 68, 3) := by decide +kernel
theorem dL_where_7 : decode cL_where 7 = .ok (.i2l, 1) := by decide +kernel
theorem dL_where_8 : decode cL_where 8 = .ok (.lastore, 1) := by decide +kernel
theorem dL_where_9 : decode cL_where 9 = .ok (.goto 6, 3) := by decide +kernel
theorem dL_where_12 : decode cL_where 12 = .ok (.astore_n 3, 1) := by decide +kernel
theorem dL_where_13 : decode cL_where 13 = .ok (.iconst 1, 1) := by decide +kernel
theorem dL_where_14 : decode cL_where 14 = .ok (.ireturn, 1) := by decide +kernel
theorem dL_where_15 : decode cL_where 15 = .ok (.iconst 0, 1) := by decide +kernel
theorem dL_where_16 : decode cL_where 16 = .ok (.ireturn, 1) := by decide +kernel
set_option maxRecDepth 20000 in
theorem ggL_estimate_X11_estimate : GoodIn wsL_estimate wsX11_estimate := goodIn_ca (goodIn_ca (goodIn_r _ [6, 7, 8, 9, 5, 10, 11, 12, 13, 14, 15, 16, 17, 18, 19, 20, 21, 22, 23, 24, 25, 26, 27, 28, 29, 30, 31, 32, 33, 34, 35, 36] (by decide +kernel) (by decide +kernel)) (goodIn_sub (fun _ h => List.mem_cons_of_mem _ (List.mem_append_right _ h)) (by decide +kernel))) (goodIn_sub (fun _ h => List.mem_cons_of_mem _ (List.mem_append_left _ (List.mem_append_right _ h))) (by decide +kernel))
set_option maxRecDepth 20000 in
theorem gL_estimate_X11_estimate : GoodIn wsL_estimate (wsV RL 71 RX11 yX11_estimate wsX11_estimate) := goodIn_app (goodIn_of _ (by decide +kernel)) ggL_estimate_X11_estimate
theorem dL_estimate_0 : decode cL_estimate 0 = .ok (.aload_n 2, 1) := by decide +kernel
theorem dL_estimate_1 : decode cL_estimate 1 = .ok (.iconst 0, 1) := by decide +kernel
theorem dL_estimate_2 : decode cL_estimate 2 = .ok (.aload_n 0, 1) := by decide +kernel
theorem dL_estimate_3 : decode cL_estimate 3 = .ok (.iload_n 1, 1) := by decide +kernel
theorem dL_estimate_4 : decode cL_estimate 4 = .ok (.invokevirtual 71, 3) := by decide +kernel
theorem dL_estimate_7 : decode cL_estimate 7 = .ok (.i2l, 1) := by decide +kernel
theorem dL_estimate_8 : decode cL_estimate 8 = .ok (.lastore, 1) := by decide +kernel
theorem dL_estimate_9 : decode cL_estimate 9 = .ok (.goto 6, 3) := by decide +kernel
theorem dL_estimate_12 : decode cL_estimate 12 = .ok (.astore_n 3, 1) := by decide +kernel
theorem dL_estimate_13 : decode cL_estimate 13 = .ok (.iconst 1, 1) := by decide +kernel
theorem dL_estimate_14 : decode cL_estimate 14 = .ok (.ireturn, 1) := by decide +kernel
theorem dL_estimate_15 : decode cL_estimate 15 = .ok (.iconst 0, 1) := by decide +kernel
theorem dL_estimate_16 : decode cL_estimate 16 = .ok (.ireturn, 1) := by decide +kernel
set_option maxRecDepth 20000 in
theorem ggL_versionOf_X11_versionOf : GoodIn wsL_versionOf wsX11_versionOf := goodIn_ca (goodIn_ca (goodIn_ca (goodIn_r _ [7, 8, 9, 10, 11, 12, 13, 14, 15, 16, 17, 18, 6, 19, 20, 21, 22, 23, 24, 25, 26, 27, 28, 29, 30, 31, 32, 33, 34, 35, 36, 37, 38, 39, 40, 41, 42, 43, 44, 45, 46, 47, 48, 49, 50, 51, 52] (by decide +kernel) (by decide +kernel)) (goodIn_sub (fun _ h => List.mem_cons_of_mem _ (List.mem_append_left _ (List.mem_append_right _ h))) (by decide +kernel))) (goodIn_sub (fun _ h => List.mem_cons_of_mem _ (List.mem_append_left _ (List.mem_append_left _ (List.mem_append_right _ h)))) (by decide +kernel))) (goodIn_sub (fun _ h => List.mem_cons_of_mem _ (List.mem_append_right _ h)) (by decide +kernel))
set_option maxRecDepth 20000 in
theorem gL_versionOf_X11_versionOf : GoodIn wsL_versionOf (wsV RL 74 RX11 yX11_versionOf wsX11_versionOf) := goodIn_app (goodIn_of _ (by decide +kernel)) ggL_versionOf_X11_versionOf
theorem dL_versionOf_0 : decode cL_versionOf 0 = .ok (.aload_n 2, 1) := by decide +kernel
theorem dL_versionOf_1 : decode cL_versionOf 1 = .ok (.iconst 0, 1) := by decide +kernel
theorem dL_versionOf_2 : decode cL_versionOf 2 = .ok (.aload_n 0, 1) := by decide +kernel
theorem dL_versionOf_3 : decode cL_versionOf 3 = .ok (.iload_n 1, 1) := by decide +kernel
theorem dL_versionOf_4 : decode cL_versionOf 4 = .ok (.invokevirtual 74, 3) := by decide +kernel
theorem dL_versionOf_7 : decode cL_versionOf 7 = .ok (.i2l, 1) := by decide +kernel
theorem dL_versionOf_8 : decode cL_versionOf 8 = .ok (.lastore, 1) := by decide +kernel
theorem dL_versionOf_9 : decode cL_versionOf 9 = .ok (.goto 9, 3) := by decide +kernel
theorem dL_versionOf_12 : decode cL_versionOf 12 = .ok (.astore_n 3, 1) := by decide +kernel
theorem dL_versionOf_13 : decode cL_versionOf 13 = .ok (.iconst 1, 1) := by decide +kernel
theorem dL_versionOf_14 : decode cL_versionOf 14 = .ok (.ireturn, 1) := by decide +kernel
theorem dL_versionOf_15 : decode cL_versionOf 15 = .ok (.astore_n 3, 1) := by decide +kernel
theorem dL_versionOf_16 : decode cL_versionOf 16 = .ok (.iconst 2, 1) := by decide +kernel
theorem dL_versionOf_17 : decode cL_versionOf 17 = .ok (.ireturn, 1) := by decide +kernel
theorem dL_versionOf_18 : decode cL_versionOf 18 = .ok (.iconst 0, 1) := by decide +kernel
theorem dL_versionOf_19 : decode cL_versionOf 19 = .ok (.ireturn, 1) := by decide +kernel
set_option maxRecDepth 20000 in
theorem ggL_slot_X11_slot : GoodIn wsL_slot wsX11_slot := goodIn_ca (goodIn_ca (goodIn_r _ [6, 7, 8, 9, 10, 11, 12, 5, 13, 14, 15, 16, 17, 18, 19, 20, 21, 22, 23, 24, 25, 26, 27, 28, 29, 30, 31] (by decide +kernel) (by decide +kernel)) (goodIn_sub (fun _ h => List.mem_cons_of_mem _ (List.mem_append_right _ h)) (by decide +kernel))) (goodIn_sub (fun _ h => List.mem_cons_of_mem _ (List.mem_append_left _ (List.mem_append_right _ h))) (by decide +kernel))
set_option maxRecDepth 20000 in
theorem gL_slot_X11_slot : GoodIn wsL_slot (wsV RL 77 RX11 yX11_slot wsX11_slot) := goodIn_app (goodIn_of _ (by decide +kernel)) ggL_slot_X11_slot
theorem dL_slot_0 : decode cL_slot 0 = .ok (.aload_n 3, 1) := by decide +kernel
theorem dL_slot_1 : decode cL_slot 1 = .ok (.iconst 0, 1) := by decide +kernel
theorem dL_slot_2 : decode cL_slot 2 = .ok (.aload_n 0, 1) := by decide +kernel
theorem dL_slot_3 : decode cL_slot 3 = .ok (.iload_n 1, 1) := by decide +kernel
theorem dL_slot_4 : decode cL_slot 4 = .ok (.iload_n 2, 1) := by decide +kernel
theorem dL_slot_5 : decode cL_slot 5 = .ok (.invokevirtual 77, 3) := by decide +kernel
theorem dL_slot_8 : decode cL_slot 8 = .ok (.i2l, 1) := by decide +kernel
theorem dL_slot_9 : decode cL_slot 9 = .ok (.lastore, 1) := by decide +kernel
theorem dL_slot_10 : decode cL_slot 10 = .ok (.goto 7, 3) := by decide +kernel
theorem dL_slot_13 : decode cL_slot 13 = .ok (.astore 4, 2) := by decide +kernel
theorem dL_slot_15 : decode cL_slot 15 = .ok (.iconst 1, 1) := by decide +kernel
theorem dL_slot_16 : decode cL_slot 16 = .ok (.ireturn, 1) := by decide +kernel
theorem dL_slot_17 : decode cL_slot 17 = .ok (.iconst 0, 1) := by decide +kernel
theorem dL_slot_18 : decode cL_slot 18 = .ok (.ireturn, 1) := by decide +kernel
set_option maxRecDepth 20000 in
theorem ggL_wear_X11_wear : GoodIn wsL_wear wsX11_wear := goodIn_ca (goodIn_ca (goodIn_r _ [6, 7, 8, 9, 10, 5, 11, 12, 13, 14, 15, 16, 17, 18, 19, 20, 21, 22, 23, 24, 25, 26, 27, 28, 29, 30, 31] (by decide +kernel) (by decide +kernel)) (goodIn_sub (fun _ h => List.mem_cons_of_mem _ (List.mem_append_left _ (List.mem_append_right _ h))) (by decide +kernel))) (goodIn_sub (fun _ h => List.mem_cons_of_mem _ (List.mem_append_right _ h)) (by decide +kernel))
set_option maxRecDepth 20000 in
theorem gL_wear_X11_wear : GoodIn wsL_wear (wsV RL 81 RX11 yX11_wear wsX11_wear) := goodIn_app (goodIn_of _ (by decide +kernel)) ggL_wear_X11_wear
theorem dL_wear_0 : decode cL_wear 0 = .ok (.aload_n 2, 1) := by decide +kernel
theorem dL_wear_1 : decode cL_wear 1 = .ok (.iconst 0, 1) := by decide +kernel
theorem dL_wear_2 : decode cL_wear 2 = .ok (.aload_n 0, 1) := by decide +kernel
theorem dL_wear_3 : decode cL_wear 3 = .ok (.iload_n 1, 1) := by decide +kernel
theorem dL_wear_4 : decode cL_wear 4 = .ok (.invokevirtual 81, 3) := by decide +kernel
theorem dL_wear_7 : decode cL_wear 7 = .ok (.i2l, 1) := by decide +kernel
theorem dL_wear_8 : decode cL_wear 8 = .ok (.lastore, 1) := by decide +kernel
theorem dL_wear_9 : decode cL_wear 9 = .ok (.goto 6, 3) := by decide +kernel
theorem dL_wear_12 : decode cL_wear 12 = .ok (.astore_n 3, 1) := by decide +kernel
theorem dL_wear_13 : decode cL_wear 13 = .ok (.iconst 1, 1) := by decide +kernel
theorem dL_wear_14 : decode cL_wear 14 = .ok (.ireturn, 1) := by decide +kernel
theorem dL_wear_15 : decode cL_wear 15 = .ok (.iconst 0, 1) := by decide +kernel
theorem dL_wear_16 : decode cL_wear 16 = .ok (.ireturn, 1) := by decide +kernel
set_option maxRecDepth 20000 in
theorem ggL_stored_X11_stored : GoodIn wsL_stored wsX11_stored := goodIn_ca (goodIn_ca (goodIn_r _ [6, 7, 8, 9, 10, 5, 11, 12, 13, 14, 15, 16, 17, 18, 19, 20, 21, 22, 23, 24, 25, 26, 27, 28, 29, 30, 31, 32] (by decide +kernel) (by decide +kernel)) (goodIn_sub (fun _ h => List.mem_cons_of_mem _ (List.mem_append_left _ (List.mem_append_right _ h))) (by decide +kernel))) (goodIn_sub (fun _ h => List.mem_cons_of_mem _ (List.mem_append_right _ h)) (by decide +kernel))
set_option maxRecDepth 20000 in
theorem gL_stored_X11_stored : GoodIn wsL_stored (wsV RL 84 RX11 yX11_stored wsX11_stored) := goodIn_app (goodIn_of _ (by decide +kernel)) ggL_stored_X11_stored
theorem dL_stored_0 : decode cL_stored 0 = .ok (.aload_n 2, 1) := by decide +kernel
theorem dL_stored_1 : decode cL_stored 1 = .ok (.iconst 0, 1) := by decide +kernel
theorem dL_stored_2 : decode cL_stored 2 = .ok (.aload_n 0, 1) := by decide +kernel
theorem dL_stored_3 : decode cL_stored 3 = .ok (.iload_n 1, 1) := by decide +kernel
theorem dL_stored_4 : decode cL_stored 4 = .ok (.invokevirtual 84, 3) := by decide +kernel
theorem dL_stored_7 : decode cL_stored 7 = .ok (.i2l, 1) := by decide +kernel
theorem dL_stored_8 : decode cL_stored 8 = .ok (.lastore, 1) := by decide +kernel
theorem dL_stored_9 : decode cL_stored 9 = .ok (.goto 6, 3) := by decide +kernel
theorem dL_stored_12 : decode cL_stored 12 = .ok (.astore_n 3, 1) := by decide +kernel
theorem dL_stored_13 : decode cL_stored 13 = .ok (.iconst 1, 1) := by decide +kernel
theorem dL_stored_14 : decode cL_stored 14 = .ok (.ireturn, 1) := by decide +kernel
theorem dL_stored_15 : decode cL_stored 15 = .ok (.iconst 0, 1) := by decide +kernel
theorem dL_stored_16 : decode cL_stored 16 = .ok (.ireturn, 1) := by decide +kernel
set_option maxRecDepth 20000 in
theorem ggL_nextPromise_X11_nextPromise : GoodIn wsL_nextPromise wsX11_nextPromise := goodIn_ca (goodIn_ca (goodIn_r _ [6, 7, 8, 9, 10, 11, 12, 13, 14, 15, 16, 17, 18, 19, 20, 21, 22, 23, 24, 25, 26, 27, 28, 29, 30, 31, 32, 33, 34, 35, 36, 37, 38, 39, 40, 41, 42, 43, 44] (by decide +kernel) (by decide +kernel)) (goodIn_sub (fun _ h => List.mem_cons_of_mem _ (List.mem_append_right _ h)) (by decide +kernel))) (goodIn_sub (fun _ h => List.mem_cons_of_mem _ (List.mem_append_left _ (List.mem_append_right _ h))) (by decide +kernel))
set_option maxRecDepth 20000 in
theorem gL_nextPromise_X11_nextPromise : GoodIn wsL_nextPromise (wsV RL 87 RX11 yX11_nextPromise wsX11_nextPromise) := goodIn_app (goodIn_of _ (by decide +kernel)) ggL_nextPromise_X11_nextPromise
theorem dL_nextPromise_0 : decode cL_nextPromise 0 = .ok (.aload_n 1, 1) := by decide +kernel
theorem dL_nextPromise_1 : decode cL_nextPromise 1 = .ok (.iconst 0, 1) := by decide +kernel
theorem dL_nextPromise_2 : decode cL_nextPromise 2 = .ok (.aload_n 0, 1) := by decide +kernel
theorem dL_nextPromise_3 : decode cL_nextPromise 3 = .ok (.invokevirtual 87, 3) := by decide +kernel
theorem dL_nextPromise_6 : decode cL_nextPromise 6 = .ok (.i2l, 1) := by decide +kernel
theorem dL_nextPromise_7 : decode cL_nextPromise 7 = .ok (.lastore, 1) := by decide +kernel
theorem dL_nextPromise_8 : decode cL_nextPromise 8 = .ok (.goto 6, 3) := by decide +kernel
theorem dL_nextPromise_11 : decode cL_nextPromise 11 = .ok (.astore_n 2, 1) := by decide +kernel
theorem dL_nextPromise_12 : decode cL_nextPromise 12 = .ok (.iconst 1, 1) := by decide +kernel
theorem dL_nextPromise_13 : decode cL_nextPromise 13 = .ok (.ireturn, 1) := by decide +kernel
theorem dL_nextPromise_14 : decode cL_nextPromise 14 = .ok (.iconst 0, 1) := by decide +kernel
theorem dL_nextPromise_15 : decode cL_nextPromise 15 = .ok (.ireturn, 1) := by decide +kernel
set_option maxRecDepth 20000 in
theorem ggL_deliver_X11_deliver : GoodIn wsL_deliver wsX11_deliver := goodIn_ca (goodIn_ca (goodIn_r _ [6, 7, 8, 9, 10, 11, 12, 13, 14, 15, 16, 17, 18, 19, 20, 21, 22, 23, 24, 25, 26, 27, 28, 29, 30, 31, 32, 33, 34, 35, 36, 37, 38, 39, 40] (by decide +kernel) (by decide +kernel)) (goodIn_sub (fun _ h => List.mem_cons_of_mem _ (List.mem_append_right _ h)) (by decide +kernel))) (goodIn_sub (fun _ h => List.mem_cons_of_mem _ (List.mem_append_left _ (List.mem_append_right _ h))) (by decide +kernel))
set_option maxRecDepth 20000 in
theorem gL_deliver_X11_deliver : GoodIn wsL_deliver (wsV RL 90 RX11 yX11_deliver wsX11_deliver) := goodIn_app (goodIn_of _ (by decide +kernel)) ggL_deliver_X11_deliver
theorem dL_deliver_0 : decode cL_deliver 0 = .ok (.aload_n 2, 1) := by decide +kernel
theorem dL_deliver_1 : decode cL_deliver 1 = .ok (.iconst 0, 1) := by decide +kernel
theorem dL_deliver_2 : decode cL_deliver 2 = .ok (.aload_n 0, 1) := by decide +kernel
theorem dL_deliver_3 : decode cL_deliver 3 = .ok (.iload_n 1, 1) := by decide +kernel
theorem dL_deliver_4 : decode cL_deliver 4 = .ok (.invokevirtual 90, 3) := by decide +kernel
theorem dL_deliver_7 : decode cL_deliver 7 = .ok (.ifCond .eq 7, 3) := by decide +kernel
theorem dL_deliver_10 : decode cL_deliver 10 = .ok (.lconst 1, 1) := by decide +kernel
theorem dL_deliver_11 : decode cL_deliver 11 = .ok (.goto 4, 3) := by decide +kernel
theorem dL_deliver_14 : decode cL_deliver 14 = .ok (.lconst 0, 1) := by decide +kernel
theorem dL_deliver_15 : decode cL_deliver 15 = .ok (.lastore, 1) := by decide +kernel
theorem dL_deliver_16 : decode cL_deliver 16 = .ok (.goto 6, 3) := by decide +kernel
theorem dL_deliver_19 : decode cL_deliver 19 = .ok (.astore_n 3, 1) := by decide +kernel
theorem dL_deliver_20 : decode cL_deliver 20 = .ok (.iconst 1, 1) := by decide +kernel
theorem dL_deliver_21 : decode cL_deliver 21 = .ok (.ireturn, 1) := by decide +kernel
theorem dL_deliver_22 : decode cL_deliver 22 = .ok (.iconst 0, 1) := by decide +kernel
theorem dL_deliver_23 : decode cL_deliver 23 = .ok (.ireturn, 1) := by decide +kernel
set_option maxRecDepth 20000 in
theorem ggL_mirrored_X11_mirrored : GoodIn wsL_mirrored wsX11_mirrored := goodIn_ca (goodIn_ca (goodIn_r _ [6, 7, 8, 9, 10, 5, 11, 12, 13, 14, 15, 16, 17, 18, 19, 20, 21, 22, 23, 24, 25, 26, 27, 28, 29, 30, 31, 32] (by decide +kernel) (by decide +kernel)) (goodIn_sub (fun _ h => List.mem_cons_of_mem _ (List.mem_append_left _ (List.mem_append_right _ h))) (by decide +kernel))) (goodIn_sub (fun _ h => List.mem_cons_of_mem _ (List.mem_append_right _ h)) (by decide +kernel))
set_option maxRecDepth 20000 in
theorem gL_mirrored_X11_mirrored : GoodIn wsL_mirrored (wsV RL 93 RX11 yX11_mirrored wsX11_mirrored) := goodIn_app (goodIn_of _ (by decide +kernel)) ggL_mirrored_X11_mirrored
theorem dL_mirrored_0 : decode cL_mirrored 0 = .ok (.aload_n 2, 1) := by decide +kernel
theorem dL_mirrored_1 : decode cL_mirrored 1 = .ok (.iconst 0, 1) := by decide +kernel
theorem dL_mirrored_2 : decode cL_mirrored 2 = .ok (.aload_n 0, 1) := by decide +kernel
theorem dL_mirrored_3 : decode cL_mirrored 3 = .ok (.iload_n 1, 1) := by decide +kernel
theorem dL_mirrored_4 : decode cL_mirrored 4 = .ok (.invokevirtual 93, 3) := by decide +kernel
theorem dL_mirrored_7 : decode cL_mirrored 7 = .ok (.i2l, 1) := by decide +kernel
theorem dL_mirrored_8 : decode cL_mirrored 8 = .ok (.lastore, 1) := by decide +kernel
theorem dL_mirrored_9 : decode cL_mirrored 9 = .ok (.goto 6, 3) := by decide +kernel
theorem dL_mirrored_12 : decode cL_mirrored 12 = .ok (.astore_n 3, 1) := by decide +kernel
theorem dL_mirrored_13 : decode cL_mirrored 13 = .ok (.iconst 1, 1) := by decide +kernel
theorem dL_mirrored_14 : decode cL_mirrored 14 = .ok (.ireturn, 1) := by decide +kernel
theorem dL_mirrored_15 : decode cL_mirrored 15 = .ok (.iconst 0, 1) := by decide +kernel
theorem dL_mirrored_16 : decode cL_mirrored 16 = .ok (.ireturn, 1) := by decide +kernel
set_option maxRecDepth 20000 in
theorem ggL_answeredShare_X11_answeredShare : GoodIn wsL_answeredShare wsX11_answeredShare := goodIn_ca (goodIn_r _ [6, 7, 8, 9, 10, 11, 12, 13, 14, 15, 16, 17, 18, 19, 20, 21, 22, 23, 24, 25, 26, 27, 28, 29, 30, 31] (by decide +kernel) (by decide +kernel)) (goodIn_sub (fun _ h => List.mem_cons_of_mem _ (List.mem_append_right _ h)) (by decide +kernel))
set_option maxRecDepth 20000 in
theorem gL_answeredShare_X11_answeredShare : GoodIn wsL_answeredShare (wsV RL 96 RX11 yX11_answeredShare wsX11_answeredShare) := goodIn_app (goodIn_of _ (by decide +kernel)) ggL_answeredShare_X11_answeredShare
theorem dL_answeredShare_0 : decode cL_answeredShare 0 = .ok (.aload_n 1, 1) := by decide +kernel
theorem dL_answeredShare_1 : decode cL_answeredShare 1 = .ok (.iconst 0, 1) := by decide +kernel
theorem dL_answeredShare_2 : decode cL_answeredShare 2 = .ok (.aload_n 0, 1) := by decide +kernel
theorem dL_answeredShare_3 : decode cL_answeredShare 3 = .ok (.invokevirtual 96, 3) := by decide +kernel
theorem dL_answeredShare_6 : decode cL_answeredShare 6 = .ok (.f2d, 1) := by decide +kernel
theorem dL_answeredShare_7 : decode cL_answeredShare 7 = .ok (.dastore, 1) := by decide +kernel
theorem dL_answeredShare_8 : decode cL_answeredShare 8 = .ok (.goto 6, 3) := by decide +kernel
theorem dL_answeredShare_11 : decode cL_answeredShare 11 = .ok (.astore_n 2, 1) := by decide +kernel
theorem dL_answeredShare_12 : decode cL_answeredShare 12 = .ok (.iconst 1, 1) := by decide +kernel
theorem dL_answeredShare_13 : decode cL_answeredShare 13 = .ok (.ireturn, 1) := by decide +kernel
theorem dL_answeredShare_14 : decode cL_answeredShare 14 = .ok (.iconst 0, 1) := by decide +kernel
theorem dL_answeredShare_15 : decode cL_answeredShare 15 = .ok (.ireturn, 1) := by decide +kernel
set_option maxRecDepth 20000 in
theorem ggL_meanStaleness_X11_meanStaleness : GoodIn wsL_meanStaleness wsX11_meanStaleness := goodIn_ca (goodIn_r _ [6, 7, 8, 9, 10, 11, 12, 13, 14, 15, 16, 17, 18, 19, 20, 21, 22, 23, 24, 25, 26, 27, 28, 29, 30, 31] (by decide +kernel) (by decide +kernel)) (goodIn_sub (fun _ h => List.mem_cons_of_mem _ (List.mem_append_right _ h)) (by decide +kernel))
set_option maxRecDepth 20000 in
theorem gL_meanStaleness_X11_meanStaleness : GoodIn wsL_meanStaleness (wsV RL 102 RX11 yX11_meanStaleness wsX11_meanStaleness) := goodIn_app (goodIn_of _ (by decide +kernel)) ggL_meanStaleness_X11_meanStaleness
theorem dL_meanStaleness_0 : decode cL_meanStaleness 0 = .ok (.aload_n 1, 1) := by decide +kernel
theorem dL_meanStaleness_1 : decode cL_meanStaleness 1 = .ok (.iconst 0, 1) := by decide +kernel
theorem dL_meanStaleness_2 : decode cL_meanStaleness 2 = .ok (.aload_n 0, 1) := by decide +kernel
theorem dL_meanStaleness_3 : decode cL_meanStaleness 3 = .ok (.invokevirtual 102, 3) := by decide +kernel
theorem dL_meanStaleness_6 : decode cL_meanStaleness 6 = .ok (.dastore, 1) := by decide +kernel
theorem dL_meanStaleness_7 : decode cL_meanStaleness 7 = .ok (.goto 6, 3) := by decide +kernel
theorem dL_meanStaleness_10 : decode cL_meanStaleness 10 = .ok (.astore_n 2, 1) := by decide +kernel
theorem dL_meanStaleness_11 : decode cL_meanStaleness 11 = .ok (.iconst 1, 1) := by decide +kernel
theorem dL_meanStaleness_12 : decode cL_meanStaleness 12 = .ok (.ireturn, 1) := by decide +kernel
theorem dL_meanStaleness_13 : decode cL_meanStaleness 13 = .ok (.iconst 0, 1) := by decide +kernel
theorem dL_meanStaleness_14 : decode cL_meanStaleness 14 = .ok (.ireturn, 1) := by decide +kernel
set_option maxRecDepth 20000 in
theorem ggL_law_X11_init : GoodIn wsL_law wsX11_init := goodIn_ca (goodIn_r _ [10, 11, 12, 13, 14, 15, 16, 17, 18, 19, 20, 21, 22, 23, 24, 25, 26, 27, 28, 29, 30, 31, 32, 33, 34, 35, 36, 37, 38, 39, 40, 41, 42, 43, 44, 45, 46, 47, 48, 49, 50, 51, 52, 53, 54, 55, 56, 57, 58, 59, 60, 61, 62, 63, 64, 65, 66, 67, 68, 69, 70, 71, 72, 73, 74, 75, 76, 77, 78, 79, 80, 81, 82, 83, 84, 85, 86, 87, 88, 89, 90, 91, 92, 93, 94, 95, 96, 97, 98, 99, 100, 101, 102, 103, 104, 105, 106, 107, 108, 109, 110, 111, 112, 113, 114, 115, 116, 117, 118, 119, 120, 121, 122, 123, 124, 125, 126, 127, 128, 129, 130, 131, 132, 133, 134, 135, 136, 137, 138, 139, 140, 141, 142, 143, 144, 145, 146, 147, 148, 149, 150, 151, 152, 153, 154, 155, 156, 157, 158, 159, 160, 161, 162, 163, 1053, 1054, 1055, 1056, 985, 986, 987, 988, 989, 990, 991, 992, 993, 994, 995, 996, 997, 1057, 1058, 1059, 1060, 1061, 1062, 1063, 1064, 1065, 1066, 1067, 1068, 1069, 1070, 1071, 1072, 1073, 1074, 1075, 1076, 1077, 1078, 1079, 1080, 1081, 1082, 1083, 1084, 1085, 1086, 1087, 1088, 1089, 1090, 1091, 1092, 1093, 1094, 1095, 1096, 1097, 1098, 1099, 1100, 1101, 1102, 1103, 1104, 1105, 1106, 1107] (by decide +kernel) (by decide +kernel)) (goodIn_sub (fun _ h => List.mem_append_left _ (List.mem_append_left _ (List.mem_append_left _ (List.mem_append_left _ (List.mem_append_left _ (List.mem_append_left _ (List.mem_append_right _ h))))))) (by decide +kernel))
set_option maxRecDepth 20000 in
theorem gL_law_X11_init : GoodIn wsL_law (wsX11_init) := ggL_law_X11_init
set_option maxRecDepth 20000 in
theorem ggL_law_X12_init : GoodIn wsL_law wsX12_init := goodIn_ca (goodIn_r _ [166, 167, 12, 13, 64, 168, 169, 170, 171, 172, 173, 97, 174, 175, 176, 177, 178, 179, 180, 181, 182, 183, 184, 185, 186, 187, 188, 189, 190, 191, 192, 193, 194, 195, 196, 197, 198, 199, 200, 140, 201, 202, 203, 204, 205, 206, 998, 999, 1000, 1001, 1002, 1003, 1004, 1005, 1006, 1007, 1008, 1009, 1010, 1011, 1012, 1013, 1014, 1015, 1016, 1017, 1018, 1019, 1020, 1021, 1022, 1023, 1024, 1025, 1026, 1027, 1028, 1029, 1030, 1031, 1032, 1033, 1034, 1035, 1036, 1037, 1038, 1039, 1040, 1041, 1042, 1043, 1044, 1045, 1046, 1047, 1048, 1049, 1050, 1051, 1052] (by decide +kernel) (by decide +kernel)) (goodIn_sub (fun _ h => List.mem_append_left _ (List.mem_append_left _ (List.mem_append_left _ (List.mem_append_left _ (List.mem_append_left _ (List.mem_append_left _ (List.mem_append_right _ h))))))) (by decide +kernel))
set_option maxRecDepth 20000 in
theorem gL_law_X12_init : GoodIn wsL_law (wsX12_init) := ggL_law_X12_init
set_option maxRecDepth 20000 in
theorem ggL_law_L_setKey : GoodIn wsL_law wsL_setKey := goodIn_ca (goodIn_ca (goodIn_ca (goodIn_ca (goodIn_r _ [210, 211, 212, 213, 214, 215, 216, 2, 217, 218, 219, 45, 58, 17, 220, 221, 222, 223, 224, 225, 226, 227, 228, 229, 230, 231, 232, 233, 234, 235, 236, 59, 237, 238, 239, 240, 33, 241, 37, 242, 243, 244, 245, 44, 246, 142, 137, 141, 247, 248, 249, 250, 138, 139, 985, 986, 987, 988, 989, 990, 991, 992, 993, 994, 995, 996, 997, 1053, 1054, 1055, 1056, 1071, 1072, 1073, 1074, 1075, 1076, 1077, 1078, 1079, 1080, 1085, 1086, 1087, 1088, 1089, 1090, 1091] (by decide +kernel) (by decide +kernel)) (goodIn_sub (fun _ h => List.mem_append_left _ (List.mem_append_left _ (List.mem_append_left _ (List.mem_append_left _ (List.mem_append_left _ (List.mem_append_left _ (List.mem_append_right _ h))))))) (by decide +kernel))) (goodIn_sub (fun _ h => List.mem_append_left _ (List.mem_append_left _ (List.mem_append_left _ (List.mem_append_left _ (List.mem_append_left _ (List.mem_append_right _ h)))))) (by decide +kernel))) (goodIn_sub (fun _ h => List.mem_append_left _ (List.mem_append_left _ (List.mem_append_left _ (List.mem_append_left _ (List.mem_append_right _ h))))) (by decide +kernel))) (goodIn_sub (fun _ h => List.mem_append_left _ (List.mem_append_left _ (List.mem_append_left _ (List.mem_append_right _ h)))) (by decide +kernel))
set_option maxRecDepth 20000 in
theorem gL_law_L_setKey : GoodIn wsL_law (va_wsS RL 110 yL_setKey wsL_setKey) := goodIn_app (goodIn_of _ (by decide +kernel)) ggL_law_L_setKey
set_option maxRecDepth 20000 in
theorem ggL_law_X12_setKey : GoodIn wsL_law wsX12_setKey := goodIn_ca (goodIn_r _ [254, 255, 256, 182, 198, 179, 177, 178, 257, 258, 5, 259, 260, 261, 262, 263, 264, 265, 266, 267, 268, 269, 270, 271, 199, 201, 998, 999, 1000, 1001, 1002, 1003, 1004, 1005, 1006, 1007, 1008, 1009, 1010, 1011, 1012, 1013, 1014, 1015, 1016, 1017, 1018, 1019, 1020, 1021, 1022, 1023, 1024, 1025, 1026, 1027, 1028, 1029, 1030, 1031, 1032, 1033, 1034, 1035, 1036, 1037, 1038, 1039, 1040, 1041, 1042, 1043, 1044, 1045, 1046, 1047, 1048, 1049, 1050, 1051, 1052] (by decide +kernel) (by decide +kernel)) (goodIn_sub (fun _ h => List.mem_append_left _ (List.mem_append_left _ (List.mem_append_left _ (List.mem_append_left _ (List.mem_append_left _ (List.mem_append_left _ (List.mem_append_right _ h))))))) (by decide +kernel))
set_option maxRecDepth 20000 in
theorem gL_law_X12_setKey : GoodIn wsL_law (wsV RL 115 RX12 yX12_setKey wsX12_setKey) := goodIn_app (goodIn_of _ (by decide +kernel)) ggL_law_X12_setKey
set_option maxRecDepth 20000 in
theorem ggL_law_X12_thrown : GoodIn wsL_law wsX12_thrown := goodIn_r _ [275, 255, 998, 999, 1000, 1001, 1002, 1003, 1004, 1005, 1006, 1007, 1008, 1009, 1010, 1011, 1012, 1013, 1014, 1015, 1016, 1017, 1018, 1019, 1020, 1021, 1022, 1023, 1024, 1025, 1026, 1027, 1028, 1029, 1030, 1031, 1032, 1033, 1034, 1035, 1036, 1037, 1038, 1039, 1040, 1041, 1042, 1043, 1044, 1045, 1046, 1047, 1048, 1049, 1050, 1051, 1052] (by decide +kernel) (by decide +kernel)
set_option maxRecDepth 20000 in
theorem gL_law_X12_thrown : GoodIn wsL_law (wsV RL 116 RX12 yX12_thrown wsX12_thrown) := goodIn_app (goodIn_of _ (by decide +kernel)) ggL_law_X12_thrown
set_option maxRecDepth 20000 in
theorem ggL_law_L_get : GoodIn wsL_law wsL_get := goodIn_ca (goodIn_ca (goodIn_ca (goodIn_ca (goodIn_ca (goodIn_r _ [278, 211, 212, 213, 279, 280, 281, 282, 2, 283, 284, 285, 45, 58, 286, 17, 222, 29, 223, 224, 225, 226, 227, 228, 229, 230, 231, 232, 233, 234, 235, 236, 218, 219, 59, 287, 288, 289, 290, 33, 241, 41, 291, 292, 37, 242, 293, 294, 295, 296, 297, 298, 299, 300, 301, 302, 16, 303, 68, 67, 243, 244, 245, 44, 246, 142, 137, 141, 247, 248, 249, 250, 138, 139, 304, 305, 306, 307, 143, 308, 309, 310, 311, 21, 312, 49, 313, 57, 314, 315, 316, 20, 317, 77, 74, 75, 76, 318, 319, 320, 48, 321, 151, 152, 148, 149, 150, 153, 154, 322, 323, 324, 32, 325, 100, 99, 326, 327, 328, 56, 329, 106, 107, 108, 109, 330, 331, 332, 333, 334, 335, 336, 337, 53, 338, 339, 340, 341, 342, 343, 344, 221, 345, 346, 347, 348, 52, 349, 161, 162, 158, 350, 351, 352, 353, 354, 355, 356, 28, 357, 90, 358, 359, 360, 361, 362, 363, 364, 365, 366, 367, 368, 369, 370, 371, 372, 373, 374, 160, 159, 375, 376, 377, 378, 379, 380, 381, 382, 36, 383, 116, 115, 117, 384, 385, 386, 387, 119, 388, 389, 390, 391, 118, 392, 393, 394, 395, 396, 98, 101, 397, 398, 399, 400, 96, 401, 402, 403, 404, 405, 406, 407, 408, 409, 410, 411, 412, 413, 414, 91, 415, 416, 417, 418, 419, 985, 986, 987, 988, 989, 990, 991, 992, 993, 994, 995, 996, 997, 1085, 1086, 1087, 1088, 1089, 1090, 1091, 1053, 1054, 1055, 1056, 1071, 1072, 1073, 1074, 1075, 1081, 1082, 1083, 1084, 1076, 1077, 1078, 1079, 1080, 1104, 1105, 1106, 1107, 1057, 1058, 1059, 1060, 1061, 1062, 1092, 1093, 1094, 1095, 1096, 1097, 1098, 1099, 1100, 1101, 1102, 1103, 1069, 1070] (by decide +kernel) (by decide +kernel)) (goodIn_sub (fun _ h => List.mem_append_left _ (List.mem_append_left _ (List.mem_append_left _ (List.mem_append_left _ (List.mem_append_left _ (List.mem_append_left _ (List.mem_append_right _ h))))))) (by decide +kernel))) (goodIn_sub (fun _ h => List.mem_append_left _ (List.mem_append_left _ (List.mem_append_right _ h))) (by decide +kernel))) (goodIn_sub (fun _ h => List.mem_append_left _ (List.mem_append_left _ (List.mem_append_left _ (List.mem_append_left _ (List.mem_append_right _ h))))) (by decide +kernel))) (goodIn_sub (fun _ h => List.mem_append_left _ (List.mem_append_left _ (List.mem_append_left _ (List.mem_append_right _ h)))) (by decide +kernel))) (goodIn_sub (fun _ h => List.mem_append_left _ (List.mem_append_left _ (List.mem_append_left _ (List.mem_append_left _ (List.mem_append_left _ (List.mem_append_right _ h)))))) (by decide +kernel))
set_option maxRecDepth 20000 in
theorem gL_law_L_get : GoodIn wsL_law (va_wsS RL 119 yL_get wsL_get) := goodIn_app (goodIn_of _ (by decide +kernel)) ggL_law_L_get
set_option maxRecDepth 20000 in
theorem ggL_law_X12_get : GoodIn wsL_law wsX12_get := goodIn_ca (goodIn_r _ [423, 255, 256, 271, 424, 199, 200, 425, 201, 202, 426, 178, 257, 258, 5, 259, 260, 261, 262, 427, 428, 429, 430, 267, 268, 269, 270, 431, 432, 433, 434, 182, 188, 186, 180, 179, 185, 435, 436, 437, 438, 198, 195, 194, 439, 440, 441, 442, 443, 184, 193, 183, 192, 444, 169, 445, 446, 447, 448, 449, 450, 451, 170, 171, 172, 452, 453, 454, 455, 456, 187, 457, 458, 459, 460, 181, 461, 462, 463, 464, 465, 466, 467, 468, 469, 470, 471, 472, 473, 474, 475, 476, 477, 478, 479, 480, 481, 177, 206, 482, 483, 484, 485, 486, 487, 488, 489, 490, 491, 492, 493, 494, 495, 496, 497, 191, 498, 499, 500, 501, 502, 197, 503, 196, 504, 505, 506, 507, 508, 509, 510, 511, 998, 999, 1000, 1001, 1002, 1003, 1004, 1005, 1006, 1007, 1008, 1009, 1010, 1011, 1012, 1013, 1014, 1015, 1016, 1017, 1018, 1019, 1020, 1021, 1022, 1023, 1024, 1025, 1026, 1027, 1028, 1029, 1030, 1031, 1032, 1033, 1034, 1035, 1036, 1037, 1038, 1039, 1040, 1041, 1042, 1043, 1044, 1045, 1046, 1047, 1048, 1049, 1050, 1051, 1052] (by decide +kernel) (by decide +kernel)) (goodIn_sub (fun _ h => List.mem_append_left _ (List.mem_append_left _ (List.mem_append_left _ (List.mem_append_left _ (List.mem_append_left _ (List.mem_append_left _ (List.mem_append_right _ h))))))) (by decide +kernel))
set_option maxRecDepth 20000 in
theorem gL_law_X12_get : GoodIn wsL_law (wsV RL 122 RX12 yX12_get wsX12_get) := goodIn_app (goodIn_of _ (by decide +kernel)) ggL_law_X12_get
set_option maxRecDepth 20000 in
theorem ggL_law_L_value : GoodIn wsL_law wsL_value := goodIn_ca (goodIn_ca (goodIn_r _ [514, 515, 516, 517, 518, 2, 519, 49, 520, 521, 522, 523, 524, 525, 526, 527, 985, 986, 987, 988, 989, 990, 991, 992, 993, 994, 995, 996, 997, 1092, 1093, 1094, 1095, 1096, 1097, 1098] (by decide +kernel) (by decide +kernel)) (goodIn_sub (fun _ h => List.mem_append_left _ (List.mem_append_left _ (List.mem_append_left _ (List.mem_append_left _ (List.mem_append_left _ (List.mem_append_left _ (List.mem_append_right _ h))))))) (by decide +kernel))) (goodIn_sub (fun _ h => List.mem_append_left _ (List.mem_append_right _ h)) (by decide +kernel))
set_option maxRecDepth 20000 in
theorem gL_law_L_value : GoodIn wsL_law (va_wsS RL 123 yL_value wsL_value) := goodIn_app (goodIn_of _ (by decide +kernel)) ggL_law_L_value
set_option maxRecDepth 20000 in
theorem ggL_law_X12_value : GoodIn wsL_law wsX12_value := goodIn_r _ [531, 255, 424, 444, 263, 264, 265, 5, 266, 998, 999, 1000, 1001, 1002, 1003, 1004, 1005, 1006, 1007, 1008, 1009, 1010, 1011, 1012, 1013, 1014, 1015, 1016, 1017, 1018, 1019, 1020, 1021, 1022, 1023, 1024, 1025, 1026, 1027, 1028, 1029, 1030, 1031, 1032, 1033, 1034, 1035, 1036, 1037, 1038, 1039, 1040, 1041, 1042, 1043, 1044, 1045, 1046, 1047, 1048, 1049, 1050, 1051, 1052] (by decide +kernel) (by decide +kernel)
set_option maxRecDepth 20000 in
theorem gL_law_X12_value : GoodIn wsL_law (wsV RL 126 RX12 yX12_value wsX12_value) := goodIn_app (goodIn_of _ (by decide +kernel)) ggL_law_X12_value
set_option maxRecDepth 20000 in
theorem ggL_law_L_staleness : GoodIn wsL_law wsL_staleness := goodIn_ca (goodIn_ca (goodIn_r _ [534, 515, 535, 536, 537, 2, 538, 49, 539, 521, 522, 523, 524, 525, 526, 527, 985, 986, 987, 988, 989, 990, 991, 992, 993, 994, 995, 996, 997, 1092, 1093, 1094, 1095, 1096, 1097, 1098] (by decide +kernel) (by decide +kernel)) (goodIn_sub (fun _ h => List.mem_append_left _ (List.mem_append_left _ (List.mem_append_left _ (List.mem_append_left _ (List.mem_append_left _ (List.mem_append_left _ (List.mem_append_right _ h))))))) (by decide +kernel))) (goodIn_sub (fun _ h => List.mem_append_left _ (List.mem_append_right _ h)) (by decide +kernel))
set_option maxRecDepth 20000 in
theorem gL_law_L_staleness : GoodIn wsL_law (va_wsS RL 127 yL_staleness wsL_staleness) := goodIn_app (goodIn_of _ (by decide +kernel)) ggL_law_L_staleness
set_option maxRecDepth 20000 in
theorem ggL_law_X12_staleness : GoodIn wsL_law wsX12_staleness := goodIn_r _ [543, 255, 424, 445, 263, 264, 265, 5, 266, 998, 999, 1000, 1001, 1002, 1003, 1004, 1005, 1006, 1007, 1008, 1009, 1010, 1011, 1012, 1013, 1014, 1015, 1016, 1017, 1018, 1019, 1020, 1021, 1022, 1023, 1024, 1025, 1026, 1027, 1028, 1029, 1030, 1031, 1032, 1033, 1034, 1035, 1036, 1037, 1038, 1039, 1040, 1041, 1042, 1043, 1044, 1045, 1046, 1047, 1048, 1049, 1050, 1051, 1052] (by decide +kernel) (by decide +kernel)
set_option maxRecDepth 20000 in
theorem gL_law_X12_staleness : GoodIn wsL_law (wsV RL 129 RX12 yX12_staleness wsX12_staleness) := goodIn_app (goodIn_of _ (by decide +kernel)) ggL_law_X12_staleness
set_option maxRecDepth 20000 in
theorem ggL_law_L_lease : GoodIn wsL_law wsL_lease := goodIn_ca (goodIn_ca (goodIn_r _ [546, 515, 547, 548, 549, 2, 550, 525, 526, 45, 286, 985, 986, 987, 988, 989, 990, 991, 992, 993, 994, 995, 996, 997, 1085, 1086, 1087, 1088, 1089, 1090, 1091] (by decide +kernel) (by decide +kernel)) (goodIn_sub (fun _ h => List.mem_append_left _ (List.mem_append_left _ (List.mem_append_left _ (List.mem_append_left _ (List.mem_append_left _ (List.mem_append_left _ (List.mem_append_right _ h))))))) (by decide +kernel))) (goodIn_sub (fun _ h => List.mem_append_left _ (List.mem_append_right _ h)) (by decide +kernel))
set_option maxRecDepth 20000 in
theorem gL_law_L_lease : GoodIn wsL_law (va_wsS RL 130 yL_lease wsL_lease) := goodIn_app (goodIn_of _ (by decide +kernel)) ggL_law_L_lease
set_option maxRecDepth 20000 in
theorem ggL_law_X12_lease : GoodIn wsL_law wsX12_lease := goodIn_r _ [554, 255, 271, 263, 264, 265, 5, 266, 998, 999, 1000, 1001, 1002, 1003, 1004, 1005, 1006, 1007, 1008, 1009, 1010, 1011, 1012, 1013, 1014, 1015, 1016, 1017, 1018, 1019, 1020, 1021, 1022, 1023, 1024, 1025, 1026, 1027, 1028, 1029, 1030, 1031, 1032, 1033, 1034, 1035, 1036, 1037, 1038, 1039, 1040, 1041, 1042, 1043, 1044, 1045, 1046, 1047, 1048, 1049, 1050, 1051, 1052] (by decide +kernel) (by decide +kernel)
set_option maxRecDepth 20000 in
theorem gL_law_X12_lease : GoodIn wsL_law (wsV RL 132 RX12 yX12_lease wsX12_lease) := goodIn_app (goodIn_of _ (by decide +kernel)) ggL_law_X12_lease
set_option maxRecDepth 20000 in
theorem ggL_law_L_read : GoodIn wsL_law wsL_read := goodIn_ca (goodIn_ca (goodIn_ca (goodIn_r _ [557, 211, 213, 558, 559, 560, 2, 561, 218, 219, 45, 58, 562, 21, 563, 564, 565, 566, 17, 567, 568, 569, 570, 226, 227, 286, 571, 248, 249, 44, 250, 141, 138, 139, 300, 301, 302, 16, 303, 68, 67, 572, 331, 332, 56, 333, 106, 107, 108, 109, 985, 986, 987, 988, 989, 990, 991, 992, 993, 994, 995, 996, 997, 1085, 1086, 1087, 1088, 1089, 1090, 1091, 1057, 1058, 1059, 1060, 1061, 1062, 1053, 1054, 1055, 1056, 1104, 1105, 1106, 1107] (by decide +kernel) (by decide +kernel)) (goodIn_sub (fun _ h => List.mem_append_left _ (List.mem_append_left _ (List.mem_append_left _ (List.mem_append_left _ (List.mem_append_left _ (List.mem_append_left _ (List.mem_append_right _ h))))))) (by decide +kernel))) (goodIn_sub (fun _ h => List.mem_append_left _ (List.mem_append_left _ (List.mem_append_left _ (List.mem_append_left _ (List.mem_append_left _ (List.mem_append_right _ h)))))) (by decide +kernel))) (goodIn_sub (fun _ h => List.mem_append_left _ (List.mem_append_left _ (List.mem_append_left _ (List.mem_append_left _ (List.mem_append_right _ h))))) (by decide +kernel))
set_option maxRecDepth 20000 in
theorem gL_law_L_read : GoodIn wsL_law (va_wsS RL 133 yL_read wsL_read) := goodIn_app (goodIn_of _ (by decide +kernel)) ggL_law_L_read
set_option maxRecDepth 20000 in
theorem ggL_law_X12_read : GoodIn wsL_law wsX12_read := goodIn_ca (goodIn_r _ [576, 255, 201, 199, 202, 203, 168, 204, 169, 205, 425, 577, 578, 579, 5, 580, 271, 260, 261, 262, 263, 264, 265, 266, 998, 999, 1000, 1001, 1002, 1003, 1004, 1005, 1006, 1007, 1008, 1009, 1010, 1011, 1012, 1013, 1014, 1015, 1016, 1017, 1018, 1019, 1020, 1021, 1022, 1023, 1024, 1025, 1026, 1027, 1028, 1029, 1030, 1031, 1032, 1033, 1034, 1035, 1036, 1037, 1038, 1039, 1040, 1041, 1042, 1043, 1044, 1045, 1046, 1047, 1048, 1049, 1050, 1051, 1052] (by decide +kernel) (by decide +kernel)) (goodIn_sub (fun _ h => List.mem_append_left _ (List.mem_append_left _ (List.mem_append_left _ (List.mem_append_left _ (List.mem_append_left _ (List.mem_append_left _ (List.mem_append_right _ h))))))) (by decide +kernel))
set_option maxRecDepth 20000 in
theorem gL_law_X12_read : GoodIn wsL_law (wsV RL 136 RX12 yX12_read wsX12_read) := goodIn_app (goodIn_of _ (by decide +kernel)) ggL_law_X12_read
set_option maxRecDepth 20000 in
theorem ggL_law_L_fill : GoodIn wsL_law wsL_fill := goodIn_ca (goodIn_ca (goodIn_ca (goodIn_r _ [583, 211, 213, 584, 585, 586, 2, 587, 218, 219, 45, 58, 564, 588, 57, 565, 562, 567, 568, 569, 570, 226, 227, 286, 571, 248, 249, 44, 250, 141, 138, 139, 326, 327, 328, 56, 329, 106, 107, 108, 109, 330, 331, 332, 333, 334, 335, 336, 337, 53, 338, 339, 340, 341, 342, 343, 33, 241, 344, 17, 221, 345, 346, 347, 348, 52, 349, 161, 162, 158, 350, 351, 352, 353, 29, 222, 354, 355, 356, 28, 357, 90, 358, 359, 360, 361, 362, 363, 364, 41, 291, 365, 366, 367, 368, 369, 370, 371, 372, 373, 374, 160, 159, 375, 376, 377, 378, 379, 37, 292, 380, 381, 382, 36, 383, 116, 115, 117, 384, 385, 386, 387, 119, 388, 389, 390, 391, 118, 392, 393, 394, 395, 32, 396, 98, 101, 397, 398, 399, 400, 96, 401, 402, 323, 324, 325, 100, 99, 985, 986, 987, 988, 989, 990, 991, 992, 993, 994, 995, 996, 997, 1085, 1086, 1087, 1088, 1089, 1090, 1091, 1104, 1105, 1106, 1107, 1099, 1100, 1101, 1102, 1103, 1071, 1072, 1073, 1074, 1075, 1053, 1054, 1055, 1056, 1069, 1070, 1081, 1082, 1083, 1084, 1076, 1077, 1078, 1079, 1080] (by decide +kernel) (by decide +kernel)) (goodIn_sub (fun _ h => List.mem_append_left _ (List.mem_append_left _ (List.mem_append_left _ (List.mem_append_left _ (List.mem_append_left _ (List.mem_append_left _ (List.mem_append_right _ h))))))) (by decide +kernel))) (goodIn_sub (fun _ h => List.mem_append_left _ (List.mem_append_left _ (List.mem_append_left _ (List.mem_append_left _ (List.mem_append_left _ (List.mem_append_right _ h)))))) (by decide +kernel))) (goodIn_sub (fun _ h => List.mem_append_left _ (List.mem_append_left _ (List.mem_append_left _ (List.mem_append_left _ (List.mem_append_right _ h))))) (by decide +kernel))
set_option maxRecDepth 20000 in
theorem gL_law_L_fill : GoodIn wsL_law (va_wsS RL 137 yL_fill wsL_fill) := goodIn_app (goodIn_of _ (by decide +kernel)) ggL_law_L_fill
set_option maxRecDepth 20000 in
theorem ggL_law_X12_fill : GoodIn wsL_law wsX12_fill := goodIn_ca (goodIn_r _ [592, 255, 201, 202, 199, 203, 204, 205, 180, 179, 577, 578, 579, 5, 580, 271, 260, 261, 262, 427, 428, 429, 430, 478, 479, 480, 481, 182, 177, 206, 187, 482, 483, 484, 485, 486, 487, 488, 489, 188, 490, 491, 492, 493, 178, 463, 464, 465, 466, 181, 467, 468, 469, 470, 471, 472, 473, 494, 495, 496, 497, 191, 192, 183, 193, 184, 194, 185, 195, 186, 198, 498, 499, 500, 501, 502, 197, 503, 196, 504, 505, 506, 507, 452, 453, 454, 455, 456, 998, 999, 1000, 1001, 1002, 1003, 1004, 1005, 1006, 1007, 1008, 1009, 1010, 1011, 1012, 1013, 1014, 1015, 1016, 1017, 1018, 1019, 1020, 1021, 1022, 1023, 1024, 1025, 1026, 1027, 1028, 1029, 1030, 1031, 1032, 1033, 1034, 1035, 1036, 1037, 1038, 1039, 1040, 1041, 1042, 1043, 1044, 1045, 1046, 1047, 1048, 1049, 1050, 1051, 1052] (by decide +kernel) (by decide +kernel)) (goodIn_sub (fun _ h => List.mem_append_left _ (List.mem_append_left _ (List.mem_append_left _ (List.mem_append_left _ (List.mem_append_left _ (List.mem_append_left _ (List.mem_append_right _ h))))))) (by decide +kernel))
set_option maxRecDepth 20000 in
theorem gL_law_X12_fill : GoodIn wsL_law (wsV RL 139 RX12 yX12_fill wsX12_fill) := goodIn_app (goodIn_of _ (by decide +kernel)) ggL_law_X12_fill
set_option maxRecDepth 20000 in
theorem ggL_law_L_leaseState : GoodIn wsL_law wsL_leaseState := goodIn_ca (goodIn_ca (goodIn_r _ [595, 211, 596, 597, 598, 2, 599, 45, 58, 567, 568, 569, 570, 226, 227, 286, 571, 248, 249, 44, 250, 141, 138, 139, 985, 986, 987, 988, 989, 990, 991, 992, 993, 994, 995, 996, 997, 1085, 1086, 1087, 1088, 1089, 1090, 1091] (by decide +kernel) (by decide +kernel)) (goodIn_sub (fun _ h => List.mem_append_left _ (List.mem_append_left _ (List.mem_append_left _ (List.mem_append_left _ (List.mem_append_left _ (List.mem_append_left _ (List.mem_append_right _ h))))))) (by decide +kernel))) (goodIn_sub (fun _ h => List.mem_append_left _ (List.mem_append_left _ (List.mem_append_left _ (List.mem_append_left _ (List.mem_append_right _ h))))) (by decide +kernel))
set_option maxRecDepth 20000 in
theorem gL_law_L_leaseState : GoodIn wsL_law (va_wsS RL 140 yL_leaseState wsL_leaseState) := goodIn_app (goodIn_of _ (by decide +kernel)) ggL_law_L_leaseState
set_option maxRecDepth 20000 in
theorem ggL_law_X12_leaseState : GoodIn wsL_law wsX12_leaseState := goodIn_ca (goodIn_r _ [603, 255, 201, 577, 578, 579, 5, 580, 271, 260, 261, 262, 427, 428, 429, 430, 998, 999, 1000, 1001, 1002, 1003, 1004, 1005, 1006, 1007, 1008, 1009, 1010, 1011, 1012, 1013, 1014, 1015, 1016, 1017, 1018, 1019, 1020, 1021, 1022, 1023, 1024, 1025, 1026, 1027, 1028, 1029, 1030, 1031, 1032, 1033, 1034, 1035, 1036, 1037, 1038, 1039, 1040, 1041, 1042, 1043, 1044, 1045, 1046, 1047, 1048, 1049, 1050, 1051, 1052] (by decide +kernel) (by decide +kernel)) (goodIn_sub (fun _ h => List.mem_append_left _ (List.mem_append_left _ (List.mem_append_left _ (List.mem_append_left _ (List.mem_append_left _ (List.mem_append_left _ (List.mem_append_right _ h))))))) (by decide +kernel))
set_option maxRecDepth 20000 in
theorem gL_law_X12_leaseState : GoodIn wsL_law (wsV RL 142 RX12 yX12_leaseState wsX12_leaseState) := goodIn_app (goodIn_of _ (by decide +kernel)) ggL_law_X12_leaseState
set_option maxRecDepth 20000 in
theorem ggL_law_L_write : GoodIn wsL_law wsL_write := goodIn_ca (goodIn_ca (goodIn_ca (goodIn_ca (goodIn_ca (goodIn_r _ [606, 211, 212, 213, 279, 607, 608, 609, 2, 610, 231, 232, 218, 219, 284, 285, 21, 611, 41, 612, 566, 223, 224, 225, 226, 227, 233, 234, 235, 236, 59, 340, 341, 342, 343, 53, 33, 241, 344, 17, 221, 345, 346, 347, 348, 52, 349, 161, 162, 158, 350, 351, 352, 353, 29, 222, 354, 355, 356, 28, 357, 90, 358, 359, 360, 361, 362, 363, 364, 291, 365, 366, 367, 368, 369, 370, 371, 372, 373, 374, 160, 159, 613, 614, 615, 616, 292, 58, 37, 45, 617, 618, 619, 620, 25, 621, 622, 623, 20, 624, 72, 73, 77, 74, 75, 76, 625, 626, 627, 24, 628, 86, 83, 84, 85, 629, 630, 631, 40, 632, 128, 131, 300, 301, 302, 16, 303, 68, 67, 572, 331, 332, 56, 333, 106, 107, 108, 109, 322, 323, 324, 32, 325, 100, 99, 403, 404, 405, 36, 406, 117, 116, 384, 385, 386, 387, 119, 388, 389, 390, 391, 118, 633, 634, 635, 44, 636, 142, 137, 141, 637, 638, 639, 640, 57, 375, 376, 377, 378, 338, 379, 380, 381, 382, 383, 115, 392, 327, 328, 329, 330, 393, 394, 395, 396, 98, 101, 397, 398, 399, 400, 96, 401, 402, 641, 642, 643, 644, 130, 129, 985, 986, 987, 988, 989, 990, 991, 992, 993, 994, 995, 996, 997, 1057, 1058, 1059, 1060, 1061, 1062, 1081, 1082, 1083, 1084, 1071, 1072, 1073, 1074, 1075, 1053, 1054, 1055, 1056, 1099, 1100, 1101, 1102, 1103, 1069, 1070, 1063, 1064, 1065, 1066, 1067, 1068, 1104, 1105, 1106, 1107, 1076, 1077, 1078, 1079, 1080, 1085, 1086, 1087, 1088, 1089, 1090, 1091] (by decide +kernel) (by decide +kernel)) (goodIn_sub (fun _ h => List.mem_append_left _ (List.mem_append_left _ (List.mem_append_left _ (List.mem_append_left _ (List.mem_append_left _ (List.mem_append_left _ (List.mem_append_right _ h))))))) (by decide +kernel))) (goodIn_sub (fun _ h => List.mem_append_left _ (List.mem_append_left _ (List.mem_append_left _ (List.mem_append_right _ h)))) (by decide +kernel))) (goodIn_sub (fun _ h => List.mem_append_left _ (List.mem_append_left _ (List.mem_append_left _ (List.mem_append_left _ (List.mem_append_left _ (List.mem_append_right _ h)))))) (by decide +kernel))) (goodIn_sub (fun _ h => List.mem_append_left _ (List.mem_append_left _ (List.mem_append_right _ h))) (by decide +kernel))) (goodIn_sub (fun _ h => List.mem_append_left _ (List.mem_append_left _ (List.mem_append_left _ (List.mem_append_left _ (List.mem_append_right _ h))))) (by decide +kernel))
set_option maxRecDepth 20000 in
theorem gL_law_L_write : GoodIn wsL_law (va_wsS RL 143 yL_write wsL_write) := goodIn_app (goodIn_of _ (by decide +kernel)) ggL_law_L_write
set_option maxRecDepth 20000 in
theorem ggL_law_X12_write : GoodIn wsL_law wsX12_write := goodIn_ca (goodIn_r _ [648, 255, 256, 451, 169, 425, 180, 179, 190, 188, 189, 182, 183, 184, 185, 186, 257, 258, 5, 259, 260, 261, 262, 263, 264, 265, 266, 649, 650, 651, 652, 653, 654, 655, 656, 177, 482, 483, 484, 485, 478, 479, 480, 481, 206, 187, 486, 487, 488, 489, 490, 491, 492, 493, 178, 463, 464, 465, 466, 181, 467, 468, 469, 470, 471, 472, 473, 494, 495, 496, 497, 191, 192, 193, 194, 195, 198, 498, 499, 500, 501, 502, 197, 503, 196, 504, 505, 506, 507, 452, 453, 454, 455, 456, 508, 509, 510, 511, 657, 658, 659, 660, 271, 201, 199, 661, 662, 663, 664, 168, 170, 171, 172, 173, 174, 998, 999, 1000, 1001, 1002, 1003, 1004, 1005, 1006, 1007, 1008, 1009, 1010, 1011, 1012, 1013, 1014, 1015, 1016, 1017, 1018, 1019, 1020, 1021, 1022, 1023, 1024, 1025, 1026, 1027, 1028, 1029, 1030, 1031, 1032, 1033, 1034, 1035, 1036, 1037, 1038, 1039, 1040, 1041, 1042, 1043, 1044, 1045, 1046, 1047, 1048, 1049, 1050, 1051, 1052] (by decide +kernel) (by decide +kernel)) (goodIn_sub (fun _ h => List.mem_append_left _ (List.mem_append_left _ (List.mem_append_left _ (List.mem_append_left _ (List.mem_append_left _ (List.mem_append_left _ (List.mem_append_right _ h))))))) (by decide +kernel))
set_option maxRecDepth 20000 in
theorem gL_law_X12_write : GoodIn wsL_law (wsV RL 146 RX12 yX12_write wsX12_write) := goodIn_app (goodIn_of _ (by decide +kernel)) ggL_law_X12_write
set_option maxRecDepth 20000 in
theorem ggL_law_L_drop : GoodIn wsL_law wsL_drop := goodIn_ca (goodIn_ca (goodIn_ca (goodIn_r _ [667, 211, 213, 668, 669, 670, 2, 671, 41, 291, 33, 17, 221, 37, 45, 223, 224, 225, 226, 227, 233, 234, 235, 236, 218, 219, 59, 237, 238, 239, 240, 241, 242, 672, 673, 674, 675, 676, 292, 312, 299, 58, 617, 618, 619, 620, 21, 25, 621, 622, 623, 20, 624, 72, 73, 77, 74, 75, 76, 625, 626, 627, 24, 628, 86, 83, 84, 85, 629, 630, 631, 40, 632, 128, 131, 393, 394, 395, 32, 396, 98, 101, 403, 404, 405, 36, 406, 117, 116, 384, 385, 386, 387, 119, 388, 389, 390, 391, 118, 633, 634, 635, 44, 636, 142, 137, 141, 985, 986, 987, 988, 989, 990, 991, 992, 993, 994, 995, 996, 997, 1081, 1082, 1083, 1084, 1053, 1054, 1055, 1056, 1071, 1072, 1073, 1074, 1075, 1076, 1077, 1078, 1079, 1080, 1104, 1105, 1106, 1107, 1057, 1058, 1059, 1060, 1061, 1062, 1063, 1064, 1065, 1066, 1067, 1068, 1085, 1086, 1087, 1088, 1089, 1090, 1091] (by decide +kernel) (by decide +kernel)) (goodIn_sub (fun _ h => List.mem_append_left _ (List.mem_append_left _ (List.mem_append_left _ (List.mem_append_left _ (List.mem_append_left _ (List.mem_append_left _ (List.mem_append_right _ h))))))) (by decide +kernel))) (goodIn_sub (fun _ h => List.mem_append_left _ (List.mem_append_left _ (List.mem_append_left _ (List.mem_append_left _ (List.mem_append_right _ h))))) (by decide +kernel))) (goodIn_sub (fun _ h => List.mem_append_left _ (List.mem_append_left _ (List.mem_append_left _ (List.mem_append_left _ (List.mem_append_left _ (List.mem_append_right _ h)))))) (by decide +kernel))
set_option maxRecDepth 20000 in
theorem gL_law_L_drop : GoodIn wsL_law (va_wsS RL 147 yL_drop wsL_drop) := goodIn_app (goodIn_of _ (by decide +kernel)) ggL_law_L_drop
set_option maxRecDepth 20000 in
theorem ggL_law_X12_drop : GoodIn wsL_law wsX12_drop := goodIn_ca (goodIn_r _ [680, 256, 255, 182, 198, 188, 257, 258, 5, 259, 260, 261, 262, 681, 682, 683, 684, 189, 184, 169, 185, 425, 661, 662, 663, 664, 168, 170, 451, 171, 172, 173, 174, 508, 509, 510, 511, 191, 498, 499, 500, 501, 502, 197, 503, 196, 657, 658, 659, 660, 271, 201, 199, 998, 999, 1000, 1001, 1002, 1003, 1004, 1005, 1006, 1007, 1008, 1009, 1010, 1011, 1012, 1013, 1014, 1015, 1016, 1017, 1018, 1019, 1020, 1021, 1022, 1023, 1024, 1025, 1026, 1027, 1028, 1029, 1030, 1031, 1032, 1033, 1034, 1035, 1036, 1037, 1038, 1039, 1040, 1041, 1042, 1043, 1044, 1045, 1046, 1047, 1048, 1049, 1050, 1051, 1052] (by decide +kernel) (by decide +kernel)) (goodIn_sub (fun _ h => List.mem_append_left _ (List.mem_append_left _ (List.mem_append_left _ (List.mem_append_left _ (List.mem_append_left _ (List.mem_append_left _ (List.mem_append_right _ h))))))) (by decide +kernel))
set_option maxRecDepth 20000 in
theorem gL_law_X12_drop : GoodIn wsL_law (wsV RL 149 RX12 yX12_drop wsX12_drop) := goodIn_app (goodIn_of _ (by decide +kernel)) ggL_law_X12_drop
set_option maxRecDepth 20000 in
theorem ggL_law_L_bump : GoodIn wsL_law wsL_bump := goodIn_ca (goodIn_ca (goodIn_ca (goodIn_r _ [687, 211, 213, 688, 689, 690, 2, 691, 226, 227, 17, 220, 45, 692, 233, 234, 235, 236, 218, 219, 59, 693, 694, 695, 696, 41, 697, 698, 699, 700, 40, 701, 128, 702, 703, 704, 705, 706, 130, 707, 672, 673, 674, 675, 676, 33, 241, 292, 312, 299, 58, 617, 618, 619, 620, 21, 25, 621, 622, 623, 20, 624, 72, 73, 77, 74, 75, 76, 625, 626, 627, 24, 628, 86, 83, 84, 85, 629, 630, 631, 632, 131, 633, 634, 635, 44, 636, 142, 137, 141, 985, 986, 987, 988, 989, 990, 991, 992, 993, 994, 995, 996, 997, 1053, 1054, 1055, 1056, 1081, 1082, 1083, 1084, 1071, 1072, 1073, 1074, 1075, 1104, 1105, 1106, 1107, 1057, 1058, 1059, 1060, 1061, 1062, 1063, 1064, 1065, 1066, 1067, 1068, 1085, 1086, 1087, 1088, 1089, 1090, 1091] (by decide +kernel) (by decide +kernel)) (goodIn_sub (fun _ h => List.mem_append_left _ (List.mem_append_left _ (List.mem_append_left _ (List.mem_append_left _ (List.mem_append_left _ (List.mem_append_left _ (List.mem_append_right _ h))))))) (by decide +kernel))) (goodIn_sub (fun _ h => List.mem_append_left _ (List.mem_append_left _ (List.mem_append_left _ (List.mem_append_left _ (List.mem_append_right _ h))))) (by decide +kernel))) (goodIn_sub (fun _ h => List.mem_append_left _ (List.mem_append_left _ (List.mem_append_left _ (List.mem_append_left _ (List.mem_append_left _ (List.mem_append_right _ h)))))) (by decide +kernel))
set_option maxRecDepth 20000 in
theorem gL_law_L_bump : GoodIn wsL_law (va_wsS RL 150 yL_bump wsL_bump) := goodIn_app (goodIn_of _ (by decide +kernel)) ggL_law_L_bump
set_option maxRecDepth 20000 in
theorem ggL_law_X12_bump : GoodIn wsL_law wsX12_bump := goodIn_ca (goodIn_r _ [711, 255, 256, 180, 179, 260, 261, 5, 262, 263, 264, 265, 266, 712, 713, 714, 715, 188, 190, 178, 681, 682, 683, 684, 189, 182, 184, 169, 185, 425, 661, 662, 663, 664, 168, 170, 451, 171, 172, 173, 174, 657, 658, 659, 660, 271, 201, 199, 998, 999, 1000, 1001, 1002, 1003, 1004, 1005, 1006, 1007, 1008, 1009, 1010, 1011, 1012, 1013, 1014, 1015, 1016, 1017, 1018, 1019, 1020, 1021, 1022, 1023, 1024, 1025, 1026, 1027, 1028, 1029, 1030, 1031, 1032, 1033, 1034, 1035, 1036, 1037, 1038, 1039, 1040, 1041, 1042, 1043, 1044, 1045, 1046, 1047, 1048, 1049, 1050, 1051, 1052] (by decide +kernel) (by decide +kernel)) (goodIn_sub (fun _ h => List.mem_append_left _ (List.mem_append_left _ (List.mem_append_left _ (List.mem_append_left _ (List.mem_append_left _ (List.mem_append_left _ (List.mem_append_right _ h))))))) (by decide +kernel))
set_option maxRecDepth 20000 in
theorem gL_law_X12_bump : GoodIn wsL_law (wsV RL 152 RX12 yX12_bump wsX12_bump) := goodIn_app (goodIn_of _ (by decide +kernel)) ggL_law_X12_bump
set_option maxRecDepth 20000 in
theorem ggL_law_L_pass : GoodIn wsL_law wsL_pass := goodIn_ca (goodIn_ca (goodIn_ca (goodIn_r _ [718, 212, 213, 719, 720, 721, 2, 722, 218, 219, 58, 59, 228, 229, 230, 231, 232, 693, 694, 695, 696, 41, 17, 697, 698, 699, 700, 40, 701, 128, 702, 703, 704, 705, 706, 130, 707, 672, 673, 674, 675, 676, 33, 241, 292, 312, 299, 617, 618, 619, 620, 21, 25, 621, 622, 623, 20, 624, 72, 73, 77, 74, 75, 76, 625, 626, 627, 24, 628, 86, 83, 84, 85, 629, 630, 631, 632, 131, 985, 986, 987, 988, 989, 990, 991, 992, 993, 994, 995, 996, 997, 1081, 1082, 1083, 1084, 1053, 1054, 1055, 1056, 1071, 1072, 1073, 1074, 1075, 1104, 1105, 1106, 1107, 1057, 1058, 1059, 1060, 1061, 1062, 1063, 1064, 1065, 1066, 1067, 1068] (by decide +kernel) (by decide +kernel)) (goodIn_sub (fun _ h => List.mem_append_left _ (List.mem_append_left _ (List.mem_append_left _ (List.mem_append_left _ (List.mem_append_left _ (List.mem_append_left _ (List.mem_append_right _ h))))))) (by decide +kernel))) (goodIn_sub (fun _ h => List.mem_append_left _ (List.mem_append_left _ (List.mem_append_left _ (List.mem_append_left _ (List.mem_append_left _ (List.mem_append_right _ h)))))) (by decide +kernel))) (goodIn_sub (fun _ h => List.mem_append_left _ (List.mem_append_left _ (List.mem_append_left _ (List.mem_append_right _ h)))) (by decide +kernel))
set_option maxRecDepth 20000 in
theorem gL_law_L_pass : GoodIn wsL_law (va_wsS RL 153 yL_pass wsL_pass) := goodIn_app (goodIn_of _ (by decide +kernel)) ggL_law_L_pass
set_option maxRecDepth 20000 in
theorem ggL_law_X12_pass : GoodIn wsL_law wsX12_pass := goodIn_ca (goodIn_r _ [726, 255, 425, 271, 201, 200, 256, 190, 260, 261, 5, 262, 263, 264, 265, 266, 712, 713, 714, 715, 188, 179, 178, 681, 682, 683, 684, 189, 182, 184, 169, 185, 661, 662, 663, 664, 168, 170, 451, 171, 172, 173, 174, 998, 999, 1000, 1001, 1002, 1003, 1004, 1005, 1006, 1007, 1008, 1009, 1010, 1011, 1012, 1013, 1014, 1015, 1016, 1017, 1018, 1019, 1020, 1021, 1022, 1023, 1024, 1025, 1026, 1027, 1028, 1029, 1030, 1031, 1032, 1033, 1034, 1035, 1036, 1037, 1038, 1039, 1040, 1041, 1042, 1043, 1044, 1045, 1046, 1047, 1048, 1049, 1050, 1051, 1052] (by decide +kernel) (by decide +kernel)) (goodIn_sub (fun _ h => List.mem_append_left _ (List.mem_append_left _ (List.mem_append_left _ (List.mem_append_left _ (List.mem_append_left _ (List.mem_append_left _ (List.mem_append_right _ h))))))) (by decide +kernel))
set_option maxRecDepth 20000 in
theorem gL_law_X12_pass : GoodIn wsL_law (wsV RL 155 RX12 yX12_pass wsX12_pass) := goodIn_app (goodIn_of _ (by decide +kernel)) ggL_law_X12_pass
set_option maxRecDepth 20000 in
theorem ggL_law_L_crash : GoodIn wsL_law wsL_crash := goodIn_ca (goodIn_ca (goodIn_r _ [729, 213, 730, 731, 732, 2, 733, 33, 29, 45, 37, 59, 233, 234, 235, 236, 218, 219, 734, 735, 736, 32, 737, 98, 738, 739, 740, 741, 101, 742, 743, 744, 28, 745, 91, 90, 746, 747, 748, 44, 749, 750, 634, 635, 636, 142, 137, 141, 751, 122, 123, 36, 124, 117, 985, 986, 987, 988, 989, 990, 991, 992, 993, 994, 995, 996, 997, 1071, 1072, 1073, 1074, 1075, 1069, 1070, 1085, 1086, 1087, 1088, 1089, 1090, 1091, 1076, 1077, 1078, 1079, 1080] (by decide +kernel) (by decide +kernel)) (goodIn_sub (fun _ h => List.mem_append_left _ (List.mem_append_left _ (List.mem_append_left _ (List.mem_append_left _ (List.mem_append_left _ (List.mem_append_left _ (List.mem_append_right _ h))))))) (by decide +kernel))) (goodIn_sub (fun _ h => List.mem_append_left _ (List.mem_append_left _ (List.mem_append_left _ (List.mem_append_left _ (List.mem_append_left _ (List.mem_append_right _ h)))))) (by decide +kernel))
set_option maxRecDepth 20000 in
theorem gL_law_L_crash : GoodIn wsL_law (va_wsS RL 156 yL_crash wsL_crash) := goodIn_app (goodIn_of _ (by decide +kernel)) ggL_law_L_crash
set_option maxRecDepth 20000 in
theorem ggL_law_X12_crash : GoodIn wsL_law wsX12_crash := goodIn_ca (goodIn_r _ [755, 255, 256, 182, 198, 181, 462, 263, 264, 265, 5, 266, 657, 658, 659, 660, 271, 201, 199, 998, 999, 1000, 1001, 1002, 1003, 1004, 1005, 1006, 1007, 1008, 1009, 1010, 1011, 1012, 1013, 1014, 1015, 1016, 1017, 1018, 1019, 1020, 1021, 1022, 1023, 1024, 1025, 1026, 1027, 1028, 1029, 1030, 1031, 1032, 1033, 1034, 1035, 1036, 1037, 1038, 1039, 1040, 1041, 1042, 1043, 1044, 1045, 1046, 1047, 1048, 1049, 1050, 1051, 1052] (by decide +kernel) (by decide +kernel)) (goodIn_sub (fun _ h => List.mem_append_left _ (List.mem_append_left _ (List.mem_append_left _ (List.mem_append_left _ (List.mem_append_left _ (List.mem_append_left _ (List.mem_append_right _ h))))))) (by decide +kernel))
set_option maxRecDepth 20000 in
theorem gL_law_X12_crash : GoodIn wsL_law (wsV RL 158 RX12 yX12_crash wsX12_crash) := goodIn_app (goodIn_of _ (by decide +kernel)) ggL_law_X12_crash
set_option maxRecDepth 20000 in
theorem ggL_law_L_recover : GoodIn wsL_law wsL_recover := goodIn_ca (goodIn_ca (goodIn_r _ [758, 213, 759, 760, 761, 2, 762, 218, 219, 59, 37, 17, 693, 694, 695, 696, 41, 697, 698, 699, 700, 40, 701, 128, 702, 703, 704, 705, 706, 130, 707, 672, 673, 674, 675, 676, 33, 241, 292, 312, 299, 58, 617, 618, 619, 620, 21, 25, 621, 622, 623, 20, 624, 72, 73, 77, 74, 75, 76, 625, 626, 627, 24, 628, 86, 83, 84, 85, 629, 630, 631, 632, 131, 763, 764, 765, 36, 766, 119, 116, 117, 115, 767, 768, 301, 302, 16, 303, 68, 67, 769, 770, 771, 772, 53, 365, 344, 221, 57, 293, 242, 346, 347, 348, 52, 349, 161, 162, 158, 773, 774, 775, 776, 777, 778, 779, 780, 222, 326, 327, 328, 56, 329, 106, 107, 108, 109, 330, 331, 332, 333, 397, 398, 399, 32, 400, 98, 101, 96, 401, 402, 323, 324, 325, 100, 99, 781, 782, 783, 784, 985, 986, 987, 988, 989, 990, 991, 992, 993, 994, 995, 996, 997, 1081, 1082, 1083, 1084, 1053, 1054, 1055, 1056, 1071, 1072, 1073, 1074, 1075, 1104, 1105, 1106, 1107, 1057, 1058, 1059, 1060, 1061, 1062, 1063, 1064, 1065, 1066, 1067, 1068, 1076, 1077, 1078, 1079, 1080, 1099, 1100, 1101, 1102, 1103] (by decide +kernel) (by decide +kernel)) (goodIn_sub (fun _ h => List.mem_append_left _ (List.mem_append_left _ (List.mem_append_left _ (List.mem_append_left _ (List.mem_append_left _ (List.mem_append_left _ (List.mem_append_right _ h))))))) (by decide +kernel))) (goodIn_sub (fun _ h => List.mem_append_left _ (List.mem_append_left _ (List.mem_append_left _ (List.mem_append_left _ (List.mem_append_left _ (List.mem_append_right _ h)))))) (by decide +kernel))
set_option maxRecDepth 20000 in
theorem gL_law_L_recover : GoodIn wsL_law (va_wsS RL 159 yL_recover wsL_recover) := goodIn_app (goodIn_of _ (by decide +kernel)) ggL_law_L_recover
set_option maxRecDepth 20000 in
theorem ggL_law_X12_recover : GoodIn wsL_law wsX12_recover := goodIn_ca (goodIn_r _ [788, 255, 256, 503, 191, 196, 195, 180, 179, 198, 206, 177, 192, 193, 194, 263, 264, 265, 5, 266, 712, 713, 714, 715, 188, 190, 178, 681, 682, 683, 684, 189, 182, 184, 169, 185, 425, 661, 662, 663, 664, 168, 170, 451, 171, 172, 173, 174, 789, 790, 791, 792, 482, 483, 484, 485, 504, 505, 506, 507, 183, 186, 452, 453, 454, 455, 456, 187, 998, 999, 1000, 1001, 1002, 1003, 1004, 1005, 1006, 1007, 1008, 1009, 1010, 1011, 1012, 1013, 1014, 1015, 1016, 1017, 1018, 1019, 1020, 1021, 1022, 1023, 1024, 1025, 1026, 1027, 1028, 1029, 1030, 1031, 1032, 1033, 1034, 1035, 1036, 1037, 1038, 1039, 1040, 1041, 1042, 1043, 1044, 1045, 1046, 1047, 1048, 1049, 1050, 1051, 1052] (by decide +kernel) (by decide +kernel)) (goodIn_sub (fun _ h => List.mem_append_left _ (List.mem_append_left _ (List.mem_append_left _ (List.mem_append_left _ (List.mem_append_left _ (List.mem_append_left _ (List.mem_append_right _ h))))))) (by decide +kernel))
set_option maxRecDepth 20000 in
theorem gL_law_X12_recover : GoodIn wsL_law (wsV RL 161 RX12 yX12_recover wsX12_recover) := goodIn_app (goodIn_of _ (by decide +kernel)) ggL_law_X12_recover
set_option maxRecDepth 20000 in
theorem ggL_law_X11_minute : GoodIn wsL_law wsX11_minute := goodIn_r _ [796, 58, 985, 986, 987, 988, 989, 990, 991, 992, 993, 994, 995, 996, 997] (by decide +kernel) (by decide +kernel)
set_option maxRecDepth 20000 in
theorem gL_law_X11_minute : GoodIn wsL_law (wsV RL 162 RX11 yX11_minute wsX11_minute) := goodIn_app (goodIn_of _ (by decide +kernel)) ggL_law_X11_minute
set_option maxRecDepth 20000 in
theorem ggL_law_X12_minute : GoodIn wsL_law wsX12_minute := goodIn_r _ [800, 255, 425, 998, 999, 1000, 1001, 1002, 1003, 1004, 1005, 1006, 1007, 1008, 1009, 1010, 1011, 1012, 1013, 1014, 1015, 1016, 1017, 1018, 1019, 1020, 1021, 1022, 1023, 1024, 1025, 1026, 1027, 1028, 1029, 1030, 1031, 1032, 1033, 1034, 1035, 1036, 1037, 1038, 1039, 1040, 1041, 1042, 1043, 1044, 1045, 1046, 1047, 1048, 1049, 1050, 1051, 1052] (by decide +kernel) (by decide +kernel)
set_option maxRecDepth 20000 in
theorem gL_law_X12_minute : GoodIn wsL_law (wsV RL 165 RX12 yX12_minute wsX12_minute) := goodIn_app (goodIn_of _ (by decide +kernel)) ggL_law_X12_minute
set_option maxRecDepth 20000 in
theorem ggL_law_L_where : GoodIn wsL_law wsL_where := goodIn_ca (goodIn_ca (goodIn_r _ [803, 211, 804, 805, 806, 2, 807, 33, 241, 41, 291, 37, 242, 223, 224, 225, 226, 227, 985, 986, 987, 988, 989, 990, 991, 992, 993, 994, 995, 996, 997, 1071, 1072, 1073, 1074, 1075, 1081, 1082, 1083, 1084, 1076, 1077, 1078, 1079, 1080] (by decide +kernel) (by decide +kernel)) (goodIn_sub (fun _ h => List.mem_append_left _ (List.mem_append_left _ (List.mem_append_left _ (List.mem_append_left _ (List.mem_append_left _ (List.mem_append_left _ (List.mem_append_right _ h))))))) (by decide +kernel))) (goodIn_sub (fun _ h => List.mem_append_left _ (List.mem_append_left _ (List.mem_append_left _ (List.mem_append_left _ (List.mem_append_right _ h))))) (by decide +kernel))
set_option maxRecDepth 20000 in
theorem gL_law_L_where : GoodIn wsL_law (va_wsS RL 166 yL_where wsL_where) := goodIn_app (goodIn_of _ (by decide +kernel)) ggL_law_L_where
set_option maxRecDepth 20000 in
theorem ggL_law_X12_where : GoodIn wsL_law wsX12_where := goodIn_ca (goodIn_r _ [811, 255, 182, 188, 198, 257, 258, 5, 259, 260, 261, 262, 427, 428, 429, 430, 998, 999, 1000, 1001, 1002, 1003, 1004, 1005, 1006, 1007, 1008, 1009, 1010, 1011, 1012, 1013, 1014, 1015, 1016, 1017, 1018, 1019, 1020, 1021, 1022, 1023, 1024, 1025, 1026, 1027, 1028, 1029, 1030, 1031, 1032, 1033, 1034, 1035, 1036, 1037, 1038, 1039, 1040, 1041, 1042, 1043, 1044, 1045, 1046, 1047, 1048, 1049, 1050, 1051, 1052] (by decide +kernel) (by decide +kernel)) (goodIn_sub (fun _ h => List.mem_append_left _ (List.mem_append_left _ (List.mem_append_left _ (List.mem_append_left _ (List.mem_append_left _ (List.mem_append_left _ (List.mem_append_right _ h))))))) (by decide +kernel))
set_option maxRecDepth 20000 in
theorem gL_law_X12_where : GoodIn wsL_law (wsV RL 168 RX12 yX12_where wsX12_where) := goodIn_app (goodIn_of _ (by decide +kernel)) ggL_law_X12_where
set_option maxRecDepth 20000 in
theorem ggL_law_X11_used : GoodIn wsL_law wsX11_used := goodIn_r _ [815, 33, 344, 985, 986, 987, 988, 989, 990, 991, 992, 993, 994, 995, 996, 997, 1071, 1072, 1073, 1074, 1075] (by decide +kernel) (by decide +kernel)
set_option maxRecDepth 20000 in
theorem gL_law_X11_used : GoodIn wsL_law (wsV RL 169 RX11 yX11_used wsX11_used) := goodIn_app (goodIn_of _ (by decide +kernel)) ggL_law_X11_used
set_option maxRecDepth 20000 in
theorem ggL_law_X12_used : GoodIn wsL_law wsX12_used := goodIn_ca (goodIn_r _ [819, 255, 482, 483, 484, 5, 485, 182, 177, 998, 999, 1000, 1001, 1002, 1003, 1004, 1005, 1006, 1007, 1008, 1009, 1010, 1011, 1012, 1013, 1014, 1015, 1016, 1017, 1018, 1019, 1020, 1021, 1022, 1023, 1024, 1025, 1026, 1027, 1028, 1029, 1030, 1031, 1032, 1033, 1034, 1035, 1036, 1037, 1038, 1039, 1040, 1041, 1042, 1043, 1044, 1045, 1046, 1047, 1048, 1049, 1050, 1051, 1052] (by decide +kernel) (by decide +kernel)) (goodIn_sub (fun _ h => List.mem_append_left _ (List.mem_append_left _ (List.mem_append_left _ (List.mem_append_left _ (List.mem_append_left _ (List.mem_append_left _ (List.mem_append_right _ h))))))) (by decide +kernel))
set_option maxRecDepth 20000 in
theorem gL_law_X12_used : GoodIn wsL_law (wsV RL 172 RX12 yX12_used wsX12_used) := goodIn_app (goodIn_of _ (by decide +kernel)) ggL_law_X12_used
set_option maxRecDepth 20000 in
theorem ggL_law_L_estimate : GoodIn wsL_law wsL_estimate := goodIn_ca (goodIn_ca (goodIn_r _ [822, 211, 823, 824, 825, 2, 826, 29, 223, 224, 225, 226, 227, 354, 355, 356, 28, 357, 90, 358, 359, 360, 985, 986, 987, 988, 989, 990, 991, 992, 993, 994, 995, 996, 997, 1069, 1070] (by decide +kernel) (by decide +kernel)) (goodIn_sub (fun _ h => List.mem_append_left _ (List.mem_append_left _ (List.mem_append_left _ (List.mem_append_left _ (List.mem_append_left _ (List.mem_append_left _ (List.mem_append_right _ h))))))) (by decide +kernel))) (goodIn_sub (fun _ h => List.mem_append_left _ (List.mem_append_left _ (List.mem_append_left _ (List.mem_append_left _ (List.mem_append_right _ h))))) (by decide +kernel))
set_option maxRecDepth 20000 in
theorem gL_law_L_estimate : GoodIn wsL_law (va_wsS RL 173 yL_estimate wsL_estimate) := goodIn_app (goodIn_of _ (by decide +kernel)) ggL_law_L_estimate
set_option maxRecDepth 20000 in
theorem ggL_law_X12_estimate : GoodIn wsL_law wsX12_estimate := goodIn_ca (goodIn_r _ [830, 255, 257, 258, 5, 259, 260, 261, 262, 463, 464, 465, 466, 181, 467, 468, 469, 470, 471, 472, 473, 263, 264, 265, 266, 998, 999, 1000, 1001, 1002, 1003, 1004, 1005, 1006, 1007, 1008, 1009, 1010, 1011, 1012, 1013, 1014, 1015, 1016, 1017, 1018, 1019, 1020, 1021, 1022, 1023, 1024, 1025, 1026, 1027, 1028, 1029, 1030, 1031, 1032, 1033, 1034, 1035, 1036, 1037, 1038, 1039, 1040, 1041, 1042, 1043, 1044, 1045, 1046, 1047, 1048, 1049, 1050, 1051, 1052] (by decide +kernel) (by decide +kernel)) (goodIn_sub (fun _ h => List.mem_append_left _ (List.mem_append_left _ (List.mem_append_left _ (List.mem_append_left _ (List.mem_append_left _ (List.mem_append_left _ (List.mem_append_right _ h))))))) (by decide +kernel))
set_option maxRecDepth 20000 in
theorem gL_law_X12_estimate : GoodIn wsL_law (wsV RL 175 RX12 yX12_estimate wsX12_estimate) := goodIn_app (goodIn_of _ (by decide +kernel)) ggL_law_X12_estimate
set_option maxRecDepth 20000 in
theorem ggL_law_L_versionOf : GoodIn wsL_law wsL_versionOf := goodIn_ca (goodIn_ca (goodIn_ca (goodIn_r _ [833, 211, 515, 834, 835, 836, 2, 837, 525, 526, 33, 241, 292, 312, 37, 293, 242, 223, 224, 225, 226, 227, 237, 238, 239, 240, 985, 986, 987, 988, 989, 990, 991, 992, 993, 994, 995, 996, 997, 1071, 1072, 1073, 1074, 1075, 1104, 1105, 1106, 1107, 1076, 1077, 1078, 1079, 1080] (by decide +kernel) (by decide +kernel)) (goodIn_sub (fun _ h => List.mem_append_left _ (List.mem_append_left _ (List.mem_append_left _ (List.mem_append_left _ (List.mem_append_left _ (List.mem_append_left _ (List.mem_append_right _ h))))))) (by decide +kernel))) (goodIn_sub (fun _ h => List.mem_append_left _ (List.mem_append_right _ h)) (by decide +kernel))) (goodIn_sub (fun _ h => List.mem_append_left _ (List.mem_append_left _ (List.mem_append_left _ (List.mem_append_left _ (List.mem_append_right _ h))))) (by decide +kernel))
set_option maxRecDepth 20000 in
theorem gL_law_L_versionOf : GoodIn wsL_law (va_wsS RL 176 yL_versionOf wsL_versionOf) := goodIn_app (goodIn_of _ (by decide +kernel)) ggL_law_L_versionOf
set_option maxRecDepth 20000 in
theorem ggL_law_X12_versionOf : GoodIn wsL_law wsX12_versionOf := goodIn_ca (goodIn_r _ [841, 255, 182, 184, 198, 193, 257, 258, 5, 259, 260, 261, 262, 263, 264, 265, 266, 998, 999, 1000, 1001, 1002, 1003, 1004, 1005, 1006, 1007, 1008, 1009, 1010, 1011, 1012, 1013, 1014, 1015, 1016, 1017, 1018, 1019, 1020, 1021, 1022, 1023, 1024, 1025, 1026, 1027, 1028, 1029, 1030, 1031, 1032, 1033, 1034, 1035, 1036, 1037, 1038, 1039, 1040, 1041, 1042, 1043, 1044, 1045, 1046, 1047, 1048, 1049, 1050, 1051, 1052] (by decide +kernel) (by decide +kernel)) (goodIn_sub (fun _ h => List.mem_append_left _ (List.mem_append_left _ (List.mem_append_left _ (List.mem_append_left _ (List.mem_append_left _ (List.mem_append_left _ (List.mem_append_right _ h))))))) (by decide +kernel))
set_option maxRecDepth 20000 in
theorem gL_law_X12_versionOf : GoodIn wsL_law (wsV RL 178 RX12 yX12_versionOf wsX12_versionOf) := goodIn_app (goodIn_of _ (by decide +kernel)) ggL_law_X12_versionOf
set_option maxRecDepth 20000 in
theorem ggL_law_L_slot : GoodIn wsL_law wsL_slot := goodIn_ca (goodIn_ca (goodIn_r _ [844, 211, 845, 846, 847, 2, 848, 226, 227, 37, 849, 850, 851, 852, 985, 986, 987, 988, 989, 990, 991, 992, 993, 994, 995, 996, 997, 1076, 1077, 1078, 1079, 1080] (by decide +kernel) (by decide +kernel)) (goodIn_sub (fun _ h => List.mem_append_left _ (List.mem_append_left _ (List.mem_append_left _ (List.mem_append_left _ (List.mem_append_left _ (List.mem_append_left _ (List.mem_append_right _ h))))))) (by decide +kernel))) (goodIn_sub (fun _ h => List.mem_append_left _ (List.mem_append_left _ (List.mem_append_left _ (List.mem_append_left _ (List.mem_append_right _ h))))) (by decide +kernel))
set_option maxRecDepth 20000 in
theorem gL_law_L_slot : GoodIn wsL_law (va_wsS RL 179 yL_slot wsL_slot) := goodIn_app (goodIn_of _ (by decide +kernel)) ggL_law_L_slot
set_option maxRecDepth 20000 in
theorem ggL_law_X12_slot : GoodIn wsL_law wsX12_slot := goodIn_ca (goodIn_r _ [856, 255, 191, 260, 261, 5, 262, 263, 264, 265, 266, 998, 999, 1000, 1001, 1002, 1003, 1004, 1005, 1006, 1007, 1008, 1009, 1010, 1011, 1012, 1013, 1014, 1015, 1016, 1017, 1018, 1019, 1020, 1021, 1022, 1023, 1024, 1025, 1026, 1027, 1028, 1029, 1030, 1031, 1032, 1033, 1034, 1035, 1036, 1037, 1038, 1039, 1040, 1041, 1042, 1043, 1044, 1045, 1046, 1047, 1048, 1049, 1050, 1051, 1052] (by decide +kernel) (by decide +kernel)) (goodIn_sub (fun _ h => List.mem_append_left _ (List.mem_append_left _ (List.mem_append_left _ (List.mem_append_left _ (List.mem_append_left _ (List.mem_append_left _ (List.mem_append_right _ h))))))) (by decide +kernel))
set_option maxRecDepth 20000 in
theorem gL_law_X12_slot : GoodIn wsL_law (wsV RL 182 RX12 yX12_slot wsX12_slot) := goodIn_app (goodIn_of _ (by decide +kernel)) ggL_law_X12_slot
set_option maxRecDepth 20000 in
theorem ggL_law_L_wear : GoodIn wsL_law wsL_wear := goodIn_ca (goodIn_ca (goodIn_r _ [859, 211, 860, 861, 862, 2, 863, 37, 864, 850, 851, 852, 226, 227, 985, 986, 987, 988, 989, 990, 991, 992, 993, 994, 995, 996, 997, 1076, 1077, 1078, 1079, 1080] (by decide +kernel) (by decide +kernel)) (goodIn_sub (fun _ h => List.mem_append_left _ (List.mem_append_left _ (List.mem_append_left _ (List.mem_append_left _ (List.mem_append_left _ (List.mem_append_left _ (List.mem_append_right _ h))))))) (by decide +kernel))) (goodIn_sub (fun _ h => List.mem_append_left _ (List.mem_append_left _ (List.mem_append_left _ (List.mem_append_left _ (List.mem_append_right _ h))))) (by decide +kernel))
set_option maxRecDepth 20000 in
theorem gL_law_L_wear : GoodIn wsL_law (va_wsS RL 183 yL_wear wsL_wear) := goodIn_app (goodIn_of _ (by decide +kernel)) ggL_law_L_wear
set_option maxRecDepth 20000 in
theorem ggL_law_X12_wear : GoodIn wsL_law wsX12_wear := goodIn_ca (goodIn_r _ [868, 255, 197, 260, 261, 5, 262, 263, 264, 265, 266, 998, 999, 1000, 1001, 1002, 1003, 1004, 1005, 1006, 1007, 1008, 1009, 1010, 1011, 1012, 1013, 1014, 1015, 1016, 1017, 1018, 1019, 1020, 1021, 1022, 1023, 1024, 1025, 1026, 1027, 1028, 1029, 1030, 1031, 1032, 1033, 1034, 1035, 1036, 1037, 1038, 1039, 1040, 1041, 1042, 1043, 1044, 1045, 1046, 1047, 1048, 1049, 1050, 1051, 1052] (by decide +kernel) (by decide +kernel)) (goodIn_sub (fun _ h => List.mem_append_left _ (List.mem_append_left _ (List.mem_append_left _ (List.mem_append_left _ (List.mem_append_left _ (List.mem_append_left _ (List.mem_append_right _ h))))))) (by decide +kernel))
set_option maxRecDepth 20000 in
theorem gL_law_X12_wear : GoodIn wsL_law (wsV RL 185 RX12 yX12_wear wsX12_wear) := goodIn_app (goodIn_of _ (by decide +kernel)) ggL_law_X12_wear
set_option maxRecDepth 20000 in
theorem ggL_law_L_stored : GoodIn wsL_law wsL_stored := goodIn_ca (goodIn_ca (goodIn_r _ [871, 211, 872, 873, 874, 2, 875, 21, 563, 223, 224, 225, 226, 227, 985, 986, 987, 988, 989, 990, 991, 992, 993, 994, 995, 996, 997, 1057, 1058, 1059, 1060, 1061, 1062] (by decide +kernel) (by decide +kernel)) (goodIn_sub (fun _ h => List.mem_append_left _ (List.mem_append_left _ (List.mem_append_left _ (List.mem_append_left _ (List.mem_append_left _ (List.mem_append_left _ (List.mem_append_right _ h))))))) (by decide +kernel))) (goodIn_sub (fun _ h => List.mem_append_left _ (List.mem_append_left _ (List.mem_append_left _ (List.mem_append_left _ (List.mem_append_right _ h))))) (by decide +kernel))
set_option maxRecDepth 20000 in
theorem gL_law_L_stored : GoodIn wsL_law (va_wsS RL 186 yL_stored wsL_stored) := goodIn_app (goodIn_of _ (by decide +kernel)) ggL_law_L_stored
set_option maxRecDepth 20000 in
theorem ggL_law_X12_stored : GoodIn wsL_law wsX12_stored := goodIn_ca (goodIn_r _ [879, 255, 168, 257, 258, 5, 259, 260, 261, 262, 263, 264, 265, 266, 998, 999, 1000, 1001, 1002, 1003, 1004, 1005, 1006, 1007, 1008, 1009, 1010, 1011, 1012, 1013, 1014, 1015, 1016, 1017, 1018, 1019, 1020, 1021, 1022, 1023, 1024, 1025, 1026, 1027, 1028, 1029, 1030, 1031, 1032, 1033, 1034, 1035, 1036, 1037, 1038, 1039, 1040, 1041, 1042, 1043, 1044, 1045, 1046, 1047, 1048, 1049, 1050, 1051, 1052] (by decide +kernel) (by decide +kernel)) (goodIn_sub (fun _ h => List.mem_append_left _ (List.mem_append_left _ (List.mem_append_left _ (List.mem_append_left _ (List.mem_append_left _ (List.mem_append_left _ (List.mem_append_right _ h))))))) (by decide +kernel))
set_option maxRecDepth 20000 in
theorem gL_law_X12_stored : GoodIn wsL_law (wsV RL 188 RX12 yX12_stored wsX12_stored) := goodIn_app (goodIn_of _ (by decide +kernel)) ggL_law_X12_stored
set_option maxRecDepth 20000 in
theorem ggL_law_X11_promises : GoodIn wsL_law wsX11_promises := goodIn_r _ [883, 41, 612, 985, 986, 987, 988, 989, 990, 991, 992, 993, 994, 995, 996, 997, 1081, 1082, 1083, 1084] (by decide +kernel) (by decide +kernel)
set_option maxRecDepth 20000 in
theorem gL_law_X11_promises : GoodIn wsL_law (wsV RL 189 RX11 yX11_promises wsX11_promises) := goodIn_app (goodIn_of _ (by decide +kernel)) ggL_law_X11_promises
set_option maxRecDepth 20000 in
theorem ggL_law_X12_promises : GoodIn wsL_law wsX12_promises := goodIn_ca (goodIn_r _ [887, 255, 649, 650, 651, 5, 652, 188, 998, 999, 1000, 1001, 1002, 1003, 1004, 1005, 1006, 1007, 1008, 1009, 1010, 1011, 1012, 1013, 1014, 1015, 1016, 1017, 1018, 1019, 1020, 1021, 1022, 1023, 1024, 1025, 1026, 1027, 1028, 1029, 1030, 1031, 1032, 1033, 1034, 1035, 1036, 1037, 1038, 1039, 1040, 1041, 1042, 1043, 1044, 1045, 1046, 1047, 1048, 1049, 1050, 1051, 1052] (by decide +kernel) (by decide +kernel)) (goodIn_sub (fun _ h => List.mem_append_left _ (List.mem_append_left _ (List.mem_append_left _ (List.mem_append_left _ (List.mem_append_left _ (List.mem_append_left _ (List.mem_append_right _ h))))))) (by decide +kernel))
set_option maxRecDepth 20000 in
theorem gL_law_X12_promises : GoodIn wsL_law (wsV RL 192 RX12 yX12_promises wsX12_promises) := goodIn_app (goodIn_of _ (by decide +kernel)) ggL_law_X12_promises
set_option maxRecDepth 20000 in
theorem ggL_law_L_nextPromise : GoodIn wsL_law wsL_nextPromise := goodIn_ca (goodIn_ca (goodIn_r _ [890, 515, 891, 892, 893, 2, 894, 525, 526, 41, 17, 698, 699, 700, 40, 701, 128, 702, 703, 704, 705, 706, 130, 707, 985, 986, 987, 988, 989, 990, 991, 992, 993, 994, 995, 996, 997, 1081, 1082, 1083, 1084, 1053, 1054, 1055, 1056] (by decide +kernel) (by decide +kernel)) (goodIn_sub (fun _ h => List.mem_append_left _ (List.mem_append_left _ (List.mem_append_left _ (List.mem_append_left _ (List.mem_append_left _ (List.mem_append_left _ (List.mem_append_right _ h))))))) (by decide +kernel))) (goodIn_sub (fun _ h => List.mem_append_left _ (List.mem_append_right _ h)) (by decide +kernel))
set_option maxRecDepth 20000 in
theorem gL_law_L_nextPromise : GoodIn wsL_law (va_wsS RL 193 yL_nextPromise wsL_nextPromise) := goodIn_app (goodIn_of _ (by decide +kernel)) ggL_law_L_nextPromise
set_option maxRecDepth 20000 in
theorem ggL_law_X12_nextPromise : GoodIn wsL_law wsX12_nextPromise := goodIn_ca (goodIn_r _ [898, 255, 712, 713, 714, 5, 715, 188, 179, 190, 178, 263, 264, 265, 266, 998, 999, 1000, 1001, 1002, 1003, 1004, 1005, 1006, 1007, 1008, 1009, 1010, 1011, 1012, 1013, 1014, 1015, 1016, 1017, 1018, 1019, 1020, 1021, 1022, 1023, 1024, 1025, 1026, 1027, 1028, 1029, 1030, 1031, 1032, 1033, 1034, 1035, 1036, 1037, 1038, 1039, 1040, 1041, 1042, 1043, 1044, 1045, 1046, 1047, 1048, 1049, 1050, 1051, 1052] (by decide +kernel) (by decide +kernel)) (goodIn_sub (fun _ h => List.mem_append_left _ (List.mem_append_left _ (List.mem_append_left _ (List.mem_append_left _ (List.mem_append_left _ (List.mem_append_left _ (List.mem_append_right _ h))))))) (by decide +kernel))
set_option maxRecDepth 20000 in
theorem gL_law_X12_nextPromise : GoodIn wsL_law (wsV RL 195 RX12 yX12_nextPromise wsX12_nextPromise) := goodIn_app (goodIn_of _ (by decide +kernel)) ggL_law_X12_nextPromise
set_option maxRecDepth 20000 in
theorem ggL_law_X11_messages : GoodIn wsL_law wsX11_messages := goodIn_r _ [902, 25, 903, 985, 986, 987, 988, 989, 990, 991, 992, 993, 994, 995, 996, 997, 1063, 1064, 1065, 1066, 1067, 1068] (by decide +kernel) (by decide +kernel)
set_option maxRecDepth 20000 in
theorem gL_law_X11_messages : GoodIn wsL_law (wsV RL 196 RX11 yX11_messages wsX11_messages) := goodIn_app (goodIn_of _ (by decide +kernel)) ggL_law_X11_messages
set_option maxRecDepth 20000 in
theorem ggL_law_X12_messages : GoodIn wsL_law wsX12_messages := goodIn_ca (goodIn_r _ [907, 255, 908, 909, 910, 5, 911, 451, 174, 998, 999, 1000, 1001, 1002, 1003, 1004, 1005, 1006, 1007, 1008, 1009, 1010, 1011, 1012, 1013, 1014, 1015, 1016, 1017, 1018, 1019, 1020, 1021, 1022, 1023, 1024, 1025, 1026, 1027, 1028, 1029, 1030, 1031, 1032, 1033, 1034, 1035, 1036, 1037, 1038, 1039, 1040, 1041, 1042, 1043, 1044, 1045, 1046, 1047, 1048, 1049, 1050, 1051, 1052] (by decide +kernel) (by decide +kernel)) (goodIn_sub (fun _ h => List.mem_append_left _ (List.mem_append_left _ (List.mem_append_left _ (List.mem_append_left _ (List.mem_append_left _ (List.mem_append_left _ (List.mem_append_right _ h))))))) (by decide +kernel))
set_option maxRecDepth 20000 in
theorem gL_law_X12_messages : GoodIn wsL_law (wsV RL 199 RX12 yX12_messages wsX12_messages) := goodIn_app (goodIn_of _ (by decide +kernel)) ggL_law_X12_messages
set_option maxRecDepth 20000 in
theorem ggL_law_L_deliver : GoodIn wsL_law wsL_deliver := goodIn_ca (goodIn_ca (goodIn_r _ [914, 211, 915, 916, 917, 2, 918, 226, 227, 25, 903, 919, 920, 921, 24, 922, 83, 84, 82, 81, 85, 86, 985, 986, 987, 988, 989, 990, 991, 992, 993, 994, 995, 996, 997, 1063, 1064, 1065, 1066, 1067, 1068] (by decide +kernel) (by decide +kernel)) (goodIn_sub (fun _ h => List.mem_append_left _ (List.mem_append_left _ (List.mem_append_left _ (List.mem_append_left _ (List.mem_append_left _ (List.mem_append_left _ (List.mem_append_right _ h))))))) (by decide +kernel))) (goodIn_sub (fun _ h => List.mem_append_left _ (List.mem_append_left _ (List.mem_append_left _ (List.mem_append_left _ (List.mem_append_right _ h))))) (by decide +kernel))
set_option maxRecDepth 20000 in
theorem gL_law_L_deliver : GoodIn wsL_law (va_wsS RL 200 yL_deliver wsL_deliver) := goodIn_app (goodIn_of _ (by decide +kernel)) ggL_law_L_deliver
set_option maxRecDepth 20000 in
theorem ggL_law_X12_deliver : GoodIn wsL_law wsX12_deliver := goodIn_ca (goodIn_r _ [926, 255, 174, 170, 171, 176, 175, 173, 908, 909, 910, 5, 911, 451, 260, 261, 262, 998, 999, 1000, 1001, 1002, 1003, 1004, 1005, 1006, 1007, 1008, 1009, 1010, 1011, 1012, 1013, 1014, 1015, 1016, 1017, 1018, 1019, 1020, 1021, 1022, 1023, 1024, 1025, 1026, 1027, 1028, 1029, 1030, 1031, 1032, 1033, 1034, 1035, 1036, 1037, 1038, 1039, 1040, 1041, 1042, 1043, 1044, 1045, 1046, 1047, 1048, 1049, 1050, 1051, 1052] (by decide +kernel) (by decide +kernel)) (goodIn_sub (fun _ h => List.mem_append_left _ (List.mem_append_left _ (List.mem_append_left _ (List.mem_append_left _ (List.mem_append_left _ (List.mem_append_left _ (List.mem_append_right _ h))))))) (by decide +kernel))
set_option maxRecDepth 20000 in
theorem gL_law_X12_deliver : GoodIn wsL_law (wsV RL 202 RX12 yX12_deliver wsX12_deliver) := goodIn_app (goodIn_of _ (by decide +kernel)) ggL_law_X12_deliver
set_option maxRecDepth 20000 in
theorem ggL_law_L_mirrored : GoodIn wsL_law wsL_mirrored := goodIn_ca (goodIn_ca (goodIn_r _ [929, 211, 930, 931, 932, 2, 933, 25, 934, 223, 224, 225, 226, 227, 985, 986, 987, 988, 989, 990, 991, 992, 993, 994, 995, 996, 997, 1063, 1064, 1065, 1066, 1067, 1068] (by decide +kernel) (by decide +kernel)) (goodIn_sub (fun _ h => List.mem_append_left _ (List.mem_append_left _ (List.mem_append_left _ (List.mem_append_left _ (List.mem_append_left _ (List.mem_append_left _ (List.mem_append_right _ h))))))) (by decide +kernel))) (goodIn_sub (fun _ h => List.mem_append_left _ (List.mem_append_left _ (List.mem_append_left _ (List.mem_append_left _ (List.mem_append_right _ h))))) (by decide +kernel))
set_option maxRecDepth 20000 in
theorem gL_law_L_mirrored : GoodIn wsL_law (va_wsS RL 203 yL_mirrored wsL_mirrored) := goodIn_app (goodIn_of _ (by decide +kernel)) ggL_law_L_mirrored
set_option maxRecDepth 20000 in
theorem ggL_law_X12_mirrored : GoodIn wsL_law wsX12_mirrored := goodIn_ca (goodIn_r _ [938, 255, 175, 257, 258, 5, 259, 260, 261, 262, 263, 264, 265, 266, 998, 999, 1000, 1001, 1002, 1003, 1004, 1005, 1006, 1007, 1008, 1009, 1010, 1011, 1012, 1013, 1014, 1015, 1016, 1017, 1018, 1019, 1020, 1021, 1022, 1023, 1024, 1025, 1026, 1027, 1028, 1029, 1030, 1031, 1032, 1033, 1034, 1035, 1036, 1037, 1038, 1039, 1040, 1041, 1042, 1043, 1044, 1045, 1046, 1047, 1048, 1049, 1050, 1051, 1052] (by decide +kernel) (by decide +kernel)) (goodIn_sub (fun _ h => List.mem_append_left _ (List.mem_append_left _ (List.mem_append_left _ (List.mem_append_left _ (List.mem_append_left _ (List.mem_append_left _ (List.mem_append_right _ h))))))) (by decide +kernel))
set_option maxRecDepth 20000 in
theorem gL_law_X12_mirrored : GoodIn wsL_law (wsV RL 205 RX12 yX12_mirrored wsX12_mirrored) := goodIn_app (goodIn_of _ (by decide +kernel)) ggL_law_X12_mirrored
set_option maxRecDepth 20000 in
theorem ggL_law_X11_paid : GoodIn wsL_law wsX11_paid := goodIn_r _ [942, 45, 943, 985, 986, 987, 988, 989, 990, 991, 992, 993, 994, 995, 996, 997, 1085, 1086, 1087, 1088, 1089, 1090, 1091] (by decide +kernel) (by decide +kernel)
set_option maxRecDepth 20000 in
theorem gL_law_X11_paid : GoodIn wsL_law (wsV RL 206 RX11 yX11_paid wsX11_paid) := goodIn_app (goodIn_of _ (by decide +kernel)) ggL_law_X11_paid
set_option maxRecDepth 20000 in
theorem ggL_law_X12_paid : GoodIn wsL_law wsX12_paid := goodIn_r _ [947, 255, 426, 998, 999, 1000, 1001, 1002, 1003, 1004, 1005, 1006, 1007, 1008, 1009, 1010, 1011, 1012, 1013, 1014, 1015, 1016, 1017, 1018, 1019, 1020, 1021, 1022, 1023, 1024, 1025, 1026, 1027, 1028, 1029, 1030, 1031, 1032, 1033, 1034, 1035, 1036, 1037, 1038, 1039, 1040, 1041, 1042, 1043, 1044, 1045, 1046, 1047, 1048, 1049, 1050, 1051, 1052] (by decide +kernel) (by decide +kernel)
set_option maxRecDepth 20000 in
theorem gL_law_X12_paid : GoodIn wsL_law (wsV RL 210 RX12 yX12_paid wsX12_paid) := goodIn_app (goodIn_of _ (by decide +kernel)) ggL_law_X12_paid
set_option maxRecDepth 20000 in
theorem ggL_law_L_answeredShare : GoodIn wsL_law wsL_answeredShare := goodIn_ca (goodIn_ca (goodIn_r _ [950, 951, 952, 953, 954, 2, 955, 956, 957, 49, 958, 959, 985, 986, 987, 988, 989, 990, 991, 992, 993, 994, 995, 996, 997, 1092, 1093, 1094, 1095, 1096, 1097, 1098] (by decide +kernel) (by decide +kernel)) (goodIn_sub (fun _ h => List.mem_append_left _ (List.mem_append_left _ (List.mem_append_left _ (List.mem_append_left _ (List.mem_append_left _ (List.mem_append_left _ (List.mem_append_right _ h))))))) (by decide +kernel))) (goodIn_sub (fun _ h => List.mem_append_right _ h) (by decide +kernel))
set_option maxRecDepth 20000 in
theorem gL_law_L_answeredShare : GoodIn wsL_law (va_wsS RL 211 yL_answeredShare wsL_answeredShare) := goodIn_app (goodIn_of _ (by decide +kernel)) ggL_law_L_answeredShare
set_option maxRecDepth 20000 in
theorem ggL_law_X12_answeredShare : GoodIn wsL_law wsX12_answeredShare := goodIn_r _ [963, 461, 255, 443, 998, 999, 1000, 1001, 1002, 1003, 1004, 1005, 1006, 1007, 1008, 1009, 1010, 1011, 1012, 1013, 1014, 1015, 1016, 1017, 1018, 1019, 1020, 1021, 1022, 1023, 1024, 1025, 1026, 1027, 1028, 1029, 1030, 1031, 1032, 1033, 1034, 1035, 1036, 1037, 1038, 1039, 1040, 1041, 1042, 1043, 1044, 1045, 1046, 1047, 1048, 1049, 1050, 1051, 1052] (by decide +kernel) (by decide +kernel)
set_option maxRecDepth 20000 in
theorem gL_law_X12_answeredShare : GoodIn wsL_law (wsV RL 214 RX12 yX12_answeredShare wsX12_answeredShare) := goodIn_app (goodIn_of _ (by decide +kernel)) ggL_law_X12_answeredShare
set_option maxRecDepth 20000 in
theorem ggL_law_L_meanStaleness : GoodIn wsL_law wsL_meanStaleness := goodIn_ca (goodIn_ca (goodIn_r _ [966, 951, 967, 968, 969, 2, 970, 956, 957, 49, 959, 971, 985, 986, 987, 988, 989, 990, 991, 992, 993, 994, 995, 996, 997, 1092, 1093, 1094, 1095, 1096, 1097, 1098] (by decide +kernel) (by decide +kernel)) (goodIn_sub (fun _ h => List.mem_append_left _ (List.mem_append_left _ (List.mem_append_left _ (List.mem_append_left _ (List.mem_append_left _ (List.mem_append_left _ (List.mem_append_right _ h))))))) (by decide +kernel))) (goodIn_sub (fun _ h => List.mem_append_right _ h) (by decide +kernel))
set_option maxRecDepth 20000 in
theorem gL_law_L_meanStaleness : GoodIn wsL_law (va_wsS RL 215 yL_meanStaleness wsL_meanStaleness) := goodIn_app (goodIn_of _ (by decide +kernel)) ggL_law_L_meanStaleness
set_option maxRecDepth 20000 in
theorem ggL_law_X12_meanStaleness : GoodIn wsL_law wsX12_meanStaleness := goodIn_r _ [975, 443, 255, 446, 998, 999, 1000, 1001, 1002, 1003, 1004, 1005, 1006, 1007, 1008, 1009, 1010, 1011, 1012, 1013, 1014, 1015, 1016, 1017, 1018, 1019, 1020, 1021, 1022, 1023, 1024, 1025, 1026, 1027, 1028, 1029, 1030, 1031, 1032, 1033, 1034, 1035, 1036, 1037, 1038, 1039, 1040, 1041, 1042, 1043, 1044, 1045, 1046, 1047, 1048, 1049, 1050, 1051, 1052] (by decide +kernel) (by decide +kernel)
set_option maxRecDepth 20000 in
theorem gL_law_X12_meanStaleness : GoodIn wsL_law (wsV RL 217 RX12 yX12_meanStaleness wsX12_meanStaleness) := goodIn_app (goodIn_of _ (by decide +kernel)) ggL_law_X12_meanStaleness
set_option maxRecDepth 20000 in
theorem ggL_law_X11_isHonest : GoodIn wsL_law wsX11_isHonest := goodIn_ca (goodIn_r _ [979, 33, 241, 17, 221, 41, 291, 59, 49, 980, 344, 985, 986, 987, 988, 989, 990, 991, 992, 993, 994, 995, 996, 997, 1071, 1072, 1073, 1074, 1075, 1053, 1054, 1055, 1056, 1081, 1082, 1083, 1084, 1092, 1093, 1094, 1095, 1096, 1097, 1098] (by decide +kernel) (by decide +kernel)) (goodIn_sub (fun _ h => List.mem_append_left _ (List.mem_append_left _ (List.mem_append_left _ (List.mem_append_left _ (List.mem_append_left _ (List.mem_append_left _ (List.mem_append_right _ h))))))) (by decide +kernel))
set_option maxRecDepth 20000 in
theorem gL_law_X11_isHonest : GoodIn wsL_law (wsV RL 218 RX11 yX11_isHonest wsX11_isHonest) := goodIn_app (goodIn_of _ (by decide +kernel)) ggL_law_X11_isHonest
set_option maxRecDepth 20000 in
theorem ggL_law_X12_isHonest : GoodIn wsL_law wsX12_isHonest := goodIn_r _ [984, 255, 998, 999, 1000, 1001, 1002, 1003, 1004, 1005, 1006, 1007, 1008, 1009, 1010, 1011, 1012, 1013, 1014, 1015, 1016, 1017, 1018, 1019, 1020, 1021, 1022, 1023, 1024, 1025, 1026, 1027, 1028, 1029, 1030, 1031, 1032, 1033, 1034, 1035, 1036, 1037, 1038, 1039, 1040, 1041, 1042, 1043, 1044, 1045, 1046, 1047, 1048, 1049, 1050, 1051, 1052] (by decide +kernel) (by decide +kernel)
set_option maxRecDepth 20000 in
theorem gL_law_X12_isHonest : GoodIn wsL_law (wsV RL 222 RX12 yX12_isHonest wsX12_isHonest) := goodIn_app (goodIn_of _ (by decide +kernel)) ggL_law_X12_isHonest
theorem dL_law_0 : decode cL_law 0 = .ok (.new 8, 3) := by decide +kernel
theorem dL_law_3 : decode cL_law 3 = .ok (.dup, 1) := by decide +kernel
theorem dL_law_4 : decode cL_law 4 = .ok (.invokespecial 106, 3) := by decide +kernel
theorem dL_law_7 : decode cL_law 7 = .ok (.astore_n 1, 1) := by decide +kernel
theorem dL_law_8 : decode cL_law 8 = .ok (.new 107, 3) := by decide +kernel
theorem dL_law_11 : decode cL_law 11 = .ok (.dup, 1) := by decide +kernel
theorem dL_law_12 : decode cL_law 12 = .ok (.invokespecial 109, 3) := by decide +kernel
theorem dL_law_15 : decode cL_law 15 = .ok (.astore_n 2, 1) := by decide +kernel
theorem dL_law_16 : decode cL_law 16 = .ok (.iconst 1, 1) := by decide +kernel
theorem dL_law_17 : decode cL_law 17 = .ok (.newarray .long, 2) := by decide +kernel
theorem dL_law_19 : decode cL_law 19 = .ok (.astore_n 3, 1) := by decide +kernel
theorem dL_law_20 : decode cL_law 20 = .ok (.iconst 1, 1) := by decide +kernel
theorem dL_law_21 : decode cL_law 21 = .ok (.newarray .double, 2) := by decide +kernel
theorem dL_law_23 : decode cL_law 23 = .ok (.astore 4, 2) := by decide +kernel
theorem dL_law_25 : decode cL_law 25 = .ok (.iconst 0, 1) := by decide +kernel
theorem dL_law_26 : decode cL_law 26 = .ok (.istore 5, 2) := by decide +kernel
theorem dL_law_28 : decode cL_law 28 = .ok (.iload 5, 2) := by decide +kernel
theorem dL_law_30 : decode cL_law 30 = .ok (.aload_n 0, 1) := by decide +kernel
theorem dL_law_31 : decode cL_law 31 = .ok (.arraylength, 1) := by decide +kernel
theorem dL_law_32 : decode cL_law 32 = .ok (.iconst 5, 1) := by decide +kernel
theorem dL_law_33 : decode cL_law 33 = .ok (.isub, 1) := by decide +kernel
theorem dL_law_34 : decode cL_law 34 = .ok (.if_icmp .gt 1694, 3) := by decide +kernel
theorem dL_law_37 : decode cL_law 37 = .ok (.aload_n 0, 1) := by decide +kernel
theorem dL_law_38 : decode cL_law 38 = .ok (.iload 5, 2) := by decide +kernel
theorem dL_law_40 : decode cL_law 40 = .ok (.iaload, 1) := by decide +kernel
theorem dL_law_41 : decode cL_law 41 = .ok (.bipush 31, 2) := by decide +kernel
theorem dL_law_43 : decode cL_law 43 = .ok (.iand, 1) := by decide +kernel
theorem dL_law_44 : decode cL_law 44 = .ok (.tableswitch 1678 0 30 #[140, 232, 312, 356, 400, 444, 500, 556, 612, 694, 757, 813, 869, 913, 957, 970, 1026, 1039, 1095, 1151, 1219, 1275, 1331, 1344, 1388, 1401, 1464, 1520, 1534, 1600, 1665], 140) := by decide +kernel
theorem dL_law_184 : decode cL_law 184 = .ok (.aload_n 1, 1) := by decide +kernel
theorem dL_law_185 : decode cL_law 185 = .ok (.aload_n 0, 1) := by decide +kernel
theorem dL_law_186 : decode cL_law 186 = .ok (.iload 5, 2) := by decide +kernel
theorem dL_law_188 : decode cL_law 188 = .ok (.iconst 1, 1) := by decide +kernel
theorem dL_law_189 : decode cL_law 189 = .ok (.iadd, 1) := by decide +kernel
theorem dL_law_190 : decode cL_law 190 = .ok (.iaload, 1) := by decide +kernel
theorem dL_law_191 : decode cL_law 191 = .ok (.aload_n 0, 1) := by decide +kernel
theorem dL_law_192 : decode cL_law 192 = .ok (.iload 5, 2) := by decide +kernel
theorem dL_law_194 : decode cL_law 194 = .ok (.iconst 2, 1) := by decide +kernel
theorem dL_law_195 : decode cL_law 195 = .ok (.iadd, 1) := by decide +kernel
theorem dL_law_196 : decode cL_law 196 = .ok (.iaload, 1) := by decide +kernel
theorem dL_law_197 : decode cL_law 197 = .ok (.aload_n 0, 1) := by decide +kernel
theorem dL_law_198 : decode cL_law 198 = .ok (.iload 5, 2) := by decide +kernel
theorem dL_law_200 : decode cL_law 200 = .ok (.iconst 3, 1) := by decide +kernel
theorem dL_law_201 : decode cL_law 201 = .ok (.iadd, 1) := by decide +kernel
theorem dL_law_202 : decode cL_law 202 = .ok (.iaload, 1) := by decide +kernel
theorem dL_law_203 : decode cL_law 203 = .ok (.aload_n 0, 1) := by decide +kernel
