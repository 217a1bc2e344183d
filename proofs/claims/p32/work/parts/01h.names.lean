theorem dX12_fill_99 : decode cX12_fill 99 = .ok (.iaload, 1) := by decide +kernel
theorem dX12_fill_100 : decode cX12_fill 100 = .ok (.aload_n 0, 1) := by decide +kernel
theorem dX12_fill_101 : decode cX12_fill 101 = .ok (.getfield 123, 3) := by decide +kernel
theorem dX12_fill_104 : decode cX12_fill 104 = .ok (.iload_n 1, 1) := by decide +kernel
theorem dX12_fill_105 : decode cX12_fill 105 = .ok (.iaload, 1) := by decide +kernel
theorem dX12_fill_106 : decode cX12_fill 106 = .ok (.aload_n 0, 1) := by decide +kernel
theorem dX12_fill_107 : decode cX12_fill 107 = .ok (.getfield 47, 3) := by decide +kernel
theorem dX12_fill_110 : decode cX12_fill 110 = .ok (.aload_n 0, 1) := by decide +kernel
theorem dX12_fill_111 : decode cX12_fill 111 = .ok (.getfield 44, 3) := by decide +kernel
theorem dX12_fill_114 : decode cX12_fill 114 = .ok (.iload_n 2, 1) := by decide +kernel
theorem dX12_fill_115 : decode cX12_fill 115 = .ok (.iaload, 1) := by decide +kernel
theorem dX12_fill_116 : decode cX12_fill 116 = .ok (.iaload, 1) := by decide +kernel
theorem dX12_fill_117 : decode cX12_fill 117 = .ok (.invokevirtual 238, 3) := by decide +kernel
theorem dX12_fill_120 : decode cX12_fill 120 = .ok (.bipush 105, 2) := by decide +kernel
theorem dX12_fill_122 : decode cX12_fill 122 = .ok (.ireturn, 1) := by decide +kernel
set_option maxRecDepth 20000 in
theorem ggX12_leaseState_X12_isLease : GoodIn wsX12_leaseState wsX12_isLease := goodIn_r _ [7, 8, 9, 10, 6, 11, 16, 17, 18, 19, 20, 21, 22, 23, 24, 25, 26, 27, 28, 29, 30, 31, 32, 33, 34, 35, 36, 37, 38, 39, 40, 41, 42, 43, 44, 45, 46, 47, 48, 49, 50, 51, 52, 53, 54, 55, 56, 57, 58, 59, 60, 61, 62, 63, 64, 65, 66, 67, 68, 69, 70] (by decide +kernel) (by decide +kernel)
set_option maxRecDepth 20000 in
theorem gX12_leaseState_X12_isLease : GoodIn wsX12_leaseState (wsV RX12 265 RX12 yX12_isLease wsX12_isLease) := goodIn_app (goodIn_of _ (by decide +kernel)) ggX12_leaseState_X12_isLease
set_option maxRecDepth 20000 in
theorem ggX12_leaseState_X12_failsChar : GoodIn wsX12_leaseState wsX12_failsChar := goodIn_r _ [15, 1, 16, 17, 18, 19, 20, 21, 22, 23, 24, 25, 26, 27, 28, 29, 30, 31, 32, 33, 34, 35, 36, 37, 38, 39, 40, 41, 42, 43, 44, 45, 46, 47, 48, 49, 50, 51, 52, 53, 54, 55, 56, 57, 58, 59, 60, 61, 62, 63, 64, 65, 66, 67, 68, 69, 70] (by decide +kernel) (by decide +kernel)
set_option maxRecDepth 20000 in
theorem gX12_leaseState_X12_failsChar : GoodIn wsX12_leaseState (wsV RX12 248 RX12 yX12_failsChar wsX12_failsChar) := goodIn_app (goodIn_of _ (by decide +kernel)) ggX12_leaseState_X12_failsChar
theorem dX12_leaseState_0 : decode cX12_leaseState 0 = .ok (.aload_n 0, 1) := by decide +kernel
theorem dX12_leaseState_1 : decode cX12_leaseState 1 = .ok (.iconst 0, 1) := by decide +kernel
theorem dX12_leaseState_2 : decode cX12_leaseState 2 = .ok (.putfield 129, 3) := by decide +kernel
theorem dX12_leaseState_5 : decode cX12_leaseState 5 = .ok (.aload_n 0, 1) := by decide +kernel
theorem dX12_leaseState_6 : decode cX12_leaseState 6 = .ok (.iload_n 1, 1) := by decide +kernel
theorem dX12_leaseState_7 : decode cX12_leaseState 7 = .ok (.invokevirtual 265, 3) := by decide +kernel
theorem dX12_leaseState_10 : decode cX12_leaseState 10 = .ok (.ifCond .eq 12, 3) := by decide +kernel
theorem dX12_leaseState_13 : decode cX12_leaseState 13 = .ok (.aload_n 0, 1) := by decide +kernel
theorem dX12_leaseState_14 : decode cX12_leaseState 14 = .ok (.getfield 110, 3) := by decide +kernel
theorem dX12_leaseState_17 : decode cX12_leaseState 17 = .ok (.iload_n 1, 1) := by decide +kernel
theorem dX12_leaseState_18 : decode cX12_leaseState 18 = .ok (.caload, 1) := by decide +kernel
theorem dX12_leaseState_19 : decode cX12_leaseState 19 = .ok (.goto 8, 3) := by decide +kernel
theorem dX12_leaseState_22 : decode cX12_leaseState 22 = .ok (.aload_n 0, 1) := by decide +kernel
theorem dX12_leaseState_23 : decode cX12_leaseState 23 = .ok (.iconst 1, 1) := by decide +kernel
theorem dX12_leaseState_24 : decode cX12_leaseState 24 = .ok (.invokevirtual 248, 3) := by decide +kernel
theorem dX12_leaseState_27 : decode cX12_leaseState 27 = .ok (.ireturn, 1) := by decide +kernel
set_option maxRecDepth 20000 in
theorem ggX12_canCome_X12_usedNow : GoodIn wsX12_canCome wsX12_usedNow := goodIn_ca (goodIn_r _ [8, 1, 2, 9, 10, 11, 12, 13, 14, 15, 16, 17, 18, 19, 20, 21, 22, 23, 24, 25, 26, 27, 28, 29, 30, 31, 32, 33, 34, 35, 36, 37, 38, 39, 40, 41, 42, 43, 44, 45, 46, 47, 48, 49, 50, 51, 52, 53, 54, 55, 56, 57, 58, 59, 60, 61, 62, 63] (by decide +kernel) (by decide +kernel)) (goodIn_sub (fun _ h => List.mem_cons_of_mem _ (List.mem_append_right _ h)) (by decide +kernel))
set_option maxRecDepth 20000 in
theorem gX12_canCome_X12_usedNow : GoodIn wsX12_canCome (wsV RX12 182 RX12 yX12_usedNow wsX12_usedNow) := goodIn_app (goodIn_of _ (by decide +kernel)) ggX12_canCome_X12_usedNow
theorem dX12_canCome_0 : decode cX12_canCome 0 = .ok (.bipush 12, 2) := by decide +kernel
theorem dX12_canCome_2 : decode cX12_canCome 2 = .ok (.aload_n 0, 1) := by decide +kernel
theorem dX12_canCome_3 : decode cX12_canCome 3 = .ok (.invokevirtual 182, 3) := by decide +kernel
theorem dX12_canCome_6 : decode cX12_canCome 6 = .ok (.isub, 1) := by decide +kernel
theorem dX12_canCome_7 : decode cX12_canCome 7 = .ok (.aload_n 0, 1) := by decide +kernel
theorem dX12_canCome_8 : decode cX12_canCome 8 = .ok (.getfield 53, 3) := by decide +kernel
theorem dX12_canCome_11 : decode cX12_canCome 11 = .ok (.iload_n 1, 1) := by decide +kernel
theorem dX12_canCome_12 : decode cX12_canCome 12 = .ok (.baload, 1) := by decide +kernel
theorem dX12_canCome_13 : decode cX12_canCome 13 = .ok (.ifCond .eq 12, 3) := by decide +kernel
theorem dX12_canCome_16 : decode cX12_canCome 16 = .ok (.aload_n 0, 1) := by decide +kernel
theorem dX12_canCome_17 : decode cX12_canCome 17 = .ok (.getfield 38, 3) := by decide +kernel
theorem dX12_canCome_20 : decode cX12_canCome 20 = .ok (.iload_n 1, 1) := by decide +kernel
theorem dX12_canCome_21 : decode cX12_canCome 21 = .ok (.iaload, 1) := by decide +kernel
theorem dX12_canCome_22 : decode cX12_canCome 22 = .ok (.goto 4, 3) := by decide +kernel
theorem dX12_canCome_25 : decode cX12_canCome 25 = .ok (.iconst 0, 1) := by decide +kernel
theorem dX12_canCome_26 : decode cX12_canCome 26 = .ok (.iadd, 1) := by decide +kernel
theorem dX12_canCome_27 : decode cX12_canCome 27 = .ok (.istore_n 2, 1) := by decide +kernel
theorem dX12_canCome_28 : decode cX12_canCome 28 = .ok (.iconst 0, 1) := by decide +kernel
theorem dX12_canCome_29 : decode cX12_canCome 29 = .ok (.istore_n 3, 1) := by decide +kernel
theorem dX12_canCome_30 : decode cX12_canCome 30 = .ok (.iload_n 3, 1) := by decide +kernel
theorem dX12_canCome_31 : decode cX12_canCome 31 = .ok (.bipush 32, 2) := by decide +kernel
theorem dX12_canCome_33 : decode cX12_canCome 33 = .ok (.if_icmp .ge 45, 3) := by decide +kernel
theorem dX12_canCome_36 : decode cX12_canCome 36 = .ok (.iload_n 2, 1) := by decide +kernel
theorem dX12_canCome_37 : decode cX12_canCome 37 = .ok (.aload_n 0, 1) := by decide +kernel
theorem dX12_canCome_38 : decode cX12_canCome 38 = .ok (.getfield 53, 3) := by decide +kernel
theorem dX12_canCome_41 : decode cX12_canCome 41 = .ok (.iload_n 3, 1) := by decide +kernel
theorem dX12_canCome_42 : decode cX12_canCome 42 = .ok (.baload, 1) := by decide +kernel
theorem dX12_canCome_43 : decode cX12_canCome 43 = .ok (.ifCond .eq 26, 3) := by decide +kernel
theorem dX12_canCome_46 : decode cX12_canCome 46 = .ok (.iload_n 3, 1) := by decide +kernel
theorem dX12_canCome_47 : decode cX12_canCome 47 = .ok (.iload_n 1, 1) := by decide +kernel
theorem dX12_canCome_48 : decode cX12_canCome 48 = .ok (.if_icmp .eq 21, 3) := by decide +kernel
theorem dX12_canCome_51 : decode cX12_canCome 51 = .ok (.aload_n 0, 1) := by decide +kernel
theorem dX12_canCome_52 : decode cX12_canCome 52 = .ok (.getfield 71, 3) := by decide +kernel
theorem dX12_canCome_55 : decode cX12_canCome 55 = .ok (.iload_n 3, 1) := by decide +kernel
theorem dX12_canCome_56 : decode cX12_canCome 56 = .ok (.baload, 1) := by decide +kernel
theorem dX12_canCome_57 : decode cX12_canCome 57 = .ok (.ifCond .ne 12, 3) := by decide +kernel
theorem dX12_canCome_60 : decode cX12_canCome 60 = .ok (.aload_n 0, 1) := by decide +kernel
theorem dX12_canCome_61 : decode cX12_canCome 61 = .ok (.getfield 38, 3) := by decide +kernel
theorem dX12_canCome_64 : decode cX12_canCome 64 = .ok (.iload_n 3, 1) := by decide +kernel
theorem dX12_canCome_65 : decode cX12_canCome 65 = .ok (.iaload, 1) := by decide +kernel
theorem dX12_canCome_66 : decode cX12_canCome 66 = .ok (.goto 4, 3) := by decide +kernel
theorem dX12_canCome_69 : decode cX12_canCome 69 = .ok (.iconst 0, 1) := by decide +kernel
theorem dX12_canCome_70 : decode cX12_canCome 70 = .ok (.iadd, 1) := by decide +kernel
theorem dX12_canCome_71 : decode cX12_canCome 71 = .ok (.istore_n 2, 1) := by decide +kernel
theorem dX12_canCome_72 : decode cX12_canCome 72 = .ok (.iinc 3 1, 3) := by decide +kernel
theorem dX12_canCome_75 : decode cX12_canCome 75 = .ok (.goto (-45), 3) := by decide +kernel
theorem dX12_canCome_78 : decode cX12_canCome 78 = .ok (.iload_n 2, 1) := by decide +kernel
theorem dX12_canCome_79 : decode cX12_canCome 79 = .ok (.aload_n 0, 1) := by decide +kernel
theorem dX12_canCome_80 : decode cX12_canCome 80 = .ok (.getfield 38, 3) := by decide +kernel
theorem dX12_canCome_83 : decode cX12_canCome 83 = .ok (.iload_n 1, 1) := by decide +kernel
theorem dX12_canCome_84 : decode cX12_canCome 84 = .ok (.iaload, 1) := by decide +kernel
theorem dX12_canCome_85 : decode cX12_canCome 85 = .ok (.if_icmp .lt 7, 3) := by decide +kernel
theorem dX12_canCome_88 : decode cX12_canCome 88 = .ok (.iconst 1, 1) := by decide +kernel
theorem dX12_canCome_89 : decode cX12_canCome 89 = .ok (.goto 4, 3) := by decide +kernel
theorem dX12_canCome_92 : decode cX12_canCome 92 = .ok (.iconst 0, 1) := by decide +kernel
theorem dX12_canCome_93 : decode cX12_canCome 93 = .ok (.ireturn, 1) := by decide +kernel
set_option maxRecDepth 20000 in
theorem ggX12_write_X12_isKey : GoodIn wsX12_write wsX12_isKey := goodIn_r _ [19, 20, 21, 18, 22] (by decide +kernel) (by decide +kernel)
set_option maxRecDepth 20000 in
theorem gX12_write_X12_isKey : GoodIn wsX12_write (va_wsS RX12 197 yX12_isKey wsX12_isKey) := goodIn_app (goodIn_of _ (by decide +kernel)) ggX12_write_X12_isKey
set_option maxRecDepth 20000 in
theorem ggX12_write_X12_fails : GoodIn wsX12_write wsX12_fails := goodIn_r _ [26, 1, 115, 116, 117, 118, 119, 120, 121, 122, 123, 124, 125, 126, 127, 128, 129, 130, 131, 132, 133, 134, 135, 136, 137, 138, 139, 140, 141, 142, 143, 144, 145, 146, 147, 148, 149, 150, 151, 152, 153, 154, 155, 156, 157, 158, 159, 160, 161, 162, 163, 164, 165, 166, 167, 168, 169] (by decide +kernel) (by decide +kernel)
set_option maxRecDepth 20000 in
theorem gX12_write_X12_fails : GoodIn wsX12_write (wsV RX12 201 RX12 yX12_fails wsX12_fails) := goodIn_app (goodIn_of _ (by decide +kernel)) ggX12_write_X12_fails
set_option maxRecDepth 20000 in
theorem ggX12_write_X12_promiseCount : GoodIn wsX12_write wsX12_promiseCount := goodIn_ca (goodIn_r _ [30, 9, 115, 116, 117, 118, 119, 120, 121, 122, 123, 124, 125, 126, 127, 128, 129, 130, 131, 132, 133, 134, 135, 136, 137, 138, 139, 140, 141, 142, 143, 144, 145, 146, 147, 148, 149, 150, 151, 152, 153, 154, 155, 156, 157, 158, 159, 160, 161, 162, 163, 164, 165, 166, 167, 168, 169] (by decide +kernel) (by decide +kernel)) (goodIn_sub (fun _ h => List.mem_cons_of_mem _ (List.mem_append_right _ h)) (by decide +kernel))
set_option maxRecDepth 20000 in
theorem gX12_write_X12_promiseCount : GoodIn wsX12_write (wsV RX12 268 RX12 yX12_promiseCount wsX12_promiseCount) := goodIn_app (goodIn_of _ (by decide +kernel)) ggX12_write_X12_promiseCount
set_option maxRecDepth 20000 in
theorem ggX12_write_X12_canCome : GoodIn wsX12_write wsX12_canCome := goodIn_ca (goodIn_r _ [34, 11, 35, 9, 36, 37, 38, 18, 39, 115, 116, 117, 118, 119, 120, 121, 122, 123, 124, 125, 126, 127, 128, 129, 130, 131, 132, 133, 134, 135, 136, 137, 138, 139, 140, 141, 142, 143, 144, 145, 146, 147, 148, 149, 150, 151, 152, 153, 154, 155, 156, 157, 158, 159, 160, 161, 162, 163, 164, 165, 166, 167, 168, 169] (by decide +kernel) (by decide +kernel)) (goodIn_sub (fun _ h => List.mem_cons_of_mem _ (List.mem_append_right _ h)) (by decide +kernel))
set_option maxRecDepth 20000 in
theorem gX12_write_X12_canCome : GoodIn wsX12_write (wsV RX12 271 RX12 yX12_canCome wsX12_canCome) := goodIn_app (goodIn_of _ (by decide +kernel)) ggX12_write_X12_canCome
set_option maxRecDepth 20000 in
theorem ggX12_write_X12_makesRoom : GoodIn wsX12_write wsX12_makesRoom := goodIn_ca (goodIn_r _ [43, 11, 35, 44, 45, 36, 37, 38, 18, 39, 46, 47, 48, 49, 9, 50, 51, 52, 53, 54, 55, 56, 57, 58, 59, 60, 61, 62, 63, 64, 65, 66, 67, 68, 69, 70, 71, 72, 12, 73, 13, 74, 14, 75, 15, 76, 77, 78, 79, 80, 81, 82, 83, 84, 115, 116, 117, 118, 119, 120, 121, 122, 123, 124, 125, 126, 127, 128, 129, 130, 131, 132, 133, 134, 135, 136, 137, 138, 139, 140, 141, 142, 143, 144, 145, 146, 147, 148, 149, 150, 151, 152, 153, 154, 155, 156, 157, 158, 159, 160, 161, 162, 163, 164, 165, 166, 167, 168, 169] (by decide +kernel) (by decide +kernel)) (goodIn_sub (fun _ h => List.mem_cons_of_mem _ (List.mem_append_right _ h)) (by decide +kernel))
set_option maxRecDepth 20000 in
theorem gX12_write_X12_makesRoom : GoodIn wsX12_write (wsV RX12 234 RX12 yX12_makesRoom wsX12_makesRoom) := goodIn_app (goodIn_of _ (by decide +kernel)) ggX12_write_X12_makesRoom
set_option maxRecDepth 20000 in
theorem ggX12_write_X12_comes : GoodIn wsX12_write wsX12_comes := goodIn_ca (goodIn_r _ [88, 11, 12, 13, 14, 15, 89, 90, 91, 18, 92, 93, 45, 115, 116, 117, 118, 119, 120, 121, 122, 123, 124, 125, 126, 127, 128, 129, 130, 131, 132, 133, 134, 135, 136, 137, 138, 139, 140, 141, 142, 143, 144, 145, 146, 147, 148, 149, 150, 151, 152, 153, 154, 155, 156, 157, 158, 159, 160, 161, 162, 163, 164, 165, 166, 167, 168, 169] (by decide +kernel) (by decide +kernel)) (goodIn_sub (fun _ h => List.mem_cons_of_mem _ (List.mem_append_right _ h)) (by decide +kernel))
set_option maxRecDepth 20000 in
theorem gX12_write_X12_comes : GoodIn wsX12_write (wsV RX12 238 RX12 yX12_comes wsX12_comes) := goodIn_app (goodIn_of _ (by decide +kernel)) ggX12_write_X12_comes
set_option maxRecDepth 20000 in
theorem ggX12_write_X12_takesOut : GoodIn wsX12_write wsX12_takesOut := goodIn_ca (goodIn_r _ [97, 76, 71, 77, 78, 79, 18, 80, 81, 82, 83, 84, 115, 116, 117, 118, 119, 120, 121, 122, 123, 124, 125, 126, 127, 128, 129, 130, 131, 132, 133, 134, 135, 136, 137, 138, 139, 140, 141, 142, 143, 144, 145, 146, 147, 148, 149, 150, 151, 152, 153, 154, 155, 156, 157, 158, 159, 160, 161, 162, 163, 164, 165, 166, 167, 168, 169] (by decide +kernel) (by decide +kernel)) (goodIn_sub (fun _ h => List.mem_cons_of_mem _ (List.mem_append_right _ h)) (by decide +kernel))
set_option maxRecDepth 20000 in
theorem gX12_write_X12_takesOut : GoodIn wsX12_write (wsV RX12 242 RX12 yX12_takesOut wsX12_takesOut) := goodIn_app (goodIn_of _ (by decide +kernel)) ggX12_write_X12_takesOut
set_option maxRecDepth 20000 in
theorem ggX12_write_X12_voids : GoodIn wsX12_write wsX12_voids := goodIn_ca (goodIn_r _ [101, 102, 103, 104, 115, 116, 117, 118, 119, 120, 121, 122, 123, 124, 125, 126, 127, 128, 129, 130, 131, 132, 133, 134, 135, 136, 137, 138, 139, 140, 141, 142, 143, 144, 145, 146, 147, 148, 149, 150, 151, 152, 153, 154, 155, 156, 157, 158, 159, 160, 161, 162, 163, 164, 165, 166, 167, 168, 169] (by decide +kernel) (by decide +kernel)) (goodIn_sub (fun _ h => List.mem_cons_of_mem _ (List.mem_append_right _ h)) (by decide +kernel))
set_option maxRecDepth 20000 in
theorem gX12_write_X12_voids : GoodIn wsX12_write (wsV RX12 274 RX12 yX12_voids wsX12_voids) := goodIn_app (goodIn_of _ (by decide +kernel)) ggX12_write_X12_voids
set_option maxRecDepth 20000 in
theorem ggX12_write_X12_stores : GoodIn wsX12_write wsX12_stores := goodIn_ca (goodIn_r _ [108, 4, 109, 110, 3, 111, 112, 5, 113, 114, 115, 116, 117, 118, 119, 120, 121, 122, 123, 124, 125, 126, 127, 128, 129, 130, 131, 132, 133, 134, 135, 136, 137, 138, 139, 140, 141, 142, 143, 144, 145, 146, 147, 148, 149, 150, 151, 152, 153, 154, 155, 156, 157, 158, 159, 160, 161, 162, 163, 164, 165, 166, 167, 168, 169] (by decide +kernel) (by decide +kernel)) (goodIn_sub (fun _ h => List.mem_cons_of_mem _ (List.mem_append_right _ h)) (by decide +kernel))
set_option maxRecDepth 20000 in
theorem gX12_write_X12_stores : GoodIn wsX12_write (wsV RX12 162 RX12 yX12_stores wsX12_stores) := goodIn_app (goodIn_of _ (by decide +kernel)) ggX12_write_X12_stores
set_option maxRecDepth 20000 in
theorem ggX12_write_X12_uses : GoodIn wsX12_write wsX12_uses := goodIn_ca (goodIn_r _ [92, 93, 45, 115, 116, 117, 118, 119, 120, 121, 122, 123, 124, 125, 126, 127, 128, 129, 130, 131, 132, 133, 134, 135, 136, 137, 138, 139, 140, 141, 142, 143, 144, 145, 146, 147, 148, 149, 150, 151, 152, 153, 154, 155, 156, 157, 158, 159, 160, 161, 162, 163, 164, 165, 166, 167, 168, 169] (by decide +kernel) (by decide +kernel)) (goodIn_sub (fun _ h => List.mem_cons_of_mem _ (List.mem_append_right _ h)) (by decide +kernel))
set_option maxRecDepth 20000 in
theorem gX12_write_X12_uses : GoodIn wsX12_write (wsV RX12 192 RX12 yX12_uses wsX12_uses) := goodIn_app (goodIn_of _ (by decide +kernel)) ggX12_write_X12_uses
theorem dX12_write_0 : decode cX12_write 0 = .ok (.aload_n 0, 1) := by decide +kernel
theorem dX12_write_1 : decode cX12_write 1 = .ok (.iconst 0, 1) := by decide +kernel
theorem dX12_write_2 : decode cX12_write 2 = .ok (.putfield 129, 3) := by decide +kernel
theorem dX12_write_5 : decode cX12_write 5 = .ok (.iload_n 1, 1) := by decide +kernel
theorem dX12_write_6 : decode cX12_write 6 = .ok (.invokestatic 197, 3) := by decide +kernel
theorem dX12_write_9 : decode cX12_write 9 = .ok (.ifCond .ne 9, 3) := by decide +kernel
theorem dX12_write_12 : decode cX12_write 12 = .ok (.aload_n 0, 1) := by decide +kernel
theorem dX12_write_13 : decode cX12_write 13 = .ok (.iconst 1, 1) := by decide +kernel
theorem dX12_write_14 : decode cX12_write 14 = .ok (.invokevirtual 201, 3) := by decide +kernel
theorem dX12_write_17 : decode cX12_write 17 = .ok (.ireturn, 1) := by decide +kernel
theorem dX12_write_18 : decode cX12_write 18 = .ok (.iload_n 3, 1) := by decide +kernel
theorem dX12_write_19 : decode cX12_write 19 = .ok (.bipush 116, 2) := by decide +kernel
theorem dX12_write_21 : decode cX12_write 21 = .ok (.if_icmp .eq 21, 3) := by decide +kernel
theorem dX12_write_24 : decode cX12_write 24 = .ok (.iload_n 3, 1) := by decide +kernel
theorem dX12_write_25 : decode cX12_write 25 = .ok (.bipush 98, 2) := by decide +kernel
theorem dX12_write_27 : decode cX12_write 27 = .ok (.if_icmp .eq 15, 3) := by decide +kernel
theorem dX12_write_30 : decode cX12_write 30 = .ok (.iload_n 3, 1) := by decide +kernel
theorem dX12_write_31 : decode cX12_write 31 = .ok (.bipush 97, 2) := by decide +kernel
theorem dX12_write_33 : decode cX12_write 33 = .ok (.if_icmp .eq 9, 3) := by decide +kernel
theorem dX12_write_36 : decode cX12_write 36 = .ok (.aload_n 0, 1) := by decide +kernel
theorem dX12_write_37 : decode cX12_write 37 = .ok (.iconst 2, 1) := by decide +kernel
theorem dX12_write_38 : decode cX12_write 38 = .ok (.invokevirtual 201, 3) := by decide +kernel
theorem dX12_write_41 : decode cX12_write 41 = .ok (.ireturn, 1) := by decide +kernel
theorem dX12_write_42 : decode cX12_write 42 = .ok (.aload_n 0, 1) := by decide +kernel
theorem dX12_write_43 : decode cX12_write 43 = .ok (.getfield 204, 3) := by decide +kernel
theorem dX12_write_46 : decode cX12_write 46 = .ok (.ifCond .eq 9, 3) := by decide +kernel
theorem dX12_write_49 : decode cX12_write 49 = .ok (.iload_n 3, 1) := by decide +kernel
theorem dX12_write_50 : decode cX12_write 50 = .ok (.bipush 97, 2) := by decide +kernel
theorem dX12_write_52 : decode cX12_write 52 = .ok (.if_icmp .ne 18, 3) := by decide +kernel
theorem dX12_write_55 : decode cX12_write 55 = .ok (.aload_n 0, 1) := by decide +kernel
theorem dX12_write_56 : decode cX12_write 56 = .ok (.getfield 156, 3) := by decide +kernel
theorem dX12_write_59 : decode cX12_write 59 = .ok (.aload_n 0, 1) := by decide +kernel
theorem dX12_write_60 : decode cX12_write 60 = .ok (.invokevirtual 268, 3) := by decide +kernel
theorem dX12_write_63 : decode cX12_write 63 = .ok (.iadd, 1) := by decide +kernel
theorem dX12_write_64 : decode cX12_write 64 = .ok (.sipush 400, 3) := by decide +kernel
theorem dX12_write_67 : decode cX12_write 67 = .ok (.if_icmp .lt 9, 3) := by decide +kernel
theorem dX12_write_70 : decode cX12_write 70 = .ok (.aload_n 0, 1) := by decide +kernel
theorem dX12_write_71 : decode cX12_write 71 = .ok (.iconst 3, 1) := by decide +kernel
theorem dX12_write_72 : decode cX12_write 72 = .ok (.invokevirtual 201, 3) := by decide +kernel
theorem dX12_write_75 : decode cX12_write 75 = .ok (.ireturn, 1) := by decide +kernel
theorem dX12_write_76 : decode cX12_write 76 = .ok (.iload_n 3, 1) := by decide +kernel
theorem dX12_write_77 : decode cX12_write 77 = .ok (.bipush 98, 2) := by decide +kernel
theorem dX12_write_79 : decode cX12_write 79 = .ok (.if_icmp .ne 17, 3) := by decide +kernel
theorem dX12_write_82 : decode cX12_write 82 = .ok (.aload_n 0, 1) := by decide +kernel
theorem dX12_write_83 : decode cX12_write 83 = .ok (.iload_n 1, 1) := by decide +kernel
theorem dX12_write_84 : decode cX12_write 84 = .ok (.invokevirtual 271, 3) := by decide +kernel
theorem dX12_write_87 : decode cX12_write 87 = .ok (.ifCond .ne 9, 3) := by decide +kernel
theorem dX12_write_90 : decode cX12_write 90 = .ok (.aload_n 0, 1) := by decide +kernel
theorem dX12_write_91 : decode cX12_write 91 = .ok (.iconst 4, 1) := by decide +kernel
theorem dX12_write_92 : decode cX12_write 92 = .ok (.invokevirtual 201, 3) := by decide +kernel
theorem dX12_write_95 : decode cX12_write 95 = .ok (.ireturn, 1) := by decide +kernel
theorem dX12_write_96 : decode cX12_write 96 = .ok (.iload_n 3, 1) := by decide +kernel
theorem dX12_write_97 : decode cX12_write 97 = .ok (.bipush 98, 2) := by decide +kernel
theorem dX12_write_99 : decode cX12_write 99 = .ok (.if_icmp .ne 101, 3) := by decide +kernel
theorem dX12_write_102 : decode cX12_write 102 = .ok (.aload_n 0, 1) := by decide +kernel
theorem dX12_write_103 : decode cX12_write 103 = .ok (.iload_n 1, 1) := by decide +kernel
theorem dX12_write_104 : decode cX12_write 104 = .ok (.iconst 1, 1) := by decide +kernel
theorem dX12_write_105 : decode cX12_write 105 = .ok (.invokevirtual 234, 3) := by decide +kernel
theorem dX12_write_108 : decode cX12_write 108 = .ok (.istore 4, 2) := by decide +kernel
theorem dX12_write_110 : decode cX12_write 110 = .ok (.aload_n 0, 1) := by decide +kernel
theorem dX12_write_111 : decode cX12_write 111 = .ok (.iload_n 1, 1) := by decide +kernel
theorem dX12_write_112 : decode cX12_write 112 = .ok (.iload_n 2, 1) := by decide +kernel
theorem dX12_write_113 : decode cX12_write 113 = .ok (.aload_n 0, 1) := by decide +kernel
theorem dX12_write_114 : decode cX12_write 114 = .ok (.getfield 13, 3) := by decide +kernel
theorem dX12_write_117 : decode cX12_write 117 = .ok (.iload_n 1, 1) := by decide +kernel
theorem dX12_write_118 : decode cX12_write 118 = .ok (.iaload, 1) := by decide +kernel
theorem dX12_write_119 : decode cX12_write 119 = .ok (.iconst 1, 1) := by decide +kernel
theorem dX12_write_120 : decode cX12_write 120 = .ok (.iadd, 1) := by decide +kernel
theorem dX12_write_121 : decode cX12_write 121 = .ok (.aload_n 0, 1) := by decide +kernel
theorem dX12_write_122 : decode cX12_write 122 = .ok (.getfield 159, 3) := by decide +kernel
theorem dX12_write_125 : decode cX12_write 125 = .ok (.aload_n 0, 1) := by decide +kernel
theorem dX12_write_126 : decode cX12_write 126 = .ok (.getfield 47, 3) := by decide +kernel
theorem dX12_write_129 : decode cX12_write 129 = .ok (.aload_n 0, 1) := by decide +kernel
theorem dX12_write_130 : decode cX12_write 130 = .ok (.getfield 44, 3) := by decide +kernel
theorem dX12_write_133 : decode cX12_write 133 = .ok (.iload_n 1, 1) := by decide +kernel
theorem dX12_write_134 : decode cX12_write 134 = .ok (.iaload, 1) := by decide +kernel
theorem dX12_write_135 : decode cX12_write 135 = .ok (.iaload, 1) := by decide +kernel
theorem dX12_write_136 : decode cX12_write 136 = .ok (.invokevirtual 238, 3) := by decide +kernel
theorem dX12_write_139 : decode cX12_write 139 = .ok (.aload_n 0, 1) := by decide +kernel
theorem dX12_write_140 : decode cX12_write 140 = .ok (.getfield 77, 3) := by decide +kernel
theorem dX12_write_143 : decode cX12_write 143 = .ok (.iload_n 1, 1) := by decide +kernel
theorem dX12_write_144 : decode cX12_write 144 = .ok (.aload_n 0, 1) := by decide +kernel
theorem dX12_write_145 : decode cX12_write 145 = .ok (.getfield 71, 3) := by decide +kernel
theorem dX12_write_148 : decode cX12_write 148 = .ok (.iload_n 1, 1) := by decide +kernel
theorem dX12_write_149 : decode cX12_write 149 = .ok (.baload, 1) := by decide +kernel
theorem dX12_write_150 : decode cX12_write 150 = .ok (.ifCond .eq 12, 3) := by decide +kernel
theorem dX12_write_153 : decode cX12_write 153 = .ok (.aload_n 0, 1) := by decide +kernel
theorem dX12_write_154 : decode cX12_write 154 = .ok (.getfield 77, 3) := by decide +kernel
theorem dX12_write_157 : decode cX12_write 157 = .ok (.iload_n 1, 1) := by decide +kernel
theorem dX12_write_158 : decode cX12_write 158 = .ok (.iaload, 1) := by decide +kernel
theorem dX12_write_159 : decode cX12_write 159 = .ok (.goto 9, 3) := by decide +kernel
theorem dX12_write_162 : decode cX12_write 162 = .ok (.aload_n 0, 1) := by decide +kernel
theorem dX12_write_163 : decode cX12_write 163 = .ok (.getfield 159, 3) := by decide +kernel
theorem dX12_write_166 : decode cX12_write 166 = .ok (.iconst 3, 1) := by decide +kernel
theorem dX12_write_167 : decode cX12_write 167 = .ok (.iadd, 1) := by decide +kernel
theorem dX12_write_168 : decode cX12_write 168 = .ok (.iastore, 1) := by decide +kernel
theorem dX12_write_169 : decode cX12_write 169 = .ok (.aload_n 0, 1) := by decide +kernel
theorem dX12_write_170 : decode cX12_write 170 = .ok (.getfield 71, 3) := by decide +kernel
theorem dX12_write_173 : decode cX12_write 173 = .ok (.iload_n 1, 1) := by decide +kernel
theorem dX12_write_174 : decode cX12_write 174 = .ok (.iconst 1, 1) := by decide +kernel
theorem dX12_write_175 : decode cX12_write 175 = .ok (.bastore, 1) := by decide +kernel
theorem dX12_write_176 : decode cX12_write 176 = .ok (.aload_n 0, 1) := by decide +kernel
theorem dX12_write_177 : decode cX12_write 177 = .ok (.getfield 74, 3) := by decide +kernel
theorem dX12_write_180 : decode cX12_write 180 = .ok (.iload_n 1, 1) := by decide +kernel
theorem dX12_write_181 : decode cX12_write 181 = .ok (.iload_n 2, 1) := by decide +kernel
theorem dX12_write_182 : decode cX12_write 182 = .ok (.iastore, 1) := by decide +kernel
theorem dX12_write_183 : decode cX12_write 183 = .ok (.aload_n 0, 1) := by decide +kernel
theorem dX12_write_184 : decode cX12_write 184 = .ok (.iload_n 1, 1) := by decide +kernel
theorem dX12_write_185 : decode cX12_write 185 = .ok (.invokevirtual 242, 3) := by decide +kernel
theorem dX12_write_188 : decode cX12_write 188 = .ok (.aload_n 0, 1) := by decide +kernel
theorem dX12_write_189 : decode cX12_write 189 = .ok (.iload_n 1, 1) := by decide +kernel
theorem dX12_write_190 : decode cX12_write 190 = .ok (.invokevirtual 274, 3) := by decide +kernel
theorem dX12_write_193 : decode cX12_write 193 = .ok (.aload_n 0, 1) := by decide +kernel
theorem dX12_write_194 : decode cX12_write 194 = .ok (.getfield 13, 3) := by decide +kernel
theorem dX12_write_197 : decode cX12_write 197 = .ok (.iload_n 1, 1) := by decide +kernel
theorem dX12_write_198 : decode cX12_write 198 = .ok (.iaload, 1) := by decide +kernel
theorem dX12_write_199 : decode cX12_write 199 = .ok (.ireturn, 1) := by decide +kernel
theorem dX12_write_200 : decode cX12_write 200 = .ok (.aload_n 0, 1) := by decide +kernel
theorem dX12_write_201 : decode cX12_write 201 = .ok (.iload_n 1, 1) := by decide +kernel
theorem dX12_write_202 : decode cX12_write 202 = .ok (.iload_n 2, 1) := by decide +kernel
theorem dX12_write_203 : decode cX12_write 203 = .ok (.invokevirtual 162, 3) := by decide +kernel
theorem dX12_write_206 : decode cX12_write 206 = .ok (.iload_n 3, 1) := by decide +kernel
theorem dX12_write_207 : decode cX12_write 207 = .ok (.bipush 116, 2) := by decide +kernel
theorem dX12_write_209 : decode cX12_write 209 = .ok (.if_icmp .ne 80, 3) := by decide +kernel
theorem dX12_write_212 : decode cX12_write 212 = .ok (.aload_n 0, 1) := by decide +kernel
theorem dX12_write_213 : decode cX12_write 213 = .ok (.getfield 71, 3) := by decide +kernel
theorem dX12_write_216 : decode cX12_write 216 = .ok (.iload_n 1, 1) := by decide +kernel
theorem dX12_write_217 : decode cX12_write 217 = .ok (.iconst 0, 1) := by decide +kernel
theorem dX12_write_218 : decode cX12_write 218 = .ok (.bastore, 1) := by decide +kernel
theorem dX12_write_219 : decode cX12_write 219 = .ok (.aload_n 0, 1) := by decide +kernel
theorem dX12_write_220 : decode cX12_write 220 = .ok (.getfield 53, 3) := by decide +kernel
theorem dX12_write_223 : decode cX12_write 223 = .ok (.iload_n 1, 1) := by decide +kernel
theorem dX12_write_224 : decode cX12_write 224 = .ok (.baload, 1) := by decide +kernel
theorem dX12_write_225 : decode cX12_write 225 = .ok (.ifCond .eq 54, 3) := by decide +kernel
theorem dX12_write_228 : decode cX12_write 228 = .ok (.aload_n 0, 1) := by decide +kernel
theorem dX12_write_229 : decode cX12_write 229 = .ok (.getfield 56, 3) := by decide +kernel
theorem dX12_write_232 : decode cX12_write 232 = .ok (.iload_n 1, 1) := by decide +kernel
theorem dX12_write_233 : decode cX12_write 233 = .ok (.iload_n 2, 1) := by decide +kernel
theorem dX12_write_234 : decode cX12_write 234 = .ok (.iastore, 1) := by decide +kernel
theorem dX12_write_235 : decode cX12_write 235 = .ok (.aload_n 0, 1) := by decide +kernel
theorem dX12_write_236 : decode cX12_write 236 = .ok (.getfield 59, 3) := by decide +kernel
theorem dX12_write_239 : decode cX12_write 239 = .ok (.iload_n 1, 1) := by decide +kernel
theorem dX12_write_240 : decode cX12_write 240 = .ok (.aload_n 0, 1) := by decide +kernel
theorem dX12_write_241 : decode cX12_write 241 = .ok (.getfield 13, 3) := by decide +kernel
theorem dX12_write_244 : decode cX12_write 244 = .ok (.iload_n 1, 1) := by decide +kernel
theorem dX12_write_245 : decode cX12_write 245 = .ok (.iaload, 1) := by decide +kernel
theorem dX12_write_246 : decode cX12_write 246 = .ok (.iastore, 1) := by decide +kernel
theorem dX12_write_247 : decode cX12_write 247 = .ok (.aload_n 0, 1) := by decide +kernel
theorem dX12_write_248 : decode cX12_write 248 = .ok (.getfield 62, 3) := by decide +kernel
theorem dX12_write_251 : decode cX12_write 251 = .ok (.iload_n 1, 1) := by decide +kernel
theorem dX12_write_252 : decode cX12_write 252 = .ok (.aload_n 0, 1) := by decide +kernel
theorem dX12_write_253 : decode cX12_write 253 = .ok (.getfield 159, 3) := by decide +kernel
theorem dX12_write_256 : decode cX12_write 256 = .ok (.iastore, 1) := by decide +kernel
theorem dX12_write_257 : decode cX12_write 257 = .ok (.aload_n 0, 1) := by decide +kernel
theorem dX12_write_258 : decode cX12_write 258 = .ok (.getfield 65, 3) := by decide +kernel
theorem dX12_write_261 : decode cX12_write 261 = .ok (.iload_n 1, 1) := by decide +kernel
theorem dX12_write_262 : decode cX12_write 262 = .ok (.aload_n 0, 1) := by decide +kernel
theorem dX12_write_263 : decode cX12_write 263 = .ok (.getfield 47, 3) := by decide +kernel
theorem dX12_write_266 : decode cX12_write 266 = .ok (.aload_n 0, 1) := by decide +kernel
theorem dX12_write_267 : decode cX12_write 267 = .ok (.getfield 44, 3) := by decide +kernel
theorem dX12_write_270 : decode cX12_write 270 = .ok (.iload_n 1, 1) := by decide +kernel
theorem dX12_write_271 : decode cX12_write 271 = .ok (.iaload, 1) := by decide +kernel
theorem dX12_write_272 : decode cX12_write 272 = .ok (.iaload, 1) := by decide +kernel
theorem dX12_write_273 : decode cX12_write 273 = .ok (.iastore, 1) := by decide +kernel
theorem dX12_write_274 : decode cX12_write 274 = .ok (.aload_n 0, 1) := by decide +kernel
theorem dX12_write_275 : decode cX12_write 275 = .ok (.iload_n 1, 1) := by decide +kernel
theorem dX12_write_276 : decode cX12_write 276 = .ok (.invokevirtual 192, 3) := by decide +kernel
theorem dX12_write_279 : decode cX12_write 279 = .ok (.aload_n 0, 1) := by decide +kernel
theorem dX12_write_280 : decode cX12_write 280 = .ok (.iload_n 1, 1) := by decide +kernel
theorem dX12_write_281 : decode cX12_write 281 = .ok (.invokevirtual 242, 3) := by decide +kernel
theorem dX12_write_284 : decode cX12_write 284 = .ok (.aload_n 0, 1) := by decide +kernel
theorem dX12_write_285 : decode cX12_write 285 = .ok (.iload_n 1, 1) := by decide +kernel
theorem dX12_write_286 : decode cX12_write 286 = .ok (.invokevirtual 274, 3) := by decide +kernel
theorem dX12_write_289 : decode cX12_write 289 = .ok (.aload_n 0, 1) := by decide +kernel
theorem dX12_write_290 : decode cX12_write 290 = .ok (.getfield 13, 3) := by decide +kernel
theorem dX12_write_293 : decode cX12_write 293 = .ok (.iload_n 1, 1) := by decide +kernel
theorem dX12_write_294 : decode cX12_write 294 = .ok (.iaload, 1) := by decide +kernel
theorem dX12_write_295 : decode cX12_write 295 = .ok (.ireturn, 1) := by decide +kernel
set_option maxRecDepth 20000 in
theorem ggX12_drop_X12_isKey : GoodIn wsX12_drop wsX12_isKey := goodIn_r _ [9, 10, 11, 8, 12] (by decide +kernel) (by decide +kernel)
set_option maxRecDepth 20000 in
theorem gX12_drop_X12_isKey : GoodIn wsX12_drop (va_wsS RX12 197 yX12_isKey wsX12_isKey) := goodIn_app (goodIn_of _ (by decide +kernel)) ggX12_drop_X12_isKey
set_option maxRecDepth 20000 in
theorem ggX12_drop_X12_keepsPromise : GoodIn wsX12_drop wsX12_keepsPromise := goodIn_ca (goodIn_r _ [16, 17, 5, 3, 18, 19, 20, 21, 22, 23, 24, 8, 25, 26, 27, 28, 29, 30, 31, 32, 53, 54, 55, 56, 57, 58, 59, 60, 61, 62, 63, 64, 65, 66, 67, 68, 69, 70, 71, 72, 73, 74, 75, 76, 77, 78, 79, 80, 81, 82, 83, 84, 85, 86, 87, 88, 89, 90, 91, 92, 93, 94, 95, 96, 97, 98, 99, 100, 101, 102, 103, 104, 105, 106, 107] (by decide +kernel) (by decide +kernel)) (goodIn_sub (fun _ h => List.mem_cons_of_mem _ (List.mem_append_right _ h)) (by decide +kernel))
set_option maxRecDepth 20000 in
theorem gX12_drop_X12_keepsPromise : GoodIn wsX12_drop (wsV RX12 277 RX12 yX12_keepsPromise wsX12_keepsPromise) := goodIn_app (goodIn_of _ (by decide +kernel)) ggX12_drop_X12_keepsPromise
set_option maxRecDepth 20000 in
theorem ggX12_drop_X12_takesOut : GoodIn wsX12_drop wsX12_takesOut := goodIn_ca (goodIn_r _ [36, 4, 37, 38, 39, 40, 8, 41, 42, 43, 44, 45, 53, 54, 55, 56, 57, 58, 59, 60, 61, 62, 63, 64, 65, 66, 67, 68, 69, 70, 71, 72, 73, 74, 75, 76, 77, 78, 79, 80, 81, 82, 83, 84, 85, 86, 87, 88, 89, 90, 91, 92, 93, 94, 95, 96, 97, 98, 99, 100, 101, 102, 103, 104, 105, 106, 107] (by decide +kernel) (by decide +kernel)) (goodIn_sub (fun _ h => List.mem_cons_of_mem _ (List.mem_append_right _ h)) (by decide +kernel))
set_option maxRecDepth 20000 in
theorem gX12_drop_X12_takesOut : GoodIn wsX12_drop (wsV RX12 242 RX12 yX12_takesOut wsX12_takesOut) := goodIn_app (goodIn_of _ (by decide +kernel)) ggX12_drop_X12_takesOut
set_option maxRecDepth 20000 in
theorem ggX12_drop_X12_voids : GoodIn wsX12_drop wsX12_voids := goodIn_ca (goodIn_r _ [49, 50, 51, 52, 53, 54, 55, 56, 57, 58, 59, 60, 61, 62, 63, 64, 65, 66, 67, 68, 69, 70, 71, 72, 73, 74, 75, 76, 77, 78, 79, 80, 81, 82, 83, 84, 85, 86, 87, 88, 89, 90, 91, 92, 93, 94, 95, 96, 97, 98, 99, 100, 101, 102, 103, 104, 105, 106, 107] (by decide +kernel) (by decide +kernel)) (goodIn_sub (fun _ h => List.mem_cons_of_mem _ (List.mem_append_right _ h)) (by decide +kernel))
set_option maxRecDepth 20000 in
theorem gX12_drop_X12_voids : GoodIn wsX12_drop (wsV RX12 274 RX12 yX12_voids wsX12_voids) := goodIn_app (goodIn_of _ (by decide +kernel)) ggX12_drop_X12_voids
theorem dX12_drop_0 : decode cX12_drop 0 = .ok (.aload_n 0, 1) := by decide +kernel
theorem dX12_drop_1 : decode cX12_drop 1 = .ok (.iload_n 1, 1) := by decide +kernel
theorem dX12_drop_2 : decode cX12_drop 2 = .ok (.invokestatic 197, 3) := by decide +kernel
theorem dX12_drop_5 : decode cX12_drop 5 = .ok (.ifCond .ne 7, 3) := by decide +kernel
theorem dX12_drop_8 : decode cX12_drop 8 = .ok (.iconst 1, 1) := by decide +kernel
theorem dX12_drop_9 : decode cX12_drop 9 = .ok (.goto 15, 3) := by decide +kernel
theorem dX12_drop_12 : decode cX12_drop 12 = .ok (.aload_n 0, 1) := by decide +kernel
theorem dX12_drop_13 : decode cX12_drop 13 = .ok (.getfield 204, 3) := by decide +kernel
theorem dX12_drop_16 : decode cX12_drop 16 = .ok (.ifCond .eq 7, 3) := by decide +kernel
theorem dX12_drop_19 : decode cX12_drop 19 = .ok (.iconst 2, 1) := by decide +kernel
theorem dX12_drop_20 : decode cX12_drop 20 = .ok (.goto 4, 3) := by decide +kernel
theorem dX12_drop_23 : decode cX12_drop 23 = .ok (.iconst 0, 1) := by decide +kernel
theorem dX12_drop_24 : decode cX12_drop 24 = .ok (.putfield 129, 3) := by decide +kernel
theorem dX12_drop_27 : decode cX12_drop 27 = .ok (.aload_n 0, 1) := by decide +kernel
theorem dX12_drop_28 : decode cX12_drop 28 = .ok (.getfield 129, 3) := by decide +kernel
theorem dX12_drop_31 : decode cX12_drop 31 = .ok (.ifCond .le 5, 3) := by decide +kernel
theorem dX12_drop_34 : decode cX12_drop 34 = .ok (.iconst 0, 1) := by decide +kernel
theorem dX12_drop_35 : decode cX12_drop 35 = .ok (.ireturn, 1) := by decide +kernel
theorem dX12_drop_36 : decode cX12_drop 36 = .ok (.aload_n 0, 1) := by decide +kernel
theorem dX12_drop_37 : decode cX12_drop 37 = .ok (.getfield 53, 3) := by decide +kernel
theorem dX12_drop_40 : decode cX12_drop 40 = .ok (.iload_n 1, 1) := by decide +kernel
theorem dX12_drop_41 : decode cX12_drop 41 = .ok (.baload, 1) := by decide +kernel
theorem dX12_drop_42 : decode cX12_drop 42 = .ok (.ifCond .ne 13, 3) := by decide +kernel
theorem dX12_drop_45 : decode cX12_drop 45 = .ok (.aload_n 0, 1) := by decide +kernel
theorem dX12_drop_46 : decode cX12_drop 46 = .ok (.getfield 101, 3) := by decide +kernel
theorem dX12_drop_49 : decode cX12_drop 49 = .ok (.iload_n 1, 1) := by decide +kernel
theorem dX12_drop_50 : decode cX12_drop 50 = .ok (.iaload, 1) := by decide +kernel
theorem dX12_drop_51 : decode cX12_drop 51 = .ok (.iconst (-1), 1) := by decide +kernel
theorem dX12_drop_52 : decode cX12_drop 52 = .ok (.if_icmp .eq 7, 3) := by decide +kernel
theorem dX12_drop_55 : decode cX12_drop 55 = .ok (.iconst 1, 1) := by decide +kernel
theorem dX12_drop_56 : decode cX12_drop 56 = .ok (.goto 4, 3) := by decide +kernel
theorem dX12_drop_59 : decode cX12_drop 59 = .ok (.iconst 0, 1) := by decide +kernel
theorem dX12_drop_60 : decode cX12_drop 60 = .ok (.istore_n 2, 1) := by decide +kernel
theorem dX12_drop_61 : decode cX12_drop 61 = .ok (.aload_n 0, 1) := by decide +kernel
theorem dX12_drop_62 : decode cX12_drop 62 = .ok (.getfield 71, 3) := by decide +kernel
theorem dX12_drop_65 : decode cX12_drop 65 = .ok (.iload_n 1, 1) := by decide +kernel
theorem dX12_drop_66 : decode cX12_drop 66 = .ok (.baload, 1) := by decide +kernel
theorem dX12_drop_67 : decode cX12_drop 67 = .ok (.ifCond .eq 8, 3) := by decide +kernel
theorem dX12_drop_70 : decode cX12_drop 70 = .ok (.aload_n 0, 1) := by decide +kernel
theorem dX12_drop_71 : decode cX12_drop 71 = .ok (.iload_n 1, 1) := by decide +kernel
theorem dX12_drop_72 : decode cX12_drop 72 = .ok (.invokevirtual 277, 3) := by decide +kernel
theorem dX12_drop_75 : decode cX12_drop 75 = .ok (.aload_n 0, 1) := by decide +kernel
theorem dX12_drop_76 : decode cX12_drop 76 = .ok (.getfield 53, 3) := by decide +kernel
theorem dX12_drop_79 : decode cX12_drop 79 = .ok (.iload_n 1, 1) := by decide +kernel
theorem dX12_drop_80 : decode cX12_drop 80 = .ok (.iconst 0, 1) := by decide +kernel
theorem dX12_drop_81 : decode cX12_drop 81 = .ok (.bastore, 1) := by decide +kernel
theorem dX12_drop_82 : decode cX12_drop 82 = .ok (.aload_n 0, 1) := by decide +kernel
theorem dX12_drop_83 : decode cX12_drop 83 = .ok (.iload_n 1, 1) := by decide +kernel
theorem dX12_drop_84 : decode cX12_drop 84 = .ok (.invokevirtual 242, 3) := by decide +kernel
theorem dX12_drop_87 : decode cX12_drop 87 = .ok (.aload_n 0, 1) := by decide +kernel
theorem dX12_drop_88 : decode cX12_drop 88 = .ok (.iload_n 1, 1) := by decide +kernel
theorem dX12_drop_89 : decode cX12_drop 89 = .ok (.invokevirtual 274, 3) := by decide +kernel
theorem dX12_drop_92 : decode cX12_drop 92 = .ok (.iload_n 2, 1) := by decide +kernel
theorem dX12_drop_93 : decode cX12_drop 93 = .ok (.ireturn, 1) := by decide +kernel
set_option maxRecDepth 20000 in
theorem ggX12_bump_X12_in : GoodIn wsX12_bump wsX12_in := goodIn_r _ [8] (by decide +kernel) (by decide +kernel)
set_option maxRecDepth 20000 in
theorem gX12_bump_X12_in : GoodIn wsX12_bump (va_wsS RX12 133 yX12_in wsX12_in) := goodIn_app (goodIn_of _ (by decide +kernel)) ggX12_bump_X12_in
set_option maxRecDepth 20000 in
theorem ggX12_bump_X12_fails : GoodIn wsX12_bump wsX12_fails := goodIn_r _ [12, 1, 48, 49, 50, 51, 52, 53, 54, 55, 56, 57, 58, 59, 60, 61, 62, 63, 64, 65, 66, 67, 68, 69, 70, 71, 72, 73, 74, 75, 76, 77, 78, 79, 80, 81, 82, 83, 84, 85, 86, 87, 88, 89, 90, 91, 92, 93, 94, 95, 96, 97, 98, 99, 100, 101, 102] (by decide +kernel) (by decide +kernel)
set_option maxRecDepth 20000 in
theorem gX12_bump_X12_fails : GoodIn wsX12_bump (wsV RX12 201 RX12 yX12_fails wsX12_fails) := goodIn_app (goodIn_of _ (by decide +kernel)) ggX12_bump_X12_fails
set_option maxRecDepth 20000 in
theorem ggX12_bump_X12_nextTurn : GoodIn wsX12_bump wsX12_nextTurn := goodIn_ca (goodIn_r _ [16, 17, 4, 18, 19, 48, 49, 50, 51, 52, 53, 54, 55, 56, 57, 58, 59, 60, 61, 62, 63, 64, 65, 66, 67, 68, 69, 70, 71, 72, 73, 74, 75, 76, 77, 78, 79, 80, 81, 82, 83, 84, 85, 86, 87, 88, 89, 90, 91, 92, 93, 94, 95, 96, 97, 98, 99, 100, 101, 102] (by decide +kernel) (by decide +kernel)) (goodIn_sub (fun _ h => List.mem_cons_of_mem _ (List.mem_append_right _ h)) (by decide +kernel))
set_option maxRecDepth 20000 in
theorem gX12_bump_X12_nextTurn : GoodIn wsX12_bump (wsV RX12 280 RX12 yX12_nextTurn wsX12_nextTurn) := goodIn_app (goodIn_of _ (by decide +kernel)) ggX12_bump_X12_nextTurn
set_option maxRecDepth 20000 in
theorem ggX12_bump_X12_keepsPromise : GoodIn wsX12_bump wsX12_keepsPromise := goodIn_ca (goodIn_r _ [23, 24, 17, 25, 26, 27, 28, 29, 30, 31, 32, 7, 33, 34, 35, 36, 37, 38, 39, 40, 48, 49, 50, 51, 52, 53, 54, 55, 56, 57, 58, 59, 60, 61, 62, 63, 64, 65, 66, 67, 68, 69, 70, 71, 72, 73, 74, 75, 76, 77, 78, 79, 80, 81, 82, 83, 84, 85, 86, 87, 88, 89, 90, 91, 92, 93, 94, 95, 96, 97, 98, 99, 100, 101, 102] (by decide +kernel) (by decide +kernel)) (goodIn_sub (fun _ h => List.mem_cons_of_mem _ (List.mem_append_right _ h)) (by decide +kernel))
set_option maxRecDepth 20000 in
theorem gX12_bump_X12_keepsPromise : GoodIn wsX12_bump (wsV RX12 277 RX12 yX12_keepsPromise wsX12_keepsPromise) := goodIn_app (goodIn_of _ (by decide +kernel)) ggX12_bump_X12_keepsPromise
set_option maxRecDepth 20000 in
theorem ggX12_bump_X12_voids : GoodIn wsX12_bump wsX12_voids := goodIn_ca (goodIn_r _ [44, 45, 46, 47, 48, 49, 50, 51, 52, 53, 54, 55, 56, 57, 58, 59, 60, 61, 62, 63, 64, 65, 66, 67, 68, 69, 70, 71, 72, 73, 74, 75, 76, 77, 78, 79, 80, 81, 82, 83, 84, 85, 86, 87, 88, 89, 90, 91, 92, 93, 94, 95, 96, 97, 98, 99, 100, 101, 102] (by decide +kernel) (by decide +kernel)) (goodIn_sub (fun _ h => List.mem_cons_of_mem _ (List.mem_append_right _ h)) (by decide +kernel))
set_option maxRecDepth 20000 in
theorem gX12_bump_X12_voids : GoodIn wsX12_bump (wsV RX12 274 RX12 yX12_voids wsX12_voids) := goodIn_app (goodIn_of _ (by decide +kernel)) ggX12_bump_X12_voids
theorem dX12_bump_0 : decode cX12_bump 0 = .ok (.aload_n 0, 1) := by decide +kernel
theorem dX12_bump_1 : decode cX12_bump 1 = .ok (.iconst 0, 1) := by decide +kernel
theorem dX12_bump_2 : decode cX12_bump 2 = .ok (.putfield 129, 3) := by decide +kernel
theorem dX12_bump_5 : decode cX12_bump 5 = .ok (.iload_n 1, 1) := by decide +kernel
theorem dX12_bump_6 : decode cX12_bump 6 = .ok (.iconst 0, 1) := by decide +kernel
theorem dX12_bump_7 : decode cX12_bump 7 = .ok (.iconst 3, 1) := by decide +kernel
theorem dX12_bump_8 : decode cX12_bump 8 = .ok (.invokestatic 133, 3) := by decide +kernel
theorem dX12_bump_11 : decode cX12_bump 11 = .ok (.ifCond .ne 9, 3) := by decide +kernel
theorem dX12_bump_14 : decode cX12_bump 14 = .ok (.aload_n 0, 1) := by decide +kernel
theorem dX12_bump_15 : decode cX12_bump 15 = .ok (.iconst 1, 1) := by decide +kernel
theorem dX12_bump_16 : decode cX12_bump 16 = .ok (.invokevirtual 201, 3) := by decide +kernel
theorem dX12_bump_19 : decode cX12_bump 19 = .ok (.ireturn, 1) := by decide +kernel
theorem dX12_bump_20 : decode cX12_bump 20 = .ok (.aload_n 0, 1) := by decide +kernel
theorem dX12_bump_21 : decode cX12_bump 21 = .ok (.getfield 204, 3) := by decide +kernel
theorem dX12_bump_24 : decode cX12_bump 24 = .ok (.ifCond .eq 9, 3) := by decide +kernel
theorem dX12_bump_27 : decode cX12_bump 27 = .ok (.aload_n 0, 1) := by decide +kernel
theorem dX12_bump_28 : decode cX12_bump 28 = .ok (.iconst 2, 1) := by decide +kernel
theorem dX12_bump_29 : decode cX12_bump 29 = .ok (.invokevirtual 201, 3) := by decide +kernel
theorem dX12_bump_32 : decode cX12_bump 32 = .ok (.ireturn, 1) := by decide +kernel
theorem dX12_bump_33 : decode cX12_bump 33 = .ok (.aload_n 0, 1) := by decide +kernel
theorem dX12_bump_34 : decode cX12_bump 34 = .ok (.iload_n 1, 1) := by decide +kernel
theorem dX12_bump_35 : decode cX12_bump 35 = .ok (.invokevirtual 280, 3) := by decide +kernel
theorem dX12_bump_38 : decode cX12_bump 38 = .ok (.istore_n 2, 1) := by decide +kernel
theorem dX12_bump_39 : decode cX12_bump 39 = .ok (.iload_n 2, 1) := by decide +kernel
theorem dX12_bump_40 : decode cX12_bump 40 = .ok (.iconst (-1), 1) := by decide +kernel
theorem dX12_bump_41 : decode cX12_bump 41 = .ok (.if_icmp .eq 17, 3) := by decide +kernel
theorem dX12_bump_44 : decode cX12_bump 44 = .ok (.aload_n 0, 1) := by decide +kernel
theorem dX12_bump_45 : decode cX12_bump 45 = .ok (.iload_n 2, 1) := by decide +kernel
theorem dX12_bump_46 : decode cX12_bump 46 = .ok (.invokevirtual 277, 3) := by decide +kernel
theorem dX12_bump_49 : decode cX12_bump 49 = .ok (.aload_n 0, 1) := by decide +kernel
theorem dX12_bump_50 : decode cX12_bump 50 = .ok (.iload_n 1, 1) := by decide +kernel
theorem dX12_bump_51 : decode cX12_bump 51 = .ok (.invokevirtual 280, 3) := by decide +kernel
theorem dX12_bump_54 : decode cX12_bump 54 = .ok (.istore_n 2, 1) := by decide +kernel
theorem dX12_bump_55 : decode cX12_bump 55 = .ok (.goto (-16), 3) := by decide +kernel
theorem dX12_bump_58 : decode cX12_bump 58 = .ok (.aload_n 0, 1) := by decide +kernel
theorem dX12_bump_59 : decode cX12_bump 59 = .ok (.getfield 47, 3) := by decide +kernel
theorem dX12_bump_62 : decode cX12_bump 62 = .ok (.iload_n 1, 1) := by decide +kernel
theorem dX12_bump_63 : decode cX12_bump 63 = .ok (.dup2, 1) := by decide +kernel
theorem dX12_bump_64 : decode cX12_bump 64 = .ok (.iaload, 1) := by decide +kernel
theorem dX12_bump_65 : decode cX12_bump 65 = .ok (.iconst 1, 1) := by decide +kernel
theorem dX12_bump_66 : decode cX12_bump 66 = .ok (.iadd, 1) := by decide +kernel
theorem dX12_bump_67 : decode cX12_bump 67 = .ok (.iastore, 1) := by decide +kernel
theorem dX12_bump_68 : decode cX12_bump 68 = .ok (.iconst 0, 1) := by decide +kernel
theorem dX12_bump_69 : decode cX12_bump 69 = .ok (.istore_n 2, 1) := by decide +kernel
theorem dX12_bump_70 : decode cX12_bump 70 = .ok (.iload_n 2, 1) := by decide +kernel
theorem dX12_bump_71 : decode cX12_bump 71 = .ok (.bipush 32, 2) := by decide +kernel
theorem dX12_bump_73 : decode cX12_bump 73 = .ok (.if_icmp .ge 24, 3) := by decide +kernel
theorem dX12_bump_76 : decode cX12_bump 76 = .ok (.aload_n 0, 1) := by decide +kernel
theorem dX12_bump_77 : decode cX12_bump 77 = .ok (.getfield 44, 3) := by decide +kernel
theorem dX12_bump_80 : decode cX12_bump 80 = .ok (.iload_n 2, 1) := by decide +kernel
theorem dX12_bump_81 : decode cX12_bump 81 = .ok (.iaload, 1) := by decide +kernel
theorem dX12_bump_82 : decode cX12_bump 82 = .ok (.iload_n 1, 1) := by decide +kernel
theorem dX12_bump_83 : decode cX12_bump 83 = .ok (.if_icmp .ne 8, 3) := by decide +kernel
theorem dX12_bump_86 : decode cX12_bump 86 = .ok (.aload_n 0, 1) := by decide +kernel
theorem dX12_bump_87 : decode cX12_bump 87 = .ok (.iload_n 2, 1) := by decide +kernel
theorem dX12_bump_88 : decode cX12_bump 88 = .ok (.invokevirtual 274, 3) := by decide +kernel
theorem dX12_bump_91 : decode cX12_bump 91 = .ok (.iinc 2 1, 3) := by decide +kernel
theorem dX12_bump_94 : decode cX12_bump 94 = .ok (.goto (-24), 3) := by decide +kernel
theorem dX12_bump_97 : decode cX12_bump 97 = .ok (.aload_n 0, 1) := by decide +kernel
theorem dX12_bump_98 : decode cX12_bump 98 = .ok (.getfield 47, 3) := by decide +kernel
theorem dX12_bump_101 : decode cX12_bump 101 = .ok (.iload_n 1, 1) := by decide +kernel
theorem dX12_bump_102 : decode cX12_bump 102 = .ok (.iaload, 1) := by decide +kernel
theorem dX12_bump_103 : decode cX12_bump 103 = .ok (.ireturn, 1) := by decide +kernel
set_option maxRecDepth 20000 in
theorem ggX12_pass_X12_in : GoodIn wsX12_pass wsX12_in := goodIn_r _ [11] (by decide +kernel) (by decide +kernel)
set_option maxRecDepth 20000 in
theorem gX12_pass_X12_in : GoodIn wsX12_pass (va_wsS RX12 133 yX12_in wsX12_in) := goodIn_app (goodIn_of _ (by decide +kernel)) ggX12_pass_X12_in
set_option maxRecDepth 20000 in
theorem ggX12_pass_X12_fails : GoodIn wsX12_pass wsX12_fails := goodIn_r _ [15, 1, 43, 44, 45, 46, 47, 48, 49, 50, 51, 52, 53, 54, 55, 56, 57, 58, 59, 60, 61, 62, 63, 64, 65, 66, 67, 68, 69, 70, 71, 72, 73, 74, 75, 76, 77, 78, 79, 80, 81, 82, 83, 84, 85, 86, 87, 88, 89, 90, 91, 92, 93, 94, 95, 96, 97] (by decide +kernel) (by decide +kernel)
set_option maxRecDepth 20000 in
theorem gX12_pass_X12_fails : GoodIn wsX12_pass (wsV RX12 201 RX12 yX12_fails wsX12_fails) := goodIn_app (goodIn_of _ (by decide +kernel)) ggX12_pass_X12_fails
set_option maxRecDepth 20000 in
theorem ggX12_pass_X12_nextTurn : GoodIn wsX12_pass wsX12_nextTurn := goodIn_ca (goodIn_r _ [19, 20, 21, 7, 22, 43, 44, 45, 46, 47, 48, 49, 50, 51, 52, 53, 54, 55, 56, 57, 58, 59, 60, 61, 62, 63, 64, 65, 66, 67, 68, 69, 70, 71, 72, 73, 74, 75, 76, 77, 78, 79, 80, 81, 82, 83, 84, 85, 86, 87, 88, 89, 90, 91, 92, 93, 94, 95, 96, 97] (by decide +kernel) (by decide +kernel)) (goodIn_sub (fun _ h => List.mem_cons_of_mem _ (List.mem_append_right _ h)) (by decide +kernel))
set_option maxRecDepth 20000 in
theorem gX12_pass_X12_nextTurn : GoodIn wsX12_pass (wsV RX12 280 RX12 yX12_nextTurn wsX12_nextTurn) := goodIn_app (goodIn_of _ (by decide +kernel)) ggX12_pass_X12_nextTurn
set_option maxRecDepth 20000 in
theorem ggX12_pass_X12_keepsPromise : GoodIn wsX12_pass wsX12_keepsPromise := goodIn_ca (goodIn_r _ [26, 27, 20, 28, 29, 30, 31, 2, 32, 33, 34, 10, 35, 36, 37, 38, 39, 40, 41, 42, 43, 44, 45, 46, 47, 48, 49, 50, 51, 52, 53, 54, 55, 56, 57, 58, 59, 60, 61, 62, 63, 64, 65, 66, 67, 68, 69, 70, 71, 72, 73, 74, 75, 76, 77, 78, 79, 80, 81, 82, 83, 84, 85, 86, 87, 88, 89, 90, 91, 92, 93, 94, 95, 96, 97] (by decide +kernel) (by decide +kernel)) (goodIn_sub (fun _ h => List.mem_cons_of_mem _ (List.mem_append_right _ h)) (by decide +kernel))
set_option maxRecDepth 20000 in
theorem gX12_pass_X12_keepsPromise : GoodIn wsX12_pass (wsV RX12 277 RX12 yX12_keepsPromise wsX12_keepsPromise) := goodIn_app (goodIn_of _ (by decide +kernel)) ggX12_pass_X12_keepsPromise
theorem dX12_pass_0 : decode cX12_pass 0 = .ok (.aload_n 0, 1) := by decide +kernel
theorem dX12_pass_1 : decode cX12_pass 1 = .ok (.iconst 0, 1) := by decide +kernel
theorem dX12_pass_2 : decode cX12_pass 2 = .ok (.putfield 129, 3) := by decide +kernel
theorem dX12_pass_5 : decode cX12_pass 5 = .ok (.iload_n 1, 1) := by decide +kernel
theorem dX12_pass_6 : decode cX12_pass 6 = .ok (.iconst 1, 1) := by decide +kernel
theorem dX12_pass_7 : decode cX12_pass 7 = .ok (.bipush 60, 2) := by decide +kernel
theorem dX12_pass_9 : decode cX12_pass 9 = .ok (.invokestatic 133, 3) := by decide +kernel
theorem dX12_pass_12 : decode cX12_pass 12 = .ok (.ifCond .ne 9, 3) := by decide +kernel
theorem dX12_pass_15 : decode cX12_pass 15 = .ok (.aload_n 0, 1) := by decide +kernel
theorem dX12_pass_16 : decode cX12_pass 16 = .ok (.iconst 1, 1) := by decide +kernel
theorem dX12_pass_17 : decode cX12_pass 17 = .ok (.invokevirtual 201, 3) := by decide +kernel
theorem dX12_pass_20 : decode cX12_pass 20 = .ok (.ireturn, 1) := by decide +kernel
theorem dX12_pass_21 : decode cX12_pass 21 = .ok (.aload_n 0, 1) := by decide +kernel
theorem dX12_pass_22 : decode cX12_pass 22 = .ok (.getfield 159, 3) := by decide +kernel
theorem dX12_pass_25 : decode cX12_pass 25 = .ok (.iload_n 1, 1) := by decide +kernel
theorem dX12_pass_26 : decode cX12_pass 26 = .ok (.iadd, 1) := by decide +kernel
theorem dX12_pass_27 : decode cX12_pass 27 = .ok (.sipush 5000, 3) := by decide +kernel
theorem dX12_pass_30 : decode cX12_pass 30 = .ok (.if_icmp .le 9, 3) := by decide +kernel
theorem dX12_pass_33 : decode cX12_pass 33 = .ok (.aload_n 0, 1) := by decide +kernel
theorem dX12_pass_34 : decode cX12_pass 34 = .ok (.iconst 2, 1) := by decide +kernel
theorem dX12_pass_35 : decode cX12_pass 35 = .ok (.invokevirtual 201, 3) := by decide +kernel
theorem dX12_pass_38 : decode cX12_pass 38 = .ok (.ireturn, 1) := by decide +kernel
theorem dX12_pass_39 : decode cX12_pass 39 = .ok (.iconst 0, 1) := by decide +kernel
theorem dX12_pass_40 : decode cX12_pass 40 = .ok (.istore_n 2, 1) := by decide +kernel
theorem dX12_pass_41 : decode cX12_pass 41 = .ok (.iconst 0, 1) := by decide +kernel
theorem dX12_pass_42 : decode cX12_pass 42 = .ok (.istore_n 3, 1) := by decide +kernel
theorem dX12_pass_43 : decode cX12_pass 43 = .ok (.iload_n 3, 1) := by decide +kernel
theorem dX12_pass_44 : decode cX12_pass 44 = .ok (.iload_n 1, 1) := by decide +kernel
theorem dX12_pass_45 : decode cX12_pass 45 = .ok (.if_icmp .ge 165, 3) := by decide +kernel
theorem dX12_pass_48 : decode cX12_pass 48 = .ok (.aload_n 0, 1) := by decide +kernel
theorem dX12_pass_49 : decode cX12_pass 49 = .ok (.dup, 1) := by decide +kernel
theorem dX12_pass_50 : decode cX12_pass 50 = .ok (.getfield 159, 3) := by decide +kernel
theorem dX12_pass_53 : decode cX12_pass 53 = .ok (.iconst 1, 1) := by decide +kernel
theorem dX12_pass_54 : decode cX12_pass 54 = .ok (.iadd, 1) := by decide +kernel
theorem dX12_pass_55 : decode cX12_pass 55 = .ok (.putfield 159, 3) := by decide +kernel
theorem dX12_pass_58 : decode cX12_pass 58 = .ok (.iconst 0, 1) := by decide +kernel
theorem dX12_pass_59 : decode cX12_pass 59 = .ok (.istore 4, 2) := by decide +kernel
theorem dX12_pass_61 : decode cX12_pass 61 = .ok (.iload 4, 2) := by decide +kernel
theorem dX12_pass_63 : decode cX12_pass 63 = .ok (.aload_n 0, 1) := by decide +kernel
theorem dX12_pass_64 : decode cX12_pass 64 = .ok (.getfield 194, 3) := by decide +kernel
theorem dX12_pass_67 : decode cX12_pass 67 = .ok (.if_icmp .ge 80, 3) := by decide +kernel
theorem dX12_pass_70 : decode cX12_pass 70 = .ok (.aload_n 0, 1) := by decide +kernel
theorem dX12_pass_71 : decode cX12_pass 71 = .ok (.getfield 110, 3) := by decide +kernel
theorem dX12_pass_74 : decode cX12_pass 74 = .ok (.iload 4, 2) := by decide +kernel
theorem dX12_pass_76 : decode cX12_pass 76 = .ok (.caload, 1) := by decide +kernel
theorem dX12_pass_77 : decode cX12_pass 77 = .ok (.bipush 111, 2) := by decide +kernel
theorem dX12_pass_79 : decode cX12_pass 79 = .ok (.if_icmp .eq 15, 3) := by decide +kernel
theorem dX12_pass_82 : decode cX12_pass 82 = .ok (.aload_n 0, 1) := by decide +kernel
theorem dX12_pass_83 : decode cX12_pass 83 = .ok (.getfield 110, 3) := by decide +kernel
theorem dX12_pass_86 : decode cX12_pass 86 = .ok (.iload 4, 2) := by decide +kernel
theorem dX12_pass_88 : decode cX12_pass 88 = .ok (.caload, 1) := by decide +kernel
theorem dX12_pass_89 : decode cX12_pass 89 = .ok (.bipush 114, 2) := by decide +kernel
theorem dX12_pass_91 : decode cX12_pass 91 = .ok (.if_icmp .ne 7, 3) := by decide +kernel
theorem dX12_pass_94 : decode cX12_pass 94 = .ok (.iconst 1, 1) := by decide +kernel
theorem dX12_pass_95 : decode cX12_pass 95 = .ok (.goto 4, 3) := by decide +kernel
theorem dX12_pass_98 : decode cX12_pass 98 = .ok (.iconst 0, 1) := by decide +kernel
theorem dX12_pass_99 : decode cX12_pass 99 = .ok (.istore 5, 2) := by decide +kernel
theorem dX12_pass_101 : decode cX12_pass 101 = .ok (.aload_n 0, 1) := by decide +kernel
theorem dX12_pass_102 : decode cX12_pass 102 = .ok (.getfield 110, 3) := by decide +kernel
theorem dX12_pass_105 : decode cX12_pass 105 = .ok (.iload 4, 2) := by decide +kernel
theorem dX12_pass_107 : decode cX12_pass 107 = .ok (.iload 5, 2) := by decide +kernel
theorem dX12_pass_109 : decode cX12_pass 109 = .ok (.ifCond .eq 24, 3) := by decide +kernel
theorem dX12_pass_112 : decode cX12_pass 112 = .ok (.aload_n 0, 1) := by decide +kernel
theorem dX12_pass_113 : decode cX12_pass 113 = .ok (.getfield 159, 3) := by decide +kernel
theorem dX12_pass_116 : decode cX12_pass 116 = .ok (.aload_n 0, 1) := by decide +kernel
theorem dX12_pass_117 : decode cX12_pass 117 = .ok (.getfield 107, 3) := by decide +kernel
theorem dX12_pass_120 : decode cX12_pass 120 = .ok (.iload 4, 2) := by decide +kernel
theorem dX12_pass_122 : decode cX12_pass 122 = .ok (.iaload, 1) := by decide +kernel
theorem dX12_pass_123 : decode cX12_pass 123 = .ok (.isub, 1) := by decide +kernel
theorem dX12_pass_124 : decode cX12_pass 124 = .ok (.iconst 5, 1) := by decide +kernel
theorem dX12_pass_125 : decode cX12_pass 125 = .ok (.if_icmp .le 8, 3) := by decide +kernel
theorem dX12_pass_128 : decode cX12_pass 128 = .ok (.bipush 120, 2) := by decide +kernel
theorem dX12_pass_130 : decode cX12_pass 130 = .ok (.goto 10, 3) := by decide +kernel
theorem dX12_pass_133 : decode cX12_pass 133 = .ok (.aload_n 0, 1) := by decide +kernel
theorem dX12_pass_134 : decode cX12_pass 134 = .ok (.getfield 110, 3) := by decide +kernel
theorem dX12_pass_137 : decode cX12_pass 137 = .ok (.iload 4, 2) := by decide +kernel
theorem dX12_pass_139 : decode cX12_pass 139 = .ok (.caload, 1) := by decide +kernel
theorem dX12_pass_140 : decode cX12_pass 140 = .ok (.castore, 1) := by decide +kernel
theorem dX12_pass_141 : decode cX12_pass 141 = .ok (.iinc 4 1, 3) := by decide +kernel
theorem dX12_pass_144 : decode cX12_pass 144 = .ok (.goto (-83), 3) := by decide +kernel
theorem dX12_pass_147 : decode cX12_pass 147 = .ok (.aload_n 0, 1) := by decide +kernel
theorem dX12_pass_148 : decode cX12_pass 148 = .ok (.getfield 204, 3) := by decide +kernel
theorem dX12_pass_151 : decode cX12_pass 151 = .ok (.ifCond .eq 7, 3) := by decide +kernel
theorem dX12_pass_154 : decode cX12_pass 154 = .ok (.iconst (-1), 1) := by decide +kernel
theorem dX12_pass_155 : decode cX12_pass 155 = .ok (.goto 8, 3) := by decide +kernel
theorem dX12_pass_158 : decode cX12_pass 158 = .ok (.aload_n 0, 1) := by decide +kernel
theorem dX12_pass_159 : decode cX12_pass 159 = .ok (.iconst (-1), 1) := by decide +kernel
theorem dX12_pass_160 : decode cX12_pass 160 = .ok (.invokevirtual 280, 3) := by decide +kernel
theorem dX12_pass_163 : decode cX12_pass 163 = .ok (.istore 4, 2) := by decide +kernel
theorem dX12_pass_165 : decode cX12_pass 165 = .ok (.iload 4, 2) := by decide +kernel
theorem dX12_pass_167 : decode cX12_pass 167 = .ok (.iconst (-1), 1) := by decide +kernel
theorem dX12_pass_168 : decode cX12_pass 168 = .ok (.if_icmp .eq 36, 3) := by decide +kernel
theorem dX12_pass_171 : decode cX12_pass 171 = .ok (.aload_n 0, 1) := by decide +kernel
theorem dX12_pass_172 : decode cX12_pass 172 = .ok (.getfield 77, 3) := by decide +kernel
theorem dX12_pass_175 : decode cX12_pass 175 = .ok (.iload 4, 2) := by decide +kernel
theorem dX12_pass_177 : decode cX12_pass 177 = .ok (.iaload, 1) := by decide +kernel
theorem dX12_pass_178 : decode cX12_pass 178 = .ok (.aload_n 0, 1) := by decide +kernel
theorem dX12_pass_179 : decode cX12_pass 179 = .ok (.getfield 159, 3) := by decide +kernel
theorem dX12_pass_182 : decode cX12_pass 182 = .ok (.if_icmp .gt 22, 3) := by decide +kernel
theorem dX12_pass_185 : decode cX12_pass 185 = .ok (.aload_n 0, 1) := by decide +kernel
theorem dX12_pass_186 : decode cX12_pass 186 = .ok (.iload 4, 2) := by decide +kernel
theorem dX12_pass_188 : decode cX12_pass 188 = .ok (.invokevirtual 277, 3) := by decide +kernel
theorem dX12_pass_191 : decode cX12_pass 191 = .ok (.iinc 2 1, 3) := by decide +kernel
theorem dX12_pass_194 : decode cX12_pass 194 = .ok (.aload_n 0, 1) := by decide +kernel
theorem dX12_pass_195 : decode cX12_pass 195 = .ok (.iconst (-1), 1) := by decide +kernel
theorem dX12_pass_196 : decode cX12_pass 196 = .ok (.invokevirtual 280, 3) := by decide +kernel
theorem dX12_pass_199 : decode cX12_pass 199 = .ok (.istore 4, 2) := by decide +kernel
theorem dX12_pass_201 : decode cX12_pass 201 = .ok (.goto (-36), 3) := by decide +kernel
theorem dX12_pass_204 : decode cX12_pass 204 = .ok (.iinc 3 1, 3) := by decide +kernel
theorem dX12_pass_207 : decode cX12_pass 207 = .ok (.goto (-164), 3) := by decide +kernel
theorem dX12_pass_210 : decode cX12_pass 210 = .ok (.iload_n 2, 1) := by decide +kernel
theorem dX12_pass_211 : decode cX12_pass 211 = .ok (.ireturn, 1) := by decide +kernel
set_option maxRecDepth 20000 in
theorem ggX12_crash_X12_fails : GoodIn wsX12_crash wsX12_fails := goodIn_r _ [11, 1, 19, 20, 21, 22, 23, 24, 25, 26, 27, 28, 29, 30, 31, 32, 33, 34, 35, 36, 37, 38, 39, 40, 41, 42, 43, 44, 45, 46, 47, 48, 49, 50, 51, 52, 53, 54, 55, 56, 57, 58, 59, 60, 61, 62, 63, 64, 65, 66, 67, 68, 69, 70, 71, 72, 73] (by decide +kernel) (by decide +kernel)
set_option maxRecDepth 20000 in
theorem gX12_crash_X12_fails : GoodIn wsX12_crash (wsV RX12 201 RX12 yX12_fails wsX12_fails) := goodIn_app (goodIn_of _ (by decide +kernel)) ggX12_crash_X12_fails
set_option maxRecDepth 20000 in
theorem ggX12_crash_X12_voids : GoodIn wsX12_crash wsX12_voids := goodIn_ca (goodIn_r _ [15, 16, 17, 18, 19, 20, 21, 22, 23, 24, 25, 26, 27, 28, 29, 30, 31, 32, 33, 34, 35, 36, 37, 38, 39, 40, 41, 42, 43, 44, 45, 46, 47, 48, 49, 50, 51, 52, 53, 54, 55, 56, 57, 58, 59, 60, 61, 62, 63, 64, 65, 66, 67, 68, 69, 70, 71, 72, 73] (by decide +kernel) (by decide +kernel)) (goodIn_sub (fun _ h => List.mem_cons_of_mem _ (List.mem_append_right _ h)) (by decide +kernel))
set_option maxRecDepth 20000 in
theorem gX12_crash_X12_voids : GoodIn wsX12_crash (wsV RX12 274 RX12 yX12_voids wsX12_voids) := goodIn_app (goodIn_of _ (by decide +kernel)) ggX12_crash_X12_voids
theorem dX12_crash_0 : decode cX12_crash 0 = .ok (.aload_n 0, 1) := by decide +kernel
theorem dX12_crash_1 : decode cX12_crash 1 = .ok (.iconst 0, 1) := by decide +kernel
theorem dX12_crash_2 : decode cX12_crash 2 = .ok (.putfield 129, 3) := by decide +kernel
theorem dX12_crash_5 : decode cX12_crash 5 = .ok (.aload_n 0, 1) := by decide +kernel
theorem dX12_crash_6 : decode cX12_crash 6 = .ok (.getfield 204, 3) := by decide +kernel
theorem dX12_crash_9 : decode cX12_crash 9 = .ok (.ifCond .eq 9, 3) := by decide +kernel
theorem dX12_crash_12 : decode cX12_crash 12 = .ok (.aload_n 0, 1) := by decide +kernel
theorem dX12_crash_13 : decode cX12_crash 13 = .ok (.iconst 1, 1) := by decide +kernel
theorem dX12_crash_14 : decode cX12_crash 14 = .ok (.invokevirtual 201, 3) := by decide +kernel
theorem dX12_crash_17 : decode cX12_crash 17 = .ok (.ireturn, 1) := by decide +kernel
theorem dX12_crash_18 : decode cX12_crash 18 = .ok (.iconst 0, 1) := by decide +kernel
theorem dX12_crash_19 : decode cX12_crash 19 = .ok (.istore_n 1, 1) := by decide +kernel
theorem dX12_crash_20 : decode cX12_crash 20 = .ok (.aload_n 0, 1) := by decide +kernel
theorem dX12_crash_21 : decode cX12_crash 21 = .ok (.iconst 1, 1) := by decide +kernel
theorem dX12_crash_22 : decode cX12_crash 22 = .ok (.putfield 204, 3) := by decide +kernel
theorem dX12_crash_25 : decode cX12_crash 25 = .ok (.iconst 0, 1) := by decide +kernel
theorem dX12_crash_26 : decode cX12_crash 26 = .ok (.istore_n 2, 1) := by decide +kernel
theorem dX12_crash_27 : decode cX12_crash 27 = .ok (.iload_n 2, 1) := by decide +kernel
theorem dX12_crash_28 : decode cX12_crash 28 = .ok (.bipush 32, 2) := by decide +kernel
theorem dX12_crash_30 : decode cX12_crash 30 = .ok (.if_icmp .ge 45, 3) := by decide +kernel
theorem dX12_crash_33 : decode cX12_crash 33 = .ok (.iload_n 1, 1) := by decide +kernel
theorem dX12_crash_34 : decode cX12_crash 34 = .ok (.aload_n 0, 1) := by decide +kernel
theorem dX12_crash_35 : decode cX12_crash 35 = .ok (.getfield 53, 3) := by decide +kernel
theorem dX12_crash_38 : decode cX12_crash 38 = .ok (.iload_n 2, 1) := by decide +kernel
theorem dX12_crash_39 : decode cX12_crash 39 = .ok (.baload, 1) := by decide +kernel
theorem dX12_crash_40 : decode cX12_crash 40 = .ok (.ifCond .eq 7, 3) := by decide +kernel
theorem dX12_crash_43 : decode cX12_crash 43 = .ok (.iconst 1, 1) := by decide +kernel
theorem dX12_crash_44 : decode cX12_crash 44 = .ok (.goto 4, 3) := by decide +kernel
theorem dX12_crash_47 : decode cX12_crash 47 = .ok (.iconst 0, 1) := by decide +kernel
theorem dX12_crash_48 : decode cX12_crash 48 = .ok (.iadd, 1) := by decide +kernel
theorem dX12_crash_49 : decode cX12_crash 49 = .ok (.istore_n 1, 1) := by decide +kernel
theorem dX12_crash_50 : decode cX12_crash 50 = .ok (.aload_n 0, 1) := by decide +kernel
theorem dX12_crash_51 : decode cX12_crash 51 = .ok (.getfield 53, 3) := by decide +kernel
theorem dX12_crash_54 : decode cX12_crash 54 = .ok (.iload_n 2, 1) := by decide +kernel
theorem dX12_crash_55 : decode cX12_crash 55 = .ok (.iconst 0, 1) := by decide +kernel
theorem dX12_crash_56 : decode cX12_crash 56 = .ok (.bastore, 1) := by decide +kernel
theorem dX12_crash_57 : decode cX12_crash 57 = .ok (.aload_n 0, 1) := by decide +kernel
theorem dX12_crash_58 : decode cX12_crash 58 = .ok (.getfield 101, 3) := by decide +kernel
theorem dX12_crash_61 : decode cX12_crash 61 = .ok (.iload_n 2, 1) := by decide +kernel
theorem dX12_crash_62 : decode cX12_crash 62 = .ok (.iconst (-1), 1) := by decide +kernel
theorem dX12_crash_63 : decode cX12_crash 63 = .ok (.iastore, 1) := by decide +kernel
theorem dX12_crash_64 : decode cX12_crash 64 = .ok (.aload_n 0, 1) := by decide +kernel
theorem dX12_crash_65 : decode cX12_crash 65 = .ok (.iload_n 2, 1) := by decide +kernel
theorem dX12_crash_66 : decode cX12_crash 66 = .ok (.invokevirtual 274, 3) := by decide +kernel
theorem dX12_crash_69 : decode cX12_crash 69 = .ok (.iinc 2 1, 3) := by decide +kernel
theorem dX12_crash_72 : decode cX12_crash 72 = .ok (.goto (-45), 3) := by decide +kernel
theorem dX12_crash_75 : decode cX12_crash 75 = .ok (.iconst 0, 1) := by decide +kernel
theorem dX12_crash_76 : decode cX12_crash 76 = .ok (.istore_n 2, 1) := by decide +kernel
theorem dX12_crash_77 : decode cX12_crash 77 = .ok (.iload_n 2, 1) := by decide +kernel
theorem dX12_crash_78 : decode cX12_crash 78 = .ok (.bipush 64, 2) := by decide +kernel
theorem dX12_crash_80 : decode cX12_crash 80 = .ok (.if_icmp .ge 16, 3) := by decide +kernel
theorem dX12_crash_83 : decode cX12_crash 83 = .ok (.aload_n 0, 1) := by decide +kernel
theorem dX12_crash_84 : decode cX12_crash 84 = .ok (.getfield 50, 3) := by decide +kernel
theorem dX12_crash_87 : decode cX12_crash 87 = .ok (.iload_n 2, 1) := by decide +kernel
theorem dX12_crash_88 : decode cX12_crash 88 = .ok (.iconst 0, 1) := by decide +kernel
theorem dX12_crash_89 : decode cX12_crash 89 = .ok (.iastore, 1) := by decide +kernel
theorem dX12_crash_90 : decode cX12_crash 90 = .ok (.iinc 2 1, 3) := by decide +kernel
theorem dX12_crash_93 : decode cX12_crash 93 = .ok (.goto (-16), 3) := by decide +kernel
theorem dX12_crash_96 : decode cX12_crash 96 = .ok (.aload_n 0, 1) := by decide +kernel
theorem dX12_crash_97 : decode cX12_crash 97 = .ok (.iconst 0, 1) := by decide +kernel
theorem dX12_crash_98 : decode cX12_crash 98 = .ok (.putfield 153, 3) := by decide +kernel
theorem dX12_crash_101 : decode cX12_crash 101 = .ok (.iload_n 1, 1) := by decide +kernel
theorem dX12_crash_102 : decode cX12_crash 102 = .ok (.ireturn, 1) := by decide +kernel
theorem dX12_nextBack_0 : decode cX12_nextBack 0 = .ok (.iconst (-1), 1) := by decide +kernel
theorem dX12_nextBack_1 : decode cX12_nextBack 1 = .ok (.istore_n 1, 1) := by decide +kernel
theorem dX12_nextBack_2 : decode cX12_nextBack 2 = .ok (.iconst 0, 1) := by decide +kernel
theorem dX12_nextBack_3 : decode cX12_nextBack 3 = .ok (.istore_n 2, 1) := by decide +kernel
theorem dX12_nextBack_4 : decode cX12_nextBack 4 = .ok (.iload_n 2, 1) := by decide +kernel
theorem dX12_nextBack_5 : decode cX12_nextBack 5 = .ok (.bipush 32, 2) := by decide +kernel
theorem dX12_nextBack_7 : decode cX12_nextBack 7 = .ok (.if_icmp .ge 121, 3) := by decide +kernel
theorem dX12_nextBack_10 : decode cX12_nextBack 10 = .ok (.aload_n 0, 1) := by decide +kernel
theorem dX12_nextBack_11 : decode cX12_nextBack 11 = .ok (.getfield 101, 3) := by decide +kernel
theorem dX12_nextBack_14 : decode cX12_nextBack 14 = .ok (.iload_n 2, 1) := by decide +kernel
theorem dX12_nextBack_15 : decode cX12_nextBack 15 = .ok (.iaload, 1) := by decide +kernel
theorem dX12_nextBack_16 : decode cX12_nextBack 16 = .ok (.iconst (-1), 1) := by decide +kernel
theorem dX12_nextBack_17 : decode cX12_nextBack 17 = .ok (.if_icmp .eq 105, 3) := by decide +kernel
theorem dX12_nextBack_20 : decode cX12_nextBack 20 = .ok (.aload_n 0, 1) := by decide +kernel
theorem dX12_nextBack_21 : decode cX12_nextBack 21 = .ok (.getfield 126, 3) := by decide +kernel
theorem dX12_nextBack_24 : decode cX12_nextBack 24 = .ok (.iload_n 2, 1) := by decide +kernel
theorem dX12_nextBack_25 : decode cX12_nextBack 25 = .ok (.baload, 1) := by decide +kernel
theorem dX12_nextBack_26 : decode cX12_nextBack 26 = .ok (.ifCond .ne 96, 3) := by decide +kernel
theorem dX12_nextBack_29 : decode cX12_nextBack 29 = .ok (.aload_n 0, 1) := by decide +kernel
theorem dX12_nextBack_30 : decode cX12_nextBack 30 = .ok (.getfield 101, 3) := by decide +kernel
theorem dX12_nextBack_33 : decode cX12_nextBack 33 = .ok (.iload_n 2, 1) := by decide +kernel
theorem dX12_nextBack_34 : decode cX12_nextBack 34 = .ok (.iaload, 1) := by decide +kernel
theorem dX12_nextBack_35 : decode cX12_nextBack 35 = .ok (.istore_n 3, 1) := by decide +kernel
theorem dX12_nextBack_36 : decode cX12_nextBack 36 = .ok (.iload_n 1, 1) := by decide +kernel
theorem dX12_nextBack_37 : decode cX12_nextBack 37 = .ok (.iconst (-1), 1) := by decide +kernel
theorem dX12_nextBack_38 : decode cX12_nextBack 38 = .ok (.if_icmp .ne 7, 3) := by decide +kernel
theorem dX12_nextBack_41 : decode cX12_nextBack 41 = .ok (.iconst 0, 1) := by decide +kernel
theorem dX12_nextBack_42 : decode cX12_nextBack 42 = .ok (.goto 9, 3) := by decide +kernel
theorem dX12_nextBack_45 : decode cX12_nextBack 45 = .ok (.aload_n 0, 1) := by decide +kernel
theorem dX12_nextBack_46 : decode cX12_nextBack 46 = .ok (.getfield 101, 3) := by decide +kernel
theorem dX12_nextBack_49 : decode cX12_nextBack 49 = .ok (.iload_n 1, 1) := by decide +kernel
theorem dX12_nextBack_50 : decode cX12_nextBack 50 = .ok (.iaload, 1) := by decide +kernel
theorem dX12_nextBack_51 : decode cX12_nextBack 51 = .ok (.istore 4, 2) := by decide +kernel
theorem dX12_nextBack_53 : decode cX12_nextBack 53 = .ok (.iload_n 1, 1) := by decide +kernel
theorem dX12_nextBack_54 : decode cX12_nextBack 54 = .ok (.iconst (-1), 1) := by decide +kernel
theorem dX12_nextBack_55 : decode cX12_nextBack 55 = .ok (.if_icmp .eq 49, 3) := by decide +kernel
theorem dX12_nextBack_58 : decode cX12_nextBack 58 = .ok (.aload_n 0, 1) := by decide +kernel
theorem dX12_nextBack_59 : decode cX12_nextBack 59 = .ok (.getfield 41, 3) := by decide +kernel
theorem dX12_nextBack_62 : decode cX12_nextBack 62 = .ok (.iload_n 2, 1) := by decide +kernel
theorem dX12_nextBack_63 : decode cX12_nextBack 63 = .ok (.iaload, 1) := by decide +kernel
theorem dX12_nextBack_64 : decode cX12_nextBack 64 = .ok (.aload_n 0, 1) := by decide +kernel
theorem dX12_nextBack_65 : decode cX12_nextBack 65 = .ok (.getfield 41, 3) := by decide +kernel
theorem dX12_nextBack_68 : decode cX12_nextBack 68 = .ok (.iload_n 1, 1) := by decide +kernel
theorem dX12_nextBack_69 : decode cX12_nextBack 69 = .ok (.iaload, 1) := by decide +kernel
theorem dX12_nextBack_70 : decode cX12_nextBack 70 = .ok (.if_icmp .gt 34, 3) := by decide +kernel
theorem dX12_nextBack_73 : decode cX12_nextBack 73 = .ok (.aload_n 0, 1) := by decide +kernel
theorem dX12_nextBack_74 : decode cX12_nextBack 74 = .ok (.getfield 41, 3) := by decide +kernel
theorem dX12_nextBack_77 : decode cX12_nextBack 77 = .ok (.iload_n 2, 1) := by decide +kernel
theorem dX12_nextBack_78 : decode cX12_nextBack 78 = .ok (.iaload, 1) := by decide +kernel
theorem dX12_nextBack_79 : decode cX12_nextBack 79 = .ok (.aload_n 0, 1) := by decide +kernel
theorem dX12_nextBack_80 : decode cX12_nextBack 80 = .ok (.getfield 41, 3) := by decide +kernel
theorem dX12_nextBack_83 : decode cX12_nextBack 83 = .ok (.iload_n 1, 1) := by decide +kernel
theorem dX12_nextBack_84 : decode cX12_nextBack 84 = .ok (.iaload, 1) := by decide +kernel
theorem dX12_nextBack_85 : decode cX12_nextBack 85 = .ok (.if_icmp .ne 23, 3) := by decide +kernel
theorem dX12_nextBack_88 : decode cX12_nextBack 88 = .ok (.aload_n 0, 1) := by decide +kernel
theorem dX12_nextBack_89 : decode cX12_nextBack 89 = .ok (.getfield 89, 3) := by decide +kernel
theorem dX12_nextBack_92 : decode cX12_nextBack 92 = .ok (.iload_n 3, 1) := by decide +kernel
theorem dX12_nextBack_93 : decode cX12_nextBack 93 = .ok (.iaload, 1) := by decide +kernel
theorem dX12_nextBack_94 : decode cX12_nextBack 94 = .ok (.aload_n 0, 1) := by decide +kernel
theorem dX12_nextBack_95 : decode cX12_nextBack 95 = .ok (.getfield 89, 3) := by decide +kernel
theorem dX12_nextBack_98 : decode cX12_nextBack 98 = .ok (.iload 4, 2) := by decide +kernel
theorem dX12_nextBack_100 : decode cX12_nextBack 100 = .ok (.iaload, 1) := by decide +kernel
theorem dX12_nextBack_101 : decode cX12_nextBack 101 = .ok (.if_icmp .le 7, 3) := by decide +kernel
theorem dX12_nextBack_104 : decode cX12_nextBack 104 = .ok (.iconst 1, 1) := by decide +kernel
theorem dX12_nextBack_105 : decode cX12_nextBack 105 = .ok (.goto 4, 3) := by decide +kernel
theorem dX12_nextBack_108 : decode cX12_nextBack 108 = .ok (.iconst 0, 1) := by decide +kernel
theorem dX12_nextBack_109 : decode cX12_nextBack 109 = .ok (.istore 5, 2) := by decide +kernel
theorem dX12_nextBack_111 : decode cX12_nextBack 111 = .ok (.iload 5, 2) := by decide +kernel
theorem dX12_nextBack_113 : decode cX12_nextBack 113 = .ok (.ifCond .eq 7, 3) := by decide +kernel
theorem dX12_nextBack_116 : decode cX12_nextBack 116 = .ok (.iload_n 2, 1) := by decide +kernel
theorem dX12_nextBack_117 : decode cX12_nextBack 117 = .ok (.goto 4, 3) := by decide +kernel
theorem dX12_nextBack_120 : decode cX12_nextBack 120 = .ok (.iload_n 1, 1) := by decide +kernel
theorem dX12_nextBack_121 : decode cX12_nextBack 121 = .ok (.istore_n 1, 1) := by decide +kernel
theorem dX12_nextBack_122 : decode cX12_nextBack 122 = .ok (.iinc 2 1, 3) := by decide +kernel
theorem dX12_nextBack_125 : decode cX12_nextBack 125 = .ok (.goto (-121), 3) := by decide +kernel
theorem dX12_nextBack_128 : decode cX12_nextBack 128 = .ok (.iload_n 1, 1) := by decide +kernel
theorem dX12_nextBack_129 : decode cX12_nextBack 129 = .ok (.ireturn, 1) := by decide +kernel
set_option maxRecDepth 20000 in
theorem ggX12_recover_X12_fails : GoodIn wsX12_recover wsX12_fails := goodIn_r _ [19, 1, 68, 69, 70, 71, 72, 73, 74, 75, 76, 77, 78, 79, 80, 81, 82, 83, 84, 85, 86, 87, 88, 89, 90, 91, 92, 93, 94, 95, 96, 97, 98, 99, 100, 101, 102, 103, 104, 105, 106, 107, 108, 109, 110, 111, 112, 113, 114, 115, 116, 117, 118, 119, 120, 121, 122] (by decide +kernel) (by decide +kernel)
set_option maxRecDepth 20000 in
theorem gX12_recover_X12_fails : GoodIn wsX12_recover (wsV RX12 201 RX12 yX12_fails wsX12_fails) := goodIn_app (goodIn_of _ (by decide +kernel)) ggX12_recover_X12_fails
set_option maxRecDepth 20000 in
theorem ggX12_recover_X12_nextTurn : GoodIn wsX12_recover wsX12_nextTurn := goodIn_ca (goodIn_r _ [23, 24, 8, 25, 26, 68, 69, 70, 71, 72, 73, 74, 75, 76, 77, 78, 79, 80, 81, 82, 83, 84, 85, 86, 87, 88, 89, 90, 91, 92, 93, 94, 95, 96, 97, 98, 99, 100, 101, 102, 103, 104, 105, 106, 107, 108, 109, 110, 111, 112, 113, 114, 115, 116, 117, 118, 119, 120, 121, 122] (by decide +kernel) (by decide +kernel)) (goodIn_sub (fun _ h => List.mem_cons_of_mem _ (List.mem_append_right _ h)) (by decide +kernel))
set_option maxRecDepth 20000 in
theorem gX12_recover_X12_nextTurn : GoodIn wsX12_recover (wsV RX12 280 RX12 yX12_nextTurn wsX12_nextTurn) := goodIn_app (goodIn_of _ (by decide +kernel)) ggX12_recover_X12_nextTurn
set_option maxRecDepth 20000 in
theorem ggX12_recover_X12_keepsPromise : GoodIn wsX12_recover wsX12_keepsPromise := goodIn_ca (goodIn_r _ [30, 31, 24, 32, 33, 34, 35, 36, 37, 38, 39, 18, 40, 41, 42, 43, 44, 45, 46, 47, 68, 69, 70, 71, 72, 73, 74, 75, 76, 77, 78, 79, 80, 81, 82, 83, 84, 85, 86, 87, 88, 89, 90, 91, 92, 93, 94, 95, 96, 97, 98, 99, 100, 101, 102, 103, 104, 105, 106, 107, 108, 109, 110, 111, 112, 113, 114, 115, 116, 117, 118, 119, 120, 121, 122] (by decide +kernel) (by decide +kernel)) (goodIn_sub (fun _ h => List.mem_cons_of_mem _ (List.mem_append_right _ h)) (by decide +kernel))
set_option maxRecDepth 20000 in
theorem gX12_recover_X12_keepsPromise : GoodIn wsX12_recover (wsV RX12 277 RX12 yX12_keepsPromise wsX12_keepsPromise) := goodIn_app (goodIn_of _ (by decide +kernel)) ggX12_recover_X12_keepsPromise
set_option maxRecDepth 20000 in
theorem ggX12_recover_X12_nextBack : GoodIn wsX12_recover wsX12_nextBack := goodIn_ca (goodIn_r _ [51, 9, 10, 26, 14, 68, 69, 70, 71, 72, 73, 74, 75, 76, 77, 78, 79, 80, 81, 82, 83, 84, 85, 86, 87, 88, 89, 90, 91, 92, 93, 94, 95, 96, 97, 98, 99, 100, 101, 102, 103, 104, 105, 106, 107, 108, 109, 110, 111, 112, 113, 114, 115, 116, 117, 118, 119, 120, 121, 122] (by decide +kernel) (by decide +kernel)) (goodIn_sub (fun _ h => List.mem_cons_of_mem _ (List.mem_append_right _ h)) (by decide +kernel))
set_option maxRecDepth 20000 in
theorem gX12_recover_X12_nextBack : GoodIn wsX12_recover (wsV RX12 283 RX12 yX12_nextBack wsX12_nextBack) := goodIn_app (goodIn_of _ (by decide +kernel)) ggX12_recover_X12_nextBack
set_option maxRecDepth 20000 in
theorem ggX12_recover_X12_usedNow : GoodIn wsX12_recover wsX12_usedNow := goodIn_ca (goodIn_r _ [55, 32, 11, 68, 69, 70, 71, 72, 73, 74, 75, 76, 77, 78, 79, 80, 81, 82, 83, 84, 85, 86, 87, 88, 89, 90, 91, 92, 93, 94, 95, 96, 97, 98, 99, 100, 101, 102, 103, 104, 105, 106, 107, 108, 109, 110, 111, 112, 113, 114, 115, 116, 117, 118, 119, 120, 121, 122] (by decide +kernel) (by decide +kernel)) (goodIn_sub (fun _ h => List.mem_cons_of_mem _ (List.mem_append_right _ h)) (by decide +kernel))
set_option maxRecDepth 20000 in
theorem gX12_recover_X12_usedNow : GoodIn wsX12_recover (wsV RX12 182 RX12 yX12_usedNow wsX12_usedNow) := goodIn_app (goodIn_of _ (by decide +kernel)) ggX12_recover_X12_usedNow
set_option maxRecDepth 20000 in
theorem ggX12_recover_X12_comes : GoodIn wsX12_recover wsX12_comes := goodIn_ca (goodIn_r _ [59, 32, 60, 33, 35, 61, 62, 63, 64, 18, 65, 66, 67, 68, 69, 70, 71, 72, 73, 74, 75, 76, 77, 78, 79, 80, 81, 82, 83, 84, 85, 86, 87, 88, 89, 90, 91, 92, 93, 94, 95, 96, 97, 98, 99, 100, 101, 102, 103, 104, 105, 106, 107, 108, 109, 110, 111, 112, 113, 114, 115, 116, 117, 118, 119, 120, 121, 122] (by decide +kernel) (by decide +kernel)) (goodIn_sub (fun _ h => List.mem_cons_of_mem _ (List.mem_append_right _ h)) (by decide +kernel))
set_option maxRecDepth 20000 in
theorem gX12_recover_X12_comes : GoodIn wsX12_recover (wsV RX12 238 RX12 yX12_comes wsX12_comes) := goodIn_app (goodIn_of _ (by decide +kernel)) ggX12_recover_X12_comes
theorem dX12_recover_0 : decode cX12_recover 0 = .ok (.aload_n 0, 1) := by decide +kernel
theorem dX12_recover_1 : decode cX12_recover 1 = .ok (.iconst 0, 1) := by decide +kernel
theorem dX12_recover_2 : decode cX12_recover 2 = .ok (.putfield 129, 3) := by decide +kernel
theorem dX12_recover_5 : decode cX12_recover 5 = .ok (.aload_n 0, 1) := by decide +kernel
theorem dX12_recover_6 : decode cX12_recover 6 = .ok (.getfield 204, 3) := by decide +kernel
theorem dX12_recover_9 : decode cX12_recover 9 = .ok (.ifCond .ne 9, 3) := by decide +kernel
theorem dX12_recover_12 : decode cX12_recover 12 = .ok (.aload_n 0, 1) := by decide +kernel
theorem dX12_recover_13 : decode cX12_recover 13 = .ok (.iconst 1, 1) := by decide +kernel
theorem dX12_recover_14 : decode cX12_recover 14 = .ok (.invokevirtual 201, 3) := by decide +kernel
theorem dX12_recover_17 : decode cX12_recover 17 = .ok (.ireturn, 1) := by decide +kernel
theorem dX12_recover_18 : decode cX12_recover 18 = .ok (.aload_n 0, 1) := by decide +kernel
theorem dX12_recover_19 : decode cX12_recover 19 = .ok (.iconst (-1), 1) := by decide +kernel
theorem dX12_recover_20 : decode cX12_recover 20 = .ok (.invokevirtual 280, 3) := by decide +kernel
theorem dX12_recover_23 : decode cX12_recover 23 = .ok (.istore_n 1, 1) := by decide +kernel
theorem dX12_recover_24 : decode cX12_recover 24 = .ok (.iload_n 1, 1) := by decide +kernel
theorem dX12_recover_25 : decode cX12_recover 25 = .ok (.iconst (-1), 1) := by decide +kernel
theorem dX12_recover_26 : decode cX12_recover 26 = .ok (.if_icmp .eq 17, 3) := by decide +kernel
theorem dX12_recover_29 : decode cX12_recover 29 = .ok (.aload_n 0, 1) := by decide +kernel
theorem dX12_recover_30 : decode cX12_recover 30 = .ok (.iload_n 1, 1) := by decide +kernel
theorem dX12_recover_31 : decode cX12_recover 31 = .ok (.invokevirtual 277, 3) := by decide +kernel
theorem dX12_recover_34 : decode cX12_recover 34 = .ok (.aload_n 0, 1) := by decide +kernel
theorem dX12_recover_35 : decode cX12_recover 35 = .ok (.iconst (-1), 1) := by decide +kernel
theorem dX12_recover_36 : decode cX12_recover 36 = .ok (.invokevirtual 280, 3) := by decide +kernel
theorem dX12_recover_39 : decode cX12_recover 39 = .ok (.istore_n 1, 1) := by decide +kernel
theorem dX12_recover_40 : decode cX12_recover 40 = .ok (.goto (-16), 3) := by decide +kernel
theorem dX12_recover_43 : decode cX12_recover 43 = .ok (.iconst 1, 1) := by decide +kernel
theorem dX12_recover_44 : decode cX12_recover 44 = .ok (.istore_n 1, 1) := by decide +kernel
theorem dX12_recover_45 : decode cX12_recover 45 = .ok (.iload_n 1, 1) := by decide +kernel
theorem dX12_recover_46 : decode cX12_recover 46 = .ok (.aload_n 0, 1) := by decide +kernel
theorem dX12_recover_47 : decode cX12_recover 47 = .ok (.getfield 169, 3) := by decide +kernel
theorem dX12_recover_50 : decode cX12_recover 50 = .ok (.if_icmp .gt 133, 3) := by decide +kernel
theorem dX12_recover_53 : decode cX12_recover 53 = .ok (.iconst 0, 1) := by decide +kernel
theorem dX12_recover_54 : decode cX12_recover 54 = .ok (.istore_n 2, 1) := by decide +kernel
theorem dX12_recover_55 : decode cX12_recover 55 = .ok (.iload_n 2, 1) := by decide +kernel
theorem dX12_recover_56 : decode cX12_recover 56 = .ok (.bipush 16, 2) := by decide +kernel
theorem dX12_recover_58 : decode cX12_recover 58 = .ok (.if_icmp .ge 119, 3) := by decide +kernel
theorem dX12_recover_61 : decode cX12_recover 61 = .ok (.aload_n 0, 1) := by decide +kernel
theorem dX12_recover_62 : decode cX12_recover 62 = .ok (.getfield 80, 3) := by decide +kernel
theorem dX12_recover_65 : decode cX12_recover 65 = .ok (.iload_n 2, 1) := by decide +kernel
theorem dX12_recover_66 : decode cX12_recover 66 = .ok (.iaload, 1) := by decide +kernel
theorem dX12_recover_67 : decode cX12_recover 67 = .ok (.iconst (-1), 1) := by decide +kernel
theorem dX12_recover_68 : decode cX12_recover 68 = .ok (.if_icmp .eq 103, 3) := by decide +kernel
theorem dX12_recover_71 : decode cX12_recover 71 = .ok (.aload_n 0, 1) := by decide +kernel
theorem dX12_recover_72 : decode cX12_recover 72 = .ok (.getfield 95, 3) := by decide +kernel
theorem dX12_recover_75 : decode cX12_recover 75 = .ok (.iload_n 2, 1) := by decide +kernel
theorem dX12_recover_76 : decode cX12_recover 76 = .ok (.iaload, 1) := by decide +kernel
theorem dX12_recover_77 : decode cX12_recover 77 = .ok (.iload_n 1, 1) := by decide +kernel
theorem dX12_recover_78 : decode cX12_recover 78 = .ok (.if_icmp .ne 93, 3) := by decide +kernel
theorem dX12_recover_81 : decode cX12_recover 81 = .ok (.aload_n 0, 1) := by decide +kernel
theorem dX12_recover_82 : decode cX12_recover 82 = .ok (.getfield 80, 3) := by decide +kernel
theorem dX12_recover_85 : decode cX12_recover 85 = .ok (.iload_n 2, 1) := by decide +kernel
theorem dX12_recover_86 : decode cX12_recover 86 = .ok (.iaload, 1) := by decide +kernel
theorem dX12_recover_87 : decode cX12_recover 87 = .ok (.bipush 100, 2) := by decide +kernel
theorem dX12_recover_89 : decode cX12_recover 89 = .ok (.irem, 1) := by decide +kernel
theorem dX12_recover_90 : decode cX12_recover 90 = .ok (.istore_n 3, 1) := by decide +kernel
theorem dX12_recover_91 : decode cX12_recover 91 = .ok (.aload_n 0, 1) := by decide +kernel
theorem dX12_recover_92 : decode cX12_recover 92 = .ok (.getfield 80, 3) := by decide +kernel
theorem dX12_recover_95 : decode cX12_recover 95 = .ok (.iload_n 2, 1) := by decide +kernel
theorem dX12_recover_96 : decode cX12_recover 96 = .ok (.iaload, 1) := by decide +kernel
theorem dX12_recover_97 : decode cX12_recover 97 = .ok (.bipush 100, 2) := by decide +kernel
theorem dX12_recover_99 : decode cX12_recover 99 = .ok (.if_icmp .ge 7, 3) := by decide +kernel
theorem dX12_recover_102 : decode cX12_recover 102 = .ok (.iconst 1, 1) := by decide +kernel
theorem dX12_recover_103 : decode cX12_recover 103 = .ok (.goto 4, 3) := by decide +kernel
theorem dX12_recover_106 : decode cX12_recover 106 = .ok (.iconst 0, 1) := by decide +kernel
theorem dX12_recover_107 : decode cX12_recover 107 = .ok (.istore 4, 2) := by decide +kernel
theorem dX12_recover_109 : decode cX12_recover 109 = .ok (.iload 4, 2) := by decide +kernel
theorem dX12_recover_111 : decode cX12_recover 111 = .ok (.ifCond .eq 27, 3) := by decide +kernel
theorem dX12_recover_114 : decode cX12_recover 114 = .ok (.aload_n 0, 1) := by decide +kernel
theorem dX12_recover_115 : decode cX12_recover 115 = .ok (.getfield 92, 3) := by decide +kernel
theorem dX12_recover_118 : decode cX12_recover 118 = .ok (.iload_n 2, 1) := by decide +kernel
theorem dX12_recover_119 : decode cX12_recover 119 = .ok (.iaload, 1) := by decide +kernel
theorem dX12_recover_120 : decode cX12_recover 120 = .ok (.aload_n 0, 1) := by decide +kernel
theorem dX12_recover_121 : decode cX12_recover 121 = .ok (.getfield 47, 3) := by decide +kernel
theorem dX12_recover_124 : decode cX12_recover 124 = .ok (.aload_n 0, 1) := by decide +kernel
theorem dX12_recover_125 : decode cX12_recover 125 = .ok (.getfield 44, 3) := by decide +kernel
theorem dX12_recover_128 : decode cX12_recover 128 = .ok (.iload_n 3, 1) := by decide +kernel
theorem dX12_recover_129 : decode cX12_recover 129 = .ok (.iaload, 1) := by decide +kernel
theorem dX12_recover_130 : decode cX12_recover 130 = .ok (.iaload, 1) := by decide +kernel
theorem dX12_recover_131 : decode cX12_recover 131 = .ok (.if_icmp .ne 7, 3) := by decide +kernel
theorem dX12_recover_134 : decode cX12_recover 134 = .ok (.iconst 1, 1) := by decide +kernel
theorem dX12_recover_135 : decode cX12_recover 135 = .ok (.goto 4, 3) := by decide +kernel
theorem dX12_recover_138 : decode cX12_recover 138 = .ok (.iconst 0, 1) := by decide +kernel
theorem dX12_recover_139 : decode cX12_recover 139 = .ok (.istore 5, 2) := by decide +kernel
theorem dX12_recover_141 : decode cX12_recover 141 = .ok (.aload_n 0, 1) := by decide +kernel
theorem dX12_recover_142 : decode cX12_recover 142 = .ok (.getfield 101, 3) := by decide +kernel
theorem dX12_recover_145 : decode cX12_recover 145 = .ok (.iload_n 3, 1) := by decide +kernel
theorem dX12_recover_146 : decode cX12_recover 146 = .ok (.iload 5, 2) := by decide +kernel
theorem dX12_recover_148 : decode cX12_recover 148 = .ok (.ifCond .eq 7, 3) := by decide +kernel
theorem dX12_recover_151 : decode cX12_recover 151 = .ok (.iload_n 2, 1) := by decide +kernel
theorem dX12_recover_152 : decode cX12_recover 152 = .ok (.goto 18, 3) := by decide +kernel
theorem dX12_recover_155 : decode cX12_recover 155 = .ok (.iload 4, 2) := by decide +kernel
theorem dX12_recover_157 : decode cX12_recover 157 = .ok (.ifCond .eq 12, 3) := by decide +kernel
theorem dX12_recover_160 : decode cX12_recover 160 = .ok (.aload_n 0, 1) := by decide +kernel
theorem dX12_recover_161 : decode cX12_recover 161 = .ok (.getfield 101, 3) := by decide +kernel
theorem dX12_recover_164 : decode cX12_recover 164 = .ok (.iload_n 3, 1) := by decide +kernel
theorem dX12_recover_165 : decode cX12_recover 165 = .ok (.iaload, 1) := by decide +kernel
theorem dX12_recover_166 : decode cX12_recover 166 = .ok (.goto 4, 3) := by decide +kernel
theorem dX12_recover_169 : decode cX12_recover 169 = .ok (.iconst (-1), 1) := by decide +kernel
theorem dX12_recover_170 : decode cX12_recover 170 = .ok (.iastore, 1) := by decide +kernel
theorem dX12_recover_171 : decode cX12_recover 171 = .ok (.iinc 2 1, 3) := by decide +kernel
theorem dX12_recover_174 : decode cX12_recover 174 = .ok (.goto (-119), 3) := by decide +kernel
theorem dX12_recover_177 : decode cX12_recover 177 = .ok (.iinc 1 1, 3) := by decide +kernel
theorem dX12_recover_180 : decode cX12_recover 180 = .ok (.goto (-135), 3) := by decide +kernel
theorem dX12_recover_183 : decode cX12_recover 183 = .ok (.aload_n 0, 1) := by decide +kernel
theorem dX12_recover_184 : decode cX12_recover 184 = .ok (.iconst 0, 1) := by decide +kernel
theorem dX12_recover_185 : decode cX12_recover 185 = .ok (.putfield 204, 3) := by decide +kernel
theorem dX12_recover_188 : decode cX12_recover 188 = .ok (.iconst 0, 1) := by decide +kernel
theorem dX12_recover_189 : decode cX12_recover 189 = .ok (.istore_n 1, 1) := by decide +kernel
theorem dX12_recover_190 : decode cX12_recover 190 = .ok (.iconst 0, 1) := by decide +kernel
theorem dX12_recover_191 : decode cX12_recover 191 = .ok (.istore_n 2, 1) := by decide +kernel
theorem dX12_recover_192 : decode cX12_recover 192 = .ok (.iload_n 2, 1) := by decide +kernel
theorem dX12_recover_193 : decode cX12_recover 193 = .ok (.bipush 32, 2) := by decide +kernel
theorem dX12_recover_195 : decode cX12_recover 195 = .ok (.if_icmp .ge 34, 3) := by decide +kernel
theorem dX12_recover_198 : decode cX12_recover 198 = .ok (.iload_n 1, 1) := by decide +kernel
theorem dX12_recover_199 : decode cX12_recover 199 = .ok (.aload_n 0, 1) := by decide +kernel
theorem dX12_recover_200 : decode cX12_recover 200 = .ok (.getfield 101, 3) := by decide +kernel
theorem dX12_recover_203 : decode cX12_recover 203 = .ok (.iload_n 2, 1) := by decide +kernel
theorem dX12_recover_204 : decode cX12_recover 204 = .ok (.iaload, 1) := by decide +kernel
theorem dX12_recover_205 : decode cX12_recover 205 = .ok (.iconst (-1), 1) := by decide +kernel
theorem dX12_recover_206 : decode cX12_recover 206 = .ok (.if_icmp .ne 7, 3) := by decide +kernel
theorem dX12_recover_209 : decode cX12_recover 209 = .ok (.iconst 0, 1) := by decide +kernel
theorem dX12_recover_210 : decode cX12_recover 210 = .ok (.goto 4, 3) := by decide +kernel
theorem dX12_recover_213 : decode cX12_recover 213 = .ok (.iconst 1, 1) := by decide +kernel
theorem dX12_recover_214 : decode cX12_recover 214 = .ok (.iadd, 1) := by decide +kernel
theorem dX12_recover_215 : decode cX12_recover 215 = .ok (.istore_n 1, 1) := by decide +kernel
theorem dX12_recover_216 : decode cX12_recover 216 = .ok (.aload_n 0, 1) := by decide +kernel
theorem dX12_recover_217 : decode cX12_recover 217 = .ok (.getfield 126, 3) := by decide +kernel
theorem dX12_recover_220 : decode cX12_recover 220 = .ok (.iload_n 2, 1) := by decide +kernel
theorem dX12_recover_221 : decode cX12_recover 221 = .ok (.iconst 0, 1) := by decide +kernel
theorem dX12_recover_222 : decode cX12_recover 222 = .ok (.bastore, 1) := by decide +kernel
theorem dX12_recover_223 : decode cX12_recover 223 = .ok (.iinc 2 1, 3) := by decide +kernel
theorem dX12_recover_226 : decode cX12_recover 226 = .ok (.goto (-34), 3) := by decide +kernel
theorem dX12_recover_229 : decode cX12_recover 229 = .ok (.aload_n 0, 1) := by decide +kernel
theorem dX12_recover_230 : decode cX12_recover 230 = .ok (.invokevirtual 283, 3) := by decide +kernel
theorem dX12_recover_233 : decode cX12_recover 233 = .ok (.istore_n 2, 1) := by decide +kernel
theorem dX12_recover_234 : decode cX12_recover 234 = .ok (.iload_n 2, 1) := by decide +kernel
theorem dX12_recover_235 : decode cX12_recover 235 = .ok (.iconst (-1), 1) := by decide +kernel
theorem dX12_recover_236 : decode cX12_recover 236 = .ok (.if_icmp .eq 70, 3) := by decide +kernel
theorem dX12_recover_239 : decode cX12_recover 239 = .ok (.aload_n 0, 1) := by decide +kernel
theorem dX12_recover_240 : decode cX12_recover 240 = .ok (.getfield 126, 3) := by decide +kernel
theorem dX12_recover_243 : decode cX12_recover 243 = .ok (.iload_n 2, 1) := by decide +kernel
theorem dX12_recover_244 : decode cX12_recover 244 = .ok (.iconst 1, 1) := by decide +kernel
theorem dX12_recover_245 : decode cX12_recover 245 = .ok (.bastore, 1) := by decide +kernel
theorem dX12_recover_246 : decode cX12_recover 246 = .ok (.aload_n 0, 1) := by decide +kernel
theorem dX12_recover_247 : decode cX12_recover 247 = .ok (.getfield 101, 3) := by decide +kernel
theorem dX12_recover_250 : decode cX12_recover 250 = .ok (.iload_n 2, 1) := by decide +kernel
theorem dX12_recover_251 : decode cX12_recover 251 = .ok (.iaload, 1) := by decide +kernel
theorem dX12_recover_252 : decode cX12_recover 252 = .ok (.istore_n 3, 1) := by decide +kernel
theorem dX12_recover_253 : decode cX12_recover 253 = .ok (.aload_n 0, 1) := by decide +kernel
theorem dX12_recover_254 : decode cX12_recover 254 = .ok (.invokevirtual 182, 3) := by decide +kernel
theorem dX12_recover_257 : decode cX12_recover 257 = .ok (.aload_n 0, 1) := by decide +kernel
theorem dX12_recover_258 : decode cX12_recover 258 = .ok (.getfield 38, 3) := by decide +kernel
theorem dX12_recover_261 : decode cX12_recover 261 = .ok (.iload_n 2, 1) := by decide +kernel
theorem dX12_recover_262 : decode cX12_recover 262 = .ok (.iaload, 1) := by decide +kernel
theorem dX12_recover_263 : decode cX12_recover 263 = .ok (.iadd, 1) := by decide +kernel
theorem dX12_recover_264 : decode cX12_recover 264 = .ok (.bipush 12, 2) := by decide +kernel
theorem dX12_recover_266 : decode cX12_recover 266 = .ok (.if_icmp .gt 32, 3) := by decide +kernel
theorem dX12_recover_269 : decode cX12_recover 269 = .ok (.aload_n 0, 1) := by decide +kernel
theorem dX12_recover_270 : decode cX12_recover 270 = .ok (.iload_n 2, 1) := by decide +kernel
theorem dX12_recover_271 : decode cX12_recover 271 = .ok (.aload_n 0, 1) := by decide +kernel
theorem dX12_recover_272 : decode cX12_recover 272 = .ok (.getfield 83, 3) := by decide +kernel
theorem dX12_recover_275 : decode cX12_recover 275 = .ok (.iload_n 3, 1) := by decide +kernel
theorem dX12_recover_276 : decode cX12_recover 276 = .ok (.iaload, 1) := by decide +kernel
theorem dX12_recover_277 : decode cX12_recover 277 = .ok (.aload_n 0, 1) := by decide +kernel
theorem dX12_recover_278 : decode cX12_recover 278 = .ok (.getfield 86, 3) := by decide +kernel
theorem dX12_recover_281 : decode cX12_recover 281 = .ok (.iload_n 3, 1) := by decide +kernel
theorem dX12_recover_282 : decode cX12_recover 282 = .ok (.iaload, 1) := by decide +kernel
theorem dX12_recover_283 : decode cX12_recover 283 = .ok (.aload_n 0, 1) := by decide +kernel
theorem dX12_recover_284 : decode cX12_recover 284 = .ok (.getfield 89, 3) := by decide +kernel
theorem dX12_recover_287 : decode cX12_recover 287 = .ok (.iload_n 3, 1) := by decide +kernel
theorem dX12_recover_288 : decode cX12_recover 288 = .ok (.iaload, 1) := by decide +kernel
theorem dX12_recover_289 : decode cX12_recover 289 = .ok (.aload_n 0, 1) := by decide +kernel
theorem dX12_recover_290 : decode cX12_recover 290 = .ok (.getfield 92, 3) := by decide +kernel
theorem dX12_recover_293 : decode cX12_recover 293 = .ok (.iload_n 3, 1) := by decide +kernel
theorem dX12_recover_294 : decode cX12_recover 294 = .ok (.iaload, 1) := by decide +kernel
theorem dX12_recover_295 : decode cX12_recover 295 = .ok (.invokevirtual 238, 3) := by decide +kernel
theorem dX12_recover_298 : decode cX12_recover 298 = .ok (.aload_n 0, 1) := by decide +kernel
theorem dX12_recover_299 : decode cX12_recover 299 = .ok (.invokevirtual 283, 3) := by decide +kernel
theorem dX12_recover_302 : decode cX12_recover 302 = .ok (.istore_n 2, 1) := by decide +kernel
theorem dX12_recover_303 : decode cX12_recover 303 = .ok (.goto (-69), 3) := by decide +kernel
theorem dX12_recover_306 : decode cX12_recover 306 = .ok (.iload_n 1, 1) := by decide +kernel
theorem dX12_recover_307 : decode cX12_recover 307 = .ok (.ireturn, 1) := by decide +kernel
theorem dX12_minute_0 : decode cX12_minute 0 = .ok (.aload_n 0, 1) := by decide +kernel
theorem dX12_minute_1 : decode cX12_minute 1 = .ok (.iconst 0, 1) := by decide +kernel
theorem dX12_minute_2 : decode cX12_minute 2 = .ok (.putfield 129, 3) := by decide +kernel
theorem dX12_minute_5 : decode cX12_minute 5 = .ok (.aload_n 0, 1) := by decide +kernel
theorem dX12_minute_6 : decode cX12_minute 6 = .ok (.getfield 159, 3) := by decide +kernel
theorem dX12_minute_9 : decode cX12_minute 9 = .ok (.ireturn, 1) := by decide +kernel
set_option maxRecDepth 20000 in
theorem ggX12_where_X12_isKey : GoodIn wsX12_where wsX12_isKey := goodIn_r _ [8, 9, 10, 7, 11] (by decide +kernel) (by decide +kernel)
set_option maxRecDepth 20000 in
theorem gX12_where_X12_isKey : GoodIn wsX12_where (va_wsS RX12 197 yX12_isKey wsX12_isKey) := goodIn_app (goodIn_of _ (by decide +kernel)) ggX12_where_X12_isKey
set_option maxRecDepth 20000 in
theorem ggX12_where_X12_failsChar : GoodIn wsX12_where wsX12_failsChar := goodIn_r _ [15, 1, 16, 17, 18, 19, 20, 21, 22, 23, 24, 25, 26, 27, 28, 29, 30, 31, 32, 33, 34, 35, 36, 37, 38, 39, 40, 41, 42, 43, 44, 45, 46, 47, 48, 49, 50, 51, 52, 53, 54, 55, 56, 57, 58, 59, 60, 61, 62, 63, 64, 65, 66, 67, 68, 69, 70] (by decide +kernel) (by decide +kernel)
set_option maxRecDepth 20000 in
theorem gX12_where_X12_failsChar : GoodIn wsX12_where (wsV RX12 248 RX12 yX12_failsChar wsX12_failsChar) := goodIn_app (goodIn_of _ (by decide +kernel)) ggX12_where_X12_failsChar
theorem dX12_where_0 : decode cX12_where 0 = .ok (.aload_n 0, 1) := by decide +kernel
theorem dX12_where_1 : decode cX12_where 1 = .ok (.iconst 0, 1) := by decide +kernel
theorem dX12_where_2 : decode cX12_where 2 = .ok (.putfield 129, 3) := by decide +kernel
theorem dX12_where_5 : decode cX12_where 5 = .ok (.iload_n 1, 1) := by decide +kernel
theorem dX12_where_6 : decode cX12_where 6 = .ok (.invokestatic 197, 3) := by decide +kernel
theorem dX12_where_9 : decode cX12_where 9 = .ok (.ifCond .ne 9, 3) := by decide +kernel
theorem dX12_where_12 : decode cX12_where 12 = .ok (.aload_n 0, 1) := by decide +kernel
theorem dX12_where_13 : decode cX12_where 13 = .ok (.iconst 1, 1) := by decide +kernel
theorem dX12_where_14 : decode cX12_where 14 = .ok (.invokevirtual 248, 3) := by decide +kernel
theorem dX12_where_17 : decode cX12_where 17 = .ok (.ireturn, 1) := by decide +kernel
theorem dX12_where_18 : decode cX12_where 18 = .ok (.aload_n 0, 1) := by decide +kernel
theorem dX12_where_19 : decode cX12_where 19 = .ok (.getfield 53, 3) := by decide +kernel
theorem dX12_where_22 : decode cX12_where 22 = .ok (.iload_n 1, 1) := by decide +kernel
theorem dX12_where_23 : decode cX12_where 23 = .ok (.baload, 1) := by decide +kernel
theorem dX12_where_24 : decode cX12_where 24 = .ok (.ifCond .eq 22, 3) := by decide +kernel
theorem dX12_where_27 : decode cX12_where 27 = .ok (.aload_n 0, 1) := by decide +kernel
theorem dX12_where_28 : decode cX12_where 28 = .ok (.getfield 71, 3) := by decide +kernel
theorem dX12_where_31 : decode cX12_where 31 = .ok (.iload_n 1, 1) := by decide +kernel
theorem dX12_where_32 : decode cX12_where 32 = .ok (.baload, 1) := by decide +kernel
theorem dX12_where_33 : decode cX12_where 33 = .ok (.ifCond .eq 8, 3) := by decide +kernel
theorem dX12_where_36 : decode cX12_where 36 = .ok (.bipush 112, 2) := by decide +kernel
theorem dX12_where_38 : decode cX12_where 38 = .ok (.goto 25, 3) := by decide +kernel
theorem dX12_where_41 : decode cX12_where 41 = .ok (.bipush 109, 2) := by decide +kernel
theorem dX12_where_43 : decode cX12_where 43 = .ok (.goto 20, 3) := by decide +kernel
theorem dX12_where_46 : decode cX12_where 46 = .ok (.aload_n 0, 1) := by decide +kernel
theorem dX12_where_47 : decode cX12_where 47 = .ok (.getfield 101, 3) := by decide +kernel
theorem dX12_where_50 : decode cX12_where 50 = .ok (.iload_n 1, 1) := by decide +kernel
theorem dX12_where_51 : decode cX12_where 51 = .ok (.iaload, 1) := by decide +kernel
theorem dX12_where_52 : decode cX12_where 52 = .ok (.iconst (-1), 1) := by decide +kernel
theorem dX12_where_53 : decode cX12_where 53 = .ok (.if_icmp .eq 8, 3) := by decide +kernel
theorem dX12_where_56 : decode cX12_where 56 = .ok (.bipush 102, 2) := by decide +kernel
theorem dX12_where_58 : decode cX12_where 58 = .ok (.goto 5, 3) := by decide +kernel
theorem dX12_where_61 : decode cX12_where 61 = .ok (.bipush 45, 2) := by decide +kernel
theorem dX12_where_63 : decode cX12_where 63 = .ok (.ireturn, 1) := by decide +kernel
set_option maxRecDepth 20000 in
theorem ggX12_used_X12_usedNow : GoodIn wsX12_used wsX12_usedNow := goodIn_ca (goodIn_r _ [6, 7, 8, 9, 10, 11, 12, 13, 14, 15, 16, 17, 18, 19, 20, 21, 22, 23, 24, 25, 26, 27, 28, 29, 30, 31, 32, 33, 34, 35, 36, 37, 38, 39, 40, 41, 42, 43, 44, 45, 46, 47, 48, 49, 50, 51, 52, 53, 54, 55, 56, 57, 58, 59, 60, 61, 62, 63] (by decide +kernel) (by decide +kernel)) (goodIn_sub (fun _ h => List.mem_cons_of_mem _ (List.mem_append_right _ h)) (by decide +kernel))
set_option maxRecDepth 20000 in
theorem gX12_used_X12_usedNow : GoodIn wsX12_used (wsV RX12 182 RX12 yX12_usedNow wsX12_usedNow) := goodIn_app (goodIn_of _ (by decide +kernel)) ggX12_used_X12_usedNow
theorem dX12_used_0 : decode cX12_used 0 = .ok (.aload_n 0, 1) := by decide +kernel
theorem dX12_used_1 : decode cX12_used 1 = .ok (.iconst 0, 1) := by decide +kernel
theorem dX12_used_2 : decode cX12_used 2 = .ok (.putfield 129, 3) := by decide +kernel
theorem dX12_used_5 : decode cX12_used 5 = .ok (.aload_n 0, 1) := by decide +kernel
theorem dX12_used_6 : decode cX12_used 6 = .ok (.invokevirtual 182, 3) := by decide +kernel
theorem dX12_used_9 : decode cX12_used 9 = .ok (.ireturn, 1) := by decide +kernel
set_option maxRecDepth 20000 in
theorem ggX12_estimate_X12_isKey : GoodIn wsX12_estimate wsX12_isKey := goodIn_r _ [5, 6, 7, 4, 8] (by decide +kernel) (by decide +kernel)
set_option maxRecDepth 20000 in
theorem gX12_estimate_X12_isKey : GoodIn wsX12_estimate (va_wsS RX12 197 yX12_isKey wsX12_isKey) := goodIn_app (goodIn_of _ (by decide +kernel)) ggX12_estimate_X12_isKey
set_option maxRecDepth 20000 in
theorem ggX12_estimate_X12_estimateOf : GoodIn wsX12_estimate wsX12_estimateOf := goodIn_ca (goodIn_r _ [12, 13, 14, 15, 16, 17, 18, 19, 4, 20, 25, 26, 27, 28, 29, 30, 31, 32, 33, 34, 35, 36, 37, 38, 39, 40, 41, 42, 43, 44, 45, 46, 47, 48, 49, 50, 51, 52, 53, 54, 55, 56, 57, 58, 59, 60, 61, 62, 63, 64, 65, 66, 67, 68, 69, 70, 71, 72, 73, 74, 75, 76, 77, 78, 79] (by decide +kernel) (by decide +kernel)) (goodIn_sub (fun _ h => List.mem_cons_of_mem _ (List.mem_append_right _ h)) (by decide +kernel))
set_option maxRecDepth 20000 in
theorem gX12_estimate_X12_estimateOf : GoodIn wsX12_estimate (wsV RX12 146 RX12 yX12_estimateOf wsX12_estimateOf) := goodIn_app (goodIn_of _ (by decide +kernel)) ggX12_estimate_X12_estimateOf
set_option maxRecDepth 20000 in
theorem ggX12_estimate_X12_fails : GoodIn wsX12_estimate wsX12_fails := goodIn_r _ [24, 1, 25, 26, 27, 28, 29, 30, 31, 32, 33, 34, 35, 36, 37, 38, 39, 40, 41, 42, 43, 44, 45, 46, 47, 48, 49, 50, 51, 52, 53, 54, 55, 56, 57, 58, 59, 60, 61, 62, 63, 64, 65, 66, 67, 68, 69, 70, 71, 72, 73, 74, 75, 76, 77, 78, 79] (by decide +kernel) (by decide +kernel)
set_option maxRecDepth 20000 in
theorem gX12_estimate_X12_fails : GoodIn wsX12_estimate (wsV RX12 201 RX12 yX12_fails wsX12_fails) := goodIn_app (goodIn_of _ (by decide +kernel)) ggX12_estimate_X12_fails
theorem dX12_estimate_0 : decode cX12_estimate 0 = .ok (.aload_n 0, 1) := by decide +kernel
theorem dX12_estimate_1 : decode cX12_estimate 1 = .ok (.iconst 0, 1) := by decide +kernel
theorem dX12_estimate_2 : decode cX12_estimate 2 = .ok (.putfield 129, 3) := by decide +kernel
theorem dX12_estimate_5 : decode cX12_estimate 5 = .ok (.iload_n 1, 1) := by decide +kernel
theorem dX12_estimate_6 : decode cX12_estimate 6 = .ok (.invokestatic 197, 3) := by decide +kernel
theorem dX12_estimate_9 : decode cX12_estimate 9 = .ok (.ifCond .eq 11, 3) := by decide +kernel
theorem dX12_estimate_12 : decode cX12_estimate 12 = .ok (.aload_n 0, 1) := by decide +kernel
theorem dX12_estimate_13 : decode cX12_estimate 13 = .ok (.iload_n 1, 1) := by decide +kernel
theorem dX12_estimate_14 : decode cX12_estimate 14 = .ok (.invokevirtual 146, 3) := by decide +kernel
theorem dX12_estimate_17 : decode cX12_estimate 17 = .ok (.goto 8, 3) := by decide +kernel
theorem dX12_estimate_20 : decode cX12_estimate 20 = .ok (.aload_n 0, 1) := by decide +kernel
theorem dX12_estimate_21 : decode cX12_estimate 21 = .ok (.iconst 1, 1) := by decide +kernel
theorem dX12_estimate_22 : decode cX12_estimate 22 = .ok (.invokevirtual 201, 3) := by decide +kernel
theorem dX12_estimate_25 : decode cX12_estimate 25 = .ok (.ireturn, 1) := by decide +kernel
set_option maxRecDepth 20000 in
theorem ggX12_versionOf_X12_isKey : GoodIn wsX12_versionOf wsX12_isKey := goodIn_r _ [9, 10, 11, 8, 12] (by decide +kernel) (by decide +kernel)
set_option maxRecDepth 20000 in
theorem gX12_versionOf_X12_isKey : GoodIn wsX12_versionOf (va_wsS RX12 197 yX12_isKey wsX12_isKey) := goodIn_app (goodIn_of _ (by decide +kernel)) ggX12_versionOf_X12_isKey
set_option maxRecDepth 20000 in
theorem ggX12_versionOf_X12_fails : GoodIn wsX12_versionOf wsX12_fails := goodIn_r _ [16, 1, 17, 18, 19, 20, 21, 22, 23, 24, 25, 26, 27, 28, 29, 30, 31, 32, 33, 34, 35, 36, 37, 38, 39, 40, 41, 42, 43, 44, 45, 46, 47, 48, 49, 50, 51, 52, 53, 54, 55, 56, 57, 58, 59, 60, 61, 62, 63, 64, 65, 66, 67, 68, 69, 70, 71] (by decide +kernel) (by decide +kernel)
set_option maxRecDepth 20000 in
theorem gX12_versionOf_X12_fails : GoodIn wsX12_versionOf (wsV RX12 201 RX12 yX12_fails wsX12_fails) := goodIn_app (goodIn_of _ (by decide +kernel)) ggX12_versionOf_X12_fails
theorem dX12_versionOf_0 : decode cX12_versionOf 0 = .ok (.aload_n 0, 1) := by decide +kernel
theorem dX12_versionOf_1 : decode cX12_versionOf 1 = .ok (.iconst 0, 1) := by decide +kernel
theorem dX12_versionOf_2 : decode cX12_versionOf 2 = .ok (.putfield 129, 3) := by decide +kernel
theorem dX12_versionOf_5 : decode cX12_versionOf 5 = .ok (.iload_n 1, 1) := by decide +kernel
theorem dX12_versionOf_6 : decode cX12_versionOf 6 = .ok (.invokestatic 197, 3) := by decide +kernel
theorem dX12_versionOf_9 : decode cX12_versionOf 9 = .ok (.ifCond .ne 9, 3) := by decide +kernel
theorem dX12_versionOf_12 : decode cX12_versionOf 12 = .ok (.aload_n 0, 1) := by decide +kernel
theorem dX12_versionOf_13 : decode cX12_versionOf 13 = .ok (.iconst 1, 1) := by decide +kernel
theorem dX12_versionOf_14 : decode cX12_versionOf 14 = .ok (.invokevirtual 201, 3) := by decide +kernel
theorem dX12_versionOf_17 : decode cX12_versionOf 17 = .ok (.ireturn, 1) := by decide +kernel
theorem dX12_versionOf_18 : decode cX12_versionOf 18 = .ok (.aload_n 0, 1) := by decide +kernel
theorem dX12_versionOf_19 : decode cX12_versionOf 19 = .ok (.getfield 53, 3) := by decide +kernel
theorem dX12_versionOf_22 : decode cX12_versionOf 22 = .ok (.iload_n 1, 1) := by decide +kernel
theorem dX12_versionOf_23 : decode cX12_versionOf 23 = .ok (.baload, 1) := by decide +kernel
theorem dX12_versionOf_24 : decode cX12_versionOf 24 = .ok (.ifCond .eq 12, 3) := by decide +kernel
theorem dX12_versionOf_27 : decode cX12_versionOf 27 = .ok (.aload_n 0, 1) := by decide +kernel
theorem dX12_versionOf_28 : decode cX12_versionOf 28 = .ok (.getfield 59, 3) := by decide +kernel
theorem dX12_versionOf_31 : decode cX12_versionOf 31 = .ok (.iload_n 1, 1) := by decide +kernel
theorem dX12_versionOf_32 : decode cX12_versionOf 32 = .ok (.iaload, 1) := by decide +kernel
theorem dX12_versionOf_33 : decode cX12_versionOf 33 = .ok (.goto 32, 3) := by decide +kernel
theorem dX12_versionOf_36 : decode cX12_versionOf 36 = .ok (.aload_n 0, 1) := by decide +kernel
theorem dX12_versionOf_37 : decode cX12_versionOf 37 = .ok (.getfield 101, 3) := by decide +kernel
theorem dX12_versionOf_40 : decode cX12_versionOf 40 = .ok (.iload_n 1, 1) := by decide +kernel
theorem dX12_versionOf_41 : decode cX12_versionOf 41 = .ok (.iaload, 1) := by decide +kernel
theorem dX12_versionOf_42 : decode cX12_versionOf 42 = .ok (.iconst (-1), 1) := by decide +kernel
theorem dX12_versionOf_43 : decode cX12_versionOf 43 = .ok (.if_icmp .eq 17, 3) := by decide +kernel
theorem dX12_versionOf_46 : decode cX12_versionOf 46 = .ok (.aload_n 0, 1) := by decide +kernel
theorem dX12_versionOf_47 : decode cX12_versionOf 47 = .ok (.getfield 86, 3) := by decide +kernel
theorem dX12_versionOf_50 : decode cX12_versionOf 50 = .ok (.aload_n 0, 1) := by decide +kernel
theorem dX12_versionOf_51 : decode cX12_versionOf 51 = .ok (.getfield 101, 3) := by decide +kernel
theorem dX12_versionOf_54 : decode cX12_versionOf 54 = .ok (.iload_n 1, 1) := by decide +kernel
theorem dX12_versionOf_55 : decode cX12_versionOf 55 = .ok (.iaload, 1) := by decide +kernel
theorem dX12_versionOf_56 : decode cX12_versionOf 56 = .ok (.iaload, 1) := by decide +kernel
theorem dX12_versionOf_57 : decode cX12_versionOf 57 = .ok (.goto 8, 3) := by decide +kernel
theorem dX12_versionOf_60 : decode cX12_versionOf 60 = .ok (.aload_n 0, 1) := by decide +kernel
theorem dX12_versionOf_61 : decode cX12_versionOf 61 = .ok (.iconst 2, 1) := by decide +kernel
theorem dX12_versionOf_62 : decode cX12_versionOf 62 = .ok (.invokevirtual 201, 3) := by decide +kernel
theorem dX12_versionOf_65 : decode cX12_versionOf 65 = .ok (.ireturn, 1) := by decide +kernel
set_option maxRecDepth 20000 in
theorem ggX12_slot_X12_in : GoodIn wsX12_slot wsX12_in := goodIn_r _ [6] (by decide +kernel) (by decide +kernel)
set_option maxRecDepth 20000 in
theorem gX12_slot_X12_in : GoodIn wsX12_slot (va_wsS RX12 133 yX12_in wsX12_in) := goodIn_app (goodIn_of _ (by decide +kernel)) ggX12_slot_X12_in
set_option maxRecDepth 20000 in
theorem ggX12_slot_X12_fails : GoodIn wsX12_slot wsX12_fails := goodIn_r _ [10, 1, 11, 12, 13, 14, 15, 16, 17, 18, 19, 20, 21, 22, 23, 24, 25, 26, 27, 28, 29, 30, 31, 32, 33, 34, 35, 36, 37, 38, 39, 40, 41, 42, 43, 44, 45, 46, 47, 48, 49, 50, 51, 52, 53, 54, 55, 56, 57, 58, 59, 60, 61, 62, 63, 64, 65] (by decide +kernel) (by decide +kernel)
set_option maxRecDepth 20000 in
theorem gX12_slot_X12_fails : GoodIn wsX12_slot (wsV RX12 201 RX12 yX12_fails wsX12_fails) := goodIn_app (goodIn_of _ (by decide +kernel)) ggX12_slot_X12_fails
theorem dX12_slot_0 : decode cX12_slot 0 = .ok (.aload_n 0, 1) := by decide +kernel
theorem dX12_slot_1 : decode cX12_slot 1 = .ok (.iconst 0, 1) := by decide +kernel
theorem dX12_slot_2 : decode cX12_slot 2 = .ok (.putfield 129, 3) := by decide +kernel
theorem dX12_slot_5 : decode cX12_slot 5 = .ok (.iload_n 1, 1) := by decide +kernel
theorem dX12_slot_6 : decode cX12_slot 6 = .ok (.iconst 0, 1) := by decide +kernel
theorem dX12_slot_7 : decode cX12_slot 7 = .ok (.iconst 3, 1) := by decide +kernel
theorem dX12_slot_8 : decode cX12_slot 8 = .ok (.invokestatic 133, 3) := by decide +kernel
theorem dX12_slot_11 : decode cX12_slot 11 = .ok (.ifCond .eq 25, 3) := by decide +kernel
theorem dX12_slot_14 : decode cX12_slot 14 = .ok (.iload_n 2, 1) := by decide +kernel
theorem dX12_slot_15 : decode cX12_slot 15 = .ok (.iconst 0, 1) := by decide +kernel
