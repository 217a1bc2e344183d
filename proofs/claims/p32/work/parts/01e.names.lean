theorem dX11_bump_64 : decode cX11_bump 64 = .ok (.goto (-30), 3) := by decide +kernel
theorem dX11_bump_67 : decode cX11_bump 67 = .ok (.aload_n 0, 1) := by decide +kernel
theorem dX11_bump_68 : decode cX11_bump 68 = .ok (.getfield 12, 3) := by decide +kernel
theorem dX11_bump_71 : decode cX11_bump 71 = .ok (.getfield 261, 3) := by decide +kernel
theorem dX11_bump_74 : decode cX11_bump 74 = .ok (.iload_n 1, 1) := by decide +kernel
theorem dX11_bump_75 : decode cX11_bump 75 = .ok (.dup2, 1) := by decide +kernel
theorem dX11_bump_76 : decode cX11_bump 76 = .ok (.iaload, 1) := by decide +kernel
theorem dX11_bump_77 : decode cX11_bump 77 = .ok (.iconst 1, 1) := by decide +kernel
theorem dX11_bump_78 : decode cX11_bump 78 = .ok (.iadd, 1) := by decide +kernel
theorem dX11_bump_79 : decode cX11_bump 79 = .ok (.iastore, 1) := by decide +kernel
theorem dX11_bump_80 : decode cX11_bump 80 = .ok (.aload_n 0, 1) := by decide +kernel
theorem dX11_bump_81 : decode cX11_bump 81 = .ok (.getfield 12, 3) := by decide +kernel
theorem dX11_bump_84 : decode cX11_bump 84 = .ok (.getfield 261, 3) := by decide +kernel
theorem dX11_bump_87 : decode cX11_bump 87 = .ok (.iload_n 1, 1) := by decide +kernel
theorem dX11_bump_88 : decode cX11_bump 88 = .ok (.iaload, 1) := by decide +kernel
theorem dX11_bump_89 : decode cX11_bump 89 = .ok (.ireturn, 1) := by decide +kernel
set_option maxRecDepth 20000 in
theorem ggX11_pass_X11_requireWithin : GoodIn wsX11_pass wsX11_requireWithin := goodIn_ca (goodIn_r _ [8, 9, 10] (by decide +kernel) (by decide +kernel)) (goodIn_sub (fun _ h => List.mem_cons_of_mem _ (List.mem_append_left _ (List.mem_append_right _ h))) (by decide +kernel))
set_option maxRecDepth 20000 in
theorem gX11_pass_X11_requireWithin : GoodIn wsX11_pass (va_wsS RX11 99 yX11_requireWithin wsX11_requireWithin) := goodIn_app (goodIn_of _ (by decide +kernel)) ggX11_pass_X11_requireWithin
set_option maxRecDepth 20000 in
theorem ggX11_pass_X11_keepPromises : GoodIn wsX11_pass wsX11_keepPromises := goodIn_ca (goodIn_r _ [14, 15, 16, 17, 18, 19, 20, 21, 22, 23, 24, 25, 26, 27, 28, 29, 30, 31, 32, 33, 7, 34, 35, 36, 37, 38, 39, 40, 3, 41, 42, 43, 44, 45, 46, 47, 48, 49, 50, 51, 52, 53, 54, 55, 56, 57, 58, 59, 60, 61, 62, 63, 64, 65, 66, 67, 68, 69, 70, 71, 72, 73, 74, 75, 76, 77, 78, 79, 80, 81, 82, 83, 84, 85, 86, 87, 88, 89, 90, 91, 92, 93, 94, 95, 96, 97, 98, 99, 100, 101, 102, 103, 104, 105, 106, 107, 108, 109, 110, 111, 112, 113] (by decide +kernel) (by decide +kernel)) (goodIn_sub (fun _ h => List.mem_cons_of_mem _ (List.mem_append_right _ h)) (by decide +kernel))
set_option maxRecDepth 20000 in
theorem gX11_pass_X11_keepPromises : GoodIn wsX11_pass (wsV RX11 258 RX11 yX11_keepPromises wsX11_keepPromises) := goodIn_app (goodIn_of _ (by decide +kernel)) ggX11_pass_X11_keepPromises
theorem dX11_pass_0 : decode cX11_pass 0 = .ok (.iload_n 1, 1) := by decide +kernel
theorem dX11_pass_1 : decode cX11_pass 1 = .ok (.iconst 1, 1) := by decide +kernel
theorem dX11_pass_2 : decode cX11_pass 2 = .ok (.bipush 60, 2) := by decide +kernel
theorem dX11_pass_4 : decode cX11_pass 4 = .ok (.invokestatic 99, 3) := by decide +kernel
theorem dX11_pass_7 : decode cX11_pass 7 = .ok (.aload_n 0, 1) := by decide +kernel
theorem dX11_pass_8 : decode cX11_pass 8 = .ok (.getfield 88, 3) := by decide +kernel
theorem dX11_pass_11 : decode cX11_pass 11 = .ok (.iload_n 1, 1) := by decide +kernel
theorem dX11_pass_12 : decode cX11_pass 12 = .ok (.iadd, 1) := by decide +kernel
theorem dX11_pass_13 : decode cX11_pass 13 = .ok (.sipush 5000, 3) := by decide +kernel
theorem dX11_pass_16 : decode cX11_pass 16 = .ok (.if_icmp .le 14, 3) := by decide +kernel
theorem dX11_pass_19 : decode cX11_pass 19 = .ok (.new 114, 3) := by decide +kernel
theorem dX11_pass_22 : decode cX11_pass 22 = .ok (.dup, 1) := by decide +kernel
theorem dX11_pass_23 : decode cX11_pass 23 = .ok (.ldc_w 264, 3) := by decide +kernel
theorem dX11_pass_26 : decode cX11_pass 26 = .ok (.invokespecial 118, 3) := by decide +kernel
theorem dX11_pass_29 : decode cX11_pass 29 = .ok (.athrow, 1) := by decide +kernel
theorem dX11_pass_30 : decode cX11_pass 30 = .ok (.iconst 0, 1) := by decide +kernel
theorem dX11_pass_31 : decode cX11_pass 31 = .ok (.istore_n 2, 1) := by decide +kernel
theorem dX11_pass_32 : decode cX11_pass 32 = .ok (.iconst 0, 1) := by decide +kernel
theorem dX11_pass_33 : decode cX11_pass 33 = .ok (.istore_n 3, 1) := by decide +kernel
theorem dX11_pass_34 : decode cX11_pass 34 = .ok (.iload_n 3, 1) := by decide +kernel
theorem dX11_pass_35 : decode cX11_pass 35 = .ok (.iload_n 1, 1) := by decide +kernel
theorem dX11_pass_36 : decode cX11_pass 36 = .ok (.if_icmp .ge 38, 3) := by decide +kernel
theorem dX11_pass_39 : decode cX11_pass 39 = .ok (.aload_n 0, 1) := by decide +kernel
theorem dX11_pass_40 : decode cX11_pass 40 = .ok (.dup, 1) := by decide +kernel
theorem dX11_pass_41 : decode cX11_pass 41 = .ok (.getfield 88, 3) := by decide +kernel
theorem dX11_pass_44 : decode cX11_pass 44 = .ok (.iconst 1, 1) := by decide +kernel
theorem dX11_pass_45 : decode cX11_pass 45 = .ok (.iadd, 1) := by decide +kernel
theorem dX11_pass_46 : decode cX11_pass 46 = .ok (.putfield 88, 3) := by decide +kernel
theorem dX11_pass_49 : decode cX11_pass 49 = .ok (.aload_n 0, 1) := by decide +kernel
theorem dX11_pass_50 : decode cX11_pass 50 = .ok (.getfield 92, 3) := by decide +kernel
theorem dX11_pass_53 : decode cX11_pass 53 = .ok (.ifCond .ne 15, 3) := by decide +kernel
theorem dX11_pass_56 : decode cX11_pass 56 = .ok (.iload_n 2, 1) := by decide +kernel
theorem dX11_pass_57 : decode cX11_pass 57 = .ok (.aload_n 0, 1) := by decide +kernel
theorem dX11_pass_58 : decode cX11_pass 58 = .ok (.aload_n 0, 1) := by decide +kernel
theorem dX11_pass_59 : decode cX11_pass 59 = .ok (.getfield 88, 3) := by decide +kernel
theorem dX11_pass_62 : decode cX11_pass 62 = .ok (.iconst (-1), 1) := by decide +kernel
theorem dX11_pass_63 : decode cX11_pass 63 = .ok (.invokevirtual 258, 3) := by decide +kernel
theorem dX11_pass_66 : decode cX11_pass 66 = .ok (.iadd, 1) := by decide +kernel
theorem dX11_pass_67 : decode cX11_pass 67 = .ok (.istore_n 2, 1) := by decide +kernel
theorem dX11_pass_68 : decode cX11_pass 68 = .ok (.iinc 3 1, 3) := by decide +kernel
theorem dX11_pass_71 : decode cX11_pass 71 = .ok (.goto (-37), 3) := by decide +kernel
theorem dX11_pass_74 : decode cX11_pass 74 = .ok (.iload_n 2, 1) := by decide +kernel
theorem dX11_pass_75 : decode cX11_pass 75 = .ok (.ireturn, 1) := by decide +kernel
set_option maxRecDepth 20000 in
theorem ggX11_crash_X11_requireUp : GoodIn wsX11_crash wsX11_requireUp := goodIn_ca (goodIn_r _ [10, 11, 12, 5, 49, 50, 51, 52, 53, 54, 55, 56, 57, 58, 59, 60, 61] (by decide +kernel) (by decide +kernel)) (goodIn_sub (fun _ h => List.mem_cons_of_mem _ (List.mem_append_left _ (List.mem_append_right _ h))) (by decide +kernel))
set_option maxRecDepth 20000 in
theorem gX11_crash_X11_requireUp : GoodIn wsX11_crash (wsV RX11 103 RX11 yX11_requireUp wsX11_requireUp) := goodIn_app (goodIn_of _ (by decide +kernel)) ggX11_crash_X11_requireUp
set_option maxRecDepth 20000 in
theorem ggX11_crash_X6_entries : GoodIn wsX11_crash wsX6_entries := goodIn_ca (goodIn_r _ [17, 18, 62, 63, 64, 65, 66] (by decide +kernel) (by decide +kernel)) (goodIn_sub (fun _ h => List.mem_cons_of_mem _ (List.mem_append_right _ h)) (by decide +kernel))
set_option maxRecDepth 20000 in
theorem gX11_crash_X6_entries : GoodIn wsX11_crash (wsV RX11 266 RX6 yX6_entries wsX6_entries) := goodIn_app (goodIn_of _ (by decide +kernel)) ggX11_crash_X6_entries
set_option maxRecDepth 20000 in
theorem ggX11_crash_X6_clear : GoodIn wsX11_crash wsX6_clear := goodIn_ca (goodIn_r _ [22, 23, 18, 62, 63, 64, 65, 66] (by decide +kernel) (by decide +kernel)) (goodIn_sub (fun _ h => List.mem_cons_of_mem _ (List.mem_append_right _ h)) (by decide +kernel))
set_option maxRecDepth 20000 in
theorem gX11_crash_X6_clear : GoodIn wsX11_crash (wsV RX11 270 RX6 yX6_clear wsX6_clear) := goodIn_app (goodIn_of _ (by decide +kernel)) ggX11_crash_X6_clear
set_option maxRecDepth 20000 in
theorem ggX11_crash_X9_clear : GoodIn wsX11_crash wsX9_clear := goodIn_ca (goodIn_r _ [28, 29, 30, 67, 68] (by decide +kernel) (by decide +kernel)) (goodIn_sub (fun _ h => List.mem_cons_of_mem _ (List.mem_append_right _ h)) (by decide +kernel))
set_option maxRecDepth 20000 in
theorem gX11_crash_X9_clear : GoodIn wsX11_crash (wsV RX11 273 RX9 yX9_clear wsX9_clear) := goodIn_app (goodIn_of _ (by decide +kernel)) ggX11_crash_X9_clear
set_option maxRecDepth 20000 in
theorem ggX11_crash_X5_voidAll : GoodIn wsX11_crash wsX5_voidAll := goodIn_ca (goodIn_r _ [35, 36, 37, 38, 34, 39, 40, 41, 42, 69, 70, 71, 72, 73, 74, 75] (by decide +kernel) (by decide +kernel)) (goodIn_sub (fun _ h => List.mem_cons_of_mem _ (List.mem_append_right _ h)) (by decide +kernel))
set_option maxRecDepth 20000 in
theorem gX11_crash_X5_voidAll : GoodIn wsX11_crash (wsV RX11 274 RX5 yX5_voidAll wsX5_voidAll) := goodIn_app (goodIn_of _ (by decide +kernel)) ggX11_crash_X5_voidAll
set_option maxRecDepth 20000 in
theorem ggX11_crash_X3_loseIndex : GoodIn wsX11_crash wsX3_loseIndex := goodIn_ca (goodIn_r _ [47, 48, 76, 77, 78, 79, 80] (by decide +kernel) (by decide +kernel)) (goodIn_sub (fun _ h => List.mem_cons_of_mem _ (List.mem_append_right _ h)) (by decide +kernel))
set_option maxRecDepth 20000 in
theorem gX11_crash_X3_loseIndex : GoodIn wsX11_crash (wsV RX11 277 RX3 yX3_loseIndex wsX3_loseIndex) := goodIn_app (goodIn_of _ (by decide +kernel)) ggX11_crash_X3_loseIndex
theorem dX11_crash_0 : decode cX11_crash 0 = .ok (.aload_n 0, 1) := by decide +kernel
theorem dX11_crash_1 : decode cX11_crash 1 = .ok (.invokevirtual 103, 3) := by decide +kernel
theorem dX11_crash_4 : decode cX11_crash 4 = .ok (.aload_n 0, 1) := by decide +kernel
theorem dX11_crash_5 : decode cX11_crash 5 = .ok (.getfield 40, 3) := by decide +kernel
theorem dX11_crash_8 : decode cX11_crash 8 = .ok (.invokevirtual 266, 3) := by decide +kernel
theorem dX11_crash_11 : decode cX11_crash 11 = .ok (.istore_n 1, 1) := by decide +kernel
theorem dX11_crash_12 : decode cX11_crash 12 = .ok (.aload_n 0, 1) := by decide +kernel
theorem dX11_crash_13 : decode cX11_crash 13 = .ok (.getfield 40, 3) := by decide +kernel
theorem dX11_crash_16 : decode cX11_crash 16 = .ok (.invokevirtual 270, 3) := by decide +kernel
theorem dX11_crash_19 : decode cX11_crash 19 = .ok (.aload_n 0, 1) := by decide +kernel
theorem dX11_crash_20 : decode cX11_crash 20 = .ok (.getfield 33, 3) := by decide +kernel
theorem dX11_crash_23 : decode cX11_crash 23 = .ok (.invokevirtual 273, 3) := by decide +kernel
theorem dX11_crash_26 : decode cX11_crash 26 = .ok (.aload_n 0, 1) := by decide +kernel
theorem dX11_crash_27 : decode cX11_crash 27 = .ok (.getfield 61, 3) := by decide +kernel
theorem dX11_crash_30 : decode cX11_crash 30 = .ok (.invokevirtual 274, 3) := by decide +kernel
theorem dX11_crash_33 : decode cX11_crash 33 = .ok (.aload_n 0, 1) := by decide +kernel
theorem dX11_crash_34 : decode cX11_crash 34 = .ok (.getfield 47, 3) := by decide +kernel
theorem dX11_crash_37 : decode cX11_crash 37 = .ok (.invokevirtual 277, 3) := by decide +kernel
theorem dX11_crash_40 : decode cX11_crash 40 = .ok (.aload_n 0, 1) := by decide +kernel
theorem dX11_crash_41 : decode cX11_crash 41 = .ok (.iconst 1, 1) := by decide +kernel
theorem dX11_crash_42 : decode cX11_crash 42 = .ok (.putfield 92, 3) := by decide +kernel
theorem dX11_crash_45 : decode cX11_crash 45 = .ok (.iload_n 1, 1) := by decide +kernel
theorem dX11_crash_46 : decode cX11_crash 46 = .ok (.ireturn, 1) := by decide +kernel
set_option maxRecDepth 20000 in
theorem ggX11_recover_X11_keepPromises : GoodIn wsX11_recover wsX11_keepPromises := goodIn_ca (goodIn_r _ [10, 11, 5, 12, 13, 14, 15, 16, 17, 18, 19, 20, 21, 22, 23, 24, 25, 26, 27, 28, 9, 29, 30, 31, 32, 33, 34, 35, 36, 37, 38, 39, 40, 41, 42, 43, 44, 45, 46, 47, 48, 49, 50, 51, 52, 53, 54, 55, 56, 57, 58, 59, 60, 61, 62, 63, 64, 65, 66, 67, 145, 146, 147, 148, 149, 150, 151, 152, 153, 154, 155, 156, 157, 158, 159, 160, 161, 162, 163, 164, 165, 166, 167, 168, 169, 170, 171, 172, 173, 174, 175, 176, 177, 178, 179, 180, 181, 182, 183, 184, 185, 186] (by decide +kernel) (by decide +kernel)) (goodIn_sub (fun _ h => List.mem_cons_of_mem _ (List.mem_append_right _ h)) (by decide +kernel))
set_option maxRecDepth 20000 in
theorem gX11_recover_X11_keepPromises : GoodIn wsX11_recover (wsV RX11 258 RX11 yX11_keepPromises wsX11_keepPromises) := goodIn_app (goodIn_of _ (by decide +kernel)) ggX11_recover_X11_keepPromises
set_option maxRecDepth 20000 in
theorem ggX11_recover_X3_readAgain : GoodIn wsX11_recover wsX3_readAgain := goodIn_ca (goodIn_r _ [72, 73, 74, 75, 76, 77, 78, 79, 80, 81, 82, 83, 84, 187, 188, 189, 190, 191, 171, 172, 173, 174, 162, 163, 164, 165] (by decide +kernel) (by decide +kernel)) (goodIn_sub (fun _ h => List.mem_cons_of_mem _ (List.mem_append_right _ h)) (by decide +kernel))
set_option maxRecDepth 20000 in
theorem gX11_recover_X3_readAgain : GoodIn wsX11_recover (wsV RX11 282 RX3 yX3_readAgain wsX3_readAgain) := goodIn_app (goodIn_of _ (by decide +kernel)) ggX11_recover_X3_readAgain
set_option maxRecDepth 20000 in
theorem ggX11_recover_X11_comeAgain : GoodIn wsX11_recover wsX11_comeAgain := goodIn_ca (goodIn_r _ [88, 89, 90, 31, 91, 5, 92, 93, 4, 94, 95, 96, 97, 98, 99, 100, 101, 102, 103, 104, 105, 106, 9, 107, 108, 109, 110, 111, 112, 35, 113, 114, 115, 116, 117, 118, 119, 120, 121, 122, 123, 124, 125, 126, 127, 128, 129, 130, 131, 132, 133, 134, 135, 136, 137, 138, 139, 140, 145, 146, 147, 148, 149, 150, 151, 152, 153, 154, 155, 156, 157, 192, 193, 194, 195, 196, 166, 167, 168, 169, 170, 162, 163, 164, 165, 187, 188, 189, 190, 191, 171, 172, 173, 174] (by decide +kernel) (by decide +kernel)) (goodIn_sub (fun _ h => List.mem_cons_of_mem _ (List.mem_append_right _ h)) (by decide +kernel))
set_option maxRecDepth 20000 in
theorem gX11_recover_X11_comeAgain : GoodIn wsX11_recover (wsV RX11 286 RX11 yX11_comeAgain wsX11_comeAgain) := goodIn_app (goodIn_of _ (by decide +kernel)) ggX11_recover_X11_comeAgain
set_option maxRecDepth 20000 in
theorem ggX11_recover_X3_indexed : GoodIn wsX11_recover wsX3_indexed := goodIn_ca (goodIn_r _ [144, 75, 187, 188, 189, 190, 191] (by decide +kernel) (by decide +kernel)) (goodIn_sub (fun _ h => List.mem_cons_of_mem _ (List.mem_append_right _ h)) (by decide +kernel))
set_option maxRecDepth 20000 in
theorem gX11_recover_X3_indexed : GoodIn wsX11_recover (wsV RX11 289 RX3 yX3_indexed wsX3_indexed) := goodIn_app (goodIn_of _ (by decide +kernel)) ggX11_recover_X3_indexed
theorem dX11_recover_0 : decode cX11_recover 0 = .ok (.aload_n 0, 1) := by decide +kernel
theorem dX11_recover_1 : decode cX11_recover 1 = .ok (.getfield 92, 3) := by decide +kernel
theorem dX11_recover_4 : decode cX11_recover 4 = .ok (.ifCond .ne 14, 3) := by decide +kernel
theorem dX11_recover_7 : decode cX11_recover 7 = .ok (.new 114, 3) := by decide +kernel
theorem dX11_recover_10 : decode cX11_recover 10 = .ok (.dup, 1) := by decide +kernel
theorem dX11_recover_11 : decode cX11_recover 11 = .ok (.ldc_w 280, 3) := by decide +kernel
theorem dX11_recover_14 : decode cX11_recover 14 = .ok (.invokespecial 118, 3) := by decide +kernel
theorem dX11_recover_17 : decode cX11_recover 17 = .ok (.athrow, 1) := by decide +kernel
theorem dX11_recover_18 : decode cX11_recover 18 = .ok (.aload_n 0, 1) := by decide +kernel
theorem dX11_recover_19 : decode cX11_recover 19 = .ok (.sipush 5003, 3) := by decide +kernel
theorem dX11_recover_22 : decode cX11_recover 22 = .ok (.iconst (-1), 1) := by decide +kernel
theorem dX11_recover_23 : decode cX11_recover 23 = .ok (.invokevirtual 258, 3) := by decide +kernel
theorem dX11_recover_26 : decode cX11_recover 26 = .ok (.pop, 1) := by decide +kernel
theorem dX11_recover_27 : decode cX11_recover 27 = .ok (.aload_n 0, 1) := by decide +kernel
theorem dX11_recover_28 : decode cX11_recover 28 = .ok (.getfield 47, 3) := by decide +kernel
theorem dX11_recover_31 : decode cX11_recover 31 = .ok (.aload_n 0, 1) := by decide +kernel
theorem dX11_recover_32 : decode cX11_recover 32 = .ok (.getfield 12, 3) := by decide +kernel
theorem dX11_recover_35 : decode cX11_recover 35 = .ok (.invokevirtual 282, 3) := by decide +kernel
theorem dX11_recover_38 : decode cX11_recover 38 = .ok (.aload_n 0, 1) := by decide +kernel
theorem dX11_recover_39 : decode cX11_recover 39 = .ok (.invokevirtual 286, 3) := by decide +kernel
theorem dX11_recover_42 : decode cX11_recover 42 = .ok (.aload_n 0, 1) := by decide +kernel
theorem dX11_recover_43 : decode cX11_recover 43 = .ok (.iconst 0, 1) := by decide +kernel
theorem dX11_recover_44 : decode cX11_recover 44 = .ok (.putfield 92, 3) := by decide +kernel
theorem dX11_recover_47 : decode cX11_recover 47 = .ok (.aload_n 0, 1) := by decide +kernel
theorem dX11_recover_48 : decode cX11_recover 48 = .ok (.getfield 47, 3) := by decide +kernel
theorem dX11_recover_51 : decode cX11_recover 51 = .ok (.invokevirtual 289, 3) := by decide +kernel
theorem dX11_recover_54 : decode cX11_recover 54 = .ok (.ireturn, 1) := by decide +kernel
theorem dX11_minute_0 : decode cX11_minute 0 = .ok (.aload_n 0, 1) := by decide +kernel
theorem dX11_minute_1 : decode cX11_minute 1 = .ok (.getfield 88, 3) := by decide +kernel
theorem dX11_minute_4 : decode cX11_minute 4 = .ok (.ireturn, 1) := by decide +kernel
set_option maxRecDepth 20000 in
theorem ggX11_where_X11_requireKey : GoodIn wsX11_where wsX11_requireKey := goodIn_ca (goodIn_r _ [10, 11, 12] (by decide +kernel) (by decide +kernel)) (goodIn_sub (fun _ h => List.mem_cons_of_mem _ (List.mem_append_right _ h)) (by decide +kernel))
set_option maxRecDepth 20000 in
theorem gX11_where_X11_requireKey : GoodIn wsX11_where (va_wsS RX11 96 yX11_requireKey wsX11_requireKey) := goodIn_app (goodIn_of _ (by decide +kernel)) ggX11_where_X11_requireKey
theorem dX11_where_0 : decode cX11_where 0 = .ok (.iload_n 1, 1) := by decide +kernel
theorem dX11_where_1 : decode cX11_where 1 = .ok (.invokestatic 96, 3) := by decide +kernel
theorem dX11_where_4 : decode cX11_where 4 = .ok (.aload_n 0, 1) := by decide +kernel
theorem dX11_where_5 : decode cX11_where 5 = .ok (.getfield 40, 3) := by decide +kernel
theorem dX11_where_8 : decode cX11_where 8 = .ok (.getfield 292, 3) := by decide +kernel
theorem dX11_where_11 : decode cX11_where 11 = .ok (.iload_n 1, 1) := by decide +kernel
theorem dX11_where_12 : decode cX11_where 12 = .ok (.baload, 1) := by decide +kernel
theorem dX11_where_13 : decode cX11_where 13 = .ok (.ifCond .eq 23, 3) := by decide +kernel
theorem dX11_where_16 : decode cX11_where 16 = .ok (.aload_n 0, 1) := by decide +kernel
theorem dX11_where_17 : decode cX11_where 17 = .ok (.getfield 54, 3) := by decide +kernel
theorem dX11_where_20 : decode cX11_where 20 = .ok (.getfield 238, 3) := by decide +kernel
theorem dX11_where_23 : decode cX11_where 23 = .ok (.iload_n 1, 1) := by decide +kernel
theorem dX11_where_24 : decode cX11_where 24 = .ok (.baload, 1) := by decide +kernel
theorem dX11_where_25 : decode cX11_where 25 = .ok (.ifCond .eq 8, 3) := by decide +kernel
theorem dX11_where_28 : decode cX11_where 28 = .ok (.bipush 112, 2) := by decide +kernel
theorem dX11_where_30 : decode cX11_where 30 = .ok (.goto 5, 3) := by decide +kernel
theorem dX11_where_33 : decode cX11_where 33 = .ok (.bipush 109, 2) := by decide +kernel
theorem dX11_where_35 : decode cX11_where 35 = .ok (.ireturn, 1) := by decide +kernel
theorem dX11_where_36 : decode cX11_where 36 = .ok (.aload_n 0, 1) := by decide +kernel
theorem dX11_where_37 : decode cX11_where 37 = .ok (.getfield 47, 3) := by decide +kernel
theorem dX11_where_40 : decode cX11_where 40 = .ok (.getfield 295, 3) := by decide +kernel
theorem dX11_where_43 : decode cX11_where 43 = .ok (.iload_n 1, 1) := by decide +kernel
theorem dX11_where_44 : decode cX11_where 44 = .ok (.iaload, 1) := by decide +kernel
theorem dX11_where_45 : decode cX11_where 45 = .ok (.iconst (-1), 1) := by decide +kernel
theorem dX11_where_46 : decode cX11_where 46 = .ok (.if_icmp .ne 8, 3) := by decide +kernel
theorem dX11_where_49 : decode cX11_where 49 = .ok (.bipush 45, 2) := by decide +kernel
theorem dX11_where_51 : decode cX11_where 51 = .ok (.goto 5, 3) := by decide +kernel
theorem dX11_where_54 : decode cX11_where 54 = .ok (.bipush 102, 2) := by decide +kernel
theorem dX11_where_56 : decode cX11_where 56 = .ok (.ireturn, 1) := by decide +kernel
theorem dX11_used_0 : decode cX11_used 0 = .ok (.aload_n 0, 1) := by decide +kernel
theorem dX11_used_1 : decode cX11_used 1 = .ok (.getfield 40, 3) := by decide +kernel
theorem dX11_used_4 : decode cX11_used 4 = .ok (.getfield 298, 3) := by decide +kernel
theorem dX11_used_7 : decode cX11_used 7 = .ok (.ireturn, 1) := by decide +kernel
set_option maxRecDepth 20000 in
theorem ggX11_estimate_X11_requireKey : GoodIn wsX11_estimate wsX11_requireKey := goodIn_ca (goodIn_r _ [5, 6, 7] (by decide +kernel) (by decide +kernel)) (goodIn_sub (fun _ h => List.mem_cons_of_mem _ (List.mem_append_left _ (List.mem_append_right _ h))) (by decide +kernel))
set_option maxRecDepth 20000 in
theorem gX11_estimate_X11_requireKey : GoodIn wsX11_estimate (va_wsS RX11 96 yX11_requireKey wsX11_requireKey) := goodIn_app (goodIn_of _ (by decide +kernel)) ggX11_estimate_X11_requireKey
set_option maxRecDepth 20000 in
theorem ggX11_estimate_X9_leastOf : GoodIn wsX11_estimate wsX9_leastOf := goodIn_ca (goodIn_r _ [12, 13, 14, 15, 11, 16, 30, 31] (by decide +kernel) (by decide +kernel)) (goodIn_sub (fun _ h => List.mem_cons_of_mem _ (List.mem_append_right _ h)) (by decide +kernel))
set_option maxRecDepth 20000 in
theorem gX11_estimate_X9_leastOf : GoodIn wsX11_estimate (wsV RX11 301 RX9 yX9_leastOf wsX9_leastOf) := goodIn_app (goodIn_of _ (by decide +kernel)) ggX11_estimate_X9_leastOf
theorem dX11_estimate_0 : decode cX11_estimate 0 = .ok (.iload_n 1, 1) := by decide +kernel
theorem dX11_estimate_1 : decode cX11_estimate 1 = .ok (.invokestatic 96, 3) := by decide +kernel
theorem dX11_estimate_4 : decode cX11_estimate 4 = .ok (.aload_n 0, 1) := by decide +kernel
theorem dX11_estimate_5 : decode cX11_estimate 5 = .ok (.getfield 33, 3) := by decide +kernel
theorem dX11_estimate_8 : decode cX11_estimate 8 = .ok (.iload_n 1, 1) := by decide +kernel
theorem dX11_estimate_9 : decode cX11_estimate 9 = .ok (.invokevirtual 301, 3) := by decide +kernel
theorem dX11_estimate_12 : decode cX11_estimate 12 = .ok (.ireturn, 1) := by decide +kernel
set_option maxRecDepth 20000 in
theorem ggX11_versionOf_X11_requireKey : GoodIn wsX11_versionOf wsX11_requireKey := goodIn_ca (goodIn_r _ [13, 14, 15] (by decide +kernel) (by decide +kernel)) (goodIn_sub (fun _ h => List.mem_cons_of_mem _ (List.mem_append_right _ h)) (by decide +kernel))
set_option maxRecDepth 20000 in
theorem gX11_versionOf_X11_requireKey : GoodIn wsX11_versionOf (va_wsS RX11 96 yX11_requireKey wsX11_requireKey) := goodIn_app (goodIn_of _ (by decide +kernel)) ggX11_versionOf_X11_requireKey
set_option maxRecDepth 20000 in
theorem ggX11_versionOf_X11_isKept : GoodIn wsX11_versionOf wsX11_isKept := goodIn_ca (goodIn_r _ [19, 3, 4, 7, 9, 20, 21, 22, 23, 24, 25, 26, 27, 28, 29, 30, 31, 32, 33, 34, 35, 36, 37, 42, 43, 44, 45, 46] (by decide +kernel) (by decide +kernel)) (goodIn_sub (fun _ h => List.mem_cons_of_mem _ (List.mem_append_left _ (List.mem_append_right _ h))) (by decide +kernel))
set_option maxRecDepth 20000 in
theorem gX11_versionOf_X11_isKept : GoodIn wsX11_versionOf (wsV RX11 106 RX11 yX11_isKept wsX11_isKept) := goodIn_app (goodIn_of _ (by decide +kernel)) ggX11_versionOf_X11_isKept
theorem dX11_versionOf_0 : decode cX11_versionOf 0 = .ok (.iload_n 1, 1) := by decide +kernel
theorem dX11_versionOf_1 : decode cX11_versionOf 1 = .ok (.invokestatic 96, 3) := by decide +kernel
theorem dX11_versionOf_4 : decode cX11_versionOf 4 = .ok (.aload_n 0, 1) := by decide +kernel
theorem dX11_versionOf_5 : decode cX11_versionOf 5 = .ok (.iload_n 1, 1) := by decide +kernel
theorem dX11_versionOf_6 : decode cX11_versionOf 6 = .ok (.invokevirtual 106, 3) := by decide +kernel
theorem dX11_versionOf_9 : decode cX11_versionOf 9 = .ok (.ifCond .ne 14, 3) := by decide +kernel
theorem dX11_versionOf_12 : decode cX11_versionOf 12 = .ok (.new 161, 3) := by decide +kernel
theorem dX11_versionOf_15 : decode cX11_versionOf 15 = .ok (.dup, 1) := by decide +kernel
theorem dX11_versionOf_16 : decode cX11_versionOf 16 = .ok (.ldc_w 304, 3) := by decide +kernel
theorem dX11_versionOf_19 : decode cX11_versionOf 19 = .ok (.invokespecial 165, 3) := by decide +kernel
theorem dX11_versionOf_22 : decode cX11_versionOf 22 = .ok (.athrow, 1) := by decide +kernel
theorem dX11_versionOf_23 : decode cX11_versionOf 23 = .ok (.aload_n 0, 1) := by decide +kernel
theorem dX11_versionOf_24 : decode cX11_versionOf 24 = .ok (.getfield 40, 3) := by decide +kernel
theorem dX11_versionOf_27 : decode cX11_versionOf 27 = .ok (.getfield 292, 3) := by decide +kernel
theorem dX11_versionOf_30 : decode cX11_versionOf 30 = .ok (.iload_n 1, 1) := by decide +kernel
theorem dX11_versionOf_31 : decode cX11_versionOf 31 = .ok (.baload, 1) := by decide +kernel
theorem dX11_versionOf_32 : decode cX11_versionOf 32 = .ok (.ifCond .eq 18, 3) := by decide +kernel
theorem dX11_versionOf_35 : decode cX11_versionOf 35 = .ok (.aload_n 0, 1) := by decide +kernel
theorem dX11_versionOf_36 : decode cX11_versionOf 36 = .ok (.getfield 40, 3) := by decide +kernel
theorem dX11_versionOf_39 : decode cX11_versionOf 39 = .ok (.getfield 306, 3) := by decide +kernel
theorem dX11_versionOf_42 : decode cX11_versionOf 42 = .ok (.getfield 307, 3) := by decide +kernel
theorem dX11_versionOf_45 : decode cX11_versionOf 45 = .ok (.iload_n 1, 1) := by decide +kernel
theorem dX11_versionOf_46 : decode cX11_versionOf 46 = .ok (.iaload, 1) := by decide +kernel
theorem dX11_versionOf_47 : decode cX11_versionOf 47 = .ok (.goto 23, 3) := by decide +kernel
theorem dX11_versionOf_50 : decode cX11_versionOf 50 = .ok (.aload_n 0, 1) := by decide +kernel
theorem dX11_versionOf_51 : decode cX11_versionOf 51 = .ok (.getfield 47, 3) := by decide +kernel
theorem dX11_versionOf_54 : decode cX11_versionOf 54 = .ok (.getfield 308, 3) := by decide +kernel
theorem dX11_versionOf_57 : decode cX11_versionOf 57 = .ok (.getfield 307, 3) := by decide +kernel
theorem dX11_versionOf_60 : decode cX11_versionOf 60 = .ok (.aload_n 0, 1) := by decide +kernel
theorem dX11_versionOf_61 : decode cX11_versionOf 61 = .ok (.getfield 47, 3) := by decide +kernel
theorem dX11_versionOf_64 : decode cX11_versionOf 64 = .ok (.getfield 295, 3) := by decide +kernel
theorem dX11_versionOf_67 : decode cX11_versionOf 67 = .ok (.iload_n 1, 1) := by decide +kernel
theorem dX11_versionOf_68 : decode cX11_versionOf 68 = .ok (.iaload, 1) := by decide +kernel
theorem dX11_versionOf_69 : decode cX11_versionOf 69 = .ok (.iaload, 1) := by decide +kernel
theorem dX11_versionOf_70 : decode cX11_versionOf 70 = .ok (.ireturn, 1) := by decide +kernel
set_option maxRecDepth 20000 in
theorem ggX11_slot_X11_requireSegment : GoodIn wsX11_slot wsX11_requireSegment := goodIn_ca (goodIn_r _ [8, 1, 2] (by decide +kernel) (by decide +kernel)) (goodIn_sub (fun _ h => List.mem_cons_of_mem _ (List.mem_append_left _ (List.mem_append_right _ h))) (by decide +kernel))
set_option maxRecDepth 20000 in
theorem gX11_slot_X11_requireSegment : GoodIn wsX11_slot (va_wsS RX11 309 yX11_requireSegment wsX11_requireSegment) := goodIn_app (goodIn_of _ (by decide +kernel)) ggX11_slot_X11_requireSegment
theorem dX11_slot_0 : decode cX11_slot 0 = .ok (.iload_n 1, 1) := by decide +kernel
theorem dX11_slot_1 : decode cX11_slot 1 = .ok (.invokestatic 309, 3) := by decide +kernel
theorem dX11_slot_4 : decode cX11_slot 4 = .ok (.iload_n 2, 1) := by decide +kernel
theorem dX11_slot_5 : decode cX11_slot 5 = .ok (.ifCond .lt 8, 3) := by decide +kernel
theorem dX11_slot_8 : decode cX11_slot 8 = .ok (.iload_n 2, 1) := by decide +kernel
theorem dX11_slot_9 : decode cX11_slot 9 = .ok (.iconst 4, 1) := by decide +kernel
theorem dX11_slot_10 : decode cX11_slot 10 = .ok (.if_icmp .lt 14, 3) := by decide +kernel
theorem dX11_slot_13 : decode cX11_slot 13 = .ok (.new 253, 3) := by decide +kernel
theorem dX11_slot_16 : decode cX11_slot 16 = .ok (.dup, 1) := by decide +kernel
theorem dX11_slot_17 : decode cX11_slot 17 = .ok (.ldc_w 312, 3) := by decide +kernel
theorem dX11_slot_20 : decode cX11_slot 20 = .ok (.invokespecial 257, 3) := by decide +kernel
theorem dX11_slot_23 : decode cX11_slot 23 = .ok (.athrow, 1) := by decide +kernel
theorem dX11_slot_24 : decode cX11_slot 24 = .ok (.aload_n 0, 1) := by decide +kernel
theorem dX11_slot_25 : decode cX11_slot 25 = .ok (.getfield 47, 3) := by decide +kernel
theorem dX11_slot_28 : decode cX11_slot 28 = .ok (.getfield 314, 3) := by decide +kernel
theorem dX11_slot_31 : decode cX11_slot 31 = .ok (.iload_n 1, 1) := by decide +kernel
theorem dX11_slot_32 : decode cX11_slot 32 = .ok (.iconst 4, 1) := by decide +kernel
theorem dX11_slot_33 : decode cX11_slot 33 = .ok (.imul, 1) := by decide +kernel
theorem dX11_slot_34 : decode cX11_slot 34 = .ok (.iload_n 2, 1) := by decide +kernel
theorem dX11_slot_35 : decode cX11_slot 35 = .ok (.iadd, 1) := by decide +kernel
theorem dX11_slot_36 : decode cX11_slot 36 = .ok (.iaload, 1) := by decide +kernel
theorem dX11_slot_37 : decode cX11_slot 37 = .ok (.ireturn, 1) := by decide +kernel
set_option maxRecDepth 20000 in
theorem ggX11_wear_X11_requireSegment : GoodIn wsX11_wear wsX11_requireSegment := goodIn_ca (goodIn_r _ [6, 7, 8] (by decide +kernel) (by decide +kernel)) (goodIn_sub (fun _ h => List.mem_cons_of_mem _ (List.mem_append_right _ h)) (by decide +kernel))
set_option maxRecDepth 20000 in
theorem gX11_wear_X11_requireSegment : GoodIn wsX11_wear (va_wsS RX11 309 yX11_requireSegment wsX11_requireSegment) := goodIn_app (goodIn_of _ (by decide +kernel)) ggX11_wear_X11_requireSegment
theorem dX11_wear_0 : decode cX11_wear 0 = .ok (.iload_n 1, 1) := by decide +kernel
theorem dX11_wear_1 : decode cX11_wear 1 = .ok (.invokestatic 309, 3) := by decide +kernel
theorem dX11_wear_4 : decode cX11_wear 4 = .ok (.aload_n 0, 1) := by decide +kernel
theorem dX11_wear_5 : decode cX11_wear 5 = .ok (.getfield 47, 3) := by decide +kernel
theorem dX11_wear_8 : decode cX11_wear 8 = .ok (.getfield 317, 3) := by decide +kernel
theorem dX11_wear_11 : decode cX11_wear 11 = .ok (.iload_n 1, 1) := by decide +kernel
theorem dX11_wear_12 : decode cX11_wear 12 = .ok (.iaload, 1) := by decide +kernel
theorem dX11_wear_13 : decode cX11_wear 13 = .ok (.ireturn, 1) := by decide +kernel
set_option maxRecDepth 20000 in
theorem ggX11_stored_X11_requireKey : GoodIn wsX11_stored wsX11_requireKey := goodIn_ca (goodIn_r _ [6, 7, 8] (by decide +kernel) (by decide +kernel)) (goodIn_sub (fun _ h => List.mem_cons_of_mem _ (List.mem_append_right _ h)) (by decide +kernel))
set_option maxRecDepth 20000 in
theorem gX11_stored_X11_requireKey : GoodIn wsX11_stored (va_wsS RX11 96 yX11_requireKey wsX11_requireKey) := goodIn_app (goodIn_of _ (by decide +kernel)) ggX11_stored_X11_requireKey
theorem dX11_stored_0 : decode cX11_stored 0 = .ok (.iload_n 1, 1) := by decide +kernel
theorem dX11_stored_1 : decode cX11_stored 1 = .ok (.invokestatic 96, 3) := by decide +kernel
theorem dX11_stored_4 : decode cX11_stored 4 = .ok (.aload_n 0, 1) := by decide +kernel
theorem dX11_stored_5 : decode cX11_stored 5 = .ok (.getfield 19, 3) := by decide +kernel
theorem dX11_stored_8 : decode cX11_stored 8 = .ok (.getfield 177, 3) := by decide +kernel
theorem dX11_stored_11 : decode cX11_stored 11 = .ok (.iload_n 1, 1) := by decide +kernel
theorem dX11_stored_12 : decode cX11_stored 12 = .ok (.iaload, 1) := by decide +kernel
theorem dX11_stored_13 : decode cX11_stored 13 = .ok (.ireturn, 1) := by decide +kernel
theorem dX11_promises_0 : decode cX11_promises 0 = .ok (.aload_n 0, 1) := by decide +kernel
theorem dX11_promises_1 : decode cX11_promises 1 = .ok (.getfield 54, 3) := by decide +kernel
theorem dX11_promises_4 : decode cX11_promises 4 = .ok (.getfield 219, 3) := by decide +kernel
theorem dX11_promises_7 : decode cX11_promises 7 = .ok (.ireturn, 1) := by decide +kernel
set_option maxRecDepth 20000 in
theorem ggX11_nextPromise_X8_nextOf : GoodIn wsX11_nextPromise wsX8_nextOf := goodIn_ca (goodIn_r _ [9, 10, 11, 12, 13, 14, 8, 15, 16, 17, 31, 32, 33, 34, 35, 36, 37, 38] (by decide +kernel) (by decide +kernel)) (goodIn_sub (fun _ h => List.mem_cons_of_mem _ (List.mem_append_right _ h)) (by decide +kernel))
set_option maxRecDepth 20000 in
theorem gX11_nextPromise_X8_nextOf : GoodIn wsX11_nextPromise (wsV RX11 320 RX8 yX8_nextOf wsX8_nextOf) := goodIn_app (goodIn_of _ (by decide +kernel)) ggX11_nextPromise_X8_nextOf
theorem dX11_nextPromise_0 : decode cX11_nextPromise 0 = .ok (.aload_n 0, 1) := by decide +kernel
theorem dX11_nextPromise_1 : decode cX11_nextPromise 1 = .ok (.getfield 54, 3) := by decide +kernel
theorem dX11_nextPromise_4 : decode cX11_nextPromise 4 = .ok (.aload_n 0, 1) := by decide +kernel
theorem dX11_nextPromise_5 : decode cX11_nextPromise 5 = .ok (.getfield 12, 3) := by decide +kernel
theorem dX11_nextPromise_8 : decode cX11_nextPromise 8 = .ok (.iconst (-1), 1) := by decide +kernel
theorem dX11_nextPromise_9 : decode cX11_nextPromise 9 = .ok (.invokevirtual 320, 3) := by decide +kernel
theorem dX11_nextPromise_12 : decode cX11_nextPromise 12 = .ok (.istore_n 1, 1) := by decide +kernel
theorem dX11_nextPromise_13 : decode cX11_nextPromise 13 = .ok (.iload_n 1, 1) := by decide +kernel
theorem dX11_nextPromise_14 : decode cX11_nextPromise 14 = .ok (.iconst (-1), 1) := by decide +kernel
theorem dX11_nextPromise_15 : decode cX11_nextPromise 15 = .ok (.if_icmp .ne 14, 3) := by decide +kernel
theorem dX11_nextPromise_18 : decode cX11_nextPromise 18 = .ok (.new 161, 3) := by decide +kernel
theorem dX11_nextPromise_21 : decode cX11_nextPromise 21 = .ok (.dup, 1) := by decide +kernel
theorem dX11_nextPromise_22 : decode cX11_nextPromise 22 = .ok (.ldc_w 324, 3) := by decide +kernel
theorem dX11_nextPromise_25 : decode cX11_nextPromise 25 = .ok (.invokespecial 165, 3) := by decide +kernel
theorem dX11_nextPromise_28 : decode cX11_nextPromise 28 = .ok (.athrow, 1) := by decide +kernel
theorem dX11_nextPromise_29 : decode cX11_nextPromise 29 = .ok (.iload_n 1, 1) := by decide +kernel
theorem dX11_nextPromise_30 : decode cX11_nextPromise 30 = .ok (.ireturn, 1) := by decide +kernel
theorem dX11_messages_0 : decode cX11_messages 0 = .ok (.aload_n 0, 1) := by decide +kernel
theorem dX11_messages_1 : decode cX11_messages 1 = .ok (.getfield 26, 3) := by decide +kernel
theorem dX11_messages_4 : decode cX11_messages 4 = .ok (.getfield 326, 3) := by decide +kernel
theorem dX11_messages_7 : decode cX11_messages 7 = .ok (.ireturn, 1) := by decide +kernel
set_option maxRecDepth 20000 in
theorem ggX11_deliver_X7_receive : GoodIn wsX11_deliver wsX7_receive := goodIn_ca (goodIn_r _ [9, 10, 11, 12, 13, 14, 15, 29, 30, 31, 32, 33, 34] (by decide +kernel) (by decide +kernel)) (goodIn_sub (fun _ h => List.mem_cons_of_mem _ (List.mem_append_right _ h)) (by decide +kernel))
set_option maxRecDepth 20000 in
theorem gX11_deliver_X7_receive : GoodIn wsX11_deliver (wsV RX11 329 RX7 yX7_receive wsX7_receive) := goodIn_app (goodIn_of _ (by decide +kernel)) ggX11_deliver_X7_receive
theorem dX11_deliver_0 : decode cX11_deliver 0 = .ok (.iload_n 1, 1) := by decide +kernel
theorem dX11_deliver_1 : decode cX11_deliver 1 = .ok (.ifCond .lt 14, 3) := by decide +kernel
theorem dX11_deliver_4 : decode cX11_deliver 4 = .ok (.iload_n 1, 1) := by decide +kernel
theorem dX11_deliver_5 : decode cX11_deliver 5 = .ok (.aload_n 0, 1) := by decide +kernel
theorem dX11_deliver_6 : decode cX11_deliver 6 = .ok (.getfield 26, 3) := by decide +kernel
theorem dX11_deliver_9 : decode cX11_deliver 9 = .ok (.getfield 326, 3) := by decide +kernel
theorem dX11_deliver_12 : decode cX11_deliver 12 = .ok (.if_icmp .lt 14, 3) := by decide +kernel
theorem dX11_deliver_15 : decode cX11_deliver 15 = .ok (.new 253, 3) := by decide +kernel
theorem dX11_deliver_18 : decode cX11_deliver 18 = .ok (.dup, 1) := by decide +kernel
theorem dX11_deliver_19 : decode cX11_deliver 19 = .ok (.ldc_w 327, 3) := by decide +kernel
theorem dX11_deliver_22 : decode cX11_deliver 22 = .ok (.invokespecial 257, 3) := by decide +kernel
theorem dX11_deliver_25 : decode cX11_deliver 25 = .ok (.athrow, 1) := by decide +kernel
theorem dX11_deliver_26 : decode cX11_deliver 26 = .ok (.aload_n 0, 1) := by decide +kernel
theorem dX11_deliver_27 : decode cX11_deliver 27 = .ok (.getfield 26, 3) := by decide +kernel
theorem dX11_deliver_30 : decode cX11_deliver 30 = .ok (.iload_n 1, 1) := by decide +kernel
theorem dX11_deliver_31 : decode cX11_deliver 31 = .ok (.invokevirtual 329, 3) := by decide +kernel
theorem dX11_deliver_34 : decode cX11_deliver 34 = .ok (.ireturn, 1) := by decide +kernel
set_option maxRecDepth 20000 in
theorem ggX11_mirrored_X11_requireKey : GoodIn wsX11_mirrored wsX11_requireKey := goodIn_ca (goodIn_r _ [6, 7, 8] (by decide +kernel) (by decide +kernel)) (goodIn_sub (fun _ h => List.mem_cons_of_mem _ (List.mem_append_right _ h)) (by decide +kernel))
set_option maxRecDepth 20000 in
theorem gX11_mirrored_X11_requireKey : GoodIn wsX11_mirrored (va_wsS RX11 96 yX11_requireKey wsX11_requireKey) := goodIn_app (goodIn_of _ (by decide +kernel)) ggX11_mirrored_X11_requireKey
theorem dX11_mirrored_0 : decode cX11_mirrored 0 = .ok (.iload_n 1, 1) := by decide +kernel
theorem dX11_mirrored_1 : decode cX11_mirrored 1 = .ok (.invokestatic 96, 3) := by decide +kernel
theorem dX11_mirrored_4 : decode cX11_mirrored 4 = .ok (.aload_n 0, 1) := by decide +kernel
theorem dX11_mirrored_5 : decode cX11_mirrored 5 = .ok (.getfield 26, 3) := by decide +kernel
theorem dX11_mirrored_8 : decode cX11_mirrored 8 = .ok (.getfield 332, 3) := by decide +kernel
theorem dX11_mirrored_11 : decode cX11_mirrored 11 = .ok (.iload_n 1, 1) := by decide +kernel
theorem dX11_mirrored_12 : decode cX11_mirrored 12 = .ok (.iaload, 1) := by decide +kernel
theorem dX11_mirrored_13 : decode cX11_mirrored 13 = .ok (.ireturn, 1) := by decide +kernel
theorem dX11_paid_0 : decode cX11_paid 0 = .ok (.aload_n 0, 1) := by decide +kernel
theorem dX11_paid_1 : decode cX11_paid 1 = .ok (.getfield 61, 3) := by decide +kernel
theorem dX11_paid_4 : decode cX11_paid 4 = .ok (.getfield 333, 3) := by decide +kernel
theorem dX11_paid_7 : decode cX11_paid 7 = .ok (.lreturn, 1) := by decide +kernel
theorem dX11_answeredShare_0 : decode cX11_answeredShare 0 = .ok (.aload_n 0, 1) := by decide +kernel
theorem dX11_answeredShare_1 : decode cX11_answeredShare 1 = .ok (.getfield 68, 3) := by decide +kernel
theorem dX11_answeredShare_4 : decode cX11_answeredShare 4 = .ok (.getfield 336, 3) := by decide +kernel
theorem dX11_answeredShare_7 : decode cX11_answeredShare 7 = .ok (.ifCond .ne 14, 3) := by decide +kernel
theorem dX11_answeredShare_10 : decode cX11_answeredShare 10 = .ok (.new 339, 3) := by decide +kernel
theorem dX11_answeredShare_13 : decode cX11_answeredShare 13 = .ok (.dup, 1) := by decide +kernel
theorem dX11_answeredShare_14 : decode cX11_answeredShare 14 = .ok (.ldc_w 341, 3) := by decide +kernel
theorem dX11_answeredShare_17 : decode cX11_answeredShare 17 = .ok (.invokespecial 343, 3) := by decide +kernel
theorem dX11_answeredShare_20 : decode cX11_answeredShare 20 = .ok (.athrow, 1) := by decide +kernel
theorem dX11_answeredShare_21 : decode cX11_answeredShare 21 = .ok (.aload_n 0, 1) := by decide +kernel
theorem dX11_answeredShare_22 : decode cX11_answeredShare 22 = .ok (.getfield 68, 3) := by decide +kernel
theorem dX11_answeredShare_25 : decode cX11_answeredShare 25 = .ok (.getfield 344, 3) := by decide +kernel
theorem dX11_answeredShare_28 : decode cX11_answeredShare 28 = .ok (.i2f, 1) := by decide +kernel
theorem dX11_answeredShare_29 : decode cX11_answeredShare 29 = .ok (.aload_n 0, 1) := by decide +kernel
theorem dX11_answeredShare_30 : decode cX11_answeredShare 30 = .ok (.getfield 68, 3) := by decide +kernel
theorem dX11_answeredShare_33 : decode cX11_answeredShare 33 = .ok (.getfield 336, 3) := by decide +kernel
theorem dX11_answeredShare_36 : decode cX11_answeredShare 36 = .ok (.i2f, 1) := by decide +kernel
theorem dX11_answeredShare_37 : decode cX11_answeredShare 37 = .ok (.fdiv, 1) := by decide +kernel
theorem dX11_answeredShare_38 : decode cX11_answeredShare 38 = .ok (.freturn, 1) := by decide +kernel
theorem dX11_meanStaleness_0 : decode cX11_meanStaleness 0 = .ok (.aload_n 0, 1) := by decide +kernel
theorem dX11_meanStaleness_1 : decode cX11_meanStaleness 1 = .ok (.getfield 68, 3) := by decide +kernel
theorem dX11_meanStaleness_4 : decode cX11_meanStaleness 4 = .ok (.getfield 344, 3) := by decide +kernel
theorem dX11_meanStaleness_7 : decode cX11_meanStaleness 7 = .ok (.ifCond .ne 14, 3) := by decide +kernel
theorem dX11_meanStaleness_10 : decode cX11_meanStaleness 10 = .ok (.new 339, 3) := by decide +kernel
theorem dX11_meanStaleness_13 : decode cX11_meanStaleness 13 = .ok (.dup, 1) := by decide +kernel
theorem dX11_meanStaleness_14 : decode cX11_meanStaleness 14 = .ok (.ldc_w 347, 3) := by decide +kernel
theorem dX11_meanStaleness_17 : decode cX11_meanStaleness 17 = .ok (.invokespecial 343, 3) := by decide +kernel
theorem dX11_meanStaleness_20 : decode cX11_meanStaleness 20 = .ok (.athrow, 1) := by decide +kernel
theorem dX11_meanStaleness_21 : decode cX11_meanStaleness 21 = .ok (.aload_n 0, 1) := by decide +kernel
theorem dX11_meanStaleness_22 : decode cX11_meanStaleness 22 = .ok (.getfield 68, 3) := by decide +kernel
theorem dX11_meanStaleness_25 : decode cX11_meanStaleness 25 = .ok (.getfield 349, 3) := by decide +kernel
theorem dX11_meanStaleness_28 : decode cX11_meanStaleness 28 = .ok (.l2d, 1) := by decide +kernel
theorem dX11_meanStaleness_29 : decode cX11_meanStaleness 29 = .ok (.aload_n 0, 1) := by decide +kernel
theorem dX11_meanStaleness_30 : decode cX11_meanStaleness 30 = .ok (.getfield 68, 3) := by decide +kernel
theorem dX11_meanStaleness_33 : decode cX11_meanStaleness 33 = .ok (.getfield 344, 3) := by decide +kernel
theorem dX11_meanStaleness_36 : decode cX11_meanStaleness 36 = .ok (.i2d, 1) := by decide +kernel
theorem dX11_meanStaleness_37 : decode cX11_meanStaleness 37 = .ok (.ddiv, 1) := by decide +kernel
theorem dX11_meanStaleness_38 : decode cX11_meanStaleness 38 = .ok (.dreturn, 1) := by decide +kernel
theorem dX11_isHonest_0 : decode cX11_isHonest 0 = .ok (.iconst 0, 1) := by decide +kernel
theorem dX11_isHonest_1 : decode cX11_isHonest 1 = .ok (.istore_n 1, 1) := by decide +kernel
theorem dX11_isHonest_2 : decode cX11_isHonest 2 = .ok (.iconst 1, 1) := by decide +kernel
theorem dX11_isHonest_3 : decode cX11_isHonest 3 = .ok (.istore_n 2, 1) := by decide +kernel
theorem dX11_isHonest_4 : decode cX11_isHonest 4 = .ok (.iconst 0, 1) := by decide +kernel
theorem dX11_isHonest_5 : decode cX11_isHonest 5 = .ok (.istore_n 3, 1) := by decide +kernel
theorem dX11_isHonest_6 : decode cX11_isHonest 6 = .ok (.iload_n 3, 1) := by decide +kernel
theorem dX11_isHonest_7 : decode cX11_isHonest 7 = .ok (.bipush 32, 2) := by decide +kernel
theorem dX11_isHonest_9 : decode cX11_isHonest 9 = .ok (.if_icmp .ge 57, 3) := by decide +kernel
theorem dX11_isHonest_12 : decode cX11_isHonest 12 = .ok (.aload_n 0, 1) := by decide +kernel
theorem dX11_isHonest_13 : decode cX11_isHonest 13 = .ok (.getfield 40, 3) := by decide +kernel
theorem dX11_isHonest_16 : decode cX11_isHonest 16 = .ok (.getfield 292, 3) := by decide +kernel
theorem dX11_isHonest_19 : decode cX11_isHonest 19 = .ok (.iload_n 3, 1) := by decide +kernel
theorem dX11_isHonest_20 : decode cX11_isHonest 20 = .ok (.baload, 1) := by decide +kernel
theorem dX11_isHonest_21 : decode cX11_isHonest 21 = .ok (.ifCond .eq 18, 3) := by decide +kernel
theorem dX11_isHonest_24 : decode cX11_isHonest 24 = .ok (.iload_n 1, 1) := by decide +kernel
theorem dX11_isHonest_25 : decode cX11_isHonest 25 = .ok (.aload_n 0, 1) := by decide +kernel
theorem dX11_isHonest_26 : decode cX11_isHonest 26 = .ok (.getfield 12, 3) := by decide +kernel
theorem dX11_isHonest_29 : decode cX11_isHonest 29 = .ok (.getfield 125, 3) := by decide +kernel
theorem dX11_isHonest_32 : decode cX11_isHonest 32 = .ok (.iload_n 3, 1) := by decide +kernel
theorem dX11_isHonest_33 : decode cX11_isHonest 33 = .ok (.iaload, 1) := by decide +kernel
theorem dX11_isHonest_34 : decode cX11_isHonest 34 = .ok (.iadd, 1) := by decide +kernel
theorem dX11_isHonest_35 : decode cX11_isHonest 35 = .ok (.istore_n 1, 1) := by decide +kernel
theorem dX11_isHonest_36 : decode cX11_isHonest 36 = .ok (.goto 24, 3) := by decide +kernel
theorem dX11_isHonest_39 : decode cX11_isHonest 39 = .ok (.aload_n 0, 1) := by decide +kernel
theorem dX11_isHonest_40 : decode cX11_isHonest 40 = .ok (.getfield 54, 3) := by decide +kernel
theorem dX11_isHonest_43 : decode cX11_isHonest 43 = .ok (.getfield 238, 3) := by decide +kernel
theorem dX11_isHonest_46 : decode cX11_isHonest 46 = .ok (.iload_n 3, 1) := by decide +kernel
theorem dX11_isHonest_47 : decode cX11_isHonest 47 = .ok (.baload, 1) := by decide +kernel
theorem dX11_isHonest_48 : decode cX11_isHonest 48 = .ok (.ifCond .eq 12, 3) := by decide +kernel
theorem dX11_isHonest_51 : decode cX11_isHonest 51 = .ok (.aload_n 0, 1) := by decide +kernel
theorem dX11_isHonest_52 : decode cX11_isHonest 52 = .ok (.getfield 92, 3) := by decide +kernel
theorem dX11_isHonest_55 : decode cX11_isHonest 55 = .ok (.ifCond .ne 5, 3) := by decide +kernel
theorem dX11_isHonest_58 : decode cX11_isHonest 58 = .ok (.iconst 0, 1) := by decide +kernel
theorem dX11_isHonest_59 : decode cX11_isHonest 59 = .ok (.istore_n 2, 1) := by decide +kernel
theorem dX11_isHonest_60 : decode cX11_isHonest 60 = .ok (.iinc 3 1, 3) := by decide +kernel
theorem dX11_isHonest_63 : decode cX11_isHonest 63 = .ok (.goto (-57), 3) := by decide +kernel
theorem dX11_isHonest_66 : decode cX11_isHonest 66 = .ok (.aload_n 0, 1) := by decide +kernel
theorem dX11_isHonest_67 : decode cX11_isHonest 67 = .ok (.getfield 68, 3) := by decide +kernel
theorem dX11_isHonest_70 : decode cX11_isHonest 70 = .ok (.getfield 352, 3) := by decide +kernel
theorem dX11_isHonest_73 : decode cX11_isHonest 73 = .ok (.ifCond .ne 28, 3) := by decide +kernel
theorem dX11_isHonest_76 : decode cX11_isHonest 76 = .ok (.aload_n 0, 1) := by decide +kernel
theorem dX11_isHonest_77 : decode cX11_isHonest 77 = .ok (.getfield 40, 3) := by decide +kernel
theorem dX11_isHonest_80 : decode cX11_isHonest 80 = .ok (.getfield 298, 3) := by decide +kernel
theorem dX11_isHonest_83 : decode cX11_isHonest 83 = .ok (.iload_n 1, 1) := by decide +kernel
theorem dX11_isHonest_84 : decode cX11_isHonest 84 = .ok (.if_icmp .ne 17, 3) := by decide +kernel
theorem dX11_isHonest_87 : decode cX11_isHonest 87 = .ok (.iload_n 1, 1) := by decide +kernel
theorem dX11_isHonest_88 : decode cX11_isHonest 88 = .ok (.bipush 12, 2) := by decide +kernel
theorem dX11_isHonest_90 : decode cX11_isHonest 90 = .ok (.if_icmp .gt 11, 3) := by decide +kernel
theorem dX11_isHonest_93 : decode cX11_isHonest 93 = .ok (.iload_n 2, 1) := by decide +kernel
theorem dX11_isHonest_94 : decode cX11_isHonest 94 = .ok (.ifCond .eq 7, 3) := by decide +kernel
theorem dX11_isHonest_97 : decode cX11_isHonest 97 = .ok (.iconst 1, 1) := by decide +kernel
theorem dX11_isHonest_98 : decode cX11_isHonest 98 = .ok (.goto 4, 3) := by decide +kernel
theorem dX11_isHonest_101 : decode cX11_isHonest 101 = .ok (.iconst 0, 1) := by decide +kernel
theorem dX11_isHonest_102 : decode cX11_isHonest 102 = .ok (.ireturn, 1) := by decide +kernel
theorem dX11_requireKey_0 : decode cX11_requireKey 0 = .ok (.iload_n 0, 1) := by decide +kernel
theorem dX11_requireKey_1 : decode cX11_requireKey 1 = .ok (.ifCond .lt 9, 3) := by decide +kernel
theorem dX11_requireKey_4 : decode cX11_requireKey 4 = .ok (.iload_n 0, 1) := by decide +kernel
theorem dX11_requireKey_5 : decode cX11_requireKey 5 = .ok (.bipush 32, 2) := by decide +kernel
theorem dX11_requireKey_7 : decode cX11_requireKey 7 = .ok (.if_icmp .lt 14, 3) := by decide +kernel
theorem dX11_requireKey_10 : decode cX11_requireKey 10 = .ok (.new 253, 3) := by decide +kernel
theorem dX11_requireKey_13 : decode cX11_requireKey 13 = .ok (.dup, 1) := by decide +kernel
theorem dX11_requireKey_14 : decode cX11_requireKey 14 = .ok (.ldc_w 355, 3) := by decide +kernel
theorem dX11_requireKey_17 : decode cX11_requireKey 17 = .ok (.invokespecial 257, 3) := by decide +kernel
theorem dX11_requireKey_20 : decode cX11_requireKey 20 = .ok (.athrow, 1) := by decide +kernel
theorem dX11_requireKey_21 : decode cX11_requireKey 21 = .ok (.return_, 1) := by decide +kernel
theorem dX11_requireSegment_0 : decode cX11_requireSegment 0 = .ok (.iload_n 0, 1) := by decide +kernel
theorem dX11_requireSegment_1 : decode cX11_requireSegment 1 = .ok (.ifCond .lt 8, 3) := by decide +kernel
theorem dX11_requireSegment_4 : decode cX11_requireSegment 4 = .ok (.iload_n 0, 1) := by decide +kernel
theorem dX11_requireSegment_5 : decode cX11_requireSegment 5 = .ok (.iconst 4, 1) := by decide +kernel
theorem dX11_requireSegment_6 : decode cX11_requireSegment 6 = .ok (.if_icmp .lt 14, 3) := by decide +kernel
theorem dX11_requireSegment_9 : decode cX11_requireSegment 9 = .ok (.new 253, 3) := by decide +kernel
theorem dX11_requireSegment_12 : decode cX11_requireSegment 12 = .ok (.dup, 1) := by decide +kernel
theorem dX11_requireSegment_13 : decode cX11_requireSegment 13 = .ok (.ldc_w 357, 3) := by decide +kernel
theorem dX11_requireSegment_16 : decode cX11_requireSegment 16 = .ok (.invokespecial 257, 3) := by decide +kernel
theorem dX11_requireSegment_19 : decode cX11_requireSegment 19 = .ok (.athrow, 1) := by decide +kernel
theorem dX11_requireSegment_20 : decode cX11_requireSegment 20 = .ok (.return_, 1) := by decide +kernel
theorem dX11_requireWithin_0 : decode cX11_requireWithin 0 = .ok (.iload_n 0, 1) := by decide +kernel
theorem dX11_requireWithin_1 : decode cX11_requireWithin 1 = .ok (.iload_n 1, 1) := by decide +kernel
theorem dX11_requireWithin_2 : decode cX11_requireWithin 2 = .ok (.if_icmp .lt 8, 3) := by decide +kernel
theorem dX11_requireWithin_5 : decode cX11_requireWithin 5 = .ok (.iload_n 0, 1) := by decide +kernel
theorem dX11_requireWithin_6 : decode cX11_requireWithin 6 = .ok (.iload_n 2, 1) := by decide +kernel
theorem dX11_requireWithin_7 : decode cX11_requireWithin 7 = .ok (.if_icmp .le 14, 3) := by decide +kernel
theorem dX11_requireWithin_10 : decode cX11_requireWithin 10 = .ok (.new 211, 3) := by decide +kernel
theorem dX11_requireWithin_13 : decode cX11_requireWithin 13 = .ok (.dup, 1) := by decide +kernel
theorem dX11_requireWithin_14 : decode cX11_requireWithin 14 = .ok (.ldc_w 359, 3) := by decide +kernel
theorem dX11_requireWithin_17 : decode cX11_requireWithin 17 = .ok (.invokespecial 215, 3) := by decide +kernel
theorem dX11_requireWithin_20 : decode cX11_requireWithin 20 = .ok (.athrow, 1) := by decide +kernel
theorem dX11_requireWithin_21 : decode cX11_requireWithin 21 = .ok (.return_, 1) := by decide +kernel
theorem dX11_requireLease_0 : decode cX11_requireLease 0 = .ok (.iload_n 1, 1) := by decide +kernel
theorem dX11_requireLease_1 : decode cX11_requireLease 1 = .ok (.ifCond .lt 14, 3) := by decide +kernel
theorem dX11_requireLease_4 : decode cX11_requireLease 4 = .ok (.iload_n 1, 1) := by decide +kernel
theorem dX11_requireLease_5 : decode cX11_requireLease 5 = .ok (.aload_n 0, 1) := by decide +kernel
theorem dX11_requireLease_6 : decode cX11_requireLease 6 = .ok (.getfield 61, 3) := by decide +kernel
theorem dX11_requireLease_9 : decode cX11_requireLease 9 = .ok (.getfield 135, 3) := by decide +kernel
theorem dX11_requireLease_12 : decode cX11_requireLease 12 = .ok (.if_icmp .lt 14, 3) := by decide +kernel
theorem dX11_requireLease_15 : decode cX11_requireLease 15 = .ok (.new 253, 3) := by decide +kernel
theorem dX11_requireLease_18 : decode cX11_requireLease 18 = .ok (.dup, 1) := by decide +kernel
theorem dX11_requireLease_19 : decode cX11_requireLease 19 = .ok (.ldc_w 361, 3) := by decide +kernel
theorem dX11_requireLease_22 : decode cX11_requireLease 22 = .ok (.invokespecial 257, 3) := by decide +kernel
theorem dX11_requireLease_25 : decode cX11_requireLease 25 = .ok (.athrow, 1) := by decide +kernel
theorem dX11_requireLease_26 : decode cX11_requireLease 26 = .ok (.return_, 1) := by decide +kernel
theorem dX11_requireUp_0 : decode cX11_requireUp 0 = .ok (.aload_n 0, 1) := by decide +kernel
theorem dX11_requireUp_1 : decode cX11_requireUp 1 = .ok (.getfield 92, 3) := by decide +kernel
theorem dX11_requireUp_4 : decode cX11_requireUp 4 = .ok (.ifCond .eq 14, 3) := by decide +kernel
theorem dX11_requireUp_7 : decode cX11_requireUp 7 = .ok (.new 114, 3) := by decide +kernel
theorem dX11_requireUp_10 : decode cX11_requireUp 10 = .ok (.dup, 1) := by decide +kernel
theorem dX11_requireUp_11 : decode cX11_requireUp 11 = .ok (.ldc_w 363, 3) := by decide +kernel
theorem dX11_requireUp_14 : decode cX11_requireUp 14 = .ok (.invokespecial 118, 3) := by decide +kernel
theorem dX11_requireUp_17 : decode cX11_requireUp 17 = .ok (.athrow, 1) := by decide +kernel
theorem dX11_requireUp_18 : decode cX11_requireUp 18 = .ok (.return_, 1) := by decide +kernel
theorem dX11_requireAnswer_0 : decode cX11_requireAnswer 0 = .ok (.aload_n 0, 1) := by decide +kernel
theorem dX11_requireAnswer_1 : decode cX11_requireAnswer 1 = .ok (.getfield 68, 3) := by decide +kernel
theorem dX11_requireAnswer_4 : decode cX11_requireAnswer 4 = .ok (.getfield 365, 3) := by decide +kernel
theorem dX11_requireAnswer_7 : decode cX11_requireAnswer 7 = .ok (.ifCond .ne 14, 3) := by decide +kernel
theorem dX11_requireAnswer_10 : decode cX11_requireAnswer 10 = .ok (.new 161, 3) := by decide +kernel
theorem dX11_requireAnswer_13 : decode cX11_requireAnswer 13 = .ok (.dup, 1) := by decide +kernel
theorem dX11_requireAnswer_14 : decode cX11_requireAnswer 14 = .ok (.ldc_w 368, 3) := by decide +kernel
theorem dX11_requireAnswer_17 : decode cX11_requireAnswer 17 = .ok (.invokespecial 165, 3) := by decide +kernel
theorem dX11_requireAnswer_20 : decode cX11_requireAnswer 20 = .ok (.athrow, 1) := by decide +kernel
theorem dX11_requireAnswer_21 : decode cX11_requireAnswer 21 = .ok (.return_, 1) := by decide +kernel
theorem dX11_isKept_0 : decode cX11_isKept 0 = .ok (.aload_n 0, 1) := by decide +kernel
theorem dX11_isKept_1 : decode cX11_isKept 1 = .ok (.getfield 40, 3) := by decide +kernel
theorem dX11_isKept_4 : decode cX11_isKept 4 = .ok (.getfield 292, 3) := by decide +kernel
theorem dX11_isKept_7 : decode cX11_isKept 7 = .ok (.iload_n 1, 1) := by decide +kernel
theorem dX11_isKept_8 : decode cX11_isKept 8 = .ok (.baload, 1) := by decide +kernel
theorem dX11_isKept_9 : decode cX11_isKept 9 = .ok (.ifCond .ne 16, 3) := by decide +kernel
theorem dX11_isKept_12 : decode cX11_isKept 12 = .ok (.aload_n 0, 1) := by decide +kernel
theorem dX11_isKept_13 : decode cX11_isKept 13 = .ok (.getfield 47, 3) := by decide +kernel
theorem dX11_isKept_16 : decode cX11_isKept 16 = .ok (.getfield 295, 3) := by decide +kernel
theorem dX11_isKept_19 : decode cX11_isKept 19 = .ok (.iload_n 1, 1) := by decide +kernel
theorem dX11_isKept_20 : decode cX11_isKept 20 = .ok (.iaload, 1) := by decide +kernel
theorem dX11_isKept_21 : decode cX11_isKept 21 = .ok (.iconst (-1), 1) := by decide +kernel
theorem dX11_isKept_22 : decode cX11_isKept 22 = .ok (.if_icmp .eq 7, 3) := by decide +kernel
theorem dX11_isKept_25 : decode cX11_isKept 25 = .ok (.iconst 1, 1) := by decide +kernel
theorem dX11_isKept_26 : decode cX11_isKept 26 = .ok (.goto 4, 3) := by decide +kernel
theorem dX11_isKept_29 : decode cX11_isKept 29 = .ok (.iconst 0, 1) := by decide +kernel
theorem dX11_isKept_30 : decode cX11_isKept 30 = .ok (.ireturn, 1) := by decide +kernel
set_option maxRecDepth 20000 in
theorem ggX11_goodSource_X11_isFresh : GoodIn wsX11_goodSource wsX11_isFresh := goodIn_ca (goodIn_r _ [13, 14, 15, 16, 17, 18, 19, 20, 21, 22, 23, 24, 52, 53, 54, 55, 25, 26, 27, 28, 29, 30, 31, 32, 33, 34, 35, 36, 37, 56, 57, 58, 59] (by decide +kernel) (by decide +kernel)) (goodIn_sub (fun _ h => List.mem_cons_of_mem _ (List.mem_append_right _ h)) (by decide +kernel))
set_option maxRecDepth 20000 in
theorem gX11_goodSource_X11_isFresh : GoodIn wsX11_goodSource (wsV RX11 370 RX11 yX11_isFresh wsX11_isFresh) := goodIn_app (goodIn_of _ (by decide +kernel)) ggX11_goodSource_X11_isFresh
theorem dX11_goodSource_0 : decode cX11_goodSource 0 = .ok (.aload_n 0, 1) := by decide +kernel
theorem dX11_goodSource_1 : decode cX11_goodSource 1 = .ok (.getfield 40, 3) := by decide +kernel
theorem dX11_goodSource_4 : decode cX11_goodSource 4 = .ok (.getfield 292, 3) := by decide +kernel
theorem dX11_goodSource_7 : decode cX11_goodSource 7 = .ok (.iload_n 1, 1) := by decide +kernel
theorem dX11_goodSource_8 : decode cX11_goodSource 8 = .ok (.baload, 1) := by decide +kernel
theorem dX11_goodSource_9 : decode cX11_goodSource 9 = .ok (.ifCond .eq 35, 3) := by decide +kernel
theorem dX11_goodSource_12 : decode cX11_goodSource 12 = .ok (.aload_n 0, 1) := by decide +kernel
theorem dX11_goodSource_13 : decode cX11_goodSource 13 = .ok (.getfield 54, 3) := by decide +kernel
theorem dX11_goodSource_16 : decode cX11_goodSource 16 = .ok (.getfield 238, 3) := by decide +kernel
theorem dX11_goodSource_19 : decode cX11_goodSource 19 = .ok (.iload_n 1, 1) := by decide +kernel
theorem dX11_goodSource_20 : decode cX11_goodSource 20 = .ok (.baload, 1) := by decide +kernel
theorem dX11_goodSource_21 : decode cX11_goodSource 21 = .ok (.ifCond .ne 20, 3) := by decide +kernel
theorem dX11_goodSource_24 : decode cX11_goodSource 24 = .ok (.aload_n 0, 1) := by decide +kernel
theorem dX11_goodSource_25 : decode cX11_goodSource 25 = .ok (.aload_n 0, 1) := by decide +kernel
theorem dX11_goodSource_26 : decode cX11_goodSource 26 = .ok (.getfield 40, 3) := by decide +kernel
theorem dX11_goodSource_29 : decode cX11_goodSource 29 = .ok (.getfield 306, 3) := by decide +kernel
theorem dX11_goodSource_32 : decode cX11_goodSource 32 = .ok (.iload_n 1, 1) := by decide +kernel
theorem dX11_goodSource_33 : decode cX11_goodSource 33 = .ok (.iload_n 1, 1) := by decide +kernel
theorem dX11_goodSource_34 : decode cX11_goodSource 34 = .ok (.iload_n 2, 1) := by decide +kernel
theorem dX11_goodSource_35 : decode cX11_goodSource 35 = .ok (.invokevirtual 370, 3) := by decide +kernel
theorem dX11_goodSource_38 : decode cX11_goodSource 38 = .ok (.ifCond .eq 6, 3) := by decide +kernel
theorem dX11_goodSource_41 : decode cX11_goodSource 41 = .ok (.bipush 109, 2) := by decide +kernel
theorem dX11_goodSource_43 : decode cX11_goodSource 43 = .ok (.ireturn, 1) := by decide +kernel
theorem dX11_goodSource_44 : decode cX11_goodSource 44 = .ok (.aload_n 0, 1) := by decide +kernel
theorem dX11_goodSource_45 : decode cX11_goodSource 45 = .ok (.getfield 47, 3) := by decide +kernel
theorem dX11_goodSource_48 : decode cX11_goodSource 48 = .ok (.getfield 295, 3) := by decide +kernel
theorem dX11_goodSource_51 : decode cX11_goodSource 51 = .ok (.iload_n 1, 1) := by decide +kernel
theorem dX11_goodSource_52 : decode cX11_goodSource 52 = .ok (.iaload, 1) := by decide +kernel
theorem dX11_goodSource_53 : decode cX11_goodSource 53 = .ok (.istore_n 3, 1) := by decide +kernel
theorem dX11_goodSource_54 : decode cX11_goodSource 54 = .ok (.iload_n 3, 1) := by decide +kernel
theorem dX11_goodSource_55 : decode cX11_goodSource 55 = .ok (.iconst (-1), 1) := by decide +kernel
theorem dX11_goodSource_56 : decode cX11_goodSource 56 = .ok (.if_icmp .eq 25, 3) := by decide +kernel
theorem dX11_goodSource_59 : decode cX11_goodSource 59 = .ok (.aload_n 0, 1) := by decide +kernel
theorem dX11_goodSource_60 : decode cX11_goodSource 60 = .ok (.aload_n 0, 1) := by decide +kernel
theorem dX11_goodSource_61 : decode cX11_goodSource 61 = .ok (.getfield 47, 3) := by decide +kernel
theorem dX11_goodSource_64 : decode cX11_goodSource 64 = .ok (.getfield 308, 3) := by decide +kernel
theorem dX11_goodSource_67 : decode cX11_goodSource 67 = .ok (.iload_n 3, 1) := by decide +kernel
theorem dX11_goodSource_68 : decode cX11_goodSource 68 = .ok (.iload_n 1, 1) := by decide +kernel
theorem dX11_goodSource_69 : decode cX11_goodSource 69 = .ok (.iload_n 2, 1) := by decide +kernel
theorem dX11_goodSource_70 : decode cX11_goodSource 70 = .ok (.invokevirtual 370, 3) := by decide +kernel
theorem dX11_goodSource_73 : decode cX11_goodSource 73 = .ok (.ifCond .eq 8, 3) := by decide +kernel
theorem dX11_goodSource_76 : decode cX11_goodSource 76 = .ok (.bipush 102, 2) := by decide +kernel
theorem dX11_goodSource_78 : decode cX11_goodSource 78 = .ok (.goto 5, 3) := by decide +kernel
theorem dX11_goodSource_81 : decode cX11_goodSource 81 = .ok (.bipush 45, 2) := by decide +kernel
theorem dX11_goodSource_83 : decode cX11_goodSource 83 = .ok (.ireturn, 1) := by decide +kernel
set_option maxRecDepth 20000 in
theorem ggX11_isFresh_X4_numberFor : GoodIn wsX11_isFresh wsX4_numberFor := goodIn_ca (goodIn_r _ [9, 10, 11, 29, 30, 31, 32] (by decide +kernel) (by decide +kernel)) (goodIn_sub (fun _ h => List.mem_cons_of_mem _ (List.mem_append_right _ h)) (by decide +kernel))
set_option maxRecDepth 20000 in
theorem gX11_isFresh_X4_numberFor : GoodIn wsX11_isFresh (wsV RX11 190 RX4 yX4_numberFor wsX4_numberFor) := goodIn_app (goodIn_of _ (by decide +kernel)) ggX11_isFresh_X4_numberFor
theorem dX11_isFresh_0 : decode cX11_isFresh 0 = .ok (.aload_n 1, 1) := by decide +kernel
theorem dX11_isFresh_1 : decode cX11_isFresh 1 = .ok (.getfield 374, 3) := by decide +kernel
theorem dX11_isFresh_4 : decode cX11_isFresh 4 = .ok (.iload_n 2, 1) := by decide +kernel
theorem dX11_isFresh_5 : decode cX11_isFresh 5 = .ok (.iaload, 1) := by decide +kernel
theorem dX11_isFresh_6 : decode cX11_isFresh 6 = .ok (.aload_n 0, 1) := by decide +kernel
theorem dX11_isFresh_7 : decode cX11_isFresh 7 = .ok (.getfield 12, 3) := by decide +kernel
theorem dX11_isFresh_10 : decode cX11_isFresh 10 = .ok (.iload_n 3, 1) := by decide +kernel
theorem dX11_isFresh_11 : decode cX11_isFresh 11 = .ok (.invokevirtual 190, 3) := by decide +kernel
theorem dX11_isFresh_14 : decode cX11_isFresh 14 = .ok (.if_icmp .ne 23, 3) := by decide +kernel
theorem dX11_isFresh_17 : decode cX11_isFresh 17 = .ok (.aload_n 0, 1) := by decide +kernel
theorem dX11_isFresh_18 : decode cX11_isFresh 18 = .ok (.getfield 88, 3) := by decide +kernel
theorem dX11_isFresh_21 : decode cX11_isFresh 21 = .ok (.aload_n 1, 1) := by decide +kernel
theorem dX11_isFresh_22 : decode cX11_isFresh 22 = .ok (.getfield 375, 3) := by decide +kernel
theorem dX11_isFresh_25 : decode cX11_isFresh 25 = .ok (.iload_n 2, 1) := by decide +kernel
theorem dX11_isFresh_26 : decode cX11_isFresh 26 = .ok (.iaload, 1) := by decide +kernel
theorem dX11_isFresh_27 : decode cX11_isFresh 27 = .ok (.isub, 1) := by decide +kernel
theorem dX11_isFresh_28 : decode cX11_isFresh 28 = .ok (.iload 4, 2) := by decide +kernel
theorem dX11_isFresh_30 : decode cX11_isFresh 30 = .ok (.if_icmp .gt 7, 3) := by decide +kernel
theorem dX11_isFresh_33 : decode cX11_isFresh 33 = .ok (.iconst 1, 1) := by decide +kernel
theorem dX11_isFresh_34 : decode cX11_isFresh 34 = .ok (.goto 4, 3) := by decide +kernel
theorem dX11_isFresh_37 : decode cX11_isFresh 37 = .ok (.iconst 0, 1) := by decide +kernel
theorem dX11_isFresh_38 : decode cX11_isFresh 38 = .ok (.ireturn, 1) := by decide +kernel
set_option maxRecDepth 20000 in
theorem ggX11_answer_X10_staleBy : GoodIn wsX11_answer wsX10_staleBy := goodIn_ca (goodIn_r _ [18, 19, 20, 21, 22, 187, 188, 189, 190, 191, 192] (by decide +kernel) (by decide +kernel)) (goodIn_sub (fun _ h => List.mem_cons_of_mem _ (List.mem_append_right _ h)) (by decide +kernel))
set_option maxRecDepth 20000 in
theorem gX11_answer_X10_staleBy : GoodIn wsX11_answer (wsV RX11 378 RX10 yX10_staleBy wsX10_staleBy) := goodIn_app (goodIn_of _ (by decide +kernel)) ggX11_answer_X10_staleBy
set_option maxRecDepth 20000 in
theorem ggX11_answer_X0_tell : GoodIn wsX11_answer wsX0_tell := goodIn_r _ [27, 28, 29, 30, 31, 32, 33, 34, 193, 194, 195, 196, 197, 198, 199] (by decide +kernel) (by decide +kernel)
set_option maxRecDepth 20000 in
theorem gX11_answer_X0_tell : GoodIn wsX11_answer (wsV RX11 383 RX0 yX0_tell wsX0_tell) := goodIn_app (goodIn_of _ (by decide +kernel)) ggX11_answer_X0_tell
set_option maxRecDepth 20000 in
theorem ggX11_answer_X6_touch : GoodIn wsX11_answer wsX6_touch := goodIn_ca (goodIn_r _ [39, 40, 41, 173, 174, 175, 176, 177] (by decide +kernel) (by decide +kernel)) (goodIn_sub (fun _ h => List.mem_cons_of_mem _ (List.mem_append_right _ h)) (by decide +kernel))
set_option maxRecDepth 20000 in
theorem gX11_answer_X6_touch : GoodIn wsX11_answer (wsV RX11 386 RX6 yX6_touch wsX6_touch) := goodIn_app (goodIn_of _ (by decide +kernel)) ggX11_answer_X6_touch
set_option maxRecDepth 20000 in
theorem ggX11_answer_X2_take : GoodIn wsX11_answer wsX2_take := goodIn_ca (goodIn_r _ [46, 47, 48, 49, 50, 51, 52, 53, 45, 54, 178, 179, 180, 181] (by decide +kernel) (by decide +kernel)) (goodIn_sub (fun _ h => List.mem_cons_of_mem _ (List.mem_append_right _ h)) (by decide +kernel))
set_option maxRecDepth 20000 in
theorem gX11_answer_X2_take : GoodIn wsX11_answer (wsV RX11 204 RX2 yX2_take wsX2_take) := goodIn_app (goodIn_of _ (by decide +kernel)) ggX11_answer_X2_take
set_option maxRecDepth 20000 in
theorem ggX11_answer_X11_comeIfWorthIt : GoodIn wsX11_answer wsX11_comeIfWorthIt := goodIn_ca (goodIn_r _ [59, 60, 61, 62, 63, 64, 65, 58, 66, 4, 67, 68, 69, 70, 71, 72, 73, 74, 75, 76, 77, 78, 79, 80, 81, 82, 83, 84, 85, 86, 87, 88, 89, 90, 91, 92, 93, 94, 95, 96, 97, 98, 1, 2, 99, 100, 101, 102, 103, 104, 105, 106, 107, 108, 109, 110, 111, 112, 113, 114, 115, 11, 5, 10, 116, 117, 118, 119, 120, 121, 122, 123, 124, 125, 126, 127, 128, 129, 130, 131, 132, 133, 134, 43, 44, 45, 46, 47, 48, 49, 50, 51, 52, 53, 54, 135, 136, 137, 38, 138, 139, 140, 141, 142, 143, 144, 145, 146, 147, 36, 37, 39, 40, 41, 156, 157, 158, 159, 160, 161, 162, 163, 164, 165, 166, 167, 168, 200, 201, 202, 203, 204, 173, 174, 175, 176, 177, 205, 206, 207, 208, 209, 210, 169, 170, 171, 172, 182, 183, 184, 185, 186, 178, 179, 180, 181] (by decide +kernel) (by decide +kernel)) (goodIn_sub (fun _ h => List.mem_cons_of_mem _ (List.mem_append_right _ h)) (by decide +kernel))
set_option maxRecDepth 20000 in
theorem gX11_answer_X11_comeIfWorthIt : GoodIn wsX11_answer (wsV RX11 208 RX11 yX11_comeIfWorthIt wsX11_comeIfWorthIt) := goodIn_app (goodIn_of _ (by decide +kernel)) ggX11_answer_X11_comeIfWorthIt
set_option maxRecDepth 20000 in
theorem ggX11_answer_X3_takeOut : GoodIn wsX11_answer wsX3_takeOut := goodIn_ca (goodIn_r _ [151, 123, 121, 124, 125, 126, 119, 127, 128, 129, 130, 131, 132, 133, 182, 183, 184, 185, 186] (by decide +kernel) (by decide +kernel)) (goodIn_sub (fun _ h => List.mem_cons_of_mem _ (List.mem_append_right _ h)) (by decide +kernel))
set_option maxRecDepth 20000 in
theorem gX11_answer_X3_takeOut : GoodIn wsX11_answer (wsV RX11 247 RX3 yX3_takeOut wsX3_takeOut) := goodIn_app (goodIn_of _ (by decide +kernel)) ggX11_answer_X3_takeOut
set_option maxRecDepth 20000 in
theorem ggX11_answer_X0_tellNothing : GoodIn wsX11_answer wsX0_tellNothing := goodIn_r _ [155, 28, 30, 193, 194, 195, 196, 197, 198, 199] (by decide +kernel) (by decide +kernel)
set_option maxRecDepth 20000 in
theorem gX11_answer_X0_tellNothing : GoodIn wsX11_answer (wsV RX11 389 RX0 yX0_tellNothing wsX0_tellNothing) := goodIn_app (goodIn_of _ (by decide +kernel)) ggX11_answer_X0_tellNothing
theorem dX11_answer_0 : decode cX11_answer 0 = .ok (.iload_n 2, 1) := by decide +kernel
theorem dX11_answer_1 : decode cX11_answer 1 = .ok (.bipush 109, 2) := by decide +kernel
theorem dX11_answer_3 : decode cX11_answer 3 = .ok (.if_icmp .ne 78, 3) := by decide +kernel
theorem dX11_answer_6 : decode cX11_answer 6 = .ok (.aload_n 0, 1) := by decide +kernel
theorem dX11_answer_7 : decode cX11_answer 7 = .ok (.getfield 54, 3) := by decide +kernel
theorem dX11_answer_10 : decode cX11_answer 10 = .ok (.getfield 238, 3) := by decide +kernel
theorem dX11_answer_13 : decode cX11_answer 13 = .ok (.iload_n 1, 1) := by decide +kernel
theorem dX11_answer_14 : decode cX11_answer 14 = .ok (.baload, 1) := by decide +kernel
theorem dX11_answer_15 : decode cX11_answer 15 = .ok (.ifCond .eq 7, 3) := by decide +kernel
theorem dX11_answer_18 : decode cX11_answer 18 = .ok (.iconst 0, 1) := by decide +kernel
theorem dX11_answer_19 : decode cX11_answer 19 = .ok (.goto 27, 3) := by decide +kernel
theorem dX11_answer_22 : decode cX11_answer 22 = .ok (.aload_n 0, 1) := by decide +kernel
theorem dX11_answer_23 : decode cX11_answer 23 = .ok (.getfield 19, 3) := by decide +kernel
theorem dX11_answer_26 : decode cX11_answer 26 = .ok (.iload_n 1, 1) := by decide +kernel
theorem dX11_answer_27 : decode cX11_answer 27 = .ok (.aload_n 0, 1) := by decide +kernel
theorem dX11_answer_28 : decode cX11_answer 28 = .ok (.getfield 40, 3) := by decide +kernel
theorem dX11_answer_31 : decode cX11_answer 31 = .ok (.getfield 306, 3) := by decide +kernel
theorem dX11_answer_34 : decode cX11_answer 34 = .ok (.getfield 307, 3) := by decide +kernel
theorem dX11_answer_37 : decode cX11_answer 37 = .ok (.iload_n 1, 1) := by decide +kernel
theorem dX11_answer_38 : decode cX11_answer 38 = .ok (.iaload, 1) := by decide +kernel
theorem dX11_answer_39 : decode cX11_answer 39 = .ok (.aload_n 0, 1) := by decide +kernel
theorem dX11_answer_40 : decode cX11_answer 40 = .ok (.getfield 88, 3) := by decide +kernel
theorem dX11_answer_43 : decode cX11_answer 43 = .ok (.invokevirtual 378, 3) := by decide +kernel
theorem dX11_answer_46 : decode cX11_answer 46 = .ok (.istore 4, 2) := by decide +kernel
theorem dX11_answer_48 : decode cX11_answer 48 = .ok (.aload_n 0, 1) := by decide +kernel
theorem dX11_answer_49 : decode cX11_answer 49 = .ok (.getfield 68, 3) := by decide +kernel
theorem dX11_answer_52 : decode cX11_answer 52 = .ok (.aload_n 0, 1) := by decide +kernel
theorem dX11_answer_53 : decode cX11_answer 53 = .ok (.getfield 40, 3) := by decide +kernel
theorem dX11_answer_56 : decode cX11_answer 56 = .ok (.getfield 306, 3) := by decide +kernel
theorem dX11_answer_59 : decode cX11_answer 59 = .ok (.getfield 382, 3) := by decide +kernel
theorem dX11_answer_62 : decode cX11_answer 62 = .ok (.iload_n 1, 1) := by decide +kernel
theorem dX11_answer_63 : decode cX11_answer 63 = .ok (.iaload, 1) := by decide +kernel
theorem dX11_answer_64 : decode cX11_answer 64 = .ok (.iload 4, 2) := by decide +kernel
theorem dX11_answer_66 : decode cX11_answer 66 = .ok (.iload_n 3, 1) := by decide +kernel
theorem dX11_answer_67 : decode cX11_answer 67 = .ok (.invokevirtual 383, 3) := by decide +kernel
theorem dX11_answer_70 : decode cX11_answer 70 = .ok (.aload_n 0, 1) := by decide +kernel
theorem dX11_answer_71 : decode cX11_answer 71 = .ok (.getfield 40, 3) := by decide +kernel
theorem dX11_answer_74 : decode cX11_answer 74 = .ok (.iload_n 1, 1) := by decide +kernel
theorem dX11_answer_75 : decode cX11_answer 75 = .ok (.invokevirtual 386, 3) := by decide +kernel
theorem dX11_answer_78 : decode cX11_answer 78 = .ok (.goto 97, 3) := by decide +kernel
theorem dX11_answer_81 : decode cX11_answer 81 = .ok (.iload_n 2, 1) := by decide +kernel
theorem dX11_answer_82 : decode cX11_answer 82 = .ok (.bipush 102, 2) := by decide +kernel
theorem dX11_answer_84 : decode cX11_answer 84 = .ok (.if_icmp .ne 84, 3) := by decide +kernel
theorem dX11_answer_87 : decode cX11_answer 87 = .ok (.aload_n 0, 1) := by decide +kernel
theorem dX11_answer_88 : decode cX11_answer 88 = .ok (.getfield 84, 3) := by decide +kernel
theorem dX11_answer_91 : decode cX11_answer 91 = .ok (.iconst 0, 1) := by decide +kernel
theorem dX11_answer_92 : decode cX11_answer 92 = .ok (.aload_n 0, 1) := by decide +kernel
theorem dX11_answer_93 : decode cX11_answer 93 = .ok (.getfield 47, 3) := by decide +kernel
theorem dX11_answer_96 : decode cX11_answer 96 = .ok (.getfield 308, 3) := by decide +kernel
theorem dX11_answer_99 : decode cX11_answer 99 = .ok (.aload_n 0, 1) := by decide +kernel
theorem dX11_answer_100 : decode cX11_answer 100 = .ok (.getfield 47, 3) := by decide +kernel
theorem dX11_answer_103 : decode cX11_answer 103 = .ok (.getfield 295, 3) := by decide +kernel
theorem dX11_answer_106 : decode cX11_answer 106 = .ok (.iload_n 1, 1) := by decide +kernel
theorem dX11_answer_107 : decode cX11_answer 107 = .ok (.iaload, 1) := by decide +kernel
theorem dX11_answer_108 : decode cX11_answer 108 = .ok (.invokevirtual 204, 3) := by decide +kernel
theorem dX11_answer_111 : decode cX11_answer 111 = .ok (.aload_n 0, 1) := by decide +kernel
theorem dX11_answer_112 : decode cX11_answer 112 = .ok (.getfield 68, 3) := by decide +kernel
theorem dX11_answer_115 : decode cX11_answer 115 = .ok (.aload_n 0, 1) := by decide +kernel
theorem dX11_answer_116 : decode cX11_answer 116 = .ok (.getfield 84, 3) := by decide +kernel
theorem dX11_answer_119 : decode cX11_answer 119 = .ok (.getfield 382, 3) := by decide +kernel
theorem dX11_answer_122 : decode cX11_answer 122 = .ok (.iconst 0, 1) := by decide +kernel
theorem dX11_answer_123 : decode cX11_answer 123 = .ok (.iaload, 1) := by decide +kernel
theorem dX11_answer_124 : decode cX11_answer 124 = .ok (.aload_n 0, 1) := by decide +kernel
theorem dX11_answer_125 : decode cX11_answer 125 = .ok (.getfield 19, 3) := by decide +kernel
theorem dX11_answer_128 : decode cX11_answer 128 = .ok (.iload_n 1, 1) := by decide +kernel
theorem dX11_answer_129 : decode cX11_answer 129 = .ok (.aload_n 0, 1) := by decide +kernel
theorem dX11_answer_130 : decode cX11_answer 130 = .ok (.getfield 84, 3) := by decide +kernel
theorem dX11_answer_133 : decode cX11_answer 133 = .ok (.getfield 307, 3) := by decide +kernel
theorem dX11_answer_136 : decode cX11_answer 136 = .ok (.iconst 0, 1) := by decide +kernel
theorem dX11_answer_137 : decode cX11_answer 137 = .ok (.iaload, 1) := by decide +kernel
theorem dX11_answer_138 : decode cX11_answer 138 = .ok (.aload_n 0, 1) := by decide +kernel
theorem dX11_answer_139 : decode cX11_answer 139 = .ok (.getfield 88, 3) := by decide +kernel
theorem dX11_answer_142 : decode cX11_answer 142 = .ok (.invokevirtual 378, 3) := by decide +kernel
theorem dX11_answer_145 : decode cX11_answer 145 = .ok (.iload_n 3, 1) := by decide +kernel
theorem dX11_answer_146 : decode cX11_answer 146 = .ok (.invokevirtual 383, 3) := by decide +kernel
theorem dX11_answer_149 : decode cX11_answer 149 = .ok (.aload_n 0, 1) := by decide +kernel
theorem dX11_answer_150 : decode cX11_answer 150 = .ok (.iload_n 1, 1) := by decide +kernel
theorem dX11_answer_151 : decode cX11_answer 151 = .ok (.invokevirtual 208, 3) := by decide +kernel
theorem dX11_answer_154 : decode cX11_answer 154 = .ok (.ifCond .eq 21, 3) := by decide +kernel
theorem dX11_answer_157 : decode cX11_answer 157 = .ok (.aload_n 0, 1) := by decide +kernel
theorem dX11_answer_158 : decode cX11_answer 158 = .ok (.getfield 47, 3) := by decide +kernel
theorem dX11_answer_161 : decode cX11_answer 161 = .ok (.iload_n 1, 1) := by decide +kernel
theorem dX11_answer_162 : decode cX11_answer 162 = .ok (.invokevirtual 247, 3) := by decide +kernel
theorem dX11_answer_165 : decode cX11_answer 165 = .ok (.goto 10, 3) := by decide +kernel
theorem dX11_answer_168 : decode cX11_answer 168 = .ok (.aload_n 0, 1) := by decide +kernel
theorem dX11_answer_169 : decode cX11_answer 169 = .ok (.getfield 68, 3) := by decide +kernel
theorem dX11_answer_172 : decode cX11_answer 172 = .ok (.invokevirtual 389, 3) := by decide +kernel
theorem dX11_answer_175 : decode cX11_answer 175 = .ok (.return_, 1) := by decide +kernel
set_option maxRecDepth 20000 in
theorem ggX11_worth_X9_leastOf : GoodIn wsX11_worth wsX9_leastOf := goodIn_ca (goodIn_r _ [8, 9, 10, 11, 7, 12, 30, 31] (by decide +kernel) (by decide +kernel)) (goodIn_sub (fun _ h => List.mem_cons_of_mem _ (List.mem_append_right _ h)) (by decide +kernel))
set_option maxRecDepth 20000 in
theorem gX11_worth_X9_leastOf : GoodIn wsX11_worth (wsV RX11 301 RX9 yX9_leastOf wsX9_leastOf) := goodIn_app (goodIn_of _ (by decide +kernel)) ggX11_worth_X9_leastOf
theorem dX11_worth_0 : decode cX11_worth 0 = .ok (.aload_n 0, 1) := by decide +kernel
theorem dX11_worth_1 : decode cX11_worth 1 = .ok (.getfield 33, 3) := by decide +kernel
theorem dX11_worth_4 : decode cX11_worth 4 = .ok (.iload_n 1, 1) := by decide +kernel
theorem dX11_worth_5 : decode cX11_worth 5 = .ok (.invokevirtual 301, 3) := by decide +kernel
theorem dX11_worth_8 : decode cX11_worth 8 = .ok (.aload_n 0, 1) := by decide +kernel
theorem dX11_worth_9 : decode cX11_worth 9 = .ok (.getfield 12, 3) := by decide +kernel
theorem dX11_worth_12 : decode cX11_worth 12 = .ok (.getfield 128, 3) := by decide +kernel
theorem dX11_worth_15 : decode cX11_worth 15 = .ok (.iload_n 1, 1) := by decide +kernel
theorem dX11_worth_16 : decode cX11_worth 16 = .ok (.iaload, 1) := by decide +kernel
theorem dX11_worth_17 : decode cX11_worth 17 = .ok (.imul, 1) := by decide +kernel
theorem dX11_worth_18 : decode cX11_worth 18 = .ok (.ireturn, 1) := by decide +kernel
set_option maxRecDepth 20000 in
theorem ggX11_chooseLeavers_X1_clear : GoodIn wsX11_chooseLeavers wsX1_clear := goodIn_ca (goodIn_r _ [12, 13, 14, 15, 72, 73, 74, 75, 76] (by decide +kernel) (by decide +kernel)) (goodIn_sub (fun _ h => List.mem_cons_of_mem _ (List.mem_append_right _ h)) (by decide +kernel))
set_option maxRecDepth 20000 in
theorem gX11_chooseLeavers_X1_clear : GoodIn wsX11_chooseLeavers (wsV RX11 392 RX1 yX1_clear wsX1_clear) := goodIn_app (goodIn_of _ (by decide +kernel)) ggX11_chooseLeavers_X1_clear
set_option maxRecDepth 20000 in
theorem ggX11_chooseLeavers_X11_worth : GoodIn wsX11_chooseLeavers wsX11_worth := goodIn_ca (goodIn_r _ [20, 21, 5, 22, 23, 24, 25, 26, 27, 28, 29, 30, 31, 50, 51, 52, 53, 54, 55, 56, 57, 58, 59, 60, 61, 62, 68, 69, 70, 71, 77, 78] (by decide +kernel) (by decide +kernel)) (goodIn_sub (fun _ h => List.mem_cons_of_mem _ (List.mem_append_right _ h)) (by decide +kernel))
set_option maxRecDepth 20000 in
theorem gX11_chooseLeavers_X11_worth : GoodIn wsX11_chooseLeavers (wsV RX11 396 RX11 yX11_worth wsX11_worth) := goodIn_app (goodIn_of _ (by decide +kernel)) ggX11_chooseLeavers_X11_worth
set_option maxRecDepth 20000 in
theorem ggX11_chooseLeavers_X11_nextLeaver : GoodIn wsX11_chooseLeavers wsX11_nextLeaver := goodIn_ca (goodIn_r _ [35, 2, 3, 36, 37, 1, 38, 39, 40, 41, 19, 42, 7, 43, 50, 51, 52, 53, 54, 55, 56, 57, 58, 59, 60, 61, 62, 63, 64, 65, 66, 67, 79, 80, 81, 82, 72, 73, 74, 75, 76] (by decide +kernel) (by decide +kernel)) (goodIn_sub (fun _ h => List.mem_cons_of_mem _ (List.mem_append_right _ h)) (by decide +kernel))
set_option maxRecDepth 20000 in
theorem gX11_chooseLeavers_X11_nextLeaver : GoodIn wsX11_chooseLeavers (wsV RX11 399 RX11 yX11_nextLeaver wsX11_nextLeaver) := goodIn_app (goodIn_of _ (by decide +kernel)) ggX11_chooseLeavers_X11_nextLeaver
set_option maxRecDepth 20000 in
theorem ggX11_chooseLeavers_X1_add : GoodIn wsX11_chooseLeavers wsX1_add := goodIn_ca (goodIn_r _ [47, 13, 15, 48, 14, 49, 72, 73, 74, 75, 76] (by decide +kernel) (by decide +kernel)) (goodIn_sub (fun _ h => List.mem_cons_of_mem _ (List.mem_append_right _ h)) (by decide +kernel))
set_option maxRecDepth 20000 in
theorem gX11_chooseLeavers_X1_add : GoodIn wsX11_chooseLeavers (wsV RX11 402 RX1 yX1_add wsX1_add) := goodIn_app (goodIn_of _ (by decide +kernel)) ggX11_chooseLeavers_X1_add
theorem dX11_chooseLeavers_0 : decode cX11_chooseLeavers 0 = .ok (.aload_n 0, 1) := by decide +kernel
theorem dX11_chooseLeavers_1 : decode cX11_chooseLeavers 1 = .ok (.getfield 75, 3) := by decide +kernel
theorem dX11_chooseLeavers_4 : decode cX11_chooseLeavers 4 = .ok (.invokevirtual 392, 3) := by decide +kernel
theorem dX11_chooseLeavers_7 : decode cX11_chooseLeavers 7 = .ok (.aload_n 0, 1) := by decide +kernel
theorem dX11_chooseLeavers_8 : decode cX11_chooseLeavers 8 = .ok (.getfield 40, 3) := by decide +kernel
theorem dX11_chooseLeavers_11 : decode cX11_chooseLeavers 11 = .ok (.getfield 292, 3) := by decide +kernel
theorem dX11_chooseLeavers_14 : decode cX11_chooseLeavers 14 = .ok (.iload_n 1, 1) := by decide +kernel
theorem dX11_chooseLeavers_15 : decode cX11_chooseLeavers 15 = .ok (.baload, 1) := by decide +kernel
theorem dX11_chooseLeavers_16 : decode cX11_chooseLeavers 16 = .ok (.ifCond .eq 7, 3) := by decide +kernel
theorem dX11_chooseLeavers_19 : decode cX11_chooseLeavers 19 = .ok (.iconst 0, 1) := by decide +kernel
theorem dX11_chooseLeavers_20 : decode cX11_chooseLeavers 20 = .ok (.goto 23, 3) := by decide +kernel
theorem dX11_chooseLeavers_23 : decode cX11_chooseLeavers 23 = .ok (.aload_n 0, 1) := by decide +kernel
theorem dX11_chooseLeavers_24 : decode cX11_chooseLeavers 24 = .ok (.getfield 40, 3) := by decide +kernel
theorem dX11_chooseLeavers_27 : decode cX11_chooseLeavers 27 = .ok (.getfield 298, 3) := by decide +kernel
theorem dX11_chooseLeavers_30 : decode cX11_chooseLeavers 30 = .ok (.aload_n 0, 1) := by decide +kernel
theorem dX11_chooseLeavers_31 : decode cX11_chooseLeavers 31 = .ok (.getfield 12, 3) := by decide +kernel
theorem dX11_chooseLeavers_34 : decode cX11_chooseLeavers 34 = .ok (.getfield 125, 3) := by decide +kernel
theorem dX11_chooseLeavers_37 : decode cX11_chooseLeavers 37 = .ok (.iload_n 1, 1) := by decide +kernel
theorem dX11_chooseLeavers_38 : decode cX11_chooseLeavers 38 = .ok (.iaload, 1) := by decide +kernel
theorem dX11_chooseLeavers_39 : decode cX11_chooseLeavers 39 = .ok (.iadd, 1) := by decide +kernel
theorem dX11_chooseLeavers_40 : decode cX11_chooseLeavers 40 = .ok (.bipush 12, 2) := by decide +kernel
theorem dX11_chooseLeavers_42 : decode cX11_chooseLeavers 42 = .ok (.isub, 1) := by decide +kernel
theorem dX11_chooseLeavers_43 : decode cX11_chooseLeavers 43 = .ok (.istore_n 2, 1) := by decide +kernel
theorem dX11_chooseLeavers_44 : decode cX11_chooseLeavers 44 = .ok (.iconst 0, 1) := by decide +kernel
theorem dX11_chooseLeavers_45 : decode cX11_chooseLeavers 45 = .ok (.istore_n 3, 1) := by decide +kernel
theorem dX11_chooseLeavers_46 : decode cX11_chooseLeavers 46 = .ok (.iload_n 3, 1) := by decide +kernel
theorem dX11_chooseLeavers_47 : decode cX11_chooseLeavers 47 = .ok (.bipush 32, 2) := by decide +kernel
theorem dX11_chooseLeavers_49 : decode cX11_chooseLeavers 49 = .ok (.if_icmp .ge 27, 3) := by decide +kernel
theorem dX11_chooseLeavers_52 : decode cX11_chooseLeavers 52 = .ok (.iload_n 2, 1) := by decide +kernel
theorem dX11_chooseLeavers_53 : decode cX11_chooseLeavers 53 = .ok (.ifCond .le 23, 3) := by decide +kernel
theorem dX11_chooseLeavers_56 : decode cX11_chooseLeavers 56 = .ok (.aload_n 0, 1) := by decide +kernel
theorem dX11_chooseLeavers_57 : decode cX11_chooseLeavers 57 = .ok (.getfield 75, 3) := by decide +kernel
theorem dX11_chooseLeavers_60 : decode cX11_chooseLeavers 60 = .ok (.getfield 393, 3) := by decide +kernel
theorem dX11_chooseLeavers_63 : decode cX11_chooseLeavers 63 = .ok (.iload_n 3, 1) := by decide +kernel
theorem dX11_chooseLeavers_64 : decode cX11_chooseLeavers 64 = .ok (.aload_n 0, 1) := by decide +kernel
theorem dX11_chooseLeavers_65 : decode cX11_chooseLeavers 65 = .ok (.iload_n 3, 1) := by decide +kernel
theorem dX11_chooseLeavers_66 : decode cX11_chooseLeavers 66 = .ok (.invokevirtual 396, 3) := by decide +kernel
theorem dX11_chooseLeavers_69 : decode cX11_chooseLeavers 69 = .ok (.iastore, 1) := by decide +kernel
theorem dX11_chooseLeavers_70 : decode cX11_chooseLeavers 70 = .ok (.iinc 3 1, 3) := by decide +kernel
theorem dX11_chooseLeavers_73 : decode cX11_chooseLeavers 73 = .ok (.goto (-27), 3) := by decide +kernel
theorem dX11_chooseLeavers_76 : decode cX11_chooseLeavers 76 = .ok (.iconst 0, 1) := by decide +kernel
theorem dX11_chooseLeavers_77 : decode cX11_chooseLeavers 77 = .ok (.istore_n 3, 1) := by decide +kernel
theorem dX11_chooseLeavers_78 : decode cX11_chooseLeavers 78 = .ok (.iload_n 3, 1) := by decide +kernel
theorem dX11_chooseLeavers_79 : decode cX11_chooseLeavers 79 = .ok (.bipush 32, 2) := by decide +kernel
theorem dX11_chooseLeavers_81 : decode cX11_chooseLeavers 81 = .ok (.if_icmp .ge 49, 3) := by decide +kernel
theorem dX11_chooseLeavers_84 : decode cX11_chooseLeavers 84 = .ok (.iload_n 2, 1) := by decide +kernel
theorem dX11_chooseLeavers_85 : decode cX11_chooseLeavers 85 = .ok (.ifCond .le 45, 3) := by decide +kernel
theorem dX11_chooseLeavers_88 : decode cX11_chooseLeavers 88 = .ok (.aload_n 0, 1) := by decide +kernel
theorem dX11_chooseLeavers_89 : decode cX11_chooseLeavers 89 = .ok (.invokevirtual 399, 3) := by decide +kernel
theorem dX11_chooseLeavers_92 : decode cX11_chooseLeavers 92 = .ok (.istore 4, 2) := by decide +kernel
theorem dX11_chooseLeavers_94 : decode cX11_chooseLeavers 94 = .ok (.iload 4, 2) := by decide +kernel
theorem dX11_chooseLeavers_96 : decode cX11_chooseLeavers 96 = .ok (.iconst (-1), 1) := by decide +kernel
theorem dX11_chooseLeavers_97 : decode cX11_chooseLeavers 97 = .ok (.if_icmp .ne 5, 3) := by decide +kernel
theorem dX11_chooseLeavers_100 : decode cX11_chooseLeavers 100 = .ok (.iconst 0, 1) := by decide +kernel
theorem dX11_chooseLeavers_101 : decode cX11_chooseLeavers 101 = .ok (.ireturn, 1) := by decide +kernel
theorem dX11_chooseLeavers_102 : decode cX11_chooseLeavers 102 = .ok (.aload_n 0, 1) := by decide +kernel
theorem dX11_chooseLeavers_103 : decode cX11_chooseLeavers 103 = .ok (.getfield 75, 3) := by decide +kernel
theorem dX11_chooseLeavers_106 : decode cX11_chooseLeavers 106 = .ok (.iload 4, 2) := by decide +kernel
theorem dX11_chooseLeavers_108 : decode cX11_chooseLeavers 108 = .ok (.invokevirtual 402, 3) := by decide +kernel
theorem dX11_chooseLeavers_111 : decode cX11_chooseLeavers 111 = .ok (.iload_n 2, 1) := by decide +kernel
theorem dX11_chooseLeavers_112 : decode cX11_chooseLeavers 112 = .ok (.aload_n 0, 1) := by decide +kernel
theorem dX11_chooseLeavers_113 : decode cX11_chooseLeavers 113 = .ok (.getfield 12, 3) := by decide +kernel
theorem dX11_chooseLeavers_116 : decode cX11_chooseLeavers 116 = .ok (.getfield 125, 3) := by decide +kernel
theorem dX11_chooseLeavers_119 : decode cX11_chooseLeavers 119 = .ok (.iload 4, 2) := by decide +kernel
theorem dX11_chooseLeavers_121 : decode cX11_chooseLeavers 121 = .ok (.iaload, 1) := by decide +kernel
theorem dX11_chooseLeavers_122 : decode cX11_chooseLeavers 122 = .ok (.isub, 1) := by decide +kernel
theorem dX11_chooseLeavers_123 : decode cX11_chooseLeavers 123 = .ok (.istore_n 2, 1) := by decide +kernel
theorem dX11_chooseLeavers_124 : decode cX11_chooseLeavers 124 = .ok (.iinc 3 1, 3) := by decide +kernel
theorem dX11_chooseLeavers_127 : decode cX11_chooseLeavers 127 = .ok (.goto (-49), 3) := by decide +kernel
theorem dX11_chooseLeavers_130 : decode cX11_chooseLeavers 130 = .ok (.iload_n 2, 1) := by decide +kernel
theorem dX11_chooseLeavers_131 : decode cX11_chooseLeavers 131 = .ok (.ifCond .gt 7, 3) := by decide +kernel
theorem dX11_chooseLeavers_134 : decode cX11_chooseLeavers 134 = .ok (.iconst 1, 1) := by decide +kernel
theorem dX11_chooseLeavers_135 : decode cX11_chooseLeavers 135 = .ok (.goto 4, 3) := by decide +kernel
theorem dX11_chooseLeavers_138 : decode cX11_chooseLeavers 138 = .ok (.iconst 0, 1) := by decide +kernel
theorem dX11_chooseLeavers_139 : decode cX11_chooseLeavers 139 = .ok (.ireturn, 1) := by decide +kernel
set_option maxRecDepth 20000 in
theorem ggX11_nextLeaver_X11_leavesBefore : GoodIn wsX11_nextLeaver wsX11_leavesBefore := goodIn_ca (goodIn_r _ [11, 5, 12, 1, 13, 14, 15, 16, 17, 18, 19, 20, 21, 22, 23, 24, 25, 26, 36, 37, 38, 39, 40, 27, 28, 29, 30, 31] (by decide +kernel) (by decide +kernel)) (goodIn_sub (fun _ h => List.mem_cons_of_mem _ (List.mem_append_right _ h)) (by decide +kernel))
set_option maxRecDepth 20000 in
theorem gX11_nextLeaver_X11_leavesBefore : GoodIn wsX11_nextLeaver (wsV RX11 408 RX11 yX11_leavesBefore wsX11_leavesBefore) := goodIn_app (goodIn_of _ (by decide +kernel)) ggX11_nextLeaver_X11_leavesBefore
theorem dX11_nextLeaver_0 : decode cX11_nextLeaver 0 = .ok (.iconst (-1), 1) := by decide +kernel
theorem dX11_nextLeaver_1 : decode cX11_nextLeaver 1 = .ok (.istore_n 1, 1) := by decide +kernel
theorem dX11_nextLeaver_2 : decode cX11_nextLeaver 2 = .ok (.iconst 0, 1) := by decide +kernel
theorem dX11_nextLeaver_3 : decode cX11_nextLeaver 3 = .ok (.istore_n 2, 1) := by decide +kernel
theorem dX11_nextLeaver_4 : decode cX11_nextLeaver 4 = .ok (.iload_n 2, 1) := by decide +kernel
theorem dX11_nextLeaver_5 : decode cX11_nextLeaver 5 = .ok (.bipush 32, 2) := by decide +kernel
theorem dX11_nextLeaver_7 : decode cX11_nextLeaver 7 = .ok (.if_icmp .ge 71, 3) := by decide +kernel
theorem dX11_nextLeaver_10 : decode cX11_nextLeaver 10 = .ok (.aload_n 0, 1) := by decide +kernel
theorem dX11_nextLeaver_11 : decode cX11_nextLeaver 11 = .ok (.getfield 40, 3) := by decide +kernel
theorem dX11_nextLeaver_14 : decode cX11_nextLeaver 14 = .ok (.getfield 292, 3) := by decide +kernel
theorem dX11_nextLeaver_17 : decode cX11_nextLeaver 17 = .ok (.iload_n 2, 1) := by decide +kernel
theorem dX11_nextLeaver_18 : decode cX11_nextLeaver 18 = .ok (.baload, 1) := by decide +kernel
theorem dX11_nextLeaver_19 : decode cX11_nextLeaver 19 = .ok (.ifCond .eq 31, 3) := by decide +kernel
theorem dX11_nextLeaver_22 : decode cX11_nextLeaver 22 = .ok (.aload_n 0, 1) := by decide +kernel
theorem dX11_nextLeaver_23 : decode cX11_nextLeaver 23 = .ok (.getfield 54, 3) := by decide +kernel
theorem dX11_nextLeaver_26 : decode cX11_nextLeaver 26 = .ok (.getfield 238, 3) := by decide +kernel
theorem dX11_nextLeaver_29 : decode cX11_nextLeaver 29 = .ok (.iload_n 2, 1) := by decide +kernel
theorem dX11_nextLeaver_30 : decode cX11_nextLeaver 30 = .ok (.baload, 1) := by decide +kernel
theorem dX11_nextLeaver_31 : decode cX11_nextLeaver 31 = .ok (.ifCond .ne 19, 3) := by decide +kernel
theorem dX11_nextLeaver_34 : decode cX11_nextLeaver 34 = .ok (.aload_n 0, 1) := by decide +kernel
theorem dX11_nextLeaver_35 : decode cX11_nextLeaver 35 = .ok (.getfield 75, 3) := by decide +kernel
theorem dX11_nextLeaver_38 : decode cX11_nextLeaver 38 = .ok (.getfield 405, 3) := by decide +kernel
theorem dX11_nextLeaver_41 : decode cX11_nextLeaver 41 = .ok (.iload_n 2, 1) := by decide +kernel
theorem dX11_nextLeaver_42 : decode cX11_nextLeaver 42 = .ok (.baload, 1) := by decide +kernel
theorem dX11_nextLeaver_43 : decode cX11_nextLeaver 43 = .ok (.ifCond .ne 7, 3) := by decide +kernel
theorem dX11_nextLeaver_46 : decode cX11_nextLeaver 46 = .ok (.iconst 1, 1) := by decide +kernel
theorem dX11_nextLeaver_47 : decode cX11_nextLeaver 47 = .ok (.goto 4, 3) := by decide +kernel
theorem dX11_nextLeaver_50 : decode cX11_nextLeaver 50 = .ok (.iconst 0, 1) := by decide +kernel
theorem dX11_nextLeaver_51 : decode cX11_nextLeaver 51 = .ok (.istore_n 3, 1) := by decide +kernel
theorem dX11_nextLeaver_52 : decode cX11_nextLeaver 52 = .ok (.iload_n 3, 1) := by decide +kernel
theorem dX11_nextLeaver_53 : decode cX11_nextLeaver 53 = .ok (.ifCond .eq 19, 3) := by decide +kernel
theorem dX11_nextLeaver_56 : decode cX11_nextLeaver 56 = .ok (.iload_n 1, 1) := by decide +kernel
theorem dX11_nextLeaver_57 : decode cX11_nextLeaver 57 = .ok (.iconst (-1), 1) := by decide +kernel
theorem dX11_nextLeaver_58 : decode cX11_nextLeaver 58 = .ok (.if_icmp .eq 12, 3) := by decide +kernel
theorem dX11_nextLeaver_61 : decode cX11_nextLeaver 61 = .ok (.aload_n 0, 1) := by decide +kernel
theorem dX11_nextLeaver_62 : decode cX11_nextLeaver 62 = .ok (.iload_n 2, 1) := by decide +kernel
theorem dX11_nextLeaver_63 : decode cX11_nextLeaver 63 = .ok (.iload_n 1, 1) := by decide +kernel
theorem dX11_nextLeaver_64 : decode cX11_nextLeaver 64 = .ok (.invokevirtual 408, 3) := by decide +kernel
theorem dX11_nextLeaver_67 : decode cX11_nextLeaver 67 = .ok (.ifCond .eq 5, 3) := by decide +kernel
theorem dX11_nextLeaver_70 : decode cX11_nextLeaver 70 = .ok (.iload_n 2, 1) := by decide +kernel
theorem dX11_nextLeaver_71 : decode cX11_nextLeaver 71 = .ok (.istore_n 1, 1) := by decide +kernel
theorem dX11_nextLeaver_72 : decode cX11_nextLeaver 72 = .ok (.iinc 2 1, 3) := by decide +kernel
theorem dX11_nextLeaver_75 : decode cX11_nextLeaver 75 = .ok (.goto (-71), 3) := by decide +kernel
theorem dX11_nextLeaver_78 : decode cX11_nextLeaver 78 = .ok (.iload_n 1, 1) := by decide +kernel
theorem dX11_nextLeaver_79 : decode cX11_nextLeaver 79 = .ok (.ireturn, 1) := by decide +kernel
theorem dX11_leavesBefore_0 : decode cX11_leavesBefore 0 = .ok (.aload_n 0, 1) := by decide +kernel
theorem dX11_leavesBefore_1 : decode cX11_leavesBefore 1 = .ok (.getfield 75, 3) := by decide +kernel
theorem dX11_leavesBefore_4 : decode cX11_leavesBefore 4 = .ok (.getfield 393, 3) := by decide +kernel
theorem dX11_leavesBefore_7 : decode cX11_leavesBefore 7 = .ok (.iload_n 1, 1) := by decide +kernel
theorem dX11_leavesBefore_8 : decode cX11_leavesBefore 8 = .ok (.iaload, 1) := by decide +kernel
theorem dX11_leavesBefore_9 : decode cX11_leavesBefore 9 = .ok (.aload_n 0, 1) := by decide +kernel
theorem dX11_leavesBefore_10 : decode cX11_leavesBefore 10 = .ok (.getfield 75, 3) := by decide +kernel
theorem dX11_leavesBefore_13 : decode cX11_leavesBefore 13 = .ok (.getfield 393, 3) := by decide +kernel
theorem dX11_leavesBefore_16 : decode cX11_leavesBefore 16 = .ok (.iload_n 2, 1) := by decide +kernel
theorem dX11_leavesBefore_17 : decode cX11_leavesBefore 17 = .ok (.iaload, 1) := by decide +kernel
theorem dX11_leavesBefore_18 : decode cX11_leavesBefore 18 = .ok (.isub, 1) := by decide +kernel
theorem dX11_leavesBefore_19 : decode cX11_leavesBefore 19 = .ok (.istore_n 3, 1) := by decide +kernel
theorem dX11_leavesBefore_20 : decode cX11_leavesBefore 20 = .ok (.iload_n 3, 1) := by decide +kernel
theorem dX11_leavesBefore_21 : decode cX11_leavesBefore 21 = .ok (.ifCond .lt 28, 3) := by decide +kernel
theorem dX11_leavesBefore_24 : decode cX11_leavesBefore 24 = .ok (.iload_n 3, 1) := by decide +kernel
theorem dX11_leavesBefore_25 : decode cX11_leavesBefore 25 = .ok (.ifCond .ne 28, 3) := by decide +kernel
theorem dX11_leavesBefore_28 : decode cX11_leavesBefore 28 = .ok (.aload_n 0, 1) := by decide +kernel
theorem dX11_leavesBefore_29 : decode cX11_leavesBefore 29 = .ok (.getfield 40, 3) := by decide +kernel
theorem dX11_leavesBefore_32 : decode cX11_leavesBefore 32 = .ok (.getfield 411, 3) := by decide +kernel
theorem dX11_leavesBefore_35 : decode cX11_leavesBefore 35 = .ok (.iload_n 1, 1) := by decide +kernel
theorem dX11_leavesBefore_36 : decode cX11_leavesBefore 36 = .ok (.iaload, 1) := by decide +kernel
theorem dX11_leavesBefore_37 : decode cX11_leavesBefore 37 = .ok (.aload_n 0, 1) := by decide +kernel
theorem dX11_leavesBefore_38 : decode cX11_leavesBefore 38 = .ok (.getfield 40, 3) := by decide +kernel
theorem dX11_leavesBefore_41 : decode cX11_leavesBefore 41 = .ok (.getfield 411, 3) := by decide +kernel
theorem dX11_leavesBefore_44 : decode cX11_leavesBefore 44 = .ok (.iload_n 2, 1) := by decide +kernel
theorem dX11_leavesBefore_45 : decode cX11_leavesBefore 45 = .ok (.iaload, 1) := by decide +kernel
theorem dX11_leavesBefore_46 : decode cX11_leavesBefore 46 = .ok (.if_icmp .ge 7, 3) := by decide +kernel
theorem dX11_leavesBefore_49 : decode cX11_leavesBefore 49 = .ok (.iconst 1, 1) := by decide +kernel
theorem dX11_leavesBefore_50 : decode cX11_leavesBefore 50 = .ok (.goto 4, 3) := by decide +kernel
theorem dX11_leavesBefore_53 : decode cX11_leavesBefore 53 = .ok (.iconst 0, 1) := by decide +kernel
theorem dX11_leavesBefore_54 : decode cX11_leavesBefore 54 = .ok (.ireturn, 1) := by decide +kernel
set_option maxRecDepth 20000 in
theorem ggX11_comeIfWorthIt_X11_chooseLeavers : GoodIn wsX11_comeIfWorthIt wsX11_chooseLeavers := goodIn_ca (goodIn_r _ [8, 1, 9, 10, 11, 12, 13, 14, 15, 16, 17, 18, 19, 20, 21, 22, 23, 24, 25, 7, 26, 27, 28, 29, 30, 31, 32, 33, 34, 35, 36, 37, 38, 39, 40, 41, 42, 43, 44, 45, 46, 47, 48, 49, 50, 51, 52, 53, 54, 55, 114, 115, 116, 117, 118, 119, 120, 121, 122, 123, 124, 125, 126, 132, 133, 134, 135, 136, 137, 138, 139, 140, 127, 128, 129, 130, 131, 141, 142, 143, 144, 145, 146] (by decide +kernel) (by decide +kernel)) (goodIn_sub (fun _ h => List.mem_cons_of_mem _ (List.mem_append_right _ h)) (by decide +kernel))
set_option maxRecDepth 20000 in
theorem gX11_comeIfWorthIt_X11_chooseLeavers : GoodIn wsX11_comeIfWorthIt (wsV RX11 222 RX11 yX11_chooseLeavers wsX11_chooseLeavers) := goodIn_app (goodIn_of _ (by decide +kernel)) ggX11_comeIfWorthIt_X11_chooseLeavers
set_option maxRecDepth 20000 in
theorem ggX11_comeIfWorthIt_X11_worth : GoodIn wsX11_comeIfWorthIt wsX11_worth := goodIn_ca (goodIn_r _ [26, 27, 12, 28, 29, 30, 31, 32, 33, 34, 35, 36, 37, 114, 115, 116, 117, 118, 119, 120, 121, 122, 123, 124, 125, 126, 137, 138, 139, 140, 141, 142] (by decide +kernel) (by decide +kernel)) (goodIn_sub (fun _ h => List.mem_cons_of_mem _ (List.mem_append_right _ h)) (by decide +kernel))
set_option maxRecDepth 20000 in
theorem gX11_comeIfWorthIt_X11_worth : GoodIn wsX11_comeIfWorthIt (wsV RX11 396 RX11 yX11_worth wsX11_worth) := goodIn_app (goodIn_of _ (by decide +kernel)) ggX11_comeIfWorthIt_X11_worth
set_option maxRecDepth 20000 in
theorem ggX11_comeIfWorthIt_X11_come : GoodIn wsX11_comeIfWorthIt wsX11_come := goodIn_ca (goodIn_r _ [59, 1, 2, 60, 27, 61, 9, 62, 12, 13, 63, 29, 30, 31, 32, 33, 34, 35, 36, 37, 64, 65, 66, 67, 68, 69, 70, 71, 72, 73, 74, 75, 76, 77, 78, 79, 80, 81, 82, 83, 84, 85, 86, 87, 88, 89, 90, 91, 92, 93, 94, 95, 96, 97, 98, 99, 100, 101, 102, 103, 104, 105, 106, 107, 108, 109, 110, 111, 112, 113, 114, 115, 116, 117, 118, 119, 120, 121, 122, 123, 124, 125, 126, 127, 128, 129, 130, 131, 132, 133, 134, 135, 136, 137, 138, 139, 140, 141, 142, 147, 148, 149, 150, 151, 152, 153, 154, 155] (by decide +kernel) (by decide +kernel)) (goodIn_sub (fun _ h => List.mem_cons_of_mem _ (List.mem_append_right _ h)) (by decide +kernel))
set_option maxRecDepth 20000 in
theorem gX11_comeIfWorthIt_X11_come : GoodIn wsX11_comeIfWorthIt (wsV RX11 418 RX11 yX11_come wsX11_come) := goodIn_app (goodIn_of _ (by decide +kernel)) ggX11_comeIfWorthIt_X11_come
theorem dX11_comeIfWorthIt_0 : decode cX11_comeIfWorthIt 0 = .ok (.aload_n 0, 1) := by decide +kernel
theorem dX11_comeIfWorthIt_1 : decode cX11_comeIfWorthIt 1 = .ok (.iload_n 1, 1) := by decide +kernel
theorem dX11_comeIfWorthIt_2 : decode cX11_comeIfWorthIt 2 = .ok (.invokevirtual 222, 3) := by decide +kernel
theorem dX11_comeIfWorthIt_5 : decode cX11_comeIfWorthIt 5 = .ok (.ifCond .eq 28, 3) := by decide +kernel
theorem dX11_comeIfWorthIt_8 : decode cX11_comeIfWorthIt 8 = .ok (.aload_n 0, 1) := by decide +kernel
theorem dX11_comeIfWorthIt_9 : decode cX11_comeIfWorthIt 9 = .ok (.getfield 75, 3) := by decide +kernel
theorem dX11_comeIfWorthIt_12 : decode cX11_comeIfWorthIt 12 = .ok (.getfield 414, 3) := by decide +kernel
theorem dX11_comeIfWorthIt_15 : decode cX11_comeIfWorthIt 15 = .ok (.ifCond .le 20, 3) := by decide +kernel
theorem dX11_comeIfWorthIt_18 : decode cX11_comeIfWorthIt 18 = .ok (.aload_n 0, 1) := by decide +kernel
theorem dX11_comeIfWorthIt_19 : decode cX11_comeIfWorthIt 19 = .ok (.getfield 75, 3) := by decide +kernel
theorem dX11_comeIfWorthIt_22 : decode cX11_comeIfWorthIt 22 = .ok (.getfield 415, 3) := by decide +kernel
theorem dX11_comeIfWorthIt_25 : decode cX11_comeIfWorthIt 25 = .ok (.aload_n 0, 1) := by decide +kernel
theorem dX11_comeIfWorthIt_26 : decode cX11_comeIfWorthIt 26 = .ok (.iload_n 1, 1) := by decide +kernel
theorem dX11_comeIfWorthIt_27 : decode cX11_comeIfWorthIt 27 = .ok (.invokevirtual 396, 3) := by decide +kernel
theorem dX11_comeIfWorthIt_30 : decode cX11_comeIfWorthIt 30 = .ok (.if_icmp .lt 5, 3) := by decide +kernel
theorem dX11_comeIfWorthIt_33 : decode cX11_comeIfWorthIt 33 = .ok (.iconst 0, 1) := by decide +kernel
theorem dX11_comeIfWorthIt_34 : decode cX11_comeIfWorthIt 34 = .ok (.ireturn, 1) := by decide +kernel
theorem dX11_comeIfWorthIt_35 : decode cX11_comeIfWorthIt 35 = .ok (.aload_n 0, 1) := by decide +kernel
theorem dX11_comeIfWorthIt_36 : decode cX11_comeIfWorthIt 36 = .ok (.iload_n 1, 1) := by decide +kernel
theorem dX11_comeIfWorthIt_37 : decode cX11_comeIfWorthIt 37 = .ok (.invokevirtual 418, 3) := by decide +kernel
theorem dX11_comeIfWorthIt_40 : decode cX11_comeIfWorthIt 40 = .ok (.iconst 1, 1) := by decide +kernel
theorem dX11_comeIfWorthIt_41 : decode cX11_comeIfWorthIt 41 = .ok (.ireturn, 1) := by decide +kernel
set_option maxRecDepth 20000 in
theorem ggX11_come_X9_leastOf : GoodIn wsX11_come wsX9_leastOf := goodIn_ca (goodIn_r _ [15, 16, 17, 18, 14, 19, 97, 98] (by decide +kernel) (by decide +kernel)) (goodIn_sub (fun _ h => List.mem_cons_of_mem _ (List.mem_append_right _ h)) (by decide +kernel))
set_option maxRecDepth 20000 in
theorem gX11_come_X9_leastOf : GoodIn wsX11_come (wsV RX11 301 RX9 yX9_leastOf wsX9_leastOf) := goodIn_app (goodIn_of _ (by decide +kernel)) ggX11_come_X9_leastOf
set_option maxRecDepth 20000 in
theorem ggX11_come_X3_append : GoodIn wsX11_come wsX3_append := goodIn_ca (goodIn_r _ [24, 25, 26, 27, 28, 29, 30, 23, 31, 32, 33, 34, 35, 36, 37, 38, 39, 40, 41, 42, 43, 44, 45, 46, 47, 48, 49, 50, 99, 100, 101, 102, 103, 104, 105, 106, 107] (by decide +kernel) (by decide +kernel)) (goodIn_sub (fun _ h => List.mem_cons_of_mem _ (List.mem_append_right _ h)) (by decide +kernel))
set_option maxRecDepth 20000 in
theorem gX11_come_X3_append : GoodIn wsX11_come (wsV RX11 424 RX3 yX3_append wsX3_append) := goodIn_app (goodIn_of _ (by decide +kernel)) ggX11_come_X3_append
set_option maxRecDepth 20000 in
theorem ggX11_come_X6_remove : GoodIn wsX11_come wsX6_remove := goodIn_ca (goodIn_r _ [55, 56, 57, 88, 89, 90, 91, 92] (by decide +kernel) (by decide +kernel)) (goodIn_sub (fun _ h => List.mem_cons_of_mem _ (List.mem_append_right _ h)) (by decide +kernel))
set_option maxRecDepth 20000 in
theorem gX11_come_X6_remove : GoodIn wsX11_come (wsV RX11 244 RX6 yX6_remove wsX6_remove) := goodIn_app (goodIn_of _ (by decide +kernel)) ggX11_come_X6_remove
set_option maxRecDepth 20000 in
theorem ggX11_come_X6_put : GoodIn wsX11_come wsX6_put := goodIn_ca (goodIn_r _ [61, 56, 57, 62, 63, 39, 40, 41, 42, 43, 44, 45, 46, 47, 48, 49, 50, 64, 65, 66, 54, 67, 68, 69, 88, 89, 90, 91, 92, 104, 105, 106, 107] (by decide +kernel) (by decide +kernel)) (goodIn_sub (fun _ h => List.mem_cons_of_mem _ (List.mem_append_right _ h)) (by decide +kernel))
set_option maxRecDepth 20000 in
theorem gX11_come_X6_put : GoodIn wsX11_come (wsV RX11 428 RX6 yX6_put wsX6_put) := goodIn_app (goodIn_of _ (by decide +kernel)) ggX11_come_X6_put
theorem dX11_come_0 : decode cX11_come 0 = .ok (.iconst 0, 1) := by decide +kernel
theorem dX11_come_1 : decode cX11_come 1 = .ok (.istore_n 2, 1) := by decide +kernel
theorem dX11_come_2 : decode cX11_come 2 = .ok (.iload_n 2, 1) := by decide +kernel
theorem dX11_come_3 : decode cX11_come 3 = .ok (.aload_n 0, 1) := by decide +kernel
theorem dX11_come_4 : decode cX11_come 4 = .ok (.getfield 75, 3) := by decide +kernel
theorem dX11_come_7 : decode cX11_come 7 = .ok (.getfield 414, 3) := by decide +kernel
theorem dX11_come_10 : decode cX11_come 10 = .ok (.if_icmp .ge 63, 3) := by decide +kernel
theorem dX11_come_13 : decode cX11_come 13 = .ok (.aload_n 0, 1) := by decide +kernel
theorem dX11_come_14 : decode cX11_come 14 = .ok (.getfield 75, 3) := by decide +kernel
theorem dX11_come_17 : decode cX11_come 17 = .ok (.getfield 421, 3) := by decide +kernel
theorem dX11_come_20 : decode cX11_come 20 = .ok (.iload_n 2, 1) := by decide +kernel
theorem dX11_come_21 : decode cX11_come 21 = .ok (.iaload, 1) := by decide +kernel
theorem dX11_come_22 : decode cX11_come 22 = .ok (.istore_n 3, 1) := by decide +kernel
theorem dX11_come_23 : decode cX11_come 23 = .ok (.aload_n 0, 1) := by decide +kernel
theorem dX11_come_24 : decode cX11_come 24 = .ok (.getfield 33, 3) := by decide +kernel
theorem dX11_come_27 : decode cX11_come 27 = .ok (.iload_n 3, 1) := by decide +kernel
theorem dX11_come_28 : decode cX11_come 28 = .ok (.invokevirtual 301, 3) := by decide +kernel
theorem dX11_come_31 : decode cX11_come 31 = .ok (.iconst 2, 1) := by decide +kernel
theorem dX11_come_32 : decode cX11_come 32 = .ok (.if_icmp .lt 18, 3) := by decide +kernel
theorem dX11_come_35 : decode cX11_come 35 = .ok (.aload_n 0, 1) := by decide +kernel
theorem dX11_come_36 : decode cX11_come 36 = .ok (.getfield 47, 3) := by decide +kernel
theorem dX11_come_39 : decode cX11_come 39 = .ok (.iload_n 3, 1) := by decide +kernel
theorem dX11_come_40 : decode cX11_come 40 = .ok (.aload_n 0, 1) := by decide +kernel
theorem dX11_come_41 : decode cX11_come 41 = .ok (.getfield 40, 3) := by decide +kernel
theorem dX11_come_44 : decode cX11_come 44 = .ok (.getfield 306, 3) := by decide +kernel
theorem dX11_come_47 : decode cX11_come 47 = .ok (.invokevirtual 424, 3) := by decide +kernel
theorem dX11_come_50 : decode cX11_come 50 = .ok (.aload_n 0, 1) := by decide +kernel
theorem dX11_come_51 : decode cX11_come 51 = .ok (.getfield 40, 3) := by decide +kernel
theorem dX11_come_54 : decode cX11_come 54 = .ok (.iload_n 3, 1) := by decide +kernel
theorem dX11_come_55 : decode cX11_come 55 = .ok (.aload_n 0, 1) := by decide +kernel
theorem dX11_come_56 : decode cX11_come 56 = .ok (.getfield 12, 3) := by decide +kernel
theorem dX11_come_59 : decode cX11_come 59 = .ok (.getfield 125, 3) := by decide +kernel
theorem dX11_come_62 : decode cX11_come 62 = .ok (.iload_n 3, 1) := by decide +kernel
theorem dX11_come_63 : decode cX11_come 63 = .ok (.iaload, 1) := by decide +kernel
theorem dX11_come_64 : decode cX11_come 64 = .ok (.invokevirtual 244, 3) := by decide +kernel
theorem dX11_come_67 : decode cX11_come 67 = .ok (.iinc 2 1, 3) := by decide +kernel
theorem dX11_come_70 : decode cX11_come 70 = .ok (.goto (-68), 3) := by decide +kernel
theorem dX11_come_73 : decode cX11_come 73 = .ok (.aload_n 0, 1) := by decide +kernel
theorem dX11_come_74 : decode cX11_come 74 = .ok (.getfield 40, 3) := by decide +kernel
theorem dX11_come_77 : decode cX11_come 77 = .ok (.iload_n 1, 1) := by decide +kernel
theorem dX11_come_78 : decode cX11_come 78 = .ok (.aload_n 0, 1) := by decide +kernel
theorem dX11_come_79 : decode cX11_come 79 = .ok (.getfield 12, 3) := by decide +kernel
theorem dX11_come_82 : decode cX11_come 82 = .ok (.getfield 125, 3) := by decide +kernel
theorem dX11_come_85 : decode cX11_come 85 = .ok (.iload_n 1, 1) := by decide +kernel
theorem dX11_come_86 : decode cX11_come 86 = .ok (.iaload, 1) := by decide +kernel
theorem dX11_come_87 : decode cX11_come 87 = .ok (.aload_n 0, 1) := by decide +kernel
theorem dX11_come_88 : decode cX11_come 88 = .ok (.getfield 84, 3) := by decide +kernel
theorem dX11_come_91 : decode cX11_come 91 = .ok (.invokevirtual 428, 3) := by decide +kernel
theorem dX11_come_94 : decode cX11_come 94 = .ok (.return_, 1) := by decide +kernel
set_option maxRecDepth 20000 in
theorem ggX11_comeAgain_X1_clear : GoodIn wsX11_comeAgain wsX1_clear := goodIn_ca (goodIn_r _ [15, 16, 17, 18, 71, 72, 73, 74, 75] (by decide +kernel) (by decide +kernel)) (goodIn_sub (fun _ h => List.mem_cons_of_mem _ (List.mem_append_right _ h)) (by decide +kernel))
set_option maxRecDepth 20000 in
theorem gX11_comeAgain_X1_clear : GoodIn wsX11_comeAgain (wsV RX11 392 RX1 yX1_clear wsX1_clear) := goodIn_app (goodIn_of _ (by decide +kernel)) ggX11_comeAgain_X1_clear
set_option maxRecDepth 20000 in
theorem ggX11_comeAgain_X11_nextToComeAgain : GoodIn wsX11_comeAgain wsX11_nextToComeAgain := goodIn_ca (goodIn_r _ [23, 8, 10, 1, 2, 24, 25, 26, 22, 27, 5, 28, 9, 29, 58, 59, 60, 61, 62, 63, 64, 65, 66, 67, 68, 69, 70, 85, 86, 87, 88, 89, 71, 72, 73, 74, 75, 81, 82, 83, 84, 90, 91, 92, 93] (by decide +kernel) (by decide +kernel)) (goodIn_sub (fun _ h => List.mem_cons_of_mem _ (List.mem_append_right _ h)) (by decide +kernel))
set_option maxRecDepth 20000 in
theorem gX11_comeAgain_X11_nextToComeAgain : GoodIn wsX11_comeAgain (wsV RX11 431 RX11 yX11_nextToComeAgain wsX11_nextToComeAgain) := goodIn_app (goodIn_of _ (by decide +kernel)) ggX11_comeAgain_X11_nextToComeAgain
set_option maxRecDepth 20000 in
theorem ggX11_comeAgain_X2_take : GoodIn wsX11_comeAgain wsX2_take := goodIn_ca (goodIn_r _ [34, 35, 36, 37, 38, 39, 40, 41, 33, 42, 90, 91, 92, 93] (by decide +kernel) (by decide +kernel)) (goodIn_sub (fun _ h => List.mem_cons_of_mem _ (List.mem_append_right _ h)) (by decide +kernel))
set_option maxRecDepth 20000 in
theorem gX11_comeAgain_X2_take : GoodIn wsX11_comeAgain (wsV RX11 204 RX2 yX2_take wsX2_take) := goodIn_app (goodIn_of _ (by decide +kernel)) ggX11_comeAgain_X2_take
set_option maxRecDepth 20000 in
theorem ggX11_comeAgain_X6_put : GoodIn wsX11_comeAgain wsX6_put := goodIn_ca (goodIn_r _ [47, 48, 49, 50, 51, 31, 32, 33, 34, 35, 36, 37, 38, 39, 40, 41, 42, 52, 53, 54, 46, 55, 56, 57, 76, 77, 78, 79, 80, 90, 91, 92, 93] (by decide +kernel) (by decide +kernel)) (goodIn_sub (fun _ h => List.mem_cons_of_mem _ (List.mem_append_right _ h)) (by decide +kernel))
set_option maxRecDepth 20000 in
theorem gX11_comeAgain_X6_put : GoodIn wsX11_comeAgain (wsV RX11 428 RX6 yX6_put wsX6_put) := goodIn_app (goodIn_of _ (by decide +kernel)) ggX11_comeAgain_X6_put
theorem dX11_comeAgain_0 : decode cX11_comeAgain 0 = .ok (.aload_n 0, 1) := by decide +kernel
theorem dX11_comeAgain_1 : decode cX11_comeAgain 1 = .ok (.getfield 75, 3) := by decide +kernel
theorem dX11_comeAgain_4 : decode cX11_comeAgain 4 = .ok (.invokevirtual 392, 3) := by decide +kernel
theorem dX11_comeAgain_7 : decode cX11_comeAgain 7 = .ok (.iconst 0, 1) := by decide +kernel
theorem dX11_comeAgain_8 : decode cX11_comeAgain 8 = .ok (.istore_n 1, 1) := by decide +kernel
theorem dX11_comeAgain_9 : decode cX11_comeAgain 9 = .ok (.iload_n 1, 1) := by decide +kernel
theorem dX11_comeAgain_10 : decode cX11_comeAgain 10 = .ok (.bipush 32, 2) := by decide +kernel
theorem dX11_comeAgain_12 : decode cX11_comeAgain 12 = .ok (.if_icmp .ge 97, 3) := by decide +kernel
theorem dX11_comeAgain_15 : decode cX11_comeAgain 15 = .ok (.aload_n 0, 1) := by decide +kernel
theorem dX11_comeAgain_16 : decode cX11_comeAgain 16 = .ok (.invokevirtual 431, 3) := by decide +kernel
theorem dX11_comeAgain_19 : decode cX11_comeAgain 19 = .ok (.istore_n 2, 1) := by decide +kernel
theorem dX11_comeAgain_20 : decode cX11_comeAgain 20 = .ok (.iload_n 2, 1) := by decide +kernel
theorem dX11_comeAgain_21 : decode cX11_comeAgain 21 = .ok (.iconst (-1), 1) := by decide +kernel
theorem dX11_comeAgain_22 : decode cX11_comeAgain 22 = .ok (.if_icmp .ne 4, 3) := by decide +kernel
theorem dX11_comeAgain_25 : decode cX11_comeAgain 25 = .ok (.return_, 1) := by decide +kernel
theorem dX11_comeAgain_26 : decode cX11_comeAgain 26 = .ok (.aload_n 0, 1) := by decide +kernel
theorem dX11_comeAgain_27 : decode cX11_comeAgain 27 = .ok (.getfield 75, 3) := by decide +kernel
theorem dX11_comeAgain_30 : decode cX11_comeAgain 30 = .ok (.getfield 405, 3) := by decide +kernel
theorem dX11_comeAgain_33 : decode cX11_comeAgain 33 = .ok (.iload_n 2, 1) := by decide +kernel
theorem dX11_comeAgain_34 : decode cX11_comeAgain 34 = .ok (.iconst 1, 1) := by decide +kernel
theorem dX11_comeAgain_35 : decode cX11_comeAgain 35 = .ok (.bastore, 1) := by decide +kernel
theorem dX11_comeAgain_36 : decode cX11_comeAgain 36 = .ok (.aload_n 0, 1) := by decide +kernel
theorem dX11_comeAgain_37 : decode cX11_comeAgain 37 = .ok (.getfield 40, 3) := by decide +kernel
theorem dX11_comeAgain_40 : decode cX11_comeAgain 40 = .ok (.getfield 298, 3) := by decide +kernel
theorem dX11_comeAgain_43 : decode cX11_comeAgain 43 = .ok (.aload_n 0, 1) := by decide +kernel
theorem dX11_comeAgain_44 : decode cX11_comeAgain 44 = .ok (.getfield 12, 3) := by decide +kernel
theorem dX11_comeAgain_47 : decode cX11_comeAgain 47 = .ok (.getfield 125, 3) := by decide +kernel
theorem dX11_comeAgain_50 : decode cX11_comeAgain 50 = .ok (.iload_n 2, 1) := by decide +kernel
theorem dX11_comeAgain_51 : decode cX11_comeAgain 51 = .ok (.iaload, 1) := by decide +kernel
theorem dX11_comeAgain_52 : decode cX11_comeAgain 52 = .ok (.iadd, 1) := by decide +kernel
theorem dX11_comeAgain_53 : decode cX11_comeAgain 53 = .ok (.bipush 12, 2) := by decide +kernel
theorem dX11_comeAgain_55 : decode cX11_comeAgain 55 = .ok (.if_icmp .gt 48, 3) := by decide +kernel
theorem dX11_comeAgain_58 : decode cX11_comeAgain 58 = .ok (.aload_n 0, 1) := by decide +kernel
theorem dX11_comeAgain_59 : decode cX11_comeAgain 59 = .ok (.getfield 84, 3) := by decide +kernel
theorem dX11_comeAgain_62 : decode cX11_comeAgain 62 = .ok (.iconst 0, 1) := by decide +kernel
theorem dX11_comeAgain_63 : decode cX11_comeAgain 63 = .ok (.aload_n 0, 1) := by decide +kernel
theorem dX11_comeAgain_64 : decode cX11_comeAgain 64 = .ok (.getfield 47, 3) := by decide +kernel
theorem dX11_comeAgain_67 : decode cX11_comeAgain 67 = .ok (.getfield 308, 3) := by decide +kernel
theorem dX11_comeAgain_70 : decode cX11_comeAgain 70 = .ok (.aload_n 0, 1) := by decide +kernel
theorem dX11_comeAgain_71 : decode cX11_comeAgain 71 = .ok (.getfield 47, 3) := by decide +kernel
theorem dX11_comeAgain_74 : decode cX11_comeAgain 74 = .ok (.getfield 295, 3) := by decide +kernel
theorem dX11_comeAgain_77 : decode cX11_comeAgain 77 = .ok (.iload_n 2, 1) := by decide +kernel
theorem dX11_comeAgain_78 : decode cX11_comeAgain 78 = .ok (.iaload, 1) := by decide +kernel
theorem dX11_comeAgain_79 : decode cX11_comeAgain 79 = .ok (.invokevirtual 204, 3) := by decide +kernel
theorem dX11_comeAgain_82 : decode cX11_comeAgain 82 = .ok (.aload_n 0, 1) := by decide +kernel
theorem dX11_comeAgain_83 : decode cX11_comeAgain 83 = .ok (.getfield 40, 3) := by decide +kernel
theorem dX11_comeAgain_86 : decode cX11_comeAgain 86 = .ok (.iload_n 2, 1) := by decide +kernel
theorem dX11_comeAgain_87 : decode cX11_comeAgain 87 = .ok (.aload_n 0, 1) := by decide +kernel
theorem dX11_comeAgain_88 : decode cX11_comeAgain 88 = .ok (.getfield 12, 3) := by decide +kernel
theorem dX11_comeAgain_91 : decode cX11_comeAgain 91 = .ok (.getfield 125, 3) := by decide +kernel
theorem dX11_comeAgain_94 : decode cX11_comeAgain 94 = .ok (.iload_n 2, 1) := by decide +kernel
theorem dX11_comeAgain_95 : decode cX11_comeAgain 95 = .ok (.iaload, 1) := by decide +kernel
theorem dX11_comeAgain_96 : decode cX11_comeAgain 96 = .ok (.aload_n 0, 1) := by decide +kernel
theorem dX11_comeAgain_97 : decode cX11_comeAgain 97 = .ok (.getfield 84, 3) := by decide +kernel
theorem dX11_comeAgain_100 : decode cX11_comeAgain 100 = .ok (.invokevirtual 428, 3) := by decide +kernel
theorem dX11_comeAgain_103 : decode cX11_comeAgain 103 = .ok (.iinc 1 1, 3) := by decide +kernel
theorem dX11_comeAgain_106 : decode cX11_comeAgain 106 = .ok (.goto (-97), 3) := by decide +kernel
theorem dX11_comeAgain_109 : decode cX11_comeAgain 109 = .ok (.return_, 1) := by decide +kernel
set_option maxRecDepth 20000 in
theorem ggX11_nextToComeAgain_X11_comesAgainBefore : GoodIn wsX11_nextToComeAgain wsX11_comesAgainBefore := goodIn_ca (goodIn_r _ [9, 10, 11, 1, 12, 13, 2, 14, 15, 16, 17, 18, 19, 20, 21, 22, 23, 24, 25, 26, 37, 38, 39, 40, 27, 28, 29, 30, 31, 41, 42, 43, 44] (by decide +kernel) (by decide +kernel)) (goodIn_sub (fun _ h => List.mem_cons_of_mem _ (List.mem_append_right _ h)) (by decide +kernel))
set_option maxRecDepth 20000 in
theorem gX11_nextToComeAgain_X11_comesAgainBefore : GoodIn wsX11_nextToComeAgain (wsV RX11 434 RX11 yX11_comesAgainBefore wsX11_comesAgainBefore) := goodIn_app (goodIn_of _ (by decide +kernel)) ggX11_nextToComeAgain_X11_comesAgainBefore
