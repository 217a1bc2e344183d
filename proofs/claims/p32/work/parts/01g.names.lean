theorem dX12_victim_52 : decode cX12_victim 52 = .ok (.aload_n 0, 1) := by decide +kernel
theorem dX12_victim_53 : decode cX12_victim 53 = .ok (.iload_n 2, 1) := by decide +kernel
theorem dX12_victim_54 : decode cX12_victim 54 = .ok (.invokevirtual 179, 3) := by decide +kernel
theorem dX12_victim_57 : decode cX12_victim 57 = .ok (.if_icmp .lt 31, 3) := by decide +kernel
theorem dX12_victim_60 : decode cX12_victim 60 = .ok (.aload_n 0, 1) := by decide +kernel
theorem dX12_victim_61 : decode cX12_victim 61 = .ok (.iload_n 3, 1) := by decide +kernel
theorem dX12_victim_62 : decode cX12_victim 62 = .ok (.invokevirtual 179, 3) := by decide +kernel
theorem dX12_victim_65 : decode cX12_victim 65 = .ok (.aload_n 0, 1) := by decide +kernel
theorem dX12_victim_66 : decode cX12_victim 66 = .ok (.iload_n 2, 1) := by decide +kernel
theorem dX12_victim_67 : decode cX12_victim 67 = .ok (.invokevirtual 179, 3) := by decide +kernel
theorem dX12_victim_70 : decode cX12_victim 70 = .ok (.if_icmp .ne 22, 3) := by decide +kernel
theorem dX12_victim_73 : decode cX12_victim 73 = .ok (.aload_n 0, 1) := by decide +kernel
theorem dX12_victim_74 : decode cX12_victim 74 = .ok (.getfield 68, 3) := by decide +kernel
theorem dX12_victim_77 : decode cX12_victim 77 = .ok (.iload_n 3, 1) := by decide +kernel
theorem dX12_victim_78 : decode cX12_victim 78 = .ok (.iaload, 1) := by decide +kernel
theorem dX12_victim_79 : decode cX12_victim 79 = .ok (.aload_n 0, 1) := by decide +kernel
theorem dX12_victim_80 : decode cX12_victim 80 = .ok (.getfield 68, 3) := by decide +kernel
theorem dX12_victim_83 : decode cX12_victim 83 = .ok (.iload_n 2, 1) := by decide +kernel
theorem dX12_victim_84 : decode cX12_victim 84 = .ok (.iaload, 1) := by decide +kernel
theorem dX12_victim_85 : decode cX12_victim 85 = .ok (.if_icmp .ge 7, 3) := by decide +kernel
theorem dX12_victim_88 : decode cX12_victim 88 = .ok (.iconst 1, 1) := by decide +kernel
theorem dX12_victim_89 : decode cX12_victim 89 = .ok (.goto 4, 3) := by decide +kernel
theorem dX12_victim_92 : decode cX12_victim 92 = .ok (.iconst 0, 1) := by decide +kernel
theorem dX12_victim_93 : decode cX12_victim 93 = .ok (.istore 4, 2) := by decide +kernel
theorem dX12_victim_95 : decode cX12_victim 95 = .ok (.iload 4, 2) := by decide +kernel
theorem dX12_victim_97 : decode cX12_victim 97 = .ok (.ifCond .eq 7, 3) := by decide +kernel
theorem dX12_victim_100 : decode cX12_victim 100 = .ok (.iload_n 3, 1) := by decide +kernel
theorem dX12_victim_101 : decode cX12_victim 101 = .ok (.goto 4, 3) := by decide +kernel
theorem dX12_victim_104 : decode cX12_victim 104 = .ok (.iload_n 2, 1) := by decide +kernel
theorem dX12_victim_105 : decode cX12_victim 105 = .ok (.istore_n 2, 1) := by decide +kernel
theorem dX12_victim_106 : decode cX12_victim 106 = .ok (.iinc 3 1, 3) := by decide +kernel
theorem dX12_victim_109 : decode cX12_victim 109 = .ok (.goto (-105), 3) := by decide +kernel
theorem dX12_victim_112 : decode cX12_victim 112 = .ok (.iload_n 2, 1) := by decide +kernel
theorem dX12_victim_113 : decode cX12_victim 113 = .ok (.ireturn, 1) := by decide +kernel
set_option maxRecDepth 20000 in
theorem ggX12_makesRoom_X12_usedNow : GoodIn wsX12_makesRoom wsX12_usedNow := goodIn_ca (goodIn_r _ [9, 1, 2, 54, 55, 56, 57, 58, 59, 60, 61, 62, 63, 64, 65, 66, 67, 68, 69, 70, 71, 72, 73, 74, 75, 76, 77, 78, 79, 80, 81, 82, 83, 84, 85, 86, 87, 88, 89, 90, 91, 92, 93, 94, 95, 96, 97, 98, 99, 100, 101, 102, 103, 104, 105, 106, 107, 108] (by decide +kernel) (by decide +kernel)) (goodIn_sub (fun _ h => List.mem_cons_of_mem _ (List.mem_append_right _ h)) (by decide +kernel))
set_option maxRecDepth 20000 in
theorem gX12_makesRoom_X12_usedNow : GoodIn wsX12_makesRoom (wsV RX12 182 RX12 yX12_usedNow wsX12_usedNow) := goodIn_app (goodIn_of _ (by decide +kernel)) ggX12_makesRoom_X12_usedNow
set_option maxRecDepth 20000 in
theorem ggX12_makesRoom_X12_victim : GoodIn wsX12_makesRoom wsX12_victim := goodIn_ca (goodIn_r _ [13, 1, 14, 3, 4, 15, 16, 17, 8, 18, 19, 20, 21, 22, 23, 24, 25, 26, 27, 28, 29, 30, 31, 54, 55, 56, 57, 58, 59, 60, 61, 62, 63, 64, 65, 66, 67, 68, 69, 70, 71, 72, 73, 74, 75, 76, 77, 78, 79, 80, 81, 82, 83, 84, 85, 86, 87, 88, 89, 90, 91, 92, 93, 94, 95, 96, 97, 98, 99, 100, 101, 102, 103, 104, 105, 106, 107, 108] (by decide +kernel) (by decide +kernel)) (goodIn_sub (fun _ h => List.mem_cons_of_mem _ (List.mem_append_right _ h)) (by decide +kernel))
set_option maxRecDepth 20000 in
theorem gX12_makesRoom_X12_victim : GoodIn wsX12_makesRoom (wsV RX12 185 RX12 yX12_victim wsX12_victim) := goodIn_app (goodIn_of _ (by decide +kernel)) ggX12_makesRoom_X12_victim
set_option maxRecDepth 20000 in
theorem ggX12_makesRoom_X12_worth : GoodIn wsX12_makesRoom wsX12_worth := goodIn_ca (goodIn_r _ [18, 19, 20, 21, 22, 8, 23, 24, 25, 26, 27, 28, 29, 30, 31, 54, 55, 56, 57, 58, 59, 60, 61, 62, 63, 64, 65, 66, 67, 68, 69, 70, 71, 72, 73, 74, 75, 76, 77, 78, 79, 80, 81, 82, 83, 84, 85, 86, 87, 88, 89, 90, 91, 92, 93, 94, 95, 96, 97, 98, 99, 100, 101, 102, 103, 104, 105, 106, 107, 108] (by decide +kernel) (by decide +kernel)) (goodIn_sub (fun _ h => List.mem_cons_of_mem _ (List.mem_append_right _ h)) (by decide +kernel))
set_option maxRecDepth 20000 in
theorem gX12_makesRoom_X12_worth : GoodIn wsX12_makesRoom (wsV RX12 179 RX12 yX12_worth wsX12_worth) := goodIn_app (goodIn_of _ (by decide +kernel)) ggX12_makesRoom_X12_worth
set_option maxRecDepth 20000 in
theorem ggX12_makesRoom_X12_estimateOf : GoodIn wsX12_makesRoom wsX12_estimateOf := goodIn_ca (goodIn_r _ [23, 24, 25, 26, 27, 28, 29, 30, 8, 31, 54, 55, 56, 57, 58, 59, 60, 61, 62, 63, 64, 65, 66, 67, 68, 69, 70, 71, 72, 73, 74, 75, 76, 77, 78, 79, 80, 81, 82, 83, 84, 85, 86, 87, 88, 89, 90, 91, 92, 93, 94, 95, 96, 97, 98, 99, 100, 101, 102, 103, 104, 105, 106, 107, 108] (by decide +kernel) (by decide +kernel)) (goodIn_sub (fun _ h => List.mem_cons_of_mem _ (List.mem_append_right _ h)) (by decide +kernel))
set_option maxRecDepth 20000 in
theorem gX12_makesRoom_X12_estimateOf : GoodIn wsX12_makesRoom (wsV RX12 146 RX12 yX12_estimateOf wsX12_estimateOf) := goodIn_app (goodIn_of _ (by decide +kernel)) ggX12_makesRoom_X12_estimateOf
set_option maxRecDepth 20000 in
theorem ggX12_makesRoom_X12_toFlash : GoodIn wsX12_makesRoom wsX12_toFlash := goodIn_ca (goodIn_r _ [35, 36, 37, 38, 39, 40, 41, 42, 43, 44, 45, 46, 47, 48, 8, 49, 50, 51, 52, 53, 54, 55, 56, 57, 58, 59, 60, 61, 62, 63, 64, 65, 66, 67, 68, 69, 70, 71, 72, 73, 74, 75, 76, 77, 78, 79, 80, 81, 82, 83, 84, 85, 86, 87, 88, 89, 90, 91, 92, 93, 94, 95, 96, 97, 98, 99, 100, 101, 102, 103, 104, 105, 106, 107, 108] (by decide +kernel) (by decide +kernel)) (goodIn_sub (fun _ h => List.mem_cons_of_mem _ (List.mem_append_right _ h)) (by decide +kernel))
set_option maxRecDepth 20000 in
theorem gX12_makesRoom_X12_toFlash : GoodIn wsX12_makesRoom (wsV RX12 188 RX12 yX12_toFlash wsX12_toFlash) := goodIn_app (goodIn_of _ (by decide +kernel)) ggX12_makesRoom_X12_toFlash
theorem dX12_makesRoom_0 : decode cX12_makesRoom 0 = .ok (.bipush 12, 2) := by decide +kernel
theorem dX12_makesRoom_2 : decode cX12_makesRoom 2 = .ok (.aload_n 0, 1) := by decide +kernel
theorem dX12_makesRoom_3 : decode cX12_makesRoom 3 = .ok (.invokevirtual 182, 3) := by decide +kernel
theorem dX12_makesRoom_6 : decode cX12_makesRoom 6 = .ok (.isub, 1) := by decide +kernel
theorem dX12_makesRoom_7 : decode cX12_makesRoom 7 = .ok (.aload_n 0, 1) := by decide +kernel
theorem dX12_makesRoom_8 : decode cX12_makesRoom 8 = .ok (.getfield 53, 3) := by decide +kernel
theorem dX12_makesRoom_11 : decode cX12_makesRoom 11 = .ok (.iload_n 1, 1) := by decide +kernel
theorem dX12_makesRoom_12 : decode cX12_makesRoom 12 = .ok (.baload, 1) := by decide +kernel
theorem dX12_makesRoom_13 : decode cX12_makesRoom 13 = .ok (.ifCond .eq 12, 3) := by decide +kernel
theorem dX12_makesRoom_16 : decode cX12_makesRoom 16 = .ok (.aload_n 0, 1) := by decide +kernel
theorem dX12_makesRoom_17 : decode cX12_makesRoom 17 = .ok (.getfield 38, 3) := by decide +kernel
theorem dX12_makesRoom_20 : decode cX12_makesRoom 20 = .ok (.iload_n 1, 1) := by decide +kernel
theorem dX12_makesRoom_21 : decode cX12_makesRoom 21 = .ok (.iaload, 1) := by decide +kernel
theorem dX12_makesRoom_22 : decode cX12_makesRoom 22 = .ok (.goto 4, 3) := by decide +kernel
theorem dX12_makesRoom_25 : decode cX12_makesRoom 25 = .ok (.iconst 0, 1) := by decide +kernel
theorem dX12_makesRoom_26 : decode cX12_makesRoom 26 = .ok (.iadd, 1) := by decide +kernel
theorem dX12_makesRoom_27 : decode cX12_makesRoom 27 = .ok (.istore_n 3, 1) := by decide +kernel
theorem dX12_makesRoom_28 : decode cX12_makesRoom 28 = .ok (.iconst 0, 1) := by decide +kernel
theorem dX12_makesRoom_29 : decode cX12_makesRoom 29 = .ok (.istore 4, 2) := by decide +kernel
theorem dX12_makesRoom_31 : decode cX12_makesRoom 31 = .ok (.iconst 0, 1) := by decide +kernel
theorem dX12_makesRoom_32 : decode cX12_makesRoom 32 = .ok (.istore 5, 2) := by decide +kernel
theorem dX12_makesRoom_34 : decode cX12_makesRoom 34 = .ok (.iload 5, 2) := by decide +kernel
theorem dX12_makesRoom_36 : decode cX12_makesRoom 36 = .ok (.bipush 32, 2) := by decide +kernel
theorem dX12_makesRoom_38 : decode cX12_makesRoom 38 = .ok (.if_icmp .ge 17, 3) := by decide +kernel
theorem dX12_makesRoom_41 : decode cX12_makesRoom 41 = .ok (.aload_n 0, 1) := by decide +kernel
theorem dX12_makesRoom_42 : decode cX12_makesRoom 42 = .ok (.getfield 126, 3) := by decide +kernel
theorem dX12_makesRoom_45 : decode cX12_makesRoom 45 = .ok (.iload 5, 2) := by decide +kernel
theorem dX12_makesRoom_47 : decode cX12_makesRoom 47 = .ok (.iconst 0, 1) := by decide +kernel
theorem dX12_makesRoom_48 : decode cX12_makesRoom 48 = .ok (.bastore, 1) := by decide +kernel
theorem dX12_makesRoom_49 : decode cX12_makesRoom 49 = .ok (.iinc 5 1, 3) := by decide +kernel
theorem dX12_makesRoom_52 : decode cX12_makesRoom 52 = .ok (.goto (-18), 3) := by decide +kernel
theorem dX12_makesRoom_55 : decode cX12_makesRoom 55 = .ok (.iload_n 3, 1) := by decide +kernel
theorem dX12_makesRoom_56 : decode cX12_makesRoom 56 = .ok (.aload_n 0, 1) := by decide +kernel
theorem dX12_makesRoom_57 : decode cX12_makesRoom 57 = .ok (.getfield 38, 3) := by decide +kernel
theorem dX12_makesRoom_60 : decode cX12_makesRoom 60 = .ok (.iload_n 1, 1) := by decide +kernel
theorem dX12_makesRoom_61 : decode cX12_makesRoom 61 = .ok (.iaload, 1) := by decide +kernel
theorem dX12_makesRoom_62 : decode cX12_makesRoom 62 = .ok (.if_icmp .ge 50, 3) := by decide +kernel
theorem dX12_makesRoom_65 : decode cX12_makesRoom 65 = .ok (.aload_n 0, 1) := by decide +kernel
theorem dX12_makesRoom_66 : decode cX12_makesRoom 66 = .ok (.iload_n 1, 1) := by decide +kernel
theorem dX12_makesRoom_67 : decode cX12_makesRoom 67 = .ok (.invokevirtual 185, 3) := by decide +kernel
theorem dX12_makesRoom_70 : decode cX12_makesRoom 70 = .ok (.istore 5, 2) := by decide +kernel
theorem dX12_makesRoom_72 : decode cX12_makesRoom 72 = .ok (.iload 5, 2) := by decide +kernel
theorem dX12_makesRoom_74 : decode cX12_makesRoom 74 = .ok (.iconst (-1), 1) := by decide +kernel
theorem dX12_makesRoom_75 : decode cX12_makesRoom 75 = .ok (.if_icmp .ne 5, 3) := by decide +kernel
theorem dX12_makesRoom_78 : decode cX12_makesRoom 78 = .ok (.iconst 0, 1) := by decide +kernel
theorem dX12_makesRoom_79 : decode cX12_makesRoom 79 = .ok (.ireturn, 1) := by decide +kernel
theorem dX12_makesRoom_80 : decode cX12_makesRoom 80 = .ok (.aload_n 0, 1) := by decide +kernel
theorem dX12_makesRoom_81 : decode cX12_makesRoom 81 = .ok (.getfield 126, 3) := by decide +kernel
theorem dX12_makesRoom_84 : decode cX12_makesRoom 84 = .ok (.iload 5, 2) := by decide +kernel
theorem dX12_makesRoom_86 : decode cX12_makesRoom 86 = .ok (.iconst 1, 1) := by decide +kernel
theorem dX12_makesRoom_87 : decode cX12_makesRoom 87 = .ok (.bastore, 1) := by decide +kernel
theorem dX12_makesRoom_88 : decode cX12_makesRoom 88 = .ok (.iload_n 3, 1) := by decide +kernel
theorem dX12_makesRoom_89 : decode cX12_makesRoom 89 = .ok (.aload_n 0, 1) := by decide +kernel
theorem dX12_makesRoom_90 : decode cX12_makesRoom 90 = .ok (.getfield 38, 3) := by decide +kernel
theorem dX12_makesRoom_93 : decode cX12_makesRoom 93 = .ok (.iload 5, 2) := by decide +kernel
theorem dX12_makesRoom_95 : decode cX12_makesRoom 95 = .ok (.iaload, 1) := by decide +kernel
theorem dX12_makesRoom_96 : decode cX12_makesRoom 96 = .ok (.iadd, 1) := by decide +kernel
theorem dX12_makesRoom_97 : decode cX12_makesRoom 97 = .ok (.istore_n 3, 1) := by decide +kernel
theorem dX12_makesRoom_98 : decode cX12_makesRoom 98 = .ok (.iload 4, 2) := by decide +kernel
theorem dX12_makesRoom_100 : decode cX12_makesRoom 100 = .ok (.aload_n 0, 1) := by decide +kernel
theorem dX12_makesRoom_101 : decode cX12_makesRoom 101 = .ok (.iload 5, 2) := by decide +kernel
theorem dX12_makesRoom_103 : decode cX12_makesRoom 103 = .ok (.invokevirtual 179, 3) := by decide +kernel
theorem dX12_makesRoom_106 : decode cX12_makesRoom 106 = .ok (.iadd, 1) := by decide +kernel
theorem dX12_makesRoom_107 : decode cX12_makesRoom 107 = .ok (.istore 4, 2) := by decide +kernel
theorem dX12_makesRoom_109 : decode cX12_makesRoom 109 = .ok (.goto (-54), 3) := by decide +kernel
theorem dX12_makesRoom_112 : decode cX12_makesRoom 112 = .ok (.iload 4, 2) := by decide +kernel
theorem dX12_makesRoom_114 : decode cX12_makesRoom 114 = .ok (.ifCond .gt 34, 3) := by decide +kernel
theorem dX12_makesRoom_117 : decode cX12_makesRoom 117 = .ok (.iload_n 3, 1) := by decide +kernel
theorem dX12_makesRoom_118 : decode cX12_makesRoom 118 = .ok (.bipush 12, 2) := by decide +kernel
theorem dX12_makesRoom_120 : decode cX12_makesRoom 120 = .ok (.aload_n 0, 1) := by decide +kernel
theorem dX12_makesRoom_121 : decode cX12_makesRoom 121 = .ok (.invokevirtual 182, 3) := by decide +kernel
theorem dX12_makesRoom_124 : decode cX12_makesRoom 124 = .ok (.isub, 1) := by decide +kernel
theorem dX12_makesRoom_125 : decode cX12_makesRoom 125 = .ok (.aload_n 0, 1) := by decide +kernel
theorem dX12_makesRoom_126 : decode cX12_makesRoom 126 = .ok (.getfield 53, 3) := by decide +kernel
theorem dX12_makesRoom_129 : decode cX12_makesRoom 129 = .ok (.iload_n 1, 1) := by decide +kernel
theorem dX12_makesRoom_130 : decode cX12_makesRoom 130 = .ok (.baload, 1) := by decide +kernel
theorem dX12_makesRoom_131 : decode cX12_makesRoom 131 = .ok (.ifCond .eq 12, 3) := by decide +kernel
theorem dX12_makesRoom_134 : decode cX12_makesRoom 134 = .ok (.aload_n 0, 1) := by decide +kernel
theorem dX12_makesRoom_135 : decode cX12_makesRoom 135 = .ok (.getfield 38, 3) := by decide +kernel
theorem dX12_makesRoom_138 : decode cX12_makesRoom 138 = .ok (.iload_n 1, 1) := by decide +kernel
theorem dX12_makesRoom_139 : decode cX12_makesRoom 139 = .ok (.iaload, 1) := by decide +kernel
theorem dX12_makesRoom_140 : decode cX12_makesRoom 140 = .ok (.goto 4, 3) := by decide +kernel
theorem dX12_makesRoom_143 : decode cX12_makesRoom 143 = .ok (.iconst 0, 1) := by decide +kernel
theorem dX12_makesRoom_144 : decode cX12_makesRoom 144 = .ok (.iadd, 1) := by decide +kernel
theorem dX12_makesRoom_145 : decode cX12_makesRoom 145 = .ok (.if_icmp .eq 7, 3) := by decide +kernel
theorem dX12_makesRoom_148 : decode cX12_makesRoom 148 = .ok (.iconst 1, 1) := by decide +kernel
theorem dX12_makesRoom_149 : decode cX12_makesRoom 149 = .ok (.goto 4, 3) := by decide +kernel
theorem dX12_makesRoom_152 : decode cX12_makesRoom 152 = .ok (.iconst 0, 1) := by decide +kernel
theorem dX12_makesRoom_153 : decode cX12_makesRoom 153 = .ok (.istore 5, 2) := by decide +kernel
theorem dX12_makesRoom_155 : decode cX12_makesRoom 155 = .ok (.iload_n 2, 1) := by decide +kernel
theorem dX12_makesRoom_156 : decode cX12_makesRoom 156 = .ok (.ifCond .ne 20, 3) := by decide +kernel
theorem dX12_makesRoom_159 : decode cX12_makesRoom 159 = .ok (.iload 5, 2) := by decide +kernel
theorem dX12_makesRoom_161 : decode cX12_makesRoom 161 = .ok (.ifCond .eq 15, 3) := by decide +kernel
theorem dX12_makesRoom_164 : decode cX12_makesRoom 164 = .ok (.iload 4, 2) := by decide +kernel
theorem dX12_makesRoom_166 : decode cX12_makesRoom 166 = .ok (.aload_n 0, 1) := by decide +kernel
theorem dX12_makesRoom_167 : decode cX12_makesRoom 167 = .ok (.iload_n 1, 1) := by decide +kernel
theorem dX12_makesRoom_168 : decode cX12_makesRoom 168 = .ok (.invokevirtual 179, 3) := by decide +kernel
theorem dX12_makesRoom_171 : decode cX12_makesRoom 171 = .ok (.if_icmp .lt 5, 3) := by decide +kernel
theorem dX12_makesRoom_174 : decode cX12_makesRoom 174 = .ok (.iconst 0, 1) := by decide +kernel
theorem dX12_makesRoom_175 : decode cX12_makesRoom 175 = .ok (.ireturn, 1) := by decide +kernel
theorem dX12_makesRoom_176 : decode cX12_makesRoom 176 = .ok (.iconst 1, 1) := by decide +kernel
theorem dX12_makesRoom_177 : decode cX12_makesRoom 177 = .ok (.istore 6, 2) := by decide +kernel
theorem dX12_makesRoom_179 : decode cX12_makesRoom 179 = .ok (.iload 6, 2) := by decide +kernel
theorem dX12_makesRoom_181 : decode cX12_makesRoom 181 = .ok (.ifCond .eq 159, 3) := by decide +kernel
theorem dX12_makesRoom_184 : decode cX12_makesRoom 184 = .ok (.iconst (-1), 1) := by decide +kernel
theorem dX12_makesRoom_185 : decode cX12_makesRoom 185 = .ok (.istore 7, 2) := by decide +kernel
theorem dX12_makesRoom_187 : decode cX12_makesRoom 187 = .ok (.iconst 0, 1) := by decide +kernel
theorem dX12_makesRoom_188 : decode cX12_makesRoom 188 = .ok (.istore 8, 2) := by decide +kernel
theorem dX12_makesRoom_190 : decode cX12_makesRoom 190 = .ok (.iload 8, 2) := by decide +kernel
theorem dX12_makesRoom_192 : decode cX12_makesRoom 192 = .ok (.bipush 32, 2) := by decide +kernel
theorem dX12_makesRoom_194 : decode cX12_makesRoom 194 = .ok (.if_icmp .ge 93, 3) := by decide +kernel
theorem dX12_makesRoom_197 : decode cX12_makesRoom 197 = .ok (.aload_n 0, 1) := by decide +kernel
theorem dX12_makesRoom_198 : decode cX12_makesRoom 198 = .ok (.getfield 126, 3) := by decide +kernel
theorem dX12_makesRoom_201 : decode cX12_makesRoom 201 = .ok (.iload 8, 2) := by decide +kernel
theorem dX12_makesRoom_203 : decode cX12_makesRoom 203 = .ok (.baload, 1) := by decide +kernel
theorem dX12_makesRoom_204 : decode cX12_makesRoom 204 = .ok (.ifCond .eq 77, 3) := by decide +kernel
theorem dX12_makesRoom_207 : decode cX12_makesRoom 207 = .ok (.iload 7, 2) := by decide +kernel
theorem dX12_makesRoom_209 : decode cX12_makesRoom 209 = .ok (.iconst (-1), 1) := by decide +kernel
theorem dX12_makesRoom_210 : decode cX12_makesRoom 210 = .ok (.if_icmp .eq 50, 3) := by decide +kernel
theorem dX12_makesRoom_213 : decode cX12_makesRoom 213 = .ok (.aload_n 0, 1) := by decide +kernel
theorem dX12_makesRoom_214 : decode cX12_makesRoom 214 = .ok (.iload 8, 2) := by decide +kernel
theorem dX12_makesRoom_216 : decode cX12_makesRoom 216 = .ok (.invokevirtual 179, 3) := by decide +kernel
theorem dX12_makesRoom_219 : decode cX12_makesRoom 219 = .ok (.aload_n 0, 1) := by decide +kernel
theorem dX12_makesRoom_220 : decode cX12_makesRoom 220 = .ok (.iload 7, 2) := by decide +kernel
theorem dX12_makesRoom_222 : decode cX12_makesRoom 222 = .ok (.invokevirtual 179, 3) := by decide +kernel
theorem dX12_makesRoom_225 : decode cX12_makesRoom 225 = .ok (.if_icmp .lt 35, 3) := by decide +kernel
theorem dX12_makesRoom_228 : decode cX12_makesRoom 228 = .ok (.aload_n 0, 1) := by decide +kernel
theorem dX12_makesRoom_229 : decode cX12_makesRoom 229 = .ok (.iload 8, 2) := by decide +kernel
theorem dX12_makesRoom_231 : decode cX12_makesRoom 231 = .ok (.invokevirtual 179, 3) := by decide +kernel
theorem dX12_makesRoom_234 : decode cX12_makesRoom 234 = .ok (.aload_n 0, 1) := by decide +kernel
theorem dX12_makesRoom_235 : decode cX12_makesRoom 235 = .ok (.iload 7, 2) := by decide +kernel
theorem dX12_makesRoom_237 : decode cX12_makesRoom 237 = .ok (.invokevirtual 179, 3) := by decide +kernel
theorem dX12_makesRoom_240 : decode cX12_makesRoom 240 = .ok (.if_icmp .ne 24, 3) := by decide +kernel
theorem dX12_makesRoom_243 : decode cX12_makesRoom 243 = .ok (.aload_n 0, 1) := by decide +kernel
theorem dX12_makesRoom_244 : decode cX12_makesRoom 244 = .ok (.getfield 68, 3) := by decide +kernel
theorem dX12_makesRoom_247 : decode cX12_makesRoom 247 = .ok (.iload 8, 2) := by decide +kernel
theorem dX12_makesRoom_249 : decode cX12_makesRoom 249 = .ok (.iaload, 1) := by decide +kernel
theorem dX12_makesRoom_250 : decode cX12_makesRoom 250 = .ok (.aload_n 0, 1) := by decide +kernel
theorem dX12_makesRoom_251 : decode cX12_makesRoom 251 = .ok (.getfield 68, 3) := by decide +kernel
theorem dX12_makesRoom_254 : decode cX12_makesRoom 254 = .ok (.iload 7, 2) := by decide +kernel
theorem dX12_makesRoom_256 : decode cX12_makesRoom 256 = .ok (.iaload, 1) := by decide +kernel
theorem dX12_makesRoom_257 : decode cX12_makesRoom 257 = .ok (.if_icmp .ge 7, 3) := by decide +kernel
theorem dX12_makesRoom_260 : decode cX12_makesRoom 260 = .ok (.iconst 1, 1) := by decide +kernel
theorem dX12_makesRoom_261 : decode cX12_makesRoom 261 = .ok (.goto 4, 3) := by decide +kernel
theorem dX12_makesRoom_264 : decode cX12_makesRoom 264 = .ok (.iconst 0, 1) := by decide +kernel
theorem dX12_makesRoom_265 : decode cX12_makesRoom 265 = .ok (.istore 9, 2) := by decide +kernel
theorem dX12_makesRoom_267 : decode cX12_makesRoom 267 = .ok (.iload 9, 2) := by decide +kernel
theorem dX12_makesRoom_269 : decode cX12_makesRoom 269 = .ok (.ifCond .eq 8, 3) := by decide +kernel
theorem dX12_makesRoom_272 : decode cX12_makesRoom 272 = .ok (.iload 8, 2) := by decide +kernel
theorem dX12_makesRoom_274 : decode cX12_makesRoom 274 = .ok (.goto 5, 3) := by decide +kernel
theorem dX12_makesRoom_277 : decode cX12_makesRoom 277 = .ok (.iload 7, 2) := by decide +kernel
theorem dX12_makesRoom_279 : decode cX12_makesRoom 279 = .ok (.istore 7, 2) := by decide +kernel
theorem dX12_makesRoom_281 : decode cX12_makesRoom 281 = .ok (.iinc 8 1, 3) := by decide +kernel
theorem dX12_makesRoom_284 : decode cX12_makesRoom 284 = .ok (.goto (-94), 3) := by decide +kernel
theorem dX12_makesRoom_287 : decode cX12_makesRoom 287 = .ok (.iload 7, 2) := by decide +kernel
theorem dX12_makesRoom_289 : decode cX12_makesRoom 289 = .ok (.iconst (-1), 1) := by decide +kernel
theorem dX12_makesRoom_290 : decode cX12_makesRoom 290 = .ok (.if_icmp .eq 7, 3) := by decide +kernel
theorem dX12_makesRoom_293 : decode cX12_makesRoom 293 = .ok (.iconst 1, 1) := by decide +kernel
theorem dX12_makesRoom_294 : decode cX12_makesRoom 294 = .ok (.goto 4, 3) := by decide +kernel
theorem dX12_makesRoom_297 : decode cX12_makesRoom 297 = .ok (.iconst 0, 1) := by decide +kernel
theorem dX12_makesRoom_298 : decode cX12_makesRoom 298 = .ok (.istore 6, 2) := by decide +kernel
theorem dX12_makesRoom_300 : decode cX12_makesRoom 300 = .ok (.iload 6, 2) := by decide +kernel
theorem dX12_makesRoom_302 : decode cX12_makesRoom 302 = .ok (.ifCond .eq 35, 3) := by decide +kernel
theorem dX12_makesRoom_305 : decode cX12_makesRoom 305 = .ok (.aload_n 0, 1) := by decide +kernel
theorem dX12_makesRoom_306 : decode cX12_makesRoom 306 = .ok (.getfield 126, 3) := by decide +kernel
theorem dX12_makesRoom_309 : decode cX12_makesRoom 309 = .ok (.iload 7, 2) := by decide +kernel
theorem dX12_makesRoom_311 : decode cX12_makesRoom 311 = .ok (.iconst 0, 1) := by decide +kernel
theorem dX12_makesRoom_312 : decode cX12_makesRoom 312 = .ok (.bastore, 1) := by decide +kernel
theorem dX12_makesRoom_313 : decode cX12_makesRoom 313 = .ok (.aload_n 0, 1) := by decide +kernel
theorem dX12_makesRoom_314 : decode cX12_makesRoom 314 = .ok (.getfield 53, 3) := by decide +kernel
theorem dX12_makesRoom_317 : decode cX12_makesRoom 317 = .ok (.iload 7, 2) := by decide +kernel
theorem dX12_makesRoom_319 : decode cX12_makesRoom 319 = .ok (.iconst 0, 1) := by decide +kernel
theorem dX12_makesRoom_320 : decode cX12_makesRoom 320 = .ok (.bastore, 1) := by decide +kernel
theorem dX12_makesRoom_321 : decode cX12_makesRoom 321 = .ok (.aload_n 0, 1) := by decide +kernel
theorem dX12_makesRoom_322 : decode cX12_makesRoom 322 = .ok (.iload 7, 2) := by decide +kernel
theorem dX12_makesRoom_324 : decode cX12_makesRoom 324 = .ok (.invokevirtual 146, 3) := by decide +kernel
theorem dX12_makesRoom_327 : decode cX12_makesRoom 327 = .ok (.iconst 2, 1) := by decide +kernel
theorem dX12_makesRoom_328 : decode cX12_makesRoom 328 = .ok (.if_icmp .lt 9, 3) := by decide +kernel
theorem dX12_makesRoom_331 : decode cX12_makesRoom 331 = .ok (.aload_n 0, 1) := by decide +kernel
theorem dX12_makesRoom_332 : decode cX12_makesRoom 332 = .ok (.iload 7, 2) := by decide +kernel
theorem dX12_makesRoom_334 : decode cX12_makesRoom 334 = .ok (.invokevirtual 188, 3) := by decide +kernel
theorem dX12_makesRoom_337 : decode cX12_makesRoom 337 = .ok (.goto (-158), 3) := by decide +kernel
theorem dX12_makesRoom_340 : decode cX12_makesRoom 340 = .ok (.iconst 1, 1) := by decide +kernel
theorem dX12_makesRoom_341 : decode cX12_makesRoom 341 = .ok (.ireturn, 1) := by decide +kernel
set_option maxRecDepth 20000 in
theorem ggX12_comes_X12_uses : GoodIn wsX12_comes wsX12_uses := goodIn_ca (goodIn_r _ [10, 11, 12, 13, 14, 15, 16, 17, 18, 19, 20, 21, 22, 23, 24, 25, 26, 27, 28, 29, 30, 31, 32, 33, 34, 35, 36, 37, 38, 39, 40, 41, 42, 43, 44, 45, 46, 47, 48, 49, 50, 51, 52, 53, 54, 55, 56, 57, 58, 59, 60, 61, 62, 63, 64, 65, 66, 67] (by decide +kernel) (by decide +kernel)) (goodIn_sub (fun _ h => List.mem_cons_of_mem _ (List.mem_append_right _ h)) (by decide +kernel))
set_option maxRecDepth 20000 in
theorem gX12_comes_X12_uses : GoodIn wsX12_comes (wsV RX12 192 RX12 yX12_uses wsX12_uses) := goodIn_app (goodIn_of _ (by decide +kernel)) ggX12_comes_X12_uses
theorem dX12_comes_0 : decode cX12_comes 0 = .ok (.aload_n 0, 1) := by decide +kernel
theorem dX12_comes_1 : decode cX12_comes 1 = .ok (.getfield 53, 3) := by decide +kernel
theorem dX12_comes_4 : decode cX12_comes 4 = .ok (.iload_n 1, 1) := by decide +kernel
theorem dX12_comes_5 : decode cX12_comes 5 = .ok (.iconst 1, 1) := by decide +kernel
theorem dX12_comes_6 : decode cX12_comes 6 = .ok (.bastore, 1) := by decide +kernel
theorem dX12_comes_7 : decode cX12_comes 7 = .ok (.aload_n 0, 1) := by decide +kernel
theorem dX12_comes_8 : decode cX12_comes 8 = .ok (.getfield 56, 3) := by decide +kernel
theorem dX12_comes_11 : decode cX12_comes 11 = .ok (.iload_n 1, 1) := by decide +kernel
theorem dX12_comes_12 : decode cX12_comes 12 = .ok (.iload_n 2, 1) := by decide +kernel
theorem dX12_comes_13 : decode cX12_comes 13 = .ok (.iastore, 1) := by decide +kernel
theorem dX12_comes_14 : decode cX12_comes 14 = .ok (.aload_n 0, 1) := by decide +kernel
theorem dX12_comes_15 : decode cX12_comes 15 = .ok (.getfield 59, 3) := by decide +kernel
theorem dX12_comes_18 : decode cX12_comes 18 = .ok (.iload_n 1, 1) := by decide +kernel
theorem dX12_comes_19 : decode cX12_comes 19 = .ok (.iload_n 3, 1) := by decide +kernel
theorem dX12_comes_20 : decode cX12_comes 20 = .ok (.iastore, 1) := by decide +kernel
theorem dX12_comes_21 : decode cX12_comes 21 = .ok (.aload_n 0, 1) := by decide +kernel
theorem dX12_comes_22 : decode cX12_comes 22 = .ok (.getfield 62, 3) := by decide +kernel
theorem dX12_comes_25 : decode cX12_comes 25 = .ok (.iload_n 1, 1) := by decide +kernel
theorem dX12_comes_26 : decode cX12_comes 26 = .ok (.iload 4, 2) := by decide +kernel
theorem dX12_comes_28 : decode cX12_comes 28 = .ok (.iastore, 1) := by decide +kernel
theorem dX12_comes_29 : decode cX12_comes 29 = .ok (.aload_n 0, 1) := by decide +kernel
theorem dX12_comes_30 : decode cX12_comes 30 = .ok (.getfield 65, 3) := by decide +kernel
theorem dX12_comes_33 : decode cX12_comes 33 = .ok (.iload_n 1, 1) := by decide +kernel
theorem dX12_comes_34 : decode cX12_comes 34 = .ok (.iload 5, 2) := by decide +kernel
theorem dX12_comes_36 : decode cX12_comes 36 = .ok (.iastore, 1) := by decide +kernel
theorem dX12_comes_37 : decode cX12_comes 37 = .ok (.aload_n 0, 1) := by decide +kernel
theorem dX12_comes_38 : decode cX12_comes 38 = .ok (.iload_n 1, 1) := by decide +kernel
theorem dX12_comes_39 : decode cX12_comes 39 = .ok (.invokevirtual 192, 3) := by decide +kernel
theorem dX12_comes_42 : decode cX12_comes 42 = .ok (.return_, 1) := by decide +kernel
theorem dX12_voids_0 : decode cX12_voids 0 = .ok (.iconst 0, 1) := by decide +kernel
theorem dX12_voids_1 : decode cX12_voids 1 = .ok (.istore_n 2, 1) := by decide +kernel
theorem dX12_voids_2 : decode cX12_voids 2 = .ok (.iload_n 2, 1) := by decide +kernel
theorem dX12_voids_3 : decode cX12_voids 3 = .ok (.aload_n 0, 1) := by decide +kernel
theorem dX12_voids_4 : decode cX12_voids 4 = .ok (.getfield 194, 3) := by decide +kernel
theorem dX12_voids_7 : decode cX12_voids 7 = .ok (.if_icmp .ge 68, 3) := by decide +kernel
theorem dX12_voids_10 : decode cX12_voids 10 = .ok (.aload_n 0, 1) := by decide +kernel
theorem dX12_voids_11 : decode cX12_voids 11 = .ok (.getfield 110, 3) := by decide +kernel
theorem dX12_voids_14 : decode cX12_voids 14 = .ok (.iload_n 2, 1) := by decide +kernel
theorem dX12_voids_15 : decode cX12_voids 15 = .ok (.caload, 1) := by decide +kernel
theorem dX12_voids_16 : decode cX12_voids 16 = .ok (.bipush 111, 2) := by decide +kernel
theorem dX12_voids_18 : decode cX12_voids 18 = .ok (.if_icmp .eq 14, 3) := by decide +kernel
theorem dX12_voids_21 : decode cX12_voids 21 = .ok (.aload_n 0, 1) := by decide +kernel
theorem dX12_voids_22 : decode cX12_voids 22 = .ok (.getfield 110, 3) := by decide +kernel
theorem dX12_voids_25 : decode cX12_voids 25 = .ok (.iload_n 2, 1) := by decide +kernel
theorem dX12_voids_26 : decode cX12_voids 26 = .ok (.caload, 1) := by decide +kernel
theorem dX12_voids_27 : decode cX12_voids 27 = .ok (.bipush 114, 2) := by decide +kernel
theorem dX12_voids_29 : decode cX12_voids 29 = .ok (.if_icmp .ne 7, 3) := by decide +kernel
theorem dX12_voids_32 : decode cX12_voids 32 = .ok (.iconst 1, 1) := by decide +kernel
theorem dX12_voids_33 : decode cX12_voids 33 = .ok (.goto 4, 3) := by decide +kernel
theorem dX12_voids_36 : decode cX12_voids 36 = .ok (.iconst 0, 1) := by decide +kernel
theorem dX12_voids_37 : decode cX12_voids 37 = .ok (.istore_n 3, 1) := by decide +kernel
theorem dX12_voids_38 : decode cX12_voids 38 = .ok (.aload_n 0, 1) := by decide +kernel
theorem dX12_voids_39 : decode cX12_voids 39 = .ok (.getfield 110, 3) := by decide +kernel
theorem dX12_voids_42 : decode cX12_voids 42 = .ok (.iload_n 2, 1) := by decide +kernel
theorem dX12_voids_43 : decode cX12_voids 43 = .ok (.iload_n 3, 1) := by decide +kernel
theorem dX12_voids_44 : decode cX12_voids 44 = .ok (.ifCond .eq 18, 3) := by decide +kernel
theorem dX12_voids_47 : decode cX12_voids 47 = .ok (.aload_n 0, 1) := by decide +kernel
theorem dX12_voids_48 : decode cX12_voids 48 = .ok (.getfield 104, 3) := by decide +kernel
theorem dX12_voids_51 : decode cX12_voids 51 = .ok (.iload_n 2, 1) := by decide +kernel
theorem dX12_voids_52 : decode cX12_voids 52 = .ok (.iaload, 1) := by decide +kernel
theorem dX12_voids_53 : decode cX12_voids 53 = .ok (.iload_n 1, 1) := by decide +kernel
theorem dX12_voids_54 : decode cX12_voids 54 = .ok (.if_icmp .ne 8, 3) := by decide +kernel
theorem dX12_voids_57 : decode cX12_voids 57 = .ok (.bipush 120, 2) := by decide +kernel
theorem dX12_voids_59 : decode cX12_voids 59 = .ok (.goto 9, 3) := by decide +kernel
theorem dX12_voids_62 : decode cX12_voids 62 = .ok (.aload_n 0, 1) := by decide +kernel
theorem dX12_voids_63 : decode cX12_voids 63 = .ok (.getfield 110, 3) := by decide +kernel
theorem dX12_voids_66 : decode cX12_voids 66 = .ok (.iload_n 2, 1) := by decide +kernel
theorem dX12_voids_67 : decode cX12_voids 67 = .ok (.caload, 1) := by decide +kernel
theorem dX12_voids_68 : decode cX12_voids 68 = .ok (.castore, 1) := by decide +kernel
theorem dX12_voids_69 : decode cX12_voids 69 = .ok (.iinc 2 1, 3) := by decide +kernel
theorem dX12_voids_72 : decode cX12_voids 72 = .ok (.goto (-70), 3) := by decide +kernel
theorem dX12_voids_75 : decode cX12_voids 75 = .ok (.return_, 1) := by decide +kernel
theorem dX12_hasLease_0 : decode cX12_hasLease 0 = .ok (.iconst 0, 1) := by decide +kernel
theorem dX12_hasLease_1 : decode cX12_hasLease 1 = .ok (.istore_n 2, 1) := by decide +kernel
theorem dX12_hasLease_2 : decode cX12_hasLease 2 = .ok (.iload_n 2, 1) := by decide +kernel
theorem dX12_hasLease_3 : decode cX12_hasLease 3 = .ok (.aload_n 0, 1) := by decide +kernel
theorem dX12_hasLease_4 : decode cX12_hasLease 4 = .ok (.getfield 194, 3) := by decide +kernel
theorem dX12_hasLease_7 : decode cX12_hasLease 7 = .ok (.if_icmp .ge 43, 3) := by decide +kernel
theorem dX12_hasLease_10 : decode cX12_hasLease 10 = .ok (.aload_n 0, 1) := by decide +kernel
theorem dX12_hasLease_11 : decode cX12_hasLease 11 = .ok (.getfield 104, 3) := by decide +kernel
theorem dX12_hasLease_14 : decode cX12_hasLease 14 = .ok (.iload_n 2, 1) := by decide +kernel
theorem dX12_hasLease_15 : decode cX12_hasLease 15 = .ok (.iaload, 1) := by decide +kernel
theorem dX12_hasLease_16 : decode cX12_hasLease 16 = .ok (.iload_n 1, 1) := by decide +kernel
theorem dX12_hasLease_17 : decode cX12_hasLease 17 = .ok (.if_icmp .ne 27, 3) := by decide +kernel
theorem dX12_hasLease_20 : decode cX12_hasLease 20 = .ok (.aload_n 0, 1) := by decide +kernel
theorem dX12_hasLease_21 : decode cX12_hasLease 21 = .ok (.getfield 110, 3) := by decide +kernel
theorem dX12_hasLease_24 : decode cX12_hasLease 24 = .ok (.iload_n 2, 1) := by decide +kernel
theorem dX12_hasLease_25 : decode cX12_hasLease 25 = .ok (.caload, 1) := by decide +kernel
theorem dX12_hasLease_26 : decode cX12_hasLease 26 = .ok (.bipush 111, 2) := by decide +kernel
theorem dX12_hasLease_28 : decode cX12_hasLease 28 = .ok (.if_icmp .eq 14, 3) := by decide +kernel
theorem dX12_hasLease_31 : decode cX12_hasLease 31 = .ok (.aload_n 0, 1) := by decide +kernel
theorem dX12_hasLease_32 : decode cX12_hasLease 32 = .ok (.getfield 110, 3) := by decide +kernel
theorem dX12_hasLease_35 : decode cX12_hasLease 35 = .ok (.iload_n 2, 1) := by decide +kernel
theorem dX12_hasLease_36 : decode cX12_hasLease 36 = .ok (.caload, 1) := by decide +kernel
theorem dX12_hasLease_37 : decode cX12_hasLease 37 = .ok (.bipush 114, 2) := by decide +kernel
theorem dX12_hasLease_39 : decode cX12_hasLease 39 = .ok (.if_icmp .ne 5, 3) := by decide +kernel
theorem dX12_hasLease_42 : decode cX12_hasLease 42 = .ok (.iconst 1, 1) := by decide +kernel
theorem dX12_hasLease_43 : decode cX12_hasLease 43 = .ok (.ireturn, 1) := by decide +kernel
theorem dX12_hasLease_44 : decode cX12_hasLease 44 = .ok (.iinc 2 1, 3) := by decide +kernel
theorem dX12_hasLease_47 : decode cX12_hasLease 47 = .ok (.goto (-45), 3) := by decide +kernel
theorem dX12_hasLease_50 : decode cX12_hasLease 50 = .ok (.iconst 0, 1) := by decide +kernel
theorem dX12_hasLease_51 : decode cX12_hasLease 51 = .ok (.ireturn, 1) := by decide +kernel
set_option maxRecDepth 20000 in
theorem ggX12_setKey_X12_isKey : GoodIn wsX12_setKey wsX12_isKey := goodIn_r _ [11, 12, 13, 10, 14] (by decide +kernel) (by decide +kernel)
set_option maxRecDepth 20000 in
theorem gX12_setKey_X12_isKey : GoodIn wsX12_setKey (va_wsS RX12 197 yX12_isKey wsX12_isKey) := goodIn_app (goodIn_of _ (by decide +kernel)) ggX12_setKey_X12_isKey
set_option maxRecDepth 20000 in
theorem ggX12_setKey_X12_fails : GoodIn wsX12_setKey wsX12_fails := goodIn_r _ [18, 1, 26, 27, 28, 29, 30, 31, 32, 33, 34, 35, 36, 37, 38, 39, 40, 41, 42, 43, 44, 45, 46, 47, 48, 49, 50, 51, 52, 53, 54, 55, 56, 57, 58, 59, 60, 61, 62, 63, 64, 65, 66, 67, 68, 69, 70, 71, 72, 73, 74, 75, 76, 77, 78, 79, 80] (by decide +kernel) (by decide +kernel)
set_option maxRecDepth 20000 in
theorem gX12_setKey_X12_fails : GoodIn wsX12_setKey (wsV RX12 201 RX12 yX12_fails wsX12_fails) := goodIn_app (goodIn_of _ (by decide +kernel)) ggX12_setKey_X12_fails
set_option maxRecDepth 20000 in
theorem ggX12_setKey_X12_in : GoodIn wsX12_setKey wsX12_in := goodIn_r _ [14] (by decide +kernel) (by decide +kernel)
set_option maxRecDepth 20000 in
theorem gX12_setKey_X12_in : GoodIn wsX12_setKey (va_wsS RX12 133 yX12_in wsX12_in) := goodIn_app (goodIn_of _ (by decide +kernel)) ggX12_setKey_X12_in
set_option maxRecDepth 20000 in
theorem ggX12_setKey_X12_hasLease : GoodIn wsX12_setKey wsX12_hasLease := goodIn_ca (goodIn_r _ [22, 23, 24, 25, 26, 27, 28, 29, 30, 31, 32, 33, 34, 35, 36, 37, 38, 39, 40, 41, 42, 43, 44, 45, 46, 47, 48, 49, 50, 51, 52, 53, 54, 55, 56, 57, 58, 59, 60, 61, 62, 63, 64, 65, 66, 67, 68, 69, 70, 71, 72, 73, 74, 75, 76, 77, 78, 79, 80] (by decide +kernel) (by decide +kernel)) (goodIn_sub (fun _ h => List.mem_cons_of_mem _ (List.mem_append_right _ h)) (by decide +kernel))
set_option maxRecDepth 20000 in
theorem gX12_setKey_X12_hasLease : GoodIn wsX12_setKey (wsV RX12 208 RX12 yX12_hasLease wsX12_hasLease) := goodIn_app (goodIn_of _ (by decide +kernel)) ggX12_setKey_X12_hasLease
theorem dX12_setKey_0 : decode cX12_setKey 0 = .ok (.aload_n 0, 1) := by decide +kernel
theorem dX12_setKey_1 : decode cX12_setKey 1 = .ok (.iconst 0, 1) := by decide +kernel
theorem dX12_setKey_2 : decode cX12_setKey 2 = .ok (.putfield 129, 3) := by decide +kernel
theorem dX12_setKey_5 : decode cX12_setKey 5 = .ok (.iload_n 1, 1) := by decide +kernel
theorem dX12_setKey_6 : decode cX12_setKey 6 = .ok (.invokestatic 197, 3) := by decide +kernel
theorem dX12_setKey_9 : decode cX12_setKey 9 = .ok (.ifCond .ne 9, 3) := by decide +kernel
theorem dX12_setKey_12 : decode cX12_setKey 12 = .ok (.aload_n 0, 1) := by decide +kernel
theorem dX12_setKey_13 : decode cX12_setKey 13 = .ok (.iconst 1, 1) := by decide +kernel
theorem dX12_setKey_14 : decode cX12_setKey 14 = .ok (.invokevirtual 201, 3) := by decide +kernel
theorem dX12_setKey_17 : decode cX12_setKey 17 = .ok (.ireturn, 1) := by decide +kernel
theorem dX12_setKey_18 : decode cX12_setKey 18 = .ok (.iload_n 2, 1) := by decide +kernel
theorem dX12_setKey_19 : decode cX12_setKey 19 = .ok (.iconst 1, 1) := by decide +kernel
theorem dX12_setKey_20 : decode cX12_setKey 20 = .ok (.iconst 4, 1) := by decide +kernel
theorem dX12_setKey_21 : decode cX12_setKey 21 = .ok (.invokestatic 133, 3) := by decide +kernel
theorem dX12_setKey_24 : decode cX12_setKey 24 = .ok (.ifCond .eq 23, 3) := by decide +kernel
theorem dX12_setKey_27 : decode cX12_setKey 27 = .ok (.iload_n 3, 1) := by decide +kernel
theorem dX12_setKey_28 : decode cX12_setKey 28 = .ok (.iconst 1, 1) := by decide +kernel
theorem dX12_setKey_29 : decode cX12_setKey 29 = .ok (.bipush 9, 2) := by decide +kernel
theorem dX12_setKey_31 : decode cX12_setKey 31 = .ok (.invokestatic 133, 3) := by decide +kernel
theorem dX12_setKey_34 : decode cX12_setKey 34 = .ok (.ifCond .eq 13, 3) := by decide +kernel
theorem dX12_setKey_37 : decode cX12_setKey 37 = .ok (.iload 4, 2) := by decide +kernel
theorem dX12_setKey_39 : decode cX12_setKey 39 = .ok (.iconst 0, 1) := by decide +kernel
theorem dX12_setKey_40 : decode cX12_setKey 40 = .ok (.iconst 3, 1) := by decide +kernel
theorem dX12_setKey_41 : decode cX12_setKey 41 = .ok (.invokestatic 133, 3) := by decide +kernel
theorem dX12_setKey_44 : decode cX12_setKey 44 = .ok (.ifCond .ne 9, 3) := by decide +kernel
theorem dX12_setKey_47 : decode cX12_setKey 47 = .ok (.aload_n 0, 1) := by decide +kernel
theorem dX12_setKey_48 : decode cX12_setKey 48 = .ok (.iconst 2, 1) := by decide +kernel
theorem dX12_setKey_49 : decode cX12_setKey 49 = .ok (.invokevirtual 201, 3) := by decide +kernel
theorem dX12_setKey_52 : decode cX12_setKey 52 = .ok (.ireturn, 1) := by decide +kernel
theorem dX12_setKey_53 : decode cX12_setKey 53 = .ok (.aload_n 0, 1) := by decide +kernel
theorem dX12_setKey_54 : decode cX12_setKey 54 = .ok (.getfield 204, 3) := by decide +kernel
theorem dX12_setKey_57 : decode cX12_setKey 57 = .ok (.ifCond .ne 30, 3) := by decide +kernel
theorem dX12_setKey_60 : decode cX12_setKey 60 = .ok (.aload_n 0, 1) := by decide +kernel
theorem dX12_setKey_61 : decode cX12_setKey 61 = .ok (.getfield 53, 3) := by decide +kernel
theorem dX12_setKey_64 : decode cX12_setKey 64 = .ok (.iload_n 1, 1) := by decide +kernel
theorem dX12_setKey_65 : decode cX12_setKey 65 = .ok (.baload, 1) := by decide +kernel
theorem dX12_setKey_66 : decode cX12_setKey 66 = .ok (.ifCond .ne 21, 3) := by decide +kernel
theorem dX12_setKey_69 : decode cX12_setKey 69 = .ok (.aload_n 0, 1) := by decide +kernel
theorem dX12_setKey_70 : decode cX12_setKey 70 = .ok (.getfield 101, 3) := by decide +kernel
theorem dX12_setKey_73 : decode cX12_setKey 73 = .ok (.iload_n 1, 1) := by decide +kernel
theorem dX12_setKey_74 : decode cX12_setKey 74 = .ok (.iaload, 1) := by decide +kernel
theorem dX12_setKey_75 : decode cX12_setKey 75 = .ok (.iconst (-1), 1) := by decide +kernel
theorem dX12_setKey_76 : decode cX12_setKey 76 = .ok (.if_icmp .ne 11, 3) := by decide +kernel
theorem dX12_setKey_79 : decode cX12_setKey 79 = .ok (.aload_n 0, 1) := by decide +kernel
theorem dX12_setKey_80 : decode cX12_setKey 80 = .ok (.iload_n 1, 1) := by decide +kernel
theorem dX12_setKey_81 : decode cX12_setKey 81 = .ok (.invokevirtual 208, 3) := by decide +kernel
theorem dX12_setKey_84 : decode cX12_setKey 84 = .ok (.ifCond .eq 9, 3) := by decide +kernel
theorem dX12_setKey_87 : decode cX12_setKey 87 = .ok (.aload_n 0, 1) := by decide +kernel
theorem dX12_setKey_88 : decode cX12_setKey 88 = .ok (.iconst 3, 1) := by decide +kernel
theorem dX12_setKey_89 : decode cX12_setKey 89 = .ok (.invokevirtual 201, 3) := by decide +kernel
theorem dX12_setKey_92 : decode cX12_setKey 92 = .ok (.ireturn, 1) := by decide +kernel
theorem dX12_setKey_93 : decode cX12_setKey 93 = .ok (.aload_n 0, 1) := by decide +kernel
theorem dX12_setKey_94 : decode cX12_setKey 94 = .ok (.getfield 44, 3) := by decide +kernel
theorem dX12_setKey_97 : decode cX12_setKey 97 = .ok (.iload_n 1, 1) := by decide +kernel
theorem dX12_setKey_98 : decode cX12_setKey 98 = .ok (.iaload, 1) := by decide +kernel
theorem dX12_setKey_99 : decode cX12_setKey 99 = .ok (.istore 5, 2) := by decide +kernel
theorem dX12_setKey_101 : decode cX12_setKey 101 = .ok (.aload_n 0, 1) := by decide +kernel
theorem dX12_setKey_102 : decode cX12_setKey 102 = .ok (.getfield 38, 3) := by decide +kernel
theorem dX12_setKey_105 : decode cX12_setKey 105 = .ok (.iload_n 1, 1) := by decide +kernel
theorem dX12_setKey_106 : decode cX12_setKey 106 = .ok (.iload_n 2, 1) := by decide +kernel
theorem dX12_setKey_107 : decode cX12_setKey 107 = .ok (.iastore, 1) := by decide +kernel
theorem dX12_setKey_108 : decode cX12_setKey 108 = .ok (.aload_n 0, 1) := by decide +kernel
theorem dX12_setKey_109 : decode cX12_setKey 109 = .ok (.getfield 41, 3) := by decide +kernel
theorem dX12_setKey_112 : decode cX12_setKey 112 = .ok (.iload_n 1, 1) := by decide +kernel
theorem dX12_setKey_113 : decode cX12_setKey 113 = .ok (.iload_n 3, 1) := by decide +kernel
theorem dX12_setKey_114 : decode cX12_setKey 114 = .ok (.iastore, 1) := by decide +kernel
theorem dX12_setKey_115 : decode cX12_setKey 115 = .ok (.aload_n 0, 1) := by decide +kernel
theorem dX12_setKey_116 : decode cX12_setKey 116 = .ok (.getfield 44, 3) := by decide +kernel
theorem dX12_setKey_119 : decode cX12_setKey 119 = .ok (.iload_n 1, 1) := by decide +kernel
theorem dX12_setKey_120 : decode cX12_setKey 120 = .ok (.iload 4, 2) := by decide +kernel
theorem dX12_setKey_122 : decode cX12_setKey 122 = .ok (.iastore, 1) := by decide +kernel
theorem dX12_setKey_123 : decode cX12_setKey 123 = .ok (.iload 5, 2) := by decide +kernel
theorem dX12_setKey_125 : decode cX12_setKey 125 = .ok (.ireturn, 1) := by decide +kernel
theorem dX12_isGoodIn_0 : decode cX12_isGoodIn 0 = .ok (.aload_n 0, 1) := by decide +kernel
theorem dX12_isGoodIn_1 : decode cX12_isGoodIn 1 = .ok (.getfield 53, 3) := by decide +kernel
theorem dX12_isGoodIn_4 : decode cX12_isGoodIn 4 = .ok (.iload_n 1, 1) := by decide +kernel
theorem dX12_isGoodIn_5 : decode cX12_isGoodIn 5 = .ok (.baload, 1) := by decide +kernel
theorem dX12_isGoodIn_6 : decode cX12_isGoodIn 6 = .ok (.ifCond .eq 51, 3) := by decide +kernel
theorem dX12_isGoodIn_9 : decode cX12_isGoodIn 9 = .ok (.aload_n 0, 1) := by decide +kernel
theorem dX12_isGoodIn_10 : decode cX12_isGoodIn 10 = .ok (.getfield 71, 3) := by decide +kernel
theorem dX12_isGoodIn_13 : decode cX12_isGoodIn 13 = .ok (.iload_n 1, 1) := by decide +kernel
theorem dX12_isGoodIn_14 : decode cX12_isGoodIn 14 = .ok (.baload, 1) := by decide +kernel
theorem dX12_isGoodIn_15 : decode cX12_isGoodIn 15 = .ok (.ifCond .ne 38, 3) := by decide +kernel
theorem dX12_isGoodIn_18 : decode cX12_isGoodIn 18 = .ok (.aload_n 0, 1) := by decide +kernel
theorem dX12_isGoodIn_19 : decode cX12_isGoodIn 19 = .ok (.getfield 65, 3) := by decide +kernel
theorem dX12_isGoodIn_22 : decode cX12_isGoodIn 22 = .ok (.iload_n 1, 1) := by decide +kernel
theorem dX12_isGoodIn_23 : decode cX12_isGoodIn 23 = .ok (.iaload, 1) := by decide +kernel
theorem dX12_isGoodIn_24 : decode cX12_isGoodIn 24 = .ok (.aload_n 0, 1) := by decide +kernel
theorem dX12_isGoodIn_25 : decode cX12_isGoodIn 25 = .ok (.getfield 47, 3) := by decide +kernel
theorem dX12_isGoodIn_28 : decode cX12_isGoodIn 28 = .ok (.aload_n 0, 1) := by decide +kernel
theorem dX12_isGoodIn_29 : decode cX12_isGoodIn 29 = .ok (.getfield 44, 3) := by decide +kernel
theorem dX12_isGoodIn_32 : decode cX12_isGoodIn 32 = .ok (.iload_n 1, 1) := by decide +kernel
theorem dX12_isGoodIn_33 : decode cX12_isGoodIn 33 = .ok (.iaload, 1) := by decide +kernel
theorem dX12_isGoodIn_34 : decode cX12_isGoodIn 34 = .ok (.iaload, 1) := by decide +kernel
theorem dX12_isGoodIn_35 : decode cX12_isGoodIn 35 = .ok (.if_icmp .ne 22, 3) := by decide +kernel
theorem dX12_isGoodIn_38 : decode cX12_isGoodIn 38 = .ok (.aload_n 0, 1) := by decide +kernel
theorem dX12_isGoodIn_39 : decode cX12_isGoodIn 39 = .ok (.getfield 159, 3) := by decide +kernel
theorem dX12_isGoodIn_42 : decode cX12_isGoodIn 42 = .ok (.aload_n 0, 1) := by decide +kernel
theorem dX12_isGoodIn_43 : decode cX12_isGoodIn 43 = .ok (.getfield 62, 3) := by decide +kernel
theorem dX12_isGoodIn_46 : decode cX12_isGoodIn 46 = .ok (.iload_n 1, 1) := by decide +kernel
theorem dX12_isGoodIn_47 : decode cX12_isGoodIn 47 = .ok (.iaload, 1) := by decide +kernel
theorem dX12_isGoodIn_48 : decode cX12_isGoodIn 48 = .ok (.isub, 1) := by decide +kernel
theorem dX12_isGoodIn_49 : decode cX12_isGoodIn 49 = .ok (.iload_n 2, 1) := by decide +kernel
theorem dX12_isGoodIn_50 : decode cX12_isGoodIn 50 = .ok (.if_icmp .gt 7, 3) := by decide +kernel
theorem dX12_isGoodIn_53 : decode cX12_isGoodIn 53 = .ok (.iconst 1, 1) := by decide +kernel
theorem dX12_isGoodIn_54 : decode cX12_isGoodIn 54 = .ok (.goto 4, 3) := by decide +kernel
theorem dX12_isGoodIn_57 : decode cX12_isGoodIn 57 = .ok (.iconst 0, 1) := by decide +kernel
theorem dX12_isGoodIn_58 : decode cX12_isGoodIn 58 = .ok (.ireturn, 1) := by decide +kernel
theorem dX12_isGoodSlot_0 : decode cX12_isGoodSlot 0 = .ok (.aload_n 0, 1) := by decide +kernel
theorem dX12_isGoodSlot_1 : decode cX12_isGoodSlot 1 = .ok (.getfield 101, 3) := by decide +kernel
theorem dX12_isGoodSlot_4 : decode cX12_isGoodSlot 4 = .ok (.iload_n 1, 1) := by decide +kernel
theorem dX12_isGoodSlot_5 : decode cX12_isGoodSlot 5 = .ok (.iaload, 1) := by decide +kernel
theorem dX12_isGoodSlot_6 : decode cX12_isGoodSlot 6 = .ok (.istore_n 3, 1) := by decide +kernel
theorem dX12_isGoodSlot_7 : decode cX12_isGoodSlot 7 = .ok (.iload_n 3, 1) := by decide +kernel
theorem dX12_isGoodSlot_8 : decode cX12_isGoodSlot 8 = .ok (.iconst (-1), 1) := by decide +kernel
theorem dX12_isGoodSlot_9 : decode cX12_isGoodSlot 9 = .ok (.if_icmp .eq 42, 3) := by decide +kernel
theorem dX12_isGoodSlot_12 : decode cX12_isGoodSlot 12 = .ok (.aload_n 0, 1) := by decide +kernel
theorem dX12_isGoodSlot_13 : decode cX12_isGoodSlot 13 = .ok (.getfield 92, 3) := by decide +kernel
theorem dX12_isGoodSlot_16 : decode cX12_isGoodSlot 16 = .ok (.iload_n 3, 1) := by decide +kernel
theorem dX12_isGoodSlot_17 : decode cX12_isGoodSlot 17 = .ok (.iaload, 1) := by decide +kernel
theorem dX12_isGoodSlot_18 : decode cX12_isGoodSlot 18 = .ok (.aload_n 0, 1) := by decide +kernel
theorem dX12_isGoodSlot_19 : decode cX12_isGoodSlot 19 = .ok (.getfield 47, 3) := by decide +kernel
theorem dX12_isGoodSlot_22 : decode cX12_isGoodSlot 22 = .ok (.aload_n 0, 1) := by decide +kernel
theorem dX12_isGoodSlot_23 : decode cX12_isGoodSlot 23 = .ok (.getfield 44, 3) := by decide +kernel
theorem dX12_isGoodSlot_26 : decode cX12_isGoodSlot 26 = .ok (.iload_n 1, 1) := by decide +kernel
theorem dX12_isGoodSlot_27 : decode cX12_isGoodSlot 27 = .ok (.iaload, 1) := by decide +kernel
theorem dX12_isGoodSlot_28 : decode cX12_isGoodSlot 28 = .ok (.iaload, 1) := by decide +kernel
theorem dX12_isGoodSlot_29 : decode cX12_isGoodSlot 29 = .ok (.if_icmp .ne 22, 3) := by decide +kernel
theorem dX12_isGoodSlot_32 : decode cX12_isGoodSlot 32 = .ok (.aload_n 0, 1) := by decide +kernel
theorem dX12_isGoodSlot_33 : decode cX12_isGoodSlot 33 = .ok (.getfield 159, 3) := by decide +kernel
theorem dX12_isGoodSlot_36 : decode cX12_isGoodSlot 36 = .ok (.aload_n 0, 1) := by decide +kernel
theorem dX12_isGoodSlot_37 : decode cX12_isGoodSlot 37 = .ok (.getfield 89, 3) := by decide +kernel
theorem dX12_isGoodSlot_40 : decode cX12_isGoodSlot 40 = .ok (.iload_n 3, 1) := by decide +kernel
theorem dX12_isGoodSlot_41 : decode cX12_isGoodSlot 41 = .ok (.iaload, 1) := by decide +kernel
theorem dX12_isGoodSlot_42 : decode cX12_isGoodSlot 42 = .ok (.isub, 1) := by decide +kernel
theorem dX12_isGoodSlot_43 : decode cX12_isGoodSlot 43 = .ok (.iload_n 2, 1) := by decide +kernel
theorem dX12_isGoodSlot_44 : decode cX12_isGoodSlot 44 = .ok (.if_icmp .gt 7, 3) := by decide +kernel
theorem dX12_isGoodSlot_47 : decode cX12_isGoodSlot 47 = .ok (.iconst 1, 1) := by decide +kernel
theorem dX12_isGoodSlot_48 : decode cX12_isGoodSlot 48 = .ok (.goto 4, 3) := by decide +kernel
theorem dX12_isGoodSlot_51 : decode cX12_isGoodSlot 51 = .ok (.iconst 0, 1) := by decide +kernel
theorem dX12_isGoodSlot_52 : decode cX12_isGoodSlot 52 = .ok (.ireturn, 1) := by decide +kernel
theorem dX12_staleBy_0 : decode cX12_staleBy 0 = .ok (.iconst 0, 1) := by decide +kernel
theorem dX12_staleBy_1 : decode cX12_staleBy 1 = .ok (.istore_n 3, 1) := by decide +kernel
theorem dX12_staleBy_2 : decode cX12_staleBy 2 = .ok (.iload_n 3, 1) := by decide +kernel
theorem dX12_staleBy_3 : decode cX12_staleBy 3 = .ok (.aload_n 0, 1) := by decide +kernel
theorem dX12_staleBy_4 : decode cX12_staleBy 4 = .ok (.getfield 156, 3) := by decide +kernel
theorem dX12_staleBy_7 : decode cX12_staleBy 7 = .ok (.if_icmp .ge 43, 3) := by decide +kernel
theorem dX12_staleBy_10 : decode cX12_staleBy 10 = .ok (.aload_n 0, 1) := by decide +kernel
theorem dX12_staleBy_11 : decode cX12_staleBy 11 = .ok (.getfield 16, 3) := by decide +kernel
theorem dX12_staleBy_14 : decode cX12_staleBy 14 = .ok (.iload_n 3, 1) := by decide +kernel
theorem dX12_staleBy_15 : decode cX12_staleBy 15 = .ok (.iaload, 1) := by decide +kernel
theorem dX12_staleBy_16 : decode cX12_staleBy 16 = .ok (.iload_n 1, 1) := by decide +kernel
theorem dX12_staleBy_17 : decode cX12_staleBy 17 = .ok (.if_icmp .ne 27, 3) := by decide +kernel
theorem dX12_staleBy_20 : decode cX12_staleBy 20 = .ok (.aload_n 0, 1) := by decide +kernel
theorem dX12_staleBy_21 : decode cX12_staleBy 21 = .ok (.getfield 19, 3) := by decide +kernel
theorem dX12_staleBy_24 : decode cX12_staleBy 24 = .ok (.iload_n 3, 1) := by decide +kernel
theorem dX12_staleBy_25 : decode cX12_staleBy 25 = .ok (.iaload, 1) := by decide +kernel
theorem dX12_staleBy_26 : decode cX12_staleBy 26 = .ok (.iload_n 2, 1) := by decide +kernel
theorem dX12_staleBy_27 : decode cX12_staleBy 27 = .ok (.iconst 1, 1) := by decide +kernel
theorem dX12_staleBy_28 : decode cX12_staleBy 28 = .ok (.iadd, 1) := by decide +kernel
theorem dX12_staleBy_29 : decode cX12_staleBy 29 = .ok (.if_icmp .ne 15, 3) := by decide +kernel
theorem dX12_staleBy_32 : decode cX12_staleBy 32 = .ok (.aload_n 0, 1) := by decide +kernel
theorem dX12_staleBy_33 : decode cX12_staleBy 33 = .ok (.getfield 159, 3) := by decide +kernel
theorem dX12_staleBy_36 : decode cX12_staleBy 36 = .ok (.aload_n 0, 1) := by decide +kernel
theorem dX12_staleBy_37 : decode cX12_staleBy 37 = .ok (.getfield 22, 3) := by decide +kernel
theorem dX12_staleBy_40 : decode cX12_staleBy 40 = .ok (.iload_n 3, 1) := by decide +kernel
theorem dX12_staleBy_41 : decode cX12_staleBy 41 = .ok (.iaload, 1) := by decide +kernel
theorem dX12_staleBy_42 : decode cX12_staleBy 42 = .ok (.isub, 1) := by decide +kernel
theorem dX12_staleBy_43 : decode cX12_staleBy 43 = .ok (.ireturn, 1) := by decide +kernel
theorem dX12_staleBy_44 : decode cX12_staleBy 44 = .ok (.iinc 3 1, 3) := by decide +kernel
theorem dX12_staleBy_47 : decode cX12_staleBy 47 = .ok (.goto (-45), 3) := by decide +kernel
theorem dX12_staleBy_50 : decode cX12_staleBy 50 = .ok (.iconst 0, 1) := by decide +kernel
theorem dX12_staleBy_51 : decode cX12_staleBy 51 = .ok (.ireturn, 1) := by decide +kernel
set_option maxRecDepth 20000 in
theorem ggX12_answers_X12_staleBy : GoodIn wsX12_answers wsX12_staleBy := goodIn_ca (goodIn_r _ [17, 18, 19, 20, 21, 22, 23, 24, 25, 26, 27, 28, 29, 30, 31, 32, 33, 34, 35, 36, 37, 38, 39, 40, 41, 42, 43, 44, 45, 46, 47, 48, 49, 50, 51, 52, 53, 54, 55, 56, 57, 58, 59, 60, 61, 62, 63, 64, 65, 66, 67, 68, 69, 70, 71, 72, 73, 74, 75, 76, 77] (by decide +kernel) (by decide +kernel)) (goodIn_sub (fun _ h => List.mem_cons_of_mem _ (List.mem_append_right _ h)) (by decide +kernel))
set_option maxRecDepth 20000 in
theorem gX12_answers_X12_staleBy : GoodIn wsX12_answers (wsV RX12 220 RX12 yX12_staleBy wsX12_staleBy) := goodIn_app (goodIn_of _ (by decide +kernel)) ggX12_answers_X12_staleBy
theorem dX12_answers_0 : decode cX12_answers 0 = .ok (.aload_n 0, 1) := by decide +kernel
theorem dX12_answers_1 : decode cX12_answers 1 = .ok (.iconst 1, 1) := by decide +kernel
theorem dX12_answers_2 : decode cX12_answers 2 = .ok (.putfield 211, 3) := by decide +kernel
theorem dX12_answers_5 : decode cX12_answers 5 = .ok (.aload_n 0, 1) := by decide +kernel
theorem dX12_answers_6 : decode cX12_answers 6 = .ok (.dup, 1) := by decide +kernel
theorem dX12_answers_7 : decode cX12_answers 7 = .ok (.getfield 214, 3) := by decide +kernel
theorem dX12_answers_10 : decode cX12_answers 10 = .ok (.iconst 1, 1) := by decide +kernel
theorem dX12_answers_11 : decode cX12_answers 11 = .ok (.iadd, 1) := by decide +kernel
theorem dX12_answers_12 : decode cX12_answers 12 = .ok (.putfield 214, 3) := by decide +kernel
theorem dX12_answers_15 : decode cX12_answers 15 = .ok (.iload_n 2, 1) := by decide +kernel
theorem dX12_answers_16 : decode cX12_answers 16 = .ok (.ifCond .eq 12, 3) := by decide +kernel
theorem dX12_answers_19 : decode cX12_answers 19 = .ok (.aload_n 0, 1) := by decide +kernel
theorem dX12_answers_20 : decode cX12_answers 20 = .ok (.getfield 59, 3) := by decide +kernel
theorem dX12_answers_23 : decode cX12_answers 23 = .ok (.iload_n 1, 1) := by decide +kernel
theorem dX12_answers_24 : decode cX12_answers 24 = .ok (.iaload, 1) := by decide +kernel
theorem dX12_answers_25 : decode cX12_answers 25 = .ok (.goto 14, 3) := by decide +kernel
theorem dX12_answers_28 : decode cX12_answers 28 = .ok (.aload_n 0, 1) := by decide +kernel
theorem dX12_answers_29 : decode cX12_answers 29 = .ok (.getfield 86, 3) := by decide +kernel
theorem dX12_answers_32 : decode cX12_answers 32 = .ok (.aload_n 0, 1) := by decide +kernel
theorem dX12_answers_33 : decode cX12_answers 33 = .ok (.getfield 101, 3) := by decide +kernel
theorem dX12_answers_36 : decode cX12_answers 36 = .ok (.iload_n 1, 1) := by decide +kernel
theorem dX12_answers_37 : decode cX12_answers 37 = .ok (.iaload, 1) := by decide +kernel
theorem dX12_answers_38 : decode cX12_answers 38 = .ok (.iaload, 1) := by decide +kernel
theorem dX12_answers_39 : decode cX12_answers 39 = .ok (.istore_n 3, 1) := by decide +kernel
theorem dX12_answers_40 : decode cX12_answers 40 = .ok (.aload_n 0, 1) := by decide +kernel
theorem dX12_answers_41 : decode cX12_answers 41 = .ok (.iload_n 2, 1) := by decide +kernel
theorem dX12_answers_42 : decode cX12_answers 42 = .ok (.ifCond .eq 12, 3) := by decide +kernel
theorem dX12_answers_45 : decode cX12_answers 45 = .ok (.aload_n 0, 1) := by decide +kernel
theorem dX12_answers_46 : decode cX12_answers 46 = .ok (.getfield 56, 3) := by decide +kernel
theorem dX12_answers_49 : decode cX12_answers 49 = .ok (.iload_n 1, 1) := by decide +kernel
theorem dX12_answers_50 : decode cX12_answers 50 = .ok (.iaload, 1) := by decide +kernel
theorem dX12_answers_51 : decode cX12_answers 51 = .ok (.goto 14, 3) := by decide +kernel
theorem dX12_answers_54 : decode cX12_answers 54 = .ok (.aload_n 0, 1) := by decide +kernel
theorem dX12_answers_55 : decode cX12_answers 55 = .ok (.getfield 83, 3) := by decide +kernel
theorem dX12_answers_58 : decode cX12_answers 58 = .ok (.aload_n 0, 1) := by decide +kernel
theorem dX12_answers_59 : decode cX12_answers 59 = .ok (.getfield 101, 3) := by decide +kernel
theorem dX12_answers_62 : decode cX12_answers 62 = .ok (.iload_n 1, 1) := by decide +kernel
theorem dX12_answers_63 : decode cX12_answers 63 = .ok (.iaload, 1) := by decide +kernel
theorem dX12_answers_64 : decode cX12_answers 64 = .ok (.iaload, 1) := by decide +kernel
theorem dX12_answers_65 : decode cX12_answers 65 = .ok (.putfield 217, 3) := by decide +kernel
theorem dX12_answers_68 : decode cX12_answers 68 = .ok (.aload_n 0, 1) := by decide +kernel
theorem dX12_answers_69 : decode cX12_answers 69 = .ok (.iload_n 2, 1) := by decide +kernel
theorem dX12_answers_70 : decode cX12_answers 70 = .ok (.ifCond .eq 12, 3) := by decide +kernel
theorem dX12_answers_73 : decode cX12_answers 73 = .ok (.aload_n 0, 1) := by decide +kernel
theorem dX12_answers_74 : decode cX12_answers 74 = .ok (.getfield 71, 3) := by decide +kernel
theorem dX12_answers_77 : decode cX12_answers 77 = .ok (.iload_n 1, 1) := by decide +kernel
theorem dX12_answers_78 : decode cX12_answers 78 = .ok (.baload, 1) := by decide +kernel
theorem dX12_answers_79 : decode cX12_answers 79 = .ok (.ifCond .ne 13, 3) := by decide +kernel
theorem dX12_answers_82 : decode cX12_answers 82 = .ok (.iload_n 3, 1) := by decide +kernel
theorem dX12_answers_83 : decode cX12_answers 83 = .ok (.aload_n 0, 1) := by decide +kernel
theorem dX12_answers_84 : decode cX12_answers 84 = .ok (.getfield 13, 3) := by decide +kernel
theorem dX12_answers_87 : decode cX12_answers 87 = .ok (.iload_n 1, 1) := by decide +kernel
theorem dX12_answers_88 : decode cX12_answers 88 = .ok (.iaload, 1) := by decide +kernel
theorem dX12_answers_89 : decode cX12_answers 89 = .ok (.if_icmp .ne 7, 3) := by decide +kernel
theorem dX12_answers_92 : decode cX12_answers 92 = .ok (.iconst 0, 1) := by decide +kernel
theorem dX12_answers_93 : decode cX12_answers 93 = .ok (.goto 9, 3) := by decide +kernel
theorem dX12_answers_96 : decode cX12_answers 96 = .ok (.aload_n 0, 1) := by decide +kernel
theorem dX12_answers_97 : decode cX12_answers 97 = .ok (.iload_n 1, 1) := by decide +kernel
theorem dX12_answers_98 : decode cX12_answers 98 = .ok (.iload_n 3, 1) := by decide +kernel
theorem dX12_answers_99 : decode cX12_answers 99 = .ok (.invokevirtual 220, 3) := by decide +kernel
theorem dX12_answers_102 : decode cX12_answers 102 = .ok (.putfield 223, 3) := by decide +kernel
theorem dX12_answers_105 : decode cX12_answers 105 = .ok (.aload_n 0, 1) := by decide +kernel
theorem dX12_answers_106 : decode cX12_answers 106 = .ok (.dup, 1) := by decide +kernel
theorem dX12_answers_107 : decode cX12_answers 107 = .ok (.getfield 226, 3) := by decide +kernel
theorem dX12_answers_110 : decode cX12_answers 110 = .ok (.aload_n 0, 1) := by decide +kernel
theorem dX12_answers_111 : decode cX12_answers 111 = .ok (.getfield 223, 3) := by decide +kernel
theorem dX12_answers_114 : decode cX12_answers 114 = .ok (.i2l, 1) := by decide +kernel
theorem dX12_answers_115 : decode cX12_answers 115 = .ok (.ladd, 1) := by decide +kernel
theorem dX12_answers_116 : decode cX12_answers 116 = .ok (.putfield 226, 3) := by decide +kernel
theorem dX12_answers_119 : decode cX12_answers 119 = .ok (.return_, 1) := by decide +kernel
set_option maxRecDepth 20000 in
theorem ggX12_answersFlash_X12_answers : GoodIn wsX12_answersFlash wsX12_answers := goodIn_ca (goodIn_r _ [10, 11, 12, 13, 3, 1, 14, 2, 15, 16, 17, 18, 19, 20, 21, 22, 9, 23, 24, 25, 26, 27, 28, 96, 97, 98, 99, 100, 101, 102, 103, 104, 105, 106, 107, 108, 109, 110, 111, 112, 113, 114, 115, 116, 117, 118, 119, 120, 121, 122, 123, 124, 125, 126, 127, 128, 129, 130, 131, 132, 133, 134, 135, 136, 137, 138, 139, 140, 141, 142, 143, 144, 145, 146, 147, 148, 149, 150] (by decide +kernel) (by decide +kernel)) (goodIn_sub (fun _ h => List.mem_cons_of_mem _ (List.mem_append_right _ h)) (by decide +kernel))
set_option maxRecDepth 20000 in
theorem gX12_answersFlash_X12_answers : GoodIn wsX12_answersFlash (wsV RX12 230 RX12 yX12_answers wsX12_answers) := goodIn_app (goodIn_of _ (by decide +kernel)) ggX12_answersFlash_X12_answers
set_option maxRecDepth 20000 in
theorem ggX12_answersFlash_X12_makesRoom : GoodIn wsX12_answersFlash wsX12_makesRoom := goodIn_ca (goodIn_r _ [32, 33, 34, 35, 36, 37, 38, 39, 9, 40, 41, 42, 43, 44, 16, 45, 46, 47, 48, 49, 50, 51, 52, 53, 54, 55, 56, 57, 58, 59, 60, 61, 62, 63, 64, 65, 66, 2, 14, 3, 13, 4, 67, 5, 68, 1, 69, 70, 71, 72, 73, 74, 75, 76, 96, 97, 98, 99, 100, 101, 102, 103, 104, 105, 106, 107, 108, 109, 110, 111, 112, 113, 114, 115, 116, 117, 118, 119, 120, 121, 122, 123, 124, 125, 126, 127, 128, 129, 130, 131, 132, 133, 134, 135, 136, 137, 138, 139, 140, 141, 142, 143, 144, 145, 146, 147, 148, 149, 150] (by decide +kernel) (by decide +kernel)) (goodIn_sub (fun _ h => List.mem_cons_of_mem _ (List.mem_append_right _ h)) (by decide +kernel))
set_option maxRecDepth 20000 in
theorem gX12_answersFlash_X12_makesRoom : GoodIn wsX12_answersFlash (wsV RX12 234 RX12 yX12_makesRoom wsX12_makesRoom) := goodIn_app (goodIn_of _ (by decide +kernel)) ggX12_answersFlash_X12_makesRoom
set_option maxRecDepth 20000 in
theorem ggX12_answersFlash_X12_comes : GoodIn wsX12_answersFlash wsX12_comes := goodIn_ca (goodIn_r _ [80, 33, 14, 13, 67, 68, 81, 82, 83, 9, 84, 85, 36, 96, 97, 98, 99, 100, 101, 102, 103, 104, 105, 106, 107, 108, 109, 110, 111, 112, 113, 114, 115, 116, 117, 118, 119, 120, 121, 122, 123, 124, 125, 126, 127, 128, 129, 130, 131, 132, 133, 134, 135, 136, 137, 138, 139, 140, 141, 142, 143, 144, 145, 146, 147, 148, 149, 150] (by decide +kernel) (by decide +kernel)) (goodIn_sub (fun _ h => List.mem_cons_of_mem _ (List.mem_append_right _ h)) (by decide +kernel))
set_option maxRecDepth 20000 in
theorem gX12_answersFlash_X12_comes : GoodIn wsX12_answersFlash (wsV RX12 238 RX12 yX12_comes wsX12_comes) := goodIn_app (goodIn_of _ (by decide +kernel)) ggX12_answersFlash_X12_comes
set_option maxRecDepth 20000 in
theorem ggX12_answersFlash_X12_takesOut : GoodIn wsX12_answersFlash wsX12_takesOut := goodIn_ca (goodIn_r _ [89, 1, 66, 69, 70, 71, 9, 72, 73, 74, 75, 76, 96, 97, 98, 99, 100, 101, 102, 103, 104, 105, 106, 107, 108, 109, 110, 111, 112, 113, 114, 115, 116, 117, 118, 119, 120, 121, 122, 123, 124, 125, 126, 127, 128, 129, 130, 131, 132, 133, 134, 135, 136, 137, 138, 139, 140, 141, 142, 143, 144, 145, 146, 147, 148, 149, 150] (by decide +kernel) (by decide +kernel)) (goodIn_sub (fun _ h => List.mem_cons_of_mem _ (List.mem_append_right _ h)) (by decide +kernel))
set_option maxRecDepth 20000 in
theorem gX12_answersFlash_X12_takesOut : GoodIn wsX12_answersFlash (wsV RX12 242 RX12 yX12_takesOut wsX12_takesOut) := goodIn_app (goodIn_of _ (by decide +kernel)) ggX12_answersFlash_X12_takesOut
set_option maxRecDepth 20000 in
theorem ggX12_answersFlash_X12_counts : GoodIn wsX12_answersFlash wsX12_counts := goodIn_ca (goodIn_r _ [93, 54, 94, 95, 50, 51, 52, 9, 53, 55, 56, 57, 58, 59, 60, 61, 96, 97, 98, 99, 100, 101, 102, 103, 104, 105, 106, 107, 108, 109, 110, 111, 112, 113, 114, 115, 116, 117, 118, 119, 120, 121, 122, 123, 124, 125, 126, 127, 128, 129, 130, 131, 132, 133, 134, 135, 136, 137, 138, 139, 140, 141, 142, 143, 144, 145, 146, 147, 148, 149, 150] (by decide +kernel) (by decide +kernel)) (goodIn_sub (fun _ h => List.mem_cons_of_mem _ (List.mem_append_right _ h)) (by decide +kernel))
set_option maxRecDepth 20000 in
theorem gX12_answersFlash_X12_counts : GoodIn wsX12_answersFlash (wsV RX12 245 RX12 yX12_counts wsX12_counts) := goodIn_app (goodIn_of _ (by decide +kernel)) ggX12_answersFlash_X12_counts
theorem dX12_answersFlash_0 : decode cX12_answersFlash 0 = .ok (.aload_n 0, 1) := by decide +kernel
theorem dX12_answersFlash_1 : decode cX12_answersFlash 1 = .ok (.getfield 101, 3) := by decide +kernel
theorem dX12_answersFlash_4 : decode cX12_answersFlash 4 = .ok (.iload_n 1, 1) := by decide +kernel
theorem dX12_answersFlash_5 : decode cX12_answersFlash 5 = .ok (.iaload, 1) := by decide +kernel
theorem dX12_answersFlash_6 : decode cX12_answersFlash 6 = .ok (.istore_n 2, 1) := by decide +kernel
theorem dX12_answersFlash_7 : decode cX12_answersFlash 7 = .ok (.aload_n 0, 1) := by decide +kernel
theorem dX12_answersFlash_8 : decode cX12_answersFlash 8 = .ok (.getfield 83, 3) := by decide +kernel
theorem dX12_answersFlash_11 : decode cX12_answersFlash 11 = .ok (.iload_n 2, 1) := by decide +kernel
theorem dX12_answersFlash_12 : decode cX12_answersFlash 12 = .ok (.iaload, 1) := by decide +kernel
theorem dX12_answersFlash_13 : decode cX12_answersFlash 13 = .ok (.istore_n 3, 1) := by decide +kernel
theorem dX12_answersFlash_14 : decode cX12_answersFlash 14 = .ok (.aload_n 0, 1) := by decide +kernel
theorem dX12_answersFlash_15 : decode cX12_answersFlash 15 = .ok (.getfield 86, 3) := by decide +kernel
theorem dX12_answersFlash_18 : decode cX12_answersFlash 18 = .ok (.iload_n 2, 1) := by decide +kernel
theorem dX12_answersFlash_19 : decode cX12_answersFlash 19 = .ok (.iaload, 1) := by decide +kernel
theorem dX12_answersFlash_20 : decode cX12_answersFlash 20 = .ok (.istore 4, 2) := by decide +kernel
theorem dX12_answersFlash_22 : decode cX12_answersFlash 22 = .ok (.aload_n 0, 1) := by decide +kernel
theorem dX12_answersFlash_23 : decode cX12_answersFlash 23 = .ok (.getfield 89, 3) := by decide +kernel
theorem dX12_answersFlash_26 : decode cX12_answersFlash 26 = .ok (.iload_n 2, 1) := by decide +kernel
theorem dX12_answersFlash_27 : decode cX12_answersFlash 27 = .ok (.iaload, 1) := by decide +kernel
theorem dX12_answersFlash_28 : decode cX12_answersFlash 28 = .ok (.istore 5, 2) := by decide +kernel
theorem dX12_answersFlash_30 : decode cX12_answersFlash 30 = .ok (.aload_n 0, 1) := by decide +kernel
theorem dX12_answersFlash_31 : decode cX12_answersFlash 31 = .ok (.getfield 92, 3) := by decide +kernel
theorem dX12_answersFlash_34 : decode cX12_answersFlash 34 = .ok (.iload_n 2, 1) := by decide +kernel
theorem dX12_answersFlash_35 : decode cX12_answersFlash 35 = .ok (.iaload, 1) := by decide +kernel
theorem dX12_answersFlash_36 : decode cX12_answersFlash 36 = .ok (.istore 6, 2) := by decide +kernel
theorem dX12_answersFlash_38 : decode cX12_answersFlash 38 = .ok (.aload_n 0, 1) := by decide +kernel
theorem dX12_answersFlash_39 : decode cX12_answersFlash 39 = .ok (.iload_n 1, 1) := by decide +kernel
theorem dX12_answersFlash_40 : decode cX12_answersFlash 40 = .ok (.iconst 0, 1) := by decide +kernel
theorem dX12_answersFlash_41 : decode cX12_answersFlash 41 = .ok (.invokevirtual 230, 3) := by decide +kernel
theorem dX12_answersFlash_44 : decode cX12_answersFlash 44 = .ok (.aload_n 0, 1) := by decide +kernel
theorem dX12_answersFlash_45 : decode cX12_answersFlash 45 = .ok (.iload_n 1, 1) := by decide +kernel
theorem dX12_answersFlash_46 : decode cX12_answersFlash 46 = .ok (.iconst 0, 1) := by decide +kernel
theorem dX12_answersFlash_47 : decode cX12_answersFlash 47 = .ok (.invokevirtual 234, 3) := by decide +kernel
theorem dX12_answersFlash_50 : decode cX12_answersFlash 50 = .ok (.ifCond .eq 20, 3) := by decide +kernel
theorem dX12_answersFlash_53 : decode cX12_answersFlash 53 = .ok (.aload_n 0, 1) := by decide +kernel
theorem dX12_answersFlash_54 : decode cX12_answersFlash 54 = .ok (.iload_n 1, 1) := by decide +kernel
theorem dX12_answersFlash_55 : decode cX12_answersFlash 55 = .ok (.iload_n 3, 1) := by decide +kernel
theorem dX12_answersFlash_56 : decode cX12_answersFlash 56 = .ok (.iload 4, 2) := by decide +kernel
theorem dX12_answersFlash_58 : decode cX12_answersFlash 58 = .ok (.iload 5, 2) := by decide +kernel
theorem dX12_answersFlash_60 : decode cX12_answersFlash 60 = .ok (.iload 6, 2) := by decide +kernel
theorem dX12_answersFlash_62 : decode cX12_answersFlash 62 = .ok (.invokevirtual 238, 3) := by decide +kernel
theorem dX12_answersFlash_65 : decode cX12_answersFlash 65 = .ok (.aload_n 0, 1) := by decide +kernel
theorem dX12_answersFlash_66 : decode cX12_answersFlash 66 = .ok (.iload_n 1, 1) := by decide +kernel
theorem dX12_answersFlash_67 : decode cX12_answersFlash 67 = .ok (.invokevirtual 242, 3) := by decide +kernel
theorem dX12_answersFlash_70 : decode cX12_answersFlash 70 = .ok (.aload_n 0, 1) := by decide +kernel
theorem dX12_answersFlash_71 : decode cX12_answersFlash 71 = .ok (.iload_n 1, 1) := by decide +kernel
theorem dX12_answersFlash_72 : decode cX12_answersFlash 72 = .ok (.invokevirtual 245, 3) := by decide +kernel
theorem dX12_answersFlash_75 : decode cX12_answersFlash 75 = .ok (.return_, 1) := by decide +kernel
set_option maxRecDepth 20000 in
theorem ggX12_get_X12_isKey : GoodIn wsX12_get wsX12_isKey := goodIn_r _ [15, 16, 17, 14, 18] (by decide +kernel) (by decide +kernel)
set_option maxRecDepth 20000 in
theorem gX12_get_X12_isKey : GoodIn wsX12_get (va_wsS RX12 197 yX12_isKey wsX12_isKey) := goodIn_app (goodIn_of _ (by decide +kernel)) ggX12_get_X12_isKey
set_option maxRecDepth 20000 in
theorem ggX12_get_X12_failsChar : GoodIn wsX12_get wsX12_failsChar := goodIn_r _ [22, 1, 132, 133, 134, 135, 136, 137, 138, 139, 140, 141, 142, 143, 144, 145, 146, 147, 148, 149, 150, 151, 152, 153, 154, 155, 156, 157, 158, 159, 160, 161, 162, 163, 164, 165, 166, 167, 168, 169, 170, 171, 172, 173, 174, 175, 176, 177, 178, 179, 180, 181, 182, 183, 184, 185, 186] (by decide +kernel) (by decide +kernel)
set_option maxRecDepth 20000 in
theorem gX12_get_X12_failsChar : GoodIn wsX12_get (wsV RX12 248 RX12 yX12_failsChar wsX12_failsChar) := goodIn_app (goodIn_of _ (by decide +kernel)) ggX12_get_X12_failsChar
set_option maxRecDepth 20000 in
theorem ggX12_get_X12_in : GoodIn wsX12_get wsX12_in := goodIn_r _ [18] (by decide +kernel) (by decide +kernel)
set_option maxRecDepth 20000 in
theorem gX12_get_X12_in : GoodIn wsX12_get (va_wsS RX12 133 yX12_in wsX12_in) := goodIn_app (goodIn_of _ (by decide +kernel)) ggX12_get_X12_in
set_option maxRecDepth 20000 in
theorem ggX12_get_X12_hasLease : GoodIn wsX12_get wsX12_hasLease := goodIn_ca (goodIn_r _ [26, 3, 5, 8, 132, 133, 134, 135, 136, 137, 138, 139, 140, 141, 142, 143, 144, 145, 146, 147, 148, 149, 150, 151, 152, 153, 154, 155, 156, 157, 158, 159, 160, 161, 162, 163, 164, 165, 166, 167, 168, 169, 170, 171, 172, 173, 174, 175, 176, 177, 178, 179, 180, 181, 182, 183, 184, 185, 186] (by decide +kernel) (by decide +kernel)) (goodIn_sub (fun _ h => List.mem_cons_of_mem _ (List.mem_append_right _ h)) (by decide +kernel))
set_option maxRecDepth 20000 in
theorem gX12_get_X12_hasLease : GoodIn wsX12_get (wsV RX12 208 RX12 yX12_hasLease wsX12_hasLease) := goodIn_app (goodIn_of _ (by decide +kernel)) ggX12_get_X12_hasLease
set_option maxRecDepth 20000 in
theorem ggX12_get_X12_isGoodIn : GoodIn wsX12_get wsX12_isGoodIn := goodIn_ca (goodIn_r _ [30, 31, 32, 33, 34, 35, 7, 36, 132, 133, 134, 135, 136, 137, 138, 139, 140, 141, 142, 143, 144, 145, 146, 147, 148, 149, 150, 151, 152, 153, 154, 155, 156, 157, 158, 159, 160, 161, 162, 163, 164, 165, 166, 167, 168, 169, 170, 171, 172, 173, 174, 175, 176, 177, 178, 179, 180, 181, 182, 183, 184, 185, 186] (by decide +kernel) (by decide +kernel)) (goodIn_sub (fun _ h => List.mem_cons_of_mem _ (List.mem_append_right _ h)) (by decide +kernel))
set_option maxRecDepth 20000 in
theorem gX12_get_X12_isGoodIn : GoodIn wsX12_get (wsV RX12 252 RX12 yX12_isGoodIn wsX12_isGoodIn) := goodIn_app (goodIn_of _ (by decide +kernel)) ggX12_get_X12_isGoodIn
set_option maxRecDepth 20000 in
theorem ggX12_get_X12_isGoodSlot : GoodIn wsX12_get wsX12_isGoodSlot := goodIn_ca (goodIn_r _ [40, 41, 42, 34, 35, 7, 43, 132, 133, 134, 135, 136, 137, 138, 139, 140, 141, 142, 143, 144, 145, 146, 147, 148, 149, 150, 151, 152, 153, 154, 155, 156, 157, 158, 159, 160, 161, 162, 163, 164, 165, 166, 167, 168, 169, 170, 171, 172, 173, 174, 175, 176, 177, 178, 179, 180, 181, 182, 183, 184, 185, 186] (by decide +kernel) (by decide +kernel)) (goodIn_sub (fun _ h => List.mem_cons_of_mem _ (List.mem_append_right _ h)) (by decide +kernel))
set_option maxRecDepth 20000 in
theorem gX12_get_X12_isGoodSlot : GoodIn wsX12_get (wsV RX12 256 RX12 yX12_isGoodSlot wsX12_isGoodSlot) := goodIn_app (goodIn_of _ (by decide +kernel)) ggX12_get_X12_isGoodSlot
set_option maxRecDepth 20000 in
theorem ggX12_get_X12_answers : GoodIn wsX12_get wsX12_answers := goodIn_ca (goodIn_r _ [47, 4, 48, 49, 50, 41, 51, 52, 53, 32, 54, 55, 56, 57, 58, 59, 14, 60, 61, 62, 63, 7, 64, 132, 133, 134, 135, 136, 137, 138, 139, 140, 141, 142, 143, 144, 145, 146, 147, 148, 149, 150, 151, 152, 153, 154, 155, 156, 157, 158, 159, 160, 161, 162, 163, 164, 165, 166, 167, 168, 169, 170, 171, 172, 173, 174, 175, 176, 177, 178, 179, 180, 181, 182, 183, 184, 185, 186] (by decide +kernel) (by decide +kernel)) (goodIn_sub (fun _ h => List.mem_cons_of_mem _ (List.mem_append_right _ h)) (by decide +kernel))
set_option maxRecDepth 20000 in
theorem gX12_get_X12_answers : GoodIn wsX12_get (wsV RX12 230 RX12 yX12_answers wsX12_answers) := goodIn_app (goodIn_of _ (by decide +kernel)) ggX12_get_X12_answers
set_option maxRecDepth 20000 in
theorem ggX12_get_X12_uses : GoodIn wsX12_get wsX12_uses := goodIn_ca (goodIn_r _ [68, 69, 70, 132, 133, 134, 135, 136, 137, 138, 139, 140, 141, 142, 143, 144, 145, 146, 147, 148, 149, 150, 151, 152, 153, 154, 155, 156, 157, 158, 159, 160, 161, 162, 163, 164, 165, 166, 167, 168, 169, 170, 171, 172, 173, 174, 175, 176, 177, 178, 179, 180, 181, 182, 183, 184, 185, 186] (by decide +kernel) (by decide +kernel)) (goodIn_sub (fun _ h => List.mem_cons_of_mem _ (List.mem_append_right _ h)) (by decide +kernel))
set_option maxRecDepth 20000 in
theorem gX12_get_X12_uses : GoodIn wsX12_get (wsV RX12 192 RX12 yX12_uses wsX12_uses) := goodIn_app (goodIn_of _ (by decide +kernel)) ggX12_get_X12_uses
set_option maxRecDepth 20000 in
theorem ggX12_get_X12_counts : GoodIn wsX12_get wsX12_counts := goodIn_ca (goodIn_r _ [74, 75, 76, 77, 78, 79, 80, 14, 81, 82, 83, 84, 85, 86, 87, 88, 132, 133, 134, 135, 136, 137, 138, 139, 140, 141, 142, 143, 144, 145, 146, 147, 148, 149, 150, 151, 152, 153, 154, 155, 156, 157, 158, 159, 160, 161, 162, 163, 164, 165, 166, 167, 168, 169, 170, 171, 172, 173, 174, 175, 176, 177, 178, 179, 180, 181, 182, 183, 184, 185, 186] (by decide +kernel) (by decide +kernel)) (goodIn_sub (fun _ h => List.mem_cons_of_mem _ (List.mem_append_right _ h)) (by decide +kernel))
set_option maxRecDepth 20000 in
theorem gX12_get_X12_counts : GoodIn wsX12_get (wsV RX12 245 RX12 yX12_counts wsX12_counts) := goodIn_app (goodIn_of _ (by decide +kernel)) ggX12_get_X12_counts
set_option maxRecDepth 20000 in
theorem ggX12_get_X12_answersFlash : GoodIn wsX12_get wsX12_answersFlash := goodIn_ca (goodIn_r _ [92, 41, 52, 50, 43, 42, 44, 45, 46, 14, 47, 4, 48, 49, 51, 53, 32, 54, 55, 56, 57, 58, 59, 60, 61, 62, 63, 7, 64, 93, 94, 95, 96, 31, 97, 98, 70, 99, 100, 101, 102, 103, 104, 105, 106, 107, 108, 109, 110, 11, 78, 79, 80, 81, 75, 82, 83, 84, 85, 86, 87, 88, 111, 112, 113, 114, 115, 36, 33, 116, 117, 118, 119, 120, 121, 122, 123, 124, 125, 126, 127, 65, 66, 67, 68, 69, 128, 129, 130, 131, 71, 72, 73, 74, 76, 77, 132, 133, 134, 135, 136, 137, 138, 139, 140, 141, 142, 143, 144, 145, 146, 147, 148, 149, 150, 151, 152, 153, 154, 155, 156, 157, 158, 159, 160, 161, 162, 163, 164, 165, 166, 167, 168, 169, 170, 171, 172, 173, 174, 175, 176, 177, 178, 179, 180, 181, 182, 183, 184, 185, 186] (by decide +kernel) (by decide +kernel)) (goodIn_sub (fun _ h => List.mem_cons_of_mem _ (List.mem_append_right _ h)) (by decide +kernel))
set_option maxRecDepth 20000 in
theorem gX12_get_X12_answersFlash : GoodIn wsX12_get (wsV RX12 259 RX12 yX12_answersFlash wsX12_answersFlash) := goodIn_app (goodIn_of _ (by decide +kernel)) ggX12_get_X12_answersFlash
theorem dX12_get_0 : decode cX12_get 0 = .ok (.aload_n 0, 1) := by decide +kernel
theorem dX12_get_1 : decode cX12_get 1 = .ok (.iconst 0, 1) := by decide +kernel
theorem dX12_get_2 : decode cX12_get 2 = .ok (.putfield 129, 3) := by decide +kernel
theorem dX12_get_5 : decode cX12_get 5 = .ok (.iload_n 1, 1) := by decide +kernel
theorem dX12_get_6 : decode cX12_get 6 = .ok (.invokestatic 197, 3) := by decide +kernel
theorem dX12_get_9 : decode cX12_get 9 = .ok (.ifCond .ne 9, 3) := by decide +kernel
theorem dX12_get_12 : decode cX12_get 12 = .ok (.aload_n 0, 1) := by decide +kernel
theorem dX12_get_13 : decode cX12_get 13 = .ok (.iconst 1, 1) := by decide +kernel
theorem dX12_get_14 : decode cX12_get 14 = .ok (.invokevirtual 248, 3) := by decide +kernel
theorem dX12_get_17 : decode cX12_get 17 = .ok (.ireturn, 1) := by decide +kernel
theorem dX12_get_18 : decode cX12_get 18 = .ok (.iload_n 2, 1) := by decide +kernel
theorem dX12_get_19 : decode cX12_get 19 = .ok (.iconst 0, 1) := by decide +kernel
theorem dX12_get_20 : decode cX12_get 20 = .ok (.bipush 60, 2) := by decide +kernel
theorem dX12_get_22 : decode cX12_get 22 = .ok (.invokestatic 133, 3) := by decide +kernel
theorem dX12_get_25 : decode cX12_get 25 = .ok (.ifCond .eq 13, 3) := by decide +kernel
theorem dX12_get_28 : decode cX12_get 28 = .ok (.iload_n 3, 1) := by decide +kernel
theorem dX12_get_29 : decode cX12_get 29 = .ok (.iconst 0, 1) := by decide +kernel
theorem dX12_get_30 : decode cX12_get 30 = .ok (.bipush 60, 2) := by decide +kernel
theorem dX12_get_32 : decode cX12_get 32 = .ok (.invokestatic 133, 3) := by decide +kernel
theorem dX12_get_35 : decode cX12_get 35 = .ok (.ifCond .ne 9, 3) := by decide +kernel
theorem dX12_get_38 : decode cX12_get 38 = .ok (.aload_n 0, 1) := by decide +kernel
theorem dX12_get_39 : decode cX12_get 39 = .ok (.iconst 2, 1) := by decide +kernel
theorem dX12_get_40 : decode cX12_get 40 = .ok (.invokevirtual 248, 3) := by decide +kernel
theorem dX12_get_43 : decode cX12_get 43 = .ok (.ireturn, 1) := by decide +kernel
theorem dX12_get_44 : decode cX12_get 44 = .ok (.aload_n 0, 1) := by decide +kernel
theorem dX12_get_45 : decode cX12_get 45 = .ok (.getfield 204, 3) := by decide +kernel
theorem dX12_get_48 : decode cX12_get 48 = .ok (.ifCond .eq 9, 3) := by decide +kernel
theorem dX12_get_51 : decode cX12_get 51 = .ok (.aload_n 0, 1) := by decide +kernel
theorem dX12_get_52 : decode cX12_get 52 = .ok (.iconst 3, 1) := by decide +kernel
theorem dX12_get_53 : decode cX12_get 53 = .ok (.invokevirtual 248, 3) := by decide +kernel
theorem dX12_get_56 : decode cX12_get 56 = .ok (.ireturn, 1) := by decide +kernel
theorem dX12_get_57 : decode cX12_get 57 = .ok (.aload_n 0, 1) := by decide +kernel
theorem dX12_get_58 : decode cX12_get 58 = .ok (.iload_n 1, 1) := by decide +kernel
theorem dX12_get_59 : decode cX12_get 59 = .ok (.invokevirtual 208, 3) := by decide +kernel
theorem dX12_get_62 : decode cX12_get 62 = .ok (.istore 4, 2) := by decide +kernel
theorem dX12_get_64 : decode cX12_get 64 = .ok (.aload_n 0, 1) := by decide +kernel
theorem dX12_get_65 : decode cX12_get 65 = .ok (.iload_n 1, 1) := by decide +kernel
theorem dX12_get_66 : decode cX12_get 66 = .ok (.iload_n 2, 1) := by decide +kernel
theorem dX12_get_67 : decode cX12_get 67 = .ok (.invokevirtual 252, 3) := by decide +kernel
theorem dX12_get_70 : decode cX12_get 70 = .ok (.istore 5, 2) := by decide +kernel
theorem dX12_get_72 : decode cX12_get 72 = .ok (.iload 5, 2) := by decide +kernel
theorem dX12_get_74 : decode cX12_get 74 = .ok (.ifCond .ne 16, 3) := by decide +kernel
theorem dX12_get_77 : decode cX12_get 77 = .ok (.aload_n 0, 1) := by decide +kernel
theorem dX12_get_78 : decode cX12_get 78 = .ok (.iload_n 1, 1) := by decide +kernel
theorem dX12_get_79 : decode cX12_get 79 = .ok (.iload_n 2, 1) := by decide +kernel
theorem dX12_get_80 : decode cX12_get 80 = .ok (.invokevirtual 256, 3) := by decide +kernel
theorem dX12_get_83 : decode cX12_get 83 = .ok (.ifCond .eq 7, 3) := by decide +kernel
theorem dX12_get_86 : decode cX12_get 86 = .ok (.iconst 1, 1) := by decide +kernel
theorem dX12_get_87 : decode cX12_get 87 = .ok (.goto 4, 3) := by decide +kernel
theorem dX12_get_90 : decode cX12_get 90 = .ok (.iconst 0, 1) := by decide +kernel
theorem dX12_get_91 : decode cX12_get 91 = .ok (.istore 6, 2) := by decide +kernel
theorem dX12_get_93 : decode cX12_get 93 = .ok (.iload 5, 2) := by decide +kernel
theorem dX12_get_95 : decode cX12_get 95 = .ok (.ifCond .ne 12, 3) := by decide +kernel
theorem dX12_get_98 : decode cX12_get 98 = .ok (.iload 6, 2) := by decide +kernel
theorem dX12_get_100 : decode cX12_get 100 = .ok (.ifCond .ne 7, 3) := by decide +kernel
theorem dX12_get_103 : decode cX12_get 103 = .ok (.iconst 1, 1) := by decide +kernel
theorem dX12_get_104 : decode cX12_get 104 = .ok (.goto 4, 3) := by decide +kernel
theorem dX12_get_107 : decode cX12_get 107 = .ok (.iconst 0, 1) := by decide +kernel
theorem dX12_get_108 : decode cX12_get 108 = .ok (.istore 7, 2) := by decide +kernel
theorem dX12_get_110 : decode cX12_get 110 = .ok (.iload 7, 2) := by decide +kernel
theorem dX12_get_112 : decode cX12_get 112 = .ok (.ifCond .eq 23, 3) := by decide +kernel
theorem dX12_get_115 : decode cX12_get 115 = .ok (.iload 4, 2) := by decide +kernel
theorem dX12_get_117 : decode cX12_get 117 = .ok (.ifCond .ne 18, 3) := by decide +kernel
theorem dX12_get_120 : decode cX12_get 120 = .ok (.aload_n 0, 1) := by decide +kernel
theorem dX12_get_121 : decode cX12_get 121 = .ok (.getfield 194, 3) := by decide +kernel
theorem dX12_get_124 : decode cX12_get 124 = .ok (.bipush 60, 2) := by decide +kernel
theorem dX12_get_126 : decode cX12_get 126 = .ok (.if_icmp .ne 9, 3) := by decide +kernel
theorem dX12_get_129 : decode cX12_get 129 = .ok (.aload_n 0, 1) := by decide +kernel
theorem dX12_get_130 : decode cX12_get 130 = .ok (.iconst 4, 1) := by decide +kernel
theorem dX12_get_131 : decode cX12_get 131 = .ok (.invokevirtual 248, 3) := by decide +kernel
theorem dX12_get_134 : decode cX12_get 134 = .ok (.ireturn, 1) := by decide +kernel
theorem dX12_get_135 : decode cX12_get 135 = .ok (.aload_n 0, 1) := by decide +kernel
theorem dX12_get_136 : decode cX12_get 136 = .ok (.iconst 0, 1) := by decide +kernel
theorem dX12_get_137 : decode cX12_get 137 = .ok (.putfield 211, 3) := by decide +kernel
theorem dX12_get_140 : decode cX12_get 140 = .ok (.iload 5, 2) := by decide +kernel
theorem dX12_get_142 : decode cX12_get 142 = .ok (.ifCond .ne 24, 3) := by decide +kernel
theorem dX12_get_145 : decode cX12_get 145 = .ok (.iload 7, 2) := by decide +kernel
theorem dX12_get_147 : decode cX12_get 147 = .ok (.ifCond .eq 48, 3) := by decide +kernel
theorem dX12_get_150 : decode cX12_get 150 = .ok (.iload 4, 2) := by decide +kernel
theorem dX12_get_152 : decode cX12_get 152 = .ok (.ifCond .eq 43, 3) := by decide +kernel
theorem dX12_get_155 : decode cX12_get 155 = .ok (.aload_n 0, 1) := by decide +kernel
theorem dX12_get_156 : decode cX12_get 156 = .ok (.iload_n 1, 1) := by decide +kernel
theorem dX12_get_157 : decode cX12_get 157 = .ok (.iload_n 2, 1) := by decide +kernel
theorem dX12_get_158 : decode cX12_get 158 = .ok (.iload_n 3, 1) := by decide +kernel
theorem dX12_get_159 : decode cX12_get 159 = .ok (.iadd, 1) := by decide +kernel
theorem dX12_get_160 : decode cX12_get 160 = .ok (.invokevirtual 252, 3) := by decide +kernel
theorem dX12_get_163 : decode cX12_get 163 = .ok (.ifCond .eq 32, 3) := by decide +kernel
theorem dX12_get_166 : decode cX12_get 166 = .ok (.aload_n 0, 1) := by decide +kernel
theorem dX12_get_167 : decode cX12_get 167 = .ok (.iload_n 1, 1) := by decide +kernel
theorem dX12_get_168 : decode cX12_get 168 = .ok (.iconst 1, 1) := by decide +kernel
theorem dX12_get_169 : decode cX12_get 169 = .ok (.invokevirtual 230, 3) := by decide +kernel
theorem dX12_get_172 : decode cX12_get 172 = .ok (.aload_n 0, 1) := by decide +kernel
theorem dX12_get_173 : decode cX12_get 173 = .ok (.iload_n 1, 1) := by decide +kernel
theorem dX12_get_174 : decode cX12_get 174 = .ok (.invokevirtual 192, 3) := by decide +kernel
theorem dX12_get_177 : decode cX12_get 177 = .ok (.aload_n 0, 1) := by decide +kernel
theorem dX12_get_178 : decode cX12_get 178 = .ok (.iload_n 1, 1) := by decide +kernel
theorem dX12_get_179 : decode cX12_get 179 = .ok (.invokevirtual 245, 3) := by decide +kernel
theorem dX12_get_182 : decode cX12_get 182 = .ok (.iload 5, 2) := by decide +kernel
theorem dX12_get_184 : decode cX12_get 184 = .ok (.ifCond .eq 8, 3) := by decide +kernel
theorem dX12_get_187 : decode cX12_get 187 = .ok (.bipush 109, 2) := by decide +kernel
theorem dX12_get_189 : decode cX12_get 189 = .ok (.goto 5, 3) := by decide +kernel
theorem dX12_get_192 : decode cX12_get 192 = .ok (.bipush 115, 2) := by decide +kernel
theorem dX12_get_194 : decode cX12_get 194 = .ok (.ireturn, 1) := by decide +kernel
theorem dX12_get_195 : decode cX12_get 195 = .ok (.iload 6, 2) := by decide +kernel
theorem dX12_get_197 : decode cX12_get 197 = .ok (.ifCond .ne 19, 3) := by decide +kernel
theorem dX12_get_200 : decode cX12_get 200 = .ok (.iload 4, 2) := by decide +kernel
theorem dX12_get_202 : decode cX12_get 202 = .ok (.ifCond .eq 32, 3) := by decide +kernel
theorem dX12_get_205 : decode cX12_get 205 = .ok (.aload_n 0, 1) := by decide +kernel
theorem dX12_get_206 : decode cX12_get 206 = .ok (.iload_n 1, 1) := by decide +kernel
theorem dX12_get_207 : decode cX12_get 207 = .ok (.iload_n 2, 1) := by decide +kernel
theorem dX12_get_208 : decode cX12_get 208 = .ok (.iload_n 3, 1) := by decide +kernel
theorem dX12_get_209 : decode cX12_get 209 = .ok (.iadd, 1) := by decide +kernel
theorem dX12_get_210 : decode cX12_get 210 = .ok (.invokevirtual 256, 3) := by decide +kernel
theorem dX12_get_213 : decode cX12_get 213 = .ok (.ifCond .eq 21, 3) := by decide +kernel
theorem dX12_get_216 : decode cX12_get 216 = .ok (.aload_n 0, 1) := by decide +kernel
theorem dX12_get_217 : decode cX12_get 217 = .ok (.iload_n 1, 1) := by decide +kernel
theorem dX12_get_218 : decode cX12_get 218 = .ok (.invokevirtual 259, 3) := by decide +kernel
theorem dX12_get_221 : decode cX12_get 221 = .ok (.iload 6, 2) := by decide +kernel
theorem dX12_get_223 : decode cX12_get 223 = .ok (.ifCond .eq 8, 3) := by decide +kernel
theorem dX12_get_226 : decode cX12_get 226 = .ok (.bipush 102, 2) := by decide +kernel
theorem dX12_get_228 : decode cX12_get 228 = .ok (.goto 5, 3) := by decide +kernel
theorem dX12_get_231 : decode cX12_get 231 = .ok (.bipush 115, 2) := by decide +kernel
theorem dX12_get_233 : decode cX12_get 233 = .ok (.ireturn, 1) := by decide +kernel
theorem dX12_get_234 : decode cX12_get 234 = .ok (.aload_n 0, 1) := by decide +kernel
theorem dX12_get_235 : decode cX12_get 235 = .ok (.iload_n 1, 1) := by decide +kernel
theorem dX12_get_236 : decode cX12_get 236 = .ok (.invokevirtual 245, 3) := by decide +kernel
theorem dX12_get_239 : decode cX12_get 239 = .ok (.iload 4, 2) := by decide +kernel
theorem dX12_get_241 : decode cX12_get 241 = .ok (.ifCond .eq 6, 3) := by decide +kernel
theorem dX12_get_244 : decode cX12_get 244 = .ok (.bipush 119, 2) := by decide +kernel
theorem dX12_get_246 : decode cX12_get 246 = .ok (.ireturn, 1) := by decide +kernel
theorem dX12_get_247 : decode cX12_get 247 = .ok (.aload_n 0, 1) := by decide +kernel
theorem dX12_get_248 : decode cX12_get 248 = .ok (.getfield 104, 3) := by decide +kernel
theorem dX12_get_251 : decode cX12_get 251 = .ok (.aload_n 0, 1) := by decide +kernel
theorem dX12_get_252 : decode cX12_get 252 = .ok (.getfield 194, 3) := by decide +kernel
theorem dX12_get_255 : decode cX12_get 255 = .ok (.iload_n 1, 1) := by decide +kernel
theorem dX12_get_256 : decode cX12_get 256 = .ok (.iastore, 1) := by decide +kernel
theorem dX12_get_257 : decode cX12_get 257 = .ok (.aload_n 0, 1) := by decide +kernel
theorem dX12_get_258 : decode cX12_get 258 = .ok (.getfield 107, 3) := by decide +kernel
theorem dX12_get_261 : decode cX12_get 261 = .ok (.aload_n 0, 1) := by decide +kernel
theorem dX12_get_262 : decode cX12_get 262 = .ok (.getfield 194, 3) := by decide +kernel
theorem dX12_get_265 : decode cX12_get 265 = .ok (.aload_n 0, 1) := by decide +kernel
theorem dX12_get_266 : decode cX12_get 266 = .ok (.getfield 159, 3) := by decide +kernel
theorem dX12_get_269 : decode cX12_get 269 = .ok (.iastore, 1) := by decide +kernel
theorem dX12_get_270 : decode cX12_get 270 = .ok (.aload_n 0, 1) := by decide +kernel
theorem dX12_get_271 : decode cX12_get 271 = .ok (.getfield 110, 3) := by decide +kernel
theorem dX12_get_274 : decode cX12_get 274 = .ok (.aload_n 0, 1) := by decide +kernel
theorem dX12_get_275 : decode cX12_get 275 = .ok (.getfield 194, 3) := by decide +kernel
theorem dX12_get_278 : decode cX12_get 278 = .ok (.bipush 111, 2) := by decide +kernel
theorem dX12_get_280 : decode cX12_get 280 = .ok (.castore, 1) := by decide +kernel
theorem dX12_get_281 : decode cX12_get 281 = .ok (.aload_n 0, 1) := by decide +kernel
theorem dX12_get_282 : decode cX12_get 282 = .ok (.getfield 114, 3) := by decide +kernel
theorem dX12_get_285 : decode cX12_get 285 = .ok (.aload_n 0, 1) := by decide +kernel
theorem dX12_get_286 : decode cX12_get 286 = .ok (.getfield 194, 3) := by decide +kernel
theorem dX12_get_289 : decode cX12_get 289 = .ok (.iconst 0, 1) := by decide +kernel
theorem dX12_get_290 : decode cX12_get 290 = .ok (.bastore, 1) := by decide +kernel
theorem dX12_get_291 : decode cX12_get 291 = .ok (.aload_n 0, 1) := by decide +kernel
theorem dX12_get_292 : decode cX12_get 292 = .ok (.dup, 1) := by decide +kernel
theorem dX12_get_293 : decode cX12_get 293 = .ok (.getfield 194, 3) := by decide +kernel
theorem dX12_get_296 : decode cX12_get 296 = .ok (.iconst 1, 1) := by decide +kernel
theorem dX12_get_297 : decode cX12_get 297 = .ok (.iadd, 1) := by decide +kernel
theorem dX12_get_298 : decode cX12_get 298 = .ok (.putfield 194, 3) := by decide +kernel
theorem dX12_get_301 : decode cX12_get 301 = .ok (.aload_n 0, 1) := by decide +kernel
theorem dX12_get_302 : decode cX12_get 302 = .ok (.dup, 1) := by decide +kernel
theorem dX12_get_303 : decode cX12_get 303 = .ok (.getfield 262, 3) := by decide +kernel
theorem dX12_get_306 : decode cX12_get 306 = .ok (.aload_n 0, 1) := by decide +kernel
theorem dX12_get_307 : decode cX12_get 307 = .ok (.getfield 41, 3) := by decide +kernel
theorem dX12_get_310 : decode cX12_get 310 = .ok (.iload_n 1, 1) := by decide +kernel
theorem dX12_get_311 : decode cX12_get 311 = .ok (.iaload, 1) := by decide +kernel
theorem dX12_get_312 : decode cX12_get 312 = .ok (.i2l, 1) := by decide +kernel
theorem dX12_get_313 : decode cX12_get 313 = .ok (.ladd, 1) := by decide +kernel
theorem dX12_get_314 : decode cX12_get 314 = .ok (.putfield 262, 3) := by decide +kernel
theorem dX12_get_317 : decode cX12_get 317 = .ok (.bipush 108, 2) := by decide +kernel
theorem dX12_get_319 : decode cX12_get 319 = .ok (.ireturn, 1) := by decide +kernel
set_option maxRecDepth 20000 in
theorem ggX12_value_X12_fails : GoodIn wsX12_value wsX12_fails := goodIn_r _ [8, 1, 9, 10, 11, 12, 13, 14, 15, 16, 17, 18, 19, 20, 21, 22, 23, 24, 25, 26, 27, 28, 29, 30, 31, 32, 33, 34, 35, 36, 37, 38, 39, 40, 41, 42, 43, 44, 45, 46, 47, 48, 49, 50, 51, 52, 53, 54, 55, 56, 57, 58, 59, 60, 61, 62, 63] (by decide +kernel) (by decide +kernel)
set_option maxRecDepth 20000 in
theorem gX12_value_X12_fails : GoodIn wsX12_value (wsV RX12 201 RX12 yX12_fails wsX12_fails) := goodIn_app (goodIn_of _ (by decide +kernel)) ggX12_value_X12_fails
theorem dX12_value_0 : decode cX12_value 0 = .ok (.aload_n 0, 1) := by decide +kernel
theorem dX12_value_1 : decode cX12_value 1 = .ok (.iconst 0, 1) := by decide +kernel
theorem dX12_value_2 : decode cX12_value 2 = .ok (.putfield 129, 3) := by decide +kernel
theorem dX12_value_5 : decode cX12_value 5 = .ok (.aload_n 0, 1) := by decide +kernel
theorem dX12_value_6 : decode cX12_value 6 = .ok (.getfield 211, 3) := by decide +kernel
theorem dX12_value_9 : decode cX12_value 9 = .ok (.ifCond .eq 10, 3) := by decide +kernel
theorem dX12_value_12 : decode cX12_value 12 = .ok (.aload_n 0, 1) := by decide +kernel
theorem dX12_value_13 : decode cX12_value 13 = .ok (.getfield 217, 3) := by decide +kernel
theorem dX12_value_16 : decode cX12_value 16 = .ok (.goto 8, 3) := by decide +kernel
theorem dX12_value_19 : decode cX12_value 19 = .ok (.aload_n 0, 1) := by decide +kernel
theorem dX12_value_20 : decode cX12_value 20 = .ok (.iconst 1, 1) := by decide +kernel
theorem dX12_value_21 : decode cX12_value 21 = .ok (.invokevirtual 201, 3) := by decide +kernel
theorem dX12_value_24 : decode cX12_value 24 = .ok (.ireturn, 1) := by decide +kernel
set_option maxRecDepth 20000 in
theorem ggX12_staleness_X12_fails : GoodIn wsX12_staleness wsX12_fails := goodIn_r _ [8, 1, 9, 10, 11, 12, 13, 14, 15, 16, 17, 18, 19, 20, 21, 22, 23, 24, 25, 26, 27, 28, 29, 30, 31, 32, 33, 34, 35, 36, 37, 38, 39, 40, 41, 42, 43, 44, 45, 46, 47, 48, 49, 50, 51, 52, 53, 54, 55, 56, 57, 58, 59, 60, 61, 62, 63] (by decide +kernel) (by decide +kernel)
set_option maxRecDepth 20000 in
theorem gX12_staleness_X12_fails : GoodIn wsX12_staleness (wsV RX12 201 RX12 yX12_fails wsX12_fails) := goodIn_app (goodIn_of _ (by decide +kernel)) ggX12_staleness_X12_fails
theorem dX12_staleness_0 : decode cX12_staleness 0 = .ok (.aload_n 0, 1) := by decide +kernel
theorem dX12_staleness_1 : decode cX12_staleness 1 = .ok (.iconst 0, 1) := by decide +kernel
theorem dX12_staleness_2 : decode cX12_staleness 2 = .ok (.putfield 129, 3) := by decide +kernel
theorem dX12_staleness_5 : decode cX12_staleness 5 = .ok (.aload_n 0, 1) := by decide +kernel
theorem dX12_staleness_6 : decode cX12_staleness 6 = .ok (.getfield 211, 3) := by decide +kernel
theorem dX12_staleness_9 : decode cX12_staleness 9 = .ok (.ifCond .eq 10, 3) := by decide +kernel
theorem dX12_staleness_12 : decode cX12_staleness 12 = .ok (.aload_n 0, 1) := by decide +kernel
theorem dX12_staleness_13 : decode cX12_staleness 13 = .ok (.getfield 223, 3) := by decide +kernel
theorem dX12_staleness_16 : decode cX12_staleness 16 = .ok (.goto 8, 3) := by decide +kernel
theorem dX12_staleness_19 : decode cX12_staleness 19 = .ok (.aload_n 0, 1) := by decide +kernel
theorem dX12_staleness_20 : decode cX12_staleness 20 = .ok (.iconst 1, 1) := by decide +kernel
theorem dX12_staleness_21 : decode cX12_staleness 21 = .ok (.invokevirtual 201, 3) := by decide +kernel
theorem dX12_staleness_24 : decode cX12_staleness 24 = .ok (.ireturn, 1) := by decide +kernel
set_option maxRecDepth 20000 in
theorem ggX12_lease_X12_fails : GoodIn wsX12_lease wsX12_fails := goodIn_r _ [7, 1, 8, 9, 10, 11, 12, 13, 14, 15, 16, 17, 18, 19, 20, 21, 22, 23, 24, 25, 26, 27, 28, 29, 30, 31, 32, 33, 34, 35, 36, 37, 38, 39, 40, 41, 42, 43, 44, 45, 46, 47, 48, 49, 50, 51, 52, 53, 54, 55, 56, 57, 58, 59, 60, 61, 62] (by decide +kernel) (by decide +kernel)
set_option maxRecDepth 20000 in
theorem gX12_lease_X12_fails : GoodIn wsX12_lease (wsV RX12 201 RX12 yX12_fails wsX12_fails) := goodIn_app (goodIn_of _ (by decide +kernel)) ggX12_lease_X12_fails
theorem dX12_lease_0 : decode cX12_lease 0 = .ok (.aload_n 0, 1) := by decide +kernel
theorem dX12_lease_1 : decode cX12_lease 1 = .ok (.iconst 0, 1) := by decide +kernel
theorem dX12_lease_2 : decode cX12_lease 2 = .ok (.putfield 129, 3) := by decide +kernel
theorem dX12_lease_5 : decode cX12_lease 5 = .ok (.aload_n 0, 1) := by decide +kernel
theorem dX12_lease_6 : decode cX12_lease 6 = .ok (.getfield 194, 3) := by decide +kernel
theorem dX12_lease_9 : decode cX12_lease 9 = .ok (.ifCond .le 12, 3) := by decide +kernel
theorem dX12_lease_12 : decode cX12_lease 12 = .ok (.aload_n 0, 1) := by decide +kernel
theorem dX12_lease_13 : decode cX12_lease 13 = .ok (.getfield 194, 3) := by decide +kernel
theorem dX12_lease_16 : decode cX12_lease 16 = .ok (.iconst 1, 1) := by decide +kernel
theorem dX12_lease_17 : decode cX12_lease 17 = .ok (.isub, 1) := by decide +kernel
theorem dX12_lease_18 : decode cX12_lease 18 = .ok (.goto 8, 3) := by decide +kernel
theorem dX12_lease_21 : decode cX12_lease 21 = .ok (.aload_n 0, 1) := by decide +kernel
theorem dX12_lease_22 : decode cX12_lease 22 = .ok (.iconst 1, 1) := by decide +kernel
theorem dX12_lease_23 : decode cX12_lease 23 = .ok (.invokevirtual 201, 3) := by decide +kernel
theorem dX12_lease_26 : decode cX12_lease 26 = .ok (.ireturn, 1) := by decide +kernel
set_option maxRecDepth 20000 in
theorem ggX12_isLease_X12_in : GoodIn wsX12_isLease wsX12_in := goodIn_r _ [5] (by decide +kernel) (by decide +kernel)
set_option maxRecDepth 20000 in
theorem gX12_isLease_X12_in : GoodIn wsX12_isLease (va_wsS RX12 133 yX12_in wsX12_in) := goodIn_app (goodIn_of _ (by decide +kernel)) ggX12_isLease_X12_in
theorem dX12_isLease_0 : decode cX12_isLease 0 = .ok (.iload_n 1, 1) := by decide +kernel
theorem dX12_isLease_1 : decode cX12_isLease 1 = .ok (.iconst 0, 1) := by decide +kernel
theorem dX12_isLease_2 : decode cX12_isLease 2 = .ok (.aload_n 0, 1) := by decide +kernel
theorem dX12_isLease_3 : decode cX12_isLease 3 = .ok (.getfield 194, 3) := by decide +kernel
theorem dX12_isLease_6 : decode cX12_isLease 6 = .ok (.iconst 1, 1) := by decide +kernel
theorem dX12_isLease_7 : decode cX12_isLease 7 = .ok (.isub, 1) := by decide +kernel
theorem dX12_isLease_8 : decode cX12_isLease 8 = .ok (.invokestatic 133, 3) := by decide +kernel
theorem dX12_isLease_11 : decode cX12_isLease 11 = .ok (.ireturn, 1) := by decide +kernel
set_option maxRecDepth 20000 in
theorem ggX12_read_X12_isLease : GoodIn wsX12_read wsX12_isLease := goodIn_r _ [15, 16, 17, 18, 14, 19, 24, 25, 26, 27, 28, 29, 30, 31, 32, 33, 34, 35, 36, 37, 38, 39, 40, 41, 42, 43, 44, 45, 46, 47, 48, 49, 50, 51, 52, 53, 54, 55, 56, 57, 58, 59, 60, 61, 62, 63, 64, 65, 66, 67, 68, 69, 70, 71, 72, 73, 74, 75, 76, 77, 78] (by decide +kernel) (by decide +kernel)
set_option maxRecDepth 20000 in
theorem gX12_read_X12_isLease : GoodIn wsX12_read (wsV RX12 265 RX12 yX12_isLease wsX12_isLease) := goodIn_app (goodIn_of _ (by decide +kernel)) ggX12_read_X12_isLease
set_option maxRecDepth 20000 in
theorem ggX12_read_X12_fails : GoodIn wsX12_read wsX12_fails := goodIn_r _ [23, 1, 24, 25, 26, 27, 28, 29, 30, 31, 32, 33, 34, 35, 36, 37, 38, 39, 40, 41, 42, 43, 44, 45, 46, 47, 48, 49, 50, 51, 52, 53, 54, 55, 56, 57, 58, 59, 60, 61, 62, 63, 64, 65, 66, 67, 68, 69, 70, 71, 72, 73, 74, 75, 76, 77, 78] (by decide +kernel) (by decide +kernel)
set_option maxRecDepth 20000 in
theorem gX12_read_X12_fails : GoodIn wsX12_read (wsV RX12 201 RX12 yX12_fails wsX12_fails) := goodIn_app (goodIn_of _ (by decide +kernel)) ggX12_read_X12_fails
theorem dX12_read_0 : decode cX12_read 0 = .ok (.aload_n 0, 1) := by decide +kernel
theorem dX12_read_1 : decode cX12_read 1 = .ok (.iconst 0, 1) := by decide +kernel
theorem dX12_read_2 : decode cX12_read 2 = .ok (.putfield 129, 3) := by decide +kernel
theorem dX12_read_5 : decode cX12_read 5 = .ok (.aload_n 0, 1) := by decide +kernel
theorem dX12_read_6 : decode cX12_read 6 = .ok (.iload_n 1, 1) := by decide +kernel
theorem dX12_read_7 : decode cX12_read 7 = .ok (.invokevirtual 265, 3) := by decide +kernel
theorem dX12_read_10 : decode cX12_read 10 = .ok (.ifCond .ne 9, 3) := by decide +kernel
theorem dX12_read_13 : decode cX12_read 13 = .ok (.aload_n 0, 1) := by decide +kernel
theorem dX12_read_14 : decode cX12_read 14 = .ok (.iconst 1, 1) := by decide +kernel
theorem dX12_read_15 : decode cX12_read 15 = .ok (.invokevirtual 201, 3) := by decide +kernel
theorem dX12_read_18 : decode cX12_read 18 = .ok (.ireturn, 1) := by decide +kernel
theorem dX12_read_19 : decode cX12_read 19 = .ok (.aload_n 0, 1) := by decide +kernel
theorem dX12_read_20 : decode cX12_read 20 = .ok (.getfield 110, 3) := by decide +kernel
theorem dX12_read_23 : decode cX12_read 23 = .ok (.iload_n 1, 1) := by decide +kernel
theorem dX12_read_24 : decode cX12_read 24 = .ok (.caload, 1) := by decide +kernel
theorem dX12_read_25 : decode cX12_read 25 = .ok (.bipush 111, 2) := by decide +kernel
theorem dX12_read_27 : decode cX12_read 27 = .ok (.if_icmp .eq 9, 3) := by decide +kernel
theorem dX12_read_30 : decode cX12_read 30 = .ok (.aload_n 0, 1) := by decide +kernel
theorem dX12_read_31 : decode cX12_read 31 = .ok (.iconst 2, 1) := by decide +kernel
theorem dX12_read_32 : decode cX12_read 32 = .ok (.invokevirtual 201, 3) := by decide +kernel
theorem dX12_read_35 : decode cX12_read 35 = .ok (.ireturn, 1) := by decide +kernel
theorem dX12_read_36 : decode cX12_read 36 = .ok (.aload_n 0, 1) := by decide +kernel
theorem dX12_read_37 : decode cX12_read 37 = .ok (.getfield 104, 3) := by decide +kernel
theorem dX12_read_40 : decode cX12_read 40 = .ok (.iload_n 1, 1) := by decide +kernel
theorem dX12_read_41 : decode cX12_read 41 = .ok (.iaload, 1) := by decide +kernel
theorem dX12_read_42 : decode cX12_read 42 = .ok (.istore_n 2, 1) := by decide +kernel
theorem dX12_read_43 : decode cX12_read 43 = .ok (.aload_n 0, 1) := by decide +kernel
theorem dX12_read_44 : decode cX12_read 44 = .ok (.getfield 110, 3) := by decide +kernel
theorem dX12_read_47 : decode cX12_read 47 = .ok (.iload_n 1, 1) := by decide +kernel
theorem dX12_read_48 : decode cX12_read 48 = .ok (.bipush 114, 2) := by decide +kernel
theorem dX12_read_50 : decode cX12_read 50 = .ok (.castore, 1) := by decide +kernel
theorem dX12_read_51 : decode cX12_read 51 = .ok (.aload_n 0, 1) := by decide +kernel
theorem dX12_read_52 : decode cX12_read 52 = .ok (.getfield 114, 3) := by decide +kernel
theorem dX12_read_55 : decode cX12_read 55 = .ok (.iload_n 1, 1) := by decide +kernel
theorem dX12_read_56 : decode cX12_read 56 = .ok (.iconst 1, 1) := by decide +kernel
theorem dX12_read_57 : decode cX12_read 57 = .ok (.bastore, 1) := by decide +kernel
theorem dX12_read_58 : decode cX12_read 58 = .ok (.aload_n 0, 1) := by decide +kernel
theorem dX12_read_59 : decode cX12_read 59 = .ok (.getfield 117, 3) := by decide +kernel
theorem dX12_read_62 : decode cX12_read 62 = .ok (.iload_n 1, 1) := by decide +kernel
theorem dX12_read_63 : decode cX12_read 63 = .ok (.aload_n 0, 1) := by decide +kernel
theorem dX12_read_64 : decode cX12_read 64 = .ok (.getfield 7, 3) := by decide +kernel
theorem dX12_read_67 : decode cX12_read 67 = .ok (.iload_n 2, 1) := by decide +kernel
theorem dX12_read_68 : decode cX12_read 68 = .ok (.iaload, 1) := by decide +kernel
theorem dX12_read_69 : decode cX12_read 69 = .ok (.iastore, 1) := by decide +kernel
theorem dX12_read_70 : decode cX12_read 70 = .ok (.aload_n 0, 1) := by decide +kernel
theorem dX12_read_71 : decode cX12_read 71 = .ok (.getfield 120, 3) := by decide +kernel
theorem dX12_read_74 : decode cX12_read 74 = .ok (.iload_n 1, 1) := by decide +kernel
theorem dX12_read_75 : decode cX12_read 75 = .ok (.aload_n 0, 1) := by decide +kernel
theorem dX12_read_76 : decode cX12_read 76 = .ok (.getfield 13, 3) := by decide +kernel
theorem dX12_read_79 : decode cX12_read 79 = .ok (.iload_n 2, 1) := by decide +kernel
theorem dX12_read_80 : decode cX12_read 80 = .ok (.iaload, 1) := by decide +kernel
theorem dX12_read_81 : decode cX12_read 81 = .ok (.iastore, 1) := by decide +kernel
theorem dX12_read_82 : decode cX12_read 82 = .ok (.aload_n 0, 1) := by decide +kernel
theorem dX12_read_83 : decode cX12_read 83 = .ok (.getfield 123, 3) := by decide +kernel
theorem dX12_read_86 : decode cX12_read 86 = .ok (.iload_n 1, 1) := by decide +kernel
theorem dX12_read_87 : decode cX12_read 87 = .ok (.aload_n 0, 1) := by decide +kernel
theorem dX12_read_88 : decode cX12_read 88 = .ok (.getfield 159, 3) := by decide +kernel
theorem dX12_read_91 : decode cX12_read 91 = .ok (.iastore, 1) := by decide +kernel
theorem dX12_read_92 : decode cX12_read 92 = .ok (.aload_n 0, 1) := by decide +kernel
theorem dX12_read_93 : decode cX12_read 93 = .ok (.getfield 7, 3) := by decide +kernel
theorem dX12_read_96 : decode cX12_read 96 = .ok (.iload_n 2, 1) := by decide +kernel
theorem dX12_read_97 : decode cX12_read 97 = .ok (.iaload, 1) := by decide +kernel
theorem dX12_read_98 : decode cX12_read 98 = .ok (.ireturn, 1) := by decide +kernel
set_option maxRecDepth 20000 in
theorem ggX12_fill_X12_isLease : GoodIn wsX12_fill wsX12_isLease := goodIn_r _ [14, 15, 16, 17, 13, 18, 88, 89, 90, 91, 92, 93, 94, 95, 96, 97, 98, 99, 100, 101, 102, 103, 104, 105, 106, 107, 108, 109, 110, 111, 112, 113, 114, 115, 116, 117, 118, 119, 120, 121, 122, 123, 124, 125, 126, 127, 128, 129, 130, 131, 132, 133, 134, 135, 136, 137, 138, 139, 140, 141, 142] (by decide +kernel) (by decide +kernel)
set_option maxRecDepth 20000 in
theorem gX12_fill_X12_isLease : GoodIn wsX12_fill (wsV RX12 265 RX12 yX12_isLease wsX12_isLease) := goodIn_app (goodIn_of _ (by decide +kernel)) ggX12_fill_X12_isLease
set_option maxRecDepth 20000 in
theorem ggX12_fill_X12_failsChar : GoodIn wsX12_fill wsX12_failsChar := goodIn_r _ [22, 1, 88, 89, 90, 91, 92, 93, 94, 95, 96, 97, 98, 99, 100, 101, 102, 103, 104, 105, 106, 107, 108, 109, 110, 111, 112, 113, 114, 115, 116, 117, 118, 119, 120, 121, 122, 123, 124, 125, 126, 127, 128, 129, 130, 131, 132, 133, 134, 135, 136, 137, 138, 139, 140, 141, 142] (by decide +kernel) (by decide +kernel)
set_option maxRecDepth 20000 in
theorem gX12_fill_X12_failsChar : GoodIn wsX12_fill (wsV RX12 248 RX12 yX12_failsChar wsX12_failsChar) := goodIn_app (goodIn_of _ (by decide +kernel)) ggX12_fill_X12_failsChar
set_option maxRecDepth 20000 in
theorem ggX12_fill_X12_makesRoom : GoodIn wsX12_fill wsX12_makesRoom := goodIn_ca (goodIn_r _ [26, 27, 28, 29, 30, 31, 32, 33, 13, 34, 35, 36, 37, 38, 39, 40, 41, 42, 43, 44, 45, 46, 47, 48, 49, 50, 51, 52, 53, 54, 55, 56, 57, 58, 59, 60, 61, 62, 63, 64, 65, 66, 67, 68, 69, 70, 71, 72, 73, 74, 75, 76, 77, 78, 88, 89, 90, 91, 92, 93, 94, 95, 96, 97, 98, 99, 100, 101, 102, 103, 104, 105, 106, 107, 108, 109, 110, 111, 112, 113, 114, 115, 116, 117, 118, 119, 120, 121, 122, 123, 124, 125, 126, 127, 128, 129, 130, 131, 132, 133, 134, 135, 136, 137, 138, 139, 140, 141, 142] (by decide +kernel) (by decide +kernel)) (goodIn_sub (fun _ h => List.mem_cons_of_mem _ (List.mem_append_right _ h)) (by decide +kernel))
set_option maxRecDepth 20000 in
theorem gX12_fill_X12_makesRoom : GoodIn wsX12_fill (wsV RX12 234 RX12 yX12_makesRoom wsX12_makesRoom) := goodIn_app (goodIn_of _ (by decide +kernel)) ggX12_fill_X12_makesRoom
set_option maxRecDepth 20000 in
theorem ggX12_fill_X12_comes : GoodIn wsX12_fill wsX12_comes := goodIn_ca (goodIn_r _ [82, 27, 63, 65, 67, 69, 83, 84, 85, 13, 86, 87, 30, 88, 89, 90, 91, 92, 93, 94, 95, 96, 97, 98, 99, 100, 101, 102, 103, 104, 105, 106, 107, 108, 109, 110, 111, 112, 113, 114, 115, 116, 117, 118, 119, 120, 121, 122, 123, 124, 125, 126, 127, 128, 129, 130, 131, 132, 133, 134, 135, 136, 137, 138, 139, 140, 141, 142] (by decide +kernel) (by decide +kernel)) (goodIn_sub (fun _ h => List.mem_cons_of_mem _ (List.mem_append_right _ h)) (by decide +kernel))
set_option maxRecDepth 20000 in
theorem gX12_fill_X12_comes : GoodIn wsX12_fill (wsV RX12 238 RX12 yX12_comes wsX12_comes) := goodIn_app (goodIn_of _ (by decide +kernel)) ggX12_fill_X12_comes
theorem dX12_fill_0 : decode cX12_fill 0 = .ok (.aload_n 0, 1) := by decide +kernel
theorem dX12_fill_1 : decode cX12_fill 1 = .ok (.iconst 0, 1) := by decide +kernel
theorem dX12_fill_2 : decode cX12_fill 2 = .ok (.putfield 129, 3) := by decide +kernel
theorem dX12_fill_5 : decode cX12_fill 5 = .ok (.aload_n 0, 1) := by decide +kernel
theorem dX12_fill_6 : decode cX12_fill 6 = .ok (.iload_n 1, 1) := by decide +kernel
theorem dX12_fill_7 : decode cX12_fill 7 = .ok (.invokevirtual 265, 3) := by decide +kernel
theorem dX12_fill_10 : decode cX12_fill 10 = .ok (.ifCond .ne 9, 3) := by decide +kernel
theorem dX12_fill_13 : decode cX12_fill 13 = .ok (.aload_n 0, 1) := by decide +kernel
theorem dX12_fill_14 : decode cX12_fill 14 = .ok (.iconst 1, 1) := by decide +kernel
theorem dX12_fill_15 : decode cX12_fill 15 = .ok (.invokevirtual 248, 3) := by decide +kernel
theorem dX12_fill_18 : decode cX12_fill 18 = .ok (.ireturn, 1) := by decide +kernel
theorem dX12_fill_19 : decode cX12_fill 19 = .ok (.aload_n 0, 1) := by decide +kernel
theorem dX12_fill_20 : decode cX12_fill 20 = .ok (.getfield 110, 3) := by decide +kernel
theorem dX12_fill_23 : decode cX12_fill 23 = .ok (.iload_n 1, 1) := by decide +kernel
theorem dX12_fill_24 : decode cX12_fill 24 = .ok (.caload, 1) := by decide +kernel
theorem dX12_fill_25 : decode cX12_fill 25 = .ok (.bipush 102, 2) := by decide +kernel
theorem dX12_fill_27 : decode cX12_fill 27 = .ok (.if_icmp .eq 12, 3) := by decide +kernel
theorem dX12_fill_30 : decode cX12_fill 30 = .ok (.aload_n 0, 1) := by decide +kernel
theorem dX12_fill_31 : decode cX12_fill 31 = .ok (.getfield 114, 3) := by decide +kernel
theorem dX12_fill_34 : decode cX12_fill 34 = .ok (.iload_n 1, 1) := by decide +kernel
theorem dX12_fill_35 : decode cX12_fill 35 = .ok (.baload, 1) := by decide +kernel
theorem dX12_fill_36 : decode cX12_fill 36 = .ok (.ifCond .ne 9, 3) := by decide +kernel
theorem dX12_fill_39 : decode cX12_fill 39 = .ok (.aload_n 0, 1) := by decide +kernel
theorem dX12_fill_40 : decode cX12_fill 40 = .ok (.iconst 2, 1) := by decide +kernel
theorem dX12_fill_41 : decode cX12_fill 41 = .ok (.invokevirtual 248, 3) := by decide +kernel
theorem dX12_fill_44 : decode cX12_fill 44 = .ok (.ireturn, 1) := by decide +kernel
theorem dX12_fill_45 : decode cX12_fill 45 = .ok (.aload_n 0, 1) := by decide +kernel
theorem dX12_fill_46 : decode cX12_fill 46 = .ok (.getfield 110, 3) := by decide +kernel
theorem dX12_fill_49 : decode cX12_fill 49 = .ok (.iload_n 1, 1) := by decide +kernel
theorem dX12_fill_50 : decode cX12_fill 50 = .ok (.caload, 1) := by decide +kernel
theorem dX12_fill_51 : decode cX12_fill 51 = .ok (.bipush 120, 2) := by decide +kernel
theorem dX12_fill_53 : decode cX12_fill 53 = .ok (.if_icmp .ne 6, 3) := by decide +kernel
theorem dX12_fill_56 : decode cX12_fill 56 = .ok (.bipush 120, 2) := by decide +kernel
theorem dX12_fill_58 : decode cX12_fill 58 = .ok (.ireturn, 1) := by decide +kernel
theorem dX12_fill_59 : decode cX12_fill 59 = .ok (.aload_n 0, 1) := by decide +kernel
theorem dX12_fill_60 : decode cX12_fill 60 = .ok (.getfield 104, 3) := by decide +kernel
theorem dX12_fill_63 : decode cX12_fill 63 = .ok (.iload_n 1, 1) := by decide +kernel
theorem dX12_fill_64 : decode cX12_fill 64 = .ok (.iaload, 1) := by decide +kernel
theorem dX12_fill_65 : decode cX12_fill 65 = .ok (.istore_n 2, 1) := by decide +kernel
theorem dX12_fill_66 : decode cX12_fill 66 = .ok (.aload_n 0, 1) := by decide +kernel
theorem dX12_fill_67 : decode cX12_fill 67 = .ok (.getfield 110, 3) := by decide +kernel
theorem dX12_fill_70 : decode cX12_fill 70 = .ok (.iload_n 1, 1) := by decide +kernel
theorem dX12_fill_71 : decode cX12_fill 71 = .ok (.bipush 102, 2) := by decide +kernel
theorem dX12_fill_73 : decode cX12_fill 73 = .ok (.castore, 1) := by decide +kernel
theorem dX12_fill_74 : decode cX12_fill 74 = .ok (.aload_n 0, 1) := by decide +kernel
theorem dX12_fill_75 : decode cX12_fill 75 = .ok (.iload_n 2, 1) := by decide +kernel
theorem dX12_fill_76 : decode cX12_fill 76 = .ok (.iconst 0, 1) := by decide +kernel
theorem dX12_fill_77 : decode cX12_fill 77 = .ok (.invokevirtual 234, 3) := by decide +kernel
theorem dX12_fill_80 : decode cX12_fill 80 = .ok (.ifCond .ne 6, 3) := by decide +kernel
theorem dX12_fill_83 : decode cX12_fill 83 = .ok (.bipush 110, 2) := by decide +kernel
theorem dX12_fill_85 : decode cX12_fill 85 = .ok (.ireturn, 1) := by decide +kernel
theorem dX12_fill_86 : decode cX12_fill 86 = .ok (.aload_n 0, 1) := by decide +kernel
theorem dX12_fill_87 : decode cX12_fill 87 = .ok (.iload_n 2, 1) := by decide +kernel
theorem dX12_fill_88 : decode cX12_fill 88 = .ok (.aload_n 0, 1) := by decide +kernel
theorem dX12_fill_89 : decode cX12_fill 89 = .ok (.getfield 117, 3) := by decide +kernel
theorem dX12_fill_92 : decode cX12_fill 92 = .ok (.iload_n 1, 1) := by decide +kernel
theorem dX12_fill_93 : decode cX12_fill 93 = .ok (.iaload, 1) := by decide +kernel
theorem dX12_fill_94 : decode cX12_fill 94 = .ok (.aload_n 0, 1) := by decide +kernel
theorem dX12_fill_95 : decode cX12_fill 95 = .ok (.getfield 120, 3) := by decide +kernel
theorem dX12_fill_98 : decode cX12_fill 98 = .ok (.iload_n 1, 1) := by decide +kernel
