set_option maxRecDepth 40000 in
theorem memC {big l : List Cond} {a : Cond} (h : a ∈ big) (t : ∀ w ∈ l, w ∈ big) : ∀ w ∈ a :: l, w ∈ big := List.forall_mem_cons.mpr ⟨h, t⟩
set_option maxRecDepth 40000 in
theorem memA {big l1 l2 : List Cond} (h : ∀ w ∈ l1, w ∈ big) (t : ∀ w ∈ l2, w ∈ big) : ∀ w ∈ l1 ++ l2, w ∈ big := List.forall_mem_append.mpr ⟨h, t⟩
set_option maxRecDepth 40000 in
theorem memN {big : List Cond} : ∀ w ∈ ([] : List Cond), w ∈ big := List.forall_mem_nil _
set_option maxRecDepth 40000 in
theorem tc_1 : ∀ w ∈ tables_1_1, w ∈ lw_tbl := fun w h => List.mem_append_right _ (List.mem_append_left _ h)
set_option maxRecDepth 40000 in
theorem tc_2 : ∀ w ∈ tables_1_2, w ∈ lw_tbl := fun w h => List.mem_append_right _ (List.mem_append_right _ (List.mem_append_left _ h))
set_option maxRecDepth 40000 in
theorem tc_3 : ∀ w ∈ tables_1_3, w ∈ lw_tbl := fun w h => List.mem_append_right _ (List.mem_append_right _ (List.mem_append_right _ (List.mem_append_left _ h)))
set_option maxRecDepth 40000 in
theorem tc_4 : ∀ w ∈ tables_1_4, w ∈ lw_tbl := fun w h => List.mem_append_right _ (List.mem_append_right _ (List.mem_append_right _ (List.mem_append_right _ (List.mem_append_left _ h))))
set_option maxRecDepth 40000 in
theorem tc_5 : ∀ w ∈ tables_1_5, w ∈ lw_tbl := fun w h => List.mem_append_right _ (List.mem_append_right _ (List.mem_append_right _ (List.mem_append_right _ (List.mem_append_right _ (List.mem_append_left _ h)))))
set_option maxRecDepth 40000 in
theorem tc_6 : ∀ w ∈ tables_1_6, w ∈ lw_tbl := fun w h => List.mem_append_right _ (List.mem_append_right _ (List.mem_append_right _ (List.mem_append_right _ (List.mem_append_right _ (List.mem_append_right _ (List.mem_append_left _ h))))))
set_option maxRecDepth 40000 in
theorem tc_7 : ∀ w ∈ tables_1_7, w ∈ lw_tbl := fun w h => List.mem_append_right _ (List.mem_append_right _ (List.mem_append_right _ (List.mem_append_right _ (List.mem_append_right _ (List.mem_append_right _ (List.mem_append_right _ h))))))
set_option maxRecDepth 40000 in
theorem tw_1 : (.selects RX11 yX11_requireUp yX11_requireUp : Cond) ∈ lw_tbl := List.mem_of_getElem? (i := 1) (by decide +kernel)
set_option maxRecDepth 40000 in
theorem tw_2 : (.selects RX11 yX11_isKept yX11_isKept : Cond) ∈ lw_tbl := List.mem_of_getElem? (i := 2) (by decide +kernel)
set_option maxRecDepth 40000 in
theorem tw_3 : (.selects RX11 yX11_goodSource yX11_goodSource : Cond) ∈ lw_tbl := List.mem_of_getElem? (i := 3) (by decide +kernel)
set_option maxRecDepth 40000 in
theorem tw_4 : (.selects RX11 yX11_isFresh yX11_isFresh : Cond) ∈ lw_tbl := List.mem_of_getElem? (i := 4) (by decide +kernel)
set_option maxRecDepth 40000 in
theorem tw_5 : (.selects RX11 yX11_answer yX11_answer : Cond) ∈ lw_tbl := List.mem_of_getElem? (i := 5) (by decide +kernel)
set_option maxRecDepth 40000 in
theorem tw_6 : (.selects RX11 yX11_comeIfWorthIt yX11_comeIfWorthIt : Cond) ∈ lw_tbl := List.mem_of_getElem? (i := 6) (by decide +kernel)
set_option maxRecDepth 40000 in
theorem tw_7 : (.selects RX11 yX11_chooseLeavers yX11_chooseLeavers : Cond) ∈ lw_tbl := List.mem_of_getElem? (i := 7) (by decide +kernel)
set_option maxRecDepth 40000 in
theorem tw_8 : (.selects RX11 yX11_worth yX11_worth : Cond) ∈ lw_tbl := List.mem_of_getElem? (i := 8) (by decide +kernel)
set_option maxRecDepth 40000 in
theorem tw_9 : (.selects RX11 yX11_nextLeaver yX11_nextLeaver : Cond) ∈ lw_tbl := List.mem_of_getElem? (i := 9) (by decide +kernel)
set_option maxRecDepth 40000 in
theorem tw_10 : (.selects RX11 yX11_leavesBefore yX11_leavesBefore : Cond) ∈ lw_tbl := List.mem_of_getElem? (i := 10) (by decide +kernel)
set_option maxRecDepth 40000 in
theorem tw_11 : (.selects RX11 yX11_come yX11_come : Cond) ∈ lw_tbl := List.mem_of_getElem? (i := 11) (by decide +kernel)
set_option maxRecDepth 40000 in
theorem tw_12 : (.selects RX11 yX11_requireAnswer yX11_requireAnswer : Cond) ∈ lw_tbl := List.mem_of_getElem? (i := 12) (by decide +kernel)
set_option maxRecDepth 40000 in
theorem tw_13 : (.selects RX11 yX11_requireLease yX11_requireLease : Cond) ∈ lw_tbl := List.mem_of_getElem? (i := 13) (by decide +kernel)
set_option maxRecDepth 40000 in
theorem tw_14 : (.selects RX11 yX11_writeThrough yX11_writeThrough : Cond) ∈ lw_tbl := List.mem_of_getElem? (i := 14) (by decide +kernel)
set_option maxRecDepth 40000 in
theorem tw_15 : (.selects RX11 yX11_writeStore yX11_writeStore : Cond) ∈ lw_tbl := List.mem_of_getElem? (i := 15) (by decide +kernel)
set_option maxRecDepth 40000 in
theorem tw_16 : (.selects RX11 yX11_writeBehind yX11_writeBehind : Cond) ∈ lw_tbl := List.mem_of_getElem? (i := 16) (by decide +kernel)
set_option maxRecDepth 40000 in
theorem tw_17 : (.selects RX11 yX11_keepPromise yX11_keepPromise : Cond) ∈ lw_tbl := List.mem_of_getElem? (i := 17) (by decide +kernel)
set_option maxRecDepth 40000 in
theorem tw_18 : (.selects RX11 yX11_keepPromises yX11_keepPromises : Cond) ∈ lw_tbl := List.mem_of_getElem? (i := 18) (by decide +kernel)
set_option maxRecDepth 40000 in
theorem tw_19 : (.selects RX11 yX11_comeAgain yX11_comeAgain : Cond) ∈ lw_tbl := List.mem_of_getElem? (i := 19) (by decide +kernel)
set_option maxRecDepth 40000 in
theorem tw_20 : (.selects RX11 yX11_nextToComeAgain yX11_nextToComeAgain : Cond) ∈ lw_tbl := List.mem_of_getElem? (i := 20) (by decide +kernel)
set_option maxRecDepth 40000 in
theorem tw_21 : (.selects RX11 yX11_comesAgainBefore yX11_comesAgainBefore : Cond) ∈ lw_tbl := List.mem_of_getElem? (i := 21) (by decide +kernel)
set_option maxRecDepth 40000 in
theorem tw_22 : (.selects RX12 yX12_fails yX12_fails : Cond) ∈ lw_tbl := List.mem_of_getElem? (i := 22) (by decide +kernel)
set_option maxRecDepth 40000 in
theorem tw_23 : (.selects RX12 yX12_hasLease yX12_hasLease : Cond) ∈ lw_tbl := List.mem_of_getElem? (i := 23) (by decide +kernel)
set_option maxRecDepth 40000 in
theorem tw_24 : (.selects RX12 yX12_failsChar yX12_failsChar : Cond) ∈ lw_tbl := List.mem_of_getElem? (i := 24) (by decide +kernel)
set_option maxRecDepth 40000 in
theorem tw_25 : (.selects RX12 yX12_isGoodIn yX12_isGoodIn : Cond) ∈ lw_tbl := List.mem_of_getElem? (i := 25) (by decide +kernel)
set_option maxRecDepth 40000 in
theorem tw_26 : (.selects RX12 yX12_isGoodSlot yX12_isGoodSlot : Cond) ∈ lw_tbl := List.mem_of_getElem? (i := 26) (by decide +kernel)
set_option maxRecDepth 40000 in
theorem tw_27 : (.selects RX12 yX12_answers yX12_answers : Cond) ∈ lw_tbl := List.mem_of_getElem? (i := 27) (by decide +kernel)
set_option maxRecDepth 40000 in
theorem tw_28 : (.selects RX12 yX12_staleBy yX12_staleBy : Cond) ∈ lw_tbl := List.mem_of_getElem? (i := 28) (by decide +kernel)
set_option maxRecDepth 40000 in
theorem tw_29 : (.selects RX12 yX12_uses yX12_uses : Cond) ∈ lw_tbl := List.mem_of_getElem? (i := 29) (by decide +kernel)
set_option maxRecDepth 40000 in
theorem tw_30 : (.selects RX12 yX12_counts yX12_counts : Cond) ∈ lw_tbl := List.mem_of_getElem? (i := 30) (by decide +kernel)
set_option maxRecDepth 40000 in
theorem tw_31 : (.selects RX12 yX12_estimateOf yX12_estimateOf : Cond) ∈ lw_tbl := List.mem_of_getElem? (i := 31) (by decide +kernel)
set_option maxRecDepth 40000 in
theorem tw_32 : (.selects RX12 yX12_answersFlash yX12_answersFlash : Cond) ∈ lw_tbl := List.mem_of_getElem? (i := 32) (by decide +kernel)
set_option maxRecDepth 40000 in
theorem tw_33 : (.selects RX12 yX12_makesRoom yX12_makesRoom : Cond) ∈ lw_tbl := List.mem_of_getElem? (i := 33) (by decide +kernel)
set_option maxRecDepth 40000 in
theorem tw_34 : (.selects RX12 yX12_usedNow yX12_usedNow : Cond) ∈ lw_tbl := List.mem_of_getElem? (i := 34) (by decide +kernel)
set_option maxRecDepth 40000 in
theorem tw_35 : (.selects RX12 yX12_victim yX12_victim : Cond) ∈ lw_tbl := List.mem_of_getElem? (i := 35) (by decide +kernel)
set_option maxRecDepth 40000 in
theorem tw_36 : (.selects RX12 yX12_worth yX12_worth : Cond) ∈ lw_tbl := List.mem_of_getElem? (i := 36) (by decide +kernel)
set_option maxRecDepth 40000 in
theorem tw_37 : (.selects RX12 yX12_toFlash yX12_toFlash : Cond) ∈ lw_tbl := List.mem_of_getElem? (i := 37) (by decide +kernel)
set_option maxRecDepth 40000 in
theorem tw_38 : (.selects RX12 yX12_nextPlace yX12_nextPlace : Cond) ∈ lw_tbl := List.mem_of_getElem? (i := 38) (by decide +kernel)
set_option maxRecDepth 40000 in
theorem tw_39 : (.selects RX12 yX12_comes yX12_comes : Cond) ∈ lw_tbl := List.mem_of_getElem? (i := 39) (by decide +kernel)
set_option maxRecDepth 40000 in
theorem tw_40 : (.selects RX12 yX12_takesOut yX12_takesOut : Cond) ∈ lw_tbl := List.mem_of_getElem? (i := 40) (by decide +kernel)
set_option maxRecDepth 40000 in
theorem tw_41 : (.selects RX12 yX12_isLease yX12_isLease : Cond) ∈ lw_tbl := List.mem_of_getElem? (i := 41) (by decide +kernel)
set_option maxRecDepth 40000 in
theorem tw_42 : (.selects RX12 yX12_promiseCount yX12_promiseCount : Cond) ∈ lw_tbl := List.mem_of_getElem? (i := 42) (by decide +kernel)
set_option maxRecDepth 40000 in
theorem tw_43 : (.selects RX12 yX12_canCome yX12_canCome : Cond) ∈ lw_tbl := List.mem_of_getElem? (i := 43) (by decide +kernel)
set_option maxRecDepth 40000 in
theorem tw_44 : (.selects RX12 yX12_voids yX12_voids : Cond) ∈ lw_tbl := List.mem_of_getElem? (i := 44) (by decide +kernel)
set_option maxRecDepth 40000 in
theorem tw_45 : (.selects RX12 yX12_stores yX12_stores : Cond) ∈ lw_tbl := List.mem_of_getElem? (i := 45) (by decide +kernel)
set_option maxRecDepth 40000 in
theorem tw_46 : (.selects RX12 yX12_keepsPromise yX12_keepsPromise : Cond) ∈ lw_tbl := List.mem_of_getElem? (i := 46) (by decide +kernel)
set_option maxRecDepth 40000 in
theorem tw_47 : (.selects RX12 yX12_nextTurn yX12_nextTurn : Cond) ∈ lw_tbl := List.mem_of_getElem? (i := 47) (by decide +kernel)
set_option maxRecDepth 40000 in
theorem tw_48 : (.selects RX12 yX12_nextBack yX12_nextBack : Cond) ∈ lw_tbl := List.mem_of_getElem? (i := 48) (by decide +kernel)
set_option maxRecDepth 40000 in
theorem tw_49 : (.selects RX12 yX12_underWay yX12_underWay : Cond) ∈ lw_tbl := List.mem_of_getElem? (i := 49) (by decide +kernel)
set_option maxRecDepth 40000 in
theorem tw_50 : (.initialized RL : Cond) ∈ lw_tbl := tc_1 _ (List.mem_of_getElem? (i := 0) (by decide +kernel))
set_option maxRecDepth 40000 in
theorem tw_51 : (.initialized RX11 : Cond) ∈ lw_tbl := tc_1 _ (List.mem_of_getElem? (i := 1) (by decide +kernel))
set_option maxRecDepth 40000 in
theorem tw_52 : (.initialized RX4 : Cond) ∈ lw_tbl := tc_1 _ (List.mem_of_getElem? (i := 2) (by decide +kernel))
set_option maxRecDepth 40000 in
theorem tw_53 : (.initialized RX10 : Cond) ∈ lw_tbl := tc_1 _ (List.mem_of_getElem? (i := 3) (by decide +kernel))
set_option maxRecDepth 40000 in
theorem tw_54 : (.initialized RX7 : Cond) ∈ lw_tbl := tc_1 _ (List.mem_of_getElem? (i := 4) (by decide +kernel))
set_option maxRecDepth 40000 in
theorem tw_55 : (.initialized RX9 : Cond) ∈ lw_tbl := tc_1 _ (List.mem_of_getElem? (i := 5) (by decide +kernel))
set_option maxRecDepth 40000 in
theorem tw_56 : (.initialized RX6 : Cond) ∈ lw_tbl := tc_1 _ (List.mem_of_getElem? (i := 6) (by decide +kernel))
set_option maxRecDepth 40000 in
theorem tw_57 : (.initialized RX2 : Cond) ∈ lw_tbl := tc_1 _ (List.mem_of_getElem? (i := 7) (by decide +kernel))
set_option maxRecDepth 40000 in
theorem tw_58 : (.initialized RX3 : Cond) ∈ lw_tbl := tc_1 _ (List.mem_of_getElem? (i := 8) (by decide +kernel))
set_option maxRecDepth 40000 in
theorem tw_59 : (.initialized RX8 : Cond) ∈ lw_tbl := tc_1 _ (List.mem_of_getElem? (i := 9) (by decide +kernel))
set_option maxRecDepth 40000 in
theorem tw_60 : (.initialized RX5 : Cond) ∈ lw_tbl := tc_1 _ (List.mem_of_getElem? (i := 10) (by decide +kernel))
set_option maxRecDepth 40000 in
theorem tw_61 : (.initialized RX0 : Cond) ∈ lw_tbl := tc_1 _ (List.mem_of_getElem? (i := 11) (by decide +kernel))
set_option maxRecDepth 40000 in
theorem tw_62 : (.initialized RX1 : Cond) ∈ lw_tbl := tc_1 _ (List.mem_of_getElem? (i := 12) (by decide +kernel))
set_option maxRecDepth 40000 in
theorem tw_63 : (.initialized RX12 : Cond) ∈ lw_tbl := tc_1 _ (List.mem_of_getElem? (i := 13) (by decide +kernel))
set_option maxRecDepth 40000 in
theorem tw_67 : (.initialized "java/lang/IndexOutOfBoundsException" : Cond) ∈ lw_tbl := tc_1 _ (List.mem_of_getElem? (i := 17) (by decide +kernel))
set_option maxRecDepth 40000 in
theorem tw_70 : (.initialized "java/lang/IllegalArgumentException" : Cond) ∈ lw_tbl := tc_1 _ (List.mem_of_getElem? (i := 20) (by decide +kernel))
set_option maxRecDepth 40000 in
theorem tw_71 : (.initialized "java/lang/IllegalStateException" : Cond) ∈ lw_tbl := tc_1 _ (List.mem_of_getElem? (i := 21) (by decide +kernel))
set_option maxRecDepth 40000 in
theorem tw_72 : (.initialized "java/lang/UnsupportedOperationException" : Cond) ∈ lw_tbl := tc_1 _ (List.mem_of_getElem? (i := 22) (by decide +kernel))
set_option maxRecDepth 40000 in
theorem tw_73 : (.initialized "java/lang/Math" : Cond) ∈ lw_tbl := tc_1 _ (List.mem_of_getElem? (i := 23) (by decide +kernel))
set_option maxRecDepth 40000 in
theorem tw_74 : (.initialized "java/util/NoSuchElementException" : Cond) ∈ lw_tbl := tc_1 _ (List.mem_of_getElem? (i := 24) (by decide +kernel))
set_option maxRecDepth 40000 in
theorem tw_75 : (.initialized "java/lang/ArithmeticException" : Cond) ∈ lw_tbl := tc_1 _ (List.mem_of_getElem? (i := 25) (by decide +kernel))
set_option maxRecDepth 40000 in
theorem tw_76 : (.classLink RL 8 RX11 : Cond) ∈ lw_tbl := tc_1 _ (List.mem_of_getElem? (i := 26) (by decide +kernel))
set_option maxRecDepth 40000 in
theorem tw_77 : (.instantiable RX11 13 : Cond) ∈ lw_tbl := tc_1 _ (List.mem_of_getElem? (i := 27) (by decide +kernel))
set_option maxRecDepth 40000 in
theorem tw_78 : (.methodLink RL 106 yX11_init : Cond) ∈ lw_tbl := tc_1 _ (List.mem_of_getElem? (i := 28) (by decide +kernel))
set_option maxRecDepth 40000 in
theorem tw_79 : (.instanceMethod yX11_init : Cond) ∈ lw_tbl := tc_1 _ (List.mem_of_getElem? (i := 29) (by decide +kernel))
set_option maxRecDepth 40000 in
theorem tw_80 : (.code yX11_init cX11_init 1 none : Cond) ∈ lw_tbl := tc_1 _ (List.mem_of_getElem? (i := 30) (by decide +kernel))
set_option maxRecDepth 40000 in
theorem tw_81 : (.methodLink RX11 3 objectInit : Cond) ∈ lw_tbl := tc_1 _ (List.mem_of_getElem? (i := 31) (by decide +kernel))
set_option maxRecDepth 40000 in
theorem tw_82 : (.instanceMethod objectInit : Cond) ∈ lw_tbl := tc_1 _ (List.mem_of_getElem? (i := 32) (by decide +kernel))
set_option maxRecDepth 40000 in
theorem tw_83 : (.code objectInit ⟨#[0xb1]⟩ 1 none : Cond) ∈ lw_tbl := tc_1 _ (List.mem_of_getElem? (i := 33) (by decide +kernel))
set_option maxRecDepth 40000 in
theorem tw_84 : (.classLink RX11 9 RX4 : Cond) ∈ lw_tbl := tc_1 _ (List.mem_of_getElem? (i := 34) (by decide +kernel))
set_option maxRecDepth 40000 in
theorem tw_85 : (.instantiable RX4 4 : Cond) ∈ lw_tbl := tc_1 _ (List.mem_of_getElem? (i := 35) (by decide +kernel))
set_option maxRecDepth 40000 in
theorem tw_86 : (.methodLink RX11 11 yX4_init : Cond) ∈ lw_tbl := tc_1 _ (List.mem_of_getElem? (i := 36) (by decide +kernel))
set_option maxRecDepth 40000 in
theorem tw_87 : (.instanceMethod yX4_init : Cond) ∈ lw_tbl := tc_1 _ (List.mem_of_getElem? (i := 37) (by decide +kernel))
set_option maxRecDepth 40000 in
theorem tw_88 : (.code yX4_init cX4_init 2 none : Cond) ∈ lw_tbl := tc_1 _ (List.mem_of_getElem? (i := 38) (by decide +kernel))
set_option maxRecDepth 40000 in
theorem tw_89 : (.methodLink RX4 3 objectInit : Cond) ∈ lw_tbl := tc_1 _ (List.mem_of_getElem? (i := 39) (by decide +kernel))
set_option maxRecDepth 40000 in
theorem tw_90 : (.fieldLink RX4 9 "SlipstreamCache$Keys" "sizes" "[I" : Cond) ∈ lw_tbl := tc_1 _ (List.mem_of_getElem? (i := 40) (by decide +kernel))
set_option maxRecDepth 40000 in
theorem tw_91 : (.fieldLink RX11 125 "SlipstreamCache$Keys" "sizes" "[I" : Cond) ∈ lw_tbl := tc_1 _ (List.mem_of_getElem? (i := 41) (by decide +kernel))
set_option maxRecDepth 40000 in
theorem tw_92 : (.fieldLink RX4 15 "SlipstreamCache$Keys" "costs" "[I" : Cond) ∈ lw_tbl := tc_1 _ (List.mem_of_getElem? (i := 42) (by decide +kernel))
set_option maxRecDepth 40000 in
theorem tw_93 : (.fieldLink RX11 128 "SlipstreamCache$Keys" "costs" "[I" : Cond) ∈ lw_tbl := tc_1 _ (List.mem_of_getElem? (i := 43) (by decide +kernel))
set_option maxRecDepth 40000 in
theorem tw_94 : (.fieldLink RX8 35 "SlipstreamCache$Keys" "costs" "[I" : Cond) ∈ lw_tbl := tc_1 _ (List.mem_of_getElem? (i := 44) (by decide +kernel))
set_option maxRecDepth 40000 in
theorem tw_95 : (.fieldLink RX4 18 "SlipstreamCache$Keys" "groups" "[I" : Cond) ∈ lw_tbl := tc_1 _ (List.mem_of_getElem? (i := 45) (by decide +kernel))
set_option maxRecDepth 40000 in
theorem tw_96 : (.fieldLink RX11 121 "SlipstreamCache$Keys" "groups" "[I" : Cond) ∈ lw_tbl := tc_1 _ (List.mem_of_getElem? (i := 46) (by decide +kernel))
set_option maxRecDepth 40000 in
theorem tw_97 : (.fieldLink RX8 26 "SlipstreamCache$Keys" "groups" "[I" : Cond) ∈ lw_tbl := tc_1 _ (List.mem_of_getElem? (i := 47) (by decide +kernel))
set_option maxRecDepth 40000 in
theorem tw_98 : (.fieldLink RX4 21 "SlipstreamCache$Keys" "numbers" "[I" : Cond) ∈ lw_tbl := tc_1 _ (List.mem_of_getElem? (i := 48) (by decide +kernel))
set_option maxRecDepth 40000 in
theorem tw_99 : (.fieldLink RX11 261 "SlipstreamCache$Keys" "numbers" "[I" : Cond) ∈ lw_tbl := tc_1 _ (List.mem_of_getElem? (i := 49) (by decide +kernel))
set_option maxRecDepth 40000 in
theorem tw_109 : (.arrayClass .int : Cond) ∈ lw_tbl := tc_1 _ (List.mem_of_getElem? (i := 59) (by decide +kernel))
set_option maxRecDepth 40000 in
theorem tw_110 : (.classLink RX11 16 RX10 : Cond) ∈ lw_tbl := tc_1 _ (List.mem_of_getElem? (i := 60) (by decide +kernel))
set_option maxRecDepth 40000 in
theorem tw_111 : (.instantiable RX10 6 : Cond) ∈ lw_tbl := tc_1 _ (List.mem_of_getElem? (i := 61) (by decide +kernel))
set_option maxRecDepth 40000 in
theorem tw_113 : (.instanceMethod yX10_init : Cond) ∈ lw_tbl := tc_1 _ (List.mem_of_getElem? (i := 63) (by decide +kernel))
set_option maxRecDepth 40000 in
theorem tw_114 : (.code yX10_init cX10_init 1 none : Cond) ∈ lw_tbl := tc_1 _ (List.mem_of_getElem? (i := 64) (by decide +kernel))
set_option maxRecDepth 40000 in
theorem tw_115 : (.methodLink RX10 3 objectInit : Cond) ∈ lw_tbl := tc_1 _ (List.mem_of_getElem? (i := 65) (by decide +kernel))
set_option maxRecDepth 40000 in
theorem tw_116 : (.fieldLink RX10 9 "SlipstreamCache$Store" "values" "[I" : Cond) ∈ lw_tbl := tc_1 _ (List.mem_of_getElem? (i := 66) (by decide +kernel))
set_option maxRecDepth 40000 in
theorem tw_117 : (.fieldLink RX11 177 "SlipstreamCache$Store" "values" "[I" : Cond) ∈ lw_tbl := tc_1 _ (List.mem_of_getElem? (i := 67) (by decide +kernel))
set_option maxRecDepth 40000 in
theorem tw_118 : (.fieldLink RX10 15 "SlipstreamCache$Store" "versions" "[I" : Cond) ∈ lw_tbl := tc_1 _ (List.mem_of_getElem? (i := 68) (by decide +kernel))
set_option maxRecDepth 40000 in
theorem tw_119 : (.fieldLink RX11 187 "SlipstreamCache$Store" "versions" "[I" : Cond) ∈ lw_tbl := tc_1 _ (List.mem_of_getElem? (i := 69) (by decide +kernel))
set_option maxRecDepth 40000 in
theorem tw_120 : (.fieldLink RX10 18 "SlipstreamCache$Store" "logKeys" "[I" : Cond) ∈ lw_tbl := tc_1 _ (List.mem_of_getElem? (i := 70) (by decide +kernel))
set_option maxRecDepth 40000 in
theorem tw_121 : (.fieldLink RX10 21 "SlipstreamCache$Store" "logVersions" "[I" : Cond) ∈ lw_tbl := tc_1 _ (List.mem_of_getElem? (i := 71) (by decide +kernel))
set_option maxRecDepth 40000 in
theorem tw_122 : (.fieldLink RX10 24 "SlipstreamCache$Store" "logMinutes" "[I" : Cond) ∈ lw_tbl := tc_1 _ (List.mem_of_getElem? (i := 72) (by decide +kernel))
set_option maxRecDepth 40000 in
theorem tw_123 : (.fieldLink RX10 27 "SlipstreamCache$Store" "logged" "I" : Cond) ∈ lw_tbl := tc_1 _ (List.mem_of_getElem? (i := 73) (by decide +kernel))
set_option maxRecDepth 40000 in
theorem tw_124 : (.fieldLink RX11 216 "SlipstreamCache$Store" "logged" "I" : Cond) ∈ lw_tbl := tc_1 _ (List.mem_of_getElem? (i := 74) (by decide +kernel))
set_option maxRecDepth 40000 in
theorem tw_138 : (.classLink RX11 23 RX7 : Cond) ∈ lw_tbl := tc_1 _ (List.mem_of_getElem? (i := 88) (by decide +kernel))
set_option maxRecDepth 40000 in
theorem tw_139 : (.instantiable RX7 6 : Cond) ∈ lw_tbl := tc_1 _ (List.mem_of_getElem? (i := 89) (by decide +kernel))
set_option maxRecDepth 40000 in
theorem tw_141 : (.instanceMethod yX7_init : Cond) ∈ lw_tbl := tc_1 _ (List.mem_of_getElem? (i := 91) (by decide +kernel))
set_option maxRecDepth 40000 in
theorem tw_142 : (.code yX7_init cX7_init 1 none : Cond) ∈ lw_tbl := tc_1 _ (List.mem_of_getElem? (i := 92) (by decide +kernel))
set_option maxRecDepth 40000 in
theorem tw_143 : (.methodLink RX7 3 objectInit : Cond) ∈ lw_tbl := tc_1 _ (List.mem_of_getElem? (i := 93) (by decide +kernel))
set_option maxRecDepth 40000 in
theorem tw_144 : (.fieldLink RX7 9 "SlipstreamCache$Mirror" "values" "[I" : Cond) ∈ lw_tbl := tc_1 _ (List.mem_of_getElem? (i := 94) (by decide +kernel))
set_option maxRecDepth 40000 in
theorem tw_145 : (.fieldLink RX11 332 "SlipstreamCache$Mirror" "values" "[I" : Cond) ∈ lw_tbl := tc_1 _ (List.mem_of_getElem? (i := 95) (by decide +kernel))
set_option maxRecDepth 40000 in
theorem tw_146 : (.fieldLink RX7 15 "SlipstreamCache$Mirror" "versions" "[I" : Cond) ∈ lw_tbl := tc_1 _ (List.mem_of_getElem? (i := 96) (by decide +kernel))
set_option maxRecDepth 40000 in
theorem tw_147 : (.fieldLink RX7 18 "SlipstreamCache$Mirror" "sentKeys" "[I" : Cond) ∈ lw_tbl := tc_1 _ (List.mem_of_getElem? (i := 97) (by decide +kernel))
set_option maxRecDepth 40000 in
theorem tw_148 : (.fieldLink RX7 21 "SlipstreamCache$Mirror" "sentVersions" "[I" : Cond) ∈ lw_tbl := tc_1 _ (List.mem_of_getElem? (i := 98) (by decide +kernel))
set_option maxRecDepth 40000 in
theorem tw_149 : (.fieldLink RX7 24 "SlipstreamCache$Mirror" "sentValues" "[I" : Cond) ∈ lw_tbl := tc_1 _ (List.mem_of_getElem? (i := 99) (by decide +kernel))
set_option maxRecDepth 40000 in
theorem tw_150 : (.fieldLink RX7 27 "SlipstreamCache$Mirror" "count" "I" : Cond) ∈ lw_tbl := tc_1 _ (List.mem_of_getElem? (i := 100) (by decide +kernel))
set_option maxRecDepth 40000 in
theorem tw_151 : (.fieldLink RX11 326 "SlipstreamCache$Mirror" "count" "I" : Cond) ∈ lw_tbl := tc_1 _ (List.mem_of_getElem? (i := 101) (by decide +kernel))
set_option maxRecDepth 40000 in
theorem tw_165 : (.classLink RX11 30 RX9 : Cond) ∈ lw_tbl := tc_1 _ (List.mem_of_getElem? (i := 115) (by decide +kernel))
set_option maxRecDepth 40000 in
theorem tw_166 : (.instantiable RX9 2 : Cond) ∈ lw_tbl := tc_1 _ (List.mem_of_getElem? (i := 116) (by decide +kernel))
set_option maxRecDepth 40000 in
theorem tw_168 : (.instanceMethod yX9_init : Cond) ∈ lw_tbl := tc_1 _ (List.mem_of_getElem? (i := 118) (by decide +kernel))
set_option maxRecDepth 40000 in
theorem tw_169 : (.code yX9_init cX9_init 1 none : Cond) ∈ lw_tbl := tc_1 _ (List.mem_of_getElem? (i := 119) (by decide +kernel))
set_option maxRecDepth 40000 in
theorem tw_170 : (.methodLink RX9 3 objectInit : Cond) ∈ lw_tbl := tc_1 _ (List.mem_of_getElem? (i := 120) (by decide +kernel))
set_option maxRecDepth 40000 in
theorem tw_171 : (.fieldLink RX9 9 "SlipstreamCache$Sketch" "counters" "[I" : Cond) ∈ lw_tbl := tc_1 _ (List.mem_of_getElem? (i := 121) (by decide +kernel))
set_option maxRecDepth 40000 in
theorem tw_172 : (.fieldLink RX9 15 "SlipstreamCache$Sketch" "counted" "I" : Cond) ∈ lw_tbl := tc_1 _ (List.mem_of_getElem? (i := 122) (by decide +kernel))
set_option maxRecDepth 40000 in
theorem tw_178 : (.classLink RX11 37 RX6 : Cond) ∈ lw_tbl := tc_1 _ (List.mem_of_getElem? (i := 128) (by decide +kernel))
set_option maxRecDepth 40000 in
theorem tw_179 : (.instantiable RX6 5 : Cond) ∈ lw_tbl := tc_1 _ (List.mem_of_getElem? (i := 129) (by decide +kernel))
set_option maxRecDepth 40000 in
theorem tw_181 : (.instanceMethod yX6_init : Cond) ∈ lw_tbl := tc_1 _ (List.mem_of_getElem? (i := 131) (by decide +kernel))
set_option maxRecDepth 40000 in
theorem tw_182 : (.code yX6_init cX6_init 1 none : Cond) ∈ lw_tbl := tc_1 _ (List.mem_of_getElem? (i := 132) (by decide +kernel))
set_option maxRecDepth 40000 in
theorem tw_183 : (.methodLink RX6 3 objectInit : Cond) ∈ lw_tbl := tc_1 _ (List.mem_of_getElem? (i := 133) (by decide +kernel))
set_option maxRecDepth 40000 in
theorem tw_184 : (.classLink RX6 9 RX2 : Cond) ∈ lw_tbl := tc_1 _ (List.mem_of_getElem? (i := 134) (by decide +kernel))
set_option maxRecDepth 40000 in
theorem tw_185 : (.instantiable RX2 4 : Cond) ∈ lw_tbl := tc_1 _ (List.mem_of_getElem? (i := 135) (by decide +kernel))
set_option maxRecDepth 40000 in
theorem tw_186 : (.methodLink RX6 11 yX2_init : Cond) ∈ lw_tbl := tc_1 _ (List.mem_of_getElem? (i := 136) (by decide +kernel))
set_option maxRecDepth 40000 in
theorem tw_187 : (.instanceMethod yX2_init : Cond) ∈ lw_tbl := tc_1 _ (List.mem_of_getElem? (i := 137) (by decide +kernel))
set_option maxRecDepth 40000 in
theorem tw_188 : (.code yX2_init cX2_init 3 none : Cond) ∈ lw_tbl := tc_1 _ (List.mem_of_getElem? (i := 138) (by decide +kernel))
set_option maxRecDepth 40000 in
theorem tw_189 : (.methodLink RX2 1 objectInit : Cond) ∈ lw_tbl := tc_1 _ (List.mem_of_getElem? (i := 139) (by decide +kernel))
set_option maxRecDepth 40000 in
theorem tw_190 : (.fieldLink RX2 7 "SlipstreamCache$Copies" "values" "[I" : Cond) ∈ lw_tbl := tc_1 _ (List.mem_of_getElem? (i := 140) (by decide +kernel))
set_option maxRecDepth 40000 in
theorem tw_191 : (.fieldLink RX11 382 "SlipstreamCache$Copies" "values" "[I" : Cond) ∈ lw_tbl := tc_1 _ (List.mem_of_getElem? (i := 141) (by decide +kernel))
set_option maxRecDepth 40000 in
theorem tw_192 : (.fieldLink RX2 13 "SlipstreamCache$Copies" "versions" "[I" : Cond) ∈ lw_tbl := tc_1 _ (List.mem_of_getElem? (i := 142) (by decide +kernel))
set_option maxRecDepth 40000 in
theorem tw_193 : (.fieldLink RX11 307 "SlipstreamCache$Copies" "versions" "[I" : Cond) ∈ lw_tbl := tc_1 _ (List.mem_of_getElem? (i := 143) (by decide +kernel))
set_option maxRecDepth 40000 in
theorem tw_194 : (.fieldLink RX2 16 "SlipstreamCache$Copies" "minutes" "[I" : Cond) ∈ lw_tbl := tc_1 _ (List.mem_of_getElem? (i := 144) (by decide +kernel))
set_option maxRecDepth 40000 in
theorem tw_195 : (.fieldLink RX11 375 "SlipstreamCache$Copies" "minutes" "[I" : Cond) ∈ lw_tbl := tc_1 _ (List.mem_of_getElem? (i := 145) (by decide +kernel))
set_option maxRecDepth 40000 in
theorem tw_196 : (.fieldLink RX2 19 "SlipstreamCache$Copies" "numbers" "[I" : Cond) ∈ lw_tbl := tc_1 _ (List.mem_of_getElem? (i := 146) (by decide +kernel))
set_option maxRecDepth 40000 in
theorem tw_197 : (.fieldLink RX3 48 "SlipstreamCache$Copies" "numbers" "[I" : Cond) ∈ lw_tbl := tc_1 _ (List.mem_of_getElem? (i := 147) (by decide +kernel))
set_option maxRecDepth 40000 in
theorem tw_198 : (.fieldLink RX11 374 "SlipstreamCache$Copies" "numbers" "[I" : Cond) ∈ lw_tbl := tc_1 _ (List.mem_of_getElem? (i := 148) (by decide +kernel))
set_option maxRecDepth 40000 in
theorem tw_208 : (.fieldLink RX6 14 "SlipstreamCache$Memory" "copies" "LSlipstreamCache$Copies;" : Cond) ∈ lw_tbl := tc_1 _ (List.mem_of_getElem? (i := 158) (by decide +kernel))
set_option maxRecDepth 40000 in
theorem tw_209 : (.fieldLink RX11 306 "SlipstreamCache$Memory" "copies" "LSlipstreamCache$Copies;" : Cond) ∈ lw_tbl := tc_1 _ (List.mem_of_getElem? (i := 159) (by decide +kernel))
set_option maxRecDepth 40000 in
theorem tw_210 : (.fieldLink RX6 20 "SlipstreamCache$Memory" "present" "[Z" : Cond) ∈ lw_tbl := tc_1 _ (List.mem_of_getElem? (i := 160) (by decide +kernel))
set_option maxRecDepth 40000 in
theorem tw_211 : (.fieldLink RX11 292 "SlipstreamCache$Memory" "present" "[Z" : Cond) ∈ lw_tbl := tc_1 _ (List.mem_of_getElem? (i := 161) (by decide +kernel))
set_option maxRecDepth 40000 in
theorem tw_212 : (.fieldLink RX6 24 "SlipstreamCache$Memory" "usedAt" "[I" : Cond) ∈ lw_tbl := tc_1 _ (List.mem_of_getElem? (i := 162) (by decide +kernel))
set_option maxRecDepth 40000 in
theorem tw_213 : (.fieldLink RX11 411 "SlipstreamCache$Memory" "usedAt" "[I" : Cond) ∈ lw_tbl := tc_1 _ (List.mem_of_getElem? (i := 163) (by decide +kernel))
set_option maxRecDepth 40000 in
theorem tw_214 : (.fieldLink RX6 28 "SlipstreamCache$Memory" "uses" "I" : Cond) ∈ lw_tbl := tc_1 _ (List.mem_of_getElem? (i := 164) (by decide +kernel))
set_option maxRecDepth 40000 in
theorem tw_215 : (.fieldLink RX6 32 "SlipstreamCache$Memory" "filled" "I" : Cond) ∈ lw_tbl := tc_1 _ (List.mem_of_getElem? (i := 165) (by decide +kernel))
set_option maxRecDepth 40000 in
theorem tw_216 : (.fieldLink RX11 298 "SlipstreamCache$Memory" "filled" "I" : Cond) ∈ lw_tbl := tc_1 _ (List.mem_of_getElem? (i := 166) (by decide +kernel))
set_option maxRecDepth 40000 in
theorem tw_228 : (.arrayClass .boolean : Cond) ∈ lw_tbl := tc_1 _ (List.mem_of_getElem? (i := 178) (by decide +kernel))
set_option maxRecDepth 40000 in
theorem tw_229 : (.classLink RX11 44 RX3 : Cond) ∈ lw_tbl := tc_1 _ (List.mem_of_getElem? (i := 179) (by decide +kernel))
set_option maxRecDepth 40000 in
theorem tw_230 : (.instantiable RX3 5 : Cond) ∈ lw_tbl := tc_1 _ (List.mem_of_getElem? (i := 180) (by decide +kernel))
set_option maxRecDepth 40000 in
theorem tw_231 : (.methodLink RX11 46 yX3_init : Cond) ∈ lw_tbl := tc_1 _ (List.mem_of_getElem? (i := 181) (by decide +kernel))
set_option maxRecDepth 40000 in
theorem tw_232 : (.instanceMethod yX3_init : Cond) ∈ lw_tbl := tc_1 _ (List.mem_of_getElem? (i := 182) (by decide +kernel))
set_option maxRecDepth 40000 in
theorem tw_233 : (.code yX3_init cX3_init 2 none : Cond) ∈ lw_tbl := tc_1 _ (List.mem_of_getElem? (i := 183) (by decide +kernel))
set_option maxRecDepth 40000 in
theorem tw_234 : (.methodLink RX3 3 objectInit : Cond) ∈ lw_tbl := tc_1 _ (List.mem_of_getElem? (i := 184) (by decide +kernel))
set_option maxRecDepth 40000 in
theorem tw_235 : (.classLink RX3 9 RX2 : Cond) ∈ lw_tbl := tc_1 _ (List.mem_of_getElem? (i := 185) (by decide +kernel))
set_option maxRecDepth 40000 in
theorem tw_236 : (.methodLink RX3 11 yX2_init : Cond) ∈ lw_tbl := tc_1 _ (List.mem_of_getElem? (i := 186) (by decide +kernel))
set_option maxRecDepth 40000 in
theorem tw_237 : (.methodLink RX3 34 yX3_loseIndex : Cond) ∈ lw_tbl := tc_1 _ (List.mem_of_getElem? (i := 187) (by decide +kernel))
set_option maxRecDepth 40000 in
theorem tw_238 : (.instanceMethod yX3_loseIndex : Cond) ∈ lw_tbl := tc_1 _ (List.mem_of_getElem? (i := 188) (by decide +kernel))
set_option maxRecDepth 40000 in
theorem tw_239 : (.selects RX3 yX3_loseIndex yX3_loseIndex : Cond) ∈ lw_tbl := tc_1 _ (List.mem_of_getElem? (i := 189) (by decide +kernel))
set_option maxRecDepth 40000 in
theorem tw_240 : (.code yX3_loseIndex cX3_loseIndex 2 none : Cond) ∈ lw_tbl := tc_1 _ (List.mem_of_getElem? (i := 190) (by decide +kernel))
set_option maxRecDepth 40000 in
theorem tw_241 : (.fieldLink RX3 14 "SlipstreamCache$Flash" "copies" "LSlipstreamCache$Copies;" : Cond) ∈ lw_tbl := tc_1 _ (List.mem_of_getElem? (i := 191) (by decide +kernel))
set_option maxRecDepth 40000 in
theorem tw_242 : (.fieldLink RX11 308 "SlipstreamCache$Flash" "copies" "LSlipstreamCache$Copies;" : Cond) ∈ lw_tbl := tc_1 _ (List.mem_of_getElem? (i := 192) (by decide +kernel))
set_option maxRecDepth 40000 in
theorem tw_243 : (.fieldLink RX3 20 "SlipstreamCache$Flash" "signs" "[I" : Cond) ∈ lw_tbl := tc_1 _ (List.mem_of_getElem? (i := 193) (by decide +kernel))
set_option maxRecDepth 40000 in
theorem tw_244 : (.fieldLink RX11 314 "SlipstreamCache$Flash" "signs" "[I" : Cond) ∈ lw_tbl := tc_1 _ (List.mem_of_getElem? (i := 194) (by decide +kernel))
set_option maxRecDepth 40000 in
theorem tw_245 : (.fieldLink RX3 24 "SlipstreamCache$Flash" "index" "[I" : Cond) ∈ lw_tbl := tc_1 _ (List.mem_of_getElem? (i := 195) (by decide +kernel))
set_option maxRecDepth 40000 in
theorem tw_246 : (.fieldLink RX11 295 "SlipstreamCache$Flash" "index" "[I" : Cond) ∈ lw_tbl := tc_1 _ (List.mem_of_getElem? (i := 196) (by decide +kernel))
set_option maxRecDepth 40000 in
theorem tw_247 : (.fieldLink RX3 27 "SlipstreamCache$Flash" "wears" "[I" : Cond) ∈ lw_tbl := tc_1 _ (List.mem_of_getElem? (i := 197) (by decide +kernel))
set_option maxRecDepth 40000 in
theorem tw_248 : (.fieldLink RX11 317 "SlipstreamCache$Flash" "wears" "[I" : Cond) ∈ lw_tbl := tc_1 _ (List.mem_of_getElem? (i := 198) (by decide +kernel))
set_option maxRecDepth 40000 in
theorem tw_249 : (.fieldLink RX3 30 "SlipstreamCache$Flash" "next" "I" : Cond) ∈ lw_tbl := tc_1 _ (List.mem_of_getElem? (i := 199) (by decide +kernel))
set_option maxRecDepth 40000 in
theorem tw_261 : (.classLink RX11 51 RX8 : Cond) ∈ lw_tbl := tc_1 _ (List.mem_of_getElem? (i := 211) (by decide +kernel))
set_option maxRecDepth 40000 in
theorem tw_262 : (.instantiable RX8 4 : Cond) ∈ lw_tbl := tc_1 _ (List.mem_of_getElem? (i := 212) (by decide +kernel))
set_option maxRecDepth 40000 in
theorem tw_264 : (.instanceMethod yX8_init : Cond) ∈ lw_tbl := tc_1 _ (List.mem_of_getElem? (i := 214) (by decide +kernel))
set_option maxRecDepth 40000 in
theorem tw_265 : (.code yX8_init cX8_init 1 none : Cond) ∈ lw_tbl := tc_1 _ (List.mem_of_getElem? (i := 215) (by decide +kernel))
set_option maxRecDepth 40000 in
theorem tw_266 : (.methodLink RX8 3 objectInit : Cond) ∈ lw_tbl := tc_1 _ (List.mem_of_getElem? (i := 216) (by decide +kernel))
set_option maxRecDepth 40000 in
theorem tw_267 : (.fieldLink RX8 9 "SlipstreamCache$Pledges" "waiting" "[Z" : Cond) ∈ lw_tbl := tc_1 _ (List.mem_of_getElem? (i := 217) (by decide +kernel))
set_option maxRecDepth 40000 in
theorem tw_268 : (.fieldLink RX11 238 "SlipstreamCache$Pledges" "waiting" "[Z" : Cond) ∈ lw_tbl := tc_1 _ (List.mem_of_getElem? (i := 218) (by decide +kernel))
set_option maxRecDepth 40000 in
theorem tw_269 : (.fieldLink RX8 15 "SlipstreamCache$Pledges" "values" "[I" : Cond) ∈ lw_tbl := tc_1 _ (List.mem_of_getElem? (i := 219) (by decide +kernel))
set_option maxRecDepth 40000 in
theorem tw_270 : (.fieldLink RX11 446 "SlipstreamCache$Pledges" "values" "[I" : Cond) ∈ lw_tbl := tc_1 _ (List.mem_of_getElem? (i := 220) (by decide +kernel))
set_option maxRecDepth 40000 in
theorem tw_271 : (.fieldLink RX8 19 "SlipstreamCache$Pledges" "due" "[I" : Cond) ∈ lw_tbl := tc_1 _ (List.mem_of_getElem? (i := 221) (by decide +kernel))
set_option maxRecDepth 40000 in
theorem tw_272 : (.fieldLink RX11 447 "SlipstreamCache$Pledges" "due" "[I" : Cond) ∈ lw_tbl := tc_1 _ (List.mem_of_getElem? (i := 222) (by decide +kernel))
set_option maxRecDepth 40000 in
theorem tw_273 : (.fieldLink RX8 22 "SlipstreamCache$Pledges" "count" "I" : Cond) ∈ lw_tbl := tc_1 _ (List.mem_of_getElem? (i := 223) (by decide +kernel))
set_option maxRecDepth 40000 in
theorem tw_274 : (.fieldLink RX11 219 "SlipstreamCache$Pledges" "count" "I" : Cond) ∈ lw_tbl := tc_1 _ (List.mem_of_getElem? (i := 224) (by decide +kernel))
set_option maxRecDepth 40000 in
theorem tw_284 : (.classLink RX11 58 RX5 : Cond) ∈ lw_tbl := tc_1 _ (List.mem_of_getElem? (i := 234) (by decide +kernel))
set_option maxRecDepth 40000 in
theorem tw_285 : (.instantiable RX5 7 : Cond) ∈ lw_tbl := tc_1 _ (List.mem_of_getElem? (i := 235) (by decide +kernel))
set_option maxRecDepth 40000 in
theorem tw_287 : (.instanceMethod yX5_init : Cond) ∈ lw_tbl := tc_1 _ (List.mem_of_getElem? (i := 237) (by decide +kernel))
set_option maxRecDepth 40000 in
theorem tw_288 : (.code yX5_init cX5_init 1 none : Cond) ∈ lw_tbl := tc_1 _ (List.mem_of_getElem? (i := 238) (by decide +kernel))
set_option maxRecDepth 40000 in
theorem tw_289 : (.methodLink RX5 3 objectInit : Cond) ∈ lw_tbl := tc_1 _ (List.mem_of_getElem? (i := 239) (by decide +kernel))
set_option maxRecDepth 40000 in
theorem tw_290 : (.classLink RX5 9 RX2 : Cond) ∈ lw_tbl := tc_2 _ (List.mem_of_getElem? (i := 0) (by decide +kernel))
set_option maxRecDepth 40000 in
theorem tw_291 : (.methodLink RX5 11 yX2_init : Cond) ∈ lw_tbl := tc_2 _ (List.mem_of_getElem? (i := 1) (by decide +kernel))
set_option maxRecDepth 40000 in
theorem tw_292 : (.fieldLink RX5 14 "SlipstreamCache$Leases" "copies" "LSlipstreamCache$Copies;" : Cond) ∈ lw_tbl := tc_2 _ (List.mem_of_getElem? (i := 2) (by decide +kernel))
set_option maxRecDepth 40000 in
theorem tw_293 : (.fieldLink RX11 184 "SlipstreamCache$Leases" "copies" "LSlipstreamCache$Copies;" : Cond) ∈ lw_tbl := tc_2 _ (List.mem_of_getElem? (i := 3) (by decide +kernel))
set_option maxRecDepth 40000 in
theorem tw_294 : (.fieldLink RX5 20 "SlipstreamCache$Leases" "keyOf" "[I" : Cond) ∈ lw_tbl := tc_2 _ (List.mem_of_getElem? (i := 4) (by decide +kernel))
set_option maxRecDepth 40000 in
theorem tw_295 : (.fieldLink RX11 174 "SlipstreamCache$Leases" "keyOf" "[I" : Cond) ∈ lw_tbl := tc_2 _ (List.mem_of_getElem? (i := 5) (by decide +kernel))
set_option maxRecDepth 40000 in
theorem tw_296 : (.fieldLink RX5 24 "SlipstreamCache$Leases" "given" "[I" : Cond) ∈ lw_tbl := tc_2 _ (List.mem_of_getElem? (i := 6) (by decide +kernel))
set_option maxRecDepth 40000 in
theorem tw_297 : (.fieldLink RX5 27 "SlipstreamCache$Leases" "wasRead" "[Z" : Cond) ∈ lw_tbl := tc_2 _ (List.mem_of_getElem? (i := 7) (by decide +kernel))
set_option maxRecDepth 40000 in
theorem tw_298 : (.fieldLink RX11 180 "SlipstreamCache$Leases" "wasRead" "[Z" : Cond) ∈ lw_tbl := tc_2 _ (List.mem_of_getElem? (i := 8) (by decide +kernel))
set_option maxRecDepth 40000 in
theorem tw_299 : (.fieldLink RX5 31 "SlipstreamCache$Leases" "ends" "[C" : Cond) ∈ lw_tbl := tc_2 _ (List.mem_of_getElem? (i := 9) (by decide +kernel))
set_option maxRecDepth 40000 in
theorem tw_300 : (.fieldLink RX11 200 "SlipstreamCache$Leases" "ends" "[C" : Cond) ∈ lw_tbl := tc_2 _ (List.mem_of_getElem? (i := 10) (by decide +kernel))
set_option maxRecDepth 40000 in
theorem tw_301 : (.fieldLink RX5 35 "SlipstreamCache$Leases" "count" "I" : Cond) ∈ lw_tbl := tc_2 _ (List.mem_of_getElem? (i := 11) (by decide +kernel))
set_option maxRecDepth 40000 in
theorem tw_302 : (.fieldLink RX11 135 "SlipstreamCache$Leases" "count" "I" : Cond) ∈ lw_tbl := tc_2 _ (List.mem_of_getElem? (i := 12) (by decide +kernel))
set_option maxRecDepth 40000 in
theorem tw_303 : (.fieldLink RX5 39 "SlipstreamCache$Leases" "costs" "J" : Cond) ∈ lw_tbl := tc_2 _ (List.mem_of_getElem? (i := 13) (by decide +kernel))
set_option maxRecDepth 40000 in
theorem tw_304 : (.fieldLink RX11 333 "SlipstreamCache$Leases" "costs" "J" : Cond) ∈ lw_tbl := tc_2 _ (List.mem_of_getElem? (i := 14) (by decide +kernel))
set_option maxRecDepth 40000 in
theorem tw_320 : (.arrayClass .char : Cond) ∈ lw_tbl := tc_2 _ (List.mem_of_getElem? (i := 30) (by decide +kernel))
set_option maxRecDepth 40000 in
theorem tw_321 : (.classLink RX11 65 RX0 : Cond) ∈ lw_tbl := tc_2 _ (List.mem_of_getElem? (i := 31) (by decide +kernel))
set_option maxRecDepth 40000 in
theorem tw_322 : (.instantiable RX0 7 : Cond) ∈ lw_tbl := tc_2 _ (List.mem_of_getElem? (i := 32) (by decide +kernel))
set_option maxRecDepth 40000 in
theorem tw_324 : (.instanceMethod yX0_init : Cond) ∈ lw_tbl := tc_2 _ (List.mem_of_getElem? (i := 34) (by decide +kernel))
set_option maxRecDepth 40000 in
theorem tw_325 : (.code yX0_init cX0_init 1 none : Cond) ∈ lw_tbl := tc_2 _ (List.mem_of_getElem? (i := 35) (by decide +kernel))
set_option maxRecDepth 40000 in
theorem tw_326 : (.methodLink RX0 1 objectInit : Cond) ∈ lw_tbl := tc_2 _ (List.mem_of_getElem? (i := 36) (by decide +kernel))
set_option maxRecDepth 40000 in
theorem tw_327 : (.fieldLink RX0 7 "SlipstreamCache$Answers" "hasLast" "Z" : Cond) ∈ lw_tbl := tc_2 _ (List.mem_of_getElem? (i := 37) (by decide +kernel))
set_option maxRecDepth 40000 in
theorem tw_328 : (.fieldLink RX11 365 "SlipstreamCache$Answers" "hasLast" "Z" : Cond) ∈ lw_tbl := tc_2 _ (List.mem_of_getElem? (i := 38) (by decide +kernel))
set_option maxRecDepth 40000 in
theorem tw_329 : (.fieldLink RX0 13 "SlipstreamCache$Answers" "lastValue" "I" : Cond) ∈ lw_tbl := tc_2 _ (List.mem_of_getElem? (i := 39) (by decide +kernel))
set_option maxRecDepth 40000 in
theorem tw_330 : (.fieldLink RX11 155 "SlipstreamCache$Answers" "lastValue" "I" : Cond) ∈ lw_tbl := tc_2 _ (List.mem_of_getElem? (i := 40) (by decide +kernel))
set_option maxRecDepth 40000 in
theorem tw_331 : (.fieldLink RX0 17 "SlipstreamCache$Answers" "lastStaleness" "I" : Cond) ∈ lw_tbl := tc_2 _ (List.mem_of_getElem? (i := 41) (by decide +kernel))
set_option maxRecDepth 40000 in
theorem tw_332 : (.fieldLink RX11 158 "SlipstreamCache$Answers" "lastStaleness" "I" : Cond) ∈ lw_tbl := tc_2 _ (List.mem_of_getElem? (i := 42) (by decide +kernel))
set_option maxRecDepth 40000 in
theorem tw_333 : (.fieldLink RX0 20 "SlipstreamCache$Answers" "asked" "I" : Cond) ∈ lw_tbl := tc_2 _ (List.mem_of_getElem? (i := 43) (by decide +kernel))
set_option maxRecDepth 40000 in
theorem tw_334 : (.fieldLink RX11 336 "SlipstreamCache$Answers" "asked" "I" : Cond) ∈ lw_tbl := tc_2 _ (List.mem_of_getElem? (i := 44) (by decide +kernel))
set_option maxRecDepth 40000 in
theorem tw_335 : (.fieldLink RX0 23 "SlipstreamCache$Answers" "answered" "I" : Cond) ∈ lw_tbl := tc_2 _ (List.mem_of_getElem? (i := 45) (by decide +kernel))
set_option maxRecDepth 40000 in
theorem tw_336 : (.fieldLink RX11 344 "SlipstreamCache$Answers" "answered" "I" : Cond) ∈ lw_tbl := tc_2 _ (List.mem_of_getElem? (i := 46) (by decide +kernel))
set_option maxRecDepth 40000 in
theorem tw_337 : (.fieldLink RX0 26 "SlipstreamCache$Answers" "staleMinutes" "J" : Cond) ∈ lw_tbl := tc_2 _ (List.mem_of_getElem? (i := 47) (by decide +kernel))
set_option maxRecDepth 40000 in
theorem tw_338 : (.fieldLink RX11 349 "SlipstreamCache$Answers" "staleMinutes" "J" : Cond) ∈ lw_tbl := tc_2 _ (List.mem_of_getElem? (i := 48) (by decide +kernel))
set_option maxRecDepth 40000 in
theorem tw_339 : (.fieldLink RX0 30 "SlipstreamCache$Answers" "tooStale" "Z" : Cond) ∈ lw_tbl := tc_2 _ (List.mem_of_getElem? (i := 49) (by decide +kernel))
set_option maxRecDepth 40000 in
theorem tw_340 : (.fieldLink RX11 352 "SlipstreamCache$Answers" "tooStale" "Z" : Cond) ∈ lw_tbl := tc_2 _ (List.mem_of_getElem? (i := 50) (by decide +kernel))
set_option maxRecDepth 40000 in
theorem tw_356 : (.classLink RX11 72 RX1 : Cond) ∈ lw_tbl := tc_2 _ (List.mem_of_getElem? (i := 66) (by decide +kernel))
set_option maxRecDepth 40000 in
theorem tw_357 : (.instantiable RX1 5 : Cond) ∈ lw_tbl := tc_2 _ (List.mem_of_getElem? (i := 67) (by decide +kernel))
set_option maxRecDepth 40000 in
theorem tw_359 : (.instanceMethod yX1_init : Cond) ∈ lw_tbl := tc_2 _ (List.mem_of_getElem? (i := 69) (by decide +kernel))
set_option maxRecDepth 40000 in
theorem tw_360 : (.code yX1_init cX1_init 1 none : Cond) ∈ lw_tbl := tc_2 _ (List.mem_of_getElem? (i := 70) (by decide +kernel))
set_option maxRecDepth 40000 in
theorem tw_361 : (.methodLink RX1 3 objectInit : Cond) ∈ lw_tbl := tc_2 _ (List.mem_of_getElem? (i := 71) (by decide +kernel))
set_option maxRecDepth 40000 in
theorem tw_362 : (.fieldLink RX1 9 "SlipstreamCache$Choice" "chosen" "[Z" : Cond) ∈ lw_tbl := tc_2 _ (List.mem_of_getElem? (i := 72) (by decide +kernel))
set_option maxRecDepth 40000 in
theorem tw_363 : (.fieldLink RX11 405 "SlipstreamCache$Choice" "chosen" "[Z" : Cond) ∈ lw_tbl := tc_2 _ (List.mem_of_getElem? (i := 73) (by decide +kernel))
set_option maxRecDepth 40000 in
theorem tw_364 : (.fieldLink RX1 15 "SlipstreamCache$Choice" "worths" "[I" : Cond) ∈ lw_tbl := tc_2 _ (List.mem_of_getElem? (i := 74) (by decide +kernel))
set_option maxRecDepth 40000 in
theorem tw_365 : (.fieldLink RX11 393 "SlipstreamCache$Choice" "worths" "[I" : Cond) ∈ lw_tbl := tc_2 _ (List.mem_of_getElem? (i := 75) (by decide +kernel))
set_option maxRecDepth 40000 in
theorem tw_366 : (.fieldLink RX1 19 "SlipstreamCache$Choice" "order" "[I" : Cond) ∈ lw_tbl := tc_2 _ (List.mem_of_getElem? (i := 76) (by decide +kernel))
set_option maxRecDepth 40000 in
theorem tw_367 : (.fieldLink RX11 421 "SlipstreamCache$Choice" "order" "[I" : Cond) ∈ lw_tbl := tc_2 _ (List.mem_of_getElem? (i := 77) (by decide +kernel))
set_option maxRecDepth 40000 in
theorem tw_368 : (.fieldLink RX1 22 "SlipstreamCache$Choice" "count" "I" : Cond) ∈ lw_tbl := tc_2 _ (List.mem_of_getElem? (i := 78) (by decide +kernel))
set_option maxRecDepth 40000 in
theorem tw_369 : (.fieldLink RX11 414 "SlipstreamCache$Choice" "count" "I" : Cond) ∈ lw_tbl := tc_2 _ (List.mem_of_getElem? (i := 79) (by decide +kernel))
set_option maxRecDepth 40000 in
theorem tw_370 : (.fieldLink RX1 26 "SlipstreamCache$Choice" "sum" "I" : Cond) ∈ lw_tbl := tc_2 _ (List.mem_of_getElem? (i := 80) (by decide +kernel))
set_option maxRecDepth 40000 in
theorem tw_371 : (.fieldLink RX11 415 "SlipstreamCache$Choice" "sum" "I" : Cond) ∈ lw_tbl := tc_2 _ (List.mem_of_getElem? (i := 81) (by decide +kernel))
set_option maxRecDepth 40000 in
theorem tw_383 : (.classLink RX11 79 RX2 : Cond) ∈ lw_tbl := tc_2 _ (List.mem_of_getElem? (i := 93) (by decide +kernel))
set_option maxRecDepth 40000 in
theorem tw_384 : (.methodLink RX11 81 yX2_init : Cond) ∈ lw_tbl := tc_2 _ (List.mem_of_getElem? (i := 94) (by decide +kernel))
set_option maxRecDepth 40000 in
theorem tw_385 : (.fieldLink RX11 12 "SlipstreamCache" "keys" "LSlipstreamCache$Keys;" : Cond) ∈ lw_tbl := tc_2 _ (List.mem_of_getElem? (i := 95) (by decide +kernel))
set_option maxRecDepth 40000 in
theorem tw_386 : (.fieldLink RX11 19 "SlipstreamCache" "store" "LSlipstreamCache$Store;" : Cond) ∈ lw_tbl := tc_2 _ (List.mem_of_getElem? (i := 96) (by decide +kernel))
set_option maxRecDepth 40000 in
theorem tw_387 : (.fieldLink RX11 26 "SlipstreamCache" "mirror" "LSlipstreamCache$Mirror;" : Cond) ∈ lw_tbl := tc_2 _ (List.mem_of_getElem? (i := 97) (by decide +kernel))
set_option maxRecDepth 40000 in
theorem tw_388 : (.fieldLink RX11 33 "SlipstreamCache" "sketch" "LSlipstreamCache$Sketch;" : Cond) ∈ lw_tbl := tc_2 _ (List.mem_of_getElem? (i := 98) (by decide +kernel))
set_option maxRecDepth 40000 in
theorem tw_389 : (.fieldLink RX11 40 "SlipstreamCache" "memory" "LSlipstreamCache$Memory;" : Cond) ∈ lw_tbl := tc_2 _ (List.mem_of_getElem? (i := 99) (by decide +kernel))
set_option maxRecDepth 40000 in
theorem tw_390 : (.fieldLink RX11 47 "SlipstreamCache" "flash" "LSlipstreamCache$Flash;" : Cond) ∈ lw_tbl := tc_2 _ (List.mem_of_getElem? (i := 100) (by decide +kernel))
set_option maxRecDepth 40000 in
theorem tw_391 : (.fieldLink RX11 54 "SlipstreamCache" "pledges" "LSlipstreamCache$Pledges;" : Cond) ∈ lw_tbl := tc_2 _ (List.mem_of_getElem? (i := 101) (by decide +kernel))
set_option maxRecDepth 40000 in
theorem tw_392 : (.fieldLink RX11 61 "SlipstreamCache" "leases" "LSlipstreamCache$Leases;" : Cond) ∈ lw_tbl := tc_2 _ (List.mem_of_getElem? (i := 102) (by decide +kernel))
set_option maxRecDepth 40000 in
theorem tw_393 : (.fieldLink RX11 68 "SlipstreamCache" "answers" "LSlipstreamCache$Answers;" : Cond) ∈ lw_tbl := tc_2 _ (List.mem_of_getElem? (i := 103) (by decide +kernel))
set_option maxRecDepth 40000 in
theorem tw_394 : (.fieldLink RX11 75 "SlipstreamCache" "choice" "LSlipstreamCache$Choice;" : Cond) ∈ lw_tbl := tc_2 _ (List.mem_of_getElem? (i := 104) (by decide +kernel))
set_option maxRecDepth 40000 in
theorem tw_395 : (.fieldLink RX11 84 "SlipstreamCache" "incoming" "LSlipstreamCache$Copies;" : Cond) ∈ lw_tbl := tc_2 _ (List.mem_of_getElem? (i := 105) (by decide +kernel))
set_option maxRecDepth 40000 in
theorem tw_396 : (.fieldLink RX11 88 "SlipstreamCache" "now" "I" : Cond) ∈ lw_tbl := tc_2 _ (List.mem_of_getElem? (i := 106) (by decide +kernel))
set_option maxRecDepth 40000 in
theorem tw_397 : (.fieldLink RX11 92 "SlipstreamCache" "down" "Z" : Cond) ∈ lw_tbl := tc_2 _ (List.mem_of_getElem? (i := 107) (by decide +kernel))
set_option maxRecDepth 40000 in
theorem tw_425 : (.methodLink RL 159 yX11_minute : Cond) ∈ lw_tbl := tc_2 _ (List.mem_of_getElem? (i := 135) (by decide +kernel))
set_option maxRecDepth 40000 in
theorem tw_426 : (.instanceMethod yX11_minute : Cond) ∈ lw_tbl := tc_2 _ (List.mem_of_getElem? (i := 136) (by decide +kernel))
set_option maxRecDepth 40000 in
theorem tw_427 : (.selects RX11 yX11_minute yX11_minute : Cond) ∈ lw_tbl := tc_2 _ (List.mem_of_getElem? (i := 137) (by decide +kernel))
set_option maxRecDepth 40000 in
theorem tw_428 : (.code yX11_minute cX11_minute 1 (some .int) : Cond) ∈ lw_tbl := tc_2 _ (List.mem_of_getElem? (i := 138) (by decide +kernel))
set_option maxRecDepth 40000 in
theorem tw_429 : (.methodLink RL 166 yX11_used : Cond) ∈ lw_tbl := tc_2 _ (List.mem_of_getElem? (i := 139) (by decide +kernel))
set_option maxRecDepth 40000 in
theorem tw_430 : (.instanceMethod yX11_used : Cond) ∈ lw_tbl := tc_2 _ (List.mem_of_getElem? (i := 140) (by decide +kernel))
set_option maxRecDepth 40000 in
theorem tw_431 : (.selects RX11 yX11_used yX11_used : Cond) ∈ lw_tbl := tc_2 _ (List.mem_of_getElem? (i := 141) (by decide +kernel))
set_option maxRecDepth 40000 in
theorem tw_432 : (.code yX11_used cX11_used 1 (some .int) : Cond) ∈ lw_tbl := tc_2 _ (List.mem_of_getElem? (i := 142) (by decide +kernel))
set_option maxRecDepth 40000 in
theorem tw_433 : (.methodLink RL 186 yX11_promises : Cond) ∈ lw_tbl := tc_2 _ (List.mem_of_getElem? (i := 143) (by decide +kernel))
set_option maxRecDepth 40000 in
theorem tw_434 : (.instanceMethod yX11_promises : Cond) ∈ lw_tbl := tc_2 _ (List.mem_of_getElem? (i := 144) (by decide +kernel))
set_option maxRecDepth 40000 in
theorem tw_435 : (.selects RX11 yX11_promises yX11_promises : Cond) ∈ lw_tbl := tc_2 _ (List.mem_of_getElem? (i := 145) (by decide +kernel))
set_option maxRecDepth 40000 in
theorem tw_436 : (.code yX11_promises cX11_promises 1 (some .int) : Cond) ∈ lw_tbl := tc_2 _ (List.mem_of_getElem? (i := 146) (by decide +kernel))
set_option maxRecDepth 40000 in
theorem tw_437 : (.methodLink RL 193 yX11_messages : Cond) ∈ lw_tbl := tc_2 _ (List.mem_of_getElem? (i := 147) (by decide +kernel))
set_option maxRecDepth 40000 in
theorem tw_438 : (.instanceMethod yX11_messages : Cond) ∈ lw_tbl := tc_2 _ (List.mem_of_getElem? (i := 148) (by decide +kernel))
set_option maxRecDepth 40000 in
theorem tw_439 : (.selects RX11 yX11_messages yX11_messages : Cond) ∈ lw_tbl := tc_2 _ (List.mem_of_getElem? (i := 149) (by decide +kernel))
set_option maxRecDepth 40000 in
theorem tw_440 : (.code yX11_messages cX11_messages 1 (some .int) : Cond) ∈ lw_tbl := tc_2 _ (List.mem_of_getElem? (i := 150) (by decide +kernel))
set_option maxRecDepth 40000 in
theorem tw_441 : (.methodLink RL 203 yX11_paid : Cond) ∈ lw_tbl := tc_2 _ (List.mem_of_getElem? (i := 151) (by decide +kernel))
set_option maxRecDepth 40000 in
theorem tw_442 : (.instanceMethod yX11_paid : Cond) ∈ lw_tbl := tc_2 _ (List.mem_of_getElem? (i := 152) (by decide +kernel))
set_option maxRecDepth 40000 in
theorem tw_443 : (.selects RX11 yX11_paid yX11_paid : Cond) ∈ lw_tbl := tc_2 _ (List.mem_of_getElem? (i := 153) (by decide +kernel))
set_option maxRecDepth 40000 in
theorem tw_444 : (.code yX11_paid cX11_paid 1 (some .long) : Cond) ∈ lw_tbl := tc_2 _ (List.mem_of_getElem? (i := 154) (by decide +kernel))
set_option maxRecDepth 40000 in
theorem tw_445 : (.methodLink RL 215 yX11_isHonest : Cond) ∈ lw_tbl := tc_2 _ (List.mem_of_getElem? (i := 155) (by decide +kernel))
set_option maxRecDepth 40000 in
theorem tw_446 : (.instanceMethod yX11_isHonest : Cond) ∈ lw_tbl := tc_2 _ (List.mem_of_getElem? (i := 156) (by decide +kernel))
set_option maxRecDepth 40000 in
theorem tw_447 : (.selects RX11 yX11_isHonest yX11_isHonest : Cond) ∈ lw_tbl := tc_2 _ (List.mem_of_getElem? (i := 157) (by decide +kernel))
set_option maxRecDepth 40000 in
theorem tw_448 : (.code yX11_isHonest cX11_isHonest 4 (some .boolean) : Cond) ∈ lw_tbl := tc_2 _ (List.mem_of_getElem? (i := 158) (by decide +kernel))
set_option maxRecDepth 40000 in
theorem tw_449 : (.methodLink RL 110 yL_setKey : Cond) ∈ lw_tbl := tc_2 _ (List.mem_of_getElem? (i := 159) (by decide +kernel))
set_option maxRecDepth 40000 in
theorem tw_450 : (.static yL_setKey : Cond) ∈ lw_tbl := tc_2 _ (List.mem_of_getElem? (i := 160) (by decide +kernel))
set_option maxRecDepth 40000 in
theorem tw_451 : (.codeWith yL_setKey cL_setKey 7 (some .int) [(0, 14, 17, 13), (0, 14, 21, 15), (0, 14, 25, 17)] : Cond) ∈ lw_tbl := tc_2 _ (List.mem_of_getElem? (i := 161) (by decide +kernel))
set_option maxRecDepth 40000 in
theorem tw_452 : (.classLink RL 13 "java/lang/IndexOutOfBoundsException" : Cond) ∈ lw_tbl := tc_2 _ (List.mem_of_getElem? (i := 162) (by decide +kernel))
set_option maxRecDepth 40000 in
theorem tw_532 : (.classLink RL 15 "java/lang/IllegalArgumentException" : Cond) ∈ lw_tbl := tc_3 _ (List.mem_of_getElem? (i := 2) (by decide +kernel))
set_option maxRecDepth 40000 in
theorem tw_533 : (.classLink RL 17 "java/lang/IllegalStateException" : Cond) ∈ lw_tbl := tc_3 _ (List.mem_of_getElem? (i := 3) (by decide +kernel))
set_option maxRecDepth 40000 in
theorem tw_534 : (.methodLink RL 7 yX11_setKey : Cond) ∈ lw_tbl := tc_3 _ (List.mem_of_getElem? (i := 4) (by decide +kernel))
set_option maxRecDepth 40000 in
theorem tw_535 : (.instanceMethod yX11_setKey : Cond) ∈ lw_tbl := tc_3 _ (List.mem_of_getElem? (i := 5) (by decide +kernel))
set_option maxRecDepth 40000 in
theorem tw_536 : (.selects RX11 yX11_setKey yX11_setKey : Cond) ∈ lw_tbl := tc_3 _ (List.mem_of_getElem? (i := 6) (by decide +kernel))
set_option maxRecDepth 40000 in
theorem tw_537 : (.code yX11_setKey cX11_setKey 6 (some .int) : Cond) ∈ lw_tbl := tc_3 _ (List.mem_of_getElem? (i := 7) (by decide +kernel))
set_option maxRecDepth 40000 in
theorem tw_538 : (.methodLink RX11 96 yX11_requireKey : Cond) ∈ lw_tbl := tc_3 _ (List.mem_of_getElem? (i := 8) (by decide +kernel))
set_option maxRecDepth 40000 in
theorem tw_539 : (.static yX11_requireKey : Cond) ∈ lw_tbl := tc_3 _ (List.mem_of_getElem? (i := 9) (by decide +kernel))
set_option maxRecDepth 40000 in
theorem tw_540 : (.code yX11_requireKey cX11_requireKey 1 none : Cond) ∈ lw_tbl := tc_3 _ (List.mem_of_getElem? (i := 10) (by decide +kernel))
set_option maxRecDepth 40000 in
theorem tw_541 : (.classLink RX11 253 "java/lang/IndexOutOfBoundsException" : Cond) ∈ lw_tbl := tc_3 _ (List.mem_of_getElem? (i := 11) (by decide +kernel))
set_option maxRecDepth 40000 in
theorem tw_554 : (.methodLink RX11 99 yX11_requireWithin : Cond) ∈ lw_tbl := tc_3 _ (List.mem_of_getElem? (i := 24) (by decide +kernel))
set_option maxRecDepth 40000 in
theorem tw_555 : (.static yX11_requireWithin : Cond) ∈ lw_tbl := tc_3 _ (List.mem_of_getElem? (i := 25) (by decide +kernel))
set_option maxRecDepth 40000 in
theorem tw_556 : (.code yX11_requireWithin cX11_requireWithin 3 none : Cond) ∈ lw_tbl := tc_3 _ (List.mem_of_getElem? (i := 26) (by decide +kernel))
set_option maxRecDepth 40000 in
theorem tw_557 : (.classLink RX11 211 "java/lang/IllegalArgumentException" : Cond) ∈ lw_tbl := tc_3 _ (List.mem_of_getElem? (i := 27) (by decide +kernel))
set_option maxRecDepth 40000 in
theorem tw_573 : (.methodLink RX11 103 yX11_requireUp : Cond) ∈ lw_tbl := tc_3 _ (List.mem_of_getElem? (i := 43) (by decide +kernel))
set_option maxRecDepth 40000 in
theorem tw_575 : (.instanceMethod yX11_requireUp : Cond) ∈ lw_tbl := tc_3 _ (List.mem_of_getElem? (i := 45) (by decide +kernel))
set_option maxRecDepth 40000 in
theorem tw_576 : (.code yX11_requireUp cX11_requireUp 1 none : Cond) ∈ lw_tbl := tc_3 _ (List.mem_of_getElem? (i := 46) (by decide +kernel))
set_option maxRecDepth 40000 in
theorem tw_577 : (.classLink RX11 114 "java/lang/IllegalStateException" : Cond) ∈ lw_tbl := tc_3 _ (List.mem_of_getElem? (i := 47) (by decide +kernel))
set_option maxRecDepth 40000 in
theorem tw_593 : (.methodLink RX11 106 yX11_isKept : Cond) ∈ lw_tbl := tc_3 _ (List.mem_of_getElem? (i := 63) (by decide +kernel))
set_option maxRecDepth 40000 in
theorem tw_595 : (.instanceMethod yX11_isKept : Cond) ∈ lw_tbl := tc_3 _ (List.mem_of_getElem? (i := 65) (by decide +kernel))
set_option maxRecDepth 40000 in
theorem tw_596 : (.code yX11_isKept cX11_isKept 2 (some .boolean) : Cond) ∈ lw_tbl := tc_3 _ (List.mem_of_getElem? (i := 66) (by decide +kernel))
set_option maxRecDepth 40000 in
theorem tw_597 : (.methodLink RX11 110 yX5_isOutFor : Cond) ∈ lw_tbl := tc_3 _ (List.mem_of_getElem? (i := 67) (by decide +kernel))
set_option maxRecDepth 40000 in
theorem tw_598 : (.instanceMethod yX5_isOutFor : Cond) ∈ lw_tbl := tc_3 _ (List.mem_of_getElem? (i := 68) (by decide +kernel))
set_option maxRecDepth 40000 in
theorem tw_599 : (.selects RX5 yX5_isOutFor yX5_isOutFor : Cond) ∈ lw_tbl := tc_3 _ (List.mem_of_getElem? (i := 69) (by decide +kernel))
set_option maxRecDepth 40000 in
theorem tw_600 : (.code yX5_isOutFor cX5_isOutFor 4 (some .boolean) : Cond) ∈ lw_tbl := tc_3 _ (List.mem_of_getElem? (i := 70) (by decide +kernel))
set_option maxRecDepth 40000 in
theorem tw_601 : (.methodLink RX5 43 yX5_stateOf : Cond) ∈ lw_tbl := tc_3 _ (List.mem_of_getElem? (i := 71) (by decide +kernel))
set_option maxRecDepth 40000 in
theorem tw_602 : (.instanceMethod yX5_stateOf : Cond) ∈ lw_tbl := tc_3 _ (List.mem_of_getElem? (i := 72) (by decide +kernel))
set_option maxRecDepth 40000 in
theorem tw_603 : (.selects RX5 yX5_stateOf yX5_stateOf : Cond) ∈ lw_tbl := tc_3 _ (List.mem_of_getElem? (i := 73) (by decide +kernel))
set_option maxRecDepth 40000 in
theorem tw_604 : (.code yX5_stateOf cX5_stateOf 3 (some .char) : Cond) ∈ lw_tbl := tc_3 _ (List.mem_of_getElem? (i := 74) (by decide +kernel))
set_option maxRecDepth 40000 in
theorem tw_606 : (.methodLink RL 116 yL_get : Cond) ∈ lw_tbl := tc_3 _ (List.mem_of_getElem? (i := 76) (by decide +kernel))
set_option maxRecDepth 40000 in
theorem tw_607 : (.static yL_get : Cond) ∈ lw_tbl := tc_3 _ (List.mem_of_getElem? (i := 77) (by decide +kernel))
set_option maxRecDepth 40000 in
theorem tw_608 : (.codeWith yL_get cL_get 6 (some .int) [(0, 12, 15, 13), (0, 12, 19, 15), (0, 12, 23, 17), (0, 12, 27, 23)] : Cond) ∈ lw_tbl := tc_3 _ (List.mem_of_getElem? (i := 78) (by decide +kernel))
set_option maxRecDepth 40000 in
theorem tw_609 : (.classLink RL 23 "java/lang/UnsupportedOperationException" : Cond) ∈ lw_tbl := tc_3 _ (List.mem_of_getElem? (i := 79) (by decide +kernel))
set_option maxRecDepth 40000 in
theorem tw_610 : (.methodLink RL 19 yX11_get : Cond) ∈ lw_tbl := tc_3 _ (List.mem_of_getElem? (i := 80) (by decide +kernel))
set_option maxRecDepth 40000 in
theorem tw_611 : (.instanceMethod yX11_get : Cond) ∈ lw_tbl := tc_3 _ (List.mem_of_getElem? (i := 81) (by decide +kernel))
set_option maxRecDepth 40000 in
theorem tw_612 : (.selects RX11 yX11_get yX11_get : Cond) ∈ lw_tbl := tc_3 _ (List.mem_of_getElem? (i := 82) (by decide +kernel))
set_option maxRecDepth 40000 in
theorem tw_613 : (.code yX11_get cX11_get 7 (some .char) : Cond) ∈ lw_tbl := tc_3 _ (List.mem_of_getElem? (i := 83) (by decide +kernel))
set_option maxRecDepth 40000 in
theorem tw_614 : (.methodLink RX11 131 yX11_goodSource : Cond) ∈ lw_tbl := tc_3 _ (List.mem_of_getElem? (i := 84) (by decide +kernel))
set_option maxRecDepth 40000 in
theorem tw_616 : (.instanceMethod yX11_goodSource : Cond) ∈ lw_tbl := tc_3 _ (List.mem_of_getElem? (i := 86) (by decide +kernel))
set_option maxRecDepth 40000 in
theorem tw_617 : (.code yX11_goodSource cX11_goodSource 4 (some .char) : Cond) ∈ lw_tbl := tc_3 _ (List.mem_of_getElem? (i := 87) (by decide +kernel))
set_option maxRecDepth 40000 in
theorem tw_618 : (.methodLink RX11 370 yX11_isFresh : Cond) ∈ lw_tbl := tc_3 _ (List.mem_of_getElem? (i := 88) (by decide +kernel))
set_option maxRecDepth 40000 in
theorem tw_620 : (.instanceMethod yX11_isFresh : Cond) ∈ lw_tbl := tc_3 _ (List.mem_of_getElem? (i := 90) (by decide +kernel))
set_option maxRecDepth 40000 in
theorem tw_621 : (.code yX11_isFresh cX11_isFresh 5 (some .boolean) : Cond) ∈ lw_tbl := tc_3 _ (List.mem_of_getElem? (i := 91) (by decide +kernel))
set_option maxRecDepth 40000 in
theorem tw_622 : (.methodLink RX11 190 yX4_numberFor : Cond) ∈ lw_tbl := tc_3 _ (List.mem_of_getElem? (i := 92) (by decide +kernel))
set_option maxRecDepth 40000 in
theorem tw_623 : (.instanceMethod yX4_numberFor : Cond) ∈ lw_tbl := tc_3 _ (List.mem_of_getElem? (i := 93) (by decide +kernel))
set_option maxRecDepth 40000 in
theorem tw_624 : (.selects RX4 yX4_numberFor yX4_numberFor : Cond) ∈ lw_tbl := tc_3 _ (List.mem_of_getElem? (i := 94) (by decide +kernel))
set_option maxRecDepth 40000 in
theorem tw_625 : (.code yX4_numberFor cX4_numberFor 2 (some .int) : Cond) ∈ lw_tbl := tc_3 _ (List.mem_of_getElem? (i := 95) (by decide +kernel))
set_option maxRecDepth 40000 in
theorem tw_626 : (.classLink RX11 138 "java/lang/UnsupportedOperationException" : Cond) ∈ lw_tbl := tc_3 _ (List.mem_of_getElem? (i := 96) (by decide +kernel))
set_option maxRecDepth 40000 in
theorem tw_642 : (.methodLink RX11 143 yX5_give : Cond) ∈ lw_tbl := tc_3 _ (List.mem_of_getElem? (i := 112) (by decide +kernel))
set_option maxRecDepth 40000 in
theorem tw_643 : (.instanceMethod yX5_give : Cond) ∈ lw_tbl := tc_3 _ (List.mem_of_getElem? (i := 113) (by decide +kernel))
set_option maxRecDepth 40000 in
theorem tw_644 : (.selects RX5 yX5_give yX5_give : Cond) ∈ lw_tbl := tc_3 _ (List.mem_of_getElem? (i := 114) (by decide +kernel))
set_option maxRecDepth 40000 in
theorem tw_645 : (.code yX5_give cX5_give 4 none : Cond) ∈ lw_tbl := tc_3 _ (List.mem_of_getElem? (i := 115) (by decide +kernel))
set_option maxRecDepth 40000 in
theorem tw_646 : (.methodLink RX11 146 yX11_answer : Cond) ∈ lw_tbl := tc_3 _ (List.mem_of_getElem? (i := 116) (by decide +kernel))
set_option maxRecDepth 40000 in
theorem tw_648 : (.instanceMethod yX11_answer : Cond) ∈ lw_tbl := tc_3 _ (List.mem_of_getElem? (i := 118) (by decide +kernel))
set_option maxRecDepth 40000 in
theorem tw_649 : (.code yX11_answer cX11_answer 5 none : Cond) ∈ lw_tbl := tc_3 _ (List.mem_of_getElem? (i := 119) (by decide +kernel))
set_option maxRecDepth 40000 in
theorem tw_650 : (.methodLink RX11 378 yX10_staleBy : Cond) ∈ lw_tbl := tc_3 _ (List.mem_of_getElem? (i := 120) (by decide +kernel))
set_option maxRecDepth 40000 in
theorem tw_651 : (.instanceMethod yX10_staleBy : Cond) ∈ lw_tbl := tc_3 _ (List.mem_of_getElem? (i := 121) (by decide +kernel))
set_option maxRecDepth 40000 in
theorem tw_652 : (.selects RX10 yX10_staleBy yX10_staleBy : Cond) ∈ lw_tbl := tc_3 _ (List.mem_of_getElem? (i := 122) (by decide +kernel))
set_option maxRecDepth 40000 in
theorem tw_653 : (.code yX10_staleBy cX10_staleBy 5 (some .int) : Cond) ∈ lw_tbl := tc_3 _ (List.mem_of_getElem? (i := 123) (by decide +kernel))
set_option maxRecDepth 40000 in
theorem tw_654 : (.methodLink RX11 383 yX0_tell : Cond) ∈ lw_tbl := tc_3 _ (List.mem_of_getElem? (i := 124) (by decide +kernel))
set_option maxRecDepth 40000 in
theorem tw_655 : (.instanceMethod yX0_tell : Cond) ∈ lw_tbl := tc_3 _ (List.mem_of_getElem? (i := 125) (by decide +kernel))
set_option maxRecDepth 40000 in
theorem tw_656 : (.selects RX0 yX0_tell yX0_tell : Cond) ∈ lw_tbl := tc_3 _ (List.mem_of_getElem? (i := 126) (by decide +kernel))
set_option maxRecDepth 40000 in
theorem tw_657 : (.code yX0_tell cX0_tell 4 none : Cond) ∈ lw_tbl := tc_3 _ (List.mem_of_getElem? (i := 127) (by decide +kernel))
set_option maxRecDepth 40000 in
theorem tw_658 : (.methodLink RX11 386 yX6_touch : Cond) ∈ lw_tbl := tc_3 _ (List.mem_of_getElem? (i := 128) (by decide +kernel))
set_option maxRecDepth 40000 in
theorem tw_659 : (.instanceMethod yX6_touch : Cond) ∈ lw_tbl := tc_3 _ (List.mem_of_getElem? (i := 129) (by decide +kernel))
set_option maxRecDepth 40000 in
theorem tw_660 : (.selects RX6 yX6_touch yX6_touch : Cond) ∈ lw_tbl := tc_3 _ (List.mem_of_getElem? (i := 130) (by decide +kernel))
set_option maxRecDepth 40000 in
theorem tw_661 : (.code yX6_touch cX6_touch 2 none : Cond) ∈ lw_tbl := tc_3 _ (List.mem_of_getElem? (i := 131) (by decide +kernel))
set_option maxRecDepth 40000 in
theorem tw_662 : (.methodLink RX11 204 yX2_take : Cond) ∈ lw_tbl := tc_3 _ (List.mem_of_getElem? (i := 132) (by decide +kernel))
set_option maxRecDepth 40000 in
theorem tw_663 : (.instanceMethod yX2_take : Cond) ∈ lw_tbl := tc_3 _ (List.mem_of_getElem? (i := 133) (by decide +kernel))
set_option maxRecDepth 40000 in
theorem tw_664 : (.selects RX2 yX2_take yX2_take : Cond) ∈ lw_tbl := tc_3 _ (List.mem_of_getElem? (i := 134) (by decide +kernel))
set_option maxRecDepth 40000 in
theorem tw_665 : (.code yX2_take cX2_take 4 none : Cond) ∈ lw_tbl := tc_3 _ (List.mem_of_getElem? (i := 135) (by decide +kernel))
set_option maxRecDepth 40000 in
theorem tw_666 : (.methodLink RX2 22 yX2_put : Cond) ∈ lw_tbl := tc_3 _ (List.mem_of_getElem? (i := 136) (by decide +kernel))
set_option maxRecDepth 40000 in
theorem tw_667 : (.instanceMethod yX2_put : Cond) ∈ lw_tbl := tc_3 _ (List.mem_of_getElem? (i := 137) (by decide +kernel))
set_option maxRecDepth 40000 in
theorem tw_668 : (.selects RX2 yX2_put yX2_put : Cond) ∈ lw_tbl := tc_3 _ (List.mem_of_getElem? (i := 138) (by decide +kernel))
set_option maxRecDepth 40000 in
theorem tw_669 : (.code yX2_put cX2_put 6 none : Cond) ∈ lw_tbl := tc_3 _ (List.mem_of_getElem? (i := 139) (by decide +kernel))
set_option maxRecDepth 40000 in
theorem tw_670 : (.methodLink RX11 208 yX11_comeIfWorthIt : Cond) ∈ lw_tbl := tc_3 _ (List.mem_of_getElem? (i := 140) (by decide +kernel))
set_option maxRecDepth 40000 in
theorem tw_672 : (.instanceMethod yX11_comeIfWorthIt : Cond) ∈ lw_tbl := tc_3 _ (List.mem_of_getElem? (i := 142) (by decide +kernel))
set_option maxRecDepth 40000 in
theorem tw_673 : (.code yX11_comeIfWorthIt cX11_comeIfWorthIt 2 (some .boolean) : Cond) ∈ lw_tbl := tc_3 _ (List.mem_of_getElem? (i := 143) (by decide +kernel))
set_option maxRecDepth 40000 in
theorem tw_674 : (.methodLink RX11 222 yX11_chooseLeavers : Cond) ∈ lw_tbl := tc_3 _ (List.mem_of_getElem? (i := 144) (by decide +kernel))
set_option maxRecDepth 40000 in
theorem tw_676 : (.instanceMethod yX11_chooseLeavers : Cond) ∈ lw_tbl := tc_3 _ (List.mem_of_getElem? (i := 146) (by decide +kernel))
set_option maxRecDepth 40000 in
theorem tw_677 : (.code yX11_chooseLeavers cX11_chooseLeavers 5 (some .boolean) : Cond) ∈ lw_tbl := tc_3 _ (List.mem_of_getElem? (i := 147) (by decide +kernel))
set_option maxRecDepth 40000 in
theorem tw_678 : (.methodLink RX11 392 yX1_clear : Cond) ∈ lw_tbl := tc_3 _ (List.mem_of_getElem? (i := 148) (by decide +kernel))
set_option maxRecDepth 40000 in
theorem tw_679 : (.instanceMethod yX1_clear : Cond) ∈ lw_tbl := tc_3 _ (List.mem_of_getElem? (i := 149) (by decide +kernel))
set_option maxRecDepth 40000 in
theorem tw_680 : (.selects RX1 yX1_clear yX1_clear : Cond) ∈ lw_tbl := tc_3 _ (List.mem_of_getElem? (i := 150) (by decide +kernel))
set_option maxRecDepth 40000 in
theorem tw_681 : (.code yX1_clear cX1_clear 2 none : Cond) ∈ lw_tbl := tc_3 _ (List.mem_of_getElem? (i := 151) (by decide +kernel))
set_option maxRecDepth 40000 in
theorem tw_682 : (.methodLink RX11 396 yX11_worth : Cond) ∈ lw_tbl := tc_3 _ (List.mem_of_getElem? (i := 152) (by decide +kernel))
set_option maxRecDepth 40000 in
theorem tw_684 : (.instanceMethod yX11_worth : Cond) ∈ lw_tbl := tc_3 _ (List.mem_of_getElem? (i := 154) (by decide +kernel))
set_option maxRecDepth 40000 in
theorem tw_685 : (.code yX11_worth cX11_worth 2 (some .int) : Cond) ∈ lw_tbl := tc_3 _ (List.mem_of_getElem? (i := 155) (by decide +kernel))
set_option maxRecDepth 40000 in
theorem tw_686 : (.methodLink RX11 301 yX9_leastOf : Cond) ∈ lw_tbl := tc_3 _ (List.mem_of_getElem? (i := 156) (by decide +kernel))
set_option maxRecDepth 40000 in
theorem tw_687 : (.instanceMethod yX9_leastOf : Cond) ∈ lw_tbl := tc_3 _ (List.mem_of_getElem? (i := 157) (by decide +kernel))
set_option maxRecDepth 40000 in
theorem tw_688 : (.selects RX9 yX9_leastOf yX9_leastOf : Cond) ∈ lw_tbl := tc_3 _ (List.mem_of_getElem? (i := 158) (by decide +kernel))
set_option maxRecDepth 40000 in
theorem tw_689 : (.code yX9_leastOf cX9_leastOf 5 (some .int) : Cond) ∈ lw_tbl := tc_3 _ (List.mem_of_getElem? (i := 159) (by decide +kernel))
set_option maxRecDepth 40000 in
theorem tw_690 : (.methodLink RX9 22 yX9_placeOf : Cond) ∈ lw_tbl := tc_3 _ (List.mem_of_getElem? (i := 160) (by decide +kernel))
set_option maxRecDepth 40000 in
theorem tw_691 : (.static yX9_placeOf : Cond) ∈ lw_tbl := tc_3 _ (List.mem_of_getElem? (i := 161) (by decide +kernel))
set_option maxRecDepth 40000 in
theorem tw_692 : (.code yX9_placeOf cX9_placeOf 2 (some .int) : Cond) ∈ lw_tbl := tc_3 _ (List.mem_of_getElem? (i := 162) (by decide +kernel))
set_option maxRecDepth 40000 in
theorem tw_695 : (.methodLink RX11 399 yX11_nextLeaver : Cond) ∈ lw_tbl := tc_3 _ (List.mem_of_getElem? (i := 165) (by decide +kernel))
set_option maxRecDepth 40000 in
theorem tw_697 : (.instanceMethod yX11_nextLeaver : Cond) ∈ lw_tbl := tc_3 _ (List.mem_of_getElem? (i := 167) (by decide +kernel))
set_option maxRecDepth 40000 in
theorem tw_698 : (.code yX11_nextLeaver cX11_nextLeaver 4 (some .int) : Cond) ∈ lw_tbl := tc_3 _ (List.mem_of_getElem? (i := 168) (by decide +kernel))
set_option maxRecDepth 40000 in
theorem tw_699 : (.methodLink RX11 408 yX11_leavesBefore : Cond) ∈ lw_tbl := tc_3 _ (List.mem_of_getElem? (i := 169) (by decide +kernel))
set_option maxRecDepth 40000 in
theorem tw_701 : (.instanceMethod yX11_leavesBefore : Cond) ∈ lw_tbl := tc_3 _ (List.mem_of_getElem? (i := 171) (by decide +kernel))
set_option maxRecDepth 40000 in
theorem tw_702 : (.code yX11_leavesBefore cX11_leavesBefore 4 (some .boolean) : Cond) ∈ lw_tbl := tc_3 _ (List.mem_of_getElem? (i := 172) (by decide +kernel))
set_option maxRecDepth 40000 in
theorem tw_703 : (.methodLink RX11 402 yX1_add : Cond) ∈ lw_tbl := tc_3 _ (List.mem_of_getElem? (i := 173) (by decide +kernel))
set_option maxRecDepth 40000 in
theorem tw_704 : (.instanceMethod yX1_add : Cond) ∈ lw_tbl := tc_3 _ (List.mem_of_getElem? (i := 174) (by decide +kernel))
set_option maxRecDepth 40000 in
theorem tw_705 : (.selects RX1 yX1_add yX1_add : Cond) ∈ lw_tbl := tc_3 _ (List.mem_of_getElem? (i := 175) (by decide +kernel))
set_option maxRecDepth 40000 in
theorem tw_706 : (.code yX1_add cX1_add 2 none : Cond) ∈ lw_tbl := tc_3 _ (List.mem_of_getElem? (i := 176) (by decide +kernel))
set_option maxRecDepth 40000 in
theorem tw_707 : (.methodLink RX11 418 yX11_come : Cond) ∈ lw_tbl := tc_3 _ (List.mem_of_getElem? (i := 177) (by decide +kernel))
set_option maxRecDepth 40000 in
theorem tw_709 : (.instanceMethod yX11_come : Cond) ∈ lw_tbl := tc_3 _ (List.mem_of_getElem? (i := 179) (by decide +kernel))
set_option maxRecDepth 40000 in
theorem tw_710 : (.code yX11_come cX11_come 4 none : Cond) ∈ lw_tbl := tc_3 _ (List.mem_of_getElem? (i := 180) (by decide +kernel))
set_option maxRecDepth 40000 in
theorem tw_711 : (.methodLink RX11 424 yX3_append : Cond) ∈ lw_tbl := tc_3 _ (List.mem_of_getElem? (i := 181) (by decide +kernel))
set_option maxRecDepth 40000 in
theorem tw_712 : (.instanceMethod yX3_append : Cond) ∈ lw_tbl := tc_3 _ (List.mem_of_getElem? (i := 182) (by decide +kernel))
set_option maxRecDepth 40000 in
theorem tw_713 : (.selects RX3 yX3_append yX3_append : Cond) ∈ lw_tbl := tc_3 _ (List.mem_of_getElem? (i := 183) (by decide +kernel))
set_option maxRecDepth 40000 in
theorem tw_714 : (.code yX3_append cX3_append 4 none : Cond) ∈ lw_tbl := tc_3 _ (List.mem_of_getElem? (i := 184) (by decide +kernel))
set_option maxRecDepth 40000 in
theorem tw_715 : (.methodLink RX3 37 yX3_nextSlot : Cond) ∈ lw_tbl := tc_3 _ (List.mem_of_getElem? (i := 185) (by decide +kernel))
set_option maxRecDepth 40000 in
theorem tw_716 : (.instanceMethod yX3_nextSlot : Cond) ∈ lw_tbl := tc_3 _ (List.mem_of_getElem? (i := 186) (by decide +kernel))
set_option maxRecDepth 40000 in
theorem tw_717 : (.selects RX3 yX3_nextSlot yX3_nextSlot : Cond) ∈ lw_tbl := tc_3 _ (List.mem_of_getElem? (i := 187) (by decide +kernel))
set_option maxRecDepth 40000 in
theorem tw_718 : (.code yX3_nextSlot cX3_nextSlot 2 (some .int) : Cond) ∈ lw_tbl := tc_3 _ (List.mem_of_getElem? (i := 188) (by decide +kernel))
set_option maxRecDepth 40000 in
theorem tw_719 : (.methodLink RX3 45 yX3_beginAnew : Cond) ∈ lw_tbl := tc_3 _ (List.mem_of_getElem? (i := 189) (by decide +kernel))
set_option maxRecDepth 40000 in
theorem tw_720 : (.instanceMethod yX3_beginAnew : Cond) ∈ lw_tbl := tc_3 _ (List.mem_of_getElem? (i := 190) (by decide +kernel))
set_option maxRecDepth 40000 in
theorem tw_721 : (.selects RX3 yX3_beginAnew yX3_beginAnew : Cond) ∈ lw_tbl := tc_3 _ (List.mem_of_getElem? (i := 191) (by decide +kernel))
set_option maxRecDepth 40000 in
theorem tw_722 : (.code yX3_beginAnew cX3_beginAnew 4 none : Cond) ∈ lw_tbl := tc_3 _ (List.mem_of_getElem? (i := 192) (by decide +kernel))
set_option maxRecDepth 40000 in
theorem tw_723 : (.methodLink RX3 41 yX2_take : Cond) ∈ lw_tbl := tc_3 _ (List.mem_of_getElem? (i := 193) (by decide +kernel))
set_option maxRecDepth 40000 in
theorem tw_724 : (.methodLink RX11 244 yX6_remove : Cond) ∈ lw_tbl := tc_3 _ (List.mem_of_getElem? (i := 194) (by decide +kernel))
set_option maxRecDepth 40000 in
theorem tw_725 : (.instanceMethod yX6_remove : Cond) ∈ lw_tbl := tc_3 _ (List.mem_of_getElem? (i := 195) (by decide +kernel))
set_option maxRecDepth 40000 in
theorem tw_726 : (.selects RX6 yX6_remove yX6_remove : Cond) ∈ lw_tbl := tc_3 _ (List.mem_of_getElem? (i := 196) (by decide +kernel))
set_option maxRecDepth 40000 in
theorem tw_727 : (.code yX6_remove cX6_remove 3 none : Cond) ∈ lw_tbl := tc_3 _ (List.mem_of_getElem? (i := 197) (by decide +kernel))
set_option maxRecDepth 40000 in
theorem tw_728 : (.methodLink RX11 428 yX6_put : Cond) ∈ lw_tbl := tc_3 _ (List.mem_of_getElem? (i := 198) (by decide +kernel))
set_option maxRecDepth 40000 in
theorem tw_729 : (.instanceMethod yX6_put : Cond) ∈ lw_tbl := tc_3 _ (List.mem_of_getElem? (i := 199) (by decide +kernel))
set_option maxRecDepth 40000 in
theorem tw_730 : (.selects RX6 yX6_put yX6_put : Cond) ∈ lw_tbl := tc_3 _ (List.mem_of_getElem? (i := 200) (by decide +kernel))
set_option maxRecDepth 40000 in
theorem tw_731 : (.code yX6_put cX6_put 4 none : Cond) ∈ lw_tbl := tc_3 _ (List.mem_of_getElem? (i := 201) (by decide +kernel))
set_option maxRecDepth 40000 in
theorem tw_732 : (.methodLink RX6 35 yX2_take : Cond) ∈ lw_tbl := tc_3 _ (List.mem_of_getElem? (i := 202) (by decide +kernel))
set_option maxRecDepth 40000 in
theorem tw_733 : (.methodLink RX6 39 yX6_touch : Cond) ∈ lw_tbl := tc_3 _ (List.mem_of_getElem? (i := 203) (by decide +kernel))
set_option maxRecDepth 40000 in
theorem tw_734 : (.methodLink RX11 247 yX3_takeOut : Cond) ∈ lw_tbl := tc_3 _ (List.mem_of_getElem? (i := 204) (by decide +kernel))
set_option maxRecDepth 40000 in
theorem tw_735 : (.instanceMethod yX3_takeOut : Cond) ∈ lw_tbl := tc_3 _ (List.mem_of_getElem? (i := 205) (by decide +kernel))
set_option maxRecDepth 40000 in
theorem tw_736 : (.selects RX3 yX3_takeOut yX3_takeOut : Cond) ∈ lw_tbl := tc_3 _ (List.mem_of_getElem? (i := 206) (by decide +kernel))
set_option maxRecDepth 40000 in
theorem tw_737 : (.code yX3_takeOut cX3_takeOut 2 none : Cond) ∈ lw_tbl := tc_3 _ (List.mem_of_getElem? (i := 207) (by decide +kernel))
set_option maxRecDepth 40000 in
theorem tw_738 : (.methodLink RX11 389 yX0_tellNothing : Cond) ∈ lw_tbl := tc_3 _ (List.mem_of_getElem? (i := 208) (by decide +kernel))
set_option maxRecDepth 40000 in
theorem tw_739 : (.instanceMethod yX0_tellNothing : Cond) ∈ lw_tbl := tc_3 _ (List.mem_of_getElem? (i := 209) (by decide +kernel))
set_option maxRecDepth 40000 in
theorem tw_740 : (.selects RX0 yX0_tellNothing yX0_tellNothing : Cond) ∈ lw_tbl := tc_3 _ (List.mem_of_getElem? (i := 210) (by decide +kernel))
set_option maxRecDepth 40000 in
theorem tw_741 : (.code yX0_tellNothing cX0_tellNothing 1 none : Cond) ∈ lw_tbl := tc_3 _ (List.mem_of_getElem? (i := 211) (by decide +kernel))
set_option maxRecDepth 40000 in
theorem tw_742 : (.methodLink RX11 150 yX9_count : Cond) ∈ lw_tbl := tc_3 _ (List.mem_of_getElem? (i := 212) (by decide +kernel))
set_option maxRecDepth 40000 in
theorem tw_743 : (.instanceMethod yX9_count : Cond) ∈ lw_tbl := tc_3 _ (List.mem_of_getElem? (i := 213) (by decide +kernel))
set_option maxRecDepth 40000 in
theorem tw_744 : (.selects RX9 yX9_count yX9_count : Cond) ∈ lw_tbl := tc_3 _ (List.mem_of_getElem? (i := 214) (by decide +kernel))
set_option maxRecDepth 40000 in
theorem tw_745 : (.code yX9_count cX9_count 5 none : Cond) ∈ lw_tbl := tc_3 _ (List.mem_of_getElem? (i := 215) (by decide +kernel))
set_option maxRecDepth 40000 in
theorem tw_746 : (.methodLink RX9 26 yX9_leastOf : Cond) ∈ lw_tbl := tc_3 _ (List.mem_of_getElem? (i := 216) (by decide +kernel))
set_option maxRecDepth 40000 in
theorem tw_747 : (.methodLink RX9 30 yX9_halve : Cond) ∈ lw_tbl := tc_3 _ (List.mem_of_getElem? (i := 217) (by decide +kernel))
set_option maxRecDepth 40000 in
theorem tw_748 : (.instanceMethod yX9_halve : Cond) ∈ lw_tbl := tc_3 _ (List.mem_of_getElem? (i := 218) (by decide +kernel))
set_option maxRecDepth 40000 in
theorem tw_749 : (.selects RX9 yX9_halve yX9_halve : Cond) ∈ lw_tbl := tc_3 _ (List.mem_of_getElem? (i := 219) (by decide +kernel))
set_option maxRecDepth 40000 in
theorem tw_750 : (.code yX9_halve cX9_halve 2 none : Cond) ∈ lw_tbl := tc_3 _ (List.mem_of_getElem? (i := 220) (by decide +kernel))
set_option maxRecDepth 40000 in
theorem tw_751 : (.methodLink RL 120 yL_value : Cond) ∈ lw_tbl := tc_3 _ (List.mem_of_getElem? (i := 221) (by decide +kernel))
set_option maxRecDepth 40000 in
theorem tw_752 : (.static yL_value : Cond) ∈ lw_tbl := tc_3 _ (List.mem_of_getElem? (i := 222) (by decide +kernel))
set_option maxRecDepth 40000 in
theorem tw_753 : (.codeWith yL_value cL_value 3 (some .int) [(0, 8, 11, 29)] : Cond) ∈ lw_tbl := tc_3 _ (List.mem_of_getElem? (i := 223) (by decide +kernel))
set_option maxRecDepth 40000 in
theorem tw_754 : (.classLink RL 29 "java/util/NoSuchElementException" : Cond) ∈ lw_tbl := tc_3 _ (List.mem_of_getElem? (i := 224) (by decide +kernel))
set_option maxRecDepth 40000 in
theorem tw_755 : (.methodLink RL 25 yX11_value : Cond) ∈ lw_tbl := tc_3 _ (List.mem_of_getElem? (i := 225) (by decide +kernel))
set_option maxRecDepth 40000 in
theorem tw_756 : (.instanceMethod yX11_value : Cond) ∈ lw_tbl := tc_3 _ (List.mem_of_getElem? (i := 226) (by decide +kernel))
set_option maxRecDepth 40000 in
theorem tw_757 : (.selects RX11 yX11_value yX11_value : Cond) ∈ lw_tbl := tc_3 _ (List.mem_of_getElem? (i := 227) (by decide +kernel))
set_option maxRecDepth 40000 in
theorem tw_758 : (.code yX11_value cX11_value 1 (some .int) : Cond) ∈ lw_tbl := tc_3 _ (List.mem_of_getElem? (i := 228) (by decide +kernel))
set_option maxRecDepth 40000 in
theorem tw_759 : (.methodLink RX11 152 yX11_requireAnswer : Cond) ∈ lw_tbl := tc_3 _ (List.mem_of_getElem? (i := 229) (by decide +kernel))
set_option maxRecDepth 40000 in
theorem tw_761 : (.instanceMethod yX11_requireAnswer : Cond) ∈ lw_tbl := tc_3 _ (List.mem_of_getElem? (i := 231) (by decide +kernel))
set_option maxRecDepth 40000 in
theorem tw_762 : (.code yX11_requireAnswer cX11_requireAnswer 1 none : Cond) ∈ lw_tbl := tc_3 _ (List.mem_of_getElem? (i := 232) (by decide +kernel))
set_option maxRecDepth 40000 in
theorem tw_763 : (.classLink RX11 161 "java/util/NoSuchElementException" : Cond) ∈ lw_tbl := tc_3 _ (List.mem_of_getElem? (i := 233) (by decide +kernel))
set_option maxRecDepth 40000 in
theorem tw_779 : (.methodLink RL 124 yL_staleness : Cond) ∈ lw_tbl := tc_4 _ (List.mem_of_getElem? (i := 9) (by decide +kernel))
set_option maxRecDepth 40000 in
theorem tw_780 : (.static yL_staleness : Cond) ∈ lw_tbl := tc_4 _ (List.mem_of_getElem? (i := 10) (by decide +kernel))
set_option maxRecDepth 40000 in
theorem tw_781 : (.codeWith yL_staleness cL_staleness 3 (some .int) [(0, 8, 11, 29)] : Cond) ∈ lw_tbl := tc_4 _ (List.mem_of_getElem? (i := 11) (by decide +kernel))
set_option maxRecDepth 40000 in
theorem tw_782 : (.methodLink RL 31 yX11_staleness : Cond) ∈ lw_tbl := tc_4 _ (List.mem_of_getElem? (i := 12) (by decide +kernel))
set_option maxRecDepth 40000 in
theorem tw_783 : (.instanceMethod yX11_staleness : Cond) ∈ lw_tbl := tc_4 _ (List.mem_of_getElem? (i := 13) (by decide +kernel))
set_option maxRecDepth 40000 in
theorem tw_784 : (.selects RX11 yX11_staleness yX11_staleness : Cond) ∈ lw_tbl := tc_4 _ (List.mem_of_getElem? (i := 14) (by decide +kernel))
set_option maxRecDepth 40000 in
theorem tw_785 : (.code yX11_staleness cX11_staleness 1 (some .int) : Cond) ∈ lw_tbl := tc_4 _ (List.mem_of_getElem? (i := 15) (by decide +kernel))
set_option maxRecDepth 40000 in
theorem tw_786 : (.methodLink RL 127 yL_lease : Cond) ∈ lw_tbl := tc_4 _ (List.mem_of_getElem? (i := 16) (by decide +kernel))
set_option maxRecDepth 40000 in
theorem tw_787 : (.static yL_lease : Cond) ∈ lw_tbl := tc_4 _ (List.mem_of_getElem? (i := 17) (by decide +kernel))
set_option maxRecDepth 40000 in
theorem tw_788 : (.codeWith yL_lease cL_lease 3 (some .int) [(0, 8, 11, 29)] : Cond) ∈ lw_tbl := tc_4 _ (List.mem_of_getElem? (i := 18) (by decide +kernel))
set_option maxRecDepth 40000 in
theorem tw_789 : (.methodLink RL 34 yX11_lease : Cond) ∈ lw_tbl := tc_4 _ (List.mem_of_getElem? (i := 19) (by decide +kernel))
set_option maxRecDepth 40000 in
theorem tw_790 : (.instanceMethod yX11_lease : Cond) ∈ lw_tbl := tc_4 _ (List.mem_of_getElem? (i := 20) (by decide +kernel))
set_option maxRecDepth 40000 in
theorem tw_791 : (.selects RX11 yX11_lease yX11_lease : Cond) ∈ lw_tbl := tc_4 _ (List.mem_of_getElem? (i := 21) (by decide +kernel))
set_option maxRecDepth 40000 in
theorem tw_792 : (.code yX11_lease cX11_lease 1 (some .int) : Cond) ∈ lw_tbl := tc_4 _ (List.mem_of_getElem? (i := 22) (by decide +kernel))
set_option maxRecDepth 40000 in
theorem tw_794 : (.methodLink RL 130 yL_read : Cond) ∈ lw_tbl := tc_4 _ (List.mem_of_getElem? (i := 24) (by decide +kernel))
set_option maxRecDepth 40000 in
theorem tw_795 : (.static yL_read : Cond) ∈ lw_tbl := tc_4 _ (List.mem_of_getElem? (i := 25) (by decide +kernel))
set_option maxRecDepth 40000 in
theorem tw_796 : (.codeWith yL_read cL_read 4 (some .int) [(0, 9, 12, 13), (0, 9, 15, 17)] : Cond) ∈ lw_tbl := tc_4 _ (List.mem_of_getElem? (i := 26) (by decide +kernel))
set_option maxRecDepth 40000 in
theorem tw_797 : (.methodLink RL 37 yX11_read : Cond) ∈ lw_tbl := tc_4 _ (List.mem_of_getElem? (i := 27) (by decide +kernel))
set_option maxRecDepth 40000 in
theorem tw_798 : (.instanceMethod yX11_read : Cond) ∈ lw_tbl := tc_4 _ (List.mem_of_getElem? (i := 28) (by decide +kernel))
set_option maxRecDepth 40000 in
theorem tw_799 : (.selects RX11 yX11_read yX11_read : Cond) ∈ lw_tbl := tc_4 _ (List.mem_of_getElem? (i := 29) (by decide +kernel))
set_option maxRecDepth 40000 in
theorem tw_800 : (.code yX11_read cX11_read 4 (some .int) : Cond) ∈ lw_tbl := tc_4 _ (List.mem_of_getElem? (i := 30) (by decide +kernel))
set_option maxRecDepth 40000 in
theorem tw_801 : (.methodLink RX11 166 yX11_requireLease : Cond) ∈ lw_tbl := tc_4 _ (List.mem_of_getElem? (i := 31) (by decide +kernel))
set_option maxRecDepth 40000 in
theorem tw_803 : (.instanceMethod yX11_requireLease : Cond) ∈ lw_tbl := tc_4 _ (List.mem_of_getElem? (i := 33) (by decide +kernel))
set_option maxRecDepth 40000 in
theorem tw_804 : (.code yX11_requireLease cX11_requireLease 2 none : Cond) ∈ lw_tbl := tc_4 _ (List.mem_of_getElem? (i := 34) (by decide +kernel))
set_option maxRecDepth 40000 in
theorem tw_806 : (.methodLink RX11 169 yX5_stateOf : Cond) ∈ lw_tbl := tc_4 _ (List.mem_of_getElem? (i := 36) (by decide +kernel))
set_option maxRecDepth 40000 in
theorem tw_808 : (.methodLink RX11 194 yX2_put : Cond) ∈ lw_tbl := tc_4 _ (List.mem_of_getElem? (i := 38) (by decide +kernel))
set_option maxRecDepth 40000 in
theorem tw_809 : (.methodLink RL 134 yL_fill : Cond) ∈ lw_tbl := tc_4 _ (List.mem_of_getElem? (i := 39) (by decide +kernel))
set_option maxRecDepth 40000 in
theorem tw_810 : (.static yL_fill : Cond) ∈ lw_tbl := tc_4 _ (List.mem_of_getElem? (i := 40) (by decide +kernel))
set_option maxRecDepth 40000 in
theorem tw_811 : (.codeWith yL_fill cL_fill 4 (some .int) [(0, 9, 12, 13), (0, 9, 15, 17)] : Cond) ∈ lw_tbl := tc_4 _ (List.mem_of_getElem? (i := 41) (by decide +kernel))
set_option maxRecDepth 40000 in
theorem tw_812 : (.methodLink RL 41 yX11_fill : Cond) ∈ lw_tbl := tc_4 _ (List.mem_of_getElem? (i := 42) (by decide +kernel))
set_option maxRecDepth 40000 in
theorem tw_813 : (.instanceMethod yX11_fill : Cond) ∈ lw_tbl := tc_4 _ (List.mem_of_getElem? (i := 43) (by decide +kernel))
set_option maxRecDepth 40000 in
theorem tw_814 : (.selects RX11 yX11_fill yX11_fill : Cond) ∈ lw_tbl := tc_4 _ (List.mem_of_getElem? (i := 44) (by decide +kernel))
set_option maxRecDepth 40000 in
theorem tw_815 : (.code yX11_fill cX11_fill 3 (some .char) : Cond) ∈ lw_tbl := tc_4 _ (List.mem_of_getElem? (i := 45) (by decide +kernel))
set_option maxRecDepth 40000 in
theorem tw_817 : (.methodLink RL 137 yL_leaseState : Cond) ∈ lw_tbl := tc_4 _ (List.mem_of_getElem? (i := 47) (by decide +kernel))
set_option maxRecDepth 40000 in
theorem tw_818 : (.static yL_leaseState : Cond) ∈ lw_tbl := tc_4 _ (List.mem_of_getElem? (i := 48) (by decide +kernel))
set_option maxRecDepth 40000 in
theorem tw_819 : (.codeWith yL_leaseState cL_leaseState 4 (some .int) [(0, 9, 12, 13)] : Cond) ∈ lw_tbl := tc_4 _ (List.mem_of_getElem? (i := 49) (by decide +kernel))
set_option maxRecDepth 40000 in
theorem tw_820 : (.methodLink RL 45 yX11_leaseState : Cond) ∈ lw_tbl := tc_4 _ (List.mem_of_getElem? (i := 50) (by decide +kernel))
set_option maxRecDepth 40000 in
theorem tw_821 : (.instanceMethod yX11_leaseState : Cond) ∈ lw_tbl := tc_4 _ (List.mem_of_getElem? (i := 51) (by decide +kernel))
set_option maxRecDepth 40000 in
theorem tw_822 : (.selects RX11 yX11_leaseState yX11_leaseState : Cond) ∈ lw_tbl := tc_4 _ (List.mem_of_getElem? (i := 52) (by decide +kernel))
set_option maxRecDepth 40000 in
theorem tw_823 : (.code yX11_leaseState cX11_leaseState 2 (some .char) : Cond) ∈ lw_tbl := tc_4 _ (List.mem_of_getElem? (i := 53) (by decide +kernel))
set_option maxRecDepth 40000 in
theorem tw_824 : (.methodLink RL 140 yL_write : Cond) ∈ lw_tbl := tc_4 _ (List.mem_of_getElem? (i := 54) (by decide +kernel))
set_option maxRecDepth 40000 in
theorem tw_825 : (.static yL_write : Cond) ∈ lw_tbl := tc_4 _ (List.mem_of_getElem? (i := 55) (by decide +kernel))
set_option maxRecDepth 40000 in
theorem tw_826 : (.codeWith yL_write cL_write 6 (some .int) [(0, 12, 15, 13), (0, 12, 19, 15), (0, 12, 23, 17), (0, 12, 27, 23)] : Cond) ∈ lw_tbl := tc_4 _ (List.mem_of_getElem? (i := 56) (by decide +kernel))
set_option maxRecDepth 40000 in
theorem tw_827 : (.methodLink RL 48 yX11_write : Cond) ∈ lw_tbl := tc_4 _ (List.mem_of_getElem? (i := 57) (by decide +kernel))
set_option maxRecDepth 40000 in
theorem tw_828 : (.instanceMethod yX11_write : Cond) ∈ lw_tbl := tc_4 _ (List.mem_of_getElem? (i := 58) (by decide +kernel))
set_option maxRecDepth 40000 in
theorem tw_829 : (.selects RX11 yX11_write yX11_write : Cond) ∈ lw_tbl := tc_4 _ (List.mem_of_getElem? (i := 59) (by decide +kernel))
set_option maxRecDepth 40000 in
theorem tw_830 : (.code yX11_write cX11_write 4 (some .int) : Cond) ∈ lw_tbl := tc_4 _ (List.mem_of_getElem? (i := 60) (by decide +kernel))
set_option maxRecDepth 40000 in
theorem tw_834 : (.methodLink RX11 227 yX11_writeThrough : Cond) ∈ lw_tbl := tc_4 _ (List.mem_of_getElem? (i := 64) (by decide +kernel))
set_option maxRecDepth 40000 in
theorem tw_836 : (.instanceMethod yX11_writeThrough : Cond) ∈ lw_tbl := tc_4 _ (List.mem_of_getElem? (i := 66) (by decide +kernel))
set_option maxRecDepth 40000 in
theorem tw_837 : (.code yX11_writeThrough cX11_writeThrough 4 none : Cond) ∈ lw_tbl := tc_4 _ (List.mem_of_getElem? (i := 67) (by decide +kernel))
set_option maxRecDepth 40000 in
theorem tw_838 : (.methodLink RX11 234 yX11_writeStore : Cond) ∈ lw_tbl := tc_4 _ (List.mem_of_getElem? (i := 68) (by decide +kernel))
set_option maxRecDepth 40000 in
theorem tw_840 : (.instanceMethod yX11_writeStore : Cond) ∈ lw_tbl := tc_4 _ (List.mem_of_getElem? (i := 70) (by decide +kernel))
set_option maxRecDepth 40000 in
theorem tw_841 : (.code yX11_writeStore cX11_writeStore 4 (some .int) : Cond) ∈ lw_tbl := tc_4 _ (List.mem_of_getElem? (i := 71) (by decide +kernel))
set_option maxRecDepth 40000 in
theorem tw_842 : (.methodLink RX11 437 yX10_put : Cond) ∈ lw_tbl := tc_4 _ (List.mem_of_getElem? (i := 72) (by decide +kernel))
set_option maxRecDepth 40000 in
theorem tw_843 : (.instanceMethod yX10_put : Cond) ∈ lw_tbl := tc_4 _ (List.mem_of_getElem? (i := 73) (by decide +kernel))
set_option maxRecDepth 40000 in
theorem tw_844 : (.selects RX10 yX10_put yX10_put : Cond) ∈ lw_tbl := tc_4 _ (List.mem_of_getElem? (i := 74) (by decide +kernel))
set_option maxRecDepth 40000 in
theorem tw_845 : (.code yX10_put cX10_put 4 (some .int) : Cond) ∈ lw_tbl := tc_4 _ (List.mem_of_getElem? (i := 75) (by decide +kernel))
set_option maxRecDepth 40000 in
theorem tw_846 : (.methodLink RX11 439 yX7_send : Cond) ∈ lw_tbl := tc_4 _ (List.mem_of_getElem? (i := 76) (by decide +kernel))
set_option maxRecDepth 40000 in
theorem tw_847 : (.instanceMethod yX7_send : Cond) ∈ lw_tbl := tc_4 _ (List.mem_of_getElem? (i := 77) (by decide +kernel))
set_option maxRecDepth 40000 in
theorem tw_848 : (.selects RX7 yX7_send yX7_send : Cond) ∈ lw_tbl := tc_4 _ (List.mem_of_getElem? (i := 78) (by decide +kernel))
set_option maxRecDepth 40000 in
theorem tw_849 : (.code yX7_send cX7_send 4 none : Cond) ∈ lw_tbl := tc_4 _ (List.mem_of_getElem? (i := 79) (by decide +kernel))
set_option maxRecDepth 40000 in
theorem tw_850 : (.methodLink RX11 442 yX8_remove : Cond) ∈ lw_tbl := tc_4 _ (List.mem_of_getElem? (i := 80) (by decide +kernel))
set_option maxRecDepth 40000 in
theorem tw_851 : (.instanceMethod yX8_remove : Cond) ∈ lw_tbl := tc_4 _ (List.mem_of_getElem? (i := 81) (by decide +kernel))
set_option maxRecDepth 40000 in
theorem tw_852 : (.selects RX8 yX8_remove yX8_remove : Cond) ∈ lw_tbl := tc_4 _ (List.mem_of_getElem? (i := 82) (by decide +kernel))
set_option maxRecDepth 40000 in
theorem tw_853 : (.code yX8_remove cX8_remove 2 none : Cond) ∈ lw_tbl := tc_4 _ (List.mem_of_getElem? (i := 83) (by decide +kernel))
set_option maxRecDepth 40000 in
theorem tw_854 : (.methodLink RX11 250 yX5_voidFor : Cond) ∈ lw_tbl := tc_4 _ (List.mem_of_getElem? (i := 84) (by decide +kernel))
set_option maxRecDepth 40000 in
theorem tw_855 : (.instanceMethod yX5_voidFor : Cond) ∈ lw_tbl := tc_4 _ (List.mem_of_getElem? (i := 85) (by decide +kernel))
set_option maxRecDepth 40000 in
theorem tw_856 : (.selects RX5 yX5_voidFor yX5_voidFor : Cond) ∈ lw_tbl := tc_4 _ (List.mem_of_getElem? (i := 86) (by decide +kernel))
set_option maxRecDepth 40000 in
theorem tw_857 : (.code yX5_voidFor cX5_voidFor 3 none : Cond) ∈ lw_tbl := tc_4 _ (List.mem_of_getElem? (i := 87) (by decide +kernel))
set_option maxRecDepth 40000 in
theorem tw_858 : (.methodLink RX11 231 yX11_writeBehind : Cond) ∈ lw_tbl := tc_4 _ (List.mem_of_getElem? (i := 88) (by decide +kernel))
set_option maxRecDepth 40000 in
theorem tw_860 : (.instanceMethod yX11_writeBehind : Cond) ∈ lw_tbl := tc_4 _ (List.mem_of_getElem? (i := 90) (by decide +kernel))
set_option maxRecDepth 40000 in
theorem tw_861 : (.code yX11_writeBehind cX11_writeBehind 3 none : Cond) ∈ lw_tbl := tc_4 _ (List.mem_of_getElem? (i := 91) (by decide +kernel))
set_option maxRecDepth 40000 in
theorem tw_862 : (.methodLink RX11 444 yX8_add : Cond) ∈ lw_tbl := tc_4 _ (List.mem_of_getElem? (i := 92) (by decide +kernel))
set_option maxRecDepth 40000 in
theorem tw_863 : (.instanceMethod yX8_add : Cond) ∈ lw_tbl := tc_4 _ (List.mem_of_getElem? (i := 93) (by decide +kernel))
set_option maxRecDepth 40000 in
theorem tw_864 : (.selects RX8 yX8_add yX8_add : Cond) ∈ lw_tbl := tc_4 _ (List.mem_of_getElem? (i := 94) (by decide +kernel))
set_option maxRecDepth 40000 in
theorem tw_865 : (.code yX8_add cX8_add 4 none : Cond) ∈ lw_tbl := tc_4 _ (List.mem_of_getElem? (i := 95) (by decide +kernel))
set_option maxRecDepth 40000 in
theorem tw_866 : (.methodLink RL 144 yL_drop : Cond) ∈ lw_tbl := tc_4 _ (List.mem_of_getElem? (i := 96) (by decide +kernel))
set_option maxRecDepth 40000 in
theorem tw_867 : (.static yL_drop : Cond) ∈ lw_tbl := tc_4 _ (List.mem_of_getElem? (i := 97) (by decide +kernel))
set_option maxRecDepth 40000 in
theorem tw_868 : (.codeWith yL_drop cL_drop 4 (some .int) [(0, 16, 19, 13), (0, 16, 22, 17)] : Cond) ∈ lw_tbl := tc_4 _ (List.mem_of_getElem? (i := 98) (by decide +kernel))
set_option maxRecDepth 40000 in
theorem tw_869 : (.methodLink RL 52 yX11_drop : Cond) ∈ lw_tbl := tc_4 _ (List.mem_of_getElem? (i := 99) (by decide +kernel))
set_option maxRecDepth 40000 in
theorem tw_870 : (.instanceMethod yX11_drop : Cond) ∈ lw_tbl := tc_4 _ (List.mem_of_getElem? (i := 100) (by decide +kernel))
set_option maxRecDepth 40000 in
theorem tw_871 : (.selects RX11 yX11_drop yX11_drop : Cond) ∈ lw_tbl := tc_4 _ (List.mem_of_getElem? (i := 101) (by decide +kernel))
set_option maxRecDepth 40000 in
theorem tw_872 : (.code yX11_drop cX11_drop 3 (some .boolean) : Cond) ∈ lw_tbl := tc_4 _ (List.mem_of_getElem? (i := 102) (by decide +kernel))
set_option maxRecDepth 40000 in
theorem tw_873 : (.methodLink RX11 241 yX11_keepPromise : Cond) ∈ lw_tbl := tc_4 _ (List.mem_of_getElem? (i := 103) (by decide +kernel))
set_option maxRecDepth 40000 in
theorem tw_875 : (.instanceMethod yX11_keepPromise : Cond) ∈ lw_tbl := tc_4 _ (List.mem_of_getElem? (i := 105) (by decide +kernel))
set_option maxRecDepth 40000 in
theorem tw_876 : (.code yX11_keepPromise cX11_keepPromise 3 none : Cond) ∈ lw_tbl := tc_4 _ (List.mem_of_getElem? (i := 106) (by decide +kernel))
set_option maxRecDepth 40000 in
theorem tw_877 : (.methodLink RL 147 yL_bump : Cond) ∈ lw_tbl := tc_4 _ (List.mem_of_getElem? (i := 107) (by decide +kernel))
set_option maxRecDepth 40000 in
theorem tw_878 : (.static yL_bump : Cond) ∈ lw_tbl := tc_4 _ (List.mem_of_getElem? (i := 108) (by decide +kernel))
set_option maxRecDepth 40000 in
theorem tw_879 : (.codeWith yL_bump cL_bump 4 (some .int) [(0, 9, 12, 13), (0, 9, 15, 17)] : Cond) ∈ lw_tbl := tc_4 _ (List.mem_of_getElem? (i := 109) (by decide +kernel))
set_option maxRecDepth 40000 in
theorem tw_880 : (.methodLink RL 56 yX11_bump : Cond) ∈ lw_tbl := tc_4 _ (List.mem_of_getElem? (i := 110) (by decide +kernel))
set_option maxRecDepth 40000 in
theorem tw_881 : (.instanceMethod yX11_bump : Cond) ∈ lw_tbl := tc_4 _ (List.mem_of_getElem? (i := 111) (by decide +kernel))
set_option maxRecDepth 40000 in
theorem tw_882 : (.selects RX11 yX11_bump yX11_bump : Cond) ∈ lw_tbl := tc_4 _ (List.mem_of_getElem? (i := 112) (by decide +kernel))
set_option maxRecDepth 40000 in
theorem tw_883 : (.code yX11_bump cX11_bump 3 (some .int) : Cond) ∈ lw_tbl := tc_4 _ (List.mem_of_getElem? (i := 113) (by decide +kernel))
set_option maxRecDepth 40000 in
theorem tw_885 : (.methodLink RX11 258 yX11_keepPromises : Cond) ∈ lw_tbl := tc_4 _ (List.mem_of_getElem? (i := 115) (by decide +kernel))
set_option maxRecDepth 40000 in
theorem tw_887 : (.instanceMethod yX11_keepPromises : Cond) ∈ lw_tbl := tc_4 _ (List.mem_of_getElem? (i := 117) (by decide +kernel))
set_option maxRecDepth 40000 in
theorem tw_888 : (.code yX11_keepPromises cX11_keepPromises 6 (some .int) : Cond) ∈ lw_tbl := tc_4 _ (List.mem_of_getElem? (i := 118) (by decide +kernel))
set_option maxRecDepth 40000 in
theorem tw_889 : (.methodLink RX11 320 yX8_nextOf : Cond) ∈ lw_tbl := tc_4 _ (List.mem_of_getElem? (i := 119) (by decide +kernel))
set_option maxRecDepth 40000 in
theorem tw_890 : (.instanceMethod yX8_nextOf : Cond) ∈ lw_tbl := tc_4 _ (List.mem_of_getElem? (i := 120) (by decide +kernel))
set_option maxRecDepth 40000 in
theorem tw_891 : (.selects RX8 yX8_nextOf yX8_nextOf : Cond) ∈ lw_tbl := tc_4 _ (List.mem_of_getElem? (i := 121) (by decide +kernel))
set_option maxRecDepth 40000 in
theorem tw_892 : (.code yX8_nextOf cX8_nextOf 6 (some .int) : Cond) ∈ lw_tbl := tc_4 _ (List.mem_of_getElem? (i := 122) (by decide +kernel))
set_option maxRecDepth 40000 in
theorem tw_893 : (.methodLink RX8 31 yX8_isBefore : Cond) ∈ lw_tbl := tc_4 _ (List.mem_of_getElem? (i := 123) (by decide +kernel))
set_option maxRecDepth 40000 in
theorem tw_894 : (.instanceMethod yX8_isBefore : Cond) ∈ lw_tbl := tc_4 _ (List.mem_of_getElem? (i := 124) (by decide +kernel))
set_option maxRecDepth 40000 in
theorem tw_895 : (.selects RX8 yX8_isBefore yX8_isBefore : Cond) ∈ lw_tbl := tc_4 _ (List.mem_of_getElem? (i := 125) (by decide +kernel))
set_option maxRecDepth 40000 in
theorem tw_896 : (.code yX8_isBefore cX8_isBefore 4 (some .boolean) : Cond) ∈ lw_tbl := tc_4 _ (List.mem_of_getElem? (i := 126) (by decide +kernel))
set_option maxRecDepth 40000 in
theorem tw_897 : (.methodLink RL 150 yL_pass : Cond) ∈ lw_tbl := tc_4 _ (List.mem_of_getElem? (i := 127) (by decide +kernel))
set_option maxRecDepth 40000 in
theorem tw_898 : (.static yL_pass : Cond) ∈ lw_tbl := tc_4 _ (List.mem_of_getElem? (i := 128) (by decide +kernel))
set_option maxRecDepth 40000 in
theorem tw_899 : (.codeWith yL_pass cL_pass 4 (some .int) [(0, 9, 12, 15), (0, 9, 15, 17)] : Cond) ∈ lw_tbl := tc_4 _ (List.mem_of_getElem? (i := 129) (by decide +kernel))
set_option maxRecDepth 40000 in
theorem tw_900 : (.methodLink RL 59 yX11_pass : Cond) ∈ lw_tbl := tc_4 _ (List.mem_of_getElem? (i := 130) (by decide +kernel))
set_option maxRecDepth 40000 in
theorem tw_901 : (.instanceMethod yX11_pass : Cond) ∈ lw_tbl := tc_4 _ (List.mem_of_getElem? (i := 131) (by decide +kernel))
set_option maxRecDepth 40000 in
theorem tw_902 : (.selects RX11 yX11_pass yX11_pass : Cond) ∈ lw_tbl := tc_4 _ (List.mem_of_getElem? (i := 132) (by decide +kernel))
set_option maxRecDepth 40000 in
theorem tw_903 : (.code yX11_pass cX11_pass 4 (some .int) : Cond) ∈ lw_tbl := tc_4 _ (List.mem_of_getElem? (i := 133) (by decide +kernel))
set_option maxRecDepth 40000 in
theorem tw_905 : (.methodLink RL 153 yL_crash : Cond) ∈ lw_tbl := tc_4 _ (List.mem_of_getElem? (i := 135) (by decide +kernel))
set_option maxRecDepth 40000 in
theorem tw_906 : (.static yL_crash : Cond) ∈ lw_tbl := tc_4 _ (List.mem_of_getElem? (i := 136) (by decide +kernel))
set_option maxRecDepth 40000 in
theorem tw_907 : (.codeWith yL_crash cL_crash 3 (some .int) [(0, 8, 11, 17)] : Cond) ∈ lw_tbl := tc_4 _ (List.mem_of_getElem? (i := 137) (by decide +kernel))
set_option maxRecDepth 40000 in
theorem tw_908 : (.methodLink RL 62 yX11_crash : Cond) ∈ lw_tbl := tc_4 _ (List.mem_of_getElem? (i := 138) (by decide +kernel))
set_option maxRecDepth 40000 in
theorem tw_909 : (.instanceMethod yX11_crash : Cond) ∈ lw_tbl := tc_4 _ (List.mem_of_getElem? (i := 139) (by decide +kernel))
set_option maxRecDepth 40000 in
theorem tw_910 : (.selects RX11 yX11_crash yX11_crash : Cond) ∈ lw_tbl := tc_4 _ (List.mem_of_getElem? (i := 140) (by decide +kernel))
set_option maxRecDepth 40000 in
theorem tw_911 : (.code yX11_crash cX11_crash 2 (some .int) : Cond) ∈ lw_tbl := tc_4 _ (List.mem_of_getElem? (i := 141) (by decide +kernel))
set_option maxRecDepth 40000 in
theorem tw_912 : (.methodLink RX11 266 yX6_entries : Cond) ∈ lw_tbl := tc_4 _ (List.mem_of_getElem? (i := 142) (by decide +kernel))
set_option maxRecDepth 40000 in
theorem tw_913 : (.instanceMethod yX6_entries : Cond) ∈ lw_tbl := tc_4 _ (List.mem_of_getElem? (i := 143) (by decide +kernel))
set_option maxRecDepth 40000 in
theorem tw_914 : (.selects RX6 yX6_entries yX6_entries : Cond) ∈ lw_tbl := tc_4 _ (List.mem_of_getElem? (i := 144) (by decide +kernel))
set_option maxRecDepth 40000 in
theorem tw_915 : (.code yX6_entries cX6_entries 3 (some .int) : Cond) ∈ lw_tbl := tc_4 _ (List.mem_of_getElem? (i := 145) (by decide +kernel))
set_option maxRecDepth 40000 in
theorem tw_916 : (.methodLink RX11 270 yX6_clear : Cond) ∈ lw_tbl := tc_4 _ (List.mem_of_getElem? (i := 146) (by decide +kernel))
set_option maxRecDepth 40000 in
theorem tw_917 : (.instanceMethod yX6_clear : Cond) ∈ lw_tbl := tc_4 _ (List.mem_of_getElem? (i := 147) (by decide +kernel))
set_option maxRecDepth 40000 in
theorem tw_918 : (.selects RX6 yX6_clear yX6_clear : Cond) ∈ lw_tbl := tc_4 _ (List.mem_of_getElem? (i := 148) (by decide +kernel))
set_option maxRecDepth 40000 in
theorem tw_919 : (.code yX6_clear cX6_clear 2 none : Cond) ∈ lw_tbl := tc_4 _ (List.mem_of_getElem? (i := 149) (by decide +kernel))
set_option maxRecDepth 40000 in
theorem tw_920 : (.methodLink RX11 273 yX9_clear : Cond) ∈ lw_tbl := tc_4 _ (List.mem_of_getElem? (i := 150) (by decide +kernel))
set_option maxRecDepth 40000 in
theorem tw_921 : (.instanceMethod yX9_clear : Cond) ∈ lw_tbl := tc_4 _ (List.mem_of_getElem? (i := 151) (by decide +kernel))
set_option maxRecDepth 40000 in
theorem tw_922 : (.selects RX9 yX9_clear yX9_clear : Cond) ∈ lw_tbl := tc_4 _ (List.mem_of_getElem? (i := 152) (by decide +kernel))
set_option maxRecDepth 40000 in
theorem tw_923 : (.code yX9_clear cX9_clear 2 none : Cond) ∈ lw_tbl := tc_4 _ (List.mem_of_getElem? (i := 153) (by decide +kernel))
set_option maxRecDepth 40000 in
theorem tw_924 : (.methodLink RX11 274 yX5_voidAll : Cond) ∈ lw_tbl := tc_4 _ (List.mem_of_getElem? (i := 154) (by decide +kernel))
set_option maxRecDepth 40000 in
theorem tw_925 : (.instanceMethod yX5_voidAll : Cond) ∈ lw_tbl := tc_4 _ (List.mem_of_getElem? (i := 155) (by decide +kernel))
set_option maxRecDepth 40000 in
theorem tw_926 : (.selects RX5 yX5_voidAll yX5_voidAll : Cond) ∈ lw_tbl := tc_4 _ (List.mem_of_getElem? (i := 156) (by decide +kernel))
set_option maxRecDepth 40000 in
theorem tw_927 : (.code yX5_voidAll cX5_voidAll 2 none : Cond) ∈ lw_tbl := tc_4 _ (List.mem_of_getElem? (i := 157) (by decide +kernel))
set_option maxRecDepth 40000 in
theorem tw_928 : (.methodLink RX5 47 yX5_voidFor : Cond) ∈ lw_tbl := tc_4 _ (List.mem_of_getElem? (i := 158) (by decide +kernel))
set_option maxRecDepth 40000 in
theorem tw_929 : (.methodLink RX11 277 yX3_loseIndex : Cond) ∈ lw_tbl := tc_4 _ (List.mem_of_getElem? (i := 159) (by decide +kernel))
set_option maxRecDepth 40000 in
theorem tw_930 : (.methodLink RL 156 yL_recover : Cond) ∈ lw_tbl := tc_4 _ (List.mem_of_getElem? (i := 160) (by decide +kernel))
set_option maxRecDepth 40000 in
theorem tw_931 : (.static yL_recover : Cond) ∈ lw_tbl := tc_4 _ (List.mem_of_getElem? (i := 161) (by decide +kernel))
set_option maxRecDepth 40000 in
theorem tw_932 : (.codeWith yL_recover cL_recover 3 (some .int) [(0, 8, 11, 17)] : Cond) ∈ lw_tbl := tc_4 _ (List.mem_of_getElem? (i := 162) (by decide +kernel))
set_option maxRecDepth 40000 in
theorem tw_933 : (.methodLink RL 65 yX11_recover : Cond) ∈ lw_tbl := tc_4 _ (List.mem_of_getElem? (i := 163) (by decide +kernel))
set_option maxRecDepth 40000 in
theorem tw_934 : (.instanceMethod yX11_recover : Cond) ∈ lw_tbl := tc_4 _ (List.mem_of_getElem? (i := 164) (by decide +kernel))
set_option maxRecDepth 40000 in
theorem tw_935 : (.selects RX11 yX11_recover yX11_recover : Cond) ∈ lw_tbl := tc_4 _ (List.mem_of_getElem? (i := 165) (by decide +kernel))
set_option maxRecDepth 40000 in
theorem tw_936 : (.code yX11_recover cX11_recover 1 (some .int) : Cond) ∈ lw_tbl := tc_4 _ (List.mem_of_getElem? (i := 166) (by decide +kernel))
set_option maxRecDepth 40000 in
theorem tw_938 : (.methodLink RX11 282 yX3_readAgain : Cond) ∈ lw_tbl := tc_4 _ (List.mem_of_getElem? (i := 168) (by decide +kernel))
set_option maxRecDepth 40000 in
theorem tw_939 : (.instanceMethod yX3_readAgain : Cond) ∈ lw_tbl := tc_4 _ (List.mem_of_getElem? (i := 169) (by decide +kernel))
set_option maxRecDepth 40000 in
theorem tw_940 : (.selects RX3 yX3_readAgain yX3_readAgain : Cond) ∈ lw_tbl := tc_4 _ (List.mem_of_getElem? (i := 170) (by decide +kernel))
set_option maxRecDepth 40000 in
theorem tw_941 : (.code yX3_readAgain cX3_readAgain 5 none : Cond) ∈ lw_tbl := tc_4 _ (List.mem_of_getElem? (i := 171) (by decide +kernel))
set_option maxRecDepth 40000 in
theorem tw_942 : (.methodLink RX3 51 yX4_numberFor : Cond) ∈ lw_tbl := tc_4 _ (List.mem_of_getElem? (i := 172) (by decide +kernel))
set_option maxRecDepth 40000 in
theorem tw_943 : (.methodLink RX11 286 yX11_comeAgain : Cond) ∈ lw_tbl := tc_4 _ (List.mem_of_getElem? (i := 173) (by decide +kernel))
set_option maxRecDepth 40000 in
theorem tw_945 : (.instanceMethod yX11_comeAgain : Cond) ∈ lw_tbl := tc_4 _ (List.mem_of_getElem? (i := 175) (by decide +kernel))
set_option maxRecDepth 40000 in
theorem tw_946 : (.code yX11_comeAgain cX11_comeAgain 3 none : Cond) ∈ lw_tbl := tc_4 _ (List.mem_of_getElem? (i := 176) (by decide +kernel))
set_option maxRecDepth 40000 in
theorem tw_947 : (.methodLink RX11 431 yX11_nextToComeAgain : Cond) ∈ lw_tbl := tc_4 _ (List.mem_of_getElem? (i := 177) (by decide +kernel))
set_option maxRecDepth 40000 in
theorem tw_949 : (.instanceMethod yX11_nextToComeAgain : Cond) ∈ lw_tbl := tc_4 _ (List.mem_of_getElem? (i := 179) (by decide +kernel))
set_option maxRecDepth 40000 in
theorem tw_950 : (.code yX11_nextToComeAgain cX11_nextToComeAgain 4 (some .int) : Cond) ∈ lw_tbl := tc_4 _ (List.mem_of_getElem? (i := 180) (by decide +kernel))
set_option maxRecDepth 40000 in
theorem tw_951 : (.methodLink RX11 434 yX11_comesAgainBefore : Cond) ∈ lw_tbl := tc_4 _ (List.mem_of_getElem? (i := 181) (by decide +kernel))
set_option maxRecDepth 40000 in
theorem tw_953 : (.instanceMethod yX11_comesAgainBefore : Cond) ∈ lw_tbl := tc_4 _ (List.mem_of_getElem? (i := 183) (by decide +kernel))
set_option maxRecDepth 40000 in
theorem tw_954 : (.code yX11_comesAgainBefore cX11_comesAgainBefore 4 (some .boolean) : Cond) ∈ lw_tbl := tc_4 _ (List.mem_of_getElem? (i := 184) (by decide +kernel))
set_option maxRecDepth 40000 in
theorem tw_955 : (.methodLink RX11 289 yX3_indexed : Cond) ∈ lw_tbl := tc_4 _ (List.mem_of_getElem? (i := 185) (by decide +kernel))
set_option maxRecDepth 40000 in
theorem tw_956 : (.instanceMethod yX3_indexed : Cond) ∈ lw_tbl := tc_4 _ (List.mem_of_getElem? (i := 186) (by decide +kernel))
set_option maxRecDepth 40000 in
theorem tw_957 : (.selects RX3 yX3_indexed yX3_indexed : Cond) ∈ lw_tbl := tc_4 _ (List.mem_of_getElem? (i := 187) (by decide +kernel))
set_option maxRecDepth 40000 in
theorem tw_958 : (.code yX3_indexed cX3_indexed 3 (some .int) : Cond) ∈ lw_tbl := tc_4 _ (List.mem_of_getElem? (i := 188) (by decide +kernel))
set_option maxRecDepth 40000 in
theorem tw_959 : (.methodLink RL 163 yL_where : Cond) ∈ lw_tbl := tc_4 _ (List.mem_of_getElem? (i := 189) (by decide +kernel))
set_option maxRecDepth 40000 in
theorem tw_960 : (.static yL_where : Cond) ∈ lw_tbl := tc_4 _ (List.mem_of_getElem? (i := 190) (by decide +kernel))
set_option maxRecDepth 40000 in
theorem tw_961 : (.codeWith yL_where cL_where 4 (some .int) [(0, 9, 12, 13)] : Cond) ∈ lw_tbl := tc_4 _ (List.mem_of_getElem? (i := 191) (by decide +kernel))
set_option maxRecDepth 40000 in
theorem tw_962 : (.methodLink RL 68 yX11_where : Cond) ∈ lw_tbl := tc_4 _ (List.mem_of_getElem? (i := 192) (by decide +kernel))
set_option maxRecDepth 40000 in
theorem tw_963 : (.instanceMethod yX11_where : Cond) ∈ lw_tbl := tc_4 _ (List.mem_of_getElem? (i := 193) (by decide +kernel))
set_option maxRecDepth 40000 in
theorem tw_964 : (.selects RX11 yX11_where yX11_where : Cond) ∈ lw_tbl := tc_4 _ (List.mem_of_getElem? (i := 194) (by decide +kernel))
set_option maxRecDepth 40000 in
theorem tw_965 : (.code yX11_where cX11_where 2 (some .char) : Cond) ∈ lw_tbl := tc_4 _ (List.mem_of_getElem? (i := 195) (by decide +kernel))
set_option maxRecDepth 40000 in
theorem tw_966 : (.methodLink RL 170 yL_estimate : Cond) ∈ lw_tbl := tc_4 _ (List.mem_of_getElem? (i := 196) (by decide +kernel))
set_option maxRecDepth 40000 in
theorem tw_967 : (.static yL_estimate : Cond) ∈ lw_tbl := tc_4 _ (List.mem_of_getElem? (i := 197) (by decide +kernel))
set_option maxRecDepth 40000 in
theorem tw_968 : (.codeWith yL_estimate cL_estimate 4 (some .int) [(0, 9, 12, 13)] : Cond) ∈ lw_tbl := tc_4 _ (List.mem_of_getElem? (i := 198) (by decide +kernel))
set_option maxRecDepth 40000 in
theorem tw_969 : (.methodLink RL 71 yX11_estimate : Cond) ∈ lw_tbl := tc_4 _ (List.mem_of_getElem? (i := 199) (by decide +kernel))
set_option maxRecDepth 40000 in
theorem tw_970 : (.instanceMethod yX11_estimate : Cond) ∈ lw_tbl := tc_4 _ (List.mem_of_getElem? (i := 200) (by decide +kernel))
set_option maxRecDepth 40000 in
theorem tw_971 : (.selects RX11 yX11_estimate yX11_estimate : Cond) ∈ lw_tbl := tc_4 _ (List.mem_of_getElem? (i := 201) (by decide +kernel))
set_option maxRecDepth 40000 in
theorem tw_972 : (.code yX11_estimate cX11_estimate 2 (some .int) : Cond) ∈ lw_tbl := tc_4 _ (List.mem_of_getElem? (i := 202) (by decide +kernel))
set_option maxRecDepth 40000 in
theorem tw_973 : (.methodLink RL 173 yL_versionOf : Cond) ∈ lw_tbl := tc_4 _ (List.mem_of_getElem? (i := 203) (by decide +kernel))
set_option maxRecDepth 40000 in
theorem tw_974 : (.static yL_versionOf : Cond) ∈ lw_tbl := tc_4 _ (List.mem_of_getElem? (i := 204) (by decide +kernel))
set_option maxRecDepth 40000 in
theorem tw_975 : (.codeWith yL_versionOf cL_versionOf 4 (some .int) [(0, 9, 12, 13), (0, 9, 15, 29)] : Cond) ∈ lw_tbl := tc_4 _ (List.mem_of_getElem? (i := 205) (by decide +kernel))
set_option maxRecDepth 40000 in
theorem tw_976 : (.methodLink RL 74 yX11_versionOf : Cond) ∈ lw_tbl := tc_4 _ (List.mem_of_getElem? (i := 206) (by decide +kernel))
set_option maxRecDepth 40000 in
theorem tw_977 : (.instanceMethod yX11_versionOf : Cond) ∈ lw_tbl := tc_4 _ (List.mem_of_getElem? (i := 207) (by decide +kernel))
set_option maxRecDepth 40000 in
theorem tw_978 : (.selects RX11 yX11_versionOf yX11_versionOf : Cond) ∈ lw_tbl := tc_4 _ (List.mem_of_getElem? (i := 208) (by decide +kernel))
set_option maxRecDepth 40000 in
theorem tw_979 : (.code yX11_versionOf cX11_versionOf 2 (some .int) : Cond) ∈ lw_tbl := tc_4 _ (List.mem_of_getElem? (i := 209) (by decide +kernel))
set_option maxRecDepth 40000 in
theorem tw_981 : (.methodLink RL 176 yL_slot : Cond) ∈ lw_tbl := tc_4 _ (List.mem_of_getElem? (i := 211) (by decide +kernel))
set_option maxRecDepth 40000 in
theorem tw_982 : (.static yL_slot : Cond) ∈ lw_tbl := tc_4 _ (List.mem_of_getElem? (i := 212) (by decide +kernel))
set_option maxRecDepth 40000 in
theorem tw_983 : (.codeWith yL_slot cL_slot 5 (some .int) [(0, 10, 13, 13)] : Cond) ∈ lw_tbl := tc_4 _ (List.mem_of_getElem? (i := 213) (by decide +kernel))
set_option maxRecDepth 40000 in
theorem tw_984 : (.methodLink RL 77 yX11_slot : Cond) ∈ lw_tbl := tc_4 _ (List.mem_of_getElem? (i := 214) (by decide +kernel))
set_option maxRecDepth 40000 in
theorem tw_985 : (.instanceMethod yX11_slot : Cond) ∈ lw_tbl := tc_4 _ (List.mem_of_getElem? (i := 215) (by decide +kernel))
set_option maxRecDepth 40000 in
theorem tw_986 : (.selects RX11 yX11_slot yX11_slot : Cond) ∈ lw_tbl := tc_4 _ (List.mem_of_getElem? (i := 216) (by decide +kernel))
set_option maxRecDepth 40000 in
theorem tw_987 : (.code yX11_slot cX11_slot 3 (some .int) : Cond) ∈ lw_tbl := tc_4 _ (List.mem_of_getElem? (i := 217) (by decide +kernel))
set_option maxRecDepth 40000 in
theorem tw_988 : (.methodLink RX11 309 yX11_requireSegment : Cond) ∈ lw_tbl := tc_4 _ (List.mem_of_getElem? (i := 218) (by decide +kernel))
set_option maxRecDepth 40000 in
theorem tw_989 : (.static yX11_requireSegment : Cond) ∈ lw_tbl := tc_4 _ (List.mem_of_getElem? (i := 219) (by decide +kernel))
set_option maxRecDepth 40000 in
theorem tw_990 : (.code yX11_requireSegment cX11_requireSegment 1 none : Cond) ∈ lw_tbl := tc_4 _ (List.mem_of_getElem? (i := 220) (by decide +kernel))
set_option maxRecDepth 40000 in
theorem tw_993 : (.methodLink RL 180 yL_wear : Cond) ∈ lw_tbl := tc_4 _ (List.mem_of_getElem? (i := 223) (by decide +kernel))
set_option maxRecDepth 40000 in
theorem tw_994 : (.static yL_wear : Cond) ∈ lw_tbl := tc_4 _ (List.mem_of_getElem? (i := 224) (by decide +kernel))
set_option maxRecDepth 40000 in
theorem tw_995 : (.codeWith yL_wear cL_wear 4 (some .int) [(0, 9, 12, 13)] : Cond) ∈ lw_tbl := tc_4 _ (List.mem_of_getElem? (i := 225) (by decide +kernel))
set_option maxRecDepth 40000 in
theorem tw_996 : (.methodLink RL 81 yX11_wear : Cond) ∈ lw_tbl := tc_4 _ (List.mem_of_getElem? (i := 226) (by decide +kernel))
set_option maxRecDepth 40000 in
theorem tw_997 : (.instanceMethod yX11_wear : Cond) ∈ lw_tbl := tc_4 _ (List.mem_of_getElem? (i := 227) (by decide +kernel))
set_option maxRecDepth 40000 in
theorem tw_998 : (.selects RX11 yX11_wear yX11_wear : Cond) ∈ lw_tbl := tc_4 _ (List.mem_of_getElem? (i := 228) (by decide +kernel))
set_option maxRecDepth 40000 in
theorem tw_999 : (.code yX11_wear cX11_wear 2 (some .int) : Cond) ∈ lw_tbl := tc_4 _ (List.mem_of_getElem? (i := 229) (by decide +kernel))
set_option maxRecDepth 40000 in
theorem tw_1000 : (.methodLink RL 183 yL_stored : Cond) ∈ lw_tbl := tc_4 _ (List.mem_of_getElem? (i := 230) (by decide +kernel))
set_option maxRecDepth 40000 in
theorem tw_1001 : (.static yL_stored : Cond) ∈ lw_tbl := tc_4 _ (List.mem_of_getElem? (i := 231) (by decide +kernel))
set_option maxRecDepth 40000 in
theorem tw_1002 : (.codeWith yL_stored cL_stored 4 (some .int) [(0, 9, 12, 13)] : Cond) ∈ lw_tbl := tc_4 _ (List.mem_of_getElem? (i := 232) (by decide +kernel))
set_option maxRecDepth 40000 in
theorem tw_1003 : (.methodLink RL 84 yX11_stored : Cond) ∈ lw_tbl := tc_4 _ (List.mem_of_getElem? (i := 233) (by decide +kernel))
set_option maxRecDepth 40000 in
theorem tw_1004 : (.instanceMethod yX11_stored : Cond) ∈ lw_tbl := tc_4 _ (List.mem_of_getElem? (i := 234) (by decide +kernel))
set_option maxRecDepth 40000 in
theorem tw_1005 : (.selects RX11 yX11_stored yX11_stored : Cond) ∈ lw_tbl := tc_4 _ (List.mem_of_getElem? (i := 235) (by decide +kernel))
set_option maxRecDepth 40000 in
theorem tw_1006 : (.code yX11_stored cX11_stored 2 (some .int) : Cond) ∈ lw_tbl := tc_4 _ (List.mem_of_getElem? (i := 236) (by decide +kernel))
set_option maxRecDepth 40000 in
theorem tw_1007 : (.methodLink RL 190 yL_nextPromise : Cond) ∈ lw_tbl := tc_4 _ (List.mem_of_getElem? (i := 237) (by decide +kernel))
set_option maxRecDepth 40000 in
theorem tw_1008 : (.static yL_nextPromise : Cond) ∈ lw_tbl := tc_4 _ (List.mem_of_getElem? (i := 238) (by decide +kernel))
set_option maxRecDepth 40000 in
theorem tw_1009 : (.codeWith yL_nextPromise cL_nextPromise 3 (some .int) [(0, 8, 11, 29)] : Cond) ∈ lw_tbl := tc_4 _ (List.mem_of_getElem? (i := 239) (by decide +kernel))
set_option maxRecDepth 40000 in
theorem tw_1010 : (.methodLink RL 87 yX11_nextPromise : Cond) ∈ lw_tbl := tc_5 _ (List.mem_of_getElem? (i := 0) (by decide +kernel))
set_option maxRecDepth 40000 in
theorem tw_1011 : (.instanceMethod yX11_nextPromise : Cond) ∈ lw_tbl := tc_5 _ (List.mem_of_getElem? (i := 1) (by decide +kernel))
set_option maxRecDepth 40000 in
theorem tw_1012 : (.selects RX11 yX11_nextPromise yX11_nextPromise : Cond) ∈ lw_tbl := tc_5 _ (List.mem_of_getElem? (i := 2) (by decide +kernel))
set_option maxRecDepth 40000 in
theorem tw_1013 : (.code yX11_nextPromise cX11_nextPromise 2 (some .int) : Cond) ∈ lw_tbl := tc_5 _ (List.mem_of_getElem? (i := 3) (by decide +kernel))
set_option maxRecDepth 40000 in
theorem tw_1015 : (.methodLink RL 197 yL_deliver : Cond) ∈ lw_tbl := tc_5 _ (List.mem_of_getElem? (i := 5) (by decide +kernel))
set_option maxRecDepth 40000 in
theorem tw_1016 : (.static yL_deliver : Cond) ∈ lw_tbl := tc_5 _ (List.mem_of_getElem? (i := 6) (by decide +kernel))
set_option maxRecDepth 40000 in
theorem tw_1017 : (.codeWith yL_deliver cL_deliver 4 (some .int) [(0, 16, 19, 13)] : Cond) ∈ lw_tbl := tc_5 _ (List.mem_of_getElem? (i := 7) (by decide +kernel))
set_option maxRecDepth 40000 in
theorem tw_1018 : (.methodLink RL 90 yX11_deliver : Cond) ∈ lw_tbl := tc_5 _ (List.mem_of_getElem? (i := 8) (by decide +kernel))
set_option maxRecDepth 40000 in
theorem tw_1019 : (.instanceMethod yX11_deliver : Cond) ∈ lw_tbl := tc_5 _ (List.mem_of_getElem? (i := 9) (by decide +kernel))
set_option maxRecDepth 40000 in
theorem tw_1020 : (.selects RX11 yX11_deliver yX11_deliver : Cond) ∈ lw_tbl := tc_5 _ (List.mem_of_getElem? (i := 10) (by decide +kernel))
set_option maxRecDepth 40000 in
theorem tw_1021 : (.code yX11_deliver cX11_deliver 2 (some .boolean) : Cond) ∈ lw_tbl := tc_5 _ (List.mem_of_getElem? (i := 11) (by decide +kernel))
set_option maxRecDepth 40000 in
theorem tw_1023 : (.methodLink RX11 329 yX7_receive : Cond) ∈ lw_tbl := tc_5 _ (List.mem_of_getElem? (i := 13) (by decide +kernel))
set_option maxRecDepth 40000 in
theorem tw_1024 : (.instanceMethod yX7_receive : Cond) ∈ lw_tbl := tc_5 _ (List.mem_of_getElem? (i := 14) (by decide +kernel))
set_option maxRecDepth 40000 in
theorem tw_1025 : (.selects RX7 yX7_receive yX7_receive : Cond) ∈ lw_tbl := tc_5 _ (List.mem_of_getElem? (i := 15) (by decide +kernel))
set_option maxRecDepth 40000 in
theorem tw_1026 : (.code yX7_receive cX7_receive 5 (some .boolean) : Cond) ∈ lw_tbl := tc_5 _ (List.mem_of_getElem? (i := 16) (by decide +kernel))
set_option maxRecDepth 40000 in
theorem tw_1027 : (.methodLink RL 200 yL_mirrored : Cond) ∈ lw_tbl := tc_5 _ (List.mem_of_getElem? (i := 17) (by decide +kernel))
set_option maxRecDepth 40000 in
theorem tw_1028 : (.static yL_mirrored : Cond) ∈ lw_tbl := tc_5 _ (List.mem_of_getElem? (i := 18) (by decide +kernel))
set_option maxRecDepth 40000 in
theorem tw_1029 : (.codeWith yL_mirrored cL_mirrored 4 (some .int) [(0, 9, 12, 13)] : Cond) ∈ lw_tbl := tc_5 _ (List.mem_of_getElem? (i := 19) (by decide +kernel))
set_option maxRecDepth 40000 in
theorem tw_1030 : (.methodLink RL 93 yX11_mirrored : Cond) ∈ lw_tbl := tc_5 _ (List.mem_of_getElem? (i := 20) (by decide +kernel))
set_option maxRecDepth 40000 in
theorem tw_1031 : (.instanceMethod yX11_mirrored : Cond) ∈ lw_tbl := tc_5 _ (List.mem_of_getElem? (i := 21) (by decide +kernel))
set_option maxRecDepth 40000 in
theorem tw_1032 : (.selects RX11 yX11_mirrored yX11_mirrored : Cond) ∈ lw_tbl := tc_5 _ (List.mem_of_getElem? (i := 22) (by decide +kernel))
set_option maxRecDepth 40000 in
theorem tw_1033 : (.code yX11_mirrored cX11_mirrored 2 (some .int) : Cond) ∈ lw_tbl := tc_5 _ (List.mem_of_getElem? (i := 23) (by decide +kernel))
set_option maxRecDepth 40000 in
theorem tw_1034 : (.methodLink RL 208 yL_answeredShare : Cond) ∈ lw_tbl := tc_5 _ (List.mem_of_getElem? (i := 24) (by decide +kernel))
set_option maxRecDepth 40000 in
theorem tw_1035 : (.static yL_answeredShare : Cond) ∈ lw_tbl := tc_5 _ (List.mem_of_getElem? (i := 25) (by decide +kernel))
set_option maxRecDepth 40000 in
theorem tw_1036 : (.codeWith yL_answeredShare cL_answeredShare 3 (some .int) [(0, 8, 11, 100)] : Cond) ∈ lw_tbl := tc_5 _ (List.mem_of_getElem? (i := 26) (by decide +kernel))
set_option maxRecDepth 40000 in
theorem tw_1037 : (.classLink RL 100 "java/lang/ArithmeticException" : Cond) ∈ lw_tbl := tc_5 _ (List.mem_of_getElem? (i := 27) (by decide +kernel))
set_option maxRecDepth 40000 in
theorem tw_1051 : (.methodLink RL 96 yX11_answeredShare : Cond) ∈ lw_tbl := tc_5 _ (List.mem_of_getElem? (i := 41) (by decide +kernel))
set_option maxRecDepth 40000 in
theorem tw_1052 : (.instanceMethod yX11_answeredShare : Cond) ∈ lw_tbl := tc_5 _ (List.mem_of_getElem? (i := 42) (by decide +kernel))
set_option maxRecDepth 40000 in
theorem tw_1053 : (.selects RX11 yX11_answeredShare yX11_answeredShare : Cond) ∈ lw_tbl := tc_5 _ (List.mem_of_getElem? (i := 43) (by decide +kernel))
set_option maxRecDepth 40000 in
theorem tw_1054 : (.code yX11_answeredShare cX11_answeredShare 1 (some .float) : Cond) ∈ lw_tbl := tc_5 _ (List.mem_of_getElem? (i := 44) (by decide +kernel))
set_option maxRecDepth 40000 in
theorem tw_1055 : (.classLink RX11 339 "java/lang/ArithmeticException" : Cond) ∈ lw_tbl := tc_5 _ (List.mem_of_getElem? (i := 45) (by decide +kernel))
set_option maxRecDepth 40000 in
theorem tw_1058 : (.methodLink RL 212 yL_meanStaleness : Cond) ∈ lw_tbl := tc_5 _ (List.mem_of_getElem? (i := 48) (by decide +kernel))
set_option maxRecDepth 40000 in
theorem tw_1059 : (.static yL_meanStaleness : Cond) ∈ lw_tbl := tc_5 _ (List.mem_of_getElem? (i := 49) (by decide +kernel))
set_option maxRecDepth 40000 in
theorem tw_1060 : (.codeWith yL_meanStaleness cL_meanStaleness 3 (some .int) [(0, 7, 10, 100)] : Cond) ∈ lw_tbl := tc_5 _ (List.mem_of_getElem? (i := 50) (by decide +kernel))
set_option maxRecDepth 40000 in
theorem tw_1061 : (.methodLink RL 102 yX11_meanStaleness : Cond) ∈ lw_tbl := tc_5 _ (List.mem_of_getElem? (i := 51) (by decide +kernel))
set_option maxRecDepth 40000 in
theorem tw_1062 : (.instanceMethod yX11_meanStaleness : Cond) ∈ lw_tbl := tc_5 _ (List.mem_of_getElem? (i := 52) (by decide +kernel))
set_option maxRecDepth 40000 in
theorem tw_1063 : (.selects RX11 yX11_meanStaleness yX11_meanStaleness : Cond) ∈ lw_tbl := tc_5 _ (List.mem_of_getElem? (i := 53) (by decide +kernel))
set_option maxRecDepth 40000 in
theorem tw_1064 : (.code yX11_meanStaleness cX11_meanStaleness 1 (some .double) : Cond) ∈ lw_tbl := tc_5 _ (List.mem_of_getElem? (i := 54) (by decide +kernel))
set_option maxRecDepth 40000 in
theorem tw_1066 : (.classLink RL 107 RX12 : Cond) ∈ lw_tbl := tc_5 _ (List.mem_of_getElem? (i := 56) (by decide +kernel))
set_option maxRecDepth 40000 in
theorem tw_1067 : (.instantiable RX12 55 : Cond) ∈ lw_tbl := tc_5 _ (List.mem_of_getElem? (i := 57) (by decide +kernel))
set_option maxRecDepth 40000 in
theorem tw_1068 : (.methodLink RL 109 yX12_init : Cond) ∈ lw_tbl := tc_5 _ (List.mem_of_getElem? (i := 58) (by decide +kernel))
set_option maxRecDepth 40000 in
theorem tw_1069 : (.instanceMethod yX12_init : Cond) ∈ lw_tbl := tc_5 _ (List.mem_of_getElem? (i := 59) (by decide +kernel))
set_option maxRecDepth 40000 in
theorem tw_1070 : (.code yX12_init cX12_init 2 none : Cond) ∈ lw_tbl := tc_5 _ (List.mem_of_getElem? (i := 60) (by decide +kernel))
set_option maxRecDepth 40000 in
theorem tw_1071 : (.methodLink RX12 1 objectInit : Cond) ∈ lw_tbl := tc_5 _ (List.mem_of_getElem? (i := 61) (by decide +kernel))
set_option maxRecDepth 40000 in
theorem tw_1072 : (.fieldLink RX12 129 "SlipstreamCacheModel" "code" "I" : Cond) ∈ lw_tbl := tc_5 _ (List.mem_of_getElem? (i := 62) (by decide +kernel))
set_option maxRecDepth 40000 in
theorem tw_1073 : (.fieldLink RX12 159 "SlipstreamCacheModel" "minute" "I" : Cond) ∈ lw_tbl := tc_5 _ (List.mem_of_getElem? (i := 63) (by decide +kernel))
set_option maxRecDepth 40000 in
theorem tw_1074 : (.fieldLink RX12 204 "SlipstreamCacheModel" "isDown" "Z" : Cond) ∈ lw_tbl := tc_5 _ (List.mem_of_getElem? (i := 64) (by decide +kernel))
set_option maxRecDepth 40000 in
theorem tw_1075 : (.fieldLink RX12 7 "SlipstreamCacheModel" "stored" "[I" : Cond) ∈ lw_tbl := tc_5 _ (List.mem_of_getElem? (i := 65) (by decide +kernel))
set_option maxRecDepth 40000 in
theorem tw_1076 : (.fieldLink RX12 13 "SlipstreamCacheModel" "version" "[I" : Cond) ∈ lw_tbl := tc_5 _ (List.mem_of_getElem? (i := 66) (by decide +kernel))
set_option maxRecDepth 40000 in
theorem tw_1077 : (.fieldLink RX12 156 "SlipstreamCacheModel" "logged" "I" : Cond) ∈ lw_tbl := tc_5 _ (List.mem_of_getElem? (i := 67) (by decide +kernel))
set_option maxRecDepth 40000 in
theorem tw_1078 : (.fieldLink RX12 16 "SlipstreamCacheModel" "logKey" "[I" : Cond) ∈ lw_tbl := tc_5 _ (List.mem_of_getElem? (i := 68) (by decide +kernel))
set_option maxRecDepth 40000 in
theorem tw_1079 : (.fieldLink RX12 19 "SlipstreamCacheModel" "logVersion" "[I" : Cond) ∈ lw_tbl := tc_5 _ (List.mem_of_getElem? (i := 69) (by decide +kernel))
set_option maxRecDepth 40000 in
theorem tw_1080 : (.fieldLink RX12 22 "SlipstreamCacheModel" "logMinute" "[I" : Cond) ∈ lw_tbl := tc_5 _ (List.mem_of_getElem? (i := 70) (by decide +kernel))
set_option maxRecDepth 40000 in
theorem tw_1081 : (.fieldLink RX12 25 "SlipstreamCacheModel" "logValue" "[I" : Cond) ∈ lw_tbl := tc_5 _ (List.mem_of_getElem? (i := 71) (by decide +kernel))
set_option maxRecDepth 40000 in
theorem tw_1082 : (.fieldLink RX12 28 "SlipstreamCacheModel" "isUnderWay" "[Z" : Cond) ∈ lw_tbl := tc_5 _ (List.mem_of_getElem? (i := 72) (by decide +kernel))
set_option maxRecDepth 40000 in
theorem tw_1083 : (.fieldLink RX12 32 "SlipstreamCacheModel" "mirrored" "[I" : Cond) ∈ lw_tbl := tc_5 _ (List.mem_of_getElem? (i := 73) (by decide +kernel))
set_option maxRecDepth 40000 in
theorem tw_1084 : (.fieldLink RX12 35 "SlipstreamCacheModel" "mirrorVersion" "[I" : Cond) ∈ lw_tbl := tc_5 _ (List.mem_of_getElem? (i := 74) (by decide +kernel))
set_option maxRecDepth 40000 in
theorem tw_1085 : (.fieldLink RX12 38 "SlipstreamCacheModel" "size" "[I" : Cond) ∈ lw_tbl := tc_5 _ (List.mem_of_getElem? (i := 75) (by decide +kernel))
set_option maxRecDepth 40000 in
theorem tw_1086 : (.fieldLink RX12 41 "SlipstreamCacheModel" "cost" "[I" : Cond) ∈ lw_tbl := tc_5 _ (List.mem_of_getElem? (i := 76) (by decide +kernel))
set_option maxRecDepth 40000 in
theorem tw_1087 : (.fieldLink RX12 44 "SlipstreamCacheModel" "group" "[I" : Cond) ∈ lw_tbl := tc_5 _ (List.mem_of_getElem? (i := 77) (by decide +kernel))
set_option maxRecDepth 40000 in
theorem tw_1088 : (.fieldLink RX12 47 "SlipstreamCacheModel" "groupNumber" "[I" : Cond) ∈ lw_tbl := tc_5 _ (List.mem_of_getElem? (i := 78) (by decide +kernel))
set_option maxRecDepth 40000 in
theorem tw_1089 : (.fieldLink RX12 50 "SlipstreamCacheModel" "counter" "[I" : Cond) ∈ lw_tbl := tc_5 _ (List.mem_of_getElem? (i := 79) (by decide +kernel))
set_option maxRecDepth 40000 in
theorem tw_1090 : (.fieldLink RX12 150 "SlipstreamCacheModel" "gets" "I" : Cond) ∈ lw_tbl := tc_5 _ (List.mem_of_getElem? (i := 80) (by decide +kernel))
set_option maxRecDepth 40000 in
theorem tw_1091 : (.fieldLink RX12 214 "SlipstreamCacheModel" "answered" "I" : Cond) ∈ lw_tbl := tc_5 _ (List.mem_of_getElem? (i := 81) (by decide +kernel))
set_option maxRecDepth 40000 in
theorem tw_1092 : (.fieldLink RX12 226 "SlipstreamCacheModel" "stale" "J" : Cond) ∈ lw_tbl := tc_5 _ (List.mem_of_getElem? (i := 82) (by decide +kernel))
set_option maxRecDepth 40000 in
theorem tw_1093 : (.fieldLink RX12 53 "SlipstreamCacheModel" "isIn" "[Z" : Cond) ∈ lw_tbl := tc_5 _ (List.mem_of_getElem? (i := 83) (by decide +kernel))
set_option maxRecDepth 40000 in
theorem tw_1094 : (.fieldLink RX12 56 "SlipstreamCacheModel" "inValue" "[I" : Cond) ∈ lw_tbl := tc_5 _ (List.mem_of_getElem? (i := 84) (by decide +kernel))
set_option maxRecDepth 40000 in
theorem tw_1095 : (.fieldLink RX12 59 "SlipstreamCacheModel" "inVersion" "[I" : Cond) ∈ lw_tbl := tc_5 _ (List.mem_of_getElem? (i := 85) (by decide +kernel))
set_option maxRecDepth 40000 in
theorem tw_1096 : (.fieldLink RX12 62 "SlipstreamCacheModel" "inMinute" "[I" : Cond) ∈ lw_tbl := tc_5 _ (List.mem_of_getElem? (i := 86) (by decide +kernel))
set_option maxRecDepth 40000 in
theorem tw_1097 : (.fieldLink RX12 65 "SlipstreamCacheModel" "inGroup" "[I" : Cond) ∈ lw_tbl := tc_5 _ (List.mem_of_getElem? (i := 87) (by decide +kernel))
set_option maxRecDepth 40000 in
theorem tw_1098 : (.fieldLink RX12 68 "SlipstreamCacheModel" "usedAt" "[I" : Cond) ∈ lw_tbl := tc_5 _ (List.mem_of_getElem? (i := 88) (by decide +kernel))
set_option maxRecDepth 40000 in
theorem tw_1099 : (.fieldLink RX12 176 "SlipstreamCacheModel" "uses" "I" : Cond) ∈ lw_tbl := tc_5 _ (List.mem_of_getElem? (i := 89) (by decide +kernel))
set_option maxRecDepth 40000 in
theorem tw_1100 : (.fieldLink RX12 71 "SlipstreamCacheModel" "isPromised" "[Z" : Cond) ∈ lw_tbl := tc_5 _ (List.mem_of_getElem? (i := 90) (by decide +kernel))
set_option maxRecDepth 40000 in
theorem tw_1101 : (.fieldLink RX12 74 "SlipstreamCacheModel" "promiseValue" "[I" : Cond) ∈ lw_tbl := tc_5 _ (List.mem_of_getElem? (i := 91) (by decide +kernel))
set_option maxRecDepth 40000 in
theorem tw_1102 : (.fieldLink RX12 77 "SlipstreamCacheModel" "promiseMinute" "[I" : Cond) ∈ lw_tbl := tc_5 _ (List.mem_of_getElem? (i := 92) (by decide +kernel))
set_option maxRecDepth 40000 in
theorem tw_1103 : (.fieldLink RX12 80 "SlipstreamCacheModel" "slotKey" "[I" : Cond) ∈ lw_tbl := tc_5 _ (List.mem_of_getElem? (i := 93) (by decide +kernel))
set_option maxRecDepth 40000 in
theorem tw_1104 : (.fieldLink RX12 83 "SlipstreamCacheModel" "slotValue" "[I" : Cond) ∈ lw_tbl := tc_5 _ (List.mem_of_getElem? (i := 94) (by decide +kernel))
set_option maxRecDepth 40000 in
theorem tw_1105 : (.fieldLink RX12 86 "SlipstreamCacheModel" "slotVersion" "[I" : Cond) ∈ lw_tbl := tc_5 _ (List.mem_of_getElem? (i := 95) (by decide +kernel))
set_option maxRecDepth 40000 in
theorem tw_1106 : (.fieldLink RX12 89 "SlipstreamCacheModel" "slotMinute" "[I" : Cond) ∈ lw_tbl := tc_5 _ (List.mem_of_getElem? (i := 96) (by decide +kernel))
set_option maxRecDepth 40000 in
theorem tw_1107 : (.fieldLink RX12 92 "SlipstreamCacheModel" "slotGroup" "[I" : Cond) ∈ lw_tbl := tc_5 _ (List.mem_of_getElem? (i := 97) (by decide +kernel))
set_option maxRecDepth 40000 in
theorem tw_1108 : (.fieldLink RX12 95 "SlipstreamCacheModel" "slotNumber" "[I" : Cond) ∈ lw_tbl := tc_5 _ (List.mem_of_getElem? (i := 98) (by decide +kernel))
set_option maxRecDepth 40000 in
theorem tw_1109 : (.fieldLink RX12 166 "SlipstreamCacheModel" "nextSlot" "I" : Cond) ∈ lw_tbl := tc_5 _ (List.mem_of_getElem? (i := 99) (by decide +kernel))
set_option maxRecDepth 40000 in
theorem tw_1110 : (.fieldLink RX12 169 "SlipstreamCacheModel" "numbers" "I" : Cond) ∈ lw_tbl := tc_5 _ (List.mem_of_getElem? (i := 100) (by decide +kernel))
set_option maxRecDepth 40000 in
theorem tw_1111 : (.fieldLink RX12 98 "SlipstreamCacheModel" "wear" "[I" : Cond) ∈ lw_tbl := tc_5 _ (List.mem_of_getElem? (i := 101) (by decide +kernel))
set_option maxRecDepth 40000 in
theorem tw_1112 : (.fieldLink RX12 101 "SlipstreamCacheModel" "index" "[I" : Cond) ∈ lw_tbl := tc_5 _ (List.mem_of_getElem? (i := 102) (by decide +kernel))
set_option maxRecDepth 40000 in
theorem tw_1113 : (.fieldLink RX12 194 "SlipstreamCacheModel" "leases" "I" : Cond) ∈ lw_tbl := tc_5 _ (List.mem_of_getElem? (i := 103) (by decide +kernel))
set_option maxRecDepth 40000 in
theorem tw_1114 : (.fieldLink RX12 262 "SlipstreamCacheModel" "paid" "J" : Cond) ∈ lw_tbl := tc_5 _ (List.mem_of_getElem? (i := 104) (by decide +kernel))
set_option maxRecDepth 40000 in
theorem tw_1115 : (.fieldLink RX12 104 "SlipstreamCacheModel" "leaseKey" "[I" : Cond) ∈ lw_tbl := tc_5 _ (List.mem_of_getElem? (i := 105) (by decide +kernel))
set_option maxRecDepth 40000 in
theorem tw_1116 : (.fieldLink RX12 107 "SlipstreamCacheModel" "leaseMinute" "[I" : Cond) ∈ lw_tbl := tc_5 _ (List.mem_of_getElem? (i := 106) (by decide +kernel))
set_option maxRecDepth 40000 in
theorem tw_1117 : (.fieldLink RX12 110 "SlipstreamCacheModel" "leaseState" "[C" : Cond) ∈ lw_tbl := tc_5 _ (List.mem_of_getElem? (i := 107) (by decide +kernel))
set_option maxRecDepth 40000 in
theorem tw_1118 : (.fieldLink RX12 114 "SlipstreamCacheModel" "wasRead" "[Z" : Cond) ∈ lw_tbl := tc_5 _ (List.mem_of_getElem? (i := 108) (by decide +kernel))
set_option maxRecDepth 40000 in
theorem tw_1119 : (.fieldLink RX12 117 "SlipstreamCacheModel" "leaseValue" "[I" : Cond) ∈ lw_tbl := tc_5 _ (List.mem_of_getElem? (i := 109) (by decide +kernel))
set_option maxRecDepth 40000 in
theorem tw_1120 : (.fieldLink RX12 120 "SlipstreamCacheModel" "leaseVersion" "[I" : Cond) ∈ lw_tbl := tc_5 _ (List.mem_of_getElem? (i := 110) (by decide +kernel))
set_option maxRecDepth 40000 in
theorem tw_1121 : (.fieldLink RX12 123 "SlipstreamCacheModel" "leaseRead" "[I" : Cond) ∈ lw_tbl := tc_5 _ (List.mem_of_getElem? (i := 111) (by decide +kernel))
set_option maxRecDepth 40000 in
theorem tw_1122 : (.fieldLink RX12 211 "SlipstreamCacheModel" "hasAnswer" "Z" : Cond) ∈ lw_tbl := tc_5 _ (List.mem_of_getElem? (i := 112) (by decide +kernel))
set_option maxRecDepth 40000 in
theorem tw_1123 : (.fieldLink RX12 217 "SlipstreamCacheModel" "answerValue" "I" : Cond) ∈ lw_tbl := tc_5 _ (List.mem_of_getElem? (i := 113) (by decide +kernel))
set_option maxRecDepth 40000 in
theorem tw_1124 : (.fieldLink RX12 223 "SlipstreamCacheModel" "answerStale" "I" : Cond) ∈ lw_tbl := tc_5 _ (List.mem_of_getElem? (i := 114) (by decide +kernel))
set_option maxRecDepth 40000 in
theorem tw_1125 : (.fieldLink RX12 126 "SlipstreamCacheModel" "goes" "[Z" : Cond) ∈ lw_tbl := tc_5 _ (List.mem_of_getElem? (i := 115) (by decide +kernel))
set_option maxRecDepth 40000 in
theorem tw_1126 : (.fieldLink RX12 153 "SlipstreamCacheModel" "sketched" "I" : Cond) ∈ lw_tbl := tc_5 _ (List.mem_of_getElem? (i := 116) (by decide +kernel))
set_option maxRecDepth 40000 in
theorem tw_1238 : (.methodLink RL 115 yX12_setKey : Cond) ∈ lw_tbl := tc_5 _ (List.mem_of_getElem? (i := 228) (by decide +kernel))
set_option maxRecDepth 40000 in
theorem tw_1239 : (.instanceMethod yX12_setKey : Cond) ∈ lw_tbl := tc_5 _ (List.mem_of_getElem? (i := 229) (by decide +kernel))
set_option maxRecDepth 40000 in
theorem tw_1240 : (.selects RX12 yX12_setKey yX12_setKey : Cond) ∈ lw_tbl := tc_5 _ (List.mem_of_getElem? (i := 230) (by decide +kernel))
set_option maxRecDepth 40000 in
theorem tw_1241 : (.code yX12_setKey cX12_setKey 6 (some .int) : Cond) ∈ lw_tbl := tc_5 _ (List.mem_of_getElem? (i := 231) (by decide +kernel))
set_option maxRecDepth 40000 in
theorem tw_1242 : (.methodLink RX12 197 yX12_isKey : Cond) ∈ lw_tbl := tc_5 _ (List.mem_of_getElem? (i := 232) (by decide +kernel))
set_option maxRecDepth 40000 in
theorem tw_1243 : (.static yX12_isKey : Cond) ∈ lw_tbl := tc_5 _ (List.mem_of_getElem? (i := 233) (by decide +kernel))
set_option maxRecDepth 40000 in
theorem tw_1244 : (.code yX12_isKey cX12_isKey 1 (some .boolean) : Cond) ∈ lw_tbl := tc_5 _ (List.mem_of_getElem? (i := 234) (by decide +kernel))
set_option maxRecDepth 40000 in
theorem tw_1245 : (.methodLink RX12 133 yX12_in : Cond) ∈ lw_tbl := tc_5 _ (List.mem_of_getElem? (i := 235) (by decide +kernel))
set_option maxRecDepth 40000 in
theorem tw_1246 : (.static yX12_in : Cond) ∈ lw_tbl := tc_5 _ (List.mem_of_getElem? (i := 236) (by decide +kernel))
set_option maxRecDepth 40000 in
theorem tw_1247 : (.code yX12_in cX12_in 3 (some .boolean) : Cond) ∈ lw_tbl := tc_5 _ (List.mem_of_getElem? (i := 237) (by decide +kernel))
set_option maxRecDepth 40000 in
theorem tw_1248 : (.methodLink RX12 201 yX12_fails : Cond) ∈ lw_tbl := tc_5 _ (List.mem_of_getElem? (i := 238) (by decide +kernel))
set_option maxRecDepth 40000 in
theorem tw_1250 : (.instanceMethod yX12_fails : Cond) ∈ lw_tbl := tc_6 _ (List.mem_of_getElem? (i := 0) (by decide +kernel))
set_option maxRecDepth 40000 in
theorem tw_1251 : (.code yX12_fails cX12_fails 2 (some .int) : Cond) ∈ lw_tbl := tc_6 _ (List.mem_of_getElem? (i := 1) (by decide +kernel))
set_option maxRecDepth 40000 in
theorem tw_1252 : (.methodLink RX12 208 yX12_hasLease : Cond) ∈ lw_tbl := tc_6 _ (List.mem_of_getElem? (i := 2) (by decide +kernel))
set_option maxRecDepth 40000 in
theorem tw_1254 : (.instanceMethod yX12_hasLease : Cond) ∈ lw_tbl := tc_6 _ (List.mem_of_getElem? (i := 4) (by decide +kernel))
set_option maxRecDepth 40000 in
theorem tw_1255 : (.code yX12_hasLease cX12_hasLease 3 (some .boolean) : Cond) ∈ lw_tbl := tc_6 _ (List.mem_of_getElem? (i := 5) (by decide +kernel))
set_option maxRecDepth 40000 in
theorem tw_1256 : (.methodLink RL 119 yX12_get : Cond) ∈ lw_tbl := tc_6 _ (List.mem_of_getElem? (i := 6) (by decide +kernel))
set_option maxRecDepth 40000 in
theorem tw_1257 : (.instanceMethod yX12_get : Cond) ∈ lw_tbl := tc_6 _ (List.mem_of_getElem? (i := 7) (by decide +kernel))
set_option maxRecDepth 40000 in
theorem tw_1258 : (.selects RX12 yX12_get yX12_get : Cond) ∈ lw_tbl := tc_6 _ (List.mem_of_getElem? (i := 8) (by decide +kernel))
set_option maxRecDepth 40000 in
theorem tw_1259 : (.code yX12_get cX12_get 8 (some .char) : Cond) ∈ lw_tbl := tc_6 _ (List.mem_of_getElem? (i := 9) (by decide +kernel))
set_option maxRecDepth 40000 in
theorem tw_1260 : (.methodLink RX12 248 yX12_failsChar : Cond) ∈ lw_tbl := tc_6 _ (List.mem_of_getElem? (i := 10) (by decide +kernel))
set_option maxRecDepth 40000 in
theorem tw_1262 : (.instanceMethod yX12_failsChar : Cond) ∈ lw_tbl := tc_6 _ (List.mem_of_getElem? (i := 12) (by decide +kernel))
set_option maxRecDepth 40000 in
theorem tw_1263 : (.code yX12_failsChar cX12_failsChar 2 (some .char) : Cond) ∈ lw_tbl := tc_6 _ (List.mem_of_getElem? (i := 13) (by decide +kernel))
set_option maxRecDepth 40000 in
theorem tw_1264 : (.methodLink RX12 252 yX12_isGoodIn : Cond) ∈ lw_tbl := tc_6 _ (List.mem_of_getElem? (i := 14) (by decide +kernel))
set_option maxRecDepth 40000 in
theorem tw_1266 : (.instanceMethod yX12_isGoodIn : Cond) ∈ lw_tbl := tc_6 _ (List.mem_of_getElem? (i := 16) (by decide +kernel))
set_option maxRecDepth 40000 in
theorem tw_1267 : (.code yX12_isGoodIn cX12_isGoodIn 3 (some .boolean) : Cond) ∈ lw_tbl := tc_6 _ (List.mem_of_getElem? (i := 17) (by decide +kernel))
set_option maxRecDepth 40000 in
theorem tw_1268 : (.methodLink RX12 256 yX12_isGoodSlot : Cond) ∈ lw_tbl := tc_6 _ (List.mem_of_getElem? (i := 18) (by decide +kernel))
set_option maxRecDepth 40000 in
theorem tw_1270 : (.instanceMethod yX12_isGoodSlot : Cond) ∈ lw_tbl := tc_6 _ (List.mem_of_getElem? (i := 20) (by decide +kernel))
set_option maxRecDepth 40000 in
theorem tw_1271 : (.code yX12_isGoodSlot cX12_isGoodSlot 4 (some .boolean) : Cond) ∈ lw_tbl := tc_6 _ (List.mem_of_getElem? (i := 21) (by decide +kernel))
set_option maxRecDepth 40000 in
theorem tw_1272 : (.methodLink RX12 230 yX12_answers : Cond) ∈ lw_tbl := tc_6 _ (List.mem_of_getElem? (i := 22) (by decide +kernel))
set_option maxRecDepth 40000 in
theorem tw_1274 : (.instanceMethod yX12_answers : Cond) ∈ lw_tbl := tc_6 _ (List.mem_of_getElem? (i := 24) (by decide +kernel))
set_option maxRecDepth 40000 in
theorem tw_1275 : (.code yX12_answers cX12_answers 4 none : Cond) ∈ lw_tbl := tc_6 _ (List.mem_of_getElem? (i := 25) (by decide +kernel))
set_option maxRecDepth 40000 in
theorem tw_1276 : (.methodLink RX12 220 yX12_staleBy : Cond) ∈ lw_tbl := tc_6 _ (List.mem_of_getElem? (i := 26) (by decide +kernel))
set_option maxRecDepth 40000 in
theorem tw_1278 : (.instanceMethod yX12_staleBy : Cond) ∈ lw_tbl := tc_6 _ (List.mem_of_getElem? (i := 28) (by decide +kernel))
set_option maxRecDepth 40000 in
theorem tw_1279 : (.code yX12_staleBy cX12_staleBy 4 (some .int) : Cond) ∈ lw_tbl := tc_6 _ (List.mem_of_getElem? (i := 29) (by decide +kernel))
set_option maxRecDepth 40000 in
theorem tw_1280 : (.methodLink RX12 192 yX12_uses : Cond) ∈ lw_tbl := tc_6 _ (List.mem_of_getElem? (i := 30) (by decide +kernel))
set_option maxRecDepth 40000 in
theorem tw_1282 : (.instanceMethod yX12_uses : Cond) ∈ lw_tbl := tc_6 _ (List.mem_of_getElem? (i := 32) (by decide +kernel))
set_option maxRecDepth 40000 in
theorem tw_1283 : (.code yX12_uses cX12_uses 2 none : Cond) ∈ lw_tbl := tc_6 _ (List.mem_of_getElem? (i := 33) (by decide +kernel))
set_option maxRecDepth 40000 in
theorem tw_1284 : (.methodLink RX12 245 yX12_counts : Cond) ∈ lw_tbl := tc_6 _ (List.mem_of_getElem? (i := 34) (by decide +kernel))
set_option maxRecDepth 40000 in
theorem tw_1286 : (.instanceMethod yX12_counts : Cond) ∈ lw_tbl := tc_6 _ (List.mem_of_getElem? (i := 36) (by decide +kernel))
set_option maxRecDepth 40000 in
theorem tw_1287 : (.code yX12_counts cX12_counts 5 none : Cond) ∈ lw_tbl := tc_6 _ (List.mem_of_getElem? (i := 37) (by decide +kernel))
set_option maxRecDepth 40000 in
theorem tw_1288 : (.methodLink RX12 146 yX12_estimateOf : Cond) ∈ lw_tbl := tc_6 _ (List.mem_of_getElem? (i := 38) (by decide +kernel))
set_option maxRecDepth 40000 in
theorem tw_1290 : (.instanceMethod yX12_estimateOf : Cond) ∈ lw_tbl := tc_6 _ (List.mem_of_getElem? (i := 40) (by decide +kernel))
set_option maxRecDepth 40000 in
theorem tw_1291 : (.code yX12_estimateOf cX12_estimateOf 4 (some .int) : Cond) ∈ lw_tbl := tc_6 _ (List.mem_of_getElem? (i := 41) (by decide +kernel))
set_option maxRecDepth 40000 in
theorem tw_1292 : (.methodLink RX12 137 yX12_place : Cond) ∈ lw_tbl := tc_6 _ (List.mem_of_getElem? (i := 42) (by decide +kernel))
set_option maxRecDepth 40000 in
theorem tw_1293 : (.static yX12_place : Cond) ∈ lw_tbl := tc_6 _ (List.mem_of_getElem? (i := 43) (by decide +kernel))
set_option maxRecDepth 40000 in
theorem tw_1294 : (.code yX12_place cX12_place 3 (some .int) : Cond) ∈ lw_tbl := tc_6 _ (List.mem_of_getElem? (i := 44) (by decide +kernel))
set_option maxRecDepth 40000 in
theorem tw_1295 : (.methodLink RX12 141 Lib.Math.min.name : Cond) ∈ lw_tbl := tc_6 _ (List.mem_of_getElem? (i := 45) (by decide +kernel))
set_option maxRecDepth 40000 in
theorem tw_1296 : (.static Lib.Math.min.name : Cond) ∈ lw_tbl := tc_6 _ (List.mem_of_getElem? (i := 46) (by decide +kernel))
set_option maxRecDepth 40000 in
theorem tw_1297 : (.code Lib.Math.min.name Lib.Math.min.code 2 (some .int) : Cond) ∈ lw_tbl := tc_6 _ (List.mem_of_getElem? (i := 47) (by decide +kernel))
set_option maxRecDepth 40000 in
theorem tw_1298 : (.methodLink RX12 259 yX12_answersFlash : Cond) ∈ lw_tbl := tc_6 _ (List.mem_of_getElem? (i := 48) (by decide +kernel))
set_option maxRecDepth 40000 in
theorem tw_1300 : (.instanceMethod yX12_answersFlash : Cond) ∈ lw_tbl := tc_6 _ (List.mem_of_getElem? (i := 50) (by decide +kernel))
set_option maxRecDepth 40000 in
theorem tw_1301 : (.code yX12_answersFlash cX12_answersFlash 7 none : Cond) ∈ lw_tbl := tc_6 _ (List.mem_of_getElem? (i := 51) (by decide +kernel))
set_option maxRecDepth 40000 in
theorem tw_1302 : (.methodLink RX12 234 yX12_makesRoom : Cond) ∈ lw_tbl := tc_6 _ (List.mem_of_getElem? (i := 52) (by decide +kernel))
set_option maxRecDepth 40000 in
theorem tw_1304 : (.instanceMethod yX12_makesRoom : Cond) ∈ lw_tbl := tc_6 _ (List.mem_of_getElem? (i := 54) (by decide +kernel))
set_option maxRecDepth 40000 in
theorem tw_1305 : (.code yX12_makesRoom cX12_makesRoom 10 (some .boolean) : Cond) ∈ lw_tbl := tc_6 _ (List.mem_of_getElem? (i := 55) (by decide +kernel))
set_option maxRecDepth 40000 in
theorem tw_1306 : (.methodLink RX12 182 yX12_usedNow : Cond) ∈ lw_tbl := tc_6 _ (List.mem_of_getElem? (i := 56) (by decide +kernel))
set_option maxRecDepth 40000 in
theorem tw_1308 : (.instanceMethod yX12_usedNow : Cond) ∈ lw_tbl := tc_6 _ (List.mem_of_getElem? (i := 58) (by decide +kernel))
set_option maxRecDepth 40000 in
theorem tw_1309 : (.code yX12_usedNow cX12_usedNow 3 (some .int) : Cond) ∈ lw_tbl := tc_6 _ (List.mem_of_getElem? (i := 59) (by decide +kernel))
set_option maxRecDepth 40000 in
theorem tw_1310 : (.methodLink RX12 185 yX12_victim : Cond) ∈ lw_tbl := tc_6 _ (List.mem_of_getElem? (i := 60) (by decide +kernel))
set_option maxRecDepth 40000 in
theorem tw_1312 : (.instanceMethod yX12_victim : Cond) ∈ lw_tbl := tc_6 _ (List.mem_of_getElem? (i := 62) (by decide +kernel))
set_option maxRecDepth 40000 in
theorem tw_1313 : (.code yX12_victim cX12_victim 5 (some .int) : Cond) ∈ lw_tbl := tc_6 _ (List.mem_of_getElem? (i := 63) (by decide +kernel))
set_option maxRecDepth 40000 in
theorem tw_1314 : (.methodLink RX12 179 yX12_worth : Cond) ∈ lw_tbl := tc_6 _ (List.mem_of_getElem? (i := 64) (by decide +kernel))
set_option maxRecDepth 40000 in
theorem tw_1316 : (.instanceMethod yX12_worth : Cond) ∈ lw_tbl := tc_6 _ (List.mem_of_getElem? (i := 66) (by decide +kernel))
set_option maxRecDepth 40000 in
theorem tw_1317 : (.code yX12_worth cX12_worth 2 (some .int) : Cond) ∈ lw_tbl := tc_6 _ (List.mem_of_getElem? (i := 67) (by decide +kernel))
set_option maxRecDepth 40000 in
theorem tw_1318 : (.methodLink RX12 188 yX12_toFlash : Cond) ∈ lw_tbl := tc_6 _ (List.mem_of_getElem? (i := 68) (by decide +kernel))
set_option maxRecDepth 40000 in
theorem tw_1320 : (.instanceMethod yX12_toFlash : Cond) ∈ lw_tbl := tc_6 _ (List.mem_of_getElem? (i := 70) (by decide +kernel))
set_option maxRecDepth 40000 in
theorem tw_1321 : (.code yX12_toFlash cX12_toFlash 3 none : Cond) ∈ lw_tbl := tc_6 _ (List.mem_of_getElem? (i := 71) (by decide +kernel))
set_option maxRecDepth 40000 in
theorem tw_1322 : (.methodLink RX12 172 yX12_nextPlace : Cond) ∈ lw_tbl := tc_6 _ (List.mem_of_getElem? (i := 72) (by decide +kernel))
set_option maxRecDepth 40000 in
theorem tw_1324 : (.instanceMethod yX12_nextPlace : Cond) ∈ lw_tbl := tc_6 _ (List.mem_of_getElem? (i := 74) (by decide +kernel))
set_option maxRecDepth 40000 in
theorem tw_1325 : (.code yX12_nextPlace cX12_nextPlace 3 (some .int) : Cond) ∈ lw_tbl := tc_6 _ (List.mem_of_getElem? (i := 75) (by decide +kernel))
set_option maxRecDepth 40000 in
theorem tw_1326 : (.methodLink RX12 238 yX12_comes : Cond) ∈ lw_tbl := tc_6 _ (List.mem_of_getElem? (i := 76) (by decide +kernel))
set_option maxRecDepth 40000 in
theorem tw_1328 : (.instanceMethod yX12_comes : Cond) ∈ lw_tbl := tc_6 _ (List.mem_of_getElem? (i := 78) (by decide +kernel))
set_option maxRecDepth 40000 in
theorem tw_1329 : (.code yX12_comes cX12_comes 6 none : Cond) ∈ lw_tbl := tc_6 _ (List.mem_of_getElem? (i := 79) (by decide +kernel))
set_option maxRecDepth 40000 in
theorem tw_1330 : (.methodLink RX12 242 yX12_takesOut : Cond) ∈ lw_tbl := tc_6 _ (List.mem_of_getElem? (i := 80) (by decide +kernel))
set_option maxRecDepth 40000 in
theorem tw_1332 : (.instanceMethod yX12_takesOut : Cond) ∈ lw_tbl := tc_6 _ (List.mem_of_getElem? (i := 82) (by decide +kernel))
set_option maxRecDepth 40000 in
theorem tw_1333 : (.code yX12_takesOut cX12_takesOut 3 none : Cond) ∈ lw_tbl := tc_6 _ (List.mem_of_getElem? (i := 83) (by decide +kernel))
set_option maxRecDepth 40000 in
theorem tw_1334 : (.methodLink RL 123 yX12_value : Cond) ∈ lw_tbl := tc_6 _ (List.mem_of_getElem? (i := 84) (by decide +kernel))
set_option maxRecDepth 40000 in
theorem tw_1335 : (.instanceMethod yX12_value : Cond) ∈ lw_tbl := tc_6 _ (List.mem_of_getElem? (i := 85) (by decide +kernel))
set_option maxRecDepth 40000 in
theorem tw_1336 : (.selects RX12 yX12_value yX12_value : Cond) ∈ lw_tbl := tc_6 _ (List.mem_of_getElem? (i := 86) (by decide +kernel))
set_option maxRecDepth 40000 in
theorem tw_1337 : (.code yX12_value cX12_value 1 (some .int) : Cond) ∈ lw_tbl := tc_6 _ (List.mem_of_getElem? (i := 87) (by decide +kernel))
set_option maxRecDepth 40000 in
theorem tw_1338 : (.methodLink RL 126 yX12_staleness : Cond) ∈ lw_tbl := tc_6 _ (List.mem_of_getElem? (i := 88) (by decide +kernel))
set_option maxRecDepth 40000 in
theorem tw_1339 : (.instanceMethod yX12_staleness : Cond) ∈ lw_tbl := tc_6 _ (List.mem_of_getElem? (i := 89) (by decide +kernel))
set_option maxRecDepth 40000 in
theorem tw_1340 : (.selects RX12 yX12_staleness yX12_staleness : Cond) ∈ lw_tbl := tc_6 _ (List.mem_of_getElem? (i := 90) (by decide +kernel))
set_option maxRecDepth 40000 in
theorem tw_1341 : (.code yX12_staleness cX12_staleness 1 (some .int) : Cond) ∈ lw_tbl := tc_6 _ (List.mem_of_getElem? (i := 91) (by decide +kernel))
set_option maxRecDepth 40000 in
theorem tw_1342 : (.methodLink RL 129 yX12_lease : Cond) ∈ lw_tbl := tc_6 _ (List.mem_of_getElem? (i := 92) (by decide +kernel))
set_option maxRecDepth 40000 in
theorem tw_1343 : (.instanceMethod yX12_lease : Cond) ∈ lw_tbl := tc_6 _ (List.mem_of_getElem? (i := 93) (by decide +kernel))
set_option maxRecDepth 40000 in
theorem tw_1344 : (.selects RX12 yX12_lease yX12_lease : Cond) ∈ lw_tbl := tc_6 _ (List.mem_of_getElem? (i := 94) (by decide +kernel))
set_option maxRecDepth 40000 in
theorem tw_1345 : (.code yX12_lease cX12_lease 1 (some .int) : Cond) ∈ lw_tbl := tc_6 _ (List.mem_of_getElem? (i := 95) (by decide +kernel))
set_option maxRecDepth 40000 in
theorem tw_1346 : (.methodLink RL 133 yX12_read : Cond) ∈ lw_tbl := tc_6 _ (List.mem_of_getElem? (i := 96) (by decide +kernel))
set_option maxRecDepth 40000 in
theorem tw_1347 : (.instanceMethod yX12_read : Cond) ∈ lw_tbl := tc_6 _ (List.mem_of_getElem? (i := 97) (by decide +kernel))
set_option maxRecDepth 40000 in
theorem tw_1348 : (.selects RX12 yX12_read yX12_read : Cond) ∈ lw_tbl := tc_6 _ (List.mem_of_getElem? (i := 98) (by decide +kernel))
set_option maxRecDepth 40000 in
theorem tw_1349 : (.code yX12_read cX12_read 3 (some .int) : Cond) ∈ lw_tbl := tc_6 _ (List.mem_of_getElem? (i := 99) (by decide +kernel))
set_option maxRecDepth 40000 in
theorem tw_1350 : (.methodLink RX12 265 yX12_isLease : Cond) ∈ lw_tbl := tc_6 _ (List.mem_of_getElem? (i := 100) (by decide +kernel))
set_option maxRecDepth 40000 in
theorem tw_1352 : (.instanceMethod yX12_isLease : Cond) ∈ lw_tbl := tc_6 _ (List.mem_of_getElem? (i := 102) (by decide +kernel))
set_option maxRecDepth 40000 in
theorem tw_1353 : (.code yX12_isLease cX12_isLease 2 (some .boolean) : Cond) ∈ lw_tbl := tc_6 _ (List.mem_of_getElem? (i := 103) (by decide +kernel))
set_option maxRecDepth 40000 in
theorem tw_1354 : (.methodLink RL 136 yX12_fill : Cond) ∈ lw_tbl := tc_6 _ (List.mem_of_getElem? (i := 104) (by decide +kernel))
set_option maxRecDepth 40000 in
theorem tw_1355 : (.instanceMethod yX12_fill : Cond) ∈ lw_tbl := tc_6 _ (List.mem_of_getElem? (i := 105) (by decide +kernel))
set_option maxRecDepth 40000 in
theorem tw_1356 : (.selects RX12 yX12_fill yX12_fill : Cond) ∈ lw_tbl := tc_6 _ (List.mem_of_getElem? (i := 106) (by decide +kernel))
set_option maxRecDepth 40000 in
theorem tw_1357 : (.code yX12_fill cX12_fill 3 (some .char) : Cond) ∈ lw_tbl := tc_6 _ (List.mem_of_getElem? (i := 107) (by decide +kernel))
set_option maxRecDepth 40000 in
theorem tw_1358 : (.methodLink RL 139 yX12_leaseState : Cond) ∈ lw_tbl := tc_6 _ (List.mem_of_getElem? (i := 108) (by decide +kernel))
set_option maxRecDepth 40000 in
theorem tw_1359 : (.instanceMethod yX12_leaseState : Cond) ∈ lw_tbl := tc_6 _ (List.mem_of_getElem? (i := 109) (by decide +kernel))
set_option maxRecDepth 40000 in
theorem tw_1360 : (.selects RX12 yX12_leaseState yX12_leaseState : Cond) ∈ lw_tbl := tc_6 _ (List.mem_of_getElem? (i := 110) (by decide +kernel))
set_option maxRecDepth 40000 in
theorem tw_1361 : (.code yX12_leaseState cX12_leaseState 2 (some .char) : Cond) ∈ lw_tbl := tc_6 _ (List.mem_of_getElem? (i := 111) (by decide +kernel))
set_option maxRecDepth 40000 in
theorem tw_1362 : (.methodLink RL 143 yX12_write : Cond) ∈ lw_tbl := tc_6 _ (List.mem_of_getElem? (i := 112) (by decide +kernel))
set_option maxRecDepth 40000 in
theorem tw_1363 : (.instanceMethod yX12_write : Cond) ∈ lw_tbl := tc_6 _ (List.mem_of_getElem? (i := 113) (by decide +kernel))
set_option maxRecDepth 40000 in
theorem tw_1364 : (.selects RX12 yX12_write yX12_write : Cond) ∈ lw_tbl := tc_6 _ (List.mem_of_getElem? (i := 114) (by decide +kernel))
set_option maxRecDepth 40000 in
theorem tw_1365 : (.code yX12_write cX12_write 5 (some .int) : Cond) ∈ lw_tbl := tc_6 _ (List.mem_of_getElem? (i := 115) (by decide +kernel))
set_option maxRecDepth 40000 in
theorem tw_1366 : (.methodLink RX12 268 yX12_promiseCount : Cond) ∈ lw_tbl := tc_6 _ (List.mem_of_getElem? (i := 116) (by decide +kernel))
set_option maxRecDepth 40000 in
theorem tw_1368 : (.instanceMethod yX12_promiseCount : Cond) ∈ lw_tbl := tc_6 _ (List.mem_of_getElem? (i := 118) (by decide +kernel))
set_option maxRecDepth 40000 in
theorem tw_1369 : (.code yX12_promiseCount cX12_promiseCount 3 (some .int) : Cond) ∈ lw_tbl := tc_6 _ (List.mem_of_getElem? (i := 119) (by decide +kernel))
set_option maxRecDepth 40000 in
theorem tw_1370 : (.methodLink RX12 271 yX12_canCome : Cond) ∈ lw_tbl := tc_6 _ (List.mem_of_getElem? (i := 120) (by decide +kernel))
set_option maxRecDepth 40000 in
theorem tw_1372 : (.instanceMethod yX12_canCome : Cond) ∈ lw_tbl := tc_6 _ (List.mem_of_getElem? (i := 122) (by decide +kernel))
set_option maxRecDepth 40000 in
theorem tw_1373 : (.code yX12_canCome cX12_canCome 4 (some .boolean) : Cond) ∈ lw_tbl := tc_6 _ (List.mem_of_getElem? (i := 123) (by decide +kernel))
set_option maxRecDepth 40000 in
theorem tw_1374 : (.methodLink RX12 274 yX12_voids : Cond) ∈ lw_tbl := tc_6 _ (List.mem_of_getElem? (i := 124) (by decide +kernel))
set_option maxRecDepth 40000 in
theorem tw_1376 : (.instanceMethod yX12_voids : Cond) ∈ lw_tbl := tc_6 _ (List.mem_of_getElem? (i := 126) (by decide +kernel))
set_option maxRecDepth 40000 in
theorem tw_1377 : (.code yX12_voids cX12_voids 4 none : Cond) ∈ lw_tbl := tc_6 _ (List.mem_of_getElem? (i := 127) (by decide +kernel))
set_option maxRecDepth 40000 in
theorem tw_1378 : (.methodLink RX12 162 yX12_stores : Cond) ∈ lw_tbl := tc_6 _ (List.mem_of_getElem? (i := 128) (by decide +kernel))
set_option maxRecDepth 40000 in
theorem tw_1380 : (.instanceMethod yX12_stores : Cond) ∈ lw_tbl := tc_6 _ (List.mem_of_getElem? (i := 130) (by decide +kernel))
set_option maxRecDepth 40000 in
theorem tw_1381 : (.code yX12_stores cX12_stores 3 none : Cond) ∈ lw_tbl := tc_6 _ (List.mem_of_getElem? (i := 131) (by decide +kernel))
set_option maxRecDepth 40000 in
theorem tw_1382 : (.methodLink RL 146 yX12_drop : Cond) ∈ lw_tbl := tc_6 _ (List.mem_of_getElem? (i := 132) (by decide +kernel))
set_option maxRecDepth 40000 in
theorem tw_1383 : (.instanceMethod yX12_drop : Cond) ∈ lw_tbl := tc_6 _ (List.mem_of_getElem? (i := 133) (by decide +kernel))
set_option maxRecDepth 40000 in
theorem tw_1384 : (.selects RX12 yX12_drop yX12_drop : Cond) ∈ lw_tbl := tc_6 _ (List.mem_of_getElem? (i := 134) (by decide +kernel))
set_option maxRecDepth 40000 in
theorem tw_1385 : (.code yX12_drop cX12_drop 3 (some .boolean) : Cond) ∈ lw_tbl := tc_6 _ (List.mem_of_getElem? (i := 135) (by decide +kernel))
set_option maxRecDepth 40000 in
theorem tw_1386 : (.methodLink RX12 277 yX12_keepsPromise : Cond) ∈ lw_tbl := tc_6 _ (List.mem_of_getElem? (i := 136) (by decide +kernel))
set_option maxRecDepth 40000 in
theorem tw_1388 : (.instanceMethod yX12_keepsPromise : Cond) ∈ lw_tbl := tc_6 _ (List.mem_of_getElem? (i := 138) (by decide +kernel))
set_option maxRecDepth 40000 in
theorem tw_1389 : (.code yX12_keepsPromise cX12_keepsPromise 2 none : Cond) ∈ lw_tbl := tc_6 _ (List.mem_of_getElem? (i := 139) (by decide +kernel))
set_option maxRecDepth 40000 in
theorem tw_1390 : (.methodLink RL 149 yX12_bump : Cond) ∈ lw_tbl := tc_6 _ (List.mem_of_getElem? (i := 140) (by decide +kernel))
set_option maxRecDepth 40000 in
theorem tw_1391 : (.instanceMethod yX12_bump : Cond) ∈ lw_tbl := tc_6 _ (List.mem_of_getElem? (i := 141) (by decide +kernel))
set_option maxRecDepth 40000 in
theorem tw_1392 : (.selects RX12 yX12_bump yX12_bump : Cond) ∈ lw_tbl := tc_6 _ (List.mem_of_getElem? (i := 142) (by decide +kernel))
set_option maxRecDepth 40000 in
theorem tw_1393 : (.code yX12_bump cX12_bump 3 (some .int) : Cond) ∈ lw_tbl := tc_6 _ (List.mem_of_getElem? (i := 143) (by decide +kernel))
set_option maxRecDepth 40000 in
theorem tw_1394 : (.methodLink RX12 280 yX12_nextTurn : Cond) ∈ lw_tbl := tc_6 _ (List.mem_of_getElem? (i := 144) (by decide +kernel))
set_option maxRecDepth 40000 in
theorem tw_1396 : (.instanceMethod yX12_nextTurn : Cond) ∈ lw_tbl := tc_6 _ (List.mem_of_getElem? (i := 146) (by decide +kernel))
set_option maxRecDepth 40000 in
theorem tw_1397 : (.code yX12_nextTurn cX12_nextTurn 5 (some .int) : Cond) ∈ lw_tbl := tc_6 _ (List.mem_of_getElem? (i := 147) (by decide +kernel))
set_option maxRecDepth 40000 in
theorem tw_1398 : (.methodLink RL 152 yX12_pass : Cond) ∈ lw_tbl := tc_6 _ (List.mem_of_getElem? (i := 148) (by decide +kernel))
set_option maxRecDepth 40000 in
theorem tw_1399 : (.instanceMethod yX12_pass : Cond) ∈ lw_tbl := tc_6 _ (List.mem_of_getElem? (i := 149) (by decide +kernel))
set_option maxRecDepth 40000 in
theorem tw_1400 : (.selects RX12 yX12_pass yX12_pass : Cond) ∈ lw_tbl := tc_6 _ (List.mem_of_getElem? (i := 150) (by decide +kernel))
set_option maxRecDepth 40000 in
theorem tw_1401 : (.code yX12_pass cX12_pass 6 (some .int) : Cond) ∈ lw_tbl := tc_6 _ (List.mem_of_getElem? (i := 151) (by decide +kernel))
set_option maxRecDepth 40000 in
theorem tw_1402 : (.methodLink RL 155 yX12_crash : Cond) ∈ lw_tbl := tc_6 _ (List.mem_of_getElem? (i := 152) (by decide +kernel))
set_option maxRecDepth 40000 in
theorem tw_1403 : (.instanceMethod yX12_crash : Cond) ∈ lw_tbl := tc_6 _ (List.mem_of_getElem? (i := 153) (by decide +kernel))
set_option maxRecDepth 40000 in
theorem tw_1404 : (.selects RX12 yX12_crash yX12_crash : Cond) ∈ lw_tbl := tc_6 _ (List.mem_of_getElem? (i := 154) (by decide +kernel))
set_option maxRecDepth 40000 in
theorem tw_1405 : (.code yX12_crash cX12_crash 3 (some .int) : Cond) ∈ lw_tbl := tc_6 _ (List.mem_of_getElem? (i := 155) (by decide +kernel))
set_option maxRecDepth 40000 in
theorem tw_1406 : (.methodLink RL 158 yX12_recover : Cond) ∈ lw_tbl := tc_6 _ (List.mem_of_getElem? (i := 156) (by decide +kernel))
set_option maxRecDepth 40000 in
theorem tw_1407 : (.instanceMethod yX12_recover : Cond) ∈ lw_tbl := tc_6 _ (List.mem_of_getElem? (i := 157) (by decide +kernel))
set_option maxRecDepth 40000 in
theorem tw_1408 : (.selects RX12 yX12_recover yX12_recover : Cond) ∈ lw_tbl := tc_6 _ (List.mem_of_getElem? (i := 158) (by decide +kernel))
set_option maxRecDepth 40000 in
theorem tw_1409 : (.code yX12_recover cX12_recover 6 (some .int) : Cond) ∈ lw_tbl := tc_6 _ (List.mem_of_getElem? (i := 159) (by decide +kernel))
set_option maxRecDepth 40000 in
theorem tw_1410 : (.methodLink RX12 283 yX12_nextBack : Cond) ∈ lw_tbl := tc_6 _ (List.mem_of_getElem? (i := 160) (by decide +kernel))
set_option maxRecDepth 40000 in
theorem tw_1412 : (.instanceMethod yX12_nextBack : Cond) ∈ lw_tbl := tc_6 _ (List.mem_of_getElem? (i := 162) (by decide +kernel))
set_option maxRecDepth 40000 in
theorem tw_1413 : (.code yX12_nextBack cX12_nextBack 6 (some .int) : Cond) ∈ lw_tbl := tc_6 _ (List.mem_of_getElem? (i := 163) (by decide +kernel))
set_option maxRecDepth 40000 in
theorem tw_1414 : (.methodLink RL 162 yX12_minute : Cond) ∈ lw_tbl := tc_6 _ (List.mem_of_getElem? (i := 164) (by decide +kernel))
set_option maxRecDepth 40000 in
theorem tw_1415 : (.instanceMethod yX12_minute : Cond) ∈ lw_tbl := tc_6 _ (List.mem_of_getElem? (i := 165) (by decide +kernel))
set_option maxRecDepth 40000 in
theorem tw_1416 : (.selects RX12 yX12_minute yX12_minute : Cond) ∈ lw_tbl := tc_6 _ (List.mem_of_getElem? (i := 166) (by decide +kernel))
set_option maxRecDepth 40000 in
theorem tw_1417 : (.code yX12_minute cX12_minute 1 (some .int) : Cond) ∈ lw_tbl := tc_6 _ (List.mem_of_getElem? (i := 167) (by decide +kernel))
set_option maxRecDepth 40000 in
theorem tw_1418 : (.methodLink RL 165 yX12_where : Cond) ∈ lw_tbl := tc_6 _ (List.mem_of_getElem? (i := 168) (by decide +kernel))
set_option maxRecDepth 40000 in
theorem tw_1419 : (.instanceMethod yX12_where : Cond) ∈ lw_tbl := tc_6 _ (List.mem_of_getElem? (i := 169) (by decide +kernel))
set_option maxRecDepth 40000 in
theorem tw_1420 : (.selects RX12 yX12_where yX12_where : Cond) ∈ lw_tbl := tc_6 _ (List.mem_of_getElem? (i := 170) (by decide +kernel))
set_option maxRecDepth 40000 in
theorem tw_1421 : (.code yX12_where cX12_where 2 (some .char) : Cond) ∈ lw_tbl := tc_6 _ (List.mem_of_getElem? (i := 171) (by decide +kernel))
set_option maxRecDepth 40000 in
theorem tw_1422 : (.methodLink RL 169 yX12_used : Cond) ∈ lw_tbl := tc_6 _ (List.mem_of_getElem? (i := 172) (by decide +kernel))
set_option maxRecDepth 40000 in
theorem tw_1423 : (.instanceMethod yX12_used : Cond) ∈ lw_tbl := tc_6 _ (List.mem_of_getElem? (i := 173) (by decide +kernel))
set_option maxRecDepth 40000 in
theorem tw_1424 : (.selects RX12 yX12_used yX12_used : Cond) ∈ lw_tbl := tc_6 _ (List.mem_of_getElem? (i := 174) (by decide +kernel))
set_option maxRecDepth 40000 in
theorem tw_1425 : (.code yX12_used cX12_used 1 (some .int) : Cond) ∈ lw_tbl := tc_6 _ (List.mem_of_getElem? (i := 175) (by decide +kernel))
set_option maxRecDepth 40000 in
theorem tw_1426 : (.methodLink RL 172 yX12_estimate : Cond) ∈ lw_tbl := tc_6 _ (List.mem_of_getElem? (i := 176) (by decide +kernel))
set_option maxRecDepth 40000 in
theorem tw_1427 : (.instanceMethod yX12_estimate : Cond) ∈ lw_tbl := tc_6 _ (List.mem_of_getElem? (i := 177) (by decide +kernel))
set_option maxRecDepth 40000 in
theorem tw_1428 : (.selects RX12 yX12_estimate yX12_estimate : Cond) ∈ lw_tbl := tc_6 _ (List.mem_of_getElem? (i := 178) (by decide +kernel))
set_option maxRecDepth 40000 in
theorem tw_1429 : (.code yX12_estimate cX12_estimate 2 (some .int) : Cond) ∈ lw_tbl := tc_6 _ (List.mem_of_getElem? (i := 179) (by decide +kernel))
set_option maxRecDepth 40000 in
theorem tw_1430 : (.methodLink RL 175 yX12_versionOf : Cond) ∈ lw_tbl := tc_6 _ (List.mem_of_getElem? (i := 180) (by decide +kernel))
set_option maxRecDepth 40000 in
theorem tw_1431 : (.instanceMethod yX12_versionOf : Cond) ∈ lw_tbl := tc_6 _ (List.mem_of_getElem? (i := 181) (by decide +kernel))
set_option maxRecDepth 40000 in
theorem tw_1432 : (.selects RX12 yX12_versionOf yX12_versionOf : Cond) ∈ lw_tbl := tc_6 _ (List.mem_of_getElem? (i := 182) (by decide +kernel))
set_option maxRecDepth 40000 in
theorem tw_1433 : (.code yX12_versionOf cX12_versionOf 2 (some .int) : Cond) ∈ lw_tbl := tc_6 _ (List.mem_of_getElem? (i := 183) (by decide +kernel))
set_option maxRecDepth 40000 in
theorem tw_1434 : (.methodLink RL 179 yX12_slot : Cond) ∈ lw_tbl := tc_6 _ (List.mem_of_getElem? (i := 184) (by decide +kernel))
set_option maxRecDepth 40000 in
theorem tw_1435 : (.instanceMethod yX12_slot : Cond) ∈ lw_tbl := tc_6 _ (List.mem_of_getElem? (i := 185) (by decide +kernel))
set_option maxRecDepth 40000 in
theorem tw_1436 : (.selects RX12 yX12_slot yX12_slot : Cond) ∈ lw_tbl := tc_6 _ (List.mem_of_getElem? (i := 186) (by decide +kernel))
set_option maxRecDepth 40000 in
theorem tw_1437 : (.code yX12_slot cX12_slot 3 (some .int) : Cond) ∈ lw_tbl := tc_6 _ (List.mem_of_getElem? (i := 187) (by decide +kernel))
set_option maxRecDepth 40000 in
theorem tw_1438 : (.methodLink RL 182 yX12_wear : Cond) ∈ lw_tbl := tc_6 _ (List.mem_of_getElem? (i := 188) (by decide +kernel))
set_option maxRecDepth 40000 in
theorem tw_1439 : (.instanceMethod yX12_wear : Cond) ∈ lw_tbl := tc_6 _ (List.mem_of_getElem? (i := 189) (by decide +kernel))
set_option maxRecDepth 40000 in
theorem tw_1440 : (.selects RX12 yX12_wear yX12_wear : Cond) ∈ lw_tbl := tc_6 _ (List.mem_of_getElem? (i := 190) (by decide +kernel))
set_option maxRecDepth 40000 in
theorem tw_1441 : (.code yX12_wear cX12_wear 2 (some .int) : Cond) ∈ lw_tbl := tc_6 _ (List.mem_of_getElem? (i := 191) (by decide +kernel))
set_option maxRecDepth 40000 in
theorem tw_1442 : (.methodLink RL 185 yX12_stored : Cond) ∈ lw_tbl := tc_6 _ (List.mem_of_getElem? (i := 192) (by decide +kernel))
set_option maxRecDepth 40000 in
theorem tw_1443 : (.instanceMethod yX12_stored : Cond) ∈ lw_tbl := tc_6 _ (List.mem_of_getElem? (i := 193) (by decide +kernel))
set_option maxRecDepth 40000 in
theorem tw_1444 : (.selects RX12 yX12_stored yX12_stored : Cond) ∈ lw_tbl := tc_6 _ (List.mem_of_getElem? (i := 194) (by decide +kernel))
set_option maxRecDepth 40000 in
theorem tw_1445 : (.code yX12_stored cX12_stored 2 (some .int) : Cond) ∈ lw_tbl := tc_6 _ (List.mem_of_getElem? (i := 195) (by decide +kernel))
set_option maxRecDepth 40000 in
theorem tw_1446 : (.methodLink RL 189 yX12_promises : Cond) ∈ lw_tbl := tc_6 _ (List.mem_of_getElem? (i := 196) (by decide +kernel))
set_option maxRecDepth 40000 in
theorem tw_1447 : (.instanceMethod yX12_promises : Cond) ∈ lw_tbl := tc_6 _ (List.mem_of_getElem? (i := 197) (by decide +kernel))
set_option maxRecDepth 40000 in
theorem tw_1448 : (.selects RX12 yX12_promises yX12_promises : Cond) ∈ lw_tbl := tc_6 _ (List.mem_of_getElem? (i := 198) (by decide +kernel))
set_option maxRecDepth 40000 in
theorem tw_1449 : (.code yX12_promises cX12_promises 1 (some .int) : Cond) ∈ lw_tbl := tc_6 _ (List.mem_of_getElem? (i := 199) (by decide +kernel))
set_option maxRecDepth 40000 in
theorem tw_1450 : (.methodLink RL 192 yX12_nextPromise : Cond) ∈ lw_tbl := tc_6 _ (List.mem_of_getElem? (i := 200) (by decide +kernel))
set_option maxRecDepth 40000 in
theorem tw_1451 : (.instanceMethod yX12_nextPromise : Cond) ∈ lw_tbl := tc_6 _ (List.mem_of_getElem? (i := 201) (by decide +kernel))
set_option maxRecDepth 40000 in
theorem tw_1452 : (.selects RX12 yX12_nextPromise yX12_nextPromise : Cond) ∈ lw_tbl := tc_6 _ (List.mem_of_getElem? (i := 202) (by decide +kernel))
set_option maxRecDepth 40000 in
theorem tw_1453 : (.code yX12_nextPromise cX12_nextPromise 2 (some .int) : Cond) ∈ lw_tbl := tc_6 _ (List.mem_of_getElem? (i := 203) (by decide +kernel))
set_option maxRecDepth 40000 in
theorem tw_1454 : (.methodLink RL 196 yX12_messages : Cond) ∈ lw_tbl := tc_6 _ (List.mem_of_getElem? (i := 204) (by decide +kernel))
set_option maxRecDepth 40000 in
theorem tw_1455 : (.instanceMethod yX12_messages : Cond) ∈ lw_tbl := tc_6 _ (List.mem_of_getElem? (i := 205) (by decide +kernel))
set_option maxRecDepth 40000 in
theorem tw_1456 : (.selects RX12 yX12_messages yX12_messages : Cond) ∈ lw_tbl := tc_6 _ (List.mem_of_getElem? (i := 206) (by decide +kernel))
set_option maxRecDepth 40000 in
theorem tw_1457 : (.code yX12_messages cX12_messages 1 (some .int) : Cond) ∈ lw_tbl := tc_6 _ (List.mem_of_getElem? (i := 207) (by decide +kernel))
set_option maxRecDepth 40000 in
theorem tw_1458 : (.methodLink RX12 286 yX12_underWay : Cond) ∈ lw_tbl := tc_6 _ (List.mem_of_getElem? (i := 208) (by decide +kernel))
set_option maxRecDepth 40000 in
theorem tw_1460 : (.instanceMethod yX12_underWay : Cond) ∈ lw_tbl := tc_6 _ (List.mem_of_getElem? (i := 210) (by decide +kernel))
set_option maxRecDepth 40000 in
theorem tw_1461 : (.code yX12_underWay cX12_underWay 3 (some .int) : Cond) ∈ lw_tbl := tc_6 _ (List.mem_of_getElem? (i := 211) (by decide +kernel))
set_option maxRecDepth 40000 in
theorem tw_1462 : (.methodLink RL 199 yX12_deliver : Cond) ∈ lw_tbl := tc_6 _ (List.mem_of_getElem? (i := 212) (by decide +kernel))
set_option maxRecDepth 40000 in
theorem tw_1463 : (.instanceMethod yX12_deliver : Cond) ∈ lw_tbl := tc_6 _ (List.mem_of_getElem? (i := 213) (by decide +kernel))
set_option maxRecDepth 40000 in
theorem tw_1464 : (.selects RX12 yX12_deliver yX12_deliver : Cond) ∈ lw_tbl := tc_6 _ (List.mem_of_getElem? (i := 214) (by decide +kernel))
set_option maxRecDepth 40000 in
theorem tw_1465 : (.code yX12_deliver cX12_deliver 6 (some .boolean) : Cond) ∈ lw_tbl := tc_6 _ (List.mem_of_getElem? (i := 215) (by decide +kernel))
set_option maxRecDepth 40000 in
theorem tw_1466 : (.methodLink RL 202 yX12_mirrored : Cond) ∈ lw_tbl := tc_6 _ (List.mem_of_getElem? (i := 216) (by decide +kernel))
set_option maxRecDepth 40000 in
theorem tw_1467 : (.instanceMethod yX12_mirrored : Cond) ∈ lw_tbl := tc_6 _ (List.mem_of_getElem? (i := 217) (by decide +kernel))
set_option maxRecDepth 40000 in
theorem tw_1468 : (.selects RX12 yX12_mirrored yX12_mirrored : Cond) ∈ lw_tbl := tc_6 _ (List.mem_of_getElem? (i := 218) (by decide +kernel))
set_option maxRecDepth 40000 in
theorem tw_1469 : (.code yX12_mirrored cX12_mirrored 2 (some .int) : Cond) ∈ lw_tbl := tc_6 _ (List.mem_of_getElem? (i := 219) (by decide +kernel))
set_option maxRecDepth 40000 in
theorem tw_1470 : (.methodLink RL 207 yX12_paid : Cond) ∈ lw_tbl := tc_6 _ (List.mem_of_getElem? (i := 220) (by decide +kernel))
set_option maxRecDepth 40000 in
theorem tw_1471 : (.instanceMethod yX12_paid : Cond) ∈ lw_tbl := tc_6 _ (List.mem_of_getElem? (i := 221) (by decide +kernel))
set_option maxRecDepth 40000 in
theorem tw_1472 : (.selects RX12 yX12_paid yX12_paid : Cond) ∈ lw_tbl := tc_6 _ (List.mem_of_getElem? (i := 222) (by decide +kernel))
set_option maxRecDepth 40000 in
theorem tw_1473 : (.code yX12_paid cX12_paid 1 (some .long) : Cond) ∈ lw_tbl := tc_6 _ (List.mem_of_getElem? (i := 223) (by decide +kernel))
set_option maxRecDepth 40000 in
theorem tw_1474 : (.methodLink RL 211 yX12_answeredShare : Cond) ∈ lw_tbl := tc_6 _ (List.mem_of_getElem? (i := 224) (by decide +kernel))
set_option maxRecDepth 40000 in
theorem tw_1475 : (.instanceMethod yX12_answeredShare : Cond) ∈ lw_tbl := tc_6 _ (List.mem_of_getElem? (i := 225) (by decide +kernel))
set_option maxRecDepth 40000 in
theorem tw_1476 : (.selects RX12 yX12_answeredShare yX12_answeredShare : Cond) ∈ lw_tbl := tc_6 _ (List.mem_of_getElem? (i := 226) (by decide +kernel))
set_option maxRecDepth 40000 in
theorem tw_1477 : (.code yX12_answeredShare cX12_answeredShare 1 (some .float) : Cond) ∈ lw_tbl := tc_6 _ (List.mem_of_getElem? (i := 227) (by decide +kernel))
set_option maxRecDepth 40000 in
theorem tw_1478 : (.methodLink RL 214 yX12_meanStaleness : Cond) ∈ lw_tbl := tc_6 _ (List.mem_of_getElem? (i := 228) (by decide +kernel))
set_option maxRecDepth 40000 in
theorem tw_1479 : (.instanceMethod yX12_meanStaleness : Cond) ∈ lw_tbl := tc_6 _ (List.mem_of_getElem? (i := 229) (by decide +kernel))
set_option maxRecDepth 40000 in
theorem tw_1480 : (.selects RX12 yX12_meanStaleness yX12_meanStaleness : Cond) ∈ lw_tbl := tc_6 _ (List.mem_of_getElem? (i := 230) (by decide +kernel))
set_option maxRecDepth 40000 in
theorem tw_1481 : (.code yX12_meanStaleness cX12_meanStaleness 1 (some .double) : Cond) ∈ lw_tbl := tc_6 _ (List.mem_of_getElem? (i := 231) (by decide +kernel))
set_option maxRecDepth 40000 in
theorem tw_1482 : (.methodLink RL 219 yX12_isHonest : Cond) ∈ lw_tbl := tc_6 _ (List.mem_of_getElem? (i := 232) (by decide +kernel))
set_option maxRecDepth 40000 in
theorem tw_1483 : (.instanceMethod yX12_isHonest : Cond) ∈ lw_tbl := tc_6 _ (List.mem_of_getElem? (i := 233) (by decide +kernel))
set_option maxRecDepth 40000 in
theorem tw_1484 : (.selects RX12 yX12_isHonest yX12_isHonest : Cond) ∈ lw_tbl := tc_6 _ (List.mem_of_getElem? (i := 234) (by decide +kernel))
set_option maxRecDepth 40000 in
theorem tw_1485 : (.code yX12_isHonest cX12_isHonest 1 (some .boolean) : Cond) ∈ lw_tbl := tc_6 _ (List.mem_of_getElem? (i := 235) (by decide +kernel))
set_option maxRecDepth 40000 in
theorem tw_1486 : (.arrayClass .long : Cond) ∈ lw_tbl := tc_6 _ (List.mem_of_getElem? (i := 236) (by decide +kernel))
set_option maxRecDepth 40000 in
theorem tw_1487 : (.arrayClass .double : Cond) ∈ lw_tbl := tc_6 _ (List.mem_of_getElem? (i := 237) (by decide +kernel))
set_option maxRecDepth 40000 in
theorem gc_X0 : GoodIn lw_tbl wsX00 := goodIn_sub inX0 (by decide +kernel)
set_option maxRecDepth 40000 in
theorem gc_X1 : GoodIn lw_tbl wsX10 := goodIn_sub inX1 (by decide +kernel)
set_option maxRecDepth 40000 in
theorem gc_X10 : GoodIn lw_tbl wsX100 := goodIn_sub inX10 (by decide +kernel)
set_option maxRecDepth 40000 in
theorem gc_X11 : GoodIn lw_tbl wsX110 := goodIn_sub inX11 (by decide +kernel)
set_option maxRecDepth 40000 in
theorem gc_X12 : GoodIn lw_tbl wsX120 := goodIn_sub inX12 (by decide +kernel)
set_option maxRecDepth 40000 in
theorem gc_X2 : GoodIn lw_tbl wsX20 := goodIn_sub inX2 (by decide +kernel)
set_option maxRecDepth 40000 in
theorem gc_X3 : GoodIn lw_tbl wsX30 := goodIn_sub inX3 (by decide +kernel)
set_option maxRecDepth 40000 in
theorem gc_X4 : GoodIn lw_tbl wsX40 := goodIn_sub inX4 (by decide +kernel)
set_option maxRecDepth 40000 in
theorem gc_X5 : GoodIn lw_tbl wsX50 := goodIn_sub inX5 (by decide +kernel)
