def wsL_write_r6 : List Cond := [Cond.fieldLink RX8 22 "SlipstreamCache$Pledges" "count" "I", Cond.methodLink RX11 190 yX4_numberFor, Cond.instanceMethod yX4_numberFor, Cond.selects RX4 yX4_numberFor yX4_numberFor, Cond.initialized RX4, Cond.code yX4_numberFor cX4_numberFor 2 (some .int), Cond.fieldLink RX4 21 "SlipstreamCache$Keys" "numbers" "[I", Cond.fieldLink RX4 18 "SlipstreamCache$Keys" "groups" "[I", Cond.methodLink RX11 194 yX2_put, Cond.instanceMethod yX2_put, Cond.selects RX2 yX2_put yX2_put, Cond.initialized RX2, Cond.code yX2_put cX2_put 6 none, Cond.fieldLink RX2 7 "SlipstreamCache$Copies" "values" "[I", Cond.fieldLink RX2 13 "SlipstreamCache$Copies" "versions" "[I", Cond.fieldLink RX2 16 "SlipstreamCache$Copies" "minutes" "[I", Cond.fieldLink RX2 19 "SlipstreamCache$Copies" "numbers" "[I", Cond.methodLink RX11 386 yX6_touch, Cond.instanceMethod yX6_touch, Cond.selects RX6 yX6_touch yX6_touch, Cond.initialized RX6, Cond.code yX6_touch cX6_touch 2 none, Cond.fieldLink RX6 28 "SlipstreamCache$Memory" "uses" "I", Cond.fieldLink RX6 24 "SlipstreamCache$Memory" "usedAt" "[I"]
def wsL_write_r7 : List Cond := [Cond.methodLink RX11 247 yX3_takeOut, Cond.instanceMethod yX3_takeOut, Cond.selects RX3 yX3_takeOut yX3_takeOut, Cond.initialized RX3, Cond.code yX3_takeOut cX3_takeOut 2 none, Cond.fieldLink RX3 24 "SlipstreamCache$Flash" "index" "[I", Cond.fieldLink RX3 20 "SlipstreamCache$Flash" "signs" "[I", Cond.methodLink RX3 37 yX3_nextSlot, Cond.instanceMethod yX3_nextSlot, Cond.selects RX3 yX3_nextSlot yX3_nextSlot, Cond.code yX3_nextSlot cX3_nextSlot 2 (some .int), Cond.fieldLink RX3 30 "SlipstreamCache$Flash" "next" "I", Cond.methodLink RX3 45 yX3_beginAnew, Cond.instanceMethod yX3_beginAnew, Cond.selects RX3 yX3_beginAnew yX3_beginAnew, Cond.code yX3_beginAnew cX3_beginAnew 4 none, Cond.fieldLink RX3 27 "SlipstreamCache$Flash" "wears" "[I", Cond.methodLink RX11 250 yX5_voidFor, Cond.instanceMethod yX5_voidFor, Cond.selects RX5 yX5_voidFor yX5_voidFor, Cond.initialized RX5, Cond.code yX5_voidFor cX5_voidFor 3 none, Cond.fieldLink RX5 35 "SlipstreamCache$Leases" "count" "I", Cond.fieldLink RX5 20 "SlipstreamCache$Leases" "keyOf" "[I"]
def wsL_write_r8 : List Cond := [Cond.fieldLink RX5 31 "SlipstreamCache$Leases" "ends" "[C", Cond.methodLink RX11 231 yX11_writeBehind, Cond.instanceMethod yX11_writeBehind, Cond.selects RX11 yX11_writeBehind yX11_writeBehind, Cond.code yX11_writeBehind cX11_writeBehind 3 none, Cond.fieldLink RX11 84 "SlipstreamCache" "incoming" "LSlipstreamCache$Copies;", Cond.methodLink RX11 418 yX11_come, Cond.instanceMethod yX11_come, Cond.selects RX11 yX11_come yX11_come, Cond.code yX11_come cX11_come 4 none, Cond.fieldLink RX11 414 "SlipstreamCache$Choice" "count" "I", Cond.fieldLink RX11 421 "SlipstreamCache$Choice" "order" "[I", Cond.methodLink RX11 424 yX3_append, Cond.instanceMethod yX3_append, Cond.selects RX3 yX3_append yX3_append, Cond.code yX3_append cX3_append 4 none, Cond.fieldLink RX3 14 "SlipstreamCache$Flash" "copies" "LSlipstreamCache$Copies;", Cond.methodLink RX3 41 yX2_take, Cond.instanceMethod yX2_take, Cond.selects RX2 yX2_take yX2_take, Cond.code yX2_take cX2_take 4 none, Cond.methodLink RX2 22 yX2_put, Cond.methodLink RX11 244 yX6_remove, Cond.instanceMethod yX6_remove]
def wsL_write_r9 : List Cond := [Cond.selects RX6 yX6_remove yX6_remove, Cond.code yX6_remove cX6_remove 3 none, Cond.fieldLink RX6 20 "SlipstreamCache$Memory" "present" "[Z", Cond.fieldLink RX6 32 "SlipstreamCache$Memory" "filled" "I", Cond.methodLink RX11 428 yX6_put, Cond.instanceMethod yX6_put, Cond.selects RX6 yX6_put yX6_put, Cond.code yX6_put cX6_put 4 none, Cond.fieldLink RX6 14 "SlipstreamCache$Memory" "copies" "LSlipstreamCache$Copies;", Cond.methodLink RX6 35 yX2_take, Cond.methodLink RX6 39 yX6_touch, Cond.methodLink RX11 444 yX8_add, Cond.instanceMethod yX8_add, Cond.selects RX8 yX8_add yX8_add, Cond.code yX8_add cX8_add 4 none, Cond.fieldLink RX8 19 "SlipstreamCache$Pledges" "due" "[I", Cond.fieldLink RX8 15 "SlipstreamCache$Pledges" "values" "[I"]
def wsL_write : List Cond := .codeWith yL_write cL_write 6 (some .int) [(0, 12, 15, 13), (0, 12, 19, 15), (0, 12, 23, 17), (0, 12, 27, 23)] :: ((wsL_write_r1 ++ (wsL_write_r2 ++ (wsL_write_r3 ++ (wsL_write_r4 ++ (wsL_write_r5 ++ (wsL_write_r6 ++ (wsL_write_r7 ++ (wsL_write_r8 ++ wsL_write_r9)))))))) ++ wsX110 ++ wsX100 ++ wsX80 ++ wsX60 ++ wsX40 ++ wsX10 ++ wsX90 ++ wsX70 ++ wsX20 ++ wsX30 ++ wsX50 ++ (vx_atM "java/lang/ArrayIndexOutOfBoundsException" ["java/lang/IndexOutOfBoundsException", "java/lang/RuntimeException", "java/lang/Exception"]).filter goodWord ++ (vx_atS RX11 215 "java/lang/IllegalArgumentException" ["java/lang/RuntimeException", "java/lang/Exception"]).filter goodWord ++ (vx_atS RX11 118 "java/lang/IllegalStateException" ["java/lang/RuntimeException", "java/lang/Exception"]).filter goodWord ++ (vx_atS RX11 142 "java/lang/UnsupportedOperationException" ["java/lang/RuntimeException", "java/lang/Exception"]).filter goodWord ++ (vx_atS RX11 257 "java/lang/IndexOutOfBoundsException" ["java/lang/RuntimeException", "java/lang/Exception"]).filter goodWord)
def wsL_drop_r1 : List Cond := [Cond.classLink RL 13 "java/lang/IndexOutOfBoundsException", Cond.classLink RL 17 "java/lang/IllegalStateException", Cond.methodLink RL 52 yX11_drop, Cond.instanceMethod yX11_drop, Cond.selects RX11 yX11_drop yX11_drop, Cond.initialized RX11, Cond.code yX11_drop cX11_drop 3 (some .boolean), Cond.fieldLink RX11 54 "SlipstreamCache" "pledges" "LSlipstreamCache$Pledges;", Cond.fieldLink RX11 238 "SlipstreamCache$Pledges" "waiting" "[Z", Cond.fieldLink RX11 40 "SlipstreamCache" "memory" "LSlipstreamCache$Memory;", Cond.fieldLink RX11 12 "SlipstreamCache" "keys" "LSlipstreamCache$Keys;", Cond.fieldLink RX11 125 "SlipstreamCache$Keys" "sizes" "[I", Cond.fieldLink RX11 47 "SlipstreamCache" "flash" "LSlipstreamCache$Flash;", Cond.fieldLink RX11 61 "SlipstreamCache" "leases" "LSlipstreamCache$Leases;", Cond.methodLink RX11 96 yX11_requireKey, Cond.static yX11_requireKey, Cond.code yX11_requireKey cX11_requireKey 1 none, Cond.classLink RX11 253 "java/lang/IndexOutOfBoundsException", Cond.initialized "java/lang/IndexOutOfBoundsException", Cond.methodLink RX11 103 yX11_requireUp, Cond.instanceMethod yX11_requireUp, Cond.selects RX11 yX11_requireUp yX11_requireUp, Cond.code yX11_requireUp cX11_requireUp 1 none, Cond.classLink RX11 114 "java/lang/IllegalStateException"]
def wsL_drop_r2 : List Cond := [Cond.initialized "java/lang/IllegalStateException", Cond.fieldLink RX11 92 "SlipstreamCache" "down" "Z", Cond.methodLink RX11 106 yX11_isKept, Cond.instanceMethod yX11_isKept, Cond.selects RX11 yX11_isKept yX11_isKept, Cond.code yX11_isKept cX11_isKept 2 (some .boolean), Cond.fieldLink RX11 292 "SlipstreamCache$Memory" "present" "[Z", Cond.fieldLink RX11 295 "SlipstreamCache$Flash" "index" "[I", Cond.methodLink RX11 241 yX11_keepPromise, Cond.instanceMethod yX11_keepPromise, Cond.selects RX11 yX11_keepPromise yX11_keepPromise, Cond.code yX11_keepPromise cX11_keepPromise 3 none, Cond.fieldLink RX11 446 "SlipstreamCache$Pledges" "values" "[I", Cond.fieldLink RX11 306 "SlipstreamCache$Memory" "copies" "LSlipstreamCache$Copies;", Cond.fieldLink RX11 307 "SlipstreamCache$Copies" "versions" "[I", Cond.fieldLink RX11 375 "SlipstreamCache$Copies" "minutes" "[I", Cond.fieldLink RX11 88 "SlipstreamCache" "now" "I", Cond.methodLink RX11 234 yX11_writeStore, Cond.instanceMethod yX11_writeStore, Cond.selects RX11 yX11_writeStore yX11_writeStore, Cond.code yX11_writeStore cX11_writeStore 4 (some .int), Cond.fieldLink RX11 19 "SlipstreamCache" "store" "LSlipstreamCache$Store;", Cond.fieldLink RX11 26 "SlipstreamCache" "mirror" "LSlipstreamCache$Mirror;", Cond.methodLink RX11 437 yX10_put]
def wsL_drop_r3 : List Cond := [Cond.instanceMethod yX10_put, Cond.selects RX10 yX10_put yX10_put, Cond.initialized RX10, Cond.code yX10_put cX10_put 4 (some .int), Cond.fieldLink RX10 9 "SlipstreamCache$Store" "values" "[I", Cond.fieldLink RX10 15 "SlipstreamCache$Store" "versions" "[I", Cond.fieldLink RX10 27 "SlipstreamCache$Store" "logged" "I", Cond.fieldLink RX10 18 "SlipstreamCache$Store" "logKeys" "[I", Cond.fieldLink RX10 21 "SlipstreamCache$Store" "logVersions" "[I", Cond.fieldLink RX10 24 "SlipstreamCache$Store" "logMinutes" "[I", Cond.methodLink RX11 439 yX7_send, Cond.instanceMethod yX7_send, Cond.selects RX7 yX7_send yX7_send, Cond.initialized RX7, Cond.code yX7_send cX7_send 4 none, Cond.fieldLink RX7 27 "SlipstreamCache$Mirror" "count" "I", Cond.fieldLink RX7 18 "SlipstreamCache$Mirror" "sentKeys" "[I", Cond.fieldLink RX7 21 "SlipstreamCache$Mirror" "sentVersions" "[I", Cond.fieldLink RX7 24 "SlipstreamCache$Mirror" "sentValues" "[I", Cond.methodLink RX11 442 yX8_remove, Cond.instanceMethod yX8_remove, Cond.selects RX8 yX8_remove yX8_remove, Cond.initialized RX8, Cond.code yX8_remove cX8_remove 2 none]
def wsL_drop_r4 : List Cond := [Cond.fieldLink RX8 9 "SlipstreamCache$Pledges" "waiting" "[Z", Cond.fieldLink RX8 22 "SlipstreamCache$Pledges" "count" "I", Cond.methodLink RX11 244 yX6_remove, Cond.instanceMethod yX6_remove, Cond.selects RX6 yX6_remove yX6_remove, Cond.initialized RX6, Cond.code yX6_remove cX6_remove 3 none, Cond.fieldLink RX6 20 "SlipstreamCache$Memory" "present" "[Z", Cond.fieldLink RX6 32 "SlipstreamCache$Memory" "filled" "I", Cond.methodLink RX11 247 yX3_takeOut, Cond.instanceMethod yX3_takeOut, Cond.selects RX3 yX3_takeOut yX3_takeOut, Cond.initialized RX3, Cond.code yX3_takeOut cX3_takeOut 2 none, Cond.fieldLink RX3 24 "SlipstreamCache$Flash" "index" "[I", Cond.fieldLink RX3 20 "SlipstreamCache$Flash" "signs" "[I", Cond.methodLink RX3 37 yX3_nextSlot, Cond.instanceMethod yX3_nextSlot, Cond.selects RX3 yX3_nextSlot yX3_nextSlot, Cond.code yX3_nextSlot cX3_nextSlot 2 (some .int), Cond.fieldLink RX3 30 "SlipstreamCache$Flash" "next" "I", Cond.methodLink RX3 45 yX3_beginAnew, Cond.instanceMethod yX3_beginAnew, Cond.selects RX3 yX3_beginAnew yX3_beginAnew]
def wsL_drop_r5 : List Cond := [Cond.code yX3_beginAnew cX3_beginAnew 4 none, Cond.fieldLink RX3 27 "SlipstreamCache$Flash" "wears" "[I", Cond.methodLink RX11 250 yX5_voidFor, Cond.instanceMethod yX5_voidFor, Cond.selects RX5 yX5_voidFor yX5_voidFor, Cond.initialized RX5, Cond.code yX5_voidFor cX5_voidFor 3 none, Cond.fieldLink RX5 35 "SlipstreamCache$Leases" "count" "I", Cond.fieldLink RX5 20 "SlipstreamCache$Leases" "keyOf" "[I", Cond.fieldLink RX5 31 "SlipstreamCache$Leases" "ends" "[C"]
def wsL_drop : List Cond := .codeWith yL_drop cL_drop 4 (some .int) [(0, 16, 19, 13), (0, 16, 22, 17)] :: ((wsL_drop_r1 ++ (wsL_drop_r2 ++ (wsL_drop_r3 ++ (wsL_drop_r4 ++ wsL_drop_r5)))) ++ wsX110 ++ wsX80 ++ wsX40 ++ wsX60 ++ wsX30 ++ wsX20 ++ wsX100 ++ wsX70 ++ wsX50 ++ (vx_atM "java/lang/ArrayIndexOutOfBoundsException" ["java/lang/IndexOutOfBoundsException", "java/lang/RuntimeException", "java/lang/Exception"]).filter goodWord ++ (vx_atS RX11 257 "java/lang/IndexOutOfBoundsException" ["java/lang/RuntimeException", "java/lang/Exception"]).filter goodWord ++ (vx_atS RX11 118 "java/lang/IllegalStateException" ["java/lang/RuntimeException", "java/lang/Exception"]).filter goodWord)
def wsL_bump_r1 : List Cond := [Cond.classLink RL 13 "java/lang/IndexOutOfBoundsException", Cond.classLink RL 17 "java/lang/IllegalStateException", Cond.methodLink RL 56 yX11_bump, Cond.instanceMethod yX11_bump, Cond.selects RX11 yX11_bump yX11_bump, Cond.initialized RX11, Cond.code yX11_bump cX11_bump 3 (some .int), Cond.classLink RX11 253 "java/lang/IndexOutOfBoundsException", Cond.initialized "java/lang/IndexOutOfBoundsException", Cond.fieldLink RX11 12 "SlipstreamCache" "keys" "LSlipstreamCache$Keys;", Cond.fieldLink RX11 121 "SlipstreamCache$Keys" "groups" "[I", Cond.fieldLink RX11 61 "SlipstreamCache" "leases" "LSlipstreamCache$Leases;", Cond.fieldLink RX11 261 "SlipstreamCache$Keys" "numbers" "[I", Cond.methodLink RX11 103 yX11_requireUp, Cond.instanceMethod yX11_requireUp, Cond.selects RX11 yX11_requireUp yX11_requireUp, Cond.code yX11_requireUp cX11_requireUp 1 none, Cond.classLink RX11 114 "java/lang/IllegalStateException", Cond.initialized "java/lang/IllegalStateException", Cond.fieldLink RX11 92 "SlipstreamCache" "down" "Z", Cond.methodLink RX11 258 yX11_keepPromises, Cond.instanceMethod yX11_keepPromises, Cond.selects RX11 yX11_keepPromises yX11_keepPromises, Cond.code yX11_keepPromises cX11_keepPromises 6 (some .int)]
def wsL_bump_r2 : List Cond := [Cond.fieldLink RX11 54 "SlipstreamCache" "pledges" "LSlipstreamCache$Pledges;", Cond.fieldLink RX11 447 "SlipstreamCache$Pledges" "due" "[I", Cond.methodLink RX11 320 yX8_nextOf, Cond.instanceMethod yX8_nextOf, Cond.selects RX8 yX8_nextOf yX8_nextOf, Cond.initialized RX8, Cond.code yX8_nextOf cX8_nextOf 6 (some .int), Cond.fieldLink RX8 9 "SlipstreamCache$Pledges" "waiting" "[Z", Cond.fieldLink RX8 26 "SlipstreamCache$Keys" "groups" "[I", Cond.methodLink RX8 31 yX8_isBefore, Cond.instanceMethod yX8_isBefore, Cond.selects RX8 yX8_isBefore yX8_isBefore, Cond.code yX8_isBefore cX8_isBefore 4 (some .boolean), Cond.fieldLink RX8 19 "SlipstreamCache$Pledges" "due" "[I", Cond.fieldLink RX8 35 "SlipstreamCache$Keys" "costs" "[I", Cond.methodLink RX11 241 yX11_keepPromise, Cond.instanceMethod yX11_keepPromise, Cond.selects RX11 yX11_keepPromise yX11_keepPromise, Cond.code yX11_keepPromise cX11_keepPromise 3 none, Cond.fieldLink RX11 446 "SlipstreamCache$Pledges" "values" "[I", Cond.fieldLink RX11 40 "SlipstreamCache" "memory" "LSlipstreamCache$Memory;", Cond.fieldLink RX11 292 "SlipstreamCache$Memory" "present" "[Z", Cond.fieldLink RX11 306 "SlipstreamCache$Memory" "copies" "LSlipstreamCache$Copies;", Cond.fieldLink RX11 307 "SlipstreamCache$Copies" "versions" "[I"]
def wsL_bump_r3 : List Cond := [Cond.fieldLink RX11 375 "SlipstreamCache$Copies" "minutes" "[I", Cond.fieldLink RX11 88 "SlipstreamCache" "now" "I", Cond.methodLink RX11 234 yX11_writeStore, Cond.instanceMethod yX11_writeStore, Cond.selects RX11 yX11_writeStore yX11_writeStore, Cond.code yX11_writeStore cX11_writeStore 4 (some .int), Cond.fieldLink RX11 19 "SlipstreamCache" "store" "LSlipstreamCache$Store;", Cond.fieldLink RX11 26 "SlipstreamCache" "mirror" "LSlipstreamCache$Mirror;", Cond.methodLink RX11 437 yX10_put, Cond.instanceMethod yX10_put, Cond.selects RX10 yX10_put yX10_put, Cond.initialized RX10, Cond.code yX10_put cX10_put 4 (some .int), Cond.fieldLink RX10 9 "SlipstreamCache$Store" "values" "[I", Cond.fieldLink RX10 15 "SlipstreamCache$Store" "versions" "[I", Cond.fieldLink RX10 27 "SlipstreamCache$Store" "logged" "I", Cond.fieldLink RX10 18 "SlipstreamCache$Store" "logKeys" "[I", Cond.fieldLink RX10 21 "SlipstreamCache$Store" "logVersions" "[I", Cond.fieldLink RX10 24 "SlipstreamCache$Store" "logMinutes" "[I", Cond.methodLink RX11 439 yX7_send, Cond.instanceMethod yX7_send, Cond.selects RX7 yX7_send yX7_send, Cond.initialized RX7, Cond.code yX7_send cX7_send 4 none]
def wsL_bump_r4 : List Cond := [Cond.fieldLink RX7 27 "SlipstreamCache$Mirror" "count" "I", Cond.fieldLink RX7 18 "SlipstreamCache$Mirror" "sentKeys" "[I", Cond.fieldLink RX7 21 "SlipstreamCache$Mirror" "sentVersions" "[I", Cond.fieldLink RX7 24 "SlipstreamCache$Mirror" "sentValues" "[I", Cond.methodLink RX11 442 yX8_remove, Cond.instanceMethod yX8_remove, Cond.selects RX8 yX8_remove yX8_remove, Cond.code yX8_remove cX8_remove 2 none, Cond.fieldLink RX8 22 "SlipstreamCache$Pledges" "count" "I", Cond.methodLink RX11 250 yX5_voidFor, Cond.instanceMethod yX5_voidFor, Cond.selects RX5 yX5_voidFor yX5_voidFor, Cond.initialized RX5, Cond.code yX5_voidFor cX5_voidFor 3 none, Cond.fieldLink RX5 35 "SlipstreamCache$Leases" "count" "I", Cond.fieldLink RX5 20 "SlipstreamCache$Leases" "keyOf" "[I", Cond.fieldLink RX5 31 "SlipstreamCache$Leases" "ends" "[C"]
def wsL_bump : List Cond := .codeWith yL_bump cL_bump 4 (some .int) [(0, 9, 12, 13), (0, 9, 15, 17)] :: ((wsL_bump_r1 ++ (wsL_bump_r2 ++ (wsL_bump_r3 ++ wsL_bump_r4))) ++ wsX110 ++ wsX40 ++ wsX80 ++ wsX60 ++ wsX20 ++ wsX100 ++ wsX70 ++ wsX50 ++ (vx_atM "java/lang/ArrayIndexOutOfBoundsException" ["java/lang/IndexOutOfBoundsException", "java/lang/RuntimeException", "java/lang/Exception"]).filter goodWord ++ (vx_atS RX11 257 "java/lang/IndexOutOfBoundsException" ["java/lang/RuntimeException", "java/lang/Exception"]).filter goodWord ++ (vx_atS RX11 118 "java/lang/IllegalStateException" ["java/lang/RuntimeException", "java/lang/Exception"]).filter goodWord)
def wsL_pass_r1 : List Cond := [Cond.classLink RL 15 "java/lang/IllegalArgumentException", Cond.classLink RL 17 "java/lang/IllegalStateException", Cond.methodLink RL 59 yX11_pass, Cond.instanceMethod yX11_pass, Cond.selects RX11 yX11_pass yX11_pass, Cond.initialized RX11, Cond.code yX11_pass cX11_pass 4 (some .int), Cond.classLink RX11 114 "java/lang/IllegalStateException", Cond.initialized "java/lang/IllegalStateException", Cond.fieldLink RX11 88 "SlipstreamCache" "now" "I", Cond.fieldLink RX11 92 "SlipstreamCache" "down" "Z", Cond.methodLink RX11 99 yX11_requireWithin, Cond.static yX11_requireWithin, Cond.code yX11_requireWithin cX11_requireWithin 3 none, Cond.classLink RX11 211 "java/lang/IllegalArgumentException", Cond.initialized "java/lang/IllegalArgumentException", Cond.methodLink RX11 258 yX11_keepPromises, Cond.instanceMethod yX11_keepPromises, Cond.selects RX11 yX11_keepPromises yX11_keepPromises, Cond.code yX11_keepPromises cX11_keepPromises 6 (some .int), Cond.fieldLink RX11 54 "SlipstreamCache" "pledges" "LSlipstreamCache$Pledges;", Cond.fieldLink RX11 12 "SlipstreamCache" "keys" "LSlipstreamCache$Keys;", Cond.fieldLink RX11 447 "SlipstreamCache$Pledges" "due" "[I", Cond.methodLink RX11 320 yX8_nextOf]
def wsL_pass_r2 : List Cond := [Cond.instanceMethod yX8_nextOf, Cond.selects RX8 yX8_nextOf yX8_nextOf, Cond.initialized RX8, Cond.code yX8_nextOf cX8_nextOf 6 (some .int), Cond.fieldLink RX8 9 "SlipstreamCache$Pledges" "waiting" "[Z", Cond.fieldLink RX8 26 "SlipstreamCache$Keys" "groups" "[I", Cond.methodLink RX8 31 yX8_isBefore, Cond.instanceMethod yX8_isBefore, Cond.selects RX8 yX8_isBefore yX8_isBefore, Cond.code yX8_isBefore cX8_isBefore 4 (some .boolean), Cond.fieldLink RX8 19 "SlipstreamCache$Pledges" "due" "[I", Cond.fieldLink RX8 35 "SlipstreamCache$Keys" "costs" "[I", Cond.methodLink RX11 241 yX11_keepPromise, Cond.instanceMethod yX11_keepPromise, Cond.selects RX11 yX11_keepPromise yX11_keepPromise, Cond.code yX11_keepPromise cX11_keepPromise 3 none, Cond.fieldLink RX11 446 "SlipstreamCache$Pledges" "values" "[I", Cond.fieldLink RX11 40 "SlipstreamCache" "memory" "LSlipstreamCache$Memory;", Cond.fieldLink RX11 292 "SlipstreamCache$Memory" "present" "[Z", Cond.fieldLink RX11 306 "SlipstreamCache$Memory" "copies" "LSlipstreamCache$Copies;", Cond.fieldLink RX11 307 "SlipstreamCache$Copies" "versions" "[I", Cond.fieldLink RX11 375 "SlipstreamCache$Copies" "minutes" "[I", Cond.methodLink RX11 234 yX11_writeStore, Cond.instanceMethod yX11_writeStore]
def wsL_pass_r3 : List Cond := [Cond.selects RX11 yX11_writeStore yX11_writeStore, Cond.code yX11_writeStore cX11_writeStore 4 (some .int), Cond.fieldLink RX11 19 "SlipstreamCache" "store" "LSlipstreamCache$Store;", Cond.fieldLink RX11 26 "SlipstreamCache" "mirror" "LSlipstreamCache$Mirror;", Cond.methodLink RX11 437 yX10_put, Cond.instanceMethod yX10_put, Cond.selects RX10 yX10_put yX10_put, Cond.initialized RX10, Cond.code yX10_put cX10_put 4 (some .int), Cond.fieldLink RX10 9 "SlipstreamCache$Store" "values" "[I", Cond.fieldLink RX10 15 "SlipstreamCache$Store" "versions" "[I", Cond.fieldLink RX10 27 "SlipstreamCache$Store" "logged" "I", Cond.fieldLink RX10 18 "SlipstreamCache$Store" "logKeys" "[I", Cond.fieldLink RX10 21 "SlipstreamCache$Store" "logVersions" "[I", Cond.fieldLink RX10 24 "SlipstreamCache$Store" "logMinutes" "[I", Cond.methodLink RX11 439 yX7_send, Cond.instanceMethod yX7_send, Cond.selects RX7 yX7_send yX7_send, Cond.initialized RX7, Cond.code yX7_send cX7_send 4 none, Cond.fieldLink RX7 27 "SlipstreamCache$Mirror" "count" "I", Cond.fieldLink RX7 18 "SlipstreamCache$Mirror" "sentKeys" "[I", Cond.fieldLink RX7 21 "SlipstreamCache$Mirror" "sentVersions" "[I", Cond.fieldLink RX7 24 "SlipstreamCache$Mirror" "sentValues" "[I"]
def wsL_pass_r4 : List Cond := [Cond.methodLink RX11 442 yX8_remove, Cond.instanceMethod yX8_remove, Cond.selects RX8 yX8_remove yX8_remove, Cond.code yX8_remove cX8_remove 2 none, Cond.fieldLink RX8 22 "SlipstreamCache$Pledges" "count" "I"]
def wsL_pass : List Cond := .codeWith yL_pass cL_pass 4 (some .int) [(0, 9, 12, 15), (0, 9, 15, 17)] :: ((wsL_pass_r1 ++ (wsL_pass_r2 ++ (wsL_pass_r3 ++ wsL_pass_r4))) ++ wsX110 ++ wsX80 ++ wsX40 ++ wsX60 ++ wsX20 ++ wsX100 ++ wsX70 ++ (vx_atM "java/lang/ArrayIndexOutOfBoundsException" ["java/lang/IndexOutOfBoundsException", "java/lang/RuntimeException", "java/lang/Exception"]).filter goodWord ++ (vx_atS RX11 118 "java/lang/IllegalStateException" ["java/lang/RuntimeException", "java/lang/Exception"]).filter goodWord ++ (vx_atS RX11 215 "java/lang/IllegalArgumentException" ["java/lang/RuntimeException", "java/lang/Exception"]).filter goodWord)
def wsL_crash_r1 : List Cond := [Cond.classLink RL 17 "java/lang/IllegalStateException", Cond.methodLink RL 62 yX11_crash, Cond.instanceMethod yX11_crash, Cond.selects RX11 yX11_crash yX11_crash, Cond.initialized RX11, Cond.code yX11_crash cX11_crash 2 (some .int), Cond.fieldLink RX11 40 "SlipstreamCache" "memory" "LSlipstreamCache$Memory;", Cond.fieldLink RX11 33 "SlipstreamCache" "sketch" "LSlipstreamCache$Sketch;", Cond.fieldLink RX11 61 "SlipstreamCache" "leases" "LSlipstreamCache$Leases;", Cond.fieldLink RX11 47 "SlipstreamCache" "flash" "LSlipstreamCache$Flash;", Cond.fieldLink RX11 92 "SlipstreamCache" "down" "Z", Cond.methodLink RX11 103 yX11_requireUp, Cond.instanceMethod yX11_requireUp, Cond.selects RX11 yX11_requireUp yX11_requireUp, Cond.code yX11_requireUp cX11_requireUp 1 none, Cond.classLink RX11 114 "java/lang/IllegalStateException", Cond.initialized "java/lang/IllegalStateException", Cond.methodLink RX11 266 yX6_entries, Cond.instanceMethod yX6_entries, Cond.selects RX6 yX6_entries yX6_entries, Cond.initialized RX6, Cond.code yX6_entries cX6_entries 3 (some .int), Cond.fieldLink RX6 20 "SlipstreamCache$Memory" "present" "[Z", Cond.methodLink RX11 270 yX6_clear]
def wsL_crash_r2 : List Cond := [Cond.instanceMethod yX6_clear, Cond.selects RX6 yX6_clear yX6_clear, Cond.code yX6_clear cX6_clear 2 none, Cond.fieldLink RX6 32 "SlipstreamCache$Memory" "filled" "I", Cond.methodLink RX11 273 yX9_clear, Cond.instanceMethod yX9_clear, Cond.selects RX9 yX9_clear yX9_clear, Cond.initialized RX9, Cond.code yX9_clear cX9_clear 2 none, Cond.fieldLink RX9 15 "SlipstreamCache$Sketch" "counted" "I", Cond.fieldLink RX9 9 "SlipstreamCache$Sketch" "counters" "[I", Cond.methodLink RX11 274 yX5_voidAll, Cond.instanceMethod yX5_voidAll, Cond.selects RX5 yX5_voidAll yX5_voidAll, Cond.initialized RX5, Cond.code yX5_voidAll cX5_voidAll 2 none, Cond.methodLink RX5 47 yX5_voidFor, Cond.instanceMethod yX5_voidFor, Cond.selects RX5 yX5_voidFor yX5_voidFor, Cond.code yX5_voidFor cX5_voidFor 3 none, Cond.fieldLink RX5 35 "SlipstreamCache$Leases" "count" "I", Cond.fieldLink RX5 20 "SlipstreamCache$Leases" "keyOf" "[I", Cond.fieldLink RX5 31 "SlipstreamCache$Leases" "ends" "[C", Cond.methodLink RX11 277 yX3_loseIndex]
def wsL_crash_r3 : List Cond := [Cond.instanceMethod yX3_loseIndex, Cond.selects RX3 yX3_loseIndex yX3_loseIndex, Cond.initialized RX3, Cond.code yX3_loseIndex cX3_loseIndex 2 none, Cond.fieldLink RX3 24 "SlipstreamCache$Flash" "index" "[I"]
def wsL_crash : List Cond := .codeWith yL_crash cL_crash 3 (some .int) [(0, 8, 11, 17)] :: ((wsL_crash_r1 ++ (wsL_crash_r2 ++ wsL_crash_r3)) ++ wsX110 ++ wsX60 ++ wsX90 ++ wsX50 ++ wsX30 ++ (vx_atM "java/lang/ArrayIndexOutOfBoundsException" ["java/lang/IndexOutOfBoundsException", "java/lang/RuntimeException", "java/lang/Exception"]).filter goodWord ++ (vx_atS RX11 118 "java/lang/IllegalStateException" ["java/lang/RuntimeException", "java/lang/Exception"]).filter goodWord)
def wsL_recover_r1 : List Cond := [Cond.classLink RL 17 "java/lang/IllegalStateException", Cond.methodLink RL 65 yX11_recover, Cond.instanceMethod yX11_recover, Cond.selects RX11 yX11_recover yX11_recover, Cond.initialized RX11, Cond.code yX11_recover cX11_recover 1 (some .int), Cond.classLink RX11 114 "java/lang/IllegalStateException", Cond.initialized "java/lang/IllegalStateException", Cond.fieldLink RX11 92 "SlipstreamCache" "down" "Z", Cond.fieldLink RX11 47 "SlipstreamCache" "flash" "LSlipstreamCache$Flash;", Cond.fieldLink RX11 12 "SlipstreamCache" "keys" "LSlipstreamCache$Keys;", Cond.methodLink RX11 258 yX11_keepPromises, Cond.instanceMethod yX11_keepPromises, Cond.selects RX11 yX11_keepPromises yX11_keepPromises, Cond.code yX11_keepPromises cX11_keepPromises 6 (some .int), Cond.fieldLink RX11 54 "SlipstreamCache" "pledges" "LSlipstreamCache$Pledges;", Cond.fieldLink RX11 447 "SlipstreamCache$Pledges" "due" "[I", Cond.methodLink RX11 320 yX8_nextOf, Cond.instanceMethod yX8_nextOf, Cond.selects RX8 yX8_nextOf yX8_nextOf, Cond.initialized RX8, Cond.code yX8_nextOf cX8_nextOf 6 (some .int), Cond.fieldLink RX8 9 "SlipstreamCache$Pledges" "waiting" "[Z", Cond.fieldLink RX8 26 "SlipstreamCache$Keys" "groups" "[I"]
def wsL_recover_r2 : List Cond := [Cond.methodLink RX8 31 yX8_isBefore, Cond.instanceMethod yX8_isBefore, Cond.selects RX8 yX8_isBefore yX8_isBefore, Cond.code yX8_isBefore cX8_isBefore 4 (some .boolean), Cond.fieldLink RX8 19 "SlipstreamCache$Pledges" "due" "[I", Cond.fieldLink RX8 35 "SlipstreamCache$Keys" "costs" "[I", Cond.methodLink RX11 241 yX11_keepPromise, Cond.instanceMethod yX11_keepPromise, Cond.selects RX11 yX11_keepPromise yX11_keepPromise, Cond.code yX11_keepPromise cX11_keepPromise 3 none, Cond.fieldLink RX11 446 "SlipstreamCache$Pledges" "values" "[I", Cond.fieldLink RX11 40 "SlipstreamCache" "memory" "LSlipstreamCache$Memory;", Cond.fieldLink RX11 292 "SlipstreamCache$Memory" "present" "[Z", Cond.fieldLink RX11 306 "SlipstreamCache$Memory" "copies" "LSlipstreamCache$Copies;", Cond.fieldLink RX11 307 "SlipstreamCache$Copies" "versions" "[I", Cond.fieldLink RX11 375 "SlipstreamCache$Copies" "minutes" "[I", Cond.fieldLink RX11 88 "SlipstreamCache" "now" "I", Cond.methodLink RX11 234 yX11_writeStore, Cond.instanceMethod yX11_writeStore, Cond.selects RX11 yX11_writeStore yX11_writeStore, Cond.code yX11_writeStore cX11_writeStore 4 (some .int), Cond.fieldLink RX11 19 "SlipstreamCache" "store" "LSlipstreamCache$Store;", Cond.fieldLink RX11 26 "SlipstreamCache" "mirror" "LSlipstreamCache$Mirror;", Cond.methodLink RX11 437 yX10_put]
def wsL_recover_r3 : List Cond := [Cond.instanceMethod yX10_put, Cond.selects RX10 yX10_put yX10_put, Cond.initialized RX10, Cond.code yX10_put cX10_put 4 (some .int), Cond.fieldLink RX10 9 "SlipstreamCache$Store" "values" "[I", Cond.fieldLink RX10 15 "SlipstreamCache$Store" "versions" "[I", Cond.fieldLink RX10 27 "SlipstreamCache$Store" "logged" "I", Cond.fieldLink RX10 18 "SlipstreamCache$Store" "logKeys" "[I", Cond.fieldLink RX10 21 "SlipstreamCache$Store" "logVersions" "[I", Cond.fieldLink RX10 24 "SlipstreamCache$Store" "logMinutes" "[I", Cond.methodLink RX11 439 yX7_send, Cond.instanceMethod yX7_send, Cond.selects RX7 yX7_send yX7_send, Cond.initialized RX7, Cond.code yX7_send cX7_send 4 none, Cond.fieldLink RX7 27 "SlipstreamCache$Mirror" "count" "I", Cond.fieldLink RX7 18 "SlipstreamCache$Mirror" "sentKeys" "[I", Cond.fieldLink RX7 21 "SlipstreamCache$Mirror" "sentVersions" "[I", Cond.fieldLink RX7 24 "SlipstreamCache$Mirror" "sentValues" "[I", Cond.methodLink RX11 442 yX8_remove, Cond.instanceMethod yX8_remove, Cond.selects RX8 yX8_remove yX8_remove, Cond.code yX8_remove cX8_remove 2 none, Cond.fieldLink RX8 22 "SlipstreamCache$Pledges" "count" "I"]
def wsL_recover_r4 : List Cond := [Cond.methodLink RX11 282 yX3_readAgain, Cond.instanceMethod yX3_readAgain, Cond.selects RX3 yX3_readAgain yX3_readAgain, Cond.initialized RX3, Cond.code yX3_readAgain cX3_readAgain 5 none, Cond.fieldLink RX3 30 "SlipstreamCache$Flash" "next" "I", Cond.fieldLink RX3 20 "SlipstreamCache$Flash" "signs" "[I", Cond.fieldLink RX3 24 "SlipstreamCache$Flash" "index" "[I", Cond.fieldLink RX3 14 "SlipstreamCache$Flash" "copies" "LSlipstreamCache$Copies;", Cond.fieldLink RX3 48 "SlipstreamCache$Copies" "numbers" "[I", Cond.methodLink RX3 51 yX4_numberFor, Cond.instanceMethod yX4_numberFor, Cond.selects RX4 yX4_numberFor yX4_numberFor, Cond.initialized RX4, Cond.code yX4_numberFor cX4_numberFor 2 (some .int), Cond.fieldLink RX4 21 "SlipstreamCache$Keys" "numbers" "[I", Cond.fieldLink RX4 18 "SlipstreamCache$Keys" "groups" "[I", Cond.methodLink RX11 286 yX11_comeAgain, Cond.instanceMethod yX11_comeAgain, Cond.selects RX11 yX11_comeAgain yX11_comeAgain, Cond.code yX11_comeAgain cX11_comeAgain 3 none, Cond.fieldLink RX11 75 "SlipstreamCache" "choice" "LSlipstreamCache$Choice;", Cond.fieldLink RX11 405 "SlipstreamCache$Choice" "chosen" "[Z", Cond.fieldLink RX11 298 "SlipstreamCache$Memory" "filled" "I"]
def wsL_recover_r5 : List Cond := [Cond.fieldLink RX11 125 "SlipstreamCache$Keys" "sizes" "[I", Cond.fieldLink RX11 84 "SlipstreamCache" "incoming" "LSlipstreamCache$Copies;", Cond.fieldLink RX11 308 "SlipstreamCache$Flash" "copies" "LSlipstreamCache$Copies;", Cond.fieldLink RX11 295 "SlipstreamCache$Flash" "index" "[I", Cond.methodLink RX11 392 yX1_clear, Cond.instanceMethod yX1_clear, Cond.selects RX1 yX1_clear yX1_clear, Cond.initialized RX1, Cond.code yX1_clear cX1_clear 2 none, Cond.fieldLink RX1 22 "SlipstreamCache$Choice" "count" "I", Cond.fieldLink RX1 26 "SlipstreamCache$Choice" "sum" "I", Cond.fieldLink RX1 9 "SlipstreamCache$Choice" "chosen" "[Z", Cond.methodLink RX11 431 yX11_nextToComeAgain, Cond.instanceMethod yX11_nextToComeAgain, Cond.selects RX11 yX11_nextToComeAgain yX11_nextToComeAgain, Cond.code yX11_nextToComeAgain cX11_nextToComeAgain 4 (some .int), Cond.methodLink RX11 434 yX11_comesAgainBefore, Cond.instanceMethod yX11_comesAgainBefore, Cond.selects RX11 yX11_comesAgainBefore yX11_comesAgainBefore, Cond.code yX11_comesAgainBefore cX11_comesAgainBefore 4 (some .boolean), Cond.fieldLink RX11 128 "SlipstreamCache$Keys" "costs" "[I", Cond.methodLink RX11 204 yX2_take, Cond.instanceMethod yX2_take, Cond.selects RX2 yX2_take yX2_take]
def wsL_recover_r6 : List Cond := [Cond.initialized RX2, Cond.code yX2_take cX2_take 4 none, Cond.fieldLink RX2 7 "SlipstreamCache$Copies" "values" "[I", Cond.fieldLink RX2 13 "SlipstreamCache$Copies" "versions" "[I", Cond.fieldLink RX2 16 "SlipstreamCache$Copies" "minutes" "[I", Cond.fieldLink RX2 19 "SlipstreamCache$Copies" "numbers" "[I", Cond.methodLink RX2 22 yX2_put, Cond.instanceMethod yX2_put, Cond.selects RX2 yX2_put yX2_put, Cond.code yX2_put cX2_put 6 none, Cond.methodLink RX11 428 yX6_put, Cond.instanceMethod yX6_put, Cond.selects RX6 yX6_put yX6_put, Cond.initialized RX6, Cond.code yX6_put cX6_put 4 none, Cond.fieldLink RX6 20 "SlipstreamCache$Memory" "present" "[Z", Cond.fieldLink RX6 32 "SlipstreamCache$Memory" "filled" "I", Cond.fieldLink RX6 14 "SlipstreamCache$Memory" "copies" "LSlipstreamCache$Copies;", Cond.methodLink RX6 35 yX2_take, Cond.methodLink RX6 39 yX6_touch, Cond.instanceMethod yX6_touch, Cond.selects RX6 yX6_touch yX6_touch, Cond.code yX6_touch cX6_touch 2 none, Cond.fieldLink RX6 28 "SlipstreamCache$Memory" "uses" "I"]
def wsL_recover_r7 : List Cond := [Cond.fieldLink RX6 24 "SlipstreamCache$Memory" "usedAt" "[I", Cond.methodLink RX11 289 yX3_indexed, Cond.instanceMethod yX3_indexed, Cond.selects RX3 yX3_indexed yX3_indexed, Cond.code yX3_indexed cX3_indexed 3 (some .int)]
def wsL_recover : List Cond := .codeWith yL_recover cL_recover 3 (some .int) [(0, 8, 11, 17)] :: ((wsL_recover_r1 ++ (wsL_recover_r2 ++ (wsL_recover_r3 ++ (wsL_recover_r4 ++ (wsL_recover_r5 ++ (wsL_recover_r6 ++ wsL_recover_r7)))))) ++ wsX110 ++ wsX80 ++ wsX40 ++ wsX60 ++ wsX20 ++ wsX100 ++ wsX70 ++ wsX30 ++ wsX10 ++ (vx_atM "java/lang/ArrayIndexOutOfBoundsException" ["java/lang/IndexOutOfBoundsException", "java/lang/RuntimeException", "java/lang/Exception"]).filter goodWord ++ (vx_atS RX11 118 "java/lang/IllegalStateException" ["java/lang/RuntimeException", "java/lang/Exception"]).filter goodWord)
def wsL_where : List Cond := .codeWith yL_where cL_where 4 (some .int) [(0, 9, 12, 13)] :: ([.classLink RL 13 "java/lang/IndexOutOfBoundsException", .methodLink RL 68 yX11_where, .instanceMethod yX11_where, .selects RX11 yX11_where yX11_where, .initialized RX11, .code yX11_where cX11_where 2 (some .char), .fieldLink RX11 40 "SlipstreamCache" "memory" "LSlipstreamCache$Memory;", .fieldLink RX11 292 "SlipstreamCache$Memory" "present" "[Z", .fieldLink RX11 54 "SlipstreamCache" "pledges" "LSlipstreamCache$Pledges;", .fieldLink RX11 238 "SlipstreamCache$Pledges" "waiting" "[Z", .fieldLink RX11 47 "SlipstreamCache" "flash" "LSlipstreamCache$Flash;", .fieldLink RX11 295 "SlipstreamCache$Flash" "index" "[I", .methodLink RX11 96 yX11_requireKey, .static yX11_requireKey, .code yX11_requireKey cX11_requireKey 1 none, .classLink RX11 253 "java/lang/IndexOutOfBoundsException", .initialized "java/lang/IndexOutOfBoundsException"] ++ wsX110 ++ wsX60 ++ wsX80 ++ wsX30 ++ (vx_atM "java/lang/ArrayIndexOutOfBoundsException" ["java/lang/IndexOutOfBoundsException", "java/lang/RuntimeException", "java/lang/Exception"]).filter goodWord ++ (vx_atS RX11 257 "java/lang/IndexOutOfBoundsException" ["java/lang/RuntimeException", "java/lang/Exception"]).filter goodWord)
def wsL_estimate : List Cond := .codeWith yL_estimate cL_estimate 4 (some .int) [(0, 9, 12, 13)] :: ([.classLink RL 13 "java/lang/IndexOutOfBoundsException", .methodLink RL 71 yX11_estimate, .instanceMethod yX11_estimate, .selects RX11 yX11_estimate yX11_estimate, .initialized RX11, .code yX11_estimate cX11_estimate 2 (some .int), .fieldLink RX11 33 "SlipstreamCache" "sketch" "LSlipstreamCache$Sketch;", .methodLink RX11 96 yX11_requireKey, .static yX11_requireKey, .code yX11_requireKey cX11_requireKey 1 none, .classLink RX11 253 "java/lang/IndexOutOfBoundsException", .initialized "java/lang/IndexOutOfBoundsException", .methodLink RX11 301 yX9_leastOf, .instanceMethod yX9_leastOf, .selects RX9 yX9_leastOf yX9_leastOf, .initialized RX9, .code yX9_leastOf cX9_leastOf 5 (some .int), .fieldLink RX9 9 "SlipstreamCache$Sketch" "counters" "[I", .methodLink RX9 22 yX9_placeOf, .static yX9_placeOf, .code yX9_placeOf cX9_placeOf 2 (some .int)] ++ wsX110 ++ wsX90 ++ (vx_atM "java/lang/ArrayIndexOutOfBoundsException" ["java/lang/IndexOutOfBoundsException", "java/lang/RuntimeException", "java/lang/Exception"]).filter goodWord ++ (vx_atS RX11 257 "java/lang/IndexOutOfBoundsException" ["java/lang/RuntimeException", "java/lang/Exception"]).filter goodWord)
def wsL_versionOf_r1 : List Cond := [Cond.classLink RL 13 "java/lang/IndexOutOfBoundsException", Cond.classLink RL 29 "java/util/NoSuchElementException", Cond.methodLink RL 74 yX11_versionOf, Cond.instanceMethod yX11_versionOf, Cond.selects RX11 yX11_versionOf yX11_versionOf, Cond.initialized RX11, Cond.code yX11_versionOf cX11_versionOf 2 (some .int), Cond.classLink RX11 161 "java/util/NoSuchElementException", Cond.initialized "java/util/NoSuchElementException", Cond.fieldLink RX11 40 "SlipstreamCache" "memory" "LSlipstreamCache$Memory;", Cond.fieldLink RX11 292 "SlipstreamCache$Memory" "present" "[Z", Cond.fieldLink RX11 306 "SlipstreamCache$Memory" "copies" "LSlipstreamCache$Copies;", Cond.fieldLink RX11 307 "SlipstreamCache$Copies" "versions" "[I", Cond.fieldLink RX11 47 "SlipstreamCache" "flash" "LSlipstreamCache$Flash;", Cond.fieldLink RX11 308 "SlipstreamCache$Flash" "copies" "LSlipstreamCache$Copies;", Cond.fieldLink RX11 295 "SlipstreamCache$Flash" "index" "[I", Cond.methodLink RX11 96 yX11_requireKey, Cond.static yX11_requireKey, Cond.code yX11_requireKey cX11_requireKey 1 none, Cond.classLink RX11 253 "java/lang/IndexOutOfBoundsException", Cond.initialized "java/lang/IndexOutOfBoundsException", Cond.methodLink RX11 106 yX11_isKept, Cond.instanceMethod yX11_isKept, Cond.selects RX11 yX11_isKept yX11_isKept]
def wsL_versionOf_r2 : List Cond := [Cond.code yX11_isKept cX11_isKept 2 (some .boolean)]
def wsL_versionOf : List Cond := .codeWith yL_versionOf cL_versionOf 4 (some .int) [(0, 9, 12, 13), (0, 9, 15, 29)] :: ((wsL_versionOf_r1 ++ wsL_versionOf_r2) ++ wsX110 ++ wsX60 ++ wsX20 ++ wsX30 ++ (vx_atM "java/lang/ArrayIndexOutOfBoundsException" ["java/lang/IndexOutOfBoundsException", "java/lang/RuntimeException", "java/lang/Exception"]).filter goodWord ++ (vx_atS RX11 165 "java/util/NoSuchElementException" ["java/lang/RuntimeException", "java/lang/Exception"]).filter goodWord ++ (vx_atS RX11 257 "java/lang/IndexOutOfBoundsException" ["java/lang/RuntimeException", "java/lang/Exception"]).filter goodWord)
def wsL_slot : List Cond := .codeWith yL_slot cL_slot 5 (some .int) [(0, 10, 13, 13)] :: ([.classLink RL 13 "java/lang/IndexOutOfBoundsException", .methodLink RL 77 yX11_slot, .instanceMethod yX11_slot, .selects RX11 yX11_slot yX11_slot, .initialized RX11, .code yX11_slot cX11_slot 3 (some .int), .classLink RX11 253 "java/lang/IndexOutOfBoundsException", .initialized "java/lang/IndexOutOfBoundsException", .fieldLink RX11 47 "SlipstreamCache" "flash" "LSlipstreamCache$Flash;", .fieldLink RX11 314 "SlipstreamCache$Flash" "signs" "[I", .methodLink RX11 309 yX11_requireSegment, .static yX11_requireSegment, .code yX11_requireSegment cX11_requireSegment 1 none] ++ wsX110 ++ wsX30 ++ (vx_atM "java/lang/ArrayIndexOutOfBoundsException" ["java/lang/IndexOutOfBoundsException", "java/lang/RuntimeException", "java/lang/Exception"]).filter goodWord ++ (vx_atS RX11 257 "java/lang/IndexOutOfBoundsException" ["java/lang/RuntimeException", "java/lang/Exception"]).filter goodWord)
def wsL_wear : List Cond := .codeWith yL_wear cL_wear 4 (some .int) [(0, 9, 12, 13)] :: ([.classLink RL 13 "java/lang/IndexOutOfBoundsException", .methodLink RL 81 yX11_wear, .instanceMethod yX11_wear, .selects RX11 yX11_wear yX11_wear, .initialized RX11, .code yX11_wear cX11_wear 2 (some .int), .fieldLink RX11 47 "SlipstreamCache" "flash" "LSlipstreamCache$Flash;", .fieldLink RX11 317 "SlipstreamCache$Flash" "wears" "[I", .methodLink RX11 309 yX11_requireSegment, .static yX11_requireSegment, .code yX11_requireSegment cX11_requireSegment 1 none, .classLink RX11 253 "java/lang/IndexOutOfBoundsException", .initialized "java/lang/IndexOutOfBoundsException"] ++ wsX110 ++ wsX30 ++ (vx_atM "java/lang/ArrayIndexOutOfBoundsException" ["java/lang/IndexOutOfBoundsException", "java/lang/RuntimeException", "java/lang/Exception"]).filter goodWord ++ (vx_atS RX11 257 "java/lang/IndexOutOfBoundsException" ["java/lang/RuntimeException", "java/lang/Exception"]).filter goodWord)
def wsL_stored : List Cond := .codeWith yL_stored cL_stored 4 (some .int) [(0, 9, 12, 13)] :: ([.classLink RL 13 "java/lang/IndexOutOfBoundsException", .methodLink RL 84 yX11_stored, .instanceMethod yX11_stored, .selects RX11 yX11_stored yX11_stored, .initialized RX11, .code yX11_stored cX11_stored 2 (some .int), .fieldLink RX11 19 "SlipstreamCache" "store" "LSlipstreamCache$Store;", .fieldLink RX11 177 "SlipstreamCache$Store" "values" "[I", .methodLink RX11 96 yX11_requireKey, .static yX11_requireKey, .code yX11_requireKey cX11_requireKey 1 none, .classLink RX11 253 "java/lang/IndexOutOfBoundsException", .initialized "java/lang/IndexOutOfBoundsException"] ++ wsX110 ++ wsX100 ++ (vx_atM "java/lang/ArrayIndexOutOfBoundsException" ["java/lang/IndexOutOfBoundsException", "java/lang/RuntimeException", "java/lang/Exception"]).filter goodWord ++ (vx_atS RX11 257 "java/lang/IndexOutOfBoundsException" ["java/lang/RuntimeException", "java/lang/Exception"]).filter goodWord)
def wsL_nextPromise : List Cond := .codeWith yL_nextPromise cL_nextPromise 3 (some .int) [(0, 8, 11, 29)] :: ([.classLink RL 29 "java/util/NoSuchElementException", .methodLink RL 87 yX11_nextPromise, .instanceMethod yX11_nextPromise, .selects RX11 yX11_nextPromise yX11_nextPromise, .initialized RX11, .code yX11_nextPromise cX11_nextPromise 2 (some .int), .classLink RX11 161 "java/util/NoSuchElementException", .initialized "java/util/NoSuchElementException", .fieldLink RX11 54 "SlipstreamCache" "pledges" "LSlipstreamCache$Pledges;", .fieldLink RX11 12 "SlipstreamCache" "keys" "LSlipstreamCache$Keys;", .methodLink RX11 320 yX8_nextOf, .instanceMethod yX8_nextOf, .selects RX8 yX8_nextOf yX8_nextOf, .initialized RX8, .code yX8_nextOf cX8_nextOf 6 (some .int), .fieldLink RX8 9 "SlipstreamCache$Pledges" "waiting" "[Z", .fieldLink RX8 26 "SlipstreamCache$Keys" "groups" "[I", .methodLink RX8 31 yX8_isBefore, .instanceMethod yX8_isBefore, .selects RX8 yX8_isBefore yX8_isBefore, .code yX8_isBefore cX8_isBefore 4 (some .boolean), .fieldLink RX8 19 "SlipstreamCache$Pledges" "due" "[I", .fieldLink RX8 35 "SlipstreamCache$Keys" "costs" "[I"] ++ wsX110 ++ wsX80 ++ wsX40 ++ (vx_atM "java/lang/ArrayIndexOutOfBoundsException" ["java/lang/IndexOutOfBoundsException", "java/lang/RuntimeException", "java/lang/Exception"]).filter goodWord ++ (vx_atS RX11 165 "java/util/NoSuchElementException" ["java/lang/RuntimeException", "java/lang/Exception"]).filter goodWord)
def wsL_deliver : List Cond := .codeWith yL_deliver cL_deliver 4 (some .int) [(0, 16, 19, 13)] :: ([.classLink RL 13 "java/lang/IndexOutOfBoundsException", .methodLink RL 90 yX11_deliver, .instanceMethod yX11_deliver, .selects RX11 yX11_deliver yX11_deliver, .initialized RX11, .code yX11_deliver cX11_deliver 2 (some .boolean), .classLink RX11 253 "java/lang/IndexOutOfBoundsException", .initialized "java/lang/IndexOutOfBoundsException", .fieldLink RX11 26 "SlipstreamCache" "mirror" "LSlipstreamCache$Mirror;", .fieldLink RX11 326 "SlipstreamCache$Mirror" "count" "I", .methodLink RX11 329 yX7_receive, .instanceMethod yX7_receive, .selects RX7 yX7_receive yX7_receive, .initialized RX7, .code yX7_receive cX7_receive 5 (some .boolean), .fieldLink RX7 18 "SlipstreamCache$Mirror" "sentKeys" "[I", .fieldLink RX7 21 "SlipstreamCache$Mirror" "sentVersions" "[I", .fieldLink RX7 15 "SlipstreamCache$Mirror" "versions" "[I", .fieldLink RX7 9 "SlipstreamCache$Mirror" "values" "[I", .fieldLink RX7 24 "SlipstreamCache$Mirror" "sentValues" "[I", .fieldLink RX7 27 "SlipstreamCache$Mirror" "count" "I"] ++ wsX110 ++ wsX70 ++ (vx_atM "java/lang/ArrayIndexOutOfBoundsException" ["java/lang/IndexOutOfBoundsException", "java/lang/RuntimeException", "java/lang/Exception"]).filter goodWord ++ (vx_atS RX11 257 "java/lang/IndexOutOfBoundsException" ["java/lang/RuntimeException", "java/lang/Exception"]).filter goodWord)
def wsL_mirrored : List Cond := .codeWith yL_mirrored cL_mirrored 4 (some .int) [(0, 9, 12, 13)] :: ([.classLink RL 13 "java/lang/IndexOutOfBoundsException", .methodLink RL 93 yX11_mirrored, .instanceMethod yX11_mirrored, .selects RX11 yX11_mirrored yX11_mirrored, .initialized RX11, .code yX11_mirrored cX11_mirrored 2 (some .int), .fieldLink RX11 26 "SlipstreamCache" "mirror" "LSlipstreamCache$Mirror;", .fieldLink RX11 332 "SlipstreamCache$Mirror" "values" "[I", .methodLink RX11 96 yX11_requireKey, .static yX11_requireKey, .code yX11_requireKey cX11_requireKey 1 none, .classLink RX11 253 "java/lang/IndexOutOfBoundsException", .initialized "java/lang/IndexOutOfBoundsException"] ++ wsX110 ++ wsX70 ++ (vx_atM "java/lang/ArrayIndexOutOfBoundsException" ["java/lang/IndexOutOfBoundsException", "java/lang/RuntimeException", "java/lang/Exception"]).filter goodWord ++ (vx_atS RX11 257 "java/lang/IndexOutOfBoundsException" ["java/lang/RuntimeException", "java/lang/Exception"]).filter goodWord)
def wsL_answeredShare : List Cond := .codeWith yL_answeredShare cL_answeredShare 3 (some .int) [(0, 8, 11, 100)] :: ([.classLink RL 100 "java/lang/ArithmeticException", .methodLink RL 96 yX11_answeredShare, .instanceMethod yX11_answeredShare, .selects RX11 yX11_answeredShare yX11_answeredShare, .initialized RX11, .code yX11_answeredShare cX11_answeredShare 1 (some .float), .classLink RX11 339 "java/lang/ArithmeticException", .initialized "java/lang/ArithmeticException", .fieldLink RX11 68 "SlipstreamCache" "answers" "LSlipstreamCache$Answers;", .fieldLink RX11 336 "SlipstreamCache$Answers" "asked" "I", .fieldLink RX11 344 "SlipstreamCache$Answers" "answered" "I"] ++ wsX110 ++ wsX00 ++ (vx_atM "java/lang/ArrayIndexOutOfBoundsException" ["java/lang/IndexOutOfBoundsException", "java/lang/RuntimeException", "java/lang/Exception"]).filter goodWord ++ (vx_atS RX11 343 "java/lang/ArithmeticException" ["java/lang/RuntimeException", "java/lang/Exception"]).filter goodWord)
def wsL_meanStaleness : List Cond := .codeWith yL_meanStaleness cL_meanStaleness 3 (some .int) [(0, 7, 10, 100)] :: ([.classLink RL 100 "java/lang/ArithmeticException", .methodLink RL 102 yX11_meanStaleness, .instanceMethod yX11_meanStaleness, .selects RX11 yX11_meanStaleness yX11_meanStaleness, .initialized RX11, .code yX11_meanStaleness cX11_meanStaleness 1 (some .double), .classLink RX11 339 "java/lang/ArithmeticException", .initialized "java/lang/ArithmeticException", .fieldLink RX11 68 "SlipstreamCache" "answers" "LSlipstreamCache$Answers;", .fieldLink RX11 344 "SlipstreamCache$Answers" "answered" "I", .fieldLink RX11 349 "SlipstreamCache$Answers" "staleMinutes" "J"] ++ wsX110 ++ wsX00 ++ (vx_atM "java/lang/ArrayIndexOutOfBoundsException" ["java/lang/IndexOutOfBoundsException", "java/lang/RuntimeException", "java/lang/Exception"]).filter goodWord ++ (vx_atS RX11 343 "java/lang/ArithmeticException" ["java/lang/RuntimeException", "java/lang/Exception"]).filter goodWord)
def wsL_law0_r1 : List Cond := [Cond.classLink RL 8 RX11, Cond.instantiable RX11 13, Cond.initialized RX11, Cond.classLink RL 107 RX12, Cond.instantiable RX12 55, Cond.initialized RX12, Cond.arrayClass .long, Cond.arrayClass .double, Cond.methodLink RL 106 yX11_init, Cond.instanceMethod yX11_init, Cond.code yX11_init cX11_init 1 none, Cond.methodLink RX11 3 objectInit, Cond.instanceMethod objectInit, Cond.code objectInit ⟨#[0xb1]⟩ 1 none, Cond.classLink RX11 9 RX4, Cond.instantiable RX4 4, Cond.initialized RX4, Cond.fieldLink RX11 12 "SlipstreamCache" "keys" "LSlipstreamCache$Keys;", Cond.classLink RX11 16 RX10, Cond.instantiable RX10 6, Cond.initialized RX10, Cond.fieldLink RX11 19 "SlipstreamCache" "store" "LSlipstreamCache$Store;", Cond.classLink RX11 23 RX7, Cond.instantiable RX7 6]
def wsL_law0_r2 : List Cond := [Cond.initialized RX7, Cond.fieldLink RX11 26 "SlipstreamCache" "mirror" "LSlipstreamCache$Mirror;", Cond.classLink RX11 30 RX9, Cond.instantiable RX9 2, Cond.initialized RX9, Cond.fieldLink RX11 33 "SlipstreamCache" "sketch" "LSlipstreamCache$Sketch;", Cond.classLink RX11 37 RX6, Cond.instantiable RX6 5, Cond.initialized RX6, Cond.fieldLink RX11 40 "SlipstreamCache" "memory" "LSlipstreamCache$Memory;", Cond.classLink RX11 44 RX3, Cond.instantiable RX3 5, Cond.initialized RX3, Cond.fieldLink RX11 47 "SlipstreamCache" "flash" "LSlipstreamCache$Flash;", Cond.classLink RX11 51 RX8, Cond.instantiable RX8 4, Cond.initialized RX8, Cond.fieldLink RX11 54 "SlipstreamCache" "pledges" "LSlipstreamCache$Pledges;", Cond.classLink RX11 58 RX5, Cond.instantiable RX5 7, Cond.initialized RX5, Cond.fieldLink RX11 61 "SlipstreamCache" "leases" "LSlipstreamCache$Leases;", Cond.classLink RX11 65 RX0, Cond.instantiable RX0 7]
def wsL_law0_r3 : List Cond := [Cond.initialized RX0, Cond.fieldLink RX11 68 "SlipstreamCache" "answers" "LSlipstreamCache$Answers;", Cond.classLink RX11 72 RX1, Cond.instantiable RX1 5, Cond.initialized RX1, Cond.fieldLink RX11 75 "SlipstreamCache" "choice" "LSlipstreamCache$Choice;", Cond.classLink RX11 79 RX2, Cond.instantiable RX2 4, Cond.initialized RX2, Cond.fieldLink RX11 84 "SlipstreamCache" "incoming" "LSlipstreamCache$Copies;", Cond.fieldLink RX11 88 "SlipstreamCache" "now" "I", Cond.fieldLink RX11 92 "SlipstreamCache" "down" "Z", Cond.methodLink RX11 11 yX4_init, Cond.instanceMethod yX4_init, Cond.code yX4_init cX4_init 2 none, Cond.methodLink RX4 3 objectInit, Cond.arrayClass .int, Cond.fieldLink RX4 9 "SlipstreamCache$Keys" "sizes" "[I", Cond.fieldLink RX4 15 "SlipstreamCache$Keys" "costs" "[I", Cond.fieldLink RX4 18 "SlipstreamCache$Keys" "groups" "[I", Cond.fieldLink RX4 21 "SlipstreamCache$Keys" "numbers" "[I", Cond.instanceMethod yX10_init, Cond.code yX10_init cX10_init 1 none, Cond.methodLink RX10 3 objectInit]
def wsL_law0_r4 : List Cond := [Cond.fieldLink RX10 9 "SlipstreamCache$Store" "values" "[I", Cond.fieldLink RX10 15 "SlipstreamCache$Store" "versions" "[I", Cond.fieldLink RX10 18 "SlipstreamCache$Store" "logKeys" "[I", Cond.fieldLink RX10 21 "SlipstreamCache$Store" "logVersions" "[I", Cond.fieldLink RX10 24 "SlipstreamCache$Store" "logMinutes" "[I", Cond.fieldLink RX10 27 "SlipstreamCache$Store" "logged" "I", Cond.instanceMethod yX7_init, Cond.code yX7_init cX7_init 1 none, Cond.methodLink RX7 3 objectInit, Cond.fieldLink RX7 9 "SlipstreamCache$Mirror" "values" "[I", Cond.fieldLink RX7 15 "SlipstreamCache$Mirror" "versions" "[I", Cond.fieldLink RX7 18 "SlipstreamCache$Mirror" "sentKeys" "[I", Cond.fieldLink RX7 21 "SlipstreamCache$Mirror" "sentVersions" "[I", Cond.fieldLink RX7 24 "SlipstreamCache$Mirror" "sentValues" "[I", Cond.fieldLink RX7 27 "SlipstreamCache$Mirror" "count" "I", Cond.instanceMethod yX9_init, Cond.code yX9_init cX9_init 1 none, Cond.methodLink RX9 3 objectInit, Cond.fieldLink RX9 9 "SlipstreamCache$Sketch" "counters" "[I", Cond.fieldLink RX9 15 "SlipstreamCache$Sketch" "counted" "I", Cond.instanceMethod yX6_init, Cond.code yX6_init cX6_init 1 none, Cond.methodLink RX6 3 objectInit, Cond.classLink RX6 9 RX2]
def wsL_law0_r5 : List Cond := [Cond.fieldLink RX6 14 "SlipstreamCache$Memory" "copies" "LSlipstreamCache$Copies;", Cond.arrayClass .boolean, Cond.fieldLink RX6 20 "SlipstreamCache$Memory" "present" "[Z", Cond.fieldLink RX6 24 "SlipstreamCache$Memory" "usedAt" "[I", Cond.fieldLink RX6 28 "SlipstreamCache$Memory" "uses" "I", Cond.fieldLink RX6 32 "SlipstreamCache$Memory" "filled" "I", Cond.methodLink RX6 11 yX2_init, Cond.instanceMethod yX2_init, Cond.code yX2_init cX2_init 3 none, Cond.methodLink RX2 1 objectInit, Cond.fieldLink RX2 7 "SlipstreamCache$Copies" "values" "[I", Cond.fieldLink RX2 13 "SlipstreamCache$Copies" "versions" "[I", Cond.fieldLink RX2 16 "SlipstreamCache$Copies" "minutes" "[I", Cond.fieldLink RX2 19 "SlipstreamCache$Copies" "numbers" "[I", Cond.methodLink RX11 46 yX3_init, Cond.instanceMethod yX3_init, Cond.code yX3_init cX3_init 2 none, Cond.methodLink RX3 3 objectInit, Cond.classLink RX3 9 RX2, Cond.fieldLink RX3 14 "SlipstreamCache$Flash" "copies" "LSlipstreamCache$Copies;", Cond.fieldLink RX3 20 "SlipstreamCache$Flash" "signs" "[I", Cond.fieldLink RX3 24 "SlipstreamCache$Flash" "index" "[I", Cond.fieldLink RX3 27 "SlipstreamCache$Flash" "wears" "[I", Cond.fieldLink RX3 30 "SlipstreamCache$Flash" "next" "I"]
def wsL_law0_r6 : List Cond := [Cond.methodLink RX3 11 yX2_init, Cond.methodLink RX3 34 yX3_loseIndex, Cond.instanceMethod yX3_loseIndex, Cond.selects RX3 yX3_loseIndex yX3_loseIndex, Cond.code yX3_loseIndex cX3_loseIndex 2 none, Cond.instanceMethod yX8_init, Cond.code yX8_init cX8_init 1 none, Cond.methodLink RX8 3 objectInit, Cond.fieldLink RX8 9 "SlipstreamCache$Pledges" "waiting" "[Z", Cond.fieldLink RX8 15 "SlipstreamCache$Pledges" "values" "[I", Cond.fieldLink RX8 19 "SlipstreamCache$Pledges" "due" "[I", Cond.fieldLink RX8 22 "SlipstreamCache$Pledges" "count" "I", Cond.instanceMethod yX5_init, Cond.code yX5_init cX5_init 1 none, Cond.methodLink RX5 3 objectInit, Cond.classLink RX5 9 RX2, Cond.fieldLink RX5 14 "SlipstreamCache$Leases" "copies" "LSlipstreamCache$Copies;", Cond.fieldLink RX5 20 "SlipstreamCache$Leases" "keyOf" "[I", Cond.fieldLink RX5 24 "SlipstreamCache$Leases" "given" "[I", Cond.fieldLink RX5 27 "SlipstreamCache$Leases" "wasRead" "[Z", Cond.arrayClass .char, Cond.fieldLink RX5 31 "SlipstreamCache$Leases" "ends" "[C", Cond.fieldLink RX5 35 "SlipstreamCache$Leases" "count" "I", Cond.fieldLink RX5 39 "SlipstreamCache$Leases" "costs" "J"]
def wsL_law0_r7 : List Cond := [Cond.methodLink RX5 11 yX2_init, Cond.instanceMethod yX0_init, Cond.code yX0_init cX0_init 1 none, Cond.methodLink RX0 1 objectInit, Cond.fieldLink RX0 7 "SlipstreamCache$Answers" "hasLast" "Z", Cond.fieldLink RX0 13 "SlipstreamCache$Answers" "lastValue" "I", Cond.fieldLink RX0 17 "SlipstreamCache$Answers" "lastStaleness" "I", Cond.fieldLink RX0 20 "SlipstreamCache$Answers" "asked" "I", Cond.fieldLink RX0 23 "SlipstreamCache$Answers" "answered" "I", Cond.fieldLink RX0 26 "SlipstreamCache$Answers" "staleMinutes" "J", Cond.fieldLink RX0 30 "SlipstreamCache$Answers" "tooStale" "Z", Cond.instanceMethod yX1_init, Cond.code yX1_init cX1_init 1 none, Cond.methodLink RX1 3 objectInit, Cond.fieldLink RX1 9 "SlipstreamCache$Choice" "chosen" "[Z", Cond.fieldLink RX1 15 "SlipstreamCache$Choice" "worths" "[I", Cond.fieldLink RX1 19 "SlipstreamCache$Choice" "order" "[I", Cond.fieldLink RX1 22 "SlipstreamCache$Choice" "count" "I", Cond.fieldLink RX1 26 "SlipstreamCache$Choice" "sum" "I", Cond.methodLink RX11 81 yX2_init, Cond.methodLink RL 109 yX12_init, Cond.instanceMethod yX12_init, Cond.code yX12_init cX12_init 2 none, Cond.methodLink RX12 1 objectInit]
def wsL_law0_r8 : List Cond := [Cond.fieldLink RX12 7 "SlipstreamCacheModel" "stored" "[I", Cond.fieldLink RX12 13 "SlipstreamCacheModel" "version" "[I", Cond.fieldLink RX12 16 "SlipstreamCacheModel" "logKey" "[I", Cond.fieldLink RX12 19 "SlipstreamCacheModel" "logVersion" "[I", Cond.fieldLink RX12 22 "SlipstreamCacheModel" "logMinute" "[I", Cond.fieldLink RX12 25 "SlipstreamCacheModel" "logValue" "[I", Cond.fieldLink RX12 28 "SlipstreamCacheModel" "isUnderWay" "[Z", Cond.fieldLink RX12 32 "SlipstreamCacheModel" "mirrored" "[I", Cond.fieldLink RX12 35 "SlipstreamCacheModel" "mirrorVersion" "[I", Cond.fieldLink RX12 38 "SlipstreamCacheModel" "size" "[I", Cond.fieldLink RX12 41 "SlipstreamCacheModel" "cost" "[I", Cond.fieldLink RX12 44 "SlipstreamCacheModel" "group" "[I", Cond.fieldLink RX12 47 "SlipstreamCacheModel" "groupNumber" "[I", Cond.fieldLink RX12 50 "SlipstreamCacheModel" "counter" "[I", Cond.fieldLink RX12 53 "SlipstreamCacheModel" "isIn" "[Z", Cond.fieldLink RX12 56 "SlipstreamCacheModel" "inValue" "[I", Cond.fieldLink RX12 59 "SlipstreamCacheModel" "inVersion" "[I", Cond.fieldLink RX12 62 "SlipstreamCacheModel" "inMinute" "[I", Cond.fieldLink RX12 65 "SlipstreamCacheModel" "inGroup" "[I", Cond.fieldLink RX12 68 "SlipstreamCacheModel" "usedAt" "[I", Cond.fieldLink RX12 71 "SlipstreamCacheModel" "isPromised" "[Z", Cond.fieldLink RX12 74 "SlipstreamCacheModel" "promiseValue" "[I", Cond.fieldLink RX12 77 "SlipstreamCacheModel" "promiseMinute" "[I", Cond.fieldLink RX12 80 "SlipstreamCacheModel" "slotKey" "[I"]
def wsL_law0_r9 : List Cond := [Cond.fieldLink RX12 83 "SlipstreamCacheModel" "slotValue" "[I", Cond.fieldLink RX12 86 "SlipstreamCacheModel" "slotVersion" "[I", Cond.fieldLink RX12 89 "SlipstreamCacheModel" "slotMinute" "[I", Cond.fieldLink RX12 92 "SlipstreamCacheModel" "slotGroup" "[I", Cond.fieldLink RX12 95 "SlipstreamCacheModel" "slotNumber" "[I", Cond.fieldLink RX12 98 "SlipstreamCacheModel" "wear" "[I", Cond.fieldLink RX12 101 "SlipstreamCacheModel" "index" "[I", Cond.fieldLink RX12 104 "SlipstreamCacheModel" "leaseKey" "[I", Cond.fieldLink RX12 107 "SlipstreamCacheModel" "leaseMinute" "[I", Cond.fieldLink RX12 110 "SlipstreamCacheModel" "leaseState" "[C", Cond.fieldLink RX12 114 "SlipstreamCacheModel" "wasRead" "[Z", Cond.fieldLink RX12 117 "SlipstreamCacheModel" "leaseValue" "[I", Cond.fieldLink RX12 120 "SlipstreamCacheModel" "leaseVersion" "[I", Cond.fieldLink RX12 123 "SlipstreamCacheModel" "leaseRead" "[I", Cond.fieldLink RX12 126 "SlipstreamCacheModel" "goes" "[Z", Cond.methodLink RL 110 yL_setKey, Cond.static yL_setKey, Cond.initialized RL, Cond.codeWith yL_setKey cL_setKey 7 (some .int) [(0, 14, 17, 13), (0, 14, 21, 15), (0, 14, 25, 17)], Cond.classLink RL 13 "java/lang/IndexOutOfBoundsException", Cond.classLink RL 15 "java/lang/IllegalArgumentException", Cond.classLink RL 17 "java/lang/IllegalStateException", Cond.methodLink RL 7 yX11_setKey, Cond.instanceMethod yX11_setKey]
def wsL_law0_r10 : List Cond := [Cond.selects RX11 yX11_setKey yX11_setKey, Cond.code yX11_setKey cX11_setKey 6 (some .int), Cond.classLink RX11 114 "java/lang/IllegalStateException", Cond.initialized "java/lang/IllegalStateException", Cond.fieldLink RX11 121 "SlipstreamCache$Keys" "groups" "[I", Cond.fieldLink RX11 125 "SlipstreamCache$Keys" "sizes" "[I", Cond.fieldLink RX11 128 "SlipstreamCache$Keys" "costs" "[I", Cond.methodLink RX11 96 yX11_requireKey, Cond.static yX11_requireKey, Cond.code yX11_requireKey cX11_requireKey 1 none, Cond.classLink RX11 253 "java/lang/IndexOutOfBoundsException", Cond.initialized "java/lang/IndexOutOfBoundsException", Cond.methodLink RX11 99 yX11_requireWithin, Cond.static yX11_requireWithin, Cond.code yX11_requireWithin cX11_requireWithin 3 none, Cond.classLink RX11 211 "java/lang/IllegalArgumentException", Cond.initialized "java/lang/IllegalArgumentException", Cond.methodLink RX11 103 yX11_requireUp, Cond.instanceMethod yX11_requireUp, Cond.selects RX11 yX11_requireUp yX11_requireUp, Cond.code yX11_requireUp cX11_requireUp 1 none, Cond.methodLink RX11 106 yX11_isKept, Cond.instanceMethod yX11_isKept, Cond.selects RX11 yX11_isKept yX11_isKept]
def wsL_law0_r11 : List Cond := [Cond.code yX11_isKept cX11_isKept 2 (some .boolean), Cond.fieldLink RX11 292 "SlipstreamCache$Memory" "present" "[Z", Cond.fieldLink RX11 295 "SlipstreamCache$Flash" "index" "[I", Cond.methodLink RX11 110 yX5_isOutFor, Cond.instanceMethod yX5_isOutFor, Cond.selects RX5 yX5_isOutFor yX5_isOutFor, Cond.code yX5_isOutFor cX5_isOutFor 4 (some .boolean), Cond.methodLink RX5 43 yX5_stateOf, Cond.instanceMethod yX5_stateOf, Cond.selects RX5 yX5_stateOf yX5_stateOf, Cond.code yX5_stateOf cX5_stateOf 3 (some .char), Cond.methodLink RL 115 yX12_setKey, Cond.instanceMethod yX12_setKey, Cond.selects RX12 yX12_setKey yX12_setKey, Cond.code yX12_setKey cX12_setKey 6 (some .int), Cond.fieldLink RX12 129 "SlipstreamCacheModel" "code" "I", Cond.fieldLink RX12 204 "SlipstreamCacheModel" "isDown" "Z", Cond.methodLink RX12 197 yX12_isKey, Cond.static yX12_isKey, Cond.code yX12_isKey cX12_isKey 1 (some .boolean), Cond.methodLink RX12 133 yX12_in, Cond.static yX12_in, Cond.code yX12_in cX12_in 3 (some .boolean), Cond.methodLink RX12 201 yX12_fails]
def wsL_law0_r12 : List Cond := [Cond.instanceMethod yX12_fails, Cond.selects RX12 yX12_fails yX12_fails, Cond.code yX12_fails cX12_fails 2 (some .int), Cond.methodLink RX12 208 yX12_hasLease, Cond.instanceMethod yX12_hasLease, Cond.selects RX12 yX12_hasLease yX12_hasLease, Cond.code yX12_hasLease cX12_hasLease 3 (some .boolean), Cond.fieldLink RX12 194 "SlipstreamCacheModel" "leases" "I", Cond.methodLink RL 116 yX12_thrown, Cond.instanceMethod yX12_thrown, Cond.selects RX12 yX12_thrown yX12_thrown, Cond.code yX12_thrown cX12_thrown 1 (some .int), Cond.methodLink RL 119 yL_get, Cond.static yL_get, Cond.codeWith yL_get cL_get 6 (some .int) [(0, 12, 15, 13), (0, 12, 19, 15), (0, 12, 23, 17), (0, 12, 27, 23)], Cond.classLink RL 23 "java/lang/UnsupportedOperationException", Cond.methodLink RL 19 yX11_get, Cond.instanceMethod yX11_get, Cond.selects RX11 yX11_get yX11_get, Cond.code yX11_get cX11_get 7 (some .char), Cond.classLink RX11 138 "java/lang/UnsupportedOperationException", Cond.initialized "java/lang/UnsupportedOperationException", Cond.fieldLink RX11 135 "SlipstreamCache$Leases" "count" "I", Cond.methodLink RX11 131 yX11_goodSource]
def wsL_law0_r13 : List Cond := [Cond.instanceMethod yX11_goodSource, Cond.selects RX11 yX11_goodSource yX11_goodSource, Cond.code yX11_goodSource cX11_goodSource 4 (some .char), Cond.fieldLink RX11 238 "SlipstreamCache$Pledges" "waiting" "[Z", Cond.fieldLink RX11 306 "SlipstreamCache$Memory" "copies" "LSlipstreamCache$Copies;", Cond.fieldLink RX11 308 "SlipstreamCache$Flash" "copies" "LSlipstreamCache$Copies;", Cond.methodLink RX11 370 yX11_isFresh, Cond.instanceMethod yX11_isFresh, Cond.selects RX11 yX11_isFresh yX11_isFresh, Cond.code yX11_isFresh cX11_isFresh 5 (some .boolean), Cond.fieldLink RX11 374 "SlipstreamCache$Copies" "numbers" "[I", Cond.fieldLink RX11 375 "SlipstreamCache$Copies" "minutes" "[I", Cond.methodLink RX11 190 yX4_numberFor, Cond.instanceMethod yX4_numberFor, Cond.selects RX4 yX4_numberFor yX4_numberFor, Cond.code yX4_numberFor cX4_numberFor 2 (some .int), Cond.methodLink RX11 143 yX5_give, Cond.instanceMethod yX5_give, Cond.selects RX5 yX5_give yX5_give, Cond.code yX5_give cX5_give 4 none, Cond.methodLink RX11 146 yX11_answer, Cond.instanceMethod yX11_answer, Cond.selects RX11 yX11_answer yX11_answer, Cond.code yX11_answer cX11_answer 5 none]
def wsL_law0_r14 : List Cond := [Cond.fieldLink RX11 307 "SlipstreamCache$Copies" "versions" "[I", Cond.fieldLink RX11 382 "SlipstreamCache$Copies" "values" "[I", Cond.methodLink RX11 378 yX10_staleBy, Cond.instanceMethod yX10_staleBy, Cond.selects RX10 yX10_staleBy yX10_staleBy, Cond.code yX10_staleBy cX10_staleBy 5 (some .int), Cond.methodLink RX11 383 yX0_tell, Cond.instanceMethod yX0_tell, Cond.selects RX0 yX0_tell yX0_tell, Cond.code yX0_tell cX0_tell 4 none, Cond.methodLink RX11 386 yX6_touch, Cond.instanceMethod yX6_touch, Cond.selects RX6 yX6_touch yX6_touch, Cond.code yX6_touch cX6_touch 2 none, Cond.methodLink RX11 204 yX2_take, Cond.instanceMethod yX2_take, Cond.selects RX2 yX2_take yX2_take, Cond.code yX2_take cX2_take 4 none, Cond.methodLink RX2 22 yX2_put, Cond.instanceMethod yX2_put, Cond.selects RX2 yX2_put yX2_put, Cond.code yX2_put cX2_put 6 none, Cond.methodLink RX11 208 yX11_comeIfWorthIt, Cond.instanceMethod yX11_comeIfWorthIt]
def wsL_law0_r15 : List Cond := [Cond.selects RX11 yX11_comeIfWorthIt yX11_comeIfWorthIt, Cond.code yX11_comeIfWorthIt cX11_comeIfWorthIt 2 (some .boolean), Cond.fieldLink RX11 414 "SlipstreamCache$Choice" "count" "I", Cond.fieldLink RX11 415 "SlipstreamCache$Choice" "sum" "I", Cond.methodLink RX11 222 yX11_chooseLeavers, Cond.instanceMethod yX11_chooseLeavers, Cond.selects RX11 yX11_chooseLeavers yX11_chooseLeavers, Cond.code yX11_chooseLeavers cX11_chooseLeavers 5 (some .boolean), Cond.fieldLink RX11 298 "SlipstreamCache$Memory" "filled" "I", Cond.fieldLink RX11 393 "SlipstreamCache$Choice" "worths" "[I", Cond.methodLink RX11 392 yX1_clear, Cond.instanceMethod yX1_clear, Cond.selects RX1 yX1_clear yX1_clear, Cond.code yX1_clear cX1_clear 2 none, Cond.methodLink RX11 396 yX11_worth, Cond.instanceMethod yX11_worth, Cond.selects RX11 yX11_worth yX11_worth, Cond.code yX11_worth cX11_worth 2 (some .int), Cond.methodLink RX11 301 yX9_leastOf, Cond.instanceMethod yX9_leastOf, Cond.selects RX9 yX9_leastOf yX9_leastOf, Cond.code yX9_leastOf cX9_leastOf 5 (some .int), Cond.methodLink RX9 22 yX9_placeOf, Cond.static yX9_placeOf]
def wsL_law0_r16 : List Cond := [Cond.code yX9_placeOf cX9_placeOf 2 (some .int), Cond.methodLink RX11 399 yX11_nextLeaver, Cond.instanceMethod yX11_nextLeaver, Cond.selects RX11 yX11_nextLeaver yX11_nextLeaver, Cond.code yX11_nextLeaver cX11_nextLeaver 4 (some .int), Cond.fieldLink RX11 405 "SlipstreamCache$Choice" "chosen" "[Z", Cond.methodLink RX11 408 yX11_leavesBefore, Cond.instanceMethod yX11_leavesBefore, Cond.selects RX11 yX11_leavesBefore yX11_leavesBefore, Cond.code yX11_leavesBefore cX11_leavesBefore 4 (some .boolean), Cond.fieldLink RX11 411 "SlipstreamCache$Memory" "usedAt" "[I", Cond.methodLink RX11 402 yX1_add, Cond.instanceMethod yX1_add, Cond.selects RX1 yX1_add yX1_add, Cond.code yX1_add cX1_add 2 none, Cond.methodLink RX11 418 yX11_come, Cond.instanceMethod yX11_come, Cond.selects RX11 yX11_come yX11_come, Cond.code yX11_come cX11_come 4 none, Cond.fieldLink RX11 421 "SlipstreamCache$Choice" "order" "[I", Cond.methodLink RX11 424 yX3_append, Cond.instanceMethod yX3_append, Cond.selects RX3 yX3_append yX3_append, Cond.code yX3_append cX3_append 4 none]
def wsL_law0_r17 : List Cond := [Cond.methodLink RX3 37 yX3_nextSlot, Cond.instanceMethod yX3_nextSlot, Cond.selects RX3 yX3_nextSlot yX3_nextSlot, Cond.code yX3_nextSlot cX3_nextSlot 2 (some .int), Cond.methodLink RX3 45 yX3_beginAnew, Cond.instanceMethod yX3_beginAnew, Cond.selects RX3 yX3_beginAnew yX3_beginAnew, Cond.code yX3_beginAnew cX3_beginAnew 4 none, Cond.methodLink RX3 41 yX2_take, Cond.methodLink RX11 244 yX6_remove, Cond.instanceMethod yX6_remove, Cond.selects RX6 yX6_remove yX6_remove, Cond.code yX6_remove cX6_remove 3 none, Cond.methodLink RX11 428 yX6_put, Cond.instanceMethod yX6_put, Cond.selects RX6 yX6_put yX6_put, Cond.code yX6_put cX6_put 4 none, Cond.methodLink RX6 35 yX2_take, Cond.methodLink RX6 39 yX6_touch, Cond.methodLink RX11 247 yX3_takeOut, Cond.instanceMethod yX3_takeOut, Cond.selects RX3 yX3_takeOut yX3_takeOut, Cond.code yX3_takeOut cX3_takeOut 2 none, Cond.methodLink RX11 389 yX0_tellNothing]
def wsL_law0_r18 : List Cond := [Cond.instanceMethod yX0_tellNothing, Cond.selects RX0 yX0_tellNothing yX0_tellNothing, Cond.code yX0_tellNothing cX0_tellNothing 1 none, Cond.methodLink RX11 150 yX9_count, Cond.instanceMethod yX9_count, Cond.selects RX9 yX9_count yX9_count, Cond.code yX9_count cX9_count 5 none, Cond.methodLink RX9 26 yX9_leastOf, Cond.methodLink RX9 30 yX9_halve, Cond.instanceMethod yX9_halve, Cond.selects RX9 yX9_halve yX9_halve, Cond.code yX9_halve cX9_halve 2 none, Cond.methodLink RL 122 yX12_get, Cond.instanceMethod yX12_get, Cond.selects RX12 yX12_get yX12_get, Cond.code yX12_get cX12_get 8 (some .char), Cond.fieldLink RX12 211 "SlipstreamCacheModel" "hasAnswer" "Z", Cond.fieldLink RX12 159 "SlipstreamCacheModel" "minute" "I", Cond.fieldLink RX12 262 "SlipstreamCacheModel" "paid" "J", Cond.methodLink RX12 248 yX12_failsChar, Cond.instanceMethod yX12_failsChar, Cond.selects RX12 yX12_failsChar yX12_failsChar, Cond.code yX12_failsChar cX12_failsChar 2 (some .char), Cond.methodLink RX12 252 yX12_isGoodIn]
def wsL_law0_r19 : List Cond := [Cond.instanceMethod yX12_isGoodIn, Cond.selects RX12 yX12_isGoodIn yX12_isGoodIn, Cond.code yX12_isGoodIn cX12_isGoodIn 3 (some .boolean), Cond.methodLink RX12 256 yX12_isGoodSlot, Cond.instanceMethod yX12_isGoodSlot, Cond.selects RX12 yX12_isGoodSlot yX12_isGoodSlot, Cond.code yX12_isGoodSlot cX12_isGoodSlot 4 (some .boolean), Cond.methodLink RX12 230 yX12_answers, Cond.instanceMethod yX12_answers, Cond.selects RX12 yX12_answers yX12_answers, Cond.code yX12_answers cX12_answers 4 none, Cond.fieldLink RX12 214 "SlipstreamCacheModel" "answered" "I", Cond.fieldLink RX12 217 "SlipstreamCacheModel" "answerValue" "I", Cond.fieldLink RX12 223 "SlipstreamCacheModel" "answerStale" "I", Cond.fieldLink RX12 226 "SlipstreamCacheModel" "stale" "J", Cond.methodLink RX12 220 yX12_staleBy, Cond.instanceMethod yX12_staleBy, Cond.selects RX12 yX12_staleBy yX12_staleBy, Cond.code yX12_staleBy cX12_staleBy 4 (some .int), Cond.fieldLink RX12 156 "SlipstreamCacheModel" "logged" "I", Cond.methodLink RX12 192 yX12_uses, Cond.instanceMethod yX12_uses, Cond.selects RX12 yX12_uses yX12_uses, Cond.code yX12_uses cX12_uses 2 none]
def wsL_law0_r20 : List Cond := [Cond.fieldLink RX12 176 "SlipstreamCacheModel" "uses" "I", Cond.methodLink RX12 245 yX12_counts, Cond.instanceMethod yX12_counts, Cond.selects RX12 yX12_counts yX12_counts, Cond.code yX12_counts cX12_counts 5 none, Cond.fieldLink RX12 150 "SlipstreamCacheModel" "gets" "I", Cond.fieldLink RX12 153 "SlipstreamCacheModel" "sketched" "I", Cond.methodLink RX12 146 yX12_estimateOf, Cond.instanceMethod yX12_estimateOf, Cond.selects RX12 yX12_estimateOf yX12_estimateOf, Cond.code yX12_estimateOf cX12_estimateOf 4 (some .int), Cond.methodLink RX12 141 Lib.Math.min.name, Cond.static Lib.Math.min.name, Cond.initialized "java/lang/Math", Cond.code Lib.Math.min.name Lib.Math.min.code 2 (some .int), Cond.methodLink RX12 137 yX12_place, Cond.static yX12_place, Cond.code yX12_place cX12_place 3 (some .int), Cond.methodLink RX12 259 yX12_answersFlash, Cond.instanceMethod yX12_answersFlash, Cond.selects RX12 yX12_answersFlash yX12_answersFlash, Cond.code yX12_answersFlash cX12_answersFlash 7 none, Cond.methodLink RX12 234 yX12_makesRoom, Cond.instanceMethod yX12_makesRoom]
def wsL_law0_r21 : List Cond := [Cond.selects RX12 yX12_makesRoom yX12_makesRoom, Cond.code yX12_makesRoom cX12_makesRoom 10 (some .boolean), Cond.methodLink RX12 182 yX12_usedNow, Cond.instanceMethod yX12_usedNow, Cond.selects RX12 yX12_usedNow yX12_usedNow, Cond.code yX12_usedNow cX12_usedNow 3 (some .int), Cond.methodLink RX12 185 yX12_victim, Cond.instanceMethod yX12_victim, Cond.selects RX12 yX12_victim yX12_victim, Cond.code yX12_victim cX12_victim 5 (some .int), Cond.methodLink RX12 179 yX12_worth, Cond.instanceMethod yX12_worth, Cond.selects RX12 yX12_worth yX12_worth, Cond.code yX12_worth cX12_worth 2 (some .int), Cond.methodLink RX12 188 yX12_toFlash, Cond.instanceMethod yX12_toFlash, Cond.selects RX12 yX12_toFlash yX12_toFlash, Cond.code yX12_toFlash cX12_toFlash 3 none, Cond.methodLink RX12 172 yX12_nextPlace, Cond.instanceMethod yX12_nextPlace, Cond.selects RX12 yX12_nextPlace yX12_nextPlace, Cond.code yX12_nextPlace cX12_nextPlace 3 (some .int), Cond.fieldLink RX12 166 "SlipstreamCacheModel" "nextSlot" "I", Cond.fieldLink RX12 169 "SlipstreamCacheModel" "numbers" "I"]
def wsL_law0_r22 : List Cond := [Cond.methodLink RX12 238 yX12_comes, Cond.instanceMethod yX12_comes, Cond.selects RX12 yX12_comes yX12_comes, Cond.code yX12_comes cX12_comes 6 none, Cond.methodLink RX12 242 yX12_takesOut, Cond.instanceMethod yX12_takesOut, Cond.selects RX12 yX12_takesOut yX12_takesOut, Cond.code yX12_takesOut cX12_takesOut 3 none, Cond.methodLink RL 123 yL_value, Cond.static yL_value, Cond.codeWith yL_value cL_value 3 (some .int) [(0, 8, 11, 29)], Cond.classLink RL 29 "java/util/NoSuchElementException", Cond.methodLink RL 25 yX11_value, Cond.instanceMethod yX11_value, Cond.selects RX11 yX11_value yX11_value, Cond.code yX11_value cX11_value 1 (some .int), Cond.fieldLink RX11 155 "SlipstreamCache$Answers" "lastValue" "I", Cond.methodLink RX11 152 yX11_requireAnswer, Cond.instanceMethod yX11_requireAnswer, Cond.selects RX11 yX11_requireAnswer yX11_requireAnswer, Cond.code yX11_requireAnswer cX11_requireAnswer 1 none, Cond.classLink RX11 161 "java/util/NoSuchElementException", Cond.initialized "java/util/NoSuchElementException", Cond.fieldLink RX11 365 "SlipstreamCache$Answers" "hasLast" "Z"]
def wsL_law0_r23 : List Cond := [Cond.methodLink RL 126 yX12_value, Cond.instanceMethod yX12_value, Cond.selects RX12 yX12_value yX12_value, Cond.code yX12_value cX12_value 1 (some .int), Cond.methodLink RL 127 yL_staleness, Cond.static yL_staleness, Cond.codeWith yL_staleness cL_staleness 3 (some .int) [(0, 8, 11, 29)], Cond.methodLink RL 31 yX11_staleness, Cond.instanceMethod yX11_staleness, Cond.selects RX11 yX11_staleness yX11_staleness, Cond.code yX11_staleness cX11_staleness 1 (some .int), Cond.fieldLink RX11 158 "SlipstreamCache$Answers" "lastStaleness" "I", Cond.methodLink RL 129 yX12_staleness, Cond.instanceMethod yX12_staleness, Cond.selects RX12 yX12_staleness yX12_staleness, Cond.code yX12_staleness cX12_staleness 1 (some .int), Cond.methodLink RL 130 yL_lease, Cond.static yL_lease, Cond.codeWith yL_lease cL_lease 3 (some .int) [(0, 8, 11, 29)], Cond.methodLink RL 34 yX11_lease, Cond.instanceMethod yX11_lease, Cond.selects RX11 yX11_lease yX11_lease, Cond.code yX11_lease cX11_lease 1 (some .int), Cond.methodLink RL 132 yX12_lease]
def wsL_law0_r24 : List Cond := [Cond.instanceMethod yX12_lease, Cond.selects RX12 yX12_lease yX12_lease, Cond.code yX12_lease cX12_lease 1 (some .int), Cond.methodLink RL 133 yL_read, Cond.static yL_read, Cond.codeWith yL_read cL_read 4 (some .int) [(0, 9, 12, 13), (0, 9, 15, 17)], Cond.methodLink RL 37 yX11_read, Cond.instanceMethod yX11_read, Cond.selects RX11 yX11_read yX11_read, Cond.code yX11_read cX11_read 4 (some .int), Cond.fieldLink RX11 174 "SlipstreamCache$Leases" "keyOf" "[I", Cond.fieldLink RX11 177 "SlipstreamCache$Store" "values" "[I", Cond.fieldLink RX11 180 "SlipstreamCache$Leases" "wasRead" "[Z", Cond.fieldLink RX11 184 "SlipstreamCache$Leases" "copies" "LSlipstreamCache$Copies;", Cond.fieldLink RX11 187 "SlipstreamCache$Store" "versions" "[I", Cond.methodLink RX11 166 yX11_requireLease, Cond.instanceMethod yX11_requireLease, Cond.selects RX11 yX11_requireLease yX11_requireLease, Cond.code yX11_requireLease cX11_requireLease 2 none, Cond.methodLink RX11 169 yX5_stateOf, Cond.methodLink RX11 194 yX2_put, Cond.methodLink RL 136 yX12_read, Cond.instanceMethod yX12_read, Cond.selects RX12 yX12_read yX12_read]
def wsL_law0_r25 : List Cond := [Cond.code yX12_read cX12_read 3 (some .int), Cond.methodLink RX12 265 yX12_isLease, Cond.instanceMethod yX12_isLease, Cond.selects RX12 yX12_isLease yX12_isLease, Cond.code yX12_isLease cX12_isLease 2 (some .boolean), Cond.methodLink RL 137 yL_fill, Cond.static yL_fill, Cond.codeWith yL_fill cL_fill 4 (some .int) [(0, 9, 12, 13), (0, 9, 15, 17)], Cond.methodLink RL 41 yX11_fill, Cond.instanceMethod yX11_fill, Cond.selects RX11 yX11_fill yX11_fill, Cond.code yX11_fill cX11_fill 3 (some .char), Cond.fieldLink RX11 200 "SlipstreamCache$Leases" "ends" "[C", Cond.methodLink RL 139 yX12_fill, Cond.instanceMethod yX12_fill, Cond.selects RX12 yX12_fill yX12_fill, Cond.code yX12_fill cX12_fill 3 (some .char), Cond.methodLink RL 140 yL_leaseState, Cond.static yL_leaseState, Cond.codeWith yL_leaseState cL_leaseState 4 (some .int) [(0, 9, 12, 13)], Cond.methodLink RL 45 yX11_leaseState, Cond.instanceMethod yX11_leaseState, Cond.selects RX11 yX11_leaseState yX11_leaseState, Cond.code yX11_leaseState cX11_leaseState 2 (some .char)]
def wsL_law0_r26 : List Cond := [Cond.methodLink RL 142 yX12_leaseState, Cond.instanceMethod yX12_leaseState, Cond.selects RX12 yX12_leaseState yX12_leaseState, Cond.code yX12_leaseState cX12_leaseState 2 (some .char), Cond.methodLink RL 143 yL_write, Cond.static yL_write, Cond.codeWith yL_write cL_write 6 (some .int) [(0, 12, 15, 13), (0, 12, 19, 15), (0, 12, 23, 17), (0, 12, 27, 23)], Cond.methodLink RL 48 yX11_write, Cond.instanceMethod yX11_write, Cond.selects RX11 yX11_write yX11_write, Cond.code yX11_write cX11_write 4 (some .int), Cond.fieldLink RX11 216 "SlipstreamCache$Store" "logged" "I", Cond.fieldLink RX11 219 "SlipstreamCache$Pledges" "count" "I", Cond.methodLink RX11 227 yX11_writeThrough, Cond.instanceMethod yX11_writeThrough, Cond.selects RX11 yX11_writeThrough yX11_writeThrough, Cond.code yX11_writeThrough cX11_writeThrough 4 none, Cond.methodLink RX11 234 yX11_writeStore, Cond.instanceMethod yX11_writeStore, Cond.selects RX11 yX11_writeStore yX11_writeStore, Cond.code yX11_writeStore cX11_writeStore 4 (some .int), Cond.methodLink RX11 437 yX10_put, Cond.instanceMethod yX10_put, Cond.selects RX10 yX10_put yX10_put]
def wsL_law0_r27 : List Cond := [Cond.code yX10_put cX10_put 4 (some .int), Cond.methodLink RX11 439 yX7_send, Cond.instanceMethod yX7_send, Cond.selects RX7 yX7_send yX7_send, Cond.code yX7_send cX7_send 4 none, Cond.methodLink RX11 442 yX8_remove, Cond.instanceMethod yX8_remove, Cond.selects RX8 yX8_remove yX8_remove, Cond.code yX8_remove cX8_remove 2 none, Cond.methodLink RX11 250 yX5_voidFor, Cond.instanceMethod yX5_voidFor, Cond.selects RX5 yX5_voidFor yX5_voidFor, Cond.code yX5_voidFor cX5_voidFor 3 none, Cond.methodLink RX11 231 yX11_writeBehind, Cond.instanceMethod yX11_writeBehind, Cond.selects RX11 yX11_writeBehind yX11_writeBehind, Cond.code yX11_writeBehind cX11_writeBehind 3 none, Cond.methodLink RX11 444 yX8_add, Cond.instanceMethod yX8_add, Cond.selects RX8 yX8_add yX8_add, Cond.code yX8_add cX8_add 4 none, Cond.methodLink RL 146 yX12_write, Cond.instanceMethod yX12_write, Cond.selects RX12 yX12_write yX12_write]
def wsL_law0_r28 : List Cond := [Cond.code yX12_write cX12_write 5 (some .int), Cond.methodLink RX12 268 yX12_promiseCount, Cond.instanceMethod yX12_promiseCount, Cond.selects RX12 yX12_promiseCount yX12_promiseCount, Cond.code yX12_promiseCount cX12_promiseCount 3 (some .int), Cond.methodLink RX12 271 yX12_canCome, Cond.instanceMethod yX12_canCome, Cond.selects RX12 yX12_canCome yX12_canCome, Cond.code yX12_canCome cX12_canCome 4 (some .boolean), Cond.methodLink RX12 274 yX12_voids, Cond.instanceMethod yX12_voids, Cond.selects RX12 yX12_voids yX12_voids, Cond.code yX12_voids cX12_voids 4 none, Cond.methodLink RX12 162 yX12_stores, Cond.instanceMethod yX12_stores, Cond.selects RX12 yX12_stores yX12_stores, Cond.code yX12_stores cX12_stores 3 none, Cond.methodLink RL 147 yL_drop, Cond.static yL_drop, Cond.codeWith yL_drop cL_drop 4 (some .int) [(0, 16, 19, 13), (0, 16, 22, 17)], Cond.methodLink RL 52 yX11_drop, Cond.instanceMethod yX11_drop, Cond.selects RX11 yX11_drop yX11_drop, Cond.code yX11_drop cX11_drop 3 (some .boolean)]
def wsL_law0_r29 : List Cond := [Cond.methodLink RX11 241 yX11_keepPromise, Cond.instanceMethod yX11_keepPromise, Cond.selects RX11 yX11_keepPromise yX11_keepPromise, Cond.code yX11_keepPromise cX11_keepPromise 3 none, Cond.fieldLink RX11 446 "SlipstreamCache$Pledges" "values" "[I", Cond.methodLink RL 149 yX12_drop, Cond.instanceMethod yX12_drop, Cond.selects RX12 yX12_drop yX12_drop, Cond.code yX12_drop cX12_drop 3 (some .boolean), Cond.methodLink RX12 277 yX12_keepsPromise, Cond.instanceMethod yX12_keepsPromise, Cond.selects RX12 yX12_keepsPromise yX12_keepsPromise, Cond.code yX12_keepsPromise cX12_keepsPromise 2 none, Cond.methodLink RL 150 yL_bump, Cond.static yL_bump, Cond.codeWith yL_bump cL_bump 4 (some .int) [(0, 9, 12, 13), (0, 9, 15, 17)], Cond.methodLink RL 56 yX11_bump, Cond.instanceMethod yX11_bump, Cond.selects RX11 yX11_bump yX11_bump, Cond.code yX11_bump cX11_bump 3 (some .int), Cond.fieldLink RX11 261 "SlipstreamCache$Keys" "numbers" "[I", Cond.methodLink RX11 258 yX11_keepPromises, Cond.instanceMethod yX11_keepPromises, Cond.selects RX11 yX11_keepPromises yX11_keepPromises]
def wsL_law0_r30 : List Cond := [Cond.code yX11_keepPromises cX11_keepPromises 6 (some .int), Cond.fieldLink RX11 447 "SlipstreamCache$Pledges" "due" "[I", Cond.methodLink RX11 320 yX8_nextOf, Cond.instanceMethod yX8_nextOf, Cond.selects RX8 yX8_nextOf yX8_nextOf, Cond.code yX8_nextOf cX8_nextOf 6 (some .int), Cond.fieldLink RX8 26 "SlipstreamCache$Keys" "groups" "[I", Cond.methodLink RX8 31 yX8_isBefore, Cond.instanceMethod yX8_isBefore, Cond.selects RX8 yX8_isBefore yX8_isBefore, Cond.code yX8_isBefore cX8_isBefore 4 (some .boolean), Cond.fieldLink RX8 35 "SlipstreamCache$Keys" "costs" "[I", Cond.methodLink RL 152 yX12_bump, Cond.instanceMethod yX12_bump, Cond.selects RX12 yX12_bump yX12_bump, Cond.code yX12_bump cX12_bump 3 (some .int), Cond.methodLink RX12 280 yX12_nextTurn, Cond.instanceMethod yX12_nextTurn, Cond.selects RX12 yX12_nextTurn yX12_nextTurn, Cond.code yX12_nextTurn cX12_nextTurn 5 (some .int), Cond.methodLink RL 153 yL_pass, Cond.static yL_pass, Cond.codeWith yL_pass cL_pass 4 (some .int) [(0, 9, 12, 15), (0, 9, 15, 17)], Cond.methodLink RL 59 yX11_pass]
def wsL_law0_r31 : List Cond := [Cond.instanceMethod yX11_pass, Cond.selects RX11 yX11_pass yX11_pass, Cond.code yX11_pass cX11_pass 4 (some .int), Cond.methodLink RL 155 yX12_pass, Cond.instanceMethod yX12_pass, Cond.selects RX12 yX12_pass yX12_pass, Cond.code yX12_pass cX12_pass 6 (some .int), Cond.methodLink RL 156 yL_crash, Cond.static yL_crash, Cond.codeWith yL_crash cL_crash 3 (some .int) [(0, 8, 11, 17)], Cond.methodLink RL 62 yX11_crash, Cond.instanceMethod yX11_crash, Cond.selects RX11 yX11_crash yX11_crash, Cond.code yX11_crash cX11_crash 2 (some .int), Cond.methodLink RX11 266 yX6_entries, Cond.instanceMethod yX6_entries, Cond.selects RX6 yX6_entries yX6_entries, Cond.code yX6_entries cX6_entries 3 (some .int), Cond.methodLink RX11 270 yX6_clear, Cond.instanceMethod yX6_clear, Cond.selects RX6 yX6_clear yX6_clear, Cond.code yX6_clear cX6_clear 2 none, Cond.methodLink RX11 273 yX9_clear, Cond.instanceMethod yX9_clear]
def wsL_law0_r32 : List Cond := [Cond.selects RX9 yX9_clear yX9_clear, Cond.code yX9_clear cX9_clear 2 none, Cond.methodLink RX11 274 yX5_voidAll, Cond.instanceMethod yX5_voidAll, Cond.selects RX5 yX5_voidAll yX5_voidAll, Cond.code yX5_voidAll cX5_voidAll 2 none, Cond.methodLink RX5 47 yX5_voidFor, Cond.methodLink RX11 277 yX3_loseIndex, Cond.methodLink RL 158 yX12_crash, Cond.instanceMethod yX12_crash, Cond.selects RX12 yX12_crash yX12_crash, Cond.code yX12_crash cX12_crash 3 (some .int), Cond.methodLink RL 159 yL_recover, Cond.static yL_recover, Cond.codeWith yL_recover cL_recover 3 (some .int) [(0, 8, 11, 17)], Cond.methodLink RL 65 yX11_recover, Cond.instanceMethod yX11_recover, Cond.selects RX11 yX11_recover yX11_recover, Cond.code yX11_recover cX11_recover 1 (some .int), Cond.methodLink RX11 282 yX3_readAgain, Cond.instanceMethod yX3_readAgain, Cond.selects RX3 yX3_readAgain yX3_readAgain, Cond.code yX3_readAgain cX3_readAgain 5 none, Cond.fieldLink RX3 48 "SlipstreamCache$Copies" "numbers" "[I"]
def wsL_law0_r33 : List Cond := [Cond.methodLink RX3 51 yX4_numberFor, Cond.methodLink RX11 286 yX11_comeAgain, Cond.instanceMethod yX11_comeAgain, Cond.selects RX11 yX11_comeAgain yX11_comeAgain, Cond.code yX11_comeAgain cX11_comeAgain 3 none, Cond.methodLink RX11 431 yX11_nextToComeAgain, Cond.instanceMethod yX11_nextToComeAgain, Cond.selects RX11 yX11_nextToComeAgain yX11_nextToComeAgain, Cond.code yX11_nextToComeAgain cX11_nextToComeAgain 4 (some .int), Cond.methodLink RX11 434 yX11_comesAgainBefore, Cond.instanceMethod yX11_comesAgainBefore, Cond.selects RX11 yX11_comesAgainBefore yX11_comesAgainBefore, Cond.code yX11_comesAgainBefore cX11_comesAgainBefore 4 (some .boolean), Cond.methodLink RX11 289 yX3_indexed, Cond.instanceMethod yX3_indexed, Cond.selects RX3 yX3_indexed yX3_indexed, Cond.code yX3_indexed cX3_indexed 3 (some .int), Cond.methodLink RL 161 yX12_recover, Cond.instanceMethod yX12_recover, Cond.selects RX12 yX12_recover yX12_recover, Cond.code yX12_recover cX12_recover 6 (some .int), Cond.methodLink RX12 283 yX12_nextBack, Cond.instanceMethod yX12_nextBack, Cond.selects RX12 yX12_nextBack yX12_nextBack]
def wsL_law0_r34 : List Cond := [Cond.code yX12_nextBack cX12_nextBack 6 (some .int), Cond.methodLink RL 162 yX11_minute, Cond.instanceMethod yX11_minute, Cond.selects RX11 yX11_minute yX11_minute, Cond.code yX11_minute cX11_minute 1 (some .int), Cond.methodLink RL 165 yX12_minute, Cond.instanceMethod yX12_minute, Cond.selects RX12 yX12_minute yX12_minute, Cond.code yX12_minute cX12_minute 1 (some .int), Cond.methodLink RL 166 yL_where, Cond.static yL_where, Cond.codeWith yL_where cL_where 4 (some .int) [(0, 9, 12, 13)], Cond.methodLink RL 68 yX11_where, Cond.instanceMethod yX11_where, Cond.selects RX11 yX11_where yX11_where, Cond.code yX11_where cX11_where 2 (some .char), Cond.methodLink RL 168 yX12_where, Cond.instanceMethod yX12_where, Cond.selects RX12 yX12_where yX12_where, Cond.code yX12_where cX12_where 2 (some .char), Cond.methodLink RL 169 yX11_used, Cond.instanceMethod yX11_used, Cond.selects RX11 yX11_used yX11_used, Cond.code yX11_used cX11_used 1 (some .int)]
def wsL_law0_r35 : List Cond := [Cond.methodLink RL 172 yX12_used, Cond.instanceMethod yX12_used, Cond.selects RX12 yX12_used yX12_used, Cond.code yX12_used cX12_used 1 (some .int), Cond.methodLink RL 173 yL_estimate, Cond.static yL_estimate, Cond.codeWith yL_estimate cL_estimate 4 (some .int) [(0, 9, 12, 13)], Cond.methodLink RL 71 yX11_estimate, Cond.instanceMethod yX11_estimate, Cond.selects RX11 yX11_estimate yX11_estimate, Cond.code yX11_estimate cX11_estimate 2 (some .int), Cond.methodLink RL 175 yX12_estimate, Cond.instanceMethod yX12_estimate, Cond.selects RX12 yX12_estimate yX12_estimate, Cond.code yX12_estimate cX12_estimate 2 (some .int), Cond.methodLink RL 176 yL_versionOf, Cond.static yL_versionOf, Cond.codeWith yL_versionOf cL_versionOf 4 (some .int) [(0, 9, 12, 13), (0, 9, 15, 29)], Cond.methodLink RL 74 yX11_versionOf, Cond.instanceMethod yX11_versionOf, Cond.selects RX11 yX11_versionOf yX11_versionOf, Cond.code yX11_versionOf cX11_versionOf 2 (some .int), Cond.methodLink RL 178 yX12_versionOf, Cond.instanceMethod yX12_versionOf]
def wsL_law0_r36 : List Cond := [Cond.selects RX12 yX12_versionOf yX12_versionOf, Cond.code yX12_versionOf cX12_versionOf 2 (some .int), Cond.methodLink RL 179 yL_slot, Cond.static yL_slot, Cond.codeWith yL_slot cL_slot 5 (some .int) [(0, 10, 13, 13)], Cond.methodLink RL 77 yX11_slot, Cond.instanceMethod yX11_slot, Cond.selects RX11 yX11_slot yX11_slot, Cond.code yX11_slot cX11_slot 3 (some .int), Cond.fieldLink RX11 314 "SlipstreamCache$Flash" "signs" "[I", Cond.methodLink RX11 309 yX11_requireSegment, Cond.static yX11_requireSegment, Cond.code yX11_requireSegment cX11_requireSegment 1 none, Cond.methodLink RL 182 yX12_slot, Cond.instanceMethod yX12_slot, Cond.selects RX12 yX12_slot yX12_slot, Cond.code yX12_slot cX12_slot 3 (some .int), Cond.methodLink RL 183 yL_wear, Cond.static yL_wear, Cond.codeWith yL_wear cL_wear 4 (some .int) [(0, 9, 12, 13)], Cond.methodLink RL 81 yX11_wear, Cond.instanceMethod yX11_wear, Cond.selects RX11 yX11_wear yX11_wear, Cond.code yX11_wear cX11_wear 2 (some .int)]
def wsL_law0_r37 : List Cond := [Cond.fieldLink RX11 317 "SlipstreamCache$Flash" "wears" "[I", Cond.methodLink RL 185 yX12_wear, Cond.instanceMethod yX12_wear, Cond.selects RX12 yX12_wear yX12_wear, Cond.code yX12_wear cX12_wear 2 (some .int), Cond.methodLink RL 186 yL_stored, Cond.static yL_stored, Cond.codeWith yL_stored cL_stored 4 (some .int) [(0, 9, 12, 13)], Cond.methodLink RL 84 yX11_stored, Cond.instanceMethod yX11_stored, Cond.selects RX11 yX11_stored yX11_stored, Cond.code yX11_stored cX11_stored 2 (some .int), Cond.methodLink RL 188 yX12_stored, Cond.instanceMethod yX12_stored, Cond.selects RX12 yX12_stored yX12_stored, Cond.code yX12_stored cX12_stored 2 (some .int), Cond.methodLink RL 189 yX11_promises, Cond.instanceMethod yX11_promises, Cond.selects RX11 yX11_promises yX11_promises, Cond.code yX11_promises cX11_promises 1 (some .int), Cond.methodLink RL 192 yX12_promises, Cond.instanceMethod yX12_promises, Cond.selects RX12 yX12_promises yX12_promises, Cond.code yX12_promises cX12_promises 1 (some .int)]
def wsL_law0_r38 : List Cond := [Cond.methodLink RL 193 yL_nextPromise, Cond.static yL_nextPromise, Cond.codeWith yL_nextPromise cL_nextPromise 3 (some .int) [(0, 8, 11, 29)], Cond.methodLink RL 87 yX11_nextPromise, Cond.instanceMethod yX11_nextPromise, Cond.selects RX11 yX11_nextPromise yX11_nextPromise, Cond.code yX11_nextPromise cX11_nextPromise 2 (some .int), Cond.methodLink RL 195 yX12_nextPromise, Cond.instanceMethod yX12_nextPromise, Cond.selects RX12 yX12_nextPromise yX12_nextPromise, Cond.code yX12_nextPromise cX12_nextPromise 2 (some .int), Cond.methodLink RL 196 yX11_messages, Cond.instanceMethod yX11_messages, Cond.selects RX11 yX11_messages yX11_messages, Cond.code yX11_messages cX11_messages 1 (some .int), Cond.fieldLink RX11 326 "SlipstreamCache$Mirror" "count" "I", Cond.methodLink RL 199 yX12_messages, Cond.instanceMethod yX12_messages, Cond.selects RX12 yX12_messages yX12_messages, Cond.code yX12_messages cX12_messages 1 (some .int), Cond.methodLink RX12 286 yX12_underWay, Cond.instanceMethod yX12_underWay, Cond.selects RX12 yX12_underWay yX12_underWay, Cond.code yX12_underWay cX12_underWay 3 (some .int)]
def wsL_law0_r39 : List Cond := [Cond.methodLink RL 200 yL_deliver, Cond.static yL_deliver, Cond.codeWith yL_deliver cL_deliver 4 (some .int) [(0, 16, 19, 13)], Cond.methodLink RL 90 yX11_deliver, Cond.instanceMethod yX11_deliver, Cond.selects RX11 yX11_deliver yX11_deliver, Cond.code yX11_deliver cX11_deliver 2 (some .boolean), Cond.methodLink RX11 329 yX7_receive, Cond.instanceMethod yX7_receive, Cond.selects RX7 yX7_receive yX7_receive, Cond.code yX7_receive cX7_receive 5 (some .boolean), Cond.methodLink RL 202 yX12_deliver, Cond.instanceMethod yX12_deliver, Cond.selects RX12 yX12_deliver yX12_deliver, Cond.code yX12_deliver cX12_deliver 6 (some .boolean), Cond.methodLink RL 203 yL_mirrored, Cond.static yL_mirrored, Cond.codeWith yL_mirrored cL_mirrored 4 (some .int) [(0, 9, 12, 13)], Cond.methodLink RL 93 yX11_mirrored, Cond.instanceMethod yX11_mirrored, Cond.selects RX11 yX11_mirrored yX11_mirrored, Cond.code yX11_mirrored cX11_mirrored 2 (some .int), Cond.fieldLink RX11 332 "SlipstreamCache$Mirror" "values" "[I", Cond.methodLink RL 205 yX12_mirrored]
def wsL_law0_r40 : List Cond := [Cond.instanceMethod yX12_mirrored, Cond.selects RX12 yX12_mirrored yX12_mirrored, Cond.code yX12_mirrored cX12_mirrored 2 (some .int), Cond.methodLink RL 206 yX11_paid, Cond.instanceMethod yX11_paid, Cond.selects RX11 yX11_paid yX11_paid, Cond.code yX11_paid cX11_paid 1 (some .long), Cond.fieldLink RX11 333 "SlipstreamCache$Leases" "costs" "J", Cond.methodLink RL 210 yX12_paid, Cond.instanceMethod yX12_paid, Cond.selects RX12 yX12_paid yX12_paid, Cond.code yX12_paid cX12_paid 1 (some .long), Cond.methodLink RL 211 yL_answeredShare, Cond.static yL_answeredShare, Cond.codeWith yL_answeredShare cL_answeredShare 3 (some .int) [(0, 8, 11, 100)], Cond.classLink RL 100 "java/lang/ArithmeticException", Cond.methodLink RL 96 yX11_answeredShare, Cond.instanceMethod yX11_answeredShare, Cond.selects RX11 yX11_answeredShare yX11_answeredShare, Cond.code yX11_answeredShare cX11_answeredShare 1 (some .float), Cond.classLink RX11 339 "java/lang/ArithmeticException", Cond.initialized "java/lang/ArithmeticException", Cond.fieldLink RX11 336 "SlipstreamCache$Answers" "asked" "I", Cond.fieldLink RX11 344 "SlipstreamCache$Answers" "answered" "I"]
def wsL_law0_r41 : List Cond := [Cond.methodLink RL 214 yX12_answeredShare, Cond.instanceMethod yX12_answeredShare, Cond.selects RX12 yX12_answeredShare yX12_answeredShare, Cond.code yX12_answeredShare cX12_answeredShare 1 (some .float), Cond.methodLink RL 215 yL_meanStaleness, Cond.static yL_meanStaleness, Cond.codeWith yL_meanStaleness cL_meanStaleness 3 (some .int) [(0, 7, 10, 100)], Cond.methodLink RL 102 yX11_meanStaleness, Cond.instanceMethod yX11_meanStaleness, Cond.selects RX11 yX11_meanStaleness yX11_meanStaleness, Cond.code yX11_meanStaleness cX11_meanStaleness 1 (some .double), Cond.fieldLink RX11 349 "SlipstreamCache$Answers" "staleMinutes" "J", Cond.methodLink RL 217 yX12_meanStaleness, Cond.instanceMethod yX12_meanStaleness, Cond.selects RX12 yX12_meanStaleness yX12_meanStaleness, Cond.code yX12_meanStaleness cX12_meanStaleness 1 (some .double), Cond.methodLink RL 218 yX11_isHonest, Cond.instanceMethod yX11_isHonest, Cond.selects RX11 yX11_isHonest yX11_isHonest, Cond.code yX11_isHonest cX11_isHonest 4 (some .boolean), Cond.fieldLink RX11 352 "SlipstreamCache$Answers" "tooStale" "Z", Cond.methodLink RL 222 yX12_isHonest, Cond.instanceMethod yX12_isHonest, Cond.selects RX12 yX12_isHonest yX12_isHonest]
def wsL_law0_r42 : List Cond := [Cond.code yX12_isHonest cX12_isHonest 1 (some .boolean)]
def wsL_law0 : List Cond := (wsL_law0_r1 ++ (wsL_law0_r2 ++ (wsL_law0_r3 ++ (wsL_law0_r4 ++ (wsL_law0_r5 ++ (wsL_law0_r6 ++ (wsL_law0_r7 ++ (wsL_law0_r8 ++ (wsL_law0_r9 ++ (wsL_law0_r10 ++ (wsL_law0_r11 ++ (wsL_law0_r12 ++ (wsL_law0_r13 ++ (wsL_law0_r14 ++ (wsL_law0_r15 ++ (wsL_law0_r16 ++ (wsL_law0_r17 ++ (wsL_law0_r18 ++ (wsL_law0_r19 ++ (wsL_law0_r20 ++ (wsL_law0_r21 ++ (wsL_law0_r22 ++ (wsL_law0_r23 ++ (wsL_law0_r24 ++ (wsL_law0_r25 ++ (wsL_law0_r26 ++ (wsL_law0_r27 ++ (wsL_law0_r28 ++ (wsL_law0_r29 ++ (wsL_law0_r30 ++ (wsL_law0_r31 ++ (wsL_law0_r32 ++ (wsL_law0_r33 ++ (wsL_law0_r34 ++ (wsL_law0_r35 ++ (wsL_law0_r36 ++ (wsL_law0_r37 ++ (wsL_law0_r38 ++ (wsL_law0_r39 ++ (wsL_law0_r40 ++ (wsL_law0_r41 ++ wsL_law0_r42))))))))))))))))))))))))))))))))))))))))) ++ wsX110 ++ wsX120 ++ wsX40 ++ wsX100 ++ wsX70 ++ wsX90 ++ wsX60 ++ wsX30 ++ wsX80 ++ wsX50 ++ wsX00 ++ wsX10 ++ wsX20 ++ ([] : List Cond)
def wsL_law : List Cond := wsL_law0 ++ (vx_atM "java/lang/ArrayIndexOutOfBoundsException" ["java/lang/IndexOutOfBoundsException", "java/lang/RuntimeException", "java/lang/Exception"]).filter goodWord ++ (vx_atS RX11 118 "java/lang/IllegalStateException" ["java/lang/RuntimeException", "java/lang/Exception"]).filter goodWord ++ (vx_atS RX11 257 "java/lang/IndexOutOfBoundsException" ["java/lang/RuntimeException", "java/lang/Exception"]).filter goodWord ++ (vx_atS RX11 215 "java/lang/IllegalArgumentException" ["java/lang/RuntimeException", "java/lang/Exception"]).filter goodWord ++ (vx_atS RX11 142 "java/lang/UnsupportedOperationException" ["java/lang/RuntimeException", "java/lang/Exception"]).filter goodWord ++ (vx_atS RX11 165 "java/util/NoSuchElementException" ["java/lang/RuntimeException", "java/lang/Exception"]).filter goodWord ++ (vx_atS RX11 343 "java/lang/ArithmeticException" ["java/lang/RuntimeException", "java/lang/Exception"]).filter goodWord
set_option maxRecDepth 20000 in
theorem wsL_law_in0 : ∀ w ∈ wsL_law0, w ∈ lw_tbl := fun w h => (goodIn_p wsL_law0 [80, 83, 88, 114, 142, 169, 182, 188, 233, 240, 265, 288, 325, 360, 1070, 537, 540, 556, 576, 596, 600, 604, 1245, 1248, 1251, 1255, 1259, 1241, 613, 617, 621, 625, 645, 649, 653, 657, 661, 665, 669, 673, 677, 681, 685, 689, 692, 698, 702, 706, 710, 714, 718, 722, 727, 731, 737, 741, 745, 750, 1263, 1267, 1271, 1275, 1279, 1283, 1287, 1291, 1295, 1301, 1298, 1305, 1309, 1313, 1317, 1321, 1325, 1329, 1333, 1337, 758, 762, 1341, 785, 1345, 792, 1349, 800, 804, 1353, 1357, 815, 1361, 823, 1365, 830, 837, 841, 845, 849, 853, 857, 861, 865, 1369, 1373, 1377, 1381, 1385, 872, 876, 1389, 1393, 883, 888, 892, 896, 1397, 1401, 903, 1405, 911, 915, 919, 923, 927, 1409, 936, 941, 946, 950, 954, 958, 1413, 1417, 428, 1421, 965, 1425, 432, 1429, 972, 1433, 979, 1437, 987, 990, 1441, 999, 1445, 1006, 1449, 436, 1453, 1013, 1457, 440, 1461, 1465, 1021, 1026, 1469, 1033, 1473, 444, 1477, 1054, 1481, 1064, 1485, 448, 1489] (by decide +kernel) (by decide +kernel) w h).1
theorem wsL_law_x0 : ∀ w ∈ (vx_atM "java/lang/ArrayIndexOutOfBoundsException" ["java/lang/IndexOutOfBoundsException", "java/lang/RuntimeException", "java/lang/Exception"]).filter goodWord, w ∈ lw_tbl := by decide +kernel
theorem wsL_law_x1 : ∀ w ∈ (vx_atS RX11 118 "java/lang/IllegalStateException" ["java/lang/RuntimeException", "java/lang/Exception"]).filter goodWord, w ∈ lw_tbl := by decide +kernel
theorem wsL_law_x2 : ∀ w ∈ (vx_atS RX11 257 "java/lang/IndexOutOfBoundsException" ["java/lang/RuntimeException", "java/lang/Exception"]).filter goodWord, w ∈ lw_tbl := by decide +kernel
theorem wsL_law_x3 : ∀ w ∈ (vx_atS RX11 215 "java/lang/IllegalArgumentException" ["java/lang/RuntimeException", "java/lang/Exception"]).filter goodWord, w ∈ lw_tbl := by decide +kernel
theorem wsL_law_x4 : ∀ w ∈ (vx_atS RX11 142 "java/lang/UnsupportedOperationException" ["java/lang/RuntimeException", "java/lang/Exception"]).filter goodWord, w ∈ lw_tbl := by decide +kernel
theorem wsL_law_x5 : ∀ w ∈ (vx_atS RX11 165 "java/util/NoSuchElementException" ["java/lang/RuntimeException", "java/lang/Exception"]).filter goodWord, w ∈ lw_tbl := by decide +kernel
theorem wsL_law_x6 : ∀ w ∈ (vx_atS RX11 343 "java/lang/ArithmeticException" ["java/lang/RuntimeException", "java/lang/Exception"]).filter goodWord, w ∈ lw_tbl := by decide +kernel
theorem wsL_law_in : ∀ w ∈ wsL_law, w ∈ lw_tbl := fun w h => (List.mem_append.mp h).elim (fun h => (List.mem_append.mp h).elim (fun h => (List.mem_append.mp h).elim (fun h => (List.mem_append.mp h).elim (fun h => (List.mem_append.mp h).elim (fun h => (List.mem_append.mp h).elim (fun h => (List.mem_append.mp h).elim (fun h => wsL_law_in0 w h) (fun h => wsL_law_x0 w h)) (fun h => wsL_law_x1 w h)) (fun h => wsL_law_x2 w h)) (fun h => wsL_law_x3 w h)) (fun h => wsL_law_x4 w h)) (fun h => wsL_law_x5 w h)) (fun h => wsL_law_x6 w h)
theorem inlX0 : ∀ w ∈ wsX00, w ∈ wsL_law := fun _ h => List.mem_append_left _ (List.mem_append_left _ (List.mem_append_left _ (List.mem_append_left _ (List.mem_append_left _ (List.mem_append_left _ (List.mem_append_left _ (List.mem_append_left _ (List.mem_append_left _ (List.mem_append_left _ (List.mem_append_right _ h))))))))))
theorem inX0 : ∀ w ∈ wsX00, w ∈ lw_tbl := fun w h => wsL_law_in w (inlX0 w h)
theorem inlX1 : ∀ w ∈ wsX10, w ∈ wsL_law := fun _ h => List.mem_append_left _ (List.mem_append_left _ (List.mem_append_left _ (List.mem_append_left _ (List.mem_append_left _ (List.mem_append_left _ (List.mem_append_left _ (List.mem_append_left _ (List.mem_append_left _ (List.mem_append_right _ h)))))))))
theorem inX1 : ∀ w ∈ wsX10, w ∈ lw_tbl := fun w h => wsL_law_in w (inlX1 w h)
theorem inlX2 : ∀ w ∈ wsX20, w ∈ wsL_law := fun _ h => List.mem_append_left _ (List.mem_append_left _ (List.mem_append_left _ (List.mem_append_left _ (List.mem_append_left _ (List.mem_append_left _ (List.mem_append_left _ (List.mem_append_left _ (List.mem_append_right _ h))))))))
theorem inX2 : ∀ w ∈ wsX20, w ∈ lw_tbl := fun w h => wsL_law_in w (inlX2 w h)
theorem inlX3 : ∀ w ∈ wsX30, w ∈ wsL_law := fun _ h => List.mem_append_left _ (List.mem_append_left _ (List.mem_append_left _ (List.mem_append_left _ (List.mem_append_left _ (List.mem_append_left _ (List.mem_append_left _ (List.mem_append_left _ (List.mem_append_left _ (List.mem_append_left _ (List.mem_append_left _ (List.mem_append_left _ (List.mem_append_left _ (List.mem_append_right _ h)))))))))))))
theorem inX3 : ∀ w ∈ wsX30, w ∈ lw_tbl := fun w h => wsL_law_in w (inlX3 w h)
theorem inlX4 : ∀ w ∈ wsX40, w ∈ wsL_law := fun _ h => List.mem_append_left _ (List.mem_append_left _ (List.mem_append_left _ (List.mem_append_left _ (List.mem_append_left _ (List.mem_append_left _ (List.mem_append_left _ (List.mem_append_left _ (List.mem_append_left _ (List.mem_append_left _ (List.mem_append_left _ (List.mem_append_left _ (List.mem_append_left _ (List.mem_append_left _ (List.mem_append_left _ (List.mem_append_left _ (List.mem_append_left _ (List.mem_append_left _ (List.mem_append_right _ h))))))))))))))))))
theorem inX4 : ∀ w ∈ wsX40, w ∈ lw_tbl := fun w h => wsL_law_in w (inlX4 w h)
theorem inlX5 : ∀ w ∈ wsX50, w ∈ wsL_law := fun _ h => List.mem_append_left _ (List.mem_append_left _ (List.mem_append_left _ (List.mem_append_left _ (List.mem_append_left _ (List.mem_append_left _ (List.mem_append_left _ (List.mem_append_left _ (List.mem_append_left _ (List.mem_append_left _ (List.mem_append_left _ (List.mem_append_right _ h)))))))))))
theorem inX5 : ∀ w ∈ wsX50, w ∈ lw_tbl := fun w h => wsL_law_in w (inlX5 w h)
theorem inlX6 : ∀ w ∈ wsX60, w ∈ wsL_law := fun _ h => List.mem_append_left _ (List.mem_append_left _ (List.mem_append_left _ (List.mem_append_left _ (List.mem_append_left _ (List.mem_append_left _ (List.mem_append_left _ (List.mem_append_left _ (List.mem_append_left _ (List.mem_append_left _ (List.mem_append_left _ (List.mem_append_left _ (List.mem_append_left _ (List.mem_append_left _ (List.mem_append_right _ h))))))))))))))
theorem inX6 : ∀ w ∈ wsX60, w ∈ lw_tbl := fun w h => wsL_law_in w (inlX6 w h)
theorem inlX7 : ∀ w ∈ wsX70, w ∈ wsL_law := fun _ h => List.mem_append_left _ (List.mem_append_left _ (List.mem_append_left _ (List.mem_append_left _ (List.mem_append_left _ (List.mem_append_left _ (List.mem_append_left _ (List.mem_append_left _ (List.mem_append_left _ (List.mem_append_left _ (List.mem_append_left _ (List.mem_append_left _ (List.mem_append_left _ (List.mem_append_left _ (List.mem_append_left _ (List.mem_append_left _ (List.mem_append_right _ h))))))))))))))))
theorem inX7 : ∀ w ∈ wsX70, w ∈ lw_tbl := fun w h => wsL_law_in w (inlX7 w h)
theorem inlX8 : ∀ w ∈ wsX80, w ∈ wsL_law := fun _ h => List.mem_append_left _ (List.mem_append_left _ (List.mem_append_left _ (List.mem_append_left _ (List.mem_append_left _ (List.mem_append_left _ (List.mem_append_left _ (List.mem_append_left _ (List.mem_append_left _ (List.mem_append_left _ (List.mem_append_left _ (List.mem_append_left _ (List.mem_append_right _ h))))))))))))
theorem inX8 : ∀ w ∈ wsX80, w ∈ lw_tbl := fun w h => wsL_law_in w (inlX8 w h)
theorem inlX9 : ∀ w ∈ wsX90, w ∈ wsL_law := fun _ h => List.mem_append_left _ (List.mem_append_left _ (List.mem_append_left _ (List.mem_append_left _ (List.mem_append_left _ (List.mem_append_left _ (List.mem_append_left _ (List.mem_append_left _ (List.mem_append_left _ (List.mem_append_left _ (List.mem_append_left _ (List.mem_append_left _ (List.mem_append_left _ (List.mem_append_left _ (List.mem_append_left _ (List.mem_append_right _ h)))))))))))))))
theorem inX9 : ∀ w ∈ wsX90, w ∈ lw_tbl := fun w h => wsL_law_in w (inlX9 w h)
theorem inlX10 : ∀ w ∈ wsX100, w ∈ wsL_law := fun _ h => List.mem_append_left _ (List.mem_append_left _ (List.mem_append_left _ (List.mem_append_left _ (List.mem_append_left _ (List.mem_append_left _ (List.mem_append_left _ (List.mem_append_left _ (List.mem_append_left _ (List.mem_append_left _ (List.mem_append_left _ (List.mem_append_left _ (List.mem_append_left _ (List.mem_append_left _ (List.mem_append_left _ (List.mem_append_left _ (List.mem_append_left _ (List.mem_append_right _ h)))))))))))))))))
theorem inX10 : ∀ w ∈ wsX100, w ∈ lw_tbl := fun w h => wsL_law_in w (inlX10 w h)
theorem inlX11 : ∀ w ∈ wsX110, w ∈ wsL_law := fun _ h => List.mem_append_left _ (List.mem_append_left _ (List.mem_append_left _ (List.mem_append_left _ (List.mem_append_left _ (List.mem_append_left _ (List.mem_append_left _ (List.mem_append_left _ (List.mem_append_left _ (List.mem_append_left _ (List.mem_append_left _ (List.mem_append_left _ (List.mem_append_left _ (List.mem_append_left _ (List.mem_append_left _ (List.mem_append_left _ (List.mem_append_left _ (List.mem_append_left _ (List.mem_append_left _ (List.mem_append_left _ (List.mem_append_right _ h))))))))))))))))))))
theorem inX11 : ∀ w ∈ wsX110, w ∈ lw_tbl := fun w h => wsL_law_in w (inlX11 w h)
theorem inlX12 : ∀ w ∈ wsX120, w ∈ wsL_law := fun _ h => List.mem_append_left _ (List.mem_append_left _ (List.mem_append_left _ (List.mem_append_left _ (List.mem_append_left _ (List.mem_append_left _ (List.mem_append_left _ (List.mem_append_left _ (List.mem_append_left _ (List.mem_append_left _ (List.mem_append_left _ (List.mem_append_left _ (List.mem_append_left _ (List.mem_append_left _ (List.mem_append_left _ (List.mem_append_left _ (List.mem_append_left _ (List.mem_append_left _ (List.mem_append_left _ (List.mem_append_right _ h)))))))))))))))))))
theorem inX12 : ∀ w ∈ wsX120, w ∈ lw_tbl := fun w h => wsL_law_in w (inlX12 w h)
theorem inJx145de : ∀ w ∈ wsJx145de0, w ∈ lw_tbl := by decide +kernel
theorem inJx00060 : ∀ w ∈ wsJx000600, w ∈ lw_tbl := by decide +kernel
theorem inJ9 : ∀ w ∈ wsJ90, w ∈ lw_tbl := by decide +kernel
theorem inJ0 : ∀ w ∈ wsJ00, w ∈ lw_tbl := by decide +kernel
theorem dX0_init_0 : decode cX0_init 0 = .ok (.aload_n 0, 1) := by decide +kernel
theorem dX0_init_1 : decode cX0_init 1 = .ok (.invokespecial 1, 3) := by decide +kernel
theorem dX0_init_4 : decode cX0_init 4 = .ok (.aload_n 0, 1) := by decide +kernel
theorem dX0_init_5 : decode cX0_init 5 = .ok (.iconst 0, 1) := by decide +kernel
theorem dX0_init_6 : decode cX0_init 6 = .ok (.putfield 7, 3) := by decide +kernel
theorem dX0_init_9 : decode cX0_init 9 = .ok (.aload_n 0, 1) := by decide +kernel
theorem dX0_init_10 : decode cX0_init 10 = .ok (.iconst 0, 1) := by decide +kernel
theorem dX0_init_11 : decode cX0_init 11 = .ok (.putfield 13, 3) := by decide +kernel
theorem dX0_init_14 : decode cX0_init 14 = .ok (.aload_n 0, 1) := by decide +kernel
theorem dX0_init_15 : decode cX0_init 15 = .ok (.iconst 0, 1) := by decide +kernel
theorem dX0_init_16 : decode cX0_init 16 = .ok (.putfield 17, 3) := by decide +kernel
theorem dX0_init_19 : decode cX0_init 19 = .ok (.aload_n 0, 1) := by decide +kernel
theorem dX0_init_20 : decode cX0_init 20 = .ok (.iconst 0, 1) := by decide +kernel
theorem dX0_init_21 : decode cX0_init 21 = .ok (.putfield 20, 3) := by decide +kernel
theorem dX0_init_24 : decode cX0_init 24 = .ok (.aload_n 0, 1) := by decide +kernel
theorem dX0_init_25 : decode cX0_init 25 = .ok (.iconst 0, 1) := by decide +kernel
theorem dX0_init_26 : decode cX0_init 26 = .ok (.putfield 23, 3) := by decide +kernel
theorem dX0_init_29 : decode cX0_init 29 = .ok (.aload_n 0, 1) := by decide +kernel
theorem dX0_init_30 : decode cX0_init 30 = .ok (.lconst 0, 1) := by decide +kernel
theorem dX0_init_31 : decode cX0_init 31 = .ok (.putfield 26, 3) := by decide +kernel
theorem dX0_init_34 : decode cX0_init 34 = .ok (.aload_n 0, 1) := by decide +kernel
theorem dX0_init_35 : decode cX0_init 35 = .ok (.iconst 0, 1) := by decide +kernel
theorem dX0_init_36 : decode cX0_init 36 = .ok (.putfield 30, 3) := by decide +kernel
theorem dX0_init_39 : decode cX0_init 39 = .ok (.return_, 1) := by decide +kernel
theorem dX0_tell_0 : decode cX0_tell 0 = .ok (.aload_n 0, 1) := by decide +kernel
theorem dX0_tell_1 : decode cX0_tell 1 = .ok (.dup, 1) := by decide +kernel
theorem dX0_tell_2 : decode cX0_tell 2 = .ok (.getfield 20, 3) := by decide +kernel
theorem dX0_tell_5 : decode cX0_tell 5 = .ok (.iconst 1, 1) := by decide +kernel
theorem dX0_tell_6 : decode cX0_tell 6 = .ok (.iadd, 1) := by decide +kernel
theorem dX0_tell_7 : decode cX0_tell 7 = .ok (.putfield 20, 3) := by decide +kernel
theorem dX0_tell_10 : decode cX0_tell 10 = .ok (.aload_n 0, 1) := by decide +kernel
theorem dX0_tell_11 : decode cX0_tell 11 = .ok (.dup, 1) := by decide +kernel
theorem dX0_tell_12 : decode cX0_tell 12 = .ok (.getfield 23, 3) := by decide +kernel
theorem dX0_tell_15 : decode cX0_tell 15 = .ok (.iconst 1, 1) := by decide +kernel
theorem dX0_tell_16 : decode cX0_tell 16 = .ok (.iadd, 1) := by decide +kernel
theorem dX0_tell_17 : decode cX0_tell 17 = .ok (.putfield 23, 3) := by decide +kernel
theorem dX0_tell_20 : decode cX0_tell 20 = .ok (.aload_n 0, 1) := by decide +kernel
theorem dX0_tell_21 : decode cX0_tell 21 = .ok (.iconst 1, 1) := by decide +kernel
theorem dX0_tell_22 : decode cX0_tell 22 = .ok (.putfield 7, 3) := by decide +kernel
theorem dX0_tell_25 : decode cX0_tell 25 = .ok (.aload_n 0, 1) := by decide +kernel
theorem dX0_tell_26 : decode cX0_tell 26 = .ok (.iload_n 1, 1) := by decide +kernel
theorem dX0_tell_27 : decode cX0_tell 27 = .ok (.putfield 13, 3) := by decide +kernel
theorem dX0_tell_30 : decode cX0_tell 30 = .ok (.aload_n 0, 1) := by decide +kernel
theorem dX0_tell_31 : decode cX0_tell 31 = .ok (.iload_n 2, 1) := by decide +kernel
theorem dX0_tell_32 : decode cX0_tell 32 = .ok (.putfield 17, 3) := by decide +kernel
theorem dX0_tell_35 : decode cX0_tell 35 = .ok (.aload_n 0, 1) := by decide +kernel
theorem dX0_tell_36 : decode cX0_tell 36 = .ok (.dup, 1) := by decide +kernel
theorem dX0_tell_37 : decode cX0_tell 37 = .ok (.getfield 26, 3) := by decide +kernel
theorem dX0_tell_40 : decode cX0_tell 40 = .ok (.iload_n 2, 1) := by decide +kernel
theorem dX0_tell_41 : decode cX0_tell 41 = .ok (.i2l, 1) := by decide +kernel
theorem dX0_tell_42 : decode cX0_tell 42 = .ok (.ladd, 1) := by decide +kernel
theorem dX0_tell_43 : decode cX0_tell 43 = .ok (.putfield 26, 3) := by decide +kernel
theorem dX0_tell_46 : decode cX0_tell 46 = .ok (.aload_n 0, 1) := by decide +kernel
theorem dX0_tell_47 : decode cX0_tell 47 = .ok (.aload_n 0, 1) := by decide +kernel
theorem dX0_tell_48 : decode cX0_tell 48 = .ok (.getfield 30, 3) := by decide +kernel
theorem dX0_tell_51 : decode cX0_tell 51 = .ok (.ifCond .ne 8, 3) := by decide +kernel
theorem dX0_tell_54 : decode cX0_tell 54 = .ok (.iload_n 2, 1) := by decide +kernel
theorem dX0_tell_55 : decode cX0_tell 55 = .ok (.iload_n 3, 1) := by decide +kernel
theorem dX0_tell_56 : decode cX0_tell 56 = .ok (.if_icmp .le 7, 3) := by decide +kernel
theorem dX0_tell_59 : decode cX0_tell 59 = .ok (.iconst 1, 1) := by decide +kernel
theorem dX0_tell_60 : decode cX0_tell 60 = .ok (.goto 4, 3) := by decide +kernel
theorem dX0_tell_63 : decode cX0_tell 63 = .ok (.iconst 0, 1) := by decide +kernel
theorem dX0_tell_64 : decode cX0_tell 64 = .ok (.putfield 30, 3) := by decide +kernel
theorem dX0_tell_67 : decode cX0_tell 67 = .ok (.return_, 1) := by decide +kernel
theorem dX0_tellNothing_0 : decode cX0_tellNothing 0 = .ok (.aload_n 0, 1) := by decide +kernel
theorem dX0_tellNothing_1 : decode cX0_tellNothing 1 = .ok (.dup, 1) := by decide +kernel
theorem dX0_tellNothing_2 : decode cX0_tellNothing 2 = .ok (.getfield 20, 3) := by decide +kernel
theorem dX0_tellNothing_5 : decode cX0_tellNothing 5 = .ok (.iconst 1, 1) := by decide +kernel
theorem dX0_tellNothing_6 : decode cX0_tellNothing 6 = .ok (.iadd, 1) := by decide +kernel
theorem dX0_tellNothing_7 : decode cX0_tellNothing 7 = .ok (.putfield 20, 3) := by decide +kernel
theorem dX0_tellNothing_10 : decode cX0_tellNothing 10 = .ok (.aload_n 0, 1) := by decide +kernel
theorem dX0_tellNothing_11 : decode cX0_tellNothing 11 = .ok (.iconst 0, 1) := by decide +kernel
theorem dX0_tellNothing_12 : decode cX0_tellNothing 12 = .ok (.putfield 7, 3) := by decide +kernel
theorem dX0_tellNothing_15 : decode cX0_tellNothing 15 = .ok (.return_, 1) := by decide +kernel
theorem dX1_init_0 : decode cX1_init 0 = .ok (.aload_n 0, 1) := by decide +kernel
theorem dX1_init_1 : decode cX1_init 1 = .ok (.invokespecial 3, 3) := by decide +kernel
theorem dX1_init_4 : decode cX1_init 4 = .ok (.aload_n 0, 1) := by decide +kernel
theorem dX1_init_5 : decode cX1_init 5 = .ok (.bipush 32, 2) := by decide +kernel
theorem dX1_init_7 : decode cX1_init 7 = .ok (.newarray .boolean, 2) := by decide +kernel
theorem dX1_init_9 : decode cX1_init 9 = .ok (.putfield 9, 3) := by decide +kernel
theorem dX1_init_12 : decode cX1_init 12 = .ok (.aload_n 0, 1) := by decide +kernel
theorem dX1_init_13 : decode cX1_init 13 = .ok (.bipush 32, 2) := by decide +kernel
theorem dX1_init_15 : decode cX1_init 15 = .ok (.newarray .int, 2) := by decide +kernel
theorem dX1_init_17 : decode cX1_init 17 = .ok (.putfield 15, 3) := by decide +kernel
theorem dX1_init_20 : decode cX1_init 20 = .ok (.aload_n 0, 1) := by decide +kernel
theorem dX1_init_21 : decode cX1_init 21 = .ok (.bipush 32, 2) := by decide +kernel
theorem dX1_init_23 : decode cX1_init 23 = .ok (.newarray .int, 2) := by decide +kernel
theorem dX1_init_25 : decode cX1_init 25 = .ok (.putfield 19, 3) := by decide +kernel
theorem dX1_init_28 : decode cX1_init 28 = .ok (.aload_n 0, 1) := by decide +kernel
theorem dX1_init_29 : decode cX1_init 29 = .ok (.iconst 0, 1) := by decide +kernel
theorem dX1_init_30 : decode cX1_init 30 = .ok (.putfield 22, 3) := by decide +kernel
theorem dX1_init_33 : decode cX1_init 33 = .ok (.aload_n 0, 1) := by decide +kernel
theorem dX1_init_34 : decode cX1_init 34 = .ok (.iconst 0, 1) := by decide +kernel
theorem dX1_init_35 : decode cX1_init 35 = .ok (.putfield 26, 3) := by decide +kernel
theorem dX1_init_38 : decode cX1_init 38 = .ok (.return_, 1) := by decide +kernel
theorem dX1_clear_0 : decode cX1_clear 0 = .ok (.aload_n 0, 1) := by decide +kernel
theorem dX1_clear_1 : decode cX1_clear 1 = .ok (.iconst 0, 1) := by decide +kernel
theorem dX1_clear_2 : decode cX1_clear 2 = .ok (.putfield 22, 3) := by decide +kernel
theorem dX1_clear_5 : decode cX1_clear 5 = .ok (.aload_n 0, 1) := by decide +kernel
theorem dX1_clear_6 : decode cX1_clear 6 = .ok (.iconst 0, 1) := by decide +kernel
theorem dX1_clear_7 : decode cX1_clear 7 = .ok (.putfield 26, 3) := by decide +kernel
theorem dX1_clear_10 : decode cX1_clear 10 = .ok (.iconst 0, 1) := by decide +kernel
theorem dX1_clear_11 : decode cX1_clear 11 = .ok (.istore_n 1, 1) := by decide +kernel
theorem dX1_clear_12 : decode cX1_clear 12 = .ok (.iload_n 1, 1) := by decide +kernel
theorem dX1_clear_13 : decode cX1_clear 13 = .ok (.bipush 32, 2) := by decide +kernel
theorem dX1_clear_15 : decode cX1_clear 15 = .ok (.if_icmp .ge 16, 3) := by decide +kernel
theorem dX1_clear_18 : decode cX1_clear 18 = .ok (.aload_n 0, 1) := by decide +kernel
theorem dX1_clear_19 : decode cX1_clear 19 = .ok (.getfield 9, 3) := by decide +kernel
theorem dX1_clear_22 : decode cX1_clear 22 = .ok (.iload_n 1, 1) := by decide +kernel
theorem dX1_clear_23 : decode cX1_clear 23 = .ok (.iconst 0, 1) := by decide +kernel
theorem dX1_clear_24 : decode cX1_clear 24 = .ok (.bastore, 1) := by decide +kernel
theorem dX1_clear_25 : decode cX1_clear 25 = .ok (.iinc 1 1, 3) := by decide +kernel
theorem dX1_clear_28 : decode cX1_clear 28 = .ok (.goto (-16), 3) := by decide +kernel
theorem dX1_clear_31 : decode cX1_clear 31 = .ok (.return_, 1) := by decide +kernel
theorem dX1_add_0 : decode cX1_add 0 = .ok (.aload_n 0, 1) := by decide +kernel
theorem dX1_add_1 : decode cX1_add 1 = .ok (.getfield 22, 3) := by decide +kernel
theorem dX1_add_4 : decode cX1_add 4 = .ok (.bipush 32, 2) := by decide +kernel
theorem dX1_add_6 : decode cX1_add 6 = .ok (.if_icmp .ge 45, 3) := by decide +kernel
theorem dX1_add_9 : decode cX1_add 9 = .ok (.aload_n 0, 1) := by decide +kernel
theorem dX1_add_10 : decode cX1_add 10 = .ok (.getfield 9, 3) := by decide +kernel
theorem dX1_add_13 : decode cX1_add 13 = .ok (.iload_n 1, 1) := by decide +kernel
theorem dX1_add_14 : decode cX1_add 14 = .ok (.iconst 1, 1) := by decide +kernel
theorem dX1_add_15 : decode cX1_add 15 = .ok (.bastore, 1) := by decide +kernel
theorem dX1_add_16 : decode cX1_add 16 = .ok (.aload_n 0, 1) := by decide +kernel
theorem dX1_add_17 : decode cX1_add 17 = .ok (.getfield 19, 3) := by decide +kernel
theorem dX1_add_20 : decode cX1_add 20 = .ok (.aload_n 0, 1) := by decide +kernel
theorem dX1_add_21 : decode cX1_add 21 = .ok (.getfield 22, 3) := by decide +kernel
theorem dX1_add_24 : decode cX1_add 24 = .ok (.iload_n 1, 1) := by decide +kernel
theorem dX1_add_25 : decode cX1_add 25 = .ok (.iastore, 1) := by decide +kernel
theorem dX1_add_26 : decode cX1_add 26 = .ok (.aload_n 0, 1) := by decide +kernel
theorem dX1_add_27 : decode cX1_add 27 = .ok (.dup, 1) := by decide +kernel
theorem dX1_add_28 : decode cX1_add 28 = .ok (.getfield 22, 3) := by decide +kernel
theorem dX1_add_31 : decode cX1_add 31 = .ok (.iconst 1, 1) := by decide +kernel
theorem dX1_add_32 : decode cX1_add 32 = .ok (.iadd, 1) := by decide +kernel
theorem dX1_add_33 : decode cX1_add 33 = .ok (.putfield 22, 3) := by decide +kernel
theorem dX1_add_36 : decode cX1_add 36 = .ok (.aload_n 0, 1) := by decide +kernel
theorem dX1_add_37 : decode cX1_add 37 = .ok (.dup, 1) := by decide +kernel
theorem dX1_add_38 : decode cX1_add 38 = .ok (.getfield 26, 3) := by decide +kernel
theorem dX1_add_41 : decode cX1_add 41 = .ok (.aload_n 0, 1) := by decide +kernel
theorem dX1_add_42 : decode cX1_add 42 = .ok (.getfield 15, 3) := by decide +kernel
theorem dX1_add_45 : decode cX1_add 45 = .ok (.iload_n 1, 1) := by decide +kernel
theorem dX1_add_46 : decode cX1_add 46 = .ok (.iaload, 1) := by decide +kernel
theorem dX1_add_47 : decode cX1_add 47 = .ok (.iadd, 1) := by decide +kernel
theorem dX1_add_48 : decode cX1_add 48 = .ok (.putfield 26, 3) := by decide +kernel
theorem dX1_add_51 : decode cX1_add 51 = .ok (.return_, 1) := by decide +kernel
theorem dX2_init_0 : decode cX2_init 0 = .ok (.aload_n 0, 1) := by decide +kernel
theorem dX2_init_1 : decode cX2_init 1 = .ok (.invokespecial 1, 3) := by decide +kernel
theorem dX2_init_4 : decode cX2_init 4 = .ok (.iload_n 1, 1) := by decide +kernel
theorem dX2_init_5 : decode cX2_init 5 = .ok (.ifCond .le 7, 3) := by decide +kernel
theorem dX2_init_8 : decode cX2_init 8 = .ok (.iload_n 1, 1) := by decide +kernel
theorem dX2_init_9 : decode cX2_init 9 = .ok (.goto 4, 3) := by decide +kernel
theorem dX2_init_12 : decode cX2_init 12 = .ok (.iconst 0, 1) := by decide +kernel
theorem dX2_init_13 : decode cX2_init 13 = .ok (.istore_n 2, 1) := by decide +kernel
theorem dX2_init_14 : decode cX2_init 14 = .ok (.aload_n 0, 1) := by decide +kernel
theorem dX2_init_15 : decode cX2_init 15 = .ok (.iload_n 2, 1) := by decide +kernel
theorem dX2_init_16 : decode cX2_init 16 = .ok (.newarray .int, 2) := by decide +kernel
theorem dX2_init_18 : decode cX2_init 18 = .ok (.putfield 7, 3) := by decide +kernel
theorem dX2_init_21 : decode cX2_init 21 = .ok (.aload_n 0, 1) := by decide +kernel
theorem dX2_init_22 : decode cX2_init 22 = .ok (.iload_n 2, 1) := by decide +kernel
theorem dX2_init_23 : decode cX2_init 23 = .ok (.newarray .int, 2) := by decide +kernel
theorem dX2_init_25 : decode cX2_init 25 = .ok (.putfield 13, 3) := by decide +kernel
theorem dX2_init_28 : decode cX2_init 28 = .ok (.aload_n 0, 1) := by decide +kernel
theorem dX2_init_29 : decode cX2_init 29 = .ok (.iload_n 2, 1) := by decide +kernel
theorem dX2_init_30 : decode cX2_init 30 = .ok (.newarray .int, 2) := by decide +kernel
theorem dX2_init_32 : decode cX2_init 32 = .ok (.putfield 16, 3) := by decide +kernel
theorem dX2_init_35 : decode cX2_init 35 = .ok (.aload_n 0, 1) := by decide +kernel
theorem dX2_init_36 : decode cX2_init 36 = .ok (.iload_n 2, 1) := by decide +kernel
theorem dX2_init_37 : decode cX2_init 37 = .ok (.newarray .int, 2) := by decide +kernel
theorem dX2_init_39 : decode cX2_init 39 = .ok (.putfield 19, 3) := by decide +kernel
theorem dX2_init_42 : decode cX2_init 42 = .ok (.return_, 1) := by decide +kernel
theorem dX2_put_0 : decode cX2_put 0 = .ok (.aload_n 0, 1) := by decide +kernel
theorem dX2_put_1 : decode cX2_put 1 = .ok (.getfield 7, 3) := by decide +kernel
theorem dX2_put_4 : decode cX2_put 4 = .ok (.iload_n 1, 1) := by decide +kernel
theorem dX2_put_5 : decode cX2_put 5 = .ok (.iload_n 2, 1) := by decide +kernel
theorem dX2_put_6 : decode cX2_put 6 = .ok (.iastore, 1) := by decide +kernel
theorem dX2_put_7 : decode cX2_put 7 = .ok (.aload_n 0, 1) := by decide +kernel
theorem dX2_put_8 : decode cX2_put 8 = .ok (.getfield 13, 3) := by decide +kernel
theorem dX2_put_11 : decode cX2_put 11 = .ok (.iload_n 1, 1) := by decide +kernel
theorem dX2_put_12 : decode cX2_put 12 = .ok (.iload_n 3, 1) := by decide +kernel
theorem dX2_put_13 : decode cX2_put 13 = .ok (.iastore, 1) := by decide +kernel
theorem dX2_put_14 : decode cX2_put 14 = .ok (.aload_n 0, 1) := by decide +kernel
theorem dX2_put_15 : decode cX2_put 15 = .ok (.getfield 16, 3) := by decide +kernel
theorem dX2_put_18 : decode cX2_put 18 = .ok (.iload_n 1, 1) := by decide +kernel
theorem dX2_put_19 : decode cX2_put 19 = .ok (.iload 4, 2) := by decide +kernel
theorem dX2_put_21 : decode cX2_put 21 = .ok (.iastore, 1) := by decide +kernel
theorem dX2_put_22 : decode cX2_put 22 = .ok (.aload_n 0, 1) := by decide +kernel
theorem dX2_put_23 : decode cX2_put 23 = .ok (.getfield 19, 3) := by decide +kernel
theorem dX2_put_26 : decode cX2_put 26 = .ok (.iload_n 1, 1) := by decide +kernel
theorem dX2_put_27 : decode cX2_put 27 = .ok (.iload 5, 2) := by decide +kernel
theorem dX2_put_29 : decode cX2_put 29 = .ok (.iastore, 1) := by decide +kernel
theorem dX2_put_30 : decode cX2_put 30 = .ok (.return_, 1) := by decide +kernel
set_option maxRecDepth 20000 in
theorem ggX2_take_X2_put : GoodIn wsX2_take wsX2_put := goodIn_ca (goodIn_r _ [9, 1, 2, 3, 4, 10, 11, 12, 13] (by decide +kernel) (by decide +kernel)) (goodIn_sub (fun _ h => List.mem_cons_of_mem _ (List.mem_append_right _ h)) (by decide +kernel))
set_option maxRecDepth 20000 in
theorem gX2_take_X2_put : GoodIn wsX2_take (wsV RX2 22 RX2 yX2_put wsX2_put) := goodIn_app (goodIn_of _ (by decide +kernel)) ggX2_take_X2_put
theorem dX2_take_0 : decode cX2_take 0 = .ok (.aload_n 0, 1) := by decide +kernel
theorem dX2_take_1 : decode cX2_take 1 = .ok (.iload_n 1, 1) := by decide +kernel
theorem dX2_take_2 : decode cX2_take 2 = .ok (.aload_n 2, 1) := by decide +kernel
theorem dX2_take_3 : decode cX2_take 3 = .ok (.getfield 7, 3) := by decide +kernel
theorem dX2_take_6 : decode cX2_take 6 = .ok (.iload_n 3, 1) := by decide +kernel
theorem dX2_take_7 : decode cX2_take 7 = .ok (.iaload, 1) := by decide +kernel
theorem dX2_take_8 : decode cX2_take 8 = .ok (.aload_n 2, 1) := by decide +kernel
theorem dX2_take_9 : decode cX2_take 9 = .ok (.getfield 13, 3) := by decide +kernel
theorem dX2_take_12 : decode cX2_take 12 = .ok (.iload_n 3, 1) := by decide +kernel
theorem dX2_take_13 : decode cX2_take 13 = .ok (.iaload, 1) := by decide +kernel
theorem dX2_take_14 : decode cX2_take 14 = .ok (.aload_n 2, 1) := by decide +kernel
theorem dX2_take_15 : decode cX2_take 15 = .ok (.getfield 16, 3) := by decide +kernel
theorem dX2_take_18 : decode cX2_take 18 = .ok (.iload_n 3, 1) := by decide +kernel
theorem dX2_take_19 : decode cX2_take 19 = .ok (.iaload, 1) := by decide +kernel
theorem dX2_take_20 : decode cX2_take 20 = .ok (.aload_n 2, 1) := by decide +kernel
theorem dX2_take_21 : decode cX2_take 21 = .ok (.getfield 19, 3) := by decide +kernel
theorem dX2_take_24 : decode cX2_take 24 = .ok (.iload_n 3, 1) := by decide +kernel
theorem dX2_take_25 : decode cX2_take 25 = .ok (.iaload, 1) := by decide +kernel
theorem dX2_take_26 : decode cX2_take 26 = .ok (.invokevirtual 22, 3) := by decide +kernel
theorem dX2_take_29 : decode cX2_take 29 = .ok (.return_, 1) := by decide +kernel
set_option maxRecDepth 20000 in
theorem ggX3_init_X2_init : GoodIn wsX3_init wsX2_init := goodIn_r _ [15, 16, 2, 3, 8, 17, 18, 19, 20, 26, 27, 28, 29] (by decide +kernel) (by decide +kernel)
set_option maxRecDepth 20000 in
theorem gX3_init_X2_init : GoodIn wsX3_init (wsX2_init) := ggX3_init_X2_init
set_option maxRecDepth 20000 in
theorem ggX3_init_X3_loseIndex : GoodIn wsX3_init wsX3_loseIndex := goodIn_ca (goodIn_r _ [25, 10, 30, 31, 32, 33, 34] (by decide +kernel) (by decide +kernel)) (goodIn_sub (fun _ h => List.mem_cons_of_mem _ (List.mem_append_right _ h)) (by decide +kernel))
set_option maxRecDepth 20000 in
theorem gX3_init_X3_loseIndex : GoodIn wsX3_init (wsV RX3 34 RX3 yX3_loseIndex wsX3_loseIndex) := goodIn_app (goodIn_of _ (by decide +kernel)) ggX3_init_X3_loseIndex
theorem dX3_init_0 : decode cX3_init 0 = .ok (.aload_n 0, 1) := by decide +kernel
theorem dX3_init_1 : decode cX3_init 1 = .ok (.invokespecial 3, 3) := by decide +kernel
theorem dX3_init_4 : decode cX3_init 4 = .ok (.aload_n 0, 1) := by decide +kernel
theorem dX3_init_5 : decode cX3_init 5 = .ok (.new 9, 3) := by decide +kernel
theorem dX3_init_8 : decode cX3_init 8 = .ok (.dup, 1) := by decide +kernel
theorem dX3_init_9 : decode cX3_init 9 = .ok (.bipush 16, 2) := by decide +kernel
theorem dX3_init_11 : decode cX3_init 11 = .ok (.invokespecial 11, 3) := by decide +kernel
theorem dX3_init_14 : decode cX3_init 14 = .ok (.putfield 14, 3) := by decide +kernel
theorem dX3_init_17 : decode cX3_init 17 = .ok (.aload_n 0, 1) := by decide +kernel
theorem dX3_init_18 : decode cX3_init 18 = .ok (.bipush 16, 2) := by decide +kernel
theorem dX3_init_20 : decode cX3_init 20 = .ok (.newarray .int, 2) := by decide +kernel
theorem dX3_init_22 : decode cX3_init 22 = .ok (.putfield 20, 3) := by decide +kernel
theorem dX3_init_25 : decode cX3_init 25 = .ok (.aload_n 0, 1) := by decide +kernel
theorem dX3_init_26 : decode cX3_init 26 = .ok (.bipush 32, 2) := by decide +kernel
theorem dX3_init_28 : decode cX3_init 28 = .ok (.newarray .int, 2) := by decide +kernel
theorem dX3_init_30 : decode cX3_init 30 = .ok (.putfield 24, 3) := by decide +kernel
theorem dX3_init_33 : decode cX3_init 33 = .ok (.aload_n 0, 1) := by decide +kernel
theorem dX3_init_34 : decode cX3_init 34 = .ok (.iconst 4, 1) := by decide +kernel
theorem dX3_init_35 : decode cX3_init 35 = .ok (.newarray .int, 2) := by decide +kernel
theorem dX3_init_37 : decode cX3_init 37 = .ok (.putfield 27, 3) := by decide +kernel
theorem dX3_init_40 : decode cX3_init 40 = .ok (.aload_n 0, 1) := by decide +kernel
theorem dX3_init_41 : decode cX3_init 41 = .ok (.iconst 0, 1) := by decide +kernel
theorem dX3_init_42 : decode cX3_init 42 = .ok (.putfield 30, 3) := by decide +kernel
theorem dX3_init_45 : decode cX3_init 45 = .ok (.iconst 0, 1) := by decide +kernel
theorem dX3_init_46 : decode cX3_init 46 = .ok (.istore_n 1, 1) := by decide +kernel
theorem dX3_init_47 : decode cX3_init 47 = .ok (.iload_n 1, 1) := by decide +kernel
theorem dX3_init_48 : decode cX3_init 48 = .ok (.bipush 16, 2) := by decide +kernel
theorem dX3_init_50 : decode cX3_init 50 = .ok (.if_icmp .ge 16, 3) := by decide +kernel
theorem dX3_init_53 : decode cX3_init 53 = .ok (.aload_n 0, 1) := by decide +kernel
theorem dX3_init_54 : decode cX3_init 54 = .ok (.getfield 20, 3) := by decide +kernel
theorem dX3_init_57 : decode cX3_init 57 = .ok (.iload_n 1, 1) := by decide +kernel
theorem dX3_init_58 : decode cX3_init 58 = .ok (.iconst (-1), 1) := by decide +kernel
theorem dX3_init_59 : decode cX3_init 59 = .ok (.iastore, 1) := by decide +kernel
theorem dX3_init_60 : decode cX3_init 60 = .ok (.iinc 1 1, 3) := by decide +kernel
theorem dX3_init_63 : decode cX3_init 63 = .ok (.goto (-16), 3) := by decide +kernel
theorem dX3_init_66 : decode cX3_init 66 = .ok (.aload_n 0, 1) := by decide +kernel
theorem dX3_init_67 : decode cX3_init 67 = .ok (.invokevirtual 34, 3) := by decide +kernel
theorem dX3_init_70 : decode cX3_init 70 = .ok (.return_, 1) := by decide +kernel
theorem dX3_loseIndex_0 : decode cX3_loseIndex 0 = .ok (.iconst 0, 1) := by decide +kernel
theorem dX3_loseIndex_1 : decode cX3_loseIndex 1 = .ok (.istore_n 1, 1) := by decide +kernel
theorem dX3_loseIndex_2 : decode cX3_loseIndex 2 = .ok (.iload_n 1, 1) := by decide +kernel
theorem dX3_loseIndex_3 : decode cX3_loseIndex 3 = .ok (.bipush 32, 2) := by decide +kernel
theorem dX3_loseIndex_5 : decode cX3_loseIndex 5 = .ok (.if_icmp .ge 16, 3) := by decide +kernel
theorem dX3_loseIndex_8 : decode cX3_loseIndex 8 = .ok (.aload_n 0, 1) := by decide +kernel
theorem dX3_loseIndex_9 : decode cX3_loseIndex 9 = .ok (.getfield 24, 3) := by decide +kernel
theorem dX3_loseIndex_12 : decode cX3_loseIndex 12 = .ok (.iload_n 1, 1) := by decide +kernel
theorem dX3_loseIndex_13 : decode cX3_loseIndex 13 = .ok (.iconst (-1), 1) := by decide +kernel
theorem dX3_loseIndex_14 : decode cX3_loseIndex 14 = .ok (.iastore, 1) := by decide +kernel
theorem dX3_loseIndex_15 : decode cX3_loseIndex 15 = .ok (.iinc 1 1, 3) := by decide +kernel
theorem dX3_loseIndex_18 : decode cX3_loseIndex 18 = .ok (.goto (-16), 3) := by decide +kernel
theorem dX3_loseIndex_21 : decode cX3_loseIndex 21 = .ok (.return_, 1) := by decide +kernel
theorem dX3_indexed_0 : decode cX3_indexed 0 = .ok (.iconst 0, 1) := by decide +kernel
theorem dX3_indexed_1 : decode cX3_indexed 1 = .ok (.istore_n 1, 1) := by decide +kernel
theorem dX3_indexed_2 : decode cX3_indexed 2 = .ok (.iconst 0, 1) := by decide +kernel
theorem dX3_indexed_3 : decode cX3_indexed 3 = .ok (.istore_n 2, 1) := by decide +kernel
theorem dX3_indexed_4 : decode cX3_indexed 4 = .ok (.iload_n 2, 1) := by decide +kernel
theorem dX3_indexed_5 : decode cX3_indexed 5 = .ok (.bipush 32, 2) := by decide +kernel
theorem dX3_indexed_7 : decode cX3_indexed 7 = .ok (.if_icmp .ge 27, 3) := by decide +kernel
theorem dX3_indexed_10 : decode cX3_indexed 10 = .ok (.iload_n 1, 1) := by decide +kernel
theorem dX3_indexed_11 : decode cX3_indexed 11 = .ok (.aload_n 0, 1) := by decide +kernel
theorem dX3_indexed_12 : decode cX3_indexed 12 = .ok (.getfield 24, 3) := by decide +kernel
theorem dX3_indexed_15 : decode cX3_indexed 15 = .ok (.iload_n 2, 1) := by decide +kernel
theorem dX3_indexed_16 : decode cX3_indexed 16 = .ok (.iaload, 1) := by decide +kernel
theorem dX3_indexed_17 : decode cX3_indexed 17 = .ok (.iconst (-1), 1) := by decide +kernel
theorem dX3_indexed_18 : decode cX3_indexed 18 = .ok (.if_icmp .ne 7, 3) := by decide +kernel
theorem dX3_indexed_21 : decode cX3_indexed 21 = .ok (.iconst 0, 1) := by decide +kernel
theorem dX3_indexed_22 : decode cX3_indexed 22 = .ok (.goto 4, 3) := by decide +kernel
theorem dX3_indexed_25 : decode cX3_indexed 25 = .ok (.iconst 1, 1) := by decide +kernel
theorem dX3_indexed_26 : decode cX3_indexed 26 = .ok (.iadd, 1) := by decide +kernel
theorem dX3_indexed_27 : decode cX3_indexed 27 = .ok (.istore_n 1, 1) := by decide +kernel
theorem dX3_indexed_28 : decode cX3_indexed 28 = .ok (.iinc 2 1, 3) := by decide +kernel
theorem dX3_indexed_31 : decode cX3_indexed 31 = .ok (.goto (-27), 3) := by decide +kernel
theorem dX3_indexed_34 : decode cX3_indexed 34 = .ok (.iload_n 1, 1) := by decide +kernel
theorem dX3_indexed_35 : decode cX3_indexed 35 = .ok (.ireturn, 1) := by decide +kernel
set_option maxRecDepth 20000 in
theorem ggX3_append_X3_nextSlot : GoodIn wsX3_append wsX3_nextSlot := goodIn_ca (goodIn_r _ [8, 9, 10, 11, 12, 7, 13, 3, 1, 14, 28, 29, 30, 31, 32] (by decide +kernel) (by decide +kernel)) (goodIn_sub (fun _ h => List.mem_cons_of_mem _ (List.mem_append_right _ h)) (by decide +kernel))
set_option maxRecDepth 20000 in
theorem gX3_append_X3_nextSlot : GoodIn wsX3_append (wsV RX3 37 RX3 yX3_nextSlot wsX3_nextSlot) := goodIn_app (goodIn_of _ (by decide +kernel)) ggX3_append_X3_nextSlot
set_option maxRecDepth 20000 in
theorem ggX3_append_X2_take : GoodIn wsX3_append wsX2_take := goodIn_ca (goodIn_r _ [19, 20, 21, 22, 23, 24, 25, 26, 18, 27, 33, 34, 35, 36] (by decide +kernel) (by decide +kernel)) (goodIn_sub (fun _ h => List.mem_cons_of_mem _ (List.mem_append_right _ h)) (by decide +kernel))
set_option maxRecDepth 20000 in
theorem gX3_append_X2_take : GoodIn wsX3_append (wsV RX3 41 RX2 yX2_take wsX2_take) := goodIn_app (goodIn_of _ (by decide +kernel)) ggX3_append_X2_take
theorem dX3_append_0 : decode cX3_append 0 = .ok (.aload_n 0, 1) := by decide +kernel
theorem dX3_append_1 : decode cX3_append 1 = .ok (.invokevirtual 37, 3) := by decide +kernel
theorem dX3_append_4 : decode cX3_append 4 = .ok (.istore_n 3, 1) := by decide +kernel
theorem dX3_append_5 : decode cX3_append 5 = .ok (.aload_n 0, 1) := by decide +kernel
theorem dX3_append_6 : decode cX3_append 6 = .ok (.getfield 20, 3) := by decide +kernel
theorem dX3_append_9 : decode cX3_append 9 = .ok (.iload_n 3, 1) := by decide +kernel
theorem dX3_append_10 : decode cX3_append 10 = .ok (.iload_n 1, 1) := by decide +kernel
theorem dX3_append_11 : decode cX3_append 11 = .ok (.iastore, 1) := by decide +kernel
theorem dX3_append_12 : decode cX3_append 12 = .ok (.aload_n 0, 1) := by decide +kernel
theorem dX3_append_13 : decode cX3_append 13 = .ok (.getfield 14, 3) := by decide +kernel
theorem dX3_append_16 : decode cX3_append 16 = .ok (.iload_n 3, 1) := by decide +kernel
theorem dX3_append_17 : decode cX3_append 17 = .ok (.aload_n 2, 1) := by decide +kernel
theorem dX3_append_18 : decode cX3_append 18 = .ok (.iload_n 1, 1) := by decide +kernel
theorem dX3_append_19 : decode cX3_append 19 = .ok (.invokevirtual 41, 3) := by decide +kernel
theorem dX3_append_22 : decode cX3_append 22 = .ok (.aload_n 0, 1) := by decide +kernel
theorem dX3_append_23 : decode cX3_append 23 = .ok (.getfield 24, 3) := by decide +kernel
theorem dX3_append_26 : decode cX3_append 26 = .ok (.iload_n 1, 1) := by decide +kernel
theorem dX3_append_27 : decode cX3_append 27 = .ok (.iload_n 3, 1) := by decide +kernel
theorem dX3_append_28 : decode cX3_append 28 = .ok (.iastore, 1) := by decide +kernel
theorem dX3_append_29 : decode cX3_append 29 = .ok (.return_, 1) := by decide +kernel
set_option maxRecDepth 20000 in
theorem ggX3_takeOut_X3_nextSlot : GoodIn wsX3_takeOut wsX3_nextSlot := goodIn_ca (goodIn_r _ [7, 8, 9, 10, 11, 6, 12, 1, 2, 13, 14, 15, 16, 17, 18] (by decide +kernel) (by decide +kernel)) (goodIn_sub (fun _ h => List.mem_cons_of_mem _ (List.mem_append_right _ h)) (by decide +kernel))
set_option maxRecDepth 20000 in
theorem gX3_takeOut_X3_nextSlot : GoodIn wsX3_takeOut (wsV RX3 37 RX3 yX3_nextSlot wsX3_nextSlot) := goodIn_app (goodIn_of _ (by decide +kernel)) ggX3_takeOut_X3_nextSlot
theorem dX3_takeOut_0 : decode cX3_takeOut 0 = .ok (.aload_n 0, 1) := by decide +kernel
theorem dX3_takeOut_1 : decode cX3_takeOut 1 = .ok (.getfield 24, 3) := by decide +kernel
theorem dX3_takeOut_4 : decode cX3_takeOut 4 = .ok (.iload_n 1, 1) := by decide +kernel
theorem dX3_takeOut_5 : decode cX3_takeOut 5 = .ok (.iaload, 1) := by decide +kernel
theorem dX3_takeOut_6 : decode cX3_takeOut 6 = .ok (.iconst (-1), 1) := by decide +kernel
theorem dX3_takeOut_7 : decode cX3_takeOut 7 = .ok (.if_icmp .eq 23, 3) := by decide +kernel
theorem dX3_takeOut_10 : decode cX3_takeOut 10 = .ok (.aload_n 0, 1) := by decide +kernel
theorem dX3_takeOut_11 : decode cX3_takeOut 11 = .ok (.getfield 20, 3) := by decide +kernel
theorem dX3_takeOut_14 : decode cX3_takeOut 14 = .ok (.aload_n 0, 1) := by decide +kernel
theorem dX3_takeOut_15 : decode cX3_takeOut 15 = .ok (.invokevirtual 37, 3) := by decide +kernel
theorem dX3_takeOut_18 : decode cX3_takeOut 18 = .ok (.bipush 100, 2) := by decide +kernel
theorem dX3_takeOut_20 : decode cX3_takeOut 20 = .ok (.iload_n 1, 1) := by decide +kernel
theorem dX3_takeOut_21 : decode cX3_takeOut 21 = .ok (.iadd, 1) := by decide +kernel
theorem dX3_takeOut_22 : decode cX3_takeOut 22 = .ok (.iastore, 1) := by decide +kernel
theorem dX3_takeOut_23 : decode cX3_takeOut 23 = .ok (.aload_n 0, 1) := by decide +kernel
theorem dX3_takeOut_24 : decode cX3_takeOut 24 = .ok (.getfield 24, 3) := by decide +kernel
theorem dX3_takeOut_27 : decode cX3_takeOut 27 = .ok (.iload_n 1, 1) := by decide +kernel
theorem dX3_takeOut_28 : decode cX3_takeOut 28 = .ok (.iconst (-1), 1) := by decide +kernel
theorem dX3_takeOut_29 : decode cX3_takeOut 29 = .ok (.iastore, 1) := by decide +kernel
theorem dX3_takeOut_30 : decode cX3_takeOut 30 = .ok (.return_, 1) := by decide +kernel
set_option maxRecDepth 20000 in
theorem ggX3_nextSlot_X3_beginAnew : GoodIn wsX3_nextSlot wsX3_beginAnew := goodIn_ca (goodIn_r _ [6, 7, 8, 9, 10, 11, 12, 13, 14] (by decide +kernel) (by decide +kernel)) (goodIn_sub (fun _ h => List.mem_cons_of_mem _ (List.mem_append_right _ h)) (by decide +kernel))
set_option maxRecDepth 20000 in
theorem gX3_nextSlot_X3_beginAnew : GoodIn wsX3_nextSlot (wsV RX3 45 RX3 yX3_beginAnew wsX3_beginAnew) := goodIn_app (goodIn_of _ (by decide +kernel)) ggX3_nextSlot_X3_beginAnew
theorem dX3_nextSlot_0 : decode cX3_nextSlot 0 = .ok (.aload_n 0, 1) := by decide +kernel
theorem dX3_nextSlot_1 : decode cX3_nextSlot 1 = .ok (.getfield 30, 3) := by decide +kernel
theorem dX3_nextSlot_4 : decode cX3_nextSlot 4 = .ok (.istore_n 1, 1) := by decide +kernel
theorem dX3_nextSlot_5 : decode cX3_nextSlot 5 = .ok (.iload_n 1, 1) := by decide +kernel
theorem dX3_nextSlot_6 : decode cX3_nextSlot 6 = .ok (.iconst 4, 1) := by decide +kernel
theorem dX3_nextSlot_7 : decode cX3_nextSlot 7 = .ok (.irem, 1) := by decide +kernel
theorem dX3_nextSlot_8 : decode cX3_nextSlot 8 = .ok (.ifCond .ne 10, 3) := by decide +kernel
theorem dX3_nextSlot_11 : decode cX3_nextSlot 11 = .ok (.aload_n 0, 1) := by decide +kernel
theorem dX3_nextSlot_12 : decode cX3_nextSlot 12 = .ok (.iload_n 1, 1) := by decide +kernel
theorem dX3_nextSlot_13 : decode cX3_nextSlot 13 = .ok (.iconst 4, 1) := by decide +kernel
theorem dX3_nextSlot_14 : decode cX3_nextSlot 14 = .ok (.idiv, 1) := by decide +kernel
theorem dX3_nextSlot_15 : decode cX3_nextSlot 15 = .ok (.invokevirtual 45, 3) := by decide +kernel
theorem dX3_nextSlot_18 : decode cX3_nextSlot 18 = .ok (.aload_n 0, 1) := by decide +kernel
theorem dX3_nextSlot_19 : decode cX3_nextSlot 19 = .ok (.iload_n 1, 1) := by decide +kernel
theorem dX3_nextSlot_20 : decode cX3_nextSlot 20 = .ok (.iconst 1, 1) := by decide +kernel
theorem dX3_nextSlot_21 : decode cX3_nextSlot 21 = .ok (.iadd, 1) := by decide +kernel
theorem dX3_nextSlot_22 : decode cX3_nextSlot 22 = .ok (.bipush 16, 2) := by decide +kernel
theorem dX3_nextSlot_24 : decode cX3_nextSlot 24 = .ok (.irem, 1) := by decide +kernel
theorem dX3_nextSlot_25 : decode cX3_nextSlot 25 = .ok (.putfield 30, 3) := by decide +kernel
theorem dX3_nextSlot_28 : decode cX3_nextSlot 28 = .ok (.iload_n 1, 1) := by decide +kernel
theorem dX3_nextSlot_29 : decode cX3_nextSlot 29 = .ok (.ireturn, 1) := by decide +kernel
theorem dX3_beginAnew_0 : decode cX3_beginAnew 0 = .ok (.iload_n 1, 1) := by decide +kernel
theorem dX3_beginAnew_1 : decode cX3_beginAnew 1 = .ok (.iconst 4, 1) := by decide +kernel
theorem dX3_beginAnew_2 : decode cX3_beginAnew 2 = .ok (.imul, 1) := by decide +kernel
theorem dX3_beginAnew_3 : decode cX3_beginAnew 3 = .ok (.istore_n 2, 1) := by decide +kernel
theorem dX3_beginAnew_4 : decode cX3_beginAnew 4 = .ok (.iconst 0, 1) := by decide +kernel
theorem dX3_beginAnew_5 : decode cX3_beginAnew 5 = .ok (.istore_n 3, 1) := by decide +kernel
theorem dX3_beginAnew_6 : decode cX3_beginAnew 6 = .ok (.iload_n 3, 1) := by decide +kernel
theorem dX3_beginAnew_7 : decode cX3_beginAnew 7 = .ok (.bipush 32, 2) := by decide +kernel
theorem dX3_beginAnew_9 : decode cX3_beginAnew 9 = .ok (.if_icmp .ge 38, 3) := by decide +kernel
theorem dX3_beginAnew_12 : decode cX3_beginAnew 12 = .ok (.aload_n 0, 1) := by decide +kernel
theorem dX3_beginAnew_13 : decode cX3_beginAnew 13 = .ok (.getfield 24, 3) := by decide +kernel
theorem dX3_beginAnew_16 : decode cX3_beginAnew 16 = .ok (.iload_n 3, 1) := by decide +kernel
theorem dX3_beginAnew_17 : decode cX3_beginAnew 17 = .ok (.iaload, 1) := by decide +kernel
theorem dX3_beginAnew_18 : decode cX3_beginAnew 18 = .ok (.iload_n 2, 1) := by decide +kernel
theorem dX3_beginAnew_19 : decode cX3_beginAnew 19 = .ok (.if_icmp .lt 22, 3) := by decide +kernel
theorem dX3_beginAnew_22 : decode cX3_beginAnew 22 = .ok (.aload_n 0, 1) := by decide +kernel
theorem dX3_beginAnew_23 : decode cX3_beginAnew 23 = .ok (.getfield 24, 3) := by decide +kernel
theorem dX3_beginAnew_26 : decode cX3_beginAnew 26 = .ok (.iload_n 3, 1) := by decide +kernel
theorem dX3_beginAnew_27 : decode cX3_beginAnew 27 = .ok (.iaload, 1) := by decide +kernel
theorem dX3_beginAnew_28 : decode cX3_beginAnew 28 = .ok (.iload_n 2, 1) := by decide +kernel
theorem dX3_beginAnew_29 : decode cX3_beginAnew 29 = .ok (.iconst 4, 1) := by decide +kernel
theorem dX3_beginAnew_30 : decode cX3_beginAnew 30 = .ok (.iadd, 1) := by decide +kernel
theorem dX3_beginAnew_31 : decode cX3_beginAnew 31 = .ok (.if_icmp .ge 10, 3) := by decide +kernel
theorem dX3_beginAnew_34 : decode cX3_beginAnew 34 = .ok (.aload_n 0, 1) := by decide +kernel
theorem dX3_beginAnew_35 : decode cX3_beginAnew 35 = .ok (.getfield 24, 3) := by decide +kernel
theorem dX3_beginAnew_38 : decode cX3_beginAnew 38 = .ok (.iload_n 3, 1) := by decide +kernel
theorem dX3_beginAnew_39 : decode cX3_beginAnew 39 = .ok (.iconst (-1), 1) := by decide +kernel
theorem dX3_beginAnew_40 : decode cX3_beginAnew 40 = .ok (.iastore, 1) := by decide +kernel
theorem dX3_beginAnew_41 : decode cX3_beginAnew 41 = .ok (.iinc 3 1, 3) := by decide +kernel
theorem dX3_beginAnew_44 : decode cX3_beginAnew 44 = .ok (.goto (-38), 3) := by decide +kernel
theorem dX3_beginAnew_47 : decode cX3_beginAnew 47 = .ok (.iload_n 2, 1) := by decide +kernel
theorem dX3_beginAnew_48 : decode cX3_beginAnew 48 = .ok (.istore_n 3, 1) := by decide +kernel
theorem dX3_beginAnew_49 : decode cX3_beginAnew 49 = .ok (.iload_n 3, 1) := by decide +kernel
theorem dX3_beginAnew_50 : decode cX3_beginAnew 50 = .ok (.iload_n 2, 1) := by decide +kernel
theorem dX3_beginAnew_51 : decode cX3_beginAnew 51 = .ok (.iconst 4, 1) := by decide +kernel
theorem dX3_beginAnew_52 : decode cX3_beginAnew 52 = .ok (.iadd, 1) := by decide +kernel
theorem dX3_beginAnew_53 : decode cX3_beginAnew 53 = .ok (.if_icmp .ge 16, 3) := by decide +kernel
theorem dX3_beginAnew_56 : decode cX3_beginAnew 56 = .ok (.aload_n 0, 1) := by decide +kernel
theorem dX3_beginAnew_57 : decode cX3_beginAnew 57 = .ok (.getfield 20, 3) := by decide +kernel
theorem dX3_beginAnew_60 : decode cX3_beginAnew 60 = .ok (.iload_n 3, 1) := by decide +kernel
theorem dX3_beginAnew_61 : decode cX3_beginAnew 61 = .ok (.iconst (-1), 1) := by decide +kernel
theorem dX3_beginAnew_62 : decode cX3_beginAnew 62 = .ok (.iastore, 1) := by decide +kernel
theorem dX3_beginAnew_63 : decode cX3_beginAnew 63 = .ok (.iinc 3 1, 3) := by decide +kernel
theorem dX3_beginAnew_66 : decode cX3_beginAnew 66 = .ok (.goto (-17), 3) := by decide +kernel
theorem dX3_beginAnew_69 : decode cX3_beginAnew 69 = .ok (.aload_n 0, 1) := by decide +kernel
theorem dX3_beginAnew_70 : decode cX3_beginAnew 70 = .ok (.getfield 27, 3) := by decide +kernel
theorem dX3_beginAnew_73 : decode cX3_beginAnew 73 = .ok (.iload_n 1, 1) := by decide +kernel
theorem dX3_beginAnew_74 : decode cX3_beginAnew 74 = .ok (.dup2, 1) := by decide +kernel
theorem dX3_beginAnew_75 : decode cX3_beginAnew 75 = .ok (.iaload, 1) := by decide +kernel
theorem dX3_beginAnew_76 : decode cX3_beginAnew 76 = .ok (.iconst 1, 1) := by decide +kernel
theorem dX3_beginAnew_77 : decode cX3_beginAnew 77 = .ok (.iadd, 1) := by decide +kernel
theorem dX3_beginAnew_78 : decode cX3_beginAnew 78 = .ok (.iastore, 1) := by decide +kernel
theorem dX3_beginAnew_79 : decode cX3_beginAnew 79 = .ok (.return_, 1) := by decide +kernel
set_option maxRecDepth 20000 in
theorem ggX3_readAgain_X4_numberFor : GoodIn wsX3_readAgain wsX4_numberFor := goodIn_ca (goodIn_r _ [10, 11, 12, 22, 23, 24, 25] (by decide +kernel) (by decide +kernel)) (goodIn_sub (fun _ h => List.mem_cons_of_mem _ (List.mem_append_right _ h)) (by decide +kernel))
set_option maxRecDepth 20000 in
theorem gX3_readAgain_X4_numberFor : GoodIn wsX3_readAgain (wsV RX3 51 RX4 yX4_numberFor wsX4_numberFor) := goodIn_app (goodIn_of _ (by decide +kernel)) ggX3_readAgain_X4_numberFor
theorem dX3_readAgain_0 : decode cX3_readAgain 0 = .ok (.iconst 0, 1) := by decide +kernel
theorem dX3_readAgain_1 : decode cX3_readAgain 1 = .ok (.istore_n 2, 1) := by decide +kernel
theorem dX3_readAgain_2 : decode cX3_readAgain 2 = .ok (.iload_n 2, 1) := by decide +kernel
theorem dX3_readAgain_3 : decode cX3_readAgain 3 = .ok (.bipush 16, 2) := by decide +kernel
theorem dX3_readAgain_5 : decode cX3_readAgain 5 = .ok (.if_icmp .ge 84, 3) := by decide +kernel
theorem dX3_readAgain_8 : decode cX3_readAgain 8 = .ok (.aload_n 0, 1) := by decide +kernel
theorem dX3_readAgain_9 : decode cX3_readAgain 9 = .ok (.getfield 30, 3) := by decide +kernel
theorem dX3_readAgain_12 : decode cX3_readAgain 12 = .ok (.iload_n 2, 1) := by decide +kernel
theorem dX3_readAgain_13 : decode cX3_readAgain 13 = .ok (.iadd, 1) := by decide +kernel
theorem dX3_readAgain_14 : decode cX3_readAgain 14 = .ok (.bipush 16, 2) := by decide +kernel
theorem dX3_readAgain_16 : decode cX3_readAgain 16 = .ok (.irem, 1) := by decide +kernel
theorem dX3_readAgain_17 : decode cX3_readAgain 17 = .ok (.istore_n 3, 1) := by decide +kernel
theorem dX3_readAgain_18 : decode cX3_readAgain 18 = .ok (.aload_n 0, 1) := by decide +kernel
theorem dX3_readAgain_19 : decode cX3_readAgain 19 = .ok (.getfield 20, 3) := by decide +kernel
theorem dX3_readAgain_22 : decode cX3_readAgain 22 = .ok (.iload_n 3, 1) := by decide +kernel
theorem dX3_readAgain_23 : decode cX3_readAgain 23 = .ok (.iaload, 1) := by decide +kernel
theorem dX3_readAgain_24 : decode cX3_readAgain 24 = .ok (.istore 4, 2) := by decide +kernel
theorem dX3_readAgain_26 : decode cX3_readAgain 26 = .ok (.iload 4, 2) := by decide +kernel
theorem dX3_readAgain_28 : decode cX3_readAgain 28 = .ok (.bipush 100, 2) := by decide +kernel
theorem dX3_readAgain_30 : decode cX3_readAgain 30 = .ok (.if_icmp .lt 17, 3) := by decide +kernel
theorem dX3_readAgain_33 : decode cX3_readAgain 33 = .ok (.aload_n 0, 1) := by decide +kernel
theorem dX3_readAgain_34 : decode cX3_readAgain 34 = .ok (.getfield 24, 3) := by decide +kernel
theorem dX3_readAgain_37 : decode cX3_readAgain 37 = .ok (.iload 4, 2) := by decide +kernel
theorem dX3_readAgain_39 : decode cX3_readAgain 39 = .ok (.bipush 100, 2) := by decide +kernel
theorem dX3_readAgain_41 : decode cX3_readAgain 41 = .ok (.isub, 1) := by decide +kernel
theorem dX3_readAgain_42 : decode cX3_readAgain 42 = .ok (.iconst (-1), 1) := by decide +kernel
theorem dX3_readAgain_43 : decode cX3_readAgain 43 = .ok (.iastore, 1) := by decide +kernel
theorem dX3_readAgain_44 : decode cX3_readAgain 44 = .ok (.goto 39, 3) := by decide +kernel
theorem dX3_readAgain_47 : decode cX3_readAgain 47 = .ok (.iload 4, 2) := by decide +kernel
theorem dX3_readAgain_49 : decode cX3_readAgain 49 = .ok (.iconst (-1), 1) := by decide +kernel
theorem dX3_readAgain_50 : decode cX3_readAgain 50 = .ok (.if_icmp .eq 33, 3) := by decide +kernel
theorem dX3_readAgain_53 : decode cX3_readAgain 53 = .ok (.aload_n 0, 1) := by decide +kernel
theorem dX3_readAgain_54 : decode cX3_readAgain 54 = .ok (.getfield 24, 3) := by decide +kernel
theorem dX3_readAgain_57 : decode cX3_readAgain 57 = .ok (.iload 4, 2) := by decide +kernel
theorem dX3_readAgain_59 : decode cX3_readAgain 59 = .ok (.aload_n 0, 1) := by decide +kernel
theorem dX3_readAgain_60 : decode cX3_readAgain 60 = .ok (.getfield 14, 3) := by decide +kernel
theorem dX3_readAgain_63 : decode cX3_readAgain 63 = .ok (.getfield 48, 3) := by decide +kernel
theorem dX3_readAgain_66 : decode cX3_readAgain 66 = .ok (.iload_n 3, 1) := by decide +kernel
theorem dX3_readAgain_67 : decode cX3_readAgain 67 = .ok (.iaload, 1) := by decide +kernel
theorem dX3_readAgain_68 : decode cX3_readAgain 68 = .ok (.aload_n 1, 1) := by decide +kernel
theorem dX3_readAgain_69 : decode cX3_readAgain 69 = .ok (.iload 4, 2) := by decide +kernel
theorem dX3_readAgain_71 : decode cX3_readAgain 71 = .ok (.invokevirtual 51, 3) := by decide +kernel
theorem dX3_readAgain_74 : decode cX3_readAgain 74 = .ok (.if_icmp .ne 7, 3) := by decide +kernel
theorem dX3_readAgain_77 : decode cX3_readAgain 77 = .ok (.iload_n 3, 1) := by decide +kernel
theorem dX3_readAgain_78 : decode cX3_readAgain 78 = .ok (.goto 4, 3) := by decide +kernel
theorem dX3_readAgain_81 : decode cX3_readAgain 81 = .ok (.iconst (-1), 1) := by decide +kernel
theorem dX3_readAgain_82 : decode cX3_readAgain 82 = .ok (.iastore, 1) := by decide +kernel
theorem dX3_readAgain_83 : decode cX3_readAgain 83 = .ok (.iinc 2 1, 3) := by decide +kernel
theorem dX3_readAgain_86 : decode cX3_readAgain 86 = .ok (.goto (-84), 3) := by decide +kernel
theorem dX3_readAgain_89 : decode cX3_readAgain 89 = .ok (.return_, 1) := by decide +kernel
theorem dX4_init_0 : decode cX4_init 0 = .ok (.aload_n 0, 1) := by decide +kernel
theorem dX4_init_1 : decode cX4_init 1 = .ok (.invokespecial 3, 3) := by decide +kernel
theorem dX4_init_4 : decode cX4_init 4 = .ok (.aload_n 0, 1) := by decide +kernel
theorem dX4_init_5 : decode cX4_init 5 = .ok (.bipush 32, 2) := by decide +kernel
theorem dX4_init_7 : decode cX4_init 7 = .ok (.newarray .int, 2) := by decide +kernel
theorem dX4_init_9 : decode cX4_init 9 = .ok (.putfield 9, 3) := by decide +kernel
theorem dX4_init_12 : decode cX4_init 12 = .ok (.aload_n 0, 1) := by decide +kernel
theorem dX4_init_13 : decode cX4_init 13 = .ok (.bipush 32, 2) := by decide +kernel
theorem dX4_init_15 : decode cX4_init 15 = .ok (.newarray .int, 2) := by decide +kernel
theorem dX4_init_17 : decode cX4_init 17 = .ok (.putfield 15, 3) := by decide +kernel
theorem dX4_init_20 : decode cX4_init 20 = .ok (.aload_n 0, 1) := by decide +kernel
theorem dX4_init_21 : decode cX4_init 21 = .ok (.bipush 32, 2) := by decide +kernel
theorem dX4_init_23 : decode cX4_init 23 = .ok (.newarray .int, 2) := by decide +kernel
theorem dX4_init_25 : decode cX4_init 25 = .ok (.putfield 18, 3) := by decide +kernel
theorem dX4_init_28 : decode cX4_init 28 = .ok (.aload_n 0, 1) := by decide +kernel
theorem dX4_init_29 : decode cX4_init 29 = .ok (.iconst 4, 1) := by decide +kernel
theorem dX4_init_30 : decode cX4_init 30 = .ok (.newarray .int, 2) := by decide +kernel
theorem dX4_init_32 : decode cX4_init 32 = .ok (.putfield 21, 3) := by decide +kernel
theorem dX4_init_35 : decode cX4_init 35 = .ok (.iconst 0, 1) := by decide +kernel
theorem dX4_init_36 : decode cX4_init 36 = .ok (.istore_n 1, 1) := by decide +kernel
theorem dX4_init_37 : decode cX4_init 37 = .ok (.iload_n 1, 1) := by decide +kernel
theorem dX4_init_38 : decode cX4_init 38 = .ok (.bipush 32, 2) := by decide +kernel
theorem dX4_init_40 : decode cX4_init 40 = .ok (.if_icmp .ge 23, 3) := by decide +kernel
theorem dX4_init_43 : decode cX4_init 43 = .ok (.aload_n 0, 1) := by decide +kernel
theorem dX4_init_44 : decode cX4_init 44 = .ok (.getfield 9, 3) := by decide +kernel
theorem dX4_init_47 : decode cX4_init 47 = .ok (.iload_n 1, 1) := by decide +kernel
theorem dX4_init_48 : decode cX4_init 48 = .ok (.iconst 1, 1) := by decide +kernel
theorem dX4_init_49 : decode cX4_init 49 = .ok (.iastore, 1) := by decide +kernel
theorem dX4_init_50 : decode cX4_init 50 = .ok (.aload_n 0, 1) := by decide +kernel
theorem dX4_init_51 : decode cX4_init 51 = .ok (.getfield 15, 3) := by decide +kernel
theorem dX4_init_54 : decode cX4_init 54 = .ok (.iload_n 1, 1) := by decide +kernel
theorem dX4_init_55 : decode cX4_init 55 = .ok (.iconst 1, 1) := by decide +kernel
theorem dX4_init_56 : decode cX4_init 56 = .ok (.iastore, 1) := by decide +kernel
theorem dX4_init_57 : decode cX4_init 57 = .ok (.iinc 1 1, 3) := by decide +kernel
theorem dX4_init_60 : decode cX4_init 60 = .ok (.goto (-23), 3) := by decide +kernel
theorem dX4_init_63 : decode cX4_init 63 = .ok (.return_, 1) := by decide +kernel
theorem dX4_numberFor_0 : decode cX4_numberFor 0 = .ok (.aload_n 0, 1) := by decide +kernel
theorem dX4_numberFor_1 : decode cX4_numberFor 1 = .ok (.getfield 21, 3) := by decide +kernel
theorem dX4_numberFor_4 : decode cX4_numberFor 4 = .ok (.aload_n 0, 1) := by decide +kernel
theorem dX4_numberFor_5 : decode cX4_numberFor 5 = .ok (.getfield 18, 3) := by decide +kernel
theorem dX4_numberFor_8 : decode cX4_numberFor 8 = .ok (.iload_n 1, 1) := by decide +kernel
theorem dX4_numberFor_9 : decode cX4_numberFor 9 = .ok (.iaload, 1) := by decide +kernel
theorem dX4_numberFor_10 : decode cX4_numberFor 10 = .ok (.iaload, 1) := by decide +kernel
theorem dX4_numberFor_11 : decode cX4_numberFor 11 = .ok (.ireturn, 1) := by decide +kernel
set_option maxRecDepth 20000 in
theorem ggX5_init_X2_init : GoodIn wsX5_init wsX2_init := goodIn_r _ [19, 20, 2, 3, 8, 21, 22, 23, 24, 25, 26, 27, 28] (by decide +kernel) (by decide +kernel)
set_option maxRecDepth 20000 in
theorem gX5_init_X2_init : GoodIn wsX5_init (wsX2_init) := ggX5_init_X2_init
theorem dX5_init_0 : decode cX5_init 0 = .ok (.aload_n 0, 1) := by decide +kernel
theorem dX5_init_1 : decode cX5_init 1 = .ok (.invokespecial 3, 3) := by decide +kernel
theorem dX5_init_4 : decode cX5_init 4 = .ok (.aload_n 0, 1) := by decide +kernel
theorem dX5_init_5 : decode cX5_init 5 = .ok (.new 9, 3) := by decide +kernel
theorem dX5_init_8 : decode cX5_init 8 = .ok (.dup, 1) := by decide +kernel
theorem dX5_init_9 : decode cX5_init 9 = .ok (.bipush 60, 2) := by decide +kernel
theorem dX5_init_11 : decode cX5_init 11 = .ok (.invokespecial 11, 3) := by decide +kernel
theorem dX5_init_14 : decode cX5_init 14 = .ok (.putfield 14, 3) := by decide +kernel
theorem dX5_init_17 : decode cX5_init 17 = .ok (.aload_n 0, 1) := by decide +kernel
theorem dX5_init_18 : decode cX5_init 18 = .ok (.bipush 60, 2) := by decide +kernel
theorem dX5_init_20 : decode cX5_init 20 = .ok (.newarray .int, 2) := by decide +kernel
theorem dX5_init_22 : decode cX5_init 22 = .ok (.putfield 20, 3) := by decide +kernel
theorem dX5_init_25 : decode cX5_init 25 = .ok (.aload_n 0, 1) := by decide +kernel
theorem dX5_init_26 : decode cX5_init 26 = .ok (.bipush 60, 2) := by decide +kernel
theorem dX5_init_28 : decode cX5_init 28 = .ok (.newarray .int, 2) := by decide +kernel
theorem dX5_init_30 : decode cX5_init 30 = .ok (.putfield 24, 3) := by decide +kernel
theorem dX5_init_33 : decode cX5_init 33 = .ok (.aload_n 0, 1) := by decide +kernel
theorem dX5_init_34 : decode cX5_init 34 = .ok (.bipush 60, 2) := by decide +kernel
theorem dX5_init_36 : decode cX5_init 36 = .ok (.newarray .boolean, 2) := by decide +kernel
theorem dX5_init_38 : decode cX5_init 38 = .ok (.putfield 27, 3) := by decide +kernel
theorem dX5_init_41 : decode cX5_init 41 = .ok (.aload_n 0, 1) := by decide +kernel
theorem dX5_init_42 : decode cX5_init 42 = .ok (.bipush 60, 2) := by decide +kernel
theorem dX5_init_44 : decode cX5_init 44 = .ok (.newarray .char, 2) := by decide +kernel
theorem dX5_init_46 : decode cX5_init 46 = .ok (.putfield 31, 3) := by decide +kernel
theorem dX5_init_49 : decode cX5_init 49 = .ok (.aload_n 0, 1) := by decide +kernel
theorem dX5_init_50 : decode cX5_init 50 = .ok (.iconst 0, 1) := by decide +kernel
theorem dX5_init_51 : decode cX5_init 51 = .ok (.putfield 35, 3) := by decide +kernel
theorem dX5_init_54 : decode cX5_init 54 = .ok (.aload_n 0, 1) := by decide +kernel
theorem dX5_init_55 : decode cX5_init 55 = .ok (.lconst 0, 1) := by decide +kernel
theorem dX5_init_56 : decode cX5_init 56 = .ok (.putfield 39, 3) := by decide +kernel
theorem dX5_init_59 : decode cX5_init 59 = .ok (.return_, 1) := by decide +kernel
theorem dX5_give_0 : decode cX5_give 0 = .ok (.aload_n 0, 1) := by decide +kernel
theorem dX5_give_1 : decode cX5_give 1 = .ok (.getfield 35, 3) := by decide +kernel
theorem dX5_give_4 : decode cX5_give 4 = .ok (.bipush 60, 2) := by decide +kernel
theorem dX5_give_6 : decode cX5_give 6 = .ok (.if_icmp .ge 55, 3) := by decide +kernel
theorem dX5_give_9 : decode cX5_give 9 = .ok (.aload_n 0, 1) := by decide +kernel
theorem dX5_give_10 : decode cX5_give 10 = .ok (.getfield 20, 3) := by decide +kernel
theorem dX5_give_13 : decode cX5_give 13 = .ok (.aload_n 0, 1) := by decide +kernel
theorem dX5_give_14 : decode cX5_give 14 = .ok (.getfield 35, 3) := by decide +kernel
theorem dX5_give_17 : decode cX5_give 17 = .ok (.iload_n 1, 1) := by decide +kernel
theorem dX5_give_18 : decode cX5_give 18 = .ok (.iastore, 1) := by decide +kernel
theorem dX5_give_19 : decode cX5_give 19 = .ok (.aload_n 0, 1) := by decide +kernel
theorem dX5_give_20 : decode cX5_give 20 = .ok (.getfield 24, 3) := by decide +kernel
theorem dX5_give_23 : decode cX5_give 23 = .ok (.aload_n 0, 1) := by decide +kernel
theorem dX5_give_24 : decode cX5_give 24 = .ok (.getfield 35, 3) := by decide +kernel
theorem dX5_give_27 : decode cX5_give 27 = .ok (.iload_n 2, 1) := by decide +kernel
theorem dX5_give_28 : decode cX5_give 28 = .ok (.iastore, 1) := by decide +kernel
theorem dX5_give_29 : decode cX5_give 29 = .ok (.aload_n 0, 1) := by decide +kernel
theorem dX5_give_30 : decode cX5_give 30 = .ok (.getfield 31, 3) := by decide +kernel
theorem dX5_give_33 : decode cX5_give 33 = .ok (.aload_n 0, 1) := by decide +kernel
theorem dX5_give_34 : decode cX5_give 34 = .ok (.getfield 35, 3) := by decide +kernel
theorem dX5_give_37 : decode cX5_give 37 = .ok (.bipush 111, 2) := by decide +kernel
theorem dX5_give_39 : decode cX5_give 39 = .ok (.castore, 1) := by decide +kernel
theorem dX5_give_40 : decode cX5_give 40 = .ok (.aload_n 0, 1) := by decide +kernel
theorem dX5_give_41 : decode cX5_give 41 = .ok (.dup, 1) := by decide +kernel
theorem dX5_give_42 : decode cX5_give 42 = .ok (.getfield 35, 3) := by decide +kernel
theorem dX5_give_45 : decode cX5_give 45 = .ok (.iconst 1, 1) := by decide +kernel
theorem dX5_give_46 : decode cX5_give 46 = .ok (.iadd, 1) := by decide +kernel
theorem dX5_give_47 : decode cX5_give 47 = .ok (.putfield 35, 3) := by decide +kernel
theorem dX5_give_50 : decode cX5_give 50 = .ok (.aload_n 0, 1) := by decide +kernel
theorem dX5_give_51 : decode cX5_give 51 = .ok (.dup, 1) := by decide +kernel
theorem dX5_give_52 : decode cX5_give 52 = .ok (.getfield 39, 3) := by decide +kernel
theorem dX5_give_55 : decode cX5_give 55 = .ok (.iload_n 3, 1) := by decide +kernel
theorem dX5_give_56 : decode cX5_give 56 = .ok (.i2l, 1) := by decide +kernel
theorem dX5_give_57 : decode cX5_give 57 = .ok (.ladd, 1) := by decide +kernel
theorem dX5_give_58 : decode cX5_give 58 = .ok (.putfield 39, 3) := by decide +kernel
theorem dX5_give_61 : decode cX5_give 61 = .ok (.return_, 1) := by decide +kernel
theorem dX5_stateOf_0 : decode cX5_stateOf 0 = .ok (.aload_n 0, 1) := by decide +kernel
theorem dX5_stateOf_1 : decode cX5_stateOf 1 = .ok (.getfield 31, 3) := by decide +kernel
theorem dX5_stateOf_4 : decode cX5_stateOf 4 = .ok (.iload_n 1, 1) := by decide +kernel
theorem dX5_stateOf_5 : decode cX5_stateOf 5 = .ok (.caload, 1) := by decide +kernel
theorem dX5_stateOf_6 : decode cX5_stateOf 6 = .ok (.bipush 111, 2) := by decide +kernel
theorem dX5_stateOf_8 : decode cX5_stateOf 8 = .ok (.if_icmp .eq 10, 3) := by decide +kernel
theorem dX5_stateOf_11 : decode cX5_stateOf 11 = .ok (.aload_n 0, 1) := by decide +kernel
theorem dX5_stateOf_12 : decode cX5_stateOf 12 = .ok (.getfield 31, 3) := by decide +kernel
theorem dX5_stateOf_15 : decode cX5_stateOf 15 = .ok (.iload_n 1, 1) := by decide +kernel
theorem dX5_stateOf_16 : decode cX5_stateOf 16 = .ok (.caload, 1) := by decide +kernel
theorem dX5_stateOf_17 : decode cX5_stateOf 17 = .ok (.ireturn, 1) := by decide +kernel
theorem dX5_stateOf_18 : decode cX5_stateOf 18 = .ok (.iload_n 2, 1) := by decide +kernel
theorem dX5_stateOf_19 : decode cX5_stateOf 19 = .ok (.aload_n 0, 1) := by decide +kernel
theorem dX5_stateOf_20 : decode cX5_stateOf 20 = .ok (.getfield 24, 3) := by decide +kernel
theorem dX5_stateOf_23 : decode cX5_stateOf 23 = .ok (.iload_n 1, 1) := by decide +kernel
theorem dX5_stateOf_24 : decode cX5_stateOf 24 = .ok (.iaload, 1) := by decide +kernel
theorem dX5_stateOf_25 : decode cX5_stateOf 25 = .ok (.isub, 1) := by decide +kernel
theorem dX5_stateOf_26 : decode cX5_stateOf 26 = .ok (.iconst 5, 1) := by decide +kernel
theorem dX5_stateOf_27 : decode cX5_stateOf 27 = .ok (.if_icmp .le 6, 3) := by decide +kernel
theorem dX5_stateOf_30 : decode cX5_stateOf 30 = .ok (.bipush 120, 2) := by decide +kernel
theorem dX5_stateOf_32 : decode cX5_stateOf 32 = .ok (.ireturn, 1) := by decide +kernel
theorem dX5_stateOf_33 : decode cX5_stateOf 33 = .ok (.aload_n 0, 1) := by decide +kernel
theorem dX5_stateOf_34 : decode cX5_stateOf 34 = .ok (.getfield 27, 3) := by decide +kernel
theorem dX5_stateOf_37 : decode cX5_stateOf 37 = .ok (.iload_n 1, 1) := by decide +kernel
theorem dX5_stateOf_38 : decode cX5_stateOf 38 = .ok (.baload, 1) := by decide +kernel
theorem dX5_stateOf_39 : decode cX5_stateOf 39 = .ok (.ifCond .eq 8, 3) := by decide +kernel
theorem dX5_stateOf_42 : decode cX5_stateOf 42 = .ok (.bipush 114, 2) := by decide +kernel
theorem dX5_stateOf_44 : decode cX5_stateOf 44 = .ok (.goto 5, 3) := by decide +kernel
theorem dX5_stateOf_47 : decode cX5_stateOf 47 = .ok (.bipush 111, 2) := by decide +kernel
theorem dX5_stateOf_49 : decode cX5_stateOf 49 = .ok (.ireturn, 1) := by decide +kernel
set_option maxRecDepth 20000 in
theorem ggX5_isOutFor_X5_stateOf : GoodIn wsX5_isOutFor wsX5_stateOf := goodIn_ca (goodIn_r _ [8, 3, 9, 10, 11, 12, 13, 14, 15, 16, 17] (by decide +kernel) (by decide +kernel)) (goodIn_sub (fun _ h => List.mem_cons_of_mem _ (List.mem_append_right _ h)) (by decide +kernel))
set_option maxRecDepth 20000 in
theorem gX5_isOutFor_X5_stateOf : GoodIn wsX5_isOutFor (wsV RX5 43 RX5 yX5_stateOf wsX5_stateOf) := goodIn_app (goodIn_of _ (by decide +kernel)) ggX5_isOutFor_X5_stateOf
theorem dX5_isOutFor_0 : decode cX5_isOutFor 0 = .ok (.iconst 0, 1) := by decide +kernel
theorem dX5_isOutFor_1 : decode cX5_isOutFor 1 = .ok (.istore_n 3, 1) := by decide +kernel
theorem dX5_isOutFor_2 : decode cX5_isOutFor 2 = .ok (.iload_n 3, 1) := by decide +kernel
theorem dX5_isOutFor_3 : decode cX5_isOutFor 3 = .ok (.aload_n 0, 1) := by decide +kernel
theorem dX5_isOutFor_4 : decode cX5_isOutFor 4 = .ok (.getfield 35, 3) := by decide +kernel
theorem dX5_isOutFor_7 : decode cX5_isOutFor 7 = .ok (.if_icmp .ge 43, 3) := by decide +kernel
theorem dX5_isOutFor_10 : decode cX5_isOutFor 10 = .ok (.aload_n 0, 1) := by decide +kernel
theorem dX5_isOutFor_11 : decode cX5_isOutFor 11 = .ok (.getfield 20, 3) := by decide +kernel
theorem dX5_isOutFor_14 : decode cX5_isOutFor 14 = .ok (.iload_n 3, 1) := by decide +kernel
theorem dX5_isOutFor_15 : decode cX5_isOutFor 15 = .ok (.iaload, 1) := by decide +kernel
theorem dX5_isOutFor_16 : decode cX5_isOutFor 16 = .ok (.iload_n 1, 1) := by decide +kernel
theorem dX5_isOutFor_17 : decode cX5_isOutFor 17 = .ok (.if_icmp .ne 27, 3) := by decide +kernel
theorem dX5_isOutFor_20 : decode cX5_isOutFor 20 = .ok (.aload_n 0, 1) := by decide +kernel
theorem dX5_isOutFor_21 : decode cX5_isOutFor 21 = .ok (.getfield 31, 3) := by decide +kernel
theorem dX5_isOutFor_24 : decode cX5_isOutFor 24 = .ok (.iload_n 3, 1) := by decide +kernel
theorem dX5_isOutFor_25 : decode cX5_isOutFor 25 = .ok (.caload, 1) := by decide +kernel
theorem dX5_isOutFor_26 : decode cX5_isOutFor 26 = .ok (.bipush 111, 2) := by decide +kernel
theorem dX5_isOutFor_28 : decode cX5_isOutFor 28 = .ok (.if_icmp .ne 16, 3) := by decide +kernel
theorem dX5_isOutFor_31 : decode cX5_isOutFor 31 = .ok (.aload_n 0, 1) := by decide +kernel
theorem dX5_isOutFor_32 : decode cX5_isOutFor 32 = .ok (.iload_n 3, 1) := by decide +kernel
theorem dX5_isOutFor_33 : decode cX5_isOutFor 33 = .ok (.iload_n 2, 1) := by decide +kernel
theorem dX5_isOutFor_34 : decode cX5_isOutFor 34 = .ok (.invokevirtual 43, 3) := by decide +kernel
theorem dX5_isOutFor_37 : decode cX5_isOutFor 37 = .ok (.bipush 120, 2) := by decide +kernel
theorem dX5_isOutFor_39 : decode cX5_isOutFor 39 = .ok (.if_icmp .eq 5, 3) := by decide +kernel
theorem dX5_isOutFor_42 : decode cX5_isOutFor 42 = .ok (.iconst 1, 1) := by decide +kernel
theorem dX5_isOutFor_43 : decode cX5_isOutFor 43 = .ok (.ireturn, 1) := by decide +kernel
theorem dX5_isOutFor_44 : decode cX5_isOutFor 44 = .ok (.iinc 3 1, 3) := by decide +kernel
theorem dX5_isOutFor_47 : decode cX5_isOutFor 47 = .ok (.goto (-45), 3) := by decide +kernel
theorem dX5_isOutFor_50 : decode cX5_isOutFor 50 = .ok (.iconst 0, 1) := by decide +kernel
theorem dX5_isOutFor_51 : decode cX5_isOutFor 51 = .ok (.ireturn, 1) := by decide +kernel
theorem dX5_voidFor_0 : decode cX5_voidFor 0 = .ok (.iconst 0, 1) := by decide +kernel
theorem dX5_voidFor_1 : decode cX5_voidFor 1 = .ok (.istore_n 2, 1) := by decide +kernel
theorem dX5_voidFor_2 : decode cX5_voidFor 2 = .ok (.iload_n 2, 1) := by decide +kernel
theorem dX5_voidFor_3 : decode cX5_voidFor 3 = .ok (.aload_n 0, 1) := by decide +kernel
theorem dX5_voidFor_4 : decode cX5_voidFor 4 = .ok (.getfield 35, 3) := by decide +kernel
theorem dX5_voidFor_7 : decode cX5_voidFor 7 = .ok (.if_icmp .ge 38, 3) := by decide +kernel
theorem dX5_voidFor_10 : decode cX5_voidFor 10 = .ok (.aload_n 0, 1) := by decide +kernel
theorem dX5_voidFor_11 : decode cX5_voidFor 11 = .ok (.getfield 20, 3) := by decide +kernel
theorem dX5_voidFor_14 : decode cX5_voidFor 14 = .ok (.iload_n 2, 1) := by decide +kernel
theorem dX5_voidFor_15 : decode cX5_voidFor 15 = .ok (.iaload, 1) := by decide +kernel
theorem dX5_voidFor_16 : decode cX5_voidFor 16 = .ok (.iload_n 1, 1) := by decide +kernel
theorem dX5_voidFor_17 : decode cX5_voidFor 17 = .ok (.if_icmp .ne 22, 3) := by decide +kernel
theorem dX5_voidFor_20 : decode cX5_voidFor 20 = .ok (.aload_n 0, 1) := by decide +kernel
theorem dX5_voidFor_21 : decode cX5_voidFor 21 = .ok (.getfield 31, 3) := by decide +kernel
theorem dX5_voidFor_24 : decode cX5_voidFor 24 = .ok (.iload_n 2, 1) := by decide +kernel
theorem dX5_voidFor_25 : decode cX5_voidFor 25 = .ok (.caload, 1) := by decide +kernel
theorem dX5_voidFor_26 : decode cX5_voidFor 26 = .ok (.bipush 111, 2) := by decide +kernel
theorem dX5_voidFor_28 : decode cX5_voidFor 28 = .ok (.if_icmp .ne 11, 3) := by decide +kernel
theorem dX5_voidFor_31 : decode cX5_voidFor 31 = .ok (.aload_n 0, 1) := by decide +kernel
theorem dX5_voidFor_32 : decode cX5_voidFor 32 = .ok (.getfield 31, 3) := by decide +kernel
theorem dX5_voidFor_35 : decode cX5_voidFor 35 = .ok (.iload_n 2, 1) := by decide +kernel
theorem dX5_voidFor_36 : decode cX5_voidFor 36 = .ok (.bipush 120, 2) := by decide +kernel
theorem dX5_voidFor_38 : decode cX5_voidFor 38 = .ok (.castore, 1) := by decide +kernel
theorem dX5_voidFor_39 : decode cX5_voidFor 39 = .ok (.iinc 2 1, 3) := by decide +kernel
theorem dX5_voidFor_42 : decode cX5_voidFor 42 = .ok (.goto (-40), 3) := by decide +kernel
theorem dX5_voidFor_45 : decode cX5_voidFor 45 = .ok (.return_, 1) := by decide +kernel
set_option maxRecDepth 20000 in
theorem ggX5_voidAll_X5_voidFor : GoodIn wsX5_voidAll wsX5_voidFor := goodIn_ca (goodIn_r _ [5, 6, 7, 8, 9, 10, 11, 12, 13, 14, 15] (by decide +kernel) (by decide +kernel)) (goodIn_sub (fun _ h => List.mem_cons_of_mem _ (List.mem_append_right _ h)) (by decide +kernel))
set_option maxRecDepth 20000 in
theorem gX5_voidAll_X5_voidFor : GoodIn wsX5_voidAll (wsV RX5 47 RX5 yX5_voidFor wsX5_voidFor) := goodIn_app (goodIn_of _ (by decide +kernel)) ggX5_voidAll_X5_voidFor
theorem dX5_voidAll_0 : decode cX5_voidAll 0 = .ok (.iconst 0, 1) := by decide +kernel
theorem dX5_voidAll_1 : decode cX5_voidAll 1 = .ok (.istore_n 1, 1) := by decide +kernel
theorem dX5_voidAll_2 : decode cX5_voidAll 2 = .ok (.iload_n 1, 1) := by decide +kernel
theorem dX5_voidAll_3 : decode cX5_voidAll 3 = .ok (.bipush 32, 2) := by decide +kernel
theorem dX5_voidAll_5 : decode cX5_voidAll 5 = .ok (.if_icmp .ge 14, 3) := by decide +kernel
theorem dX5_voidAll_8 : decode cX5_voidAll 8 = .ok (.aload_n 0, 1) := by decide +kernel
theorem dX5_voidAll_9 : decode cX5_voidAll 9 = .ok (.iload_n 1, 1) := by decide +kernel
theorem dX5_voidAll_10 : decode cX5_voidAll 10 = .ok (.invokevirtual 47, 3) := by decide +kernel
theorem dX5_voidAll_13 : decode cX5_voidAll 13 = .ok (.iinc 1 1, 3) := by decide +kernel
theorem dX5_voidAll_16 : decode cX5_voidAll 16 = .ok (.goto (-14), 3) := by decide +kernel
theorem dX5_voidAll_19 : decode cX5_voidAll 19 = .ok (.return_, 1) := by decide +kernel
set_option maxRecDepth 20000 in
theorem ggX6_init_X2_init : GoodIn wsX6_init wsX2_init := goodIn_r _ [16, 17, 2, 3, 10, 18, 19, 20, 21, 22, 23, 24, 25] (by decide +kernel) (by decide +kernel)
set_option maxRecDepth 20000 in
theorem gX6_init_X2_init : GoodIn wsX6_init (wsX2_init) := ggX6_init_X2_init
theorem dX6_init_0 : decode cX6_init 0 = .ok (.aload_n 0, 1) := by decide +kernel
theorem dX6_init_1 : decode cX6_init 1 = .ok (.invokespecial 3, 3) := by decide +kernel
theorem dX6_init_4 : decode cX6_init 4 = .ok (.aload_n 0, 1) := by decide +kernel
theorem dX6_init_5 : decode cX6_init 5 = .ok (.new 9, 3) := by decide +kernel
theorem dX6_init_8 : decode cX6_init 8 = .ok (.dup, 1) := by decide +kernel
theorem dX6_init_9 : decode cX6_init 9 = .ok (.bipush 32, 2) := by decide +kernel
theorem dX6_init_11 : decode cX6_init 11 = .ok (.invokespecial 11, 3) := by decide +kernel
theorem dX6_init_14 : decode cX6_init 14 = .ok (.putfield 14, 3) := by decide +kernel
theorem dX6_init_17 : decode cX6_init 17 = .ok (.aload_n 0, 1) := by decide +kernel
theorem dX6_init_18 : decode cX6_init 18 = .ok (.bipush 32, 2) := by decide +kernel
theorem dX6_init_20 : decode cX6_init 20 = .ok (.newarray .boolean, 2) := by decide +kernel
theorem dX6_init_22 : decode cX6_init 22 = .ok (.putfield 20, 3) := by decide +kernel
theorem dX6_init_25 : decode cX6_init 25 = .ok (.aload_n 0, 1) := by decide +kernel
theorem dX6_init_26 : decode cX6_init 26 = .ok (.bipush 32, 2) := by decide +kernel
theorem dX6_init_28 : decode cX6_init 28 = .ok (.newarray .int, 2) := by decide +kernel
theorem dX6_init_30 : decode cX6_init 30 = .ok (.putfield 24, 3) := by decide +kernel
theorem dX6_init_33 : decode cX6_init 33 = .ok (.aload_n 0, 1) := by decide +kernel
theorem dX6_init_34 : decode cX6_init 34 = .ok (.iconst 0, 1) := by decide +kernel
theorem dX6_init_35 : decode cX6_init 35 = .ok (.putfield 28, 3) := by decide +kernel
theorem dX6_init_38 : decode cX6_init 38 = .ok (.aload_n 0, 1) := by decide +kernel
theorem dX6_init_39 : decode cX6_init 39 = .ok (.iconst 0, 1) := by decide +kernel
theorem dX6_init_40 : decode cX6_init 40 = .ok (.putfield 32, 3) := by decide +kernel
theorem dX6_init_43 : decode cX6_init 43 = .ok (.return_, 1) := by decide +kernel
set_option maxRecDepth 20000 in
theorem ggX6_put_X2_take : GoodIn wsX6_put wsX2_take := goodIn_ca (goodIn_r _ [8, 9, 10, 11, 12, 13, 14, 15, 7, 16, 29, 30, 31, 32] (by decide +kernel) (by decide +kernel)) (goodIn_sub (fun _ h => List.mem_cons_of_mem _ (List.mem_append_right _ h)) (by decide +kernel))
set_option maxRecDepth 20000 in
theorem gX6_put_X2_take : GoodIn wsX6_put (wsV RX6 35 RX2 yX2_take wsX2_take) := goodIn_app (goodIn_of _ (by decide +kernel)) ggX6_put_X2_take
set_option maxRecDepth 20000 in
theorem ggX6_put_X6_touch : GoodIn wsX6_put wsX6_touch := goodIn_ca (goodIn_r _ [21, 22, 23, 24, 25, 26, 27, 28] (by decide +kernel) (by decide +kernel)) (goodIn_sub (fun _ h => List.mem_cons_of_mem _ (List.mem_append_right _ h)) (by decide +kernel))
set_option maxRecDepth 20000 in
theorem gX6_put_X6_touch : GoodIn wsX6_put (wsV RX6 39 RX6 yX6_touch wsX6_touch) := goodIn_app (goodIn_of _ (by decide +kernel)) ggX6_put_X6_touch
theorem dX6_put_0 : decode cX6_put 0 = .ok (.aload_n 0, 1) := by decide +kernel
theorem dX6_put_1 : decode cX6_put 1 = .ok (.getfield 20, 3) := by decide +kernel
theorem dX6_put_4 : decode cX6_put 4 = .ok (.iload_n 1, 1) := by decide +kernel
theorem dX6_put_5 : decode cX6_put 5 = .ok (.baload, 1) := by decide +kernel
theorem dX6_put_6 : decode cX6_put 6 = .ok (.ifCond .ne 20, 3) := by decide +kernel
theorem dX6_put_9 : decode cX6_put 9 = .ok (.aload_n 0, 1) := by decide +kernel
theorem dX6_put_10 : decode cX6_put 10 = .ok (.getfield 20, 3) := by decide +kernel
theorem dX6_put_13 : decode cX6_put 13 = .ok (.iload_n 1, 1) := by decide +kernel
theorem dX6_put_14 : decode cX6_put 14 = .ok (.iconst 1, 1) := by decide +kernel
theorem dX6_put_15 : decode cX6_put 15 = .ok (.bastore, 1) := by decide +kernel
theorem dX6_put_16 : decode cX6_put 16 = .ok (.aload_n 0, 1) := by decide +kernel
theorem dX6_put_17 : decode cX6_put 17 = .ok (.dup, 1) := by decide +kernel
theorem dX6_put_18 : decode cX6_put 18 = .ok (.getfield 32, 3) := by decide +kernel
theorem dX6_put_21 : decode cX6_put 21 = .ok (.iload_n 2, 1) := by decide +kernel
theorem dX6_put_22 : decode cX6_put 22 = .ok (.iadd, 1) := by decide +kernel
theorem dX6_put_23 : decode cX6_put 23 = .ok (.putfield 32, 3) := by decide +kernel
theorem dX6_put_26 : decode cX6_put 26 = .ok (.aload_n 0, 1) := by decide +kernel
theorem dX6_put_27 : decode cX6_put 27 = .ok (.getfield 14, 3) := by decide +kernel
theorem dX6_put_30 : decode cX6_put 30 = .ok (.iload_n 1, 1) := by decide +kernel
theorem dX6_put_31 : decode cX6_put 31 = .ok (.aload_n 3, 1) := by decide +kernel
theorem dX6_put_32 : decode cX6_put 32 = .ok (.iconst 0, 1) := by decide +kernel
theorem dX6_put_33 : decode cX6_put 33 = .ok (.invokevirtual 35, 3) := by decide +kernel
theorem dX6_put_36 : decode cX6_put 36 = .ok (.aload_n 0, 1) := by decide +kernel
theorem dX6_put_37 : decode cX6_put 37 = .ok (.iload_n 1, 1) := by decide +kernel
theorem dX6_put_38 : decode cX6_put 38 = .ok (.invokevirtual 39, 3) := by decide +kernel
theorem dX6_put_41 : decode cX6_put 41 = .ok (.return_, 1) := by decide +kernel
theorem dX6_remove_0 : decode cX6_remove 0 = .ok (.aload_n 0, 1) := by decide +kernel
theorem dX6_remove_1 : decode cX6_remove 1 = .ok (.getfield 20, 3) := by decide +kernel
theorem dX6_remove_4 : decode cX6_remove 4 = .ok (.iload_n 1, 1) := by decide +kernel
theorem dX6_remove_5 : decode cX6_remove 5 = .ok (.baload, 1) := by decide +kernel
theorem dX6_remove_6 : decode cX6_remove 6 = .ok (.ifCond .eq 20, 3) := by decide +kernel
theorem dX6_remove_9 : decode cX6_remove 9 = .ok (.aload_n 0, 1) := by decide +kernel
theorem dX6_remove_10 : decode cX6_remove 10 = .ok (.getfield 20, 3) := by decide +kernel
theorem dX6_remove_13 : decode cX6_remove 13 = .ok (.iload_n 1, 1) := by decide +kernel
theorem dX6_remove_14 : decode cX6_remove 14 = .ok (.iconst 0, 1) := by decide +kernel
theorem dX6_remove_15 : decode cX6_remove 15 = .ok (.bastore, 1) := by decide +kernel
theorem dX6_remove_16 : decode cX6_remove 16 = .ok (.aload_n 0, 1) := by decide +kernel
theorem dX6_remove_17 : decode cX6_remove 17 = .ok (.dup, 1) := by decide +kernel
theorem dX6_remove_18 : decode cX6_remove 18 = .ok (.getfield 32, 3) := by decide +kernel
theorem dX6_remove_21 : decode cX6_remove 21 = .ok (.iload_n 2, 1) := by decide +kernel
theorem dX6_remove_22 : decode cX6_remove 22 = .ok (.isub, 1) := by decide +kernel
theorem dX6_remove_23 : decode cX6_remove 23 = .ok (.putfield 32, 3) := by decide +kernel
theorem dX6_remove_26 : decode cX6_remove 26 = .ok (.return_, 1) := by decide +kernel
theorem dX6_touch_0 : decode cX6_touch 0 = .ok (.aload_n 0, 1) := by decide +kernel
theorem dX6_touch_1 : decode cX6_touch 1 = .ok (.dup, 1) := by decide +kernel
theorem dX6_touch_2 : decode cX6_touch 2 = .ok (.getfield 28, 3) := by decide +kernel
theorem dX6_touch_5 : decode cX6_touch 5 = .ok (.iconst 1, 1) := by decide +kernel
theorem dX6_touch_6 : decode cX6_touch 6 = .ok (.iadd, 1) := by decide +kernel
theorem dX6_touch_7 : decode cX6_touch 7 = .ok (.putfield 28, 3) := by decide +kernel
theorem dX6_touch_10 : decode cX6_touch 10 = .ok (.aload_n 0, 1) := by decide +kernel
theorem dX6_touch_11 : decode cX6_touch 11 = .ok (.getfield 24, 3) := by decide +kernel
theorem dX6_touch_14 : decode cX6_touch 14 = .ok (.iload_n 1, 1) := by decide +kernel
theorem dX6_touch_15 : decode cX6_touch 15 = .ok (.aload_n 0, 1) := by decide +kernel
theorem dX6_touch_16 : decode cX6_touch 16 = .ok (.getfield 28, 3) := by decide +kernel
theorem dX6_touch_19 : decode cX6_touch 19 = .ok (.iastore, 1) := by decide +kernel
theorem dX6_touch_20 : decode cX6_touch 20 = .ok (.return_, 1) := by decide +kernel
theorem dX6_entries_0 : decode cX6_entries 0 = .ok (.iconst 0, 1) := by decide +kernel
theorem dX6_entries_1 : decode cX6_entries 1 = .ok (.istore_n 1, 1) := by decide +kernel
theorem dX6_entries_2 : decode cX6_entries 2 = .ok (.iconst 0, 1) := by decide +kernel
theorem dX6_entries_3 : decode cX6_entries 3 = .ok (.istore_n 2, 1) := by decide +kernel
theorem dX6_entries_4 : decode cX6_entries 4 = .ok (.iload_n 2, 1) := by decide +kernel
theorem dX6_entries_5 : decode cX6_entries 5 = .ok (.bipush 32, 2) := by decide +kernel
theorem dX6_entries_7 : decode cX6_entries 7 = .ok (.if_icmp .ge 26, 3) := by decide +kernel
theorem dX6_entries_10 : decode cX6_entries 10 = .ok (.iload_n 1, 1) := by decide +kernel
theorem dX6_entries_11 : decode cX6_entries 11 = .ok (.aload_n 0, 1) := by decide +kernel
theorem dX6_entries_12 : decode cX6_entries 12 = .ok (.getfield 20, 3) := by decide +kernel
theorem dX6_entries_15 : decode cX6_entries 15 = .ok (.iload_n 2, 1) := by decide +kernel
theorem dX6_entries_16 : decode cX6_entries 16 = .ok (.baload, 1) := by decide +kernel
theorem dX6_entries_17 : decode cX6_entries 17 = .ok (.ifCond .eq 7, 3) := by decide +kernel
theorem dX6_entries_20 : decode cX6_entries 20 = .ok (.iconst 1, 1) := by decide +kernel
theorem dX6_entries_21 : decode cX6_entries 21 = .ok (.goto 4, 3) := by decide +kernel
theorem dX6_entries_24 : decode cX6_entries 24 = .ok (.iconst 0, 1) := by decide +kernel
theorem dX6_entries_25 : decode cX6_entries 25 = .ok (.iadd, 1) := by decide +kernel
theorem dX6_entries_26 : decode cX6_entries 26 = .ok (.istore_n 1, 1) := by decide +kernel
theorem dX6_entries_27 : decode cX6_entries 27 = .ok (.iinc 2 1, 3) := by decide +kernel
theorem dX6_entries_30 : decode cX6_entries 30 = .ok (.goto (-26), 3) := by decide +kernel
theorem dX6_entries_33 : decode cX6_entries 33 = .ok (.iload_n 1, 1) := by decide +kernel
theorem dX6_entries_34 : decode cX6_entries 34 = .ok (.ireturn, 1) := by decide +kernel
theorem dX6_clear_0 : decode cX6_clear 0 = .ok (.aload_n 0, 1) := by decide +kernel
theorem dX6_clear_1 : decode cX6_clear 1 = .ok (.iconst 0, 1) := by decide +kernel
theorem dX6_clear_2 : decode cX6_clear 2 = .ok (.putfield 32, 3) := by decide +kernel
theorem dX6_clear_5 : decode cX6_clear 5 = .ok (.iconst 0, 1) := by decide +kernel
theorem dX6_clear_6 : decode cX6_clear 6 = .ok (.istore_n 1, 1) := by decide +kernel
theorem dX6_clear_7 : decode cX6_clear 7 = .ok (.iload_n 1, 1) := by decide +kernel
theorem dX6_clear_8 : decode cX6_clear 8 = .ok (.bipush 32, 2) := by decide +kernel
theorem dX6_clear_10 : decode cX6_clear 10 = .ok (.if_icmp .ge 16, 3) := by decide +kernel
theorem dX6_clear_13 : decode cX6_clear 13 = .ok (.aload_n 0, 1) := by decide +kernel
theorem dX6_clear_14 : decode cX6_clear 14 = .ok (.getfield 20, 3) := by decide +kernel
theorem dX6_clear_17 : decode cX6_clear 17 = .ok (.iload_n 1, 1) := by decide +kernel
theorem dX6_clear_18 : decode cX6_clear 18 = .ok (.iconst 0, 1) := by decide +kernel
theorem dX6_clear_19 : decode cX6_clear 19 = .ok (.bastore, 1) := by decide +kernel
theorem dX6_clear_20 : decode cX6_clear 20 = .ok (.iinc 1 1, 3) := by decide +kernel
theorem dX6_clear_23 : decode cX6_clear 23 = .ok (.goto (-16), 3) := by decide +kernel
theorem dX6_clear_26 : decode cX6_clear 26 = .ok (.return_, 1) := by decide +kernel
theorem dX7_init_0 : decode cX7_init 0 = .ok (.aload_n 0, 1) := by decide +kernel
theorem dX7_init_1 : decode cX7_init 1 = .ok (.invokespecial 3, 3) := by decide +kernel
theorem dX7_init_4 : decode cX7_init 4 = .ok (.aload_n 0, 1) := by decide +kernel
theorem dX7_init_5 : decode cX7_init 5 = .ok (.bipush 32, 2) := by decide +kernel
theorem dX7_init_7 : decode cX7_init 7 = .ok (.newarray .int, 2) := by decide +kernel
theorem dX7_init_9 : decode cX7_init 9 = .ok (.putfield 9, 3) := by decide +kernel
theorem dX7_init_12 : decode cX7_init 12 = .ok (.aload_n 0, 1) := by decide +kernel
theorem dX7_init_13 : decode cX7_init 13 = .ok (.bipush 32, 2) := by decide +kernel
theorem dX7_init_15 : decode cX7_init 15 = .ok (.newarray .int, 2) := by decide +kernel
theorem dX7_init_17 : decode cX7_init 17 = .ok (.putfield 15, 3) := by decide +kernel
theorem dX7_init_20 : decode cX7_init 20 = .ok (.aload_n 0, 1) := by decide +kernel
theorem dX7_init_21 : decode cX7_init 21 = .ok (.sipush 400, 3) := by decide +kernel
theorem dX7_init_24 : decode cX7_init 24 = .ok (.newarray .int, 2) := by decide +kernel
theorem dX7_init_26 : decode cX7_init 26 = .ok (.putfield 18, 3) := by decide +kernel
theorem dX7_init_29 : decode cX7_init 29 = .ok (.aload_n 0, 1) := by decide +kernel
theorem dX7_init_30 : decode cX7_init 30 = .ok (.sipush 400, 3) := by decide +kernel
theorem dX7_init_33 : decode cX7_init 33 = .ok (.newarray .int, 2) := by decide +kernel
theorem dX7_init_35 : decode cX7_init 35 = .ok (.putfield 21, 3) := by decide +kernel
theorem dX7_init_38 : decode cX7_init 38 = .ok (.aload_n 0, 1) := by decide +kernel
theorem dX7_init_39 : decode cX7_init 39 = .ok (.sipush 400, 3) := by decide +kernel
theorem dX7_init_42 : decode cX7_init 42 = .ok (.newarray .int, 2) := by decide +kernel
theorem dX7_init_44 : decode cX7_init 44 = .ok (.putfield 24, 3) := by decide +kernel
theorem dX7_init_47 : decode cX7_init 47 = .ok (.aload_n 0, 1) := by decide +kernel
theorem dX7_init_48 : decode cX7_init 48 = .ok (.iconst 0, 1) := by decide +kernel
theorem dX7_init_49 : decode cX7_init 49 = .ok (.putfield 27, 3) := by decide +kernel
theorem dX7_init_52 : decode cX7_init 52 = .ok (.return_, 1) := by decide +kernel
theorem dX7_send_0 : decode cX7_send 0 = .ok (.aload_n 0, 1) := by decide +kernel
theorem dX7_send_1 : decode cX7_send 1 = .ok (.getfield 27, 3) := by decide +kernel
theorem dX7_send_4 : decode cX7_send 4 = .ok (.sipush 400, 3) := by decide +kernel
theorem dX7_send_7 : decode cX7_send 7 = .ok (.if_icmp .ge 43, 3) := by decide +kernel
theorem dX7_send_10 : decode cX7_send 10 = .ok (.aload_n 0, 1) := by decide +kernel
theorem dX7_send_11 : decode cX7_send 11 = .ok (.getfield 18, 3) := by decide +kernel
theorem dX7_send_14 : decode cX7_send 14 = .ok (.aload_n 0, 1) := by decide +kernel
theorem dX7_send_15 : decode cX7_send 15 = .ok (.getfield 27, 3) := by decide +kernel
theorem dX7_send_18 : decode cX7_send 18 = .ok (.iload_n 1, 1) := by decide +kernel
theorem dX7_send_19 : decode cX7_send 19 = .ok (.iastore, 1) := by decide +kernel
theorem dX7_send_20 : decode cX7_send 20 = .ok (.aload_n 0, 1) := by decide +kernel
theorem dX7_send_21 : decode cX7_send 21 = .ok (.getfield 21, 3) := by decide +kernel
theorem dX7_send_24 : decode cX7_send 24 = .ok (.aload_n 0, 1) := by decide +kernel
theorem dX7_send_25 : decode cX7_send 25 = .ok (.getfield 27, 3) := by decide +kernel
theorem dX7_send_28 : decode cX7_send 28 = .ok (.iload_n 2, 1) := by decide +kernel
theorem dX7_send_29 : decode cX7_send 29 = .ok (.iastore, 1) := by decide +kernel
theorem dX7_send_30 : decode cX7_send 30 = .ok (.aload_n 0, 1) := by decide +kernel
theorem dX7_send_31 : decode cX7_send 31 = .ok (.getfield 24, 3) := by decide +kernel
theorem dX7_send_34 : decode cX7_send 34 = .ok (.aload_n 0, 1) := by decide +kernel
theorem dX7_send_35 : decode cX7_send 35 = .ok (.getfield 27, 3) := by decide +kernel
theorem dX7_send_38 : decode cX7_send 38 = .ok (.iload_n 3, 1) := by decide +kernel
theorem dX7_send_39 : decode cX7_send 39 = .ok (.iastore, 1) := by decide +kernel
theorem dX7_send_40 : decode cX7_send 40 = .ok (.aload_n 0, 1) := by decide +kernel
theorem dX7_send_41 : decode cX7_send 41 = .ok (.dup, 1) := by decide +kernel
theorem dX7_send_42 : decode cX7_send 42 = .ok (.getfield 27, 3) := by decide +kernel
theorem dX7_send_45 : decode cX7_send 45 = .ok (.iconst 1, 1) := by decide +kernel
theorem dX7_send_46 : decode cX7_send 46 = .ok (.iadd, 1) := by decide +kernel
theorem dX7_send_47 : decode cX7_send 47 = .ok (.putfield 27, 3) := by decide +kernel
theorem dX7_send_50 : decode cX7_send 50 = .ok (.return_, 1) := by decide +kernel
theorem dX7_receive_0 : decode cX7_receive 0 = .ok (.aload_n 0, 1) := by decide +kernel
theorem dX7_receive_1 : decode cX7_receive 1 = .ok (.getfield 18, 3) := by decide +kernel
theorem dX7_receive_4 : decode cX7_receive 4 = .ok (.iload_n 1, 1) := by decide +kernel
theorem dX7_receive_5 : decode cX7_receive 5 = .ok (.iaload, 1) := by decide +kernel
theorem dX7_receive_6 : decode cX7_receive 6 = .ok (.istore_n 2, 1) := by decide +kernel
theorem dX7_receive_7 : decode cX7_receive 7 = .ok (.aload_n 0, 1) := by decide +kernel
theorem dX7_receive_8 : decode cX7_receive 8 = .ok (.getfield 21, 3) := by decide +kernel
theorem dX7_receive_11 : decode cX7_receive 11 = .ok (.iload_n 1, 1) := by decide +kernel
theorem dX7_receive_12 : decode cX7_receive 12 = .ok (.iaload, 1) := by decide +kernel
theorem dX7_receive_13 : decode cX7_receive 13 = .ok (.aload_n 0, 1) := by decide +kernel
theorem dX7_receive_14 : decode cX7_receive 14 = .ok (.getfield 15, 3) := by decide +kernel
theorem dX7_receive_17 : decode cX7_receive 17 = .ok (.iload_n 2, 1) := by decide +kernel
theorem dX7_receive_18 : decode cX7_receive 18 = .ok (.iaload, 1) := by decide +kernel
theorem dX7_receive_19 : decode cX7_receive 19 = .ok (.if_icmp .le 7, 3) := by decide +kernel
theorem dX7_receive_22 : decode cX7_receive 22 = .ok (.iconst 1, 1) := by decide +kernel
theorem dX7_receive_23 : decode cX7_receive 23 = .ok (.goto 4, 3) := by decide +kernel
theorem dX7_receive_26 : decode cX7_receive 26 = .ok (.iconst 0, 1) := by decide +kernel
theorem dX7_receive_27 : decode cX7_receive 27 = .ok (.istore_n 3, 1) := by decide +kernel
theorem dX7_receive_28 : decode cX7_receive 28 = .ok (.iload_n 3, 1) := by decide +kernel
theorem dX7_receive_29 : decode cX7_receive 29 = .ok (.ifCond .eq 27, 3) := by decide +kernel
theorem dX7_receive_32 : decode cX7_receive 32 = .ok (.aload_n 0, 1) := by decide +kernel
theorem dX7_receive_33 : decode cX7_receive 33 = .ok (.getfield 15, 3) := by decide +kernel
theorem dX7_receive_36 : decode cX7_receive 36 = .ok (.iload_n 2, 1) := by decide +kernel
theorem dX7_receive_37 : decode cX7_receive 37 = .ok (.aload_n 0, 1) := by decide +kernel
theorem dX7_receive_38 : decode cX7_receive 38 = .ok (.getfield 21, 3) := by decide +kernel
theorem dX7_receive_41 : decode cX7_receive 41 = .ok (.iload_n 1, 1) := by decide +kernel
theorem dX7_receive_42 : decode cX7_receive 42 = .ok (.iaload, 1) := by decide +kernel
theorem dX7_receive_43 : decode cX7_receive 43 = .ok (.iastore, 1) := by decide +kernel
theorem dX7_receive_44 : decode cX7_receive 44 = .ok (.aload_n 0, 1) := by decide +kernel
theorem dX7_receive_45 : decode cX7_receive 45 = .ok (.getfield 9, 3) := by decide +kernel
theorem dX7_receive_48 : decode cX7_receive 48 = .ok (.iload_n 2, 1) := by decide +kernel
theorem dX7_receive_49 : decode cX7_receive 49 = .ok (.aload_n 0, 1) := by decide +kernel
theorem dX7_receive_50 : decode cX7_receive 50 = .ok (.getfield 24, 3) := by decide +kernel
theorem dX7_receive_53 : decode cX7_receive 53 = .ok (.iload_n 1, 1) := by decide +kernel
theorem dX7_receive_54 : decode cX7_receive 54 = .ok (.iaload, 1) := by decide +kernel
theorem dX7_receive_55 : decode cX7_receive 55 = .ok (.iastore, 1) := by decide +kernel
theorem dX7_receive_56 : decode cX7_receive 56 = .ok (.aload_n 0, 1) := by decide +kernel
theorem dX7_receive_57 : decode cX7_receive 57 = .ok (.dup, 1) := by decide +kernel
theorem dX7_receive_58 : decode cX7_receive 58 = .ok (.getfield 27, 3) := by decide +kernel
theorem dX7_receive_61 : decode cX7_receive 61 = .ok (.iconst 1, 1) := by decide +kernel
theorem dX7_receive_62 : decode cX7_receive 62 = .ok (.isub, 1) := by decide +kernel
theorem dX7_receive_63 : decode cX7_receive 63 = .ok (.putfield 27, 3) := by decide +kernel
theorem dX7_receive_66 : decode cX7_receive 66 = .ok (.iload_n 1, 1) := by decide +kernel
theorem dX7_receive_67 : decode cX7_receive 67 = .ok (.istore 4, 2) := by decide +kernel
theorem dX7_receive_69 : decode cX7_receive 69 = .ok (.iload 4, 2) := by decide +kernel
theorem dX7_receive_71 : decode cX7_receive 71 = .ok (.aload_n 0, 1) := by decide +kernel
theorem dX7_receive_72 : decode cX7_receive 72 = .ok (.getfield 27, 3) := by decide +kernel
theorem dX7_receive_75 : decode cX7_receive 75 = .ok (.if_icmp .ge 57, 3) := by decide +kernel
theorem dX7_receive_78 : decode cX7_receive 78 = .ok (.aload_n 0, 1) := by decide +kernel
theorem dX7_receive_79 : decode cX7_receive 79 = .ok (.getfield 18, 3) := by decide +kernel
theorem dX7_receive_82 : decode cX7_receive 82 = .ok (.iload 4, 2) := by decide +kernel
theorem dX7_receive_84 : decode cX7_receive 84 = .ok (.aload_n 0, 1) := by decide +kernel
theorem dX7_receive_85 : decode cX7_receive 85 = .ok (.getfield 18, 3) := by decide +kernel
theorem dX7_receive_88 : decode cX7_receive 88 = .ok (.iload 4, 2) := by decide +kernel
theorem dX7_receive_90 : decode cX7_receive 90 = .ok (.iconst 1, 1) := by decide +kernel
theorem dX7_receive_91 : decode cX7_receive 91 = .ok (.iadd, 1) := by decide +kernel
theorem dX7_receive_92 : decode cX7_receive 92 = .ok (.iaload, 1) := by decide +kernel
theorem dX7_receive_93 : decode cX7_receive 93 = .ok (.iastore, 1) := by decide +kernel
theorem dX7_receive_94 : decode cX7_receive 94 = .ok (.aload_n 0, 1) := by decide +kernel
theorem dX7_receive_95 : decode cX7_receive 95 = .ok (.getfield 21, 3) := by decide +kernel
theorem dX7_receive_98 : decode cX7_receive 98 = .ok (.iload 4, 2) := by decide +kernel
theorem dX7_receive_100 : decode cX7_receive 100 = .ok (.aload_n 0, 1) := by decide +kernel
theorem dX7_receive_101 : decode cX7_receive 101 = .ok (.getfield 21, 3) := by decide +kernel
theorem dX7_receive_104 : decode cX7_receive 104 = .ok (.iload 4, 2) := by decide +kernel
theorem dX7_receive_106 : decode cX7_receive 106 = .ok (.iconst 1, 1) := by decide +kernel
theorem dX7_receive_107 : decode cX7_receive 107 = .ok (.iadd, 1) := by decide +kernel
theorem dX7_receive_108 : decode cX7_receive 108 = .ok (.iaload, 1) := by decide +kernel
theorem dX7_receive_109 : decode cX7_receive 109 = .ok (.iastore, 1) := by decide +kernel
theorem dX7_receive_110 : decode cX7_receive 110 = .ok (.aload_n 0, 1) := by decide +kernel
theorem dX7_receive_111 : decode cX7_receive 111 = .ok (.getfield 24, 3) := by decide +kernel
theorem dX7_receive_114 : decode cX7_receive 114 = .ok (.iload 4, 2) := by decide +kernel
theorem dX7_receive_116 : decode cX7_receive 116 = .ok (.aload_n 0, 1) := by decide +kernel
theorem dX7_receive_117 : decode cX7_receive 117 = .ok (.getfield 24, 3) := by decide +kernel
theorem dX7_receive_120 : decode cX7_receive 120 = .ok (.iload 4, 2) := by decide +kernel
theorem dX7_receive_122 : decode cX7_receive 122 = .ok (.iconst 1, 1) := by decide +kernel
theorem dX7_receive_123 : decode cX7_receive 123 = .ok (.iadd, 1) := by decide +kernel
theorem dX7_receive_124 : decode cX7_receive 124 = .ok (.iaload, 1) := by decide +kernel
theorem dX7_receive_125 : decode cX7_receive 125 = .ok (.iastore, 1) := by decide +kernel
theorem dX7_receive_126 : decode cX7_receive 126 = .ok (.iinc 4 1, 3) := by decide +kernel
theorem dX7_receive_129 : decode cX7_receive 129 = .ok (.goto (-60), 3) := by decide +kernel
theorem dX7_receive_132 : decode cX7_receive 132 = .ok (.iload_n 3, 1) := by decide +kernel
theorem dX7_receive_133 : decode cX7_receive 133 = .ok (.ireturn, 1) := by decide +kernel
theorem dX8_init_0 : decode cX8_init 0 = .ok (.aload_n 0, 1) := by decide +kernel
theorem dX8_init_1 : decode cX8_init 1 = .ok (.invokespecial 3, 3) := by decide +kernel
theorem dX8_init_4 : decode cX8_init 4 = .ok (.aload_n 0, 1) := by decide +kernel
