def wsL_write_r6 : List Cond := [Cond.fieldLink RX8 22 "SlipstreamCache$Pledges" "count" "I", Cond.methodLink RX11 190 yX4_numberFor, Cond.instanceMethod yX4_numberFor, Cond.selects RX4 yX4_numberFor yX4_numberFor, Cond.initialized RX4, Cond.code yX4_numberFor cX4_numberFor 2 (some .int), Cond.fieldLink RX4 21 "SlipstreamCache$Keys" "numbers" "[I", Cond.fieldLink RX4 18 "SlipstreamCache$Keys" "groups" "[I", Cond.methodLink RX11 194 yX2_put, Cond.instanceMethod yX2_put, Cond.selects RX2 yX2_put yX2_put, Cond.initialized RX2, Cond.code yX2_put cX2_put 6 none, Cond.fieldLink RX2 7 "SlipstreamCache$Copies" "values" "[I", Cond.fieldLink RX2 13 "SlipstreamCache$Copies" "versions" "[I", Cond.fieldLink RX2 16 "SlipstreamCache$Copies" "minutes" "[I", Cond.fieldLink RX2 19 "SlipstreamCache$Copies" "numbers" "[I", Cond.methodLink RX11 386 yX6_touch, Cond.instanceMethod yX6_touch, Cond.selects RX6 yX6_touch yX6_touch, Cond.initialized RX6, Cond.code yX6_touch cX6_touch 2 none, Cond.fieldLink RX6 28 "SlipstreamCache$Memory" "uses" "I", Cond.fieldLink RX6 24 "SlipstreamCache$Memory" "usedAt" "[I"]
def wsL_write_r7 : List Cond := [Cond.methodLink RX11 247 yX3_takeOut, Cond.instanceMethod yX3_takeOut, Cond.selects RX3 yX3_takeOut yX3_takeOut, Cond.initialized RX3, Cond.code yX3_takeOut cX3_takeOut 2 none, Cond.fieldLink RX3 24 "SlipstreamCache$Flash" "index" "[I", Cond.fieldLink RX3 20 "SlipstreamCache$Flash" "signs" "[I", Cond.methodLink RX3 37 yX3_nextSlot, Cond.instanceMethod yX3_nextSlot, Cond.selects RX3 yX3_nextSlot yX3_nextSlot, Cond.code yX3_nextSlot cX3_nextSlot 2 (some .int), Cond.fieldLink RX3 30 "SlipstreamCache$Flash" "next" "I", Cond.methodLink RX3 45 yX3_beginAnew, Cond.instanceMethod yX3_beginAnew, Cond.selects RX3 yX3_beginAnew yX3_beginAnew, Cond.code yX3_beginAnew cX3_beginAnew 4 none, Cond.fieldLink RX3 27 "SlipstreamCache$Flash" "wears" "[I", Cond.methodLink RX11 250 yX5_voidFor, Cond.instanceMethod yX5_voidFor, Cond.selects RX5 yX5_voidFor yX5_voidFor, Cond.initialized RX5, Cond.code yX5_voidFor cX5_voidFor 3 none, Cond.fieldLink RX5 35 "SlipstreamCache$Leases" "count" "I", Cond.fieldLink RX5 20 "SlipstreamCache$Leases" "keyOf" "[I"]
def wsL_write_r8 : List Cond := [Cond.fieldLink RX5 31 "SlipstreamCache$Leases" "ends" "[C", Cond.methodLink RX11 231 yX11_writeBehind, Cond.instanceMethod yX11_writeBehind, Cond.selects RX11 yX11_writeBehind yX11_writeBehind, Cond.code yX11_writeBehind cX11_writeBehind 3 none, Cond.fieldLink RX11 84 "SlipstreamCache" "incoming" "LSlipstreamCache$Copies;", Cond.methodLink RX11 418 yX11_come, Cond.instanceMethod yX11_come, Cond.selects RX11 yX11_come yX11_come, Cond.code yX11_come cX11_come 4 none, Cond.fieldLink RX11 414 "SlipstreamCache$Choice" "count" "I", Cond.fieldLink RX11 421 "SlipstreamCache$Choice" "order" "[I", Cond.methodLink RX11 424 yX3_append, Cond.instanceMethod yX3_append, Cond.selects RX3 yX3_append yX3_append, Cond.code yX3_append cX3_append 4 none, Cond.fieldLink RX3 14 "SlipstreamCache$Flash" "copies" "LSlipstreamCache$Copies;", Cond.methodLink RX3 41 yX2_take, Cond.instanceMethod yX2_take, Cond.selects RX2 yX2_take yX2_take, Cond.code yX2_take cX2_take 4 none, Cond.methodLink RX2 22 yX2_put, Cond.methodLink RX11 244 yX6_remove, Cond.instanceMethod yX6_remove]
def wsL_write_r9 : List Cond := [Cond.selects RX6 yX6_remove yX6_remove, Cond.code yX6_remove cX6_remove 3 none, Cond.fieldLink RX6 20 "SlipstreamCache$Memory" "present" "[Z", Cond.fieldLink RX6 32 "SlipstreamCache$Memory" "filled" "I", Cond.methodLink RX11 428 yX6_put, Cond.instanceMethod yX6_put, Cond.selects RX6 yX6_put yX6_put, Cond.code yX6_put cX6_put 4 none, Cond.fieldLink RX6 14 "SlipstreamCache$Memory" "copies" "LSlipstreamCache$Copies;", Cond.methodLink RX6 35 yX2_take, Cond.methodLink RX6 39 yX6_touch, Cond.methodLink RX11 444 yX8_add, Cond.instanceMethod yX8_add, Cond.selects RX8 yX8_add yX8_add, Cond.code yX8_add cX8_add 4 none, Cond.fieldLink RX8 19 "SlipstreamCache$Pledges" "due" "[I", Cond.fieldLink RX8 15 "SlipstreamCache$Pledges" "values" "[I"]
def wsL_write : List Cond := .codeWith yL_write cL_write 6 (some .int) [(0, 12, 15, 13), (0, 12, 19, 15), (0, 12, 23, 17), (0, 12, 27, 23)] :: ((wsL_write_r1 ++ (wsL_write_r2 ++ (wsL_write_r3 ++ (wsL_write_r4 ++ (wsL_write_r5 ++ (wsL_write_r6 ++ (wsL_write_r7 ++ (wsL_write_r8 ++ wsL_write_r9)))))))) ++ wsX110 ++ wsX100 ++ wsX80 ++ wsX60 ++ wsX40 ++ wsX10 ++ wsX90 ++ wsX70 ++ wsX20 ++ wsX30 ++ wsX50 ++ (vx_atM "java/lang/ArrayIndexOutOfBoundsException" ["java/lang/IndexOutOfBoundsException", "java/lang/RuntimeException", "java/lang/Exception"]).filter goodWord ++ (vx_atS RX11 215 "java/lang/IllegalArgumentException" ["java/lang/RuntimeException", "java/lang/Exception"]).filter goodWord ++ (vx_atS RX11 118 "java/lang/IllegalStateException" ["java/lang/RuntimeException", "java/lang/Exception"]).filter goodWord ++ (vx_atS RX11 142 "java/lang/UnsupportedOperationException" ["java/lang/RuntimeException", "java/lang/Exception"]).filter goodWord ++ (vx_atS RX11 257 "java/lang/IndexOutOfBoundsException" ["java/lang/RuntimeException", "java/lang/Exception"]).filter goodWord)
def wsL_drop_r1 : List Cond := [Cond.classLink RL 13 "java/lang/IndexOutOfBoundsException", Cond.classLink RL 17 "java/lang/IllegalStateException", Cond.methodLink RL 52 yX11_drop, Cond.instanceMethod yX11_drop, Cond.selects RX11 yX11_drop yX11_drop, Cond.initialized RX11, Cond.code yX11_drop cX11_drop 3 (some .boolean), Cond.fieldLink RX11 54 "SlipstreamCache" "pledges" "LSlipstreamCache$Pledges;", Cond.fieldLink RX11 238 "SlipstreamCache$Pledges" "waiting" "[Z", Cond.fieldLink RX11 40 "SlipstreamCache" "memory" "LSlipstreamCache$Memory;", Cond.fieldLink RX11 12 "SlipstreamCache" "keys" "LSlipstreamCache$Keys;", Cond.fieldLink RX11 125 "SlipstreamCache$Keys" "sizes" "[I", Cond.fieldLink RX11 47 "SlipstreamCache" "flash" "LSlipstreamCache$Flash;", Cond.fieldLink RX11 61 "SlipstreamCache" "leases" "LSlipstreamCache$Leases;", Cond.methodLink RX11 96 yX11_requireKey, Cond.static yX11_requireKey, Cond.code yX11_requireKey cX11_requireKey 1 none, Cond.classLink RX11 253 "java/lang/IndexOutOfBoundsException", Cond.initialized "java/lang/IndexOutOfBoundsException", Cond.methodLink RX11 103 yX11_requireUp, Cond.instanceMethod yX11_requireUp, Cond.selects RX11 yX11_requireUp yX11_requireUp, Cond.code yX11_requireUp cX11_requireUp 1 none, Cond.classLink RX11 114 "java/lang/IllegalStateException"]
def wsL_drop_r2 : List Cond := [Cond.initialized "java/lang/IllegalStateException", Cond.fieldLink RX11 92 "SlipstreamCache" "down" "Z", Cond.methodLink RX11 106 yX11_isKept, Cond.instanceMethod yX11_isKept, Cond.selects RX11 yX11_isKept yX11_isKept, Cond.code yX11_isKept cX11_isKept 2 (some .boolean), Cond.fieldLink RX11 292 "SlipstreamCache$Memory" "present" "[Z", Cond.fieldLink RX11 295 "SlipstreamCache$Flash" "index" "[I", Cond.methodLink RX11 241 yX11_keepPromise, Cond.instanceMethod yX11_keepPromise, Cond.selects RX11 yX11_keepPromise yX11_keepPromise, Cond.code yX11_keepPromise cX11_keepPromise 3 none, Cond.fieldLink RX11 446 "SlipstreamCache$Pledges" "values" "[I", Cond.fieldLink RX11 306 "SlipstreamCache$Memory" "copies" "LSlipstreamCache$Copies;", Cond.fieldLink RX11 307 "SlipstreamCache$Copies" "versions" "[I", Cond.fieldLink RX11 375 "SlipstreamCache$Copies" "minutes" "[I", Cond.fieldLink RX11 88 "SlipstreamCache" "now" "I", Cond.methodLink RX11 234 yX11_writeStore, Cond.instanceMethod yX11_writeStore, Cond.selects RX11 yX11_writeStore yX11_writeStore, Cond.code yX11_writeStore cX11_writeStore 4 (some .int), Cond.fieldLink RX11 19 "SlipstreamCache" "store" "LSlipstreamCache$Store;", Cond.fieldLink RX11 26 "SlipstreamCache" "mirror" "LSlipstreamCache$Mirror;", Cond.methodLink RX11 437 yX10_put]
def wsL_drop_r3 : List Cond := [Cond.instanceMethod yX10_put, Cond.selects RX10 yX10_put yX10_put, Cond.initialized RX10, Cond.code yX10_put cX10_put 4 (some .int), Cond.fieldLink RX10 9 "SlipstreamCache$Store" "values" "[I", Cond.fieldLink RX10 15 "SlipstreamCache$Store" "versions" "[I", Cond.fieldLink RX10 27 "SlipstreamCache$Store" "logged" "I", Cond.fieldLink RX10 18 "SlipstreamCache$Store" "logKeys" "[I", Cond.fieldLink RX10 21 "SlipstreamCache$Store" "logVersions" "[I", Cond.fieldLink RX10 24 "SlipstreamCache$Store" "logMinutes" "[I", Cond.methodLink RX11 439 yX7_send, Cond.instanceMethod yX7_send, Cond.selects RX7 yX7_send yX7_send, Cond.initialized RX7, Cond.code yX7_send cX7_send 4 none, Cond.fieldLink RX7 27 "SlipstreamCache$Mirror" "count" "I", Cond.fieldLink RX7 18 "SlipstreamCache$Mirror" "sentKeys" "[I", Cond.fieldLink RX7 21 "SlipstreamCache$Mirror" "sentVersions" "[I", Cond.fieldLink RX7 24 "SlipstreamCache$Mirror" "sentValues" "[I", Cond.methodLink RX11 442 yX8_remove, Cond.instanceMethod yX8_remove, Cond.selects RX8 yX8_remove yX8_remove, Cond.initialized RX8, Cond.code yX8_remove cX8_remove 2 none]
def wsL_drop_r4 : List Cond := [Cond.fieldLink RX8 9 "SlipstreamCache$Pledges" "waiting" "[Z", Cond.fieldLink RX8 22 "SlipstreamCache$Pledges" "count" "I", Cond.methodLink RX11 244 yX6_remove, Cond.instanceMethod yX6_remove, Cond.selects RX6 yX6_remove yX6_remove, Cond.initialized RX6, Cond.code yX6_remove cX6_remove 3 none, Cond.fieldLink RX6 20 "SlipstreamCache$Memory" "present" "[Z", Cond.fieldLink RX6 32 "SlipstreamCache$Memory" "filled" "I", Cond.methodLink RX11 247 yX3_takeOut, Cond.instanceMethod yX3_takeOut, Cond.selects RX3 yX3_takeOut yX3_takeOut, Cond.initialized RX3, Cond.code yX3_takeOut cX3_takeOut 2 none, Cond.fieldLink RX3 24 "SlipstreamCache$Flash" "index" "[I", Cond.fieldLink RX3 20 "SlipstreamCache$Flash" "signs" "[I", Cond.methodLink RX3 37 yX3_nextSlot, Cond.instanceMethod yX3_nextSlot, Cond.selects RX3 yX3_nextSlot yX3_nextSlot, Cond.code yX3_nextSlot cX3_nextSlot 2 (some .int), Cond.fieldLink RX3 30 "SlipstreamCache$Flash" "next" "I", Cond.methodLink RX3 45 yX3_beginAnew, Cond.instanceMethod yX3_beginAnew, Cond.selects RX3 yX3_beginAnew yX3_beginAnew]
def wsL_drop_r5 : List Cond := [Cond.code yX3_beginAnew cX3_beginAnew 4 none, Cond.fieldLink RX3 27 "SlipstreamCache$Flash" "wears" "[I", Cond.methodLink RX11 250 yX5_voidFor, Cond.instanceMethod yX5_voidFor, Cond.selects RX5 yX5_voidFor yX5_voidFor, Cond.initialized RX5, Cond.code yX5_voidFor cX5_voidFor 3 none, Cond.fieldLink RX5 35 "SlipstreamCache$Leases" "count" "I", Cond.fieldLink RX5 20 "SlipstreamCache$Leases" "keyOf" "[I", Cond.fieldLink RX5 31 "SlipstreamCache$Leases" "ends" "[C"]
def wsL_drop : List Cond := .codeWith yL_drop cL_drop 4 (some .int) [(0, 16, 19, 13), (0, 16, 22, 17)] :: ((wsL_drop_r1 ++ (wsL_drop_r2 ++ (wsL_drop_r3 ++ (wsL_drop_r4 ++ wsL_drop_r5)))) ++ wsX110 ++ wsX80 ++ wsX40 ++ wsX60 ++ wsX30 ++ wsX20 ++ wsX100 ++ wsX70 ++ wsX50 ++ (vx_atM "java/lang/ArrayIndexOutOfBoundsException" ["java/lang/IndexOutOfBoundsException", "java/lang/RuntimeException", "java/lang/Exception"]).filter goodWord ++ (vx_atS RX11 257 "java/lang/IndexOutOfBoundsException" ["java/lang/RuntimeException", "java/lang/Exception"]).filter goodWord ++ (vx_atS RX11 118 "java/lang/IllegalStateException" ["java/lang/RuntimeException", "java/lang/Exception"]).filter goodWord)
def wsL_bump_r1 : List Cond := [Cond.classLink RL 13 "java/lang/IndexOutOfBoundsException", Cond.classLink RL 17 "java/lang/IllegalStateException", Cond.methodLink RL 56 yX11_bump, Cond.instanceMethod yX11_bump, Cond.selects RX11 yX11_bump yX11_bump, Cond.initialized RX11, Cond.code yX11_bump cX11_bump 3 (some .int), Cond.classLink RX11 253 "java/lang/IndexOutOfBoundsException", Cond.initialized "java/lang/IndexOutOfBoundsException", Cond.fieldLink RX11 12 "SlipstreamCache" "keys" "LSlipstreamCache$Keys;", Cond.fieldLink RX11 121 "SlipstreamCache$Keys" "groups" "[I", Cond.fieldLink RX11 61 "SlipstreamCache" "leases" "LSlipstreamCache$Leases;", Cond.fieldLink RX11 261 "SlipstreamCache$Keys" "numbers" "[I", Cond.methodLink RX11 103 yX11_requireUp, Cond.instanceMethod yX11_requireUp, Cond.selects RX11 yX11_requireUp yX11_requireUp, Cond.code yX11_requireUp cX11_requireUp 1 none, Cond.classLink RX11 114 "java/lang/IllegalStateException", Cond.initialized "java/lang/IllegalStateException", Cond.fieldLink RX11 92 "SlipstreamCache" "down" "Z", Cond.methodLink RX11 258 yX11_keepPromises, Cond.instanceMethod yX11_keepPromises, Cond.selects RX11 yX11_keepPromises yX11_keepPromises, Cond.code yX11_keepPromises cX11_keepPromises 6 (some .int)]
def wsL_bump_r2 : List Cond := [Cond.fieldLink RX11 54 "SlipstreamCache" "pledges" "LSlipstreamCache$Pledges;", Cond.fieldLink RX11 447 "SlipstreamCache$Pledges" "due" "[I", Cond.methodLink RX11 320 yX8_nextOf, Cond.instanceMethod yX8_nextOf, Cond.selects RX8 yX8_nextOf yX8_nextOf, Cond.initialized RX8, Cond.code yX8_nextOf cX8_nextOf 6 (some .int), Cond.fieldLink RX8 9 "SlipstreamCache$Pledges" "waiting" "[Z", Cond.fieldLink RX8 26 "SlipstreamCache$Keys" "groups" "[I", Cond.methodLink RX8 31 yX8_isBefore, Cond.instanceMethod yX8_isBefore, Cond.selects RX8 yX8_isBefore yX8_isBefore, Cond.code yX8_isBefore cX8_isBefore 4 (some .boolean), Cond.fieldLink RX8 19 "SlipstreamCache$Pledges" "due" "[I", Cond.fieldLink RX8 35 "SlipstreamCache$Keys" "costs" "[I", Cond.methodLink RX11 241 yX11_keepPromise, Cond.instanceMethod yX11_keepPromise, Cond.selects RX11 yX11_keepPromise yX11_keepPromise, Cond.code yX11_keepPromise cX11_keepPromise 3 none, Cond.fieldLink RX11 446 "SlipstreamCache$Pledges" "values" "[I", Cond.fieldLink RX11 40 "SlipstreamCache" "memory" "LSlipstreamCache$Memory;", Cond.fieldLink RX11 292 "SlipstreamCache$Memory" "present" "[Z", Cond.fieldLink RX11 306 "SlipstreamCache$Memory" "copies" "LSlipstreamCache$Copies;", Cond.fieldLink RX11 307 "SlipstreamCache$Copies" "versions" "[I"]
def wsL_bump_r3 : List Cond := [Cond.fieldLink RX11 375 "SlipstreamCache$Copies" "minutes" "[I", Cond.fieldLink RX11 88 "SlipstreamCache" "now" "I", Cond.methodLink RX11 234 yX11_writeStore, Cond.instanceMethod yX11_writeStore, Cond.selects RX11 yX11_writeStore yX11_writeStore, Cond.code yX11_writeStore cX11_writeStore 4 (some .int), Cond.fieldLink RX11 19 "SlipstreamCache" "store" "LSlipstreamCache$Store;", Cond.fieldLink RX11 26 "SlipstreamCache" "mirror" "LSlipstreamCache$Mirror;", Cond.methodLink RX11 437 yX10_put, Cond.instanceMethod yX10_put, Cond.selects RX10 yX10_put yX10_put, Cond.initialized RX10, Cond.code yX10_put cX10_put 4 (some .int), Cond.fieldLink RX10 9 "SlipstreamCache$Store" "values" "[I", Cond.fieldLink RX10 15 "SlipstreamCache$Store" "versions" "[I", Cond.fieldLink RX10 27 "SlipstreamCache$Store" "logged" "I", Cond.fieldLink RX10 18 "SlipstreamCache$Store" "logKeys" "[I", Cond.fieldLink RX10 21 "SlipstreamCache$Store" "logVersions" "[I", Cond.fieldLink RX10 24 "SlipstreamCache$Store" "logMinutes" "[I", Cond.methodLink RX11 439 yX7_send, Cond.instanceMethod yX7_send, Cond.selects RX7 yX7_send yX7_send, Cond.initialized RX7, Cond.code yX7_send cX7_send 4 none]
def wsL_bump_r4 : List Cond := [Cond.fieldLink RX7 27 "SlipstreamCache$Mirror" "count" "I", Cond.fieldLink RX7 18 "SlipstreamCache$Mirror" "sentKeys" "[I", Cond.fieldLink RX7 21 "SlipstreamCache$Mirror" "sentVersions" "[I", Cond.fieldLink RX7 24 "SlipstreamCache$Mirror" "sentValues" "[I", Cond.methodLink RX11 442 yX8_remove, Cond.instanceMethod yX8_remove, Cond.selects RX8 yX8_remove yX8_remove, Cond.code yX8_remove cX8_remove 2 none, Cond.fieldLink RX8 22 "SlipstreamCache$Pledges" "count" "I", Cond.methodLink RX11 250 yX5_voidFor, Cond.instanceMethod yX5_voidFor, Cond.selects RX5 yX5_voidFor yX5_voidFor, Cond.initialized RX5, Cond.code yX5_voidFor cX5_voidFor 3 none, Cond.fieldLink RX5 35 "SlipstreamCache$Leases" "count" "I", Cond.fieldLink RX5 20 "SlipstreamCache$Leases" "keyOf" "[I", Cond.fieldLink RX5 31 "SlipstreamCache$Leases" "ends" "[C"]
def wsL_bump : List Cond := .codeWith yL_bump cL_bump 4 (some .int) [(0, 9, 12, 13), (0, 9, 15, 17)] :: ((wsL_bump_r1 ++ (wsL_bump_r2 ++ (wsL_bump_r3 ++ wsL_bump_r4))) ++ wsX110 ++ wsX40 ++ wsX80 ++ wsX60 ++ wsX20 ++ wsX100 ++ wsX70 ++ wsX50 ++ (vx_atM "java/lang/ArrayIndexOutOfBoundsException" ["java/lang/IndexOutOfBoundsException", "java/lang/RuntimeException", "java/lang/Exception"]).filter goodWord ++ (vx_atS RX11 257 "java/lang/IndexOutOfBoundsException" ["java/lang/RuntimeException", "java/lang/Exception"]).filter goodWord ++ (vx_atS RX11 118 "java/lang/IllegalStateException" ["java/lang/RuntimeException", "java/lang/Exception"]).filter goodWord)
def wsL_pass_r1 : List Cond := [Cond.classLink RL 15 "java/lang/IllegalArgumentException", Cond.classLink RL 17 "java/lang/IllegalStateException", Cond.methodLink RL 59 yX11_pass, Cond.instanceMethod yX11_pass, Cond.selects RX11 yX11_pass yX11_pass, Cond.initialized RX11, Cond.code yX11_pass cX11_pass 4 (some .int), Cond.classLink RX11 114 "java/lang/IllegalStateException", Cond.initialized "java/lang/IllegalStateException", Cond.fieldLink RX11 88 "SlipstreamCache" "now" "I", Cond.fieldLink RX11 92 "SlipstreamCache" "down" "Z", Cond.methodLink RX11 99 yX11_requireWithin, Cond.static yX11_requireWithin, Cond.code yX11_requireWithin cX11_requireWithin 3 none, Cond.classLink RX11 211 "java/lang/IllegalArgumentException", Cond.initialized "java/lang/IllegalArgumentException", Cond.methodLink RX11 258 yX11_keepPromises, Cond.instanceMethod yX11_keepPromises, Cond.selects RX11 yX11_keepPromises yX11_keepPromises, Cond.code yX11_keepPromises cX11_keepPromises 6 (some .int), Cond.fieldLink RX11 54 "SlipstreamCache" "pledges" "LSlipstreamCache$Pledges;", Cond.fieldLink RX11 12 "SlipstreamCache" "keys" "LSlipstreamCache$Keys;", Cond.fieldLink RX11 447 "SlipstreamCache$Pledges" "due" "[I", Cond.methodLink RX11 320 yX8_nextOf]
def wsL_pass_r2 : List Cond := [Cond.instanceMethod yX8_nextOf, Cond.selects RX8 yX8_nextOf yX8_nextOf, Cond.initialized RX8, Cond.code yX8_nextOf cX8_nextOf 6 (some .int), Cond.fieldLink RX8 9 "SlipstreamCache$Pledges" "waiting" "[Z", Cond.fieldLink RX8 26 "SlipstreamCache$Keys" "groups" "[I", Cond.methodLink RX8 31 yX8_isBefore, Cond.instanceMethod yX8_isBefore, Cond.selects RX8 yX8_isBefore yX8_isBefore, Cond.code yX8_isBefore cX8_isBefore 4 (some .boolean), Cond.fieldLink RX8 19 "SlipstreamCache$Pledges" "due" "[I", Cond.fieldLink RX8 35 "SlipstreamCache$Keys" "costs" "[I", Cond.methodLink RX11 241 yX11_keepPromise, Cond.instanceMethod yX11_keepPromise, Cond.selects RX11 yX11_keepPromise yX11_keepPromise, Cond.code yX11_keepPromise cX11_keepPromise 3 none, Cond.fieldLink RX11 446 "SlipstreamCache$Pledges" "values" "[I", Cond.fieldLink RX11 40 "SlipstreamCache" "memory" "LSlipstreamCache$Memory;", Cond.fieldLink RX11 292 "SlipstreamCache$Memory" "present" "[Z", Cond.fieldLink RX11 306 "SlipstreamCache$Memory" "copies" "LSlipstreamCache$Copies;", Cond.fieldLink RX11 307 "SlipstreamCache$Copies" "versions" "[I", Cond.fieldLink RX11 375 "SlipstreamCache$Copies" "minutes" "[I", Cond.methodLink RX11 234 yX11_writeStore, Cond.instanceMethod yX11_writeStore]
def wsL_pass_r3 : List Cond := [Cond.selects RX11 yX11_writeStore yX11_writeStore, Cond.code yX11_writeStore cX11_writeStore 4 (some .int), Cond.fieldLink RX11 19 "SlipstreamCache" "store" "LSlipstreamCache$Store;", Cond.fieldLink RX11 26 "SlipstreamCache" "mirror" "LSlipstreamCache$Mirror;", Cond.methodLink RX11 437 yX10_put, Cond.instanceMethod yX10_put, Cond.selects RX10 yX10_put yX10_put, Cond.initialized RX10, Cond.code yX10_put cX10_put 4 (some .int), Cond.fieldLink RX10 9 "SlipstreamCache$Store" "values" "[I", Cond.fieldLink RX10 15 "SlipstreamCache$Store" "versions" "[I", Cond.fieldLink RX10 27 "SlipstreamCache$Store" "logged" "I", Cond.fieldLink RX10 18 "SlipstreamCache$Store" "logKeys" "[I", Cond.fieldLink RX10 21 "SlipstreamCache$Store" "logVersions" "[I", Cond.fieldLink RX10 24 "SlipstreamCache$Store" "logMinutes" "[I", Cond.methodLink RX11 439 yX7_send, Cond.instanceMethod yX7_send, Cond.selects RX7 yX7_send yX7_send, Cond.initialized RX7, Cond.code yX7_send cX7_send 4 none, Cond.fieldLink RX7 27 "SlipstreamCache$Mirror" "count" "I", Cond.fieldLink RX7 18 "SlipstreamCache$Mirror" "sentKeys" "[I", Cond.fieldLink RX7 21 "SlipstreamCache$Mirror" "sentVersions" "[I", Cond.fieldLink RX7 24 "SlipstreamCache$Mirror" "sentValues" "[I"]
def wsL_pass_r4 : List Cond := [Cond.methodLink RX11 442 yX8_remove, Cond.instanceMethod yX8_remove, Cond.selects RX8 yX8_remove yX8_remove, Cond.code yX8_remove cX8_remove 2 none, Cond.fieldLink RX8 22 "SlipstreamCache$Pledges" "count" "I"]
def wsL_pass : List Cond := .codeWith yL_pass cL_pass 4 (some .int) [(0, 9, 12, 15), (0, 9, 15, 17)] :: ((wsL_pass_r1 ++ (wsL_pass_r2 ++ (wsL_pass_r3 ++ wsL_pass_r4))) ++ wsX110 ++ wsX80 ++ wsX40 ++ wsX60 ++ wsX20 ++ wsX100 ++ wsX70 ++ (vx_atM "java/lang/ArrayIndexOutOfBoundsException" ["java/lang/IndexOutOfBoundsException", "java/lang/RuntimeException", "java/lang/Exception"]).filter goodWord ++ (vx_atS RX11 118 "java/lang/IllegalStateException" ["java/lang/RuntimeException", "java/lang/Exception"]).filter goodWord ++ (vx_atS RX11 215 "java/lang/IllegalArgumentException" ["java/lang/RuntimeException", "java/lang/Exception"]).filter goodWord)
def wsL_crash_r1 : List Cond := [Cond.classLink RL 17 "java/lang/IllegalStateException", Cond.methodLink RL 62 yX11_crash, Cond.instanceMethod yX11_crash, Cond.selects RX11 yX11_crash yX11_crash, Cond.initialized RX11, Cond.code yX11_crash cX11_crash 2 (some .int), Cond.fieldLink RX11 40 "SlipstreamCache" "memory" "LSlipstreamCache$Memory;", Cond.fieldLink RX11 33 "SlipstreamCache" "sketch" "LSlipstreamCache$Sketch;", Cond.fieldLink RX11 61 "SlipstreamCache" "leases" "LSlipstreamCache$Leases;", Cond.fieldLink RX11 47 "SlipstreamCache" "flash" "LSlipstreamCache$Flash;", Cond.fieldLink RX11 92 "SlipstreamCache" "down" "Z", Cond.methodLink RX11 103 yX11_requireUp, Cond.instanceMethod yX11_requireUp, Cond.selects RX11 yX11_requireUp yX11_requireUp, Cond.code yX11_requireUp cX11_requireUp 1 none, Cond.classLink RX11 114 "java/lang/IllegalStateException", Cond.initialized "java/lang/IllegalStateException", Cond.methodLink RX11 266 yX6_entries, Cond.instanceMethod yX6_entries, Cond.selects RX6 yX6_entries yX6_entries, Cond.initialized RX6, Cond.code yX6_entries cX6_entries 3 (some .int), Cond.fieldLink RX6 20 "SlipstreamCache$Memory" "present" "[Z", Cond.methodLink RX11 270 yX6_clear]
def wsL_crash_r2 : List Cond := [Cond.instanceMethod yX6_clear, Cond.selects RX6 yX6_clear yX6_clear, Cond.code yX6_clear cX6_clear 2 none, Cond.fieldLink RX6 32 "SlipstreamCache$Memory" "filled" "I", Cond.methodLink RX11 273 yX9_clear, Cond.instanceMethod yX9_clear, Cond.selects RX9 yX9_clear yX9_clear, Cond.initialized RX9, Cond.code yX9_clear cX9_clear 2 none, Cond.fieldLink RX9 15 "SlipstreamCache$Sketch" "counted" "I", Cond.fieldLink RX9 9 "SlipstreamCache$Sketch" "counters" "[I", Cond.methodLink RX11 274 yX5_voidAll, Cond.instanceMethod yX5_voidAll, Cond.selects RX5 yX5_voidAll yX5_voidAll, Cond.initialized RX5, Cond.code yX5_voidAll cX5_voidAll 2 none, Cond.methodLink RX5 47 yX5_voidFor, Cond.instanceMethod yX5_voidFor, Cond.selects RX5 yX5_voidFor yX5_voidFor, Cond.code yX5_voidFor cX5_voidFor 3 none, Cond.fieldLink RX5 35 "SlipstreamCache$Leases" "count" "I", Cond.fieldLink RX5 20 "SlipstreamCache$Leases" "keyOf" "[I", Cond.fieldLink RX5 31 "SlipstreamCache$Leases" "ends" "[C", Cond.methodLink RX11 277 yX3_loseIndex]
def wsL_crash_r3 : List Cond := [Cond.instanceMethod yX3_loseIndex, Cond.selects RX3 yX3_loseIndex yX3_loseIndex, Cond.initialized RX3, Cond.code yX3_loseIndex cX3_loseIndex 2 none, Cond.fieldLink RX3 24 "SlipstreamCache$Flash" "index" "[I"]
def wsL_crash : List Cond := .codeWith yL_crash cL_crash 3 (some .int) [(0, 8, 11, 17)] :: ((wsL_crash_r1 ++ (wsL_crash_r2 ++ wsL_crash_r3)) ++ wsX110 ++ wsX60 ++ wsX90 ++ wsX50 ++ wsX30 ++ (vx_atM "java/lang/ArrayIndexOutOfBoundsException" ["java/lang/IndexOutOfBoundsException", "java/lang/RuntimeException", "java/lang/Exception"]).filter goodWord ++ (vx_atS RX11 118 "java/lang/IllegalStateException" ["java/lang/RuntimeException", "java/lang/Exception"]).filter goodWord)
def wsL_recover_r1 : List Cond := [Cond.classLink RL 17 "java/lang/IllegalStateException", Cond.methodLink RL 65 yX11_recover, Cond.instanceMethod yX11_recover, Cond.selects RX11 yX11_recover yX11_recover, Cond.initialized RX11, Cond.code yX11_recover cX11_recover 1 (some .int), Cond.classLink RX11 114 "java/lang/IllegalStateException", Cond.initialized "java/lang/IllegalStateException", Cond.fieldLink RX11 92 "SlipstreamCache" "down" "Z", Cond.fieldLink RX11 47 "SlipstreamCache" "flash" "LSlipstreamCache$Flash;", Cond.fieldLink RX11 12 "SlipstreamCache" "keys" "LSlipstreamCache$Keys;", Cond.methodLink RX11 258 yX11_keepPromises, Cond.instanceMethod yX11_keepPromises, Cond.selects RX11 yX11_keepPromises yX11_keepPromises, Cond.code yX11_keepPromises cX11_keepPromises 6 (some .int), Cond.fieldLink RX11 54 "SlipstreamCache" "pledges" "LSlipstreamCache$Pledges;", Cond.fieldLink RX11 447 "SlipstreamCache$Pledges" "due" "[I", Cond.methodLink RX11 320 yX8_nextOf, Cond.instanceMethod yX8_nextOf, Cond.selects RX8 yX8_nextOf yX8_nextOf, Cond.initialized RX8, Cond.code yX8_nextOf cX8_nextOf 6 (some .int), Cond.fieldLink RX8 9 "SlipstreamCache$Pledges" "waiting" "[Z", Cond.fieldLink RX8 26 "SlipstreamCache$Keys" "groups" "[I"]
def wsL_recover_r2 : List Cond := [Cond.methodLink RX8 31 yX8_isBefore, Cond.instanceMethod yX8_isBefore, Cond.selects RX8 yX8_isBefore yX8_isBefore, Cond.code yX8_isBefore cX8_isBefore 4 (some .boolean), Cond.fieldLink RX8 19 "SlipstreamCache$Pledges" "due" "[I", Cond.fieldLink RX8 35 "SlipstreamCache$Keys" "costs" "[I", Cond.methodLink RX11 241 yX11_keepPromise, Cond.instanceMethod yX11_keepPromise, Cond.selects RX11 yX11_keepPromise yX11_keepPromise, Cond.code yX11_keepPromise cX11_keepPromise 3 none, Cond.fieldLink RX11 446 "SlipstreamCache$Pledges" "values" "[I", Cond.fieldLink RX11 40 "SlipstreamCache" "memory" "LSlipstreamCache$Memory;", Cond.fieldLink RX11 292 "SlipstreamCache$Memory" "present" "[Z", Cond.fieldLink RX11 306 "SlipstreamCache$Memory" "copies" "LSlipstreamCache$Copies;", Cond.fieldLink RX11 307 "SlipstreamCache$Copies" "versions" "[I", Cond.fieldLink RX11 375 "SlipstreamCache$Copies" "minutes" "[I", Cond.fieldLink RX11 88 "SlipstreamCache" "now" "I", Cond.methodLink RX11 234 yX11_writeStore, Cond.instanceMethod yX11_writeStore, Cond.selects RX11 yX11_writeStore yX11_writeStore, Cond.code yX11_writeStore cX11_writeStore 4 (some .int), Cond.fieldLink RX11 19 "SlipstreamCache" "store" "LSlipstreamCache$Store;", Cond.fieldLink RX11 26 "SlipstreamCache" "mirror" "LSlipstreamCache$Mirror;", Cond.methodLink RX11 437 yX10_put]
def wsL_recover_r3 : List Cond := [Cond.instanceMethod yX10_put, Cond.selects RX10 yX10_put yX10_put, Cond.initialized RX10, Cond.code yX10_put cX10_put 4 (some .int), Cond.fieldLink RX10 9 "SlipstreamCache$Store" "values" "[I", Cond.fieldLink RX10 15 "SlipstreamCache$Store" "versions" "[I", Cond.fieldLink RX10 27 "SlipstreamCache$Store" "logged" "I", Cond.fieldLink RX10 18 "SlipstreamCache$Store" "logKeys" "[I", Cond.fieldLink RX10 21 "SlipstreamCache$Store" "logVersions" "[I", Cond.fieldLink RX10 24 "SlipstreamCache$Store" "logMinutes" "[I", Cond.methodLink RX11 439 yX7_send, Cond.instanceMethod yX7_send, Cond.selects RX7 yX7_send yX7_send, Cond.initialized RX7, Cond.code yX7_send cX7_send 4 none, Cond.fieldLink RX7 27 "SlipstreamCache$Mirror" "count" "I", Cond.fieldLink RX7 18 "SlipstreamCache$Mirror" "sentKeys" "[I", Cond.fieldLink RX7 21 "SlipstreamCache$Mirror" "sentVersions" "[I", Cond.fieldLink RX7 24 "SlipstreamCache$Mirror" "sentValues" "[I", Cond.methodLink RX11 442 yX8_remove, Cond.instanceMethod yX8_remove, Cond.selects RX8 yX8_remove yX8_remove, Cond.code yX8_remove cX8_remove 2 none, Cond.fieldLink RX8 22 "SlipstreamCache$Pledges" "count" "I"]
def wsL_recover_r4 : List Cond := [Cond.methodLink RX11 282 yX3_readAgain, Cond.instanceMethod yX3_readAgain, Cond.selects RX3 yX3_readAgain yX3_readAgain, Cond.initialized RX3, Cond.code yX3_readAgain cX3_readAgain 5 none, Cond.fieldLink RX3 30 "SlipstreamCache$Flash" "next" "I", Cond.fieldLink RX3 20 "SlipstreamCache$Flash" "signs" "[I", Cond.fieldLink RX3 24 "SlipstreamCache$Flash" "index" "[I", Cond.fieldLink RX3 14 "SlipstreamCache$Flash" "copies" "LSlipstreamCache$Copies;", Cond.fieldLink RX3 48 "SlipstreamCache$Copies" "numbers" "[I", Cond.methodLink RX3 51 yX4_numberFor, Cond.instanceMethod yX4_numberFor, Cond.selects RX4 yX4_numberFor yX4_numberFor, Cond.initialized RX4, Cond.code yX4_numberFor cX4_numberFor 2 (some .int), Cond.fieldLink RX4 21 "SlipstreamCache$Keys" "numbers" "[I", Cond.fieldLink RX4 18 "SlipstreamCache$Keys" "groups" "[I", Cond.methodLink RX11 286 yX11_comeAgain, Cond.instanceMethod yX11_comeAgain, Cond.selects RX11 yX11_comeAgain yX11_comeAgain, Cond.code yX11_comeAgain cX11_comeAgain 3 none, Cond.fieldLink RX11 75 "SlipstreamCache" "choice" "LSlipstreamCache$Choice;", Cond.fieldLink RX11 405 "SlipstreamCache$Choice" "chosen" "[Z", Cond.fieldLink RX11 298 "SlipstreamCache$Memory" "filled" "I"]
def wsL_recover_r5 : List Cond := [Cond.fieldLink RX11 125 "SlipstreamCache$Keys" "sizes" "[I", Cond.fieldLink RX11 84 "SlipstreamCache" "incoming" "LSlipstreamCache$Copies;", Cond.fieldLink RX11 308 "SlipstreamCache$Flash" "copies" "LSlipstreamCache$Copies;", Cond.fieldLink RX11 295 "SlipstreamCache$Flash" "index" "[I", Cond.methodLink RX11 392 yX1_clear, Cond.instanceMethod yX1_clear, Cond.selects RX1 yX1_clear yX1_clear, Cond.initialized RX1, Cond.code yX1_clear cX1_clear 2 none, Cond.fieldLink RX1 22 "SlipstreamCache$Choice" "count" "I", Cond.fieldLink RX1 26 "SlipstreamCache$Choice" "sum" "I", Cond.fieldLink RX1 9 "SlipstreamCache$Choice" "chosen" "[Z", Cond.methodLink RX11 431 yX11_nextToComeAgain, Cond.instanceMethod yX11_nextToComeAgain, Cond.selects RX11 yX11_nextToComeAgain yX11_nextToComeAgain, Cond.code yX11_nextToComeAgain cX11_nextToComeAgain 4 (some .int), Cond.methodLink RX11 434 yX11_comesAgainBefore, Cond.instanceMethod yX11_comesAgainBefore, Cond.selects RX11 yX11_comesAgainBefore yX11_comesAgainBefore, Cond.code yX11_comesAgainBefore cX11_comesAgainBefore 4 (some .boolean), Cond.fieldLink RX11 128 "SlipstreamCache$Keys" "costs" "[I", Cond.methodLink RX11 204 yX2_take, Cond.instanceMethod yX2_take, Cond.selects RX2 yX2_take yX2_take]
def wsL_recover_r6 : List Cond := [Cond.initialized RX2, Cond.code yX2_take cX2_take 4 none, Cond.fieldLink RX2 7 "SlipstreamCache$Copies" "values" "[I", Cond.fieldLink RX2 13 "SlipstreamCache$Copies" "versions" "[I", Cond.fieldLink RX2 16 "SlipstreamCache$Copies" "minutes" "[I", Cond.fieldLink RX2 19 "SlipstreamCache$Copies" "numbers" "[I", Cond.methodLink RX2 22 yX2_put, Cond.instanceMethod yX2_put, Cond.selects RX2 yX2_put yX2_put, Cond.code yX2_put cX2_put 6 none, Cond.methodLink RX11 428 yX6_put, Cond.instanceMethod yX6_put, Cond.selects RX6 yX6_put yX6_put, Cond.initialized RX6, Cond.code yX6_put cX6_put 4 none, Cond.fieldLink RX6 20 "SlipstreamCache$Memory" "present" "[Z", Cond.fieldLink RX6 32 "SlipstreamCache$Memory" "filled" "I", Cond.fieldLink RX6 14 "SlipstreamCache$Memory" "copies" "LSlipstreamCache$Copies;", Cond.methodLink RX6 35 yX2_take, Cond.methodLink RX6 39 yX6_touch, Cond.instanceMethod yX6_touch, Cond.selects RX6 yX6_touch yX6_touch, Cond.code yX6_touch cX6_touch 2 none, Cond.fieldLink RX6 28 "SlipstreamCache$Memory" "uses" "I"]
def wsL_recover_r7 : List Cond := [Cond.fieldLink RX6 24 "SlipstreamCache$Memory" "usedAt" "[I", Cond.methodLink RX11 289 yX3_indexed, Cond.instanceMethod yX3_indexed, Cond.selects RX3 yX3_indexed yX3_indexed, Cond.code yX3_indexed cX3_indexed 3 (some .int)]
def wsL_recover : List Cond := .codeWith yL_recover cL_recover 3 (some .int) [(0, 8, 11, 17)] :: ((wsL_recover_r1 ++ (wsL_recover_r2 ++ (wsL_recover_r3 ++ (wsL_recover_r4 ++ (wsL_recover_r5 ++ (wsL_recover_r6 ++ wsL_recover_r7)))))) ++ wsX110 ++ wsX80 ++ wsX40 ++ wsX60 ++ wsX20 ++ wsX100 ++ wsX70 ++ wsX30 ++ wsX10 ++ (vx_atM "java/lang/ArrayIndexOutOfBoundsException" ["java/lang/IndexOutOfBoundsException", "java/lang/RuntimeException", "java/lang/Exception"]).filter goodWord ++ (vx_atS RX11 118 "java/lang/IllegalStateException" ["java/lang/RuntimeException", "java/lang/Exception"]).filter goodWord)
def wsL_where : List Cond := .codeWith yL_where cL_where 4 (some .int) [(0, 9, 12, 13)] :: ([.classLink RL 13 "java/lang/IndexOutOfBoundsException", .methodLink RL 68 yX11_where, .instanceMethod yX11_where, .selects RX11 yX11_where yX11_where, .initialized RX11, .code yX11_where cX11_where 2 (some .char), .fieldLink RX11 40 "SlipstreamCache" "memory" "LSlipstreamCache$Memory;", .fieldLink RX11 292 "SlipstreamCache$Memory" "present" "[Z", .fieldLink RX11 54 "SlipstreamCache" "pledges" "LSlipstreamCache$Pledges;", .fieldLink RX11 238 "SlipstreamCache$Pledges" "waiting" "[Z", .fieldLink RX11 47 "SlipstreamCache" "flash" "LSlipstreamCache$Flash;", .fieldLink RX11 295 "SlipstreamCache$Flash" "index" "[I", .methodLink RX11 96 yX11_requireKey, .static yX11_requireKey, .code yX11_requireKey cX11_requireKey 1 none, .classLink RX11 253 "java/lang/IndexOutOfBoundsException", .initialized "java/lang/IndexOutOfBoundsException"] ++ wsX110 ++ wsX60 ++ wsX80 ++ wsX30 ++ (vx_atM "java/lang/ArrayIndexOutOfBoundsException" ["java/lang/IndexOutOfBoundsException", "java/lang/RuntimeException", "java/lang/Exception"]).filter goodWord ++ (vx_atS RX11 257 "java/lang/IndexOutOfBoundsException" ["java/lang/RuntimeException", "java/lang/Exception"]).filter goodWord)
def wsL_estimate : List Cond := .codeWith yL_estimate cL_estimate 4 (some .int) [(0, 9, 12, 13)] :: ([.classLink RL 13 "java/lang/IndexOutOfBoundsException", .methodLink RL 71 yX11_estimate, .instanceMethod yX11_estimate, .selects RX11 yX11_estimate yX11_estimate, .initialized RX11, .code yX11_estimate cX11_estimate 2 (some .int), .fieldLink RX11 33 "SlipstreamCache" "sketch" "LSlipstreamCache$Sketch;", .methodLink RX11 96 yX11_requireKey, .static yX11_requireKey, .code yX11_requireKey cX11_requireKey 1 none, .classLink RX11 253 "java/lang/IndexOutOfBoundsException", .initialized "java/lang/IndexOutOfBoundsException", .methodLink RX11 301 yX9_leastOf, .instanceMethod yX9_leastOf, .selects RX9 yX9_leastOf yX9_leastOf, .initialized RX9, .code yX9_leastOf cX9_leastOf 5 (some .int), .fieldLink RX9 9 "SlipstreamCache$Sketch" "counters" "[I", .methodLink RX9 22 yX9_placeOf, .static yX9_placeOf, .code yX9_placeOf cX9_placeOf 2 (some .int)] ++ wsX110 ++ wsX90 ++ (vx_atM "java/lang/ArrayIndexOutOfBoundsException" ["java/lang/IndexOutOfBoundsException", "java/lang/RuntimeException", "java/lang/Exception"]).filter goodWord ++ (vx_atS RX11 257 "java/lang/IndexOutOfBoundsException" ["java/lang/RuntimeException", "java/lang/Exception"]).filter goodWord)
def wsL_versionOf_r1 : List Cond := [Cond.classLink RL 13 "java/lang/IndexOutOfBoundsException", Cond.classLink RL 29 "java/util/NoSuchElementException", Cond.methodLink RL 74 yX11_versionOf, Cond.instanceMethod yX11_versionOf, Cond.selects RX11 yX11_versionOf yX11_versionOf, Cond.initialized RX11, Cond.code yX11_versionOf cX11_versionOf 2 (some .int), Cond.classLink RX11 161 "java/util/NoSuchElementException", Cond.initialized "java/util/NoSuchElementException", Cond.fieldLink RX11 40 "SlipstreamCache" "memory" "LSlipstreamCache$Memory;", Cond.fieldLink RX11 292 "SlipstreamCache$Memory" "present" "[Z", Cond.fieldLink RX11 306 "SlipstreamCache$Memory" "copies" "LSlipstreamCache$Copies;", Cond.fieldLink RX11 307 "SlipstreamCache$Copies" "versions" "[I", Cond.fieldLink RX11 47 "SlipstreamCache" "flash" "LSlipstreamCache$Flash;", Cond.fieldLink RX11 308 "SlipstreamCache$Flash" "copies" "LSlipstreamCache$Copies;", Cond.fieldLink RX11 295 "SlipstreamCache$Flash" "index" "[I", Cond.methodLink RX11 96 yX11_requireKey, Cond.static yX11_requireKey, Cond.code yX11_requireKey cX11_requireKey 1 none, Cond.classLink RX11 253 "java/lang/IndexOutOfBoundsException", Cond.initialized "java/lang/IndexOutOfBoundsException", Cond.methodLink RX11 106 yX11_isKept, Cond.instanceMethod yX11_isKept, Cond.selects RX11 yX11_isKept yX11_isKept]
def wsL_versionOf_r2 : List Cond := [Cond.code yX11_isKept cX11_isKept 2 (some .boolean)]
def wsL_versionOf : List Cond := .codeWith yL_versionOf cL_versionOf 4 (some .int) [(0, 9, 12, 13), (0, 9, 15, 29)] :: ((wsL_versionOf_r1 ++ wsL_versionOf_r2) ++ wsX110 ++ wsX60 ++ wsX20 ++ wsX30 ++ (vx_atM "java/lang/ArrayIndexOutOfBoundsException" ["java/lang/IndexOutOfBoundsException", "java/lang/RuntimeException", "java/lang/Exception"]).filter goodWord ++ (nx_atS RX11 165 "java/util/NoSuchElementException" ["java/lang/RuntimeException", "java/lang/Exception"]).filter goodWord ++ (vx_atS RX11 257 "java/lang/IndexOutOfBoundsException" ["java/lang/RuntimeException", "java/lang/Exception"]).filter goodWord)
def wsL_slot : List Cond := .codeWith yL_slot cL_slot 5 (some .int) [(0, 10, 13, 13)] :: ([.classLink RL 13 "java/lang/IndexOutOfBoundsException", .methodLink RL 77 yX11_slot, .instanceMethod yX11_slot, .selects RX11 yX11_slot yX11_slot, .initialized RX11, .code yX11_slot cX11_slot 3 (some .int), .classLink RX11 253 "java/lang/IndexOutOfBoundsException", .initialized "java/lang/IndexOutOfBoundsException", .fieldLink RX11 47 "SlipstreamCache" "flash" "LSlipstreamCache$Flash;", .fieldLink RX11 314 "SlipstreamCache$Flash" "signs" "[I", .methodLink RX11 309 yX11_requireSegment, .static yX11_requireSegment, .code yX11_requireSegment cX11_requireSegment 1 none] ++ wsX110 ++ wsX30 ++ (vx_atM "java/lang/ArrayIndexOutOfBoundsException" ["java/lang/IndexOutOfBoundsException", "java/lang/RuntimeException", "java/lang/Exception"]).filter goodWord ++ (vx_atS RX11 257 "java/lang/IndexOutOfBoundsException" ["java/lang/RuntimeException", "java/lang/Exception"]).filter goodWord)
def wsL_wear : List Cond := .codeWith yL_wear cL_wear 4 (some .int) [(0, 9, 12, 13)] :: ([.classLink RL 13 "java/lang/IndexOutOfBoundsException", .methodLink RL 81 yX11_wear, .instanceMethod yX11_wear, .selects RX11 yX11_wear yX11_wear, .initialized RX11, .code yX11_wear cX11_wear 2 (some .int), .fieldLink RX11 47 "SlipstreamCache" "flash" "LSlipstreamCache$Flash;", .fieldLink RX11 317 "SlipstreamCache$Flash" "wears" "[I", .methodLink RX11 309 yX11_requireSegment, .static yX11_requireSegment, .code yX11_requireSegment cX11_requireSegment 1 none, .classLink RX11 253 "java/lang/IndexOutOfBoundsException", .initialized "java/lang/IndexOutOfBoundsException"] ++ wsX110 ++ wsX30 ++ (vx_atM "java/lang/ArrayIndexOutOfBoundsException" ["java/lang/IndexOutOfBoundsException", "java/lang/RuntimeException", "java/lang/Exception"]).filter goodWord ++ (vx_atS RX11 257 "java/lang/IndexOutOfBoundsException" ["java/lang/RuntimeException", "java/lang/Exception"]).filter goodWord)
def wsL_stored : List Cond := .codeWith yL_stored cL_stored 4 (some .int) [(0, 9, 12, 13)] :: ([.classLink RL 13 "java/lang/IndexOutOfBoundsException", .methodLink RL 84 yX11_stored, .instanceMethod yX11_stored, .selects RX11 yX11_stored yX11_stored, .initialized RX11, .code yX11_stored cX11_stored 2 (some .int), .fieldLink RX11 19 "SlipstreamCache" "store" "LSlipstreamCache$Store;", .fieldLink RX11 177 "SlipstreamCache$Store" "values" "[I", .methodLink RX11 96 yX11_requireKey, .static yX11_requireKey, .code yX11_requireKey cX11_requireKey 1 none, .classLink RX11 253 "java/lang/IndexOutOfBoundsException", .initialized "java/lang/IndexOutOfBoundsException"] ++ wsX110 ++ wsX100 ++ (vx_atM "java/lang/ArrayIndexOutOfBoundsException" ["java/lang/IndexOutOfBoundsException", "java/lang/RuntimeException", "java/lang/Exception"]).filter goodWord ++ (vx_atS RX11 257 "java/lang/IndexOutOfBoundsException" ["java/lang/RuntimeException", "java/lang/Exception"]).filter goodWord)
def wsL_nextPromise : List Cond := .codeWith yL_nextPromise cL_nextPromise 3 (some .int) [(0, 8, 11, 29)] :: ([.classLink RL 29 "java/util/NoSuchElementException", .methodLink RL 87 yX11_nextPromise, .instanceMethod yX11_nextPromise, .selects RX11 yX11_nextPromise yX11_nextPromise, .initialized RX11, .code yX11_nextPromise cX11_nextPromise 2 (some .int), .classLink RX11 161 "java/util/NoSuchElementException", .initialized "java/util/NoSuchElementException", .fieldLink RX11 54 "SlipstreamCache" "pledges" "LSlipstreamCache$Pledges;", .fieldLink RX11 12 "SlipstreamCache" "keys" "LSlipstreamCache$Keys;", .methodLink RX11 320 yX8_nextOf, .instanceMethod yX8_nextOf, .selects RX8 yX8_nextOf yX8_nextOf, .initialized RX8, .code yX8_nextOf cX8_nextOf 6 (some .int), .fieldLink RX8 9 "SlipstreamCache$Pledges" "waiting" "[Z", .fieldLink RX8 26 "SlipstreamCache$Keys" "groups" "[I", .methodLink RX8 31 yX8_isBefore, .instanceMethod yX8_isBefore, .selects RX8 yX8_isBefore yX8_isBefore, .code yX8_isBefore cX8_isBefore 4 (some .boolean), .fieldLink RX8 19 "SlipstreamCache$Pledges" "due" "[I", .fieldLink RX8 35 "SlipstreamCache$Keys" "costs" "[I"] ++ wsX110 ++ wsX80 ++ wsX40 ++ (vx_atM "java/lang/ArrayIndexOutOfBoundsException" ["java/lang/IndexOutOfBoundsException", "java/lang/RuntimeException", "java/lang/Exception"]).filter goodWord ++ (nx_atS RX11 165 "java/util/NoSuchElementException" ["java/lang/RuntimeException", "java/lang/Exception"]).filter goodWord)
def wsL_deliver : List Cond := .codeWith yL_deliver cL_deliver 4 (some .int) [(0, 16, 19, 13)] :: ([.classLink RL 13 "java/lang/IndexOutOfBoundsException", .methodLink RL 90 yX11_deliver, .instanceMethod yX11_deliver, .selects RX11 yX11_deliver yX11_deliver, .initialized RX11, .code yX11_deliver cX11_deliver 2 (some .boolean), .classLink RX11 253 "java/lang/IndexOutOfBoundsException", .initialized "java/lang/IndexOutOfBoundsException", .fieldLink RX11 26 "SlipstreamCache" "mirror" "LSlipstreamCache$Mirror;", .fieldLink RX11 326 "SlipstreamCache$Mirror" "count" "I", .methodLink RX11 329 yX7_receive, .instanceMethod yX7_receive, .selects RX7 yX7_receive yX7_receive, .initialized RX7, .code yX7_receive cX7_receive 5 (some .boolean), .fieldLink RX7 18 "SlipstreamCache$Mirror" "sentKeys" "[I", .fieldLink RX7 21 "SlipstreamCache$Mirror" "sentVersions" "[I", .fieldLink RX7 15 "SlipstreamCache$Mirror" "versions" "[I", .fieldLink RX7 9 "SlipstreamCache$Mirror" "values" "[I", .fieldLink RX7 24 "SlipstreamCache$Mirror" "sentValues" "[I", .fieldLink RX7 27 "SlipstreamCache$Mirror" "count" "I"] ++ wsX110 ++ wsX70 ++ (vx_atM "java/lang/ArrayIndexOutOfBoundsException" ["java/lang/IndexOutOfBoundsException", "java/lang/RuntimeException", "java/lang/Exception"]).filter goodWord ++ (vx_atS RX11 257 "java/lang/IndexOutOfBoundsException" ["java/lang/RuntimeException", "java/lang/Exception"]).filter goodWord)
def wsL_mirrored : List Cond := .codeWith yL_mirrored cL_mirrored 4 (some .int) [(0, 9, 12, 13)] :: ([.classLink RL 13 "java/lang/IndexOutOfBoundsException", .methodLink RL 93 yX11_mirrored, .instanceMethod yX11_mirrored, .selects RX11 yX11_mirrored yX11_mirrored, .initialized RX11, .code yX11_mirrored cX11_mirrored 2 (some .int), .fieldLink RX11 26 "SlipstreamCache" "mirror" "LSlipstreamCache$Mirror;", .fieldLink RX11 332 "SlipstreamCache$Mirror" "values" "[I", .methodLink RX11 96 yX11_requireKey, .static yX11_requireKey, .code yX11_requireKey cX11_requireKey 1 none, .classLink RX11 253 "java/lang/IndexOutOfBoundsException", .initialized "java/lang/IndexOutOfBoundsException"] ++ wsX110 ++ wsX70 ++ (vx_atM "java/lang/ArrayIndexOutOfBoundsException" ["java/lang/IndexOutOfBoundsException", "java/lang/RuntimeException", "java/lang/Exception"]).filter goodWord ++ (vx_atS RX11 257 "java/lang/IndexOutOfBoundsException" ["java/lang/RuntimeException", "java/lang/Exception"]).filter goodWord)
def wsL_answeredShare : List Cond := .codeWith yL_answeredShare cL_answeredShare 3 (some .int) [(0, 8, 11, 100)] :: ([.classLink RL 100 "java/lang/ArithmeticException", .methodLink RL 96 yX11_answeredShare, .instanceMethod yX11_answeredShare, .selects RX11 yX11_answeredShare yX11_answeredShare, .initialized RX11, .code yX11_answeredShare cX11_answeredShare 1 (some .float), .classLink RX11 339 "java/lang/ArithmeticException", .initialized "java/lang/ArithmeticException", .fieldLink RX11 68 "SlipstreamCache" "answers" "LSlipstreamCache$Answers;", .fieldLink RX11 336 "SlipstreamCache$Answers" "asked" "I", .fieldLink RX11 344 "SlipstreamCache$Answers" "answered" "I"] ++ wsX110 ++ wsX00 ++ (vx_atM "java/lang/ArrayIndexOutOfBoundsException" ["java/lang/IndexOutOfBoundsException", "java/lang/RuntimeException", "java/lang/Exception"]).filter goodWord ++ (vx_atS RX11 343 "java/lang/ArithmeticException" ["java/lang/RuntimeException", "java/lang/Exception"]).filter goodWord)
def wsL_meanStaleness : List Cond := .codeWith yL_meanStaleness cL_meanStaleness 3 (some .int) [(0, 7, 10, 100)] :: ([.classLink RL 100 "java/lang/ArithmeticException", .methodLink RL 102 yX11_meanStaleness, .instanceMethod yX11_meanStaleness, .selects RX11 yX11_meanStaleness yX11_meanStaleness, .initialized RX11, .code yX11_meanStaleness cX11_meanStaleness 1 (some .double), .classLink RX11 339 "java/lang/ArithmeticException", .initialized "java/lang/ArithmeticException", .fieldLink RX11 68 "SlipstreamCache" "answers" "LSlipstreamCache$Answers;", .fieldLink RX11 344 "SlipstreamCache$Answers" "answered" "I", .fieldLink RX11 349 "SlipstreamCache$Answers" "staleMinutes" "J"] ++ wsX110 ++ wsX00 ++ (vx_atM "java/lang/ArrayIndexOutOfBoundsException" ["java/lang/IndexOutOfBoundsException", "java/lang/RuntimeException", "java/lang/Exception"]).filter goodWord ++ (vx_atS RX11 343 "java/lang/ArithmeticException" ["java/lang/RuntimeException", "java/lang/Exception"]).filter goodWord)
def wsL_law0_r1 : List Cond := [Cond.classLink RL 8 RX11, Cond.instantiable RX11 13, Cond.initialized RX11, Cond.classLink RL 107 RX12, Cond.instantiable RX12 55, Cond.initialized RX12, Cond.arrayClass .long, Cond.arrayClass .double, Cond.methodLink RL 106 yX11_init, Cond.instanceMethod yX11_init, Cond.code yX11_init cX11_init 1 none, Cond.methodLink RX11 3 objectInit, Cond.instanceMethod objectInit, Cond.code objectInit ⟨#[0xb1]⟩ 1 none, Cond.classLink RX11 9 RX4, Cond.instantiable RX4 4, Cond.initialized RX4, Cond.fieldLink RX11 12 "SlipstreamCache" "keys" "LSlipstreamCache$Keys;", Cond.classLink RX11 16 RX10, Cond.instantiable RX10 6, Cond.initialized RX10, Cond.fieldLink RX11 19 "SlipstreamCache" "store" "LSlipstreamCache$Store;", Cond.classLink RX11 23 RX7, Cond.instantiable RX7 6]
def wsL_law0_r2 : List Cond := [Cond.initialized RX7, Cond.fieldLink RX11 26 "SlipstreamCache" "mirror" "LSlipstreamCache$Mirror;", Cond.classLink RX11 30 RX9, Cond.instantiable RX9 2, Cond.initialized RX9, Cond.fieldLink RX11 33 "SlipstreamCache" "sketch" "LSlipstreamCache$Sketch;", Cond.classLink RX11 37 RX6, Cond.instantiable RX6 5, Cond.initialized RX6, Cond.fieldLink RX11 40 "SlipstreamCache" "memory" "LSlipstreamCache$Memory;", Cond.classLink RX11 44 RX3, Cond.instantiable RX3 5, Cond.initialized RX3, Cond.fieldLink RX11 47 "SlipstreamCache" "flash" "LSlipstreamCache$Flash;", Cond.classLink RX11 51 RX8, Cond.instantiable RX8 4, Cond.initialized RX8, Cond.fieldLink RX11 54 "SlipstreamCache" "pledges" "LSlipstreamCache$Pledges;", Cond.classLink RX11 58 RX5, Cond.instantiable RX5 7, Cond.initialized RX5, Cond.fieldLink RX11 61 "SlipstreamCache" "leases" "LSlipstreamCache$Leases;", Cond.classLink RX11 65 RX0, Cond.instantiable RX0 7]
def wsL_law0_r3 : List Cond := [Cond.initialized RX0, Cond.fieldLink RX11 68 "SlipstreamCache" "answers" "LSlipstreamCache$Answers;", Cond.classLink RX11 72 RX1, Cond.instantiable RX1 5, Cond.initialized RX1, Cond.fieldLink RX11 75 "SlipstreamCache" "choice" "LSlipstreamCache$Choice;", Cond.classLink RX11 79 RX2, Cond.instantiable RX2 4, Cond.initialized RX2, Cond.fieldLink RX11 84 "SlipstreamCache" "incoming" "LSlipstreamCache$Copies;", Cond.fieldLink RX11 88 "SlipstreamCache" "now" "I", Cond.fieldLink RX11 92 "SlipstreamCache" "down" "Z", Cond.methodLink RX11 11 yX4_init, Cond.instanceMethod yX4_init, Cond.code yX4_init cX4_init 2 none, Cond.methodLink RX4 3 objectInit, Cond.arrayClass .int, Cond.fieldLink RX4 9 "SlipstreamCache$Keys" "sizes" "[I", Cond.fieldLink RX4 15 "SlipstreamCache$Keys" "costs" "[I", Cond.fieldLink RX4 18 "SlipstreamCache$Keys" "groups" "[I", Cond.fieldLink RX4 21 "SlipstreamCache$Keys" "numbers" "[I", Cond.instanceMethod yX10_init, Cond.code yX10_init cX10_init 1 none, Cond.methodLink RX10 3 objectInit]
def wsL_law0_r4 : List Cond := [Cond.fieldLink RX10 9 "SlipstreamCache$Store" "values" "[I", Cond.fieldLink RX10 15 "SlipstreamCache$Store" "versions" "[I", Cond.fieldLink RX10 18 "SlipstreamCache$Store" "logKeys" "[I", Cond.fieldLink RX10 21 "SlipstreamCache$Store" "logVersions" "[I", Cond.fieldLink RX10 24 "SlipstreamCache$Store" "logMinutes" "[I", Cond.fieldLink RX10 27 "SlipstreamCache$Store" "logged" "I", Cond.instanceMethod yX7_init, Cond.code yX7_init cX7_init 1 none, Cond.methodLink RX7 3 objectInit, Cond.fieldLink RX7 9 "SlipstreamCache$Mirror" "values" "[I", Cond.fieldLink RX7 15 "SlipstreamCache$Mirror" "versions" "[I", Cond.fieldLink RX7 18 "SlipstreamCache$Mirror" "sentKeys" "[I", Cond.fieldLink RX7 21 "SlipstreamCache$Mirror" "sentVersions" "[I", Cond.fieldLink RX7 24 "SlipstreamCache$Mirror" "sentValues" "[I", Cond.fieldLink RX7 27 "SlipstreamCache$Mirror" "count" "I", Cond.instanceMethod yX9_init, Cond.code yX9_init cX9_init 1 none, Cond.methodLink RX9 3 objectInit, Cond.fieldLink RX9 9 "SlipstreamCache$Sketch" "counters" "[I", Cond.fieldLink RX9 15 "SlipstreamCache$Sketch" "counted" "I", Cond.instanceMethod yX6_init, Cond.code yX6_init cX6_init 1 none, Cond.methodLink RX6 3 objectInit, Cond.classLink RX6 9 RX2]
def wsL_law0_r5 : List Cond := [Cond.fieldLink RX6 14 "SlipstreamCache$Memory" "copies" "LSlipstreamCache$Copies;", Cond.arrayClass .boolean, Cond.fieldLink RX6 20 "SlipstreamCache$Memory" "present" "[Z", Cond.fieldLink RX6 24 "SlipstreamCache$Memory" "usedAt" "[I", Cond.fieldLink RX6 28 "SlipstreamCache$Memory" "uses" "I", Cond.fieldLink RX6 32 "SlipstreamCache$Memory" "filled" "I", Cond.methodLink RX6 11 yX2_init, Cond.instanceMethod yX2_init, Cond.code yX2_init cX2_init 3 none, Cond.methodLink RX2 1 objectInit, Cond.fieldLink RX2 7 "SlipstreamCache$Copies" "values" "[I", Cond.fieldLink RX2 13 "SlipstreamCache$Copies" "versions" "[I", Cond.fieldLink RX2 16 "SlipstreamCache$Copies" "minutes" "[I", Cond.fieldLink RX2 19 "SlipstreamCache$Copies" "numbers" "[I", Cond.methodLink RX11 46 yX3_init, Cond.instanceMethod yX3_init, Cond.code yX3_init cX3_init 2 none, Cond.methodLink RX3 3 objectInit, Cond.classLink RX3 9 RX2, Cond.fieldLink RX3 14 "SlipstreamCache$Flash" "copies" "LSlipstreamCache$Copies;", Cond.fieldLink RX3 20 "SlipstreamCache$Flash" "signs" "[I", Cond.fieldLink RX3 24 "SlipstreamCache$Flash" "index" "[I", Cond.fieldLink RX3 27 "SlipstreamCache$Flash" "wears" "[I", Cond.fieldLink RX3 30 "SlipstreamCache$Flash" "next" "I"]
def wsL_law0_r6 : List Cond := [Cond.methodLink RX3 11 yX2_init, Cond.methodLink RX3 34 yX3_loseIndex, Cond.instanceMethod yX3_loseIndex, Cond.selects RX3 yX3_loseIndex yX3_loseIndex, Cond.code yX3_loseIndex cX3_loseIndex 2 none, Cond.instanceMethod yX8_init, Cond.code yX8_init cX8_init 1 none, Cond.methodLink RX8 3 objectInit, Cond.fieldLink RX8 9 "SlipstreamCache$Pledges" "waiting" "[Z", Cond.fieldLink RX8 15 "SlipstreamCache$Pledges" "values" "[I", Cond.fieldLink RX8 19 "SlipstreamCache$Pledges" "due" "[I", Cond.fieldLink RX8 22 "SlipstreamCache$Pledges" "count" "I", Cond.instanceMethod yX5_init, Cond.code yX5_init cX5_init 1 none, Cond.methodLink RX5 3 objectInit, Cond.classLink RX5 9 RX2, Cond.fieldLink RX5 14 "SlipstreamCache$Leases" "copies" "LSlipstreamCache$Copies;", Cond.fieldLink RX5 20 "SlipstreamCache$Leases" "keyOf" "[I", Cond.fieldLink RX5 24 "SlipstreamCache$Leases" "given" "[I", Cond.fieldLink RX5 27 "SlipstreamCache$Leases" "wasRead" "[Z", Cond.arrayClass .char, Cond.fieldLink RX5 31 "SlipstreamCache$Leases" "ends" "[C", Cond.fieldLink RX5 35 "SlipstreamCache$Leases" "count" "I", Cond.fieldLink RX5 39 "SlipstreamCache$Leases" "costs" "J"]
def wsL_law0_r7 : List Cond := [Cond.methodLink RX5 11 yX2_init, Cond.instanceMethod yX0_init, Cond.code yX0_init cX0_init 1 none, Cond.methodLink RX0 1 objectInit, Cond.fieldLink RX0 7 "SlipstreamCache$Answers" "hasLast" "Z", Cond.fieldLink RX0 13 "SlipstreamCache$Answers" "lastValue" "I", Cond.fieldLink RX0 17 "SlipstreamCache$Answers" "lastStaleness" "I", Cond.fieldLink RX0 20 "SlipstreamCache$Answers" "asked" "I", Cond.fieldLink RX0 23 "SlipstreamCache$Answers" "answered" "I", Cond.fieldLink RX0 26 "SlipstreamCache$Answers" "staleMinutes" "J", Cond.fieldLink RX0 30 "SlipstreamCache$Answers" "tooStale" "Z", Cond.instanceMethod yX1_init, Cond.code yX1_init cX1_init 1 none, Cond.methodLink RX1 3 objectInit, Cond.fieldLink RX1 9 "SlipstreamCache$Choice" "chosen" "[Z", Cond.fieldLink RX1 15 "SlipstreamCache$Choice" "worths" "[I", Cond.fieldLink RX1 19 "SlipstreamCache$Choice" "order" "[I", Cond.fieldLink RX1 22 "SlipstreamCache$Choice" "count" "I", Cond.fieldLink RX1 26 "SlipstreamCache$Choice" "sum" "I", Cond.methodLink RX11 81 yX2_init, Cond.methodLink RL 109 yX12_init, Cond.instanceMethod yX12_init, Cond.code yX12_init cX12_init 2 none, Cond.methodLink RX12 1 objectInit]
def wsL_law0_r8 : List Cond := [Cond.fieldLink RX12 7 "SlipstreamCacheModel" "stored" "[I", Cond.fieldLink RX12 13 "SlipstreamCacheModel" "version" "[I", Cond.fieldLink RX12 16 "SlipstreamCacheModel" "logKey" "[I", Cond.fieldLink RX12 19 "SlipstreamCacheModel" "logVersion" "[I", Cond.fieldLink RX12 22 "SlipstreamCacheModel" "logMinute" "[I", Cond.fieldLink RX12 25 "SlipstreamCacheModel" "logValue" "[I", Cond.fieldLink RX12 28 "SlipstreamCacheModel" "isUnderWay" "[Z", Cond.fieldLink RX12 32 "SlipstreamCacheModel" "mirrored" "[I", Cond.fieldLink RX12 35 "SlipstreamCacheModel" "mirrorVersion" "[I", Cond.fieldLink RX12 38 "SlipstreamCacheModel" "size" "[I", Cond.fieldLink RX12 41 "SlipstreamCacheModel" "cost" "[I", Cond.fieldLink RX12 44 "SlipstreamCacheModel" "group" "[I", Cond.fieldLink RX12 47 "SlipstreamCacheModel" "groupNumber" "[I", Cond.fieldLink RX12 50 "SlipstreamCacheModel" "counter" "[I", Cond.fieldLink RX12 53 "SlipstreamCacheModel" "isIn" "[Z", Cond.fieldLink RX12 56 "SlipstreamCacheModel" "inValue" "[I", Cond.fieldLink RX12 59 "SlipstreamCacheModel" "inVersion" "[I", Cond.fieldLink RX12 62 "SlipstreamCacheModel" "inMinute" "[I", Cond.fieldLink RX12 65 "SlipstreamCacheModel" "inGroup" "[I", Cond.fieldLink RX12 68 "SlipstreamCacheModel" "usedAt" "[I", Cond.fieldLink RX12 71 "SlipstreamCacheModel" "isPromised" "[Z", Cond.fieldLink RX12 74 "SlipstreamCacheModel" "promiseValue" "[I", Cond.fieldLink RX12 77 "SlipstreamCacheModel" "promiseMinute" "[I", Cond.fieldLink RX12 80 "SlipstreamCacheModel" "slotKey" "[I"]
def wsL_law0_r9 : List Cond := [Cond.fieldLink RX12 83 "SlipstreamCacheModel" "slotValue" "[I", Cond.fieldLink RX12 86 "SlipstreamCacheModel" "slotVersion" "[I", Cond.fieldLink RX12 89 "SlipstreamCacheModel" "slotMinute" "[I", Cond.fieldLink RX12 92 "SlipstreamCacheModel" "slotGroup" "[I", Cond.fieldLink RX12 95 "SlipstreamCacheModel" "slotNumber" "[I", Cond.fieldLink RX12 98 "SlipstreamCacheModel" "wear" "[I", Cond.fieldLink RX12 101 "SlipstreamCacheModel" "index" "[I", Cond.fieldLink RX12 104 "SlipstreamCacheModel" "leaseKey" "[I", Cond.fieldLink RX12 107 "SlipstreamCacheModel" "leaseMinute" "[I", Cond.fieldLink RX12 110 "SlipstreamCacheModel" "leaseState" "[C", Cond.fieldLink RX12 114 "SlipstreamCacheModel" "wasRead" "[Z", Cond.fieldLink RX12 117 "SlipstreamCacheModel" "leaseValue" "[I", Cond.fieldLink RX12 120 "SlipstreamCacheModel" "leaseVersion" "[I", Cond.fieldLink RX12 123 "SlipstreamCacheModel" "leaseRead" "[I", Cond.fieldLink RX12 126 "SlipstreamCacheModel" "goes" "[Z", Cond.methodLink RL 110 yL_setKey, Cond.static yL_setKey, Cond.initialized RL, Cond.codeWith yL_setKey cL_setKey 7 (some .int) [(0, 14, 17, 13), (0, 14, 21, 15), (0, 14, 25, 17)], Cond.classLink RL 13 "java/lang/IndexOutOfBoundsException", Cond.classLink RL 15 "java/lang/IllegalArgumentException", Cond.classLink RL 17 "java/lang/IllegalStateException", Cond.methodLink RL 7 yX11_setKey, Cond.instanceMethod yX11_setKey]
def wsL_law0_r10 : List Cond := [Cond.selects RX11 yX11_setKey yX11_setKey, Cond.code yX11_setKey cX11_setKey 6 (some .int), Cond.classLink RX11 114 "java/lang/IllegalStateException", Cond.initialized "java/lang/IllegalStateException", Cond.fieldLink RX11 121 "SlipstreamCache$Keys" "groups" "[I", Cond.fieldLink RX11 125 "SlipstreamCache$Keys" "sizes" "[I", Cond.fieldLink RX11 128 "SlipstreamCache$Keys" "costs" "[I", Cond.methodLink RX11 96 yX11_requireKey, Cond.static yX11_requireKey, Cond.code yX11_requireKey cX11_requireKey 1 none, Cond.classLink RX11 253 "java/lang/IndexOutOfBoundsException", Cond.initialized "java/lang/IndexOutOfBoundsException", Cond.methodLink RX11 99 yX11_requireWithin, Cond.static yX11_requireWithin, Cond.code yX11_requireWithin cX11_requireWithin 3 none, Cond.classLink RX11 211 "java/lang/IllegalArgumentException", Cond.initialized "java/lang/IllegalArgumentException", Cond.methodLink RX11 103 yX11_requireUp, Cond.instanceMethod yX11_requireUp, Cond.selects RX11 yX11_requireUp yX11_requireUp, Cond.code yX11_requireUp cX11_requireUp 1 none, Cond.methodLink RX11 106 yX11_isKept, Cond.instanceMethod yX11_isKept, Cond.selects RX11 yX11_isKept yX11_isKept]
def wsL_law0_r11 : List Cond := [Cond.code yX11_isKept cX11_isKept 2 (some .boolean), Cond.fieldLink RX11 292 "SlipstreamCache$Memory" "present" "[Z", Cond.fieldLink RX11 295 "SlipstreamCache$Flash" "index" "[I", Cond.methodLink RX11 110 yX5_isOutFor, Cond.instanceMethod yX5_isOutFor, Cond.selects RX5 yX5_isOutFor yX5_isOutFor, Cond.code yX5_isOutFor cX5_isOutFor 4 (some .boolean), Cond.methodLink RX5 43 yX5_stateOf, Cond.instanceMethod yX5_stateOf, Cond.selects RX5 yX5_stateOf yX5_stateOf, Cond.code yX5_stateOf cX5_stateOf 3 (some .char), Cond.methodLink RL 115 yX12_setKey, Cond.instanceMethod yX12_setKey, Cond.selects RX12 yX12_setKey yX12_setKey, Cond.code yX12_setKey cX12_setKey 6 (some .int), Cond.fieldLink RX12 129 "SlipstreamCacheModel" "code" "I", Cond.fieldLink RX12 204 "SlipstreamCacheModel" "isDown" "Z", Cond.methodLink RX12 197 yX12_isKey, Cond.static yX12_isKey, Cond.code yX12_isKey cX12_isKey 1 (some .boolean), Cond.methodLink RX12 133 yX12_in, Cond.static yX12_in, Cond.code yX12_in cX12_in 3 (some .boolean), Cond.methodLink RX12 201 yX12_fails]
def wsL_law0_r12 : List Cond := [Cond.instanceMethod yX12_fails, Cond.selects RX12 yX12_fails yX12_fails, Cond.code yX12_fails cX12_fails 2 (some .int), Cond.methodLink RX12 208 yX12_hasLease, Cond.instanceMethod yX12_hasLease, Cond.selects RX12 yX12_hasLease yX12_hasLease, Cond.code yX12_hasLease cX12_hasLease 3 (some .boolean), Cond.fieldLink RX12 194 "SlipstreamCacheModel" "leases" "I", Cond.methodLink RL 116 yL_get, Cond.static yL_get, Cond.codeWith yL_get cL_get 6 (some .int) [(0, 12, 15, 13), (0, 12, 19, 15), (0, 12, 23, 17), (0, 12, 27, 23)], Cond.classLink RL 23 "java/lang/UnsupportedOperationException", Cond.methodLink RL 19 yX11_get, Cond.instanceMethod yX11_get, Cond.selects RX11 yX11_get yX11_get, Cond.code yX11_get cX11_get 7 (some .char), Cond.classLink RX11 138 "java/lang/UnsupportedOperationException", Cond.initialized "java/lang/UnsupportedOperationException", Cond.fieldLink RX11 135 "SlipstreamCache$Leases" "count" "I", Cond.methodLink RX11 131 yX11_goodSource, Cond.instanceMethod yX11_goodSource, Cond.selects RX11 yX11_goodSource yX11_goodSource, Cond.code yX11_goodSource cX11_goodSource 4 (some .char), Cond.fieldLink RX11 238 "SlipstreamCache$Pledges" "waiting" "[Z"]
def wsL_law0_r13 : List Cond := [Cond.fieldLink RX11 306 "SlipstreamCache$Memory" "copies" "LSlipstreamCache$Copies;", Cond.fieldLink RX11 308 "SlipstreamCache$Flash" "copies" "LSlipstreamCache$Copies;", Cond.methodLink RX11 370 yX11_isFresh, Cond.instanceMethod yX11_isFresh, Cond.selects RX11 yX11_isFresh yX11_isFresh, Cond.code yX11_isFresh cX11_isFresh 5 (some .boolean), Cond.fieldLink RX11 374 "SlipstreamCache$Copies" "numbers" "[I", Cond.fieldLink RX11 375 "SlipstreamCache$Copies" "minutes" "[I", Cond.methodLink RX11 190 yX4_numberFor, Cond.instanceMethod yX4_numberFor, Cond.selects RX4 yX4_numberFor yX4_numberFor, Cond.code yX4_numberFor cX4_numberFor 2 (some .int), Cond.methodLink RX11 143 yX5_give, Cond.instanceMethod yX5_give, Cond.selects RX5 yX5_give yX5_give, Cond.code yX5_give cX5_give 4 none, Cond.methodLink RX11 146 yX11_answer, Cond.instanceMethod yX11_answer, Cond.selects RX11 yX11_answer yX11_answer, Cond.code yX11_answer cX11_answer 5 none, Cond.fieldLink RX11 307 "SlipstreamCache$Copies" "versions" "[I", Cond.fieldLink RX11 382 "SlipstreamCache$Copies" "values" "[I", Cond.methodLink RX11 378 yX10_staleBy, Cond.instanceMethod yX10_staleBy]
def wsL_law0_r14 : List Cond := [Cond.selects RX10 yX10_staleBy yX10_staleBy, Cond.code yX10_staleBy cX10_staleBy 5 (some .int), Cond.methodLink RX11 383 yX0_tell, Cond.instanceMethod yX0_tell, Cond.selects RX0 yX0_tell yX0_tell, Cond.code yX0_tell cX0_tell 4 none, Cond.methodLink RX11 386 yX6_touch, Cond.instanceMethod yX6_touch, Cond.selects RX6 yX6_touch yX6_touch, Cond.code yX6_touch cX6_touch 2 none, Cond.methodLink RX11 204 yX2_take, Cond.instanceMethod yX2_take, Cond.selects RX2 yX2_take yX2_take, Cond.code yX2_take cX2_take 4 none, Cond.methodLink RX2 22 yX2_put, Cond.instanceMethod yX2_put, Cond.selects RX2 yX2_put yX2_put, Cond.code yX2_put cX2_put 6 none, Cond.methodLink RX11 208 yX11_comeIfWorthIt, Cond.instanceMethod yX11_comeIfWorthIt, Cond.selects RX11 yX11_comeIfWorthIt yX11_comeIfWorthIt, Cond.code yX11_comeIfWorthIt cX11_comeIfWorthIt 2 (some .boolean), Cond.fieldLink RX11 414 "SlipstreamCache$Choice" "count" "I", Cond.fieldLink RX11 415 "SlipstreamCache$Choice" "sum" "I"]
def wsL_law0_r15 : List Cond := [Cond.methodLink RX11 222 yX11_chooseLeavers, Cond.instanceMethod yX11_chooseLeavers, Cond.selects RX11 yX11_chooseLeavers yX11_chooseLeavers, Cond.code yX11_chooseLeavers cX11_chooseLeavers 5 (some .boolean), Cond.fieldLink RX11 298 "SlipstreamCache$Memory" "filled" "I", Cond.fieldLink RX11 393 "SlipstreamCache$Choice" "worths" "[I", Cond.methodLink RX11 392 yX1_clear, Cond.instanceMethod yX1_clear, Cond.selects RX1 yX1_clear yX1_clear, Cond.code yX1_clear cX1_clear 2 none, Cond.methodLink RX11 396 yX11_worth, Cond.instanceMethod yX11_worth, Cond.selects RX11 yX11_worth yX11_worth, Cond.code yX11_worth cX11_worth 2 (some .int), Cond.methodLink RX11 301 yX9_leastOf, Cond.instanceMethod yX9_leastOf, Cond.selects RX9 yX9_leastOf yX9_leastOf, Cond.code yX9_leastOf cX9_leastOf 5 (some .int), Cond.methodLink RX9 22 yX9_placeOf, Cond.static yX9_placeOf, Cond.code yX9_placeOf cX9_placeOf 2 (some .int), Cond.methodLink RX11 399 yX11_nextLeaver, Cond.instanceMethod yX11_nextLeaver, Cond.selects RX11 yX11_nextLeaver yX11_nextLeaver]
def wsL_law0_r16 : List Cond := [Cond.code yX11_nextLeaver cX11_nextLeaver 4 (some .int), Cond.fieldLink RX11 405 "SlipstreamCache$Choice" "chosen" "[Z", Cond.methodLink RX11 408 yX11_leavesBefore, Cond.instanceMethod yX11_leavesBefore, Cond.selects RX11 yX11_leavesBefore yX11_leavesBefore, Cond.code yX11_leavesBefore cX11_leavesBefore 4 (some .boolean), Cond.fieldLink RX11 411 "SlipstreamCache$Memory" "usedAt" "[I", Cond.methodLink RX11 402 yX1_add, Cond.instanceMethod yX1_add, Cond.selects RX1 yX1_add yX1_add, Cond.code yX1_add cX1_add 2 none, Cond.methodLink RX11 418 yX11_come, Cond.instanceMethod yX11_come, Cond.selects RX11 yX11_come yX11_come, Cond.code yX11_come cX11_come 4 none, Cond.fieldLink RX11 421 "SlipstreamCache$Choice" "order" "[I", Cond.methodLink RX11 424 yX3_append, Cond.instanceMethod yX3_append, Cond.selects RX3 yX3_append yX3_append, Cond.code yX3_append cX3_append 4 none, Cond.methodLink RX3 37 yX3_nextSlot, Cond.instanceMethod yX3_nextSlot, Cond.selects RX3 yX3_nextSlot yX3_nextSlot, Cond.code yX3_nextSlot cX3_nextSlot 2 (some .int)]
def wsL_law0_r17 : List Cond := [Cond.methodLink RX3 45 yX3_beginAnew, Cond.instanceMethod yX3_beginAnew, Cond.selects RX3 yX3_beginAnew yX3_beginAnew, Cond.code yX3_beginAnew cX3_beginAnew 4 none, Cond.methodLink RX3 41 yX2_take, Cond.methodLink RX11 244 yX6_remove, Cond.instanceMethod yX6_remove, Cond.selects RX6 yX6_remove yX6_remove, Cond.code yX6_remove cX6_remove 3 none, Cond.methodLink RX11 428 yX6_put, Cond.instanceMethod yX6_put, Cond.selects RX6 yX6_put yX6_put, Cond.code yX6_put cX6_put 4 none, Cond.methodLink RX6 35 yX2_take, Cond.methodLink RX6 39 yX6_touch, Cond.methodLink RX11 247 yX3_takeOut, Cond.instanceMethod yX3_takeOut, Cond.selects RX3 yX3_takeOut yX3_takeOut, Cond.code yX3_takeOut cX3_takeOut 2 none, Cond.methodLink RX11 389 yX0_tellNothing, Cond.instanceMethod yX0_tellNothing, Cond.selects RX0 yX0_tellNothing yX0_tellNothing, Cond.code yX0_tellNothing cX0_tellNothing 1 none, Cond.methodLink RX11 150 yX9_count]
def wsL_law0_r18 : List Cond := [Cond.instanceMethod yX9_count, Cond.selects RX9 yX9_count yX9_count, Cond.code yX9_count cX9_count 5 none, Cond.methodLink RX9 26 yX9_leastOf, Cond.methodLink RX9 30 yX9_halve, Cond.instanceMethod yX9_halve, Cond.selects RX9 yX9_halve yX9_halve, Cond.code yX9_halve cX9_halve 2 none, Cond.methodLink RL 119 yX12_get, Cond.instanceMethod yX12_get, Cond.selects RX12 yX12_get yX12_get, Cond.code yX12_get cX12_get 8 (some .char), Cond.fieldLink RX12 211 "SlipstreamCacheModel" "hasAnswer" "Z", Cond.fieldLink RX12 159 "SlipstreamCacheModel" "minute" "I", Cond.fieldLink RX12 262 "SlipstreamCacheModel" "paid" "J", Cond.methodLink RX12 248 yX12_failsChar, Cond.instanceMethod yX12_failsChar, Cond.selects RX12 yX12_failsChar yX12_failsChar, Cond.code yX12_failsChar cX12_failsChar 2 (some .char), Cond.methodLink RX12 252 yX12_isGoodIn, Cond.instanceMethod yX12_isGoodIn, Cond.selects RX12 yX12_isGoodIn yX12_isGoodIn, Cond.code yX12_isGoodIn cX12_isGoodIn 3 (some .boolean), Cond.methodLink RX12 256 yX12_isGoodSlot]
def wsL_law0_r19 : List Cond := [Cond.instanceMethod yX12_isGoodSlot, Cond.selects RX12 yX12_isGoodSlot yX12_isGoodSlot, Cond.code yX12_isGoodSlot cX12_isGoodSlot 4 (some .boolean), Cond.methodLink RX12 230 yX12_answers, Cond.instanceMethod yX12_answers, Cond.selects RX12 yX12_answers yX12_answers, Cond.code yX12_answers cX12_answers 4 none, Cond.fieldLink RX12 214 "SlipstreamCacheModel" "answered" "I", Cond.fieldLink RX12 217 "SlipstreamCacheModel" "answerValue" "I", Cond.fieldLink RX12 223 "SlipstreamCacheModel" "answerStale" "I", Cond.fieldLink RX12 226 "SlipstreamCacheModel" "stale" "J", Cond.methodLink RX12 220 yX12_staleBy, Cond.instanceMethod yX12_staleBy, Cond.selects RX12 yX12_staleBy yX12_staleBy, Cond.code yX12_staleBy cX12_staleBy 4 (some .int), Cond.fieldLink RX12 156 "SlipstreamCacheModel" "logged" "I", Cond.methodLink RX12 192 yX12_uses, Cond.instanceMethod yX12_uses, Cond.selects RX12 yX12_uses yX12_uses, Cond.code yX12_uses cX12_uses 2 none, Cond.fieldLink RX12 176 "SlipstreamCacheModel" "uses" "I", Cond.methodLink RX12 245 yX12_counts, Cond.instanceMethod yX12_counts, Cond.selects RX12 yX12_counts yX12_counts]
def wsL_law0_r20 : List Cond := [Cond.code yX12_counts cX12_counts 5 none, Cond.fieldLink RX12 150 "SlipstreamCacheModel" "gets" "I", Cond.fieldLink RX12 153 "SlipstreamCacheModel" "sketched" "I", Cond.methodLink RX12 146 yX12_estimateOf, Cond.instanceMethod yX12_estimateOf, Cond.selects RX12 yX12_estimateOf yX12_estimateOf, Cond.code yX12_estimateOf cX12_estimateOf 4 (some .int), Cond.methodLink RX12 141 Lib.Math.min.name, Cond.static Lib.Math.min.name, Cond.initialized "java/lang/Math", Cond.code Lib.Math.min.name Lib.Math.min.code 2 (some .int), Cond.methodLink RX12 137 yX12_place, Cond.static yX12_place, Cond.code yX12_place cX12_place 3 (some .int), Cond.methodLink RX12 259 yX12_answersFlash, Cond.instanceMethod yX12_answersFlash, Cond.selects RX12 yX12_answersFlash yX12_answersFlash, Cond.code yX12_answersFlash cX12_answersFlash 7 none, Cond.methodLink RX12 234 yX12_makesRoom, Cond.instanceMethod yX12_makesRoom, Cond.selects RX12 yX12_makesRoom yX12_makesRoom, Cond.code yX12_makesRoom cX12_makesRoom 10 (some .boolean), Cond.methodLink RX12 182 yX12_usedNow, Cond.instanceMethod yX12_usedNow]
def wsL_law0_r21 : List Cond := [Cond.selects RX12 yX12_usedNow yX12_usedNow, Cond.code yX12_usedNow cX12_usedNow 3 (some .int), Cond.methodLink RX12 185 yX12_victim, Cond.instanceMethod yX12_victim, Cond.selects RX12 yX12_victim yX12_victim, Cond.code yX12_victim cX12_victim 5 (some .int), Cond.methodLink RX12 179 yX12_worth, Cond.instanceMethod yX12_worth, Cond.selects RX12 yX12_worth yX12_worth, Cond.code yX12_worth cX12_worth 2 (some .int), Cond.methodLink RX12 188 yX12_toFlash, Cond.instanceMethod yX12_toFlash, Cond.selects RX12 yX12_toFlash yX12_toFlash, Cond.code yX12_toFlash cX12_toFlash 3 none, Cond.methodLink RX12 172 yX12_nextPlace, Cond.instanceMethod yX12_nextPlace, Cond.selects RX12 yX12_nextPlace yX12_nextPlace, Cond.code yX12_nextPlace cX12_nextPlace 3 (some .int), Cond.fieldLink RX12 166 "SlipstreamCacheModel" "nextSlot" "I", Cond.fieldLink RX12 169 "SlipstreamCacheModel" "numbers" "I", Cond.methodLink RX12 238 yX12_comes, Cond.instanceMethod yX12_comes, Cond.selects RX12 yX12_comes yX12_comes, Cond.code yX12_comes cX12_comes 6 none]
def wsL_law0_r22 : List Cond := [Cond.methodLink RX12 242 yX12_takesOut, Cond.instanceMethod yX12_takesOut, Cond.selects RX12 yX12_takesOut yX12_takesOut, Cond.code yX12_takesOut cX12_takesOut 3 none, Cond.methodLink RL 120 yL_value, Cond.static yL_value, Cond.codeWith yL_value cL_value 3 (some .int) [(0, 8, 11, 29)], Cond.classLink RL 29 "java/util/NoSuchElementException", Cond.methodLink RL 25 yX11_value, Cond.instanceMethod yX11_value, Cond.selects RX11 yX11_value yX11_value, Cond.code yX11_value cX11_value 1 (some .int), Cond.fieldLink RX11 155 "SlipstreamCache$Answers" "lastValue" "I", Cond.methodLink RX11 152 yX11_requireAnswer, Cond.instanceMethod yX11_requireAnswer, Cond.selects RX11 yX11_requireAnswer yX11_requireAnswer, Cond.code yX11_requireAnswer cX11_requireAnswer 1 none, Cond.classLink RX11 161 "java/util/NoSuchElementException", Cond.initialized "java/util/NoSuchElementException", Cond.fieldLink RX11 365 "SlipstreamCache$Answers" "hasLast" "Z", Cond.methodLink RL 123 yX12_value, Cond.instanceMethod yX12_value, Cond.selects RX12 yX12_value yX12_value, Cond.code yX12_value cX12_value 1 (some .int)]
def wsL_law0_r23 : List Cond := [Cond.methodLink RL 124 yL_staleness, Cond.static yL_staleness, Cond.codeWith yL_staleness cL_staleness 3 (some .int) [(0, 8, 11, 29)], Cond.methodLink RL 31 yX11_staleness, Cond.instanceMethod yX11_staleness, Cond.selects RX11 yX11_staleness yX11_staleness, Cond.code yX11_staleness cX11_staleness 1 (some .int), Cond.fieldLink RX11 158 "SlipstreamCache$Answers" "lastStaleness" "I", Cond.methodLink RL 126 yX12_staleness, Cond.instanceMethod yX12_staleness, Cond.selects RX12 yX12_staleness yX12_staleness, Cond.code yX12_staleness cX12_staleness 1 (some .int), Cond.methodLink RL 127 yL_lease, Cond.static yL_lease, Cond.codeWith yL_lease cL_lease 3 (some .int) [(0, 8, 11, 29)], Cond.methodLink RL 34 yX11_lease, Cond.instanceMethod yX11_lease, Cond.selects RX11 yX11_lease yX11_lease, Cond.code yX11_lease cX11_lease 1 (some .int), Cond.methodLink RL 129 yX12_lease, Cond.instanceMethod yX12_lease, Cond.selects RX12 yX12_lease yX12_lease, Cond.code yX12_lease cX12_lease 1 (some .int), Cond.methodLink RL 130 yL_read]
def wsL_law0_r24 : List Cond := [Cond.static yL_read, Cond.codeWith yL_read cL_read 4 (some .int) [(0, 9, 12, 13), (0, 9, 15, 17)], Cond.methodLink RL 37 yX11_read, Cond.instanceMethod yX11_read, Cond.selects RX11 yX11_read yX11_read, Cond.code yX11_read cX11_read 4 (some .int), Cond.fieldLink RX11 174 "SlipstreamCache$Leases" "keyOf" "[I", Cond.fieldLink RX11 177 "SlipstreamCache$Store" "values" "[I", Cond.fieldLink RX11 180 "SlipstreamCache$Leases" "wasRead" "[Z", Cond.fieldLink RX11 184 "SlipstreamCache$Leases" "copies" "LSlipstreamCache$Copies;", Cond.fieldLink RX11 187 "SlipstreamCache$Store" "versions" "[I", Cond.methodLink RX11 166 yX11_requireLease, Cond.instanceMethod yX11_requireLease, Cond.selects RX11 yX11_requireLease yX11_requireLease, Cond.code yX11_requireLease cX11_requireLease 2 none, Cond.methodLink RX11 169 yX5_stateOf, Cond.methodLink RX11 194 yX2_put, Cond.methodLink RL 133 yX12_read, Cond.instanceMethod yX12_read, Cond.selects RX12 yX12_read yX12_read, Cond.code yX12_read cX12_read 3 (some .int), Cond.methodLink RX12 265 yX12_isLease, Cond.instanceMethod yX12_isLease, Cond.selects RX12 yX12_isLease yX12_isLease]
def wsL_law0_r25 : List Cond := [Cond.code yX12_isLease cX12_isLease 2 (some .boolean), Cond.methodLink RL 134 yL_fill, Cond.static yL_fill, Cond.codeWith yL_fill cL_fill 4 (some .int) [(0, 9, 12, 13), (0, 9, 15, 17)], Cond.methodLink RL 41 yX11_fill, Cond.instanceMethod yX11_fill, Cond.selects RX11 yX11_fill yX11_fill, Cond.code yX11_fill cX11_fill 3 (some .char), Cond.fieldLink RX11 200 "SlipstreamCache$Leases" "ends" "[C", Cond.methodLink RL 136 yX12_fill, Cond.instanceMethod yX12_fill, Cond.selects RX12 yX12_fill yX12_fill, Cond.code yX12_fill cX12_fill 3 (some .char), Cond.methodLink RL 137 yL_leaseState, Cond.static yL_leaseState, Cond.codeWith yL_leaseState cL_leaseState 4 (some .int) [(0, 9, 12, 13)], Cond.methodLink RL 45 yX11_leaseState, Cond.instanceMethod yX11_leaseState, Cond.selects RX11 yX11_leaseState yX11_leaseState, Cond.code yX11_leaseState cX11_leaseState 2 (some .char), Cond.methodLink RL 139 yX12_leaseState, Cond.instanceMethod yX12_leaseState, Cond.selects RX12 yX12_leaseState yX12_leaseState, Cond.code yX12_leaseState cX12_leaseState 2 (some .char)]
def wsL_law0_r26 : List Cond := [Cond.methodLink RL 140 yL_write, Cond.static yL_write, Cond.codeWith yL_write cL_write 6 (some .int) [(0, 12, 15, 13), (0, 12, 19, 15), (0, 12, 23, 17), (0, 12, 27, 23)], Cond.methodLink RL 48 yX11_write, Cond.instanceMethod yX11_write, Cond.selects RX11 yX11_write yX11_write, Cond.code yX11_write cX11_write 4 (some .int), Cond.fieldLink RX11 216 "SlipstreamCache$Store" "logged" "I", Cond.fieldLink RX11 219 "SlipstreamCache$Pledges" "count" "I", Cond.methodLink RX11 227 yX11_writeThrough, Cond.instanceMethod yX11_writeThrough, Cond.selects RX11 yX11_writeThrough yX11_writeThrough, Cond.code yX11_writeThrough cX11_writeThrough 4 none, Cond.methodLink RX11 234 yX11_writeStore, Cond.instanceMethod yX11_writeStore, Cond.selects RX11 yX11_writeStore yX11_writeStore, Cond.code yX11_writeStore cX11_writeStore 4 (some .int), Cond.methodLink RX11 437 yX10_put, Cond.instanceMethod yX10_put, Cond.selects RX10 yX10_put yX10_put, Cond.code yX10_put cX10_put 4 (some .int), Cond.methodLink RX11 439 yX7_send, Cond.instanceMethod yX7_send, Cond.selects RX7 yX7_send yX7_send]
def wsL_law0_r27 : List Cond := [Cond.code yX7_send cX7_send 4 none, Cond.methodLink RX11 442 yX8_remove, Cond.instanceMethod yX8_remove, Cond.selects RX8 yX8_remove yX8_remove, Cond.code yX8_remove cX8_remove 2 none, Cond.methodLink RX11 250 yX5_voidFor, Cond.instanceMethod yX5_voidFor, Cond.selects RX5 yX5_voidFor yX5_voidFor, Cond.code yX5_voidFor cX5_voidFor 3 none, Cond.methodLink RX11 231 yX11_writeBehind, Cond.instanceMethod yX11_writeBehind, Cond.selects RX11 yX11_writeBehind yX11_writeBehind, Cond.code yX11_writeBehind cX11_writeBehind 3 none, Cond.methodLink RX11 444 yX8_add, Cond.instanceMethod yX8_add, Cond.selects RX8 yX8_add yX8_add, Cond.code yX8_add cX8_add 4 none, Cond.methodLink RL 143 yX12_write, Cond.instanceMethod yX12_write, Cond.selects RX12 yX12_write yX12_write, Cond.code yX12_write cX12_write 5 (some .int), Cond.methodLink RX12 268 yX12_promiseCount, Cond.instanceMethod yX12_promiseCount, Cond.selects RX12 yX12_promiseCount yX12_promiseCount]
def wsL_law0_r28 : List Cond := [Cond.code yX12_promiseCount cX12_promiseCount 3 (some .int), Cond.methodLink RX12 271 yX12_canCome, Cond.instanceMethod yX12_canCome, Cond.selects RX12 yX12_canCome yX12_canCome, Cond.code yX12_canCome cX12_canCome 4 (some .boolean), Cond.methodLink RX12 274 yX12_voids, Cond.instanceMethod yX12_voids, Cond.selects RX12 yX12_voids yX12_voids, Cond.code yX12_voids cX12_voids 4 none, Cond.methodLink RX12 162 yX12_stores, Cond.instanceMethod yX12_stores, Cond.selects RX12 yX12_stores yX12_stores, Cond.code yX12_stores cX12_stores 3 none, Cond.methodLink RL 144 yL_drop, Cond.static yL_drop, Cond.codeWith yL_drop cL_drop 4 (some .int) [(0, 16, 19, 13), (0, 16, 22, 17)], Cond.methodLink RL 52 yX11_drop, Cond.instanceMethod yX11_drop, Cond.selects RX11 yX11_drop yX11_drop, Cond.code yX11_drop cX11_drop 3 (some .boolean), Cond.methodLink RX11 241 yX11_keepPromise, Cond.instanceMethod yX11_keepPromise, Cond.selects RX11 yX11_keepPromise yX11_keepPromise, Cond.code yX11_keepPromise cX11_keepPromise 3 none]
def wsL_law0_r29 : List Cond := [Cond.fieldLink RX11 446 "SlipstreamCache$Pledges" "values" "[I", Cond.methodLink RL 146 yX12_drop, Cond.instanceMethod yX12_drop, Cond.selects RX12 yX12_drop yX12_drop, Cond.code yX12_drop cX12_drop 3 (some .boolean), Cond.methodLink RX12 277 yX12_keepsPromise, Cond.instanceMethod yX12_keepsPromise, Cond.selects RX12 yX12_keepsPromise yX12_keepsPromise, Cond.code yX12_keepsPromise cX12_keepsPromise 2 none, Cond.methodLink RL 147 yL_bump, Cond.static yL_bump, Cond.codeWith yL_bump cL_bump 4 (some .int) [(0, 9, 12, 13), (0, 9, 15, 17)], Cond.methodLink RL 56 yX11_bump, Cond.instanceMethod yX11_bump, Cond.selects RX11 yX11_bump yX11_bump, Cond.code yX11_bump cX11_bump 3 (some .int), Cond.fieldLink RX11 261 "SlipstreamCache$Keys" "numbers" "[I", Cond.methodLink RX11 258 yX11_keepPromises, Cond.instanceMethod yX11_keepPromises, Cond.selects RX11 yX11_keepPromises yX11_keepPromises, Cond.code yX11_keepPromises cX11_keepPromises 6 (some .int), Cond.fieldLink RX11 447 "SlipstreamCache$Pledges" "due" "[I", Cond.methodLink RX11 320 yX8_nextOf, Cond.instanceMethod yX8_nextOf]
def wsL_law0_r30 : List Cond := [Cond.selects RX8 yX8_nextOf yX8_nextOf, Cond.code yX8_nextOf cX8_nextOf 6 (some .int), Cond.fieldLink RX8 26 "SlipstreamCache$Keys" "groups" "[I", Cond.methodLink RX8 31 yX8_isBefore, Cond.instanceMethod yX8_isBefore, Cond.selects RX8 yX8_isBefore yX8_isBefore, Cond.code yX8_isBefore cX8_isBefore 4 (some .boolean), Cond.fieldLink RX8 35 "SlipstreamCache$Keys" "costs" "[I", Cond.methodLink RL 149 yX12_bump, Cond.instanceMethod yX12_bump, Cond.selects RX12 yX12_bump yX12_bump, Cond.code yX12_bump cX12_bump 3 (some .int), Cond.methodLink RX12 280 yX12_nextTurn, Cond.instanceMethod yX12_nextTurn, Cond.selects RX12 yX12_nextTurn yX12_nextTurn, Cond.code yX12_nextTurn cX12_nextTurn 5 (some .int), Cond.methodLink RL 150 yL_pass, Cond.static yL_pass, Cond.codeWith yL_pass cL_pass 4 (some .int) [(0, 9, 12, 15), (0, 9, 15, 17)], Cond.methodLink RL 59 yX11_pass, Cond.instanceMethod yX11_pass, Cond.selects RX11 yX11_pass yX11_pass, Cond.code yX11_pass cX11_pass 4 (some .int), Cond.methodLink RL 152 yX12_pass]
def wsL_law0_r31 : List Cond := [Cond.instanceMethod yX12_pass, Cond.selects RX12 yX12_pass yX12_pass, Cond.code yX12_pass cX12_pass 6 (some .int), Cond.methodLink RL 153 yL_crash, Cond.static yL_crash, Cond.codeWith yL_crash cL_crash 3 (some .int) [(0, 8, 11, 17)], Cond.methodLink RL 62 yX11_crash, Cond.instanceMethod yX11_crash, Cond.selects RX11 yX11_crash yX11_crash, Cond.code yX11_crash cX11_crash 2 (some .int), Cond.methodLink RX11 266 yX6_entries, Cond.instanceMethod yX6_entries, Cond.selects RX6 yX6_entries yX6_entries, Cond.code yX6_entries cX6_entries 3 (some .int), Cond.methodLink RX11 270 yX6_clear, Cond.instanceMethod yX6_clear, Cond.selects RX6 yX6_clear yX6_clear, Cond.code yX6_clear cX6_clear 2 none, Cond.methodLink RX11 273 yX9_clear, Cond.instanceMethod yX9_clear, Cond.selects RX9 yX9_clear yX9_clear, Cond.code yX9_clear cX9_clear 2 none, Cond.methodLink RX11 274 yX5_voidAll, Cond.instanceMethod yX5_voidAll]
def wsL_law0_r32 : List Cond := [Cond.selects RX5 yX5_voidAll yX5_voidAll, Cond.code yX5_voidAll cX5_voidAll 2 none, Cond.methodLink RX5 47 yX5_voidFor, Cond.methodLink RX11 277 yX3_loseIndex, Cond.methodLink RL 155 yX12_crash, Cond.instanceMethod yX12_crash, Cond.selects RX12 yX12_crash yX12_crash, Cond.code yX12_crash cX12_crash 3 (some .int), Cond.methodLink RL 156 yL_recover, Cond.static yL_recover, Cond.codeWith yL_recover cL_recover 3 (some .int) [(0, 8, 11, 17)], Cond.methodLink RL 65 yX11_recover, Cond.instanceMethod yX11_recover, Cond.selects RX11 yX11_recover yX11_recover, Cond.code yX11_recover cX11_recover 1 (some .int), Cond.methodLink RX11 282 yX3_readAgain, Cond.instanceMethod yX3_readAgain, Cond.selects RX3 yX3_readAgain yX3_readAgain, Cond.code yX3_readAgain cX3_readAgain 5 none, Cond.fieldLink RX3 48 "SlipstreamCache$Copies" "numbers" "[I", Cond.methodLink RX3 51 yX4_numberFor, Cond.methodLink RX11 286 yX11_comeAgain, Cond.instanceMethod yX11_comeAgain, Cond.selects RX11 yX11_comeAgain yX11_comeAgain]
def wsL_law0_r33 : List Cond := [Cond.code yX11_comeAgain cX11_comeAgain 3 none, Cond.methodLink RX11 431 yX11_nextToComeAgain, Cond.instanceMethod yX11_nextToComeAgain, Cond.selects RX11 yX11_nextToComeAgain yX11_nextToComeAgain, Cond.code yX11_nextToComeAgain cX11_nextToComeAgain 4 (some .int), Cond.methodLink RX11 434 yX11_comesAgainBefore, Cond.instanceMethod yX11_comesAgainBefore, Cond.selects RX11 yX11_comesAgainBefore yX11_comesAgainBefore, Cond.code yX11_comesAgainBefore cX11_comesAgainBefore 4 (some .boolean), Cond.methodLink RX11 289 yX3_indexed, Cond.instanceMethod yX3_indexed, Cond.selects RX3 yX3_indexed yX3_indexed, Cond.code yX3_indexed cX3_indexed 3 (some .int), Cond.methodLink RL 158 yX12_recover, Cond.instanceMethod yX12_recover, Cond.selects RX12 yX12_recover yX12_recover, Cond.code yX12_recover cX12_recover 6 (some .int), Cond.methodLink RX12 283 yX12_nextBack, Cond.instanceMethod yX12_nextBack, Cond.selects RX12 yX12_nextBack yX12_nextBack, Cond.code yX12_nextBack cX12_nextBack 6 (some .int), Cond.methodLink RL 159 yX11_minute, Cond.instanceMethod yX11_minute, Cond.selects RX11 yX11_minute yX11_minute]
def wsL_law0_r34 : List Cond := [Cond.code yX11_minute cX11_minute 1 (some .int), Cond.methodLink RL 162 yX12_minute, Cond.instanceMethod yX12_minute, Cond.selects RX12 yX12_minute yX12_minute, Cond.code yX12_minute cX12_minute 1 (some .int), Cond.methodLink RL 163 yL_where, Cond.static yL_where, Cond.codeWith yL_where cL_where 4 (some .int) [(0, 9, 12, 13)], Cond.methodLink RL 68 yX11_where, Cond.instanceMethod yX11_where, Cond.selects RX11 yX11_where yX11_where, Cond.code yX11_where cX11_where 2 (some .char), Cond.methodLink RL 165 yX12_where, Cond.instanceMethod yX12_where, Cond.selects RX12 yX12_where yX12_where, Cond.code yX12_where cX12_where 2 (some .char), Cond.methodLink RL 166 yX11_used, Cond.instanceMethod yX11_used, Cond.selects RX11 yX11_used yX11_used, Cond.code yX11_used cX11_used 1 (some .int), Cond.methodLink RL 169 yX12_used, Cond.instanceMethod yX12_used, Cond.selects RX12 yX12_used yX12_used, Cond.code yX12_used cX12_used 1 (some .int)]
def wsL_law0_r35 : List Cond := [Cond.methodLink RL 170 yL_estimate, Cond.static yL_estimate, Cond.codeWith yL_estimate cL_estimate 4 (some .int) [(0, 9, 12, 13)], Cond.methodLink RL 71 yX11_estimate, Cond.instanceMethod yX11_estimate, Cond.selects RX11 yX11_estimate yX11_estimate, Cond.code yX11_estimate cX11_estimate 2 (some .int), Cond.methodLink RL 172 yX12_estimate, Cond.instanceMethod yX12_estimate, Cond.selects RX12 yX12_estimate yX12_estimate, Cond.code yX12_estimate cX12_estimate 2 (some .int), Cond.methodLink RL 173 yL_versionOf, Cond.static yL_versionOf, Cond.codeWith yL_versionOf cL_versionOf 4 (some .int) [(0, 9, 12, 13), (0, 9, 15, 29)], Cond.methodLink RL 74 yX11_versionOf, Cond.instanceMethod yX11_versionOf, Cond.selects RX11 yX11_versionOf yX11_versionOf, Cond.code yX11_versionOf cX11_versionOf 2 (some .int), Cond.methodLink RL 175 yX12_versionOf, Cond.instanceMethod yX12_versionOf, Cond.selects RX12 yX12_versionOf yX12_versionOf, Cond.code yX12_versionOf cX12_versionOf 2 (some .int), Cond.methodLink RL 176 yL_slot, Cond.static yL_slot]
def wsL_law0_r36 : List Cond := [Cond.codeWith yL_slot cL_slot 5 (some .int) [(0, 10, 13, 13)], Cond.methodLink RL 77 yX11_slot, Cond.instanceMethod yX11_slot, Cond.selects RX11 yX11_slot yX11_slot, Cond.code yX11_slot cX11_slot 3 (some .int), Cond.fieldLink RX11 314 "SlipstreamCache$Flash" "signs" "[I", Cond.methodLink RX11 309 yX11_requireSegment, Cond.static yX11_requireSegment, Cond.code yX11_requireSegment cX11_requireSegment 1 none, Cond.methodLink RL 179 yX12_slot, Cond.instanceMethod yX12_slot, Cond.selects RX12 yX12_slot yX12_slot, Cond.code yX12_slot cX12_slot 3 (some .int), Cond.methodLink RL 180 yL_wear, Cond.static yL_wear, Cond.codeWith yL_wear cL_wear 4 (some .int) [(0, 9, 12, 13)], Cond.methodLink RL 81 yX11_wear, Cond.instanceMethod yX11_wear, Cond.selects RX11 yX11_wear yX11_wear, Cond.code yX11_wear cX11_wear 2 (some .int), Cond.fieldLink RX11 317 "SlipstreamCache$Flash" "wears" "[I", Cond.methodLink RL 182 yX12_wear, Cond.instanceMethod yX12_wear, Cond.selects RX12 yX12_wear yX12_wear]
def wsL_law0_r37 : List Cond := [Cond.code yX12_wear cX12_wear 2 (some .int), Cond.methodLink RL 183 yL_stored, Cond.static yL_stored, Cond.codeWith yL_stored cL_stored 4 (some .int) [(0, 9, 12, 13)], Cond.methodLink RL 84 yX11_stored, Cond.instanceMethod yX11_stored, Cond.selects RX11 yX11_stored yX11_stored, Cond.code yX11_stored cX11_stored 2 (some .int), Cond.methodLink RL 185 yX12_stored, Cond.instanceMethod yX12_stored, Cond.selects RX12 yX12_stored yX12_stored, Cond.code yX12_stored cX12_stored 2 (some .int), Cond.methodLink RL 186 yX11_promises, Cond.instanceMethod yX11_promises, Cond.selects RX11 yX11_promises yX11_promises, Cond.code yX11_promises cX11_promises 1 (some .int), Cond.methodLink RL 189 yX12_promises, Cond.instanceMethod yX12_promises, Cond.selects RX12 yX12_promises yX12_promises, Cond.code yX12_promises cX12_promises 1 (some .int), Cond.methodLink RL 190 yL_nextPromise, Cond.static yL_nextPromise, Cond.codeWith yL_nextPromise cL_nextPromise 3 (some .int) [(0, 8, 11, 29)], Cond.methodLink RL 87 yX11_nextPromise]
def wsL_law0_r38 : List Cond := [Cond.instanceMethod yX11_nextPromise, Cond.selects RX11 yX11_nextPromise yX11_nextPromise, Cond.code yX11_nextPromise cX11_nextPromise 2 (some .int), Cond.methodLink RL 192 yX12_nextPromise, Cond.instanceMethod yX12_nextPromise, Cond.selects RX12 yX12_nextPromise yX12_nextPromise, Cond.code yX12_nextPromise cX12_nextPromise 2 (some .int), Cond.methodLink RL 193 yX11_messages, Cond.instanceMethod yX11_messages, Cond.selects RX11 yX11_messages yX11_messages, Cond.code yX11_messages cX11_messages 1 (some .int), Cond.fieldLink RX11 326 "SlipstreamCache$Mirror" "count" "I", Cond.methodLink RL 196 yX12_messages, Cond.instanceMethod yX12_messages, Cond.selects RX12 yX12_messages yX12_messages, Cond.code yX12_messages cX12_messages 1 (some .int), Cond.methodLink RX12 286 yX12_underWay, Cond.instanceMethod yX12_underWay, Cond.selects RX12 yX12_underWay yX12_underWay, Cond.code yX12_underWay cX12_underWay 3 (some .int), Cond.methodLink RL 197 yL_deliver, Cond.static yL_deliver, Cond.codeWith yL_deliver cL_deliver 4 (some .int) [(0, 16, 19, 13)], Cond.methodLink RL 90 yX11_deliver]
def wsL_law0_r39 : List Cond := [Cond.instanceMethod yX11_deliver, Cond.selects RX11 yX11_deliver yX11_deliver, Cond.code yX11_deliver cX11_deliver 2 (some .boolean), Cond.methodLink RX11 329 yX7_receive, Cond.instanceMethod yX7_receive, Cond.selects RX7 yX7_receive yX7_receive, Cond.code yX7_receive cX7_receive 5 (some .boolean), Cond.methodLink RL 199 yX12_deliver, Cond.instanceMethod yX12_deliver, Cond.selects RX12 yX12_deliver yX12_deliver, Cond.code yX12_deliver cX12_deliver 6 (some .boolean), Cond.methodLink RL 200 yL_mirrored, Cond.static yL_mirrored, Cond.codeWith yL_mirrored cL_mirrored 4 (some .int) [(0, 9, 12, 13)], Cond.methodLink RL 93 yX11_mirrored, Cond.instanceMethod yX11_mirrored, Cond.selects RX11 yX11_mirrored yX11_mirrored, Cond.code yX11_mirrored cX11_mirrored 2 (some .int), Cond.fieldLink RX11 332 "SlipstreamCache$Mirror" "values" "[I", Cond.methodLink RL 202 yX12_mirrored, Cond.instanceMethod yX12_mirrored, Cond.selects RX12 yX12_mirrored yX12_mirrored, Cond.code yX12_mirrored cX12_mirrored 2 (some .int), Cond.methodLink RL 203 yX11_paid]
def wsL_law0_r40 : List Cond := [Cond.instanceMethod yX11_paid, Cond.selects RX11 yX11_paid yX11_paid, Cond.code yX11_paid cX11_paid 1 (some .long), Cond.fieldLink RX11 333 "SlipstreamCache$Leases" "costs" "J", Cond.methodLink RL 207 yX12_paid, Cond.instanceMethod yX12_paid, Cond.selects RX12 yX12_paid yX12_paid, Cond.code yX12_paid cX12_paid 1 (some .long), Cond.methodLink RL 208 yL_answeredShare, Cond.static yL_answeredShare, Cond.codeWith yL_answeredShare cL_answeredShare 3 (some .int) [(0, 8, 11, 100)], Cond.classLink RL 100 "java/lang/ArithmeticException", Cond.methodLink RL 96 yX11_answeredShare, Cond.instanceMethod yX11_answeredShare, Cond.selects RX11 yX11_answeredShare yX11_answeredShare, Cond.code yX11_answeredShare cX11_answeredShare 1 (some .float), Cond.classLink RX11 339 "java/lang/ArithmeticException", Cond.initialized "java/lang/ArithmeticException", Cond.fieldLink RX11 336 "SlipstreamCache$Answers" "asked" "I", Cond.fieldLink RX11 344 "SlipstreamCache$Answers" "answered" "I", Cond.methodLink RL 211 yX12_answeredShare, Cond.instanceMethod yX12_answeredShare, Cond.selects RX12 yX12_answeredShare yX12_answeredShare, Cond.code yX12_answeredShare cX12_answeredShare 1 (some .float)]
def wsL_law0_r41 : List Cond := [Cond.methodLink RL 212 yL_meanStaleness, Cond.static yL_meanStaleness, Cond.codeWith yL_meanStaleness cL_meanStaleness 3 (some .int) [(0, 7, 10, 100)], Cond.methodLink RL 102 yX11_meanStaleness, Cond.instanceMethod yX11_meanStaleness, Cond.selects RX11 yX11_meanStaleness yX11_meanStaleness, Cond.code yX11_meanStaleness cX11_meanStaleness 1 (some .double), Cond.fieldLink RX11 349 "SlipstreamCache$Answers" "staleMinutes" "J", Cond.methodLink RL 214 yX12_meanStaleness, Cond.instanceMethod yX12_meanStaleness, Cond.selects RX12 yX12_meanStaleness yX12_meanStaleness, Cond.code yX12_meanStaleness cX12_meanStaleness 1 (some .double), Cond.methodLink RL 215 yX11_isHonest, Cond.instanceMethod yX11_isHonest, Cond.selects RX11 yX11_isHonest yX11_isHonest, Cond.code yX11_isHonest cX11_isHonest 4 (some .boolean), Cond.fieldLink RX11 352 "SlipstreamCache$Answers" "tooStale" "Z", Cond.methodLink RL 219 yX12_isHonest, Cond.instanceMethod yX12_isHonest, Cond.selects RX12 yX12_isHonest yX12_isHonest, Cond.code yX12_isHonest cX12_isHonest 1 (some .boolean)]
def wsL_law0 : List Cond := (wsL_law0_r1 ++ (wsL_law0_r2 ++ (wsL_law0_r3 ++ (wsL_law0_r4 ++ (wsL_law0_r5 ++ (wsL_law0_r6 ++ (wsL_law0_r7 ++ (wsL_law0_r8 ++ (wsL_law0_r9 ++ (wsL_law0_r10 ++ (wsL_law0_r11 ++ (wsL_law0_r12 ++ (wsL_law0_r13 ++ (wsL_law0_r14 ++ (wsL_law0_r15 ++ (wsL_law0_r16 ++ (wsL_law0_r17 ++ (wsL_law0_r18 ++ (wsL_law0_r19 ++ (wsL_law0_r20 ++ (wsL_law0_r21 ++ (wsL_law0_r22 ++ (wsL_law0_r23 ++ (wsL_law0_r24 ++ (wsL_law0_r25 ++ (wsL_law0_r26 ++ (wsL_law0_r27 ++ (wsL_law0_r28 ++ (wsL_law0_r29 ++ (wsL_law0_r30 ++ (wsL_law0_r31 ++ (wsL_law0_r32 ++ (wsL_law0_r33 ++ (wsL_law0_r34 ++ (wsL_law0_r35 ++ (wsL_law0_r36 ++ (wsL_law0_r37 ++ (wsL_law0_r38 ++ (wsL_law0_r39 ++ (wsL_law0_r40 ++ wsL_law0_r41)))))))))))))))))))))))))))))))))))))))) ++ wsX110 ++ wsX120 ++ wsX40 ++ wsX100 ++ wsX70 ++ wsX90 ++ wsX60 ++ wsX30 ++ wsX80 ++ wsX50 ++ wsX00 ++ wsX10 ++ wsX20 ++ ([] : List Cond)
def wsL_law : List Cond := wsL_law0 ++ (vx_atM "java/lang/ArrayIndexOutOfBoundsException" ["java/lang/IndexOutOfBoundsException", "java/lang/RuntimeException", "java/lang/Exception"]).filter goodWord ++ (vx_atS RX11 118 "java/lang/IllegalStateException" ["java/lang/RuntimeException", "java/lang/Exception"]).filter goodWord ++ (vx_atS RX11 257 "java/lang/IndexOutOfBoundsException" ["java/lang/RuntimeException", "java/lang/Exception"]).filter goodWord ++ (vx_atS RX11 215 "java/lang/IllegalArgumentException" ["java/lang/RuntimeException", "java/lang/Exception"]).filter goodWord ++ (vx_atS RX11 142 "java/lang/UnsupportedOperationException" ["java/lang/RuntimeException", "java/lang/Exception"]).filter goodWord ++ (nx_atS RX11 165 "java/util/NoSuchElementException" ["java/lang/RuntimeException", "java/lang/Exception"]).filter goodWord ++ (vx_atS RX11 343 "java/lang/ArithmeticException" ["java/lang/RuntimeException", "java/lang/Exception"]).filter goodWord
theorem dX12_slot_16 : decode cX12_slot 16 = .ok (.iconst 3, 1) := by decide +kernel
theorem dX12_slot_17 : decode cX12_slot 17 = .ok (.invokestatic 133, 3) := by decide +kernel
theorem dX12_slot_20 : decode cX12_slot 20 = .ok (.ifCond .eq 16, 3) := by decide +kernel
theorem dX12_slot_23 : decode cX12_slot 23 = .ok (.aload_n 0, 1) := by decide +kernel
theorem dX12_slot_24 : decode cX12_slot 24 = .ok (.getfield 80, 3) := by decide +kernel
theorem dX12_slot_27 : decode cX12_slot 27 = .ok (.iconst 4, 1) := by decide +kernel
theorem dX12_slot_28 : decode cX12_slot 28 = .ok (.iload_n 1, 1) := by decide +kernel
theorem dX12_slot_29 : decode cX12_slot 29 = .ok (.imul, 1) := by decide +kernel
theorem dX12_slot_30 : decode cX12_slot 30 = .ok (.iload_n 2, 1) := by decide +kernel
theorem dX12_slot_31 : decode cX12_slot 31 = .ok (.iadd, 1) := by decide +kernel
theorem dX12_slot_32 : decode cX12_slot 32 = .ok (.iaload, 1) := by decide +kernel
theorem dX12_slot_33 : decode cX12_slot 33 = .ok (.goto 8, 3) := by decide +kernel
theorem dX12_slot_36 : decode cX12_slot 36 = .ok (.aload_n 0, 1) := by decide +kernel
theorem dX12_slot_37 : decode cX12_slot 37 = .ok (.iconst 1, 1) := by decide +kernel
theorem dX12_slot_38 : decode cX12_slot 38 = .ok (.invokevirtual 201, 3) := by decide +kernel
theorem dX12_slot_41 : decode cX12_slot 41 = .ok (.ireturn, 1) := by decide +kernel
set_option maxRecDepth 20000 in
theorem ggX12_wear_X12_in : GoodIn wsX12_wear wsX12_in := goodIn_r _ [6] (by decide +kernel) (by decide +kernel)
set_option maxRecDepth 20000 in
theorem gX12_wear_X12_in : GoodIn wsX12_wear (va_wsS RX12 133 yX12_in wsX12_in) := goodIn_app (goodIn_of _ (by decide +kernel)) ggX12_wear_X12_in
set_option maxRecDepth 20000 in
theorem ggX12_wear_X12_fails : GoodIn wsX12_wear wsX12_fails := goodIn_r _ [10, 1, 11, 12, 13, 14, 15, 16, 17, 18, 19, 20, 21, 22, 23, 24, 25, 26, 27, 28, 29, 30, 31, 32, 33, 34, 35, 36, 37, 38, 39, 40, 41, 42, 43, 44, 45, 46, 47, 48, 49, 50, 51, 52, 53, 54, 55, 56, 57, 58, 59, 60, 61, 62, 63, 64, 65] (by decide +kernel) (by decide +kernel)
set_option maxRecDepth 20000 in
theorem gX12_wear_X12_fails : GoodIn wsX12_wear (wsV RX12 201 RX12 yX12_fails wsX12_fails) := goodIn_app (goodIn_of _ (by decide +kernel)) ggX12_wear_X12_fails
theorem dX12_wear_0 : decode cX12_wear 0 = .ok (.aload_n 0, 1) := by decide +kernel
theorem dX12_wear_1 : decode cX12_wear 1 = .ok (.iconst 0, 1) := by decide +kernel
theorem dX12_wear_2 : decode cX12_wear 2 = .ok (.putfield 129, 3) := by decide +kernel
theorem dX12_wear_5 : decode cX12_wear 5 = .ok (.iload_n 1, 1) := by decide +kernel
theorem dX12_wear_6 : decode cX12_wear 6 = .ok (.iconst 0, 1) := by decide +kernel
theorem dX12_wear_7 : decode cX12_wear 7 = .ok (.iconst 3, 1) := by decide +kernel
theorem dX12_wear_8 : decode cX12_wear 8 = .ok (.invokestatic 133, 3) := by decide +kernel
theorem dX12_wear_11 : decode cX12_wear 11 = .ok (.ifCond .eq 12, 3) := by decide +kernel
theorem dX12_wear_14 : decode cX12_wear 14 = .ok (.aload_n 0, 1) := by decide +kernel
theorem dX12_wear_15 : decode cX12_wear 15 = .ok (.getfield 98, 3) := by decide +kernel
theorem dX12_wear_18 : decode cX12_wear 18 = .ok (.iload_n 1, 1) := by decide +kernel
theorem dX12_wear_19 : decode cX12_wear 19 = .ok (.iaload, 1) := by decide +kernel
theorem dX12_wear_20 : decode cX12_wear 20 = .ok (.goto 8, 3) := by decide +kernel
theorem dX12_wear_23 : decode cX12_wear 23 = .ok (.aload_n 0, 1) := by decide +kernel
theorem dX12_wear_24 : decode cX12_wear 24 = .ok (.iconst 1, 1) := by decide +kernel
theorem dX12_wear_25 : decode cX12_wear 25 = .ok (.invokevirtual 201, 3) := by decide +kernel
theorem dX12_wear_28 : decode cX12_wear 28 = .ok (.ireturn, 1) := by decide +kernel
set_option maxRecDepth 20000 in
theorem ggX12_stored_X12_isKey : GoodIn wsX12_stored wsX12_isKey := goodIn_r _ [6, 7, 8, 5, 9] (by decide +kernel) (by decide +kernel)
set_option maxRecDepth 20000 in
theorem gX12_stored_X12_isKey : GoodIn wsX12_stored (va_wsS RX12 197 yX12_isKey wsX12_isKey) := goodIn_app (goodIn_of _ (by decide +kernel)) ggX12_stored_X12_isKey
set_option maxRecDepth 20000 in
theorem ggX12_stored_X12_fails : GoodIn wsX12_stored wsX12_fails := goodIn_r _ [13, 1, 14, 15, 16, 17, 18, 19, 20, 21, 22, 23, 24, 25, 26, 27, 28, 29, 30, 31, 32, 33, 34, 35, 36, 37, 38, 39, 40, 41, 42, 43, 44, 45, 46, 47, 48, 49, 50, 51, 52, 53, 54, 55, 56, 57, 58, 59, 60, 61, 62, 63, 64, 65, 66, 67, 68] (by decide +kernel) (by decide +kernel)
set_option maxRecDepth 20000 in
theorem gX12_stored_X12_fails : GoodIn wsX12_stored (wsV RX12 201 RX12 yX12_fails wsX12_fails) := goodIn_app (goodIn_of _ (by decide +kernel)) ggX12_stored_X12_fails
theorem dX12_stored_0 : decode cX12_stored 0 = .ok (.aload_n 0, 1) := by decide +kernel
theorem dX12_stored_1 : decode cX12_stored 1 = .ok (.iconst 0, 1) := by decide +kernel
theorem dX12_stored_2 : decode cX12_stored 2 = .ok (.putfield 129, 3) := by decide +kernel
theorem dX12_stored_5 : decode cX12_stored 5 = .ok (.iload_n 1, 1) := by decide +kernel
theorem dX12_stored_6 : decode cX12_stored 6 = .ok (.invokestatic 197, 3) := by decide +kernel
theorem dX12_stored_9 : decode cX12_stored 9 = .ok (.ifCond .eq 12, 3) := by decide +kernel
theorem dX12_stored_12 : decode cX12_stored 12 = .ok (.aload_n 0, 1) := by decide +kernel
theorem dX12_stored_13 : decode cX12_stored 13 = .ok (.getfield 7, 3) := by decide +kernel
theorem dX12_stored_16 : decode cX12_stored 16 = .ok (.iload_n 1, 1) := by decide +kernel
theorem dX12_stored_17 : decode cX12_stored 17 = .ok (.iaload, 1) := by decide +kernel
theorem dX12_stored_18 : decode cX12_stored 18 = .ok (.goto 8, 3) := by decide +kernel
theorem dX12_stored_21 : decode cX12_stored 21 = .ok (.aload_n 0, 1) := by decide +kernel
theorem dX12_stored_22 : decode cX12_stored 22 = .ok (.iconst 1, 1) := by decide +kernel
theorem dX12_stored_23 : decode cX12_stored 23 = .ok (.invokevirtual 201, 3) := by decide +kernel
theorem dX12_stored_26 : decode cX12_stored 26 = .ok (.ireturn, 1) := by decide +kernel
set_option maxRecDepth 20000 in
theorem ggX12_promises_X12_promiseCount : GoodIn wsX12_promises wsX12_promiseCount := goodIn_ca (goodIn_r _ [6, 7, 8, 9, 10, 11, 12, 13, 14, 15, 16, 17, 18, 19, 20, 21, 22, 23, 24, 25, 26, 27, 28, 29, 30, 31, 32, 33, 34, 35, 36, 37, 38, 39, 40, 41, 42, 43, 44, 45, 46, 47, 48, 49, 50, 51, 52, 53, 54, 55, 56, 57, 58, 59, 60, 61, 62] (by decide +kernel) (by decide +kernel)) (goodIn_sub (fun _ h => List.mem_cons_of_mem _ (List.mem_append_right _ h)) (by decide +kernel))
set_option maxRecDepth 20000 in
theorem gX12_promises_X12_promiseCount : GoodIn wsX12_promises (wsV RX12 268 RX12 yX12_promiseCount wsX12_promiseCount) := goodIn_app (goodIn_of _ (by decide +kernel)) ggX12_promises_X12_promiseCount
theorem dX12_promises_0 : decode cX12_promises 0 = .ok (.aload_n 0, 1) := by decide +kernel
theorem dX12_promises_1 : decode cX12_promises 1 = .ok (.iconst 0, 1) := by decide +kernel
theorem dX12_promises_2 : decode cX12_promises 2 = .ok (.putfield 129, 3) := by decide +kernel
theorem dX12_promises_5 : decode cX12_promises 5 = .ok (.aload_n 0, 1) := by decide +kernel
theorem dX12_promises_6 : decode cX12_promises 6 = .ok (.invokevirtual 268, 3) := by decide +kernel
theorem dX12_promises_9 : decode cX12_promises 9 = .ok (.ireturn, 1) := by decide +kernel
set_option maxRecDepth 20000 in
theorem ggX12_nextPromise_X12_nextTurn : GoodIn wsX12_nextPromise wsX12_nextTurn := goodIn_ca (goodIn_r _ [6, 7, 8, 9, 10, 15, 16, 17, 18, 19, 20, 21, 22, 23, 24, 25, 26, 27, 28, 29, 30, 31, 32, 33, 34, 35, 36, 37, 38, 39, 40, 41, 42, 43, 44, 45, 46, 47, 48, 49, 50, 51, 52, 53, 54, 55, 56, 57, 58, 59, 60, 61, 62, 63, 64, 65, 66, 67, 68, 69] (by decide +kernel) (by decide +kernel)) (goodIn_sub (fun _ h => List.mem_cons_of_mem _ (List.mem_append_right _ h)) (by decide +kernel))
set_option maxRecDepth 20000 in
theorem gX12_nextPromise_X12_nextTurn : GoodIn wsX12_nextPromise (wsV RX12 280 RX12 yX12_nextTurn wsX12_nextTurn) := goodIn_app (goodIn_of _ (by decide +kernel)) ggX12_nextPromise_X12_nextTurn
set_option maxRecDepth 20000 in
theorem ggX12_nextPromise_X12_fails : GoodIn wsX12_nextPromise wsX12_fails := goodIn_r _ [14, 1, 15, 16, 17, 18, 19, 20, 21, 22, 23, 24, 25, 26, 27, 28, 29, 30, 31, 32, 33, 34, 35, 36, 37, 38, 39, 40, 41, 42, 43, 44, 45, 46, 47, 48, 49, 50, 51, 52, 53, 54, 55, 56, 57, 58, 59, 60, 61, 62, 63, 64, 65, 66, 67, 68, 69] (by decide +kernel) (by decide +kernel)
set_option maxRecDepth 20000 in
theorem gX12_nextPromise_X12_fails : GoodIn wsX12_nextPromise (wsV RX12 201 RX12 yX12_fails wsX12_fails) := goodIn_app (goodIn_of _ (by decide +kernel)) ggX12_nextPromise_X12_fails
theorem dX12_nextPromise_0 : decode cX12_nextPromise 0 = .ok (.aload_n 0, 1) := by decide +kernel
theorem dX12_nextPromise_1 : decode cX12_nextPromise 1 = .ok (.iconst 0, 1) := by decide +kernel
theorem dX12_nextPromise_2 : decode cX12_nextPromise 2 = .ok (.putfield 129, 3) := by decide +kernel
theorem dX12_nextPromise_5 : decode cX12_nextPromise 5 = .ok (.aload_n 0, 1) := by decide +kernel
theorem dX12_nextPromise_6 : decode cX12_nextPromise 6 = .ok (.iconst (-1), 1) := by decide +kernel
theorem dX12_nextPromise_7 : decode cX12_nextPromise 7 = .ok (.invokevirtual 280, 3) := by decide +kernel
theorem dX12_nextPromise_10 : decode cX12_nextPromise 10 = .ok (.istore_n 1, 1) := by decide +kernel
theorem dX12_nextPromise_11 : decode cX12_nextPromise 11 = .ok (.iload_n 1, 1) := by decide +kernel
theorem dX12_nextPromise_12 : decode cX12_nextPromise 12 = .ok (.iconst (-1), 1) := by decide +kernel
theorem dX12_nextPromise_13 : decode cX12_nextPromise 13 = .ok (.if_icmp .ne 11, 3) := by decide +kernel
theorem dX12_nextPromise_16 : decode cX12_nextPromise 16 = .ok (.aload_n 0, 1) := by decide +kernel
theorem dX12_nextPromise_17 : decode cX12_nextPromise 17 = .ok (.iconst 1, 1) := by decide +kernel
theorem dX12_nextPromise_18 : decode cX12_nextPromise 18 = .ok (.invokevirtual 201, 3) := by decide +kernel
theorem dX12_nextPromise_21 : decode cX12_nextPromise 21 = .ok (.goto 4, 3) := by decide +kernel
theorem dX12_nextPromise_24 : decode cX12_nextPromise 24 = .ok (.iload_n 1, 1) := by decide +kernel
theorem dX12_nextPromise_25 : decode cX12_nextPromise 25 = .ok (.ireturn, 1) := by decide +kernel
theorem dX12_underWay_0 : decode cX12_underWay 0 = .ok (.iconst 0, 1) := by decide +kernel
theorem dX12_underWay_1 : decode cX12_underWay 1 = .ok (.istore_n 1, 1) := by decide +kernel
theorem dX12_underWay_2 : decode cX12_underWay 2 = .ok (.iconst 0, 1) := by decide +kernel
theorem dX12_underWay_3 : decode cX12_underWay 3 = .ok (.istore_n 2, 1) := by decide +kernel
theorem dX12_underWay_4 : decode cX12_underWay 4 = .ok (.iload_n 2, 1) := by decide +kernel
theorem dX12_underWay_5 : decode cX12_underWay 5 = .ok (.aload_n 0, 1) := by decide +kernel
theorem dX12_underWay_6 : decode cX12_underWay 6 = .ok (.getfield 156, 3) := by decide +kernel
theorem dX12_underWay_9 : decode cX12_underWay 9 = .ok (.if_icmp .ge 26, 3) := by decide +kernel
theorem dX12_underWay_12 : decode cX12_underWay 12 = .ok (.iload_n 1, 1) := by decide +kernel
theorem dX12_underWay_13 : decode cX12_underWay 13 = .ok (.aload_n 0, 1) := by decide +kernel
theorem dX12_underWay_14 : decode cX12_underWay 14 = .ok (.getfield 28, 3) := by decide +kernel
theorem dX12_underWay_17 : decode cX12_underWay 17 = .ok (.iload_n 2, 1) := by decide +kernel
theorem dX12_underWay_18 : decode cX12_underWay 18 = .ok (.baload, 1) := by decide +kernel
theorem dX12_underWay_19 : decode cX12_underWay 19 = .ok (.ifCond .eq 7, 3) := by decide +kernel
theorem dX12_underWay_22 : decode cX12_underWay 22 = .ok (.iconst 1, 1) := by decide +kernel
theorem dX12_underWay_23 : decode cX12_underWay 23 = .ok (.goto 4, 3) := by decide +kernel
theorem dX12_underWay_26 : decode cX12_underWay 26 = .ok (.iconst 0, 1) := by decide +kernel
theorem dX12_underWay_27 : decode cX12_underWay 27 = .ok (.iadd, 1) := by decide +kernel
theorem dX12_underWay_28 : decode cX12_underWay 28 = .ok (.istore_n 1, 1) := by decide +kernel
theorem dX12_underWay_29 : decode cX12_underWay 29 = .ok (.iinc 2 1, 3) := by decide +kernel
theorem dX12_underWay_32 : decode cX12_underWay 32 = .ok (.goto (-28), 3) := by decide +kernel
theorem dX12_underWay_35 : decode cX12_underWay 35 = .ok (.iload_n 1, 1) := by decide +kernel
theorem dX12_underWay_36 : decode cX12_underWay 36 = .ok (.ireturn, 1) := by decide +kernel
set_option maxRecDepth 20000 in
theorem ggX12_messages_X12_underWay : GoodIn wsX12_messages wsX12_underWay := goodIn_ca (goodIn_r _ [6, 7, 8, 9, 10, 11, 12, 13, 14, 15, 16, 17, 18, 19, 20, 21, 22, 23, 24, 25, 26, 27, 28, 29, 30, 31, 32, 33, 34, 35, 36, 37, 38, 39, 40, 41, 42, 43, 44, 45, 46, 47, 48, 49, 50, 51, 52, 53, 54, 55, 56, 57, 58, 59, 60, 61, 62, 63] (by decide +kernel) (by decide +kernel)) (goodIn_sub (fun _ h => List.mem_cons_of_mem _ (List.mem_append_right _ h)) (by decide +kernel))
set_option maxRecDepth 20000 in
theorem gX12_messages_X12_underWay : GoodIn wsX12_messages (wsV RX12 286 RX12 yX12_underWay wsX12_underWay) := goodIn_app (goodIn_of _ (by decide +kernel)) ggX12_messages_X12_underWay
theorem dX12_messages_0 : decode cX12_messages 0 = .ok (.aload_n 0, 1) := by decide +kernel
theorem dX12_messages_1 : decode cX12_messages 1 = .ok (.iconst 0, 1) := by decide +kernel
theorem dX12_messages_2 : decode cX12_messages 2 = .ok (.putfield 129, 3) := by decide +kernel
theorem dX12_messages_5 : decode cX12_messages 5 = .ok (.aload_n 0, 1) := by decide +kernel
theorem dX12_messages_6 : decode cX12_messages 6 = .ok (.invokevirtual 286, 3) := by decide +kernel
theorem dX12_messages_9 : decode cX12_messages 9 = .ok (.ireturn, 1) := by decide +kernel
set_option maxRecDepth 20000 in
theorem ggX12_deliver_X12_underWay : GoodIn wsX12_deliver wsX12_underWay := goodIn_ca (goodIn_r _ [12, 13, 2, 17, 18, 19, 20, 21, 22, 23, 24, 25, 26, 27, 28, 29, 30, 31, 32, 33, 34, 35, 36, 37, 38, 39, 40, 41, 42, 43, 44, 45, 46, 47, 48, 49, 50, 51, 52, 53, 54, 55, 56, 57, 58, 59, 60, 61, 62, 63, 64, 65, 66, 67, 68, 69, 70, 71] (by decide +kernel) (by decide +kernel)) (goodIn_sub (fun _ h => List.mem_cons_of_mem _ (List.mem_append_right _ h)) (by decide +kernel))
set_option maxRecDepth 20000 in
theorem gX12_deliver_X12_underWay : GoodIn wsX12_deliver (wsV RX12 286 RX12 yX12_underWay wsX12_underWay) := goodIn_app (goodIn_of _ (by decide +kernel)) ggX12_deliver_X12_underWay
set_option maxRecDepth 20000 in
theorem ggX12_deliver_X12_in : GoodIn wsX12_deliver wsX12_in := goodIn_r _ [16] (by decide +kernel) (by decide +kernel)
set_option maxRecDepth 20000 in
theorem gX12_deliver_X12_in : GoodIn wsX12_deliver (va_wsS RX12 133 yX12_in wsX12_in) := goodIn_app (goodIn_of _ (by decide +kernel)) ggX12_deliver_X12_in
theorem dX12_deliver_0 : decode cX12_deliver 0 = .ok (.aload_n 0, 1) := by decide +kernel
theorem dX12_deliver_1 : decode cX12_deliver 1 = .ok (.iload_n 1, 1) := by decide +kernel
theorem dX12_deliver_2 : decode cX12_deliver 2 = .ok (.iconst 0, 1) := by decide +kernel
theorem dX12_deliver_3 : decode cX12_deliver 3 = .ok (.aload_n 0, 1) := by decide +kernel
theorem dX12_deliver_4 : decode cX12_deliver 4 = .ok (.invokevirtual 286, 3) := by decide +kernel
theorem dX12_deliver_7 : decode cX12_deliver 7 = .ok (.iconst 1, 1) := by decide +kernel
theorem dX12_deliver_8 : decode cX12_deliver 8 = .ok (.isub, 1) := by decide +kernel
theorem dX12_deliver_9 : decode cX12_deliver 9 = .ok (.invokestatic 133, 3) := by decide +kernel
theorem dX12_deliver_12 : decode cX12_deliver 12 = .ok (.ifCond .eq 7, 3) := by decide +kernel
theorem dX12_deliver_15 : decode cX12_deliver 15 = .ok (.iconst 0, 1) := by decide +kernel
theorem dX12_deliver_16 : decode cX12_deliver 16 = .ok (.goto 4, 3) := by decide +kernel
theorem dX12_deliver_19 : decode cX12_deliver 19 = .ok (.iconst 1, 1) := by decide +kernel
theorem dX12_deliver_20 : decode cX12_deliver 20 = .ok (.putfield 129, 3) := by decide +kernel
theorem dX12_deliver_23 : decode cX12_deliver 23 = .ok (.aload_n 0, 1) := by decide +kernel
theorem dX12_deliver_24 : decode cX12_deliver 24 = .ok (.getfield 129, 3) := by decide +kernel
theorem dX12_deliver_27 : decode cX12_deliver 27 = .ok (.ifCond .le 5, 3) := by decide +kernel
theorem dX12_deliver_30 : decode cX12_deliver 30 = .ok (.iconst 0, 1) := by decide +kernel
theorem dX12_deliver_31 : decode cX12_deliver 31 = .ok (.ireturn, 1) := by decide +kernel
theorem dX12_deliver_32 : decode cX12_deliver 32 = .ok (.iconst 0, 1) := by decide +kernel
theorem dX12_deliver_33 : decode cX12_deliver 33 = .ok (.istore_n 2, 1) := by decide +kernel
theorem dX12_deliver_34 : decode cX12_deliver 34 = .ok (.iload_n 1, 1) := by decide +kernel
theorem dX12_deliver_35 : decode cX12_deliver 35 = .ok (.istore_n 3, 1) := by decide +kernel
theorem dX12_deliver_36 : decode cX12_deliver 36 = .ok (.aload_n 0, 1) := by decide +kernel
theorem dX12_deliver_37 : decode cX12_deliver 37 = .ok (.getfield 28, 3) := by decide +kernel
theorem dX12_deliver_40 : decode cX12_deliver 40 = .ok (.iload_n 2, 1) := by decide +kernel
theorem dX12_deliver_41 : decode cX12_deliver 41 = .ok (.baload, 1) := by decide +kernel
theorem dX12_deliver_42 : decode cX12_deliver 42 = .ok (.ifCond .eq 7, 3) := by decide +kernel
theorem dX12_deliver_45 : decode cX12_deliver 45 = .ok (.iload_n 3, 1) := by decide +kernel
theorem dX12_deliver_46 : decode cX12_deliver 46 = .ok (.ifCond .le 26, 3) := by decide +kernel
theorem dX12_deliver_49 : decode cX12_deliver 49 = .ok (.iload_n 3, 1) := by decide +kernel
theorem dX12_deliver_50 : decode cX12_deliver 50 = .ok (.aload_n 0, 1) := by decide +kernel
theorem dX12_deliver_51 : decode cX12_deliver 51 = .ok (.getfield 28, 3) := by decide +kernel
theorem dX12_deliver_54 : decode cX12_deliver 54 = .ok (.iload_n 2, 1) := by decide +kernel
theorem dX12_deliver_55 : decode cX12_deliver 55 = .ok (.baload, 1) := by decide +kernel
theorem dX12_deliver_56 : decode cX12_deliver 56 = .ok (.ifCond .eq 7, 3) := by decide +kernel
theorem dX12_deliver_59 : decode cX12_deliver 59 = .ok (.iconst 1, 1) := by decide +kernel
theorem dX12_deliver_60 : decode cX12_deliver 60 = .ok (.goto 4, 3) := by decide +kernel
theorem dX12_deliver_63 : decode cX12_deliver 63 = .ok (.iconst 0, 1) := by decide +kernel
theorem dX12_deliver_64 : decode cX12_deliver 64 = .ok (.isub, 1) := by decide +kernel
theorem dX12_deliver_65 : decode cX12_deliver 65 = .ok (.istore_n 3, 1) := by decide +kernel
theorem dX12_deliver_66 : decode cX12_deliver 66 = .ok (.iinc 2 1, 3) := by decide +kernel
theorem dX12_deliver_69 : decode cX12_deliver 69 = .ok (.goto (-33), 3) := by decide +kernel
theorem dX12_deliver_72 : decode cX12_deliver 72 = .ok (.aload_n 0, 1) := by decide +kernel
theorem dX12_deliver_73 : decode cX12_deliver 73 = .ok (.getfield 28, 3) := by decide +kernel
theorem dX12_deliver_76 : decode cX12_deliver 76 = .ok (.iload_n 2, 1) := by decide +kernel
theorem dX12_deliver_77 : decode cX12_deliver 77 = .ok (.iconst 0, 1) := by decide +kernel
theorem dX12_deliver_78 : decode cX12_deliver 78 = .ok (.bastore, 1) := by decide +kernel
theorem dX12_deliver_79 : decode cX12_deliver 79 = .ok (.aload_n 0, 1) := by decide +kernel
theorem dX12_deliver_80 : decode cX12_deliver 80 = .ok (.getfield 16, 3) := by decide +kernel
theorem dX12_deliver_83 : decode cX12_deliver 83 = .ok (.iload_n 2, 1) := by decide +kernel
theorem dX12_deliver_84 : decode cX12_deliver 84 = .ok (.iaload, 1) := by decide +kernel
theorem dX12_deliver_85 : decode cX12_deliver 85 = .ok (.istore 4, 2) := by decide +kernel
theorem dX12_deliver_87 : decode cX12_deliver 87 = .ok (.aload_n 0, 1) := by decide +kernel
theorem dX12_deliver_88 : decode cX12_deliver 88 = .ok (.getfield 19, 3) := by decide +kernel
theorem dX12_deliver_91 : decode cX12_deliver 91 = .ok (.iload_n 2, 1) := by decide +kernel
theorem dX12_deliver_92 : decode cX12_deliver 92 = .ok (.iaload, 1) := by decide +kernel
theorem dX12_deliver_93 : decode cX12_deliver 93 = .ok (.aload_n 0, 1) := by decide +kernel
theorem dX12_deliver_94 : decode cX12_deliver 94 = .ok (.getfield 35, 3) := by decide +kernel
theorem dX12_deliver_97 : decode cX12_deliver 97 = .ok (.iload 4, 2) := by decide +kernel
theorem dX12_deliver_99 : decode cX12_deliver 99 = .ok (.iaload, 1) := by decide +kernel
theorem dX12_deliver_100 : decode cX12_deliver 100 = .ok (.if_icmp .le 7, 3) := by decide +kernel
theorem dX12_deliver_103 : decode cX12_deliver 103 = .ok (.iconst 1, 1) := by decide +kernel
theorem dX12_deliver_104 : decode cX12_deliver 104 = .ok (.goto 4, 3) := by decide +kernel
theorem dX12_deliver_107 : decode cX12_deliver 107 = .ok (.iconst 0, 1) := by decide +kernel
theorem dX12_deliver_108 : decode cX12_deliver 108 = .ok (.istore 5, 2) := by decide +kernel
theorem dX12_deliver_110 : decode cX12_deliver 110 = .ok (.aload_n 0, 1) := by decide +kernel
theorem dX12_deliver_111 : decode cX12_deliver 111 = .ok (.getfield 32, 3) := by decide +kernel
theorem dX12_deliver_114 : decode cX12_deliver 114 = .ok (.iload 4, 2) := by decide +kernel
theorem dX12_deliver_116 : decode cX12_deliver 116 = .ok (.iload 5, 2) := by decide +kernel
theorem dX12_deliver_118 : decode cX12_deliver 118 = .ok (.ifCond .eq 12, 3) := by decide +kernel
theorem dX12_deliver_121 : decode cX12_deliver 121 = .ok (.aload_n 0, 1) := by decide +kernel
theorem dX12_deliver_122 : decode cX12_deliver 122 = .ok (.getfield 25, 3) := by decide +kernel
theorem dX12_deliver_125 : decode cX12_deliver 125 = .ok (.iload_n 2, 1) := by decide +kernel
theorem dX12_deliver_126 : decode cX12_deliver 126 = .ok (.iaload, 1) := by decide +kernel
theorem dX12_deliver_127 : decode cX12_deliver 127 = .ok (.goto 10, 3) := by decide +kernel
theorem dX12_deliver_130 : decode cX12_deliver 130 = .ok (.aload_n 0, 1) := by decide +kernel
theorem dX12_deliver_131 : decode cX12_deliver 131 = .ok (.getfield 32, 3) := by decide +kernel
theorem dX12_deliver_134 : decode cX12_deliver 134 = .ok (.iload 4, 2) := by decide +kernel
theorem dX12_deliver_136 : decode cX12_deliver 136 = .ok (.iaload, 1) := by decide +kernel
theorem dX12_deliver_137 : decode cX12_deliver 137 = .ok (.iastore, 1) := by decide +kernel
theorem dX12_deliver_138 : decode cX12_deliver 138 = .ok (.aload_n 0, 1) := by decide +kernel
theorem dX12_deliver_139 : decode cX12_deliver 139 = .ok (.getfield 35, 3) := by decide +kernel
theorem dX12_deliver_142 : decode cX12_deliver 142 = .ok (.iload 4, 2) := by decide +kernel
theorem dX12_deliver_144 : decode cX12_deliver 144 = .ok (.iload 5, 2) := by decide +kernel
theorem dX12_deliver_146 : decode cX12_deliver 146 = .ok (.ifCond .eq 12, 3) := by decide +kernel
theorem dX12_deliver_149 : decode cX12_deliver 149 = .ok (.aload_n 0, 1) := by decide +kernel
theorem dX12_deliver_150 : decode cX12_deliver 150 = .ok (.getfield 19, 3) := by decide +kernel
theorem dX12_deliver_153 : decode cX12_deliver 153 = .ok (.iload_n 2, 1) := by decide +kernel
theorem dX12_deliver_154 : decode cX12_deliver 154 = .ok (.iaload, 1) := by decide +kernel
theorem dX12_deliver_155 : decode cX12_deliver 155 = .ok (.goto 10, 3) := by decide +kernel
theorem dX12_deliver_158 : decode cX12_deliver 158 = .ok (.aload_n 0, 1) := by decide +kernel
theorem dX12_deliver_159 : decode cX12_deliver 159 = .ok (.getfield 35, 3) := by decide +kernel
theorem dX12_deliver_162 : decode cX12_deliver 162 = .ok (.iload 4, 2) := by decide +kernel
theorem dX12_deliver_164 : decode cX12_deliver 164 = .ok (.iaload, 1) := by decide +kernel
theorem dX12_deliver_165 : decode cX12_deliver 165 = .ok (.iastore, 1) := by decide +kernel
theorem dX12_deliver_166 : decode cX12_deliver 166 = .ok (.iload 5, 2) := by decide +kernel
theorem dX12_deliver_168 : decode cX12_deliver 168 = .ok (.ireturn, 1) := by decide +kernel
set_option maxRecDepth 20000 in
theorem ggX12_mirrored_X12_isKey : GoodIn wsX12_mirrored wsX12_isKey := goodIn_r _ [6, 7, 8, 5, 9] (by decide +kernel) (by decide +kernel)
set_option maxRecDepth 20000 in
theorem gX12_mirrored_X12_isKey : GoodIn wsX12_mirrored (va_wsS RX12 197 yX12_isKey wsX12_isKey) := goodIn_app (goodIn_of _ (by decide +kernel)) ggX12_mirrored_X12_isKey
set_option maxRecDepth 20000 in
theorem ggX12_mirrored_X12_fails : GoodIn wsX12_mirrored wsX12_fails := goodIn_r _ [13, 1, 14, 15, 16, 17, 18, 19, 20, 21, 22, 23, 24, 25, 26, 27, 28, 29, 30, 31, 32, 33, 34, 35, 36, 37, 38, 39, 40, 41, 42, 43, 44, 45, 46, 47, 48, 49, 50, 51, 52, 53, 54, 55, 56, 57, 58, 59, 60, 61, 62, 63, 64, 65, 66, 67, 68] (by decide +kernel) (by decide +kernel)
set_option maxRecDepth 20000 in
theorem gX12_mirrored_X12_fails : GoodIn wsX12_mirrored (wsV RX12 201 RX12 yX12_fails wsX12_fails) := goodIn_app (goodIn_of _ (by decide +kernel)) ggX12_mirrored_X12_fails
theorem dX12_mirrored_0 : decode cX12_mirrored 0 = .ok (.aload_n 0, 1) := by decide +kernel
theorem dX12_mirrored_1 : decode cX12_mirrored 1 = .ok (.iconst 0, 1) := by decide +kernel
theorem dX12_mirrored_2 : decode cX12_mirrored 2 = .ok (.putfield 129, 3) := by decide +kernel
theorem dX12_mirrored_5 : decode cX12_mirrored 5 = .ok (.iload_n 1, 1) := by decide +kernel
theorem dX12_mirrored_6 : decode cX12_mirrored 6 = .ok (.invokestatic 197, 3) := by decide +kernel
theorem dX12_mirrored_9 : decode cX12_mirrored 9 = .ok (.ifCond .eq 12, 3) := by decide +kernel
theorem dX12_mirrored_12 : decode cX12_mirrored 12 = .ok (.aload_n 0, 1) := by decide +kernel
theorem dX12_mirrored_13 : decode cX12_mirrored 13 = .ok (.getfield 32, 3) := by decide +kernel
theorem dX12_mirrored_16 : decode cX12_mirrored 16 = .ok (.iload_n 1, 1) := by decide +kernel
theorem dX12_mirrored_17 : decode cX12_mirrored 17 = .ok (.iaload, 1) := by decide +kernel
theorem dX12_mirrored_18 : decode cX12_mirrored 18 = .ok (.goto 8, 3) := by decide +kernel
theorem dX12_mirrored_21 : decode cX12_mirrored 21 = .ok (.aload_n 0, 1) := by decide +kernel
theorem dX12_mirrored_22 : decode cX12_mirrored 22 = .ok (.iconst 1, 1) := by decide +kernel
theorem dX12_mirrored_23 : decode cX12_mirrored 23 = .ok (.invokevirtual 201, 3) := by decide +kernel
theorem dX12_mirrored_26 : decode cX12_mirrored 26 = .ok (.ireturn, 1) := by decide +kernel
theorem dX12_paid_0 : decode cX12_paid 0 = .ok (.aload_n 0, 1) := by decide +kernel
theorem dX12_paid_1 : decode cX12_paid 1 = .ok (.iconst 0, 1) := by decide +kernel
theorem dX12_paid_2 : decode cX12_paid 2 = .ok (.putfield 129, 3) := by decide +kernel
theorem dX12_paid_5 : decode cX12_paid 5 = .ok (.aload_n 0, 1) := by decide +kernel
theorem dX12_paid_6 : decode cX12_paid 6 = .ok (.getfield 262, 3) := by decide +kernel
theorem dX12_paid_9 : decode cX12_paid 9 = .ok (.lreturn, 1) := by decide +kernel
theorem dX12_answeredShare_0 : decode cX12_answeredShare 0 = .ok (.aload_n 0, 1) := by decide +kernel
theorem dX12_answeredShare_1 : decode cX12_answeredShare 1 = .ok (.aload_n 0, 1) := by decide +kernel
theorem dX12_answeredShare_2 : decode cX12_answeredShare 2 = .ok (.getfield 150, 3) := by decide +kernel
theorem dX12_answeredShare_5 : decode cX12_answeredShare 5 = .ok (.ifCond .ne 7, 3) := by decide +kernel
theorem dX12_answeredShare_8 : decode cX12_answeredShare 8 = .ok (.iconst 1, 1) := by decide +kernel
theorem dX12_answeredShare_9 : decode cX12_answeredShare 9 = .ok (.goto 4, 3) := by decide +kernel
theorem dX12_answeredShare_12 : decode cX12_answeredShare 12 = .ok (.iconst 0, 1) := by decide +kernel
theorem dX12_answeredShare_13 : decode cX12_answeredShare 13 = .ok (.putfield 129, 3) := by decide +kernel
theorem dX12_answeredShare_16 : decode cX12_answeredShare 16 = .ok (.aload_n 0, 1) := by decide +kernel
theorem dX12_answeredShare_17 : decode cX12_answeredShare 17 = .ok (.getfield 129, 3) := by decide +kernel
theorem dX12_answeredShare_20 : decode cX12_answeredShare 20 = .ok (.ifCond .le 7, 3) := by decide +kernel
theorem dX12_answeredShare_23 : decode cX12_answeredShare 23 = .ok (.fconst 0, 1) := by decide +kernel
theorem dX12_answeredShare_24 : decode cX12_answeredShare 24 = .ok (.goto 14, 3) := by decide +kernel
theorem dX12_answeredShare_27 : decode cX12_answeredShare 27 = .ok (.aload_n 0, 1) := by decide +kernel
theorem dX12_answeredShare_28 : decode cX12_answeredShare 28 = .ok (.getfield 214, 3) := by decide +kernel
theorem dX12_answeredShare_31 : decode cX12_answeredShare 31 = .ok (.i2f, 1) := by decide +kernel
theorem dX12_answeredShare_32 : decode cX12_answeredShare 32 = .ok (.aload_n 0, 1) := by decide +kernel
theorem dX12_answeredShare_33 : decode cX12_answeredShare 33 = .ok (.getfield 150, 3) := by decide +kernel
theorem dX12_answeredShare_36 : decode cX12_answeredShare 36 = .ok (.i2f, 1) := by decide +kernel
theorem dX12_answeredShare_37 : decode cX12_answeredShare 37 = .ok (.fdiv, 1) := by decide +kernel
theorem dX12_answeredShare_38 : decode cX12_answeredShare 38 = .ok (.freturn, 1) := by decide +kernel
theorem dX12_meanStaleness_0 : decode cX12_meanStaleness 0 = .ok (.aload_n 0, 1) := by decide +kernel
theorem dX12_meanStaleness_1 : decode cX12_meanStaleness 1 = .ok (.aload_n 0, 1) := by decide +kernel
theorem dX12_meanStaleness_2 : decode cX12_meanStaleness 2 = .ok (.getfield 214, 3) := by decide +kernel
theorem dX12_meanStaleness_5 : decode cX12_meanStaleness 5 = .ok (.ifCond .ne 7, 3) := by decide +kernel
theorem dX12_meanStaleness_8 : decode cX12_meanStaleness 8 = .ok (.iconst 1, 1) := by decide +kernel
theorem dX12_meanStaleness_9 : decode cX12_meanStaleness 9 = .ok (.goto 4, 3) := by decide +kernel
theorem dX12_meanStaleness_12 : decode cX12_meanStaleness 12 = .ok (.iconst 0, 1) := by decide +kernel
theorem dX12_meanStaleness_13 : decode cX12_meanStaleness 13 = .ok (.putfield 129, 3) := by decide +kernel
theorem dX12_meanStaleness_16 : decode cX12_meanStaleness 16 = .ok (.aload_n 0, 1) := by decide +kernel
theorem dX12_meanStaleness_17 : decode cX12_meanStaleness 17 = .ok (.getfield 129, 3) := by decide +kernel
theorem dX12_meanStaleness_20 : decode cX12_meanStaleness 20 = .ok (.ifCond .le 7, 3) := by decide +kernel
theorem dX12_meanStaleness_23 : decode cX12_meanStaleness 23 = .ok (.dconst 0, 1) := by decide +kernel
theorem dX12_meanStaleness_24 : decode cX12_meanStaleness 24 = .ok (.goto 14, 3) := by decide +kernel
theorem dX12_meanStaleness_27 : decode cX12_meanStaleness 27 = .ok (.aload_n 0, 1) := by decide +kernel
theorem dX12_meanStaleness_28 : decode cX12_meanStaleness 28 = .ok (.getfield 226, 3) := by decide +kernel
theorem dX12_meanStaleness_31 : decode cX12_meanStaleness 31 = .ok (.l2d, 1) := by decide +kernel
theorem dX12_meanStaleness_32 : decode cX12_meanStaleness 32 = .ok (.aload_n 0, 1) := by decide +kernel
theorem dX12_meanStaleness_33 : decode cX12_meanStaleness 33 = .ok (.getfield 214, 3) := by decide +kernel
theorem dX12_meanStaleness_36 : decode cX12_meanStaleness 36 = .ok (.i2d, 1) := by decide +kernel
theorem dX12_meanStaleness_37 : decode cX12_meanStaleness 37 = .ok (.ddiv, 1) := by decide +kernel
theorem dX12_meanStaleness_38 : decode cX12_meanStaleness 38 = .ok (.dreturn, 1) := by decide +kernel
theorem dX12_isHonest_0 : decode cX12_isHonest 0 = .ok (.aload_n 0, 1) := by decide +kernel
theorem dX12_isHonest_1 : decode cX12_isHonest 1 = .ok (.iconst 0, 1) := by decide +kernel
theorem dX12_isHonest_2 : decode cX12_isHonest 2 = .ok (.putfield 129, 3) := by decide +kernel
theorem dX12_isHonest_5 : decode cX12_isHonest 5 = .ok (.iconst 1, 1) := by decide +kernel
theorem dX12_isHonest_6 : decode cX12_isHonest 6 = .ok (.ireturn, 1) := by decide +kernel
theorem dJx00060_init_a7421_0 : decode cJx00060_init_a7421 0 = .ok (.aload_n 0, 1) := by decide +kernel
theorem dJx00060_init_a7421_1 : decode cJx00060_init_a7421 1 = .ok (.aload_n 1, 1) := by decide +kernel
theorem dJx00060_init_a7421_2 : decode cJx00060_init_a7421 2 = .ok (.invokespecial 7, 3) := by decide +kernel
theorem dJx00060_init_a7421_5 : decode cJx00060_init_a7421 5 = .ok (.return_, 1) := by decide +kernel
theorem dJ9_min_7cf53_0 : decode cJ9_min_7cf53 0 = .ok (.iload_n 0, 1) := by decide +kernel
theorem dJ9_min_7cf53_1 : decode cJ9_min_7cf53 1 = .ok (.iload_n 1, 1) := by decide +kernel
theorem dJ9_min_7cf53_2 : decode cJ9_min_7cf53 2 = .ok (.if_icmp .gt 7, 3) := by decide +kernel
theorem dJ9_min_7cf53_5 : decode cJ9_min_7cf53 5 = .ok (.iload_n 0, 1) := by decide +kernel
theorem dJ9_min_7cf53_6 : decode cJ9_min_7cf53 6 = .ok (.goto 4, 3) := by decide +kernel
theorem dJ9_min_7cf53_9 : decode cJ9_min_7cf53 9 = .ok (.iload_n 1, 1) := by decide +kernel
theorem dJ9_min_7cf53_10 : decode cJ9_min_7cf53 10 = .ok (.ireturn, 1) := by decide +kernel
set_option maxRecDepth 20000 in
theorem ggL_setKey_X11_setKey : GoodIn wsL_setKey wsX11_setKey := goodIn_ca (goodIn_ca (goodIn_ca (goodIn_ca (goodIn_r _ [8, 9, 10, 11, 12, 13, 14, 15, 16, 17, 18, 7, 19, 20, 21, 22, 23, 24, 25, 26, 27, 28, 29, 30, 31, 32, 33, 34, 35, 36, 37, 38, 39, 40, 41, 42, 43, 44, 45, 46, 47, 48, 49, 50, 51, 52, 53, 54, 55, 56, 57, 58, 59, 60, 61, 62, 63, 64, 65, 66, 67, 68, 69, 70, 71, 72, 73, 74, 75, 76, 77, 78, 79, 80, 81, 82, 83, 84, 85, 86, 87] (by decide +kernel) (by decide +kernel)) (goodIn_sub (fun _ h => List.mem_cons_of_mem _ (List.mem_append_left _ (List.mem_append_left _ (List.mem_append_right _ h)))) (by decide +kernel))) (goodIn_sub (fun _ h => List.mem_cons_of_mem _ (List.mem_append_left _ (List.mem_append_left _ (List.mem_append_left _ (List.mem_append_right _ h))))) (by decide +kernel))) (goodIn_sub (fun _ h => List.mem_cons_of_mem _ (List.mem_append_left _ (List.mem_append_right _ h))) (by decide +kernel))) (goodIn_sub (fun _ h => List.mem_cons_of_mem _ (List.mem_append_right _ h)) (by decide +kernel))
set_option maxRecDepth 20000 in
theorem gL_setKey_X11_setKey : GoodIn wsL_setKey (wsV RL 7 RX11 yX11_setKey wsX11_setKey) := goodIn_app (goodIn_of _ (by decide +kernel)) ggL_setKey_X11_setKey
theorem dL_setKey_0 : decode cL_setKey 0 = .ok (.aload 5, 2) := by decide +kernel
theorem dL_setKey_2 : decode cL_setKey 2 = .ok (.iconst 0, 1) := by decide +kernel
theorem dL_setKey_3 : decode cL_setKey 3 = .ok (.aload_n 0, 1) := by decide +kernel
theorem dL_setKey_4 : decode cL_setKey 4 = .ok (.iload_n 1, 1) := by decide +kernel
theorem dL_setKey_5 : decode cL_setKey 5 = .ok (.iload_n 2, 1) := by decide +kernel
theorem dL_setKey_6 : decode cL_setKey 6 = .ok (.iload_n 3, 1) := by decide +kernel
theorem dL_setKey_7 : decode cL_setKey 7 = .ok (.iload 4, 2) := by decide +kernel
theorem dL_setKey_9 : decode cL_setKey 9 = .ok (.invokevirtual 7, 3) := by decide +kernel
theorem dL_setKey_12 : decode cL_setKey 12 = .ok (.i2l, 1) := by decide +kernel
theorem dL_setKey_13 : decode cL_setKey 13 = .ok (.lastore, 1) := by decide +kernel
theorem dL_setKey_14 : decode cL_setKey 14 = .ok (.goto 15, 3) := by decide +kernel
theorem dL_setKey_17 : decode cL_setKey 17 = .ok (.astore 6, 2) := by decide +kernel
theorem dL_setKey_19 : decode cL_setKey 19 = .ok (.iconst 1, 1) := by decide +kernel
theorem dL_setKey_20 : decode cL_setKey 20 = .ok (.ireturn, 1) := by decide +kernel
theorem dL_setKey_21 : decode cL_setKey 21 = .ok (.astore 6, 2) := by decide +kernel
theorem dL_setKey_23 : decode cL_setKey 23 = .ok (.iconst 2, 1) := by decide +kernel
theorem dL_setKey_24 : decode cL_setKey 24 = .ok (.ireturn, 1) := by decide +kernel
theorem dL_setKey_25 : decode cL_setKey 25 = .ok (.astore 6, 2) := by decide +kernel
theorem dL_setKey_27 : decode cL_setKey 27 = .ok (.iconst 3, 1) := by decide +kernel
theorem dL_setKey_28 : decode cL_setKey 28 = .ok (.ireturn, 1) := by decide +kernel
theorem dL_setKey_29 : decode cL_setKey 29 = .ok (.iconst 0, 1) := by decide +kernel
theorem dL_setKey_30 : decode cL_setKey 30 = .ok (.ireturn, 1) := by decide +kernel
set_option maxRecDepth 20000 in
theorem ggL_get_X11_get : GoodIn wsL_get wsX11_get := goodIn_ca (goodIn_ca (goodIn_ca (goodIn_ca (goodIn_ca (goodIn_r _ [9, 10, 11, 12, 13, 14, 15, 16, 17, 18, 19, 8, 20, 21, 22, 23, 24, 25, 26, 27, 28, 29, 30, 31, 32, 33, 34, 35, 36, 37, 38, 39, 40, 41, 42, 43, 44, 45, 46, 47, 48, 49, 50, 51, 52, 53, 54, 55, 56, 57, 58, 59, 60, 61, 62, 63, 64, 65, 66, 67, 68, 69, 70, 71, 72, 73, 74, 75, 76, 77, 78, 79, 80, 81, 82, 83, 84, 85, 86, 87, 88, 89, 90, 91, 92, 93, 94, 95, 96, 97, 98, 99, 100, 101, 102, 103, 104, 105, 106, 107, 108, 109, 110, 111, 112, 113, 114, 115, 116, 117, 118, 119, 120, 121, 122, 123, 124, 125, 126, 127, 128, 129, 130, 131, 132, 133, 134, 135, 136, 137, 138, 139, 140, 141, 142, 143, 144, 145, 146, 147, 148, 149, 150, 151, 152, 153, 154, 155, 156, 157, 158, 159, 160, 161, 162, 163, 164, 165, 166, 167, 168, 169, 170, 171, 172, 173, 174, 175, 176, 177, 178, 179, 180, 181, 182, 183, 184, 185, 186, 187, 188, 189, 190, 191, 192, 193, 194, 195, 196, 197, 198, 199, 200, 201, 202, 203, 204, 205, 206, 207, 208, 209, 210, 211, 212, 213, 214, 215, 216, 217, 218, 219, 220, 221, 222, 223, 224, 225, 226, 227, 228, 229, 230, 231, 232, 233, 234, 235, 236, 237, 238, 239, 240, 241, 242, 243, 244, 245, 246, 247, 248, 249, 250, 251, 252, 253, 254, 255, 256, 257, 258, 259, 260, 261, 262, 263, 264, 265, 266, 267, 268, 269, 270, 271, 272, 273, 274, 275, 276, 277, 278, 279, 280, 281, 282, 283, 284, 285, 286, 287, 288, 289, 290, 291, 292, 293, 294, 295, 296] (by decide +kernel) (by decide +kernel)) (goodIn_sub (fun _ h => List.mem_cons_of_mem _ (List.mem_append_left _ (List.mem_append_left _ (List.mem_append_left _ (List.mem_append_right _ h))))) (by decide +kernel))) (goodIn_sub (fun _ h => List.mem_cons_of_mem _ (List.mem_append_left _ (List.mem_append_left _ (List.mem_append_left _ (List.mem_append_left _ (List.mem_append_right _ h)))))) (by decide +kernel))) (goodIn_sub (fun _ h => List.mem_cons_of_mem _ (List.mem_append_left _ (List.mem_append_left _ (List.mem_append_right _ h)))) (by decide +kernel))) (goodIn_sub (fun _ h => List.mem_cons_of_mem _ (List.mem_append_left _ (List.mem_append_right _ h))) (by decide +kernel))) (goodIn_sub (fun _ h => List.mem_cons_of_mem _ (List.mem_append_right _ h)) (by decide +kernel))
set_option maxRecDepth 20000 in
theorem gL_get_X11_get : GoodIn wsL_get (wsV RL 19 RX11 yX11_get wsX11_get) := goodIn_app (goodIn_of _ (by decide +kernel)) ggL_get_X11_get
theorem dL_get_0 : decode cL_get 0 = .ok (.aload 4, 2) := by decide +kernel
theorem dL_get_2 : decode cL_get 2 = .ok (.iconst 0, 1) := by decide +kernel
theorem dL_get_3 : decode cL_get 3 = .ok (.aload_n 0, 1) := by decide +kernel
theorem dL_get_4 : decode cL_get 4 = .ok (.iload_n 1, 1) := by decide +kernel
theorem dL_get_5 : decode cL_get 5 = .ok (.iload_n 2, 1) := by decide +kernel
theorem dL_get_6 : decode cL_get 6 = .ok (.iload_n 3, 1) := by decide +kernel
theorem dL_get_7 : decode cL_get 7 = .ok (.invokevirtual 19, 3) := by decide +kernel
theorem dL_get_10 : decode cL_get 10 = .ok (.i2l, 1) := by decide +kernel
theorem dL_get_11 : decode cL_get 11 = .ok (.lastore, 1) := by decide +kernel
theorem dL_get_12 : decode cL_get 12 = .ok (.goto 19, 3) := by decide +kernel
theorem dL_get_15 : decode cL_get 15 = .ok (.astore 5, 2) := by decide +kernel
theorem dL_get_17 : decode cL_get 17 = .ok (.iconst 1, 1) := by decide +kernel
theorem dL_get_18 : decode cL_get 18 = .ok (.ireturn, 1) := by decide +kernel
theorem dL_get_19 : decode cL_get 19 = .ok (.astore 5, 2) := by decide +kernel
theorem dL_get_21 : decode cL_get 21 = .ok (.iconst 2, 1) := by decide +kernel
theorem dL_get_22 : decode cL_get 22 = .ok (.ireturn, 1) := by decide +kernel
theorem dL_get_23 : decode cL_get 23 = .ok (.astore 5, 2) := by decide +kernel
theorem dL_get_25 : decode cL_get 25 = .ok (.iconst 3, 1) := by decide +kernel
theorem dL_get_26 : decode cL_get 26 = .ok (.ireturn, 1) := by decide +kernel
theorem dL_get_27 : decode cL_get 27 = .ok (.astore 5, 2) := by decide +kernel
theorem dL_get_29 : decode cL_get 29 = .ok (.iconst 4, 1) := by decide +kernel
theorem dL_get_30 : decode cL_get 30 = .ok (.ireturn, 1) := by decide +kernel
theorem dL_get_31 : decode cL_get 31 = .ok (.iconst 0, 1) := by decide +kernel
theorem dL_get_32 : decode cL_get 32 = .ok (.ireturn, 1) := by decide +kernel
set_option maxRecDepth 20000 in
theorem ggL_value_X11_value : GoodIn wsL_value wsX11_value := goodIn_ca (goodIn_r _ [6, 7, 8, 9, 10, 11, 5, 12, 13, 14, 15, 16, 17, 18, 19, 20, 21, 22, 23, 24, 25, 26, 27, 28, 29, 30, 31, 32, 33, 34, 35] (by decide +kernel) (by decide +kernel)) (goodIn_sub (fun _ h => List.mem_cons_of_mem _ (List.mem_append_right _ h)) (by decide +kernel))
set_option maxRecDepth 20000 in
theorem gL_value_X11_value : GoodIn wsL_value (wsV RL 25 RX11 yX11_value wsX11_value) := goodIn_app (goodIn_of _ (by decide +kernel)) ggL_value_X11_value
theorem dL_value_0 : decode cL_value 0 = .ok (.aload_n 1, 1) := by decide +kernel
theorem dL_value_1 : decode cL_value 1 = .ok (.iconst 0, 1) := by decide +kernel
theorem dL_value_2 : decode cL_value 2 = .ok (.aload_n 0, 1) := by decide +kernel
theorem dL_value_3 : decode cL_value 3 = .ok (.invokevirtual 25, 3) := by decide +kernel
theorem dL_value_6 : decode cL_value 6 = .ok (.i2l, 1) := by decide +kernel
theorem dL_value_7 : decode cL_value 7 = .ok (.lastore, 1) := by decide +kernel
theorem dL_value_8 : decode cL_value 8 = .ok (.goto 6, 3) := by decide +kernel
theorem dL_value_11 : decode cL_value 11 = .ok (.astore_n 2, 1) := by decide +kernel
theorem dL_value_12 : decode cL_value 12 = .ok (.iconst 1, 1) := by decide +kernel
theorem dL_value_13 : decode cL_value 13 = .ok (.ireturn, 1) := by decide +kernel
theorem dL_value_14 : decode cL_value 14 = .ok (.iconst 0, 1) := by decide +kernel
theorem dL_value_15 : decode cL_value 15 = .ok (.ireturn, 1) := by decide +kernel
set_option maxRecDepth 20000 in
theorem ggL_staleness_X11_staleness : GoodIn wsL_staleness wsX11_staleness := goodIn_ca (goodIn_r _ [6, 7, 8, 9, 10, 11, 5, 12, 13, 14, 15, 16, 17, 18, 19, 20, 21, 22, 23, 24, 25, 26, 27, 28, 29, 30, 31, 32, 33, 34, 35] (by decide +kernel) (by decide +kernel)) (goodIn_sub (fun _ h => List.mem_cons_of_mem _ (List.mem_append_right _ h)) (by decide +kernel))
set_option maxRecDepth 20000 in
theorem gL_staleness_X11_staleness : GoodIn wsL_staleness (wsV RL 31 RX11 yX11_staleness wsX11_staleness) := goodIn_app (goodIn_of _ (by decide +kernel)) ggL_staleness_X11_staleness
theorem dL_staleness_0 : decode cL_staleness 0 = .ok (.aload_n 1, 1) := by decide +kernel
theorem dL_staleness_1 : decode cL_staleness 1 = .ok (.iconst 0, 1) := by decide +kernel
theorem dL_staleness_2 : decode cL_staleness 2 = .ok (.aload_n 0, 1) := by decide +kernel
theorem dL_staleness_3 : decode cL_staleness 3 = .ok (.invokevirtual 31, 3) := by decide +kernel
theorem dL_staleness_6 : decode cL_staleness 6 = .ok (.i2l, 1) := by decide +kernel
theorem dL_staleness_7 : decode cL_staleness 7 = .ok (.lastore, 1) := by decide +kernel
theorem dL_staleness_8 : decode cL_staleness 8 = .ok (.goto 6, 3) := by decide +kernel
theorem dL_staleness_11 : decode cL_staleness 11 = .ok (.astore_n 2, 1) := by decide +kernel
theorem dL_staleness_12 : decode cL_staleness 12 = .ok (.iconst 1, 1) := by decide +kernel
theorem dL_staleness_13 : decode cL_staleness 13 = .ok (.ireturn, 1) := by decide +kernel
theorem dL_staleness_14 : decode cL_staleness 14 = .ok (.iconst 0, 1) := by decide +kernel
theorem dL_staleness_15 : decode cL_staleness 15 = .ok (.ireturn, 1) := by decide +kernel
set_option maxRecDepth 20000 in
theorem ggL_lease_X11_lease : GoodIn wsL_lease wsX11_lease := goodIn_ca (goodIn_r _ [6, 7, 8, 9, 10, 11, 12, 13, 14, 15, 16, 17, 18, 19, 20, 21, 22, 23, 24, 25, 26, 27, 28, 29, 30] (by decide +kernel) (by decide +kernel)) (goodIn_sub (fun _ h => List.mem_cons_of_mem _ (List.mem_append_right _ h)) (by decide +kernel))
set_option maxRecDepth 20000 in
theorem gL_lease_X11_lease : GoodIn wsL_lease (wsV RL 34 RX11 yX11_lease wsX11_lease) := goodIn_app (goodIn_of _ (by decide +kernel)) ggL_lease_X11_lease
theorem dL_lease_0 : decode cL_lease 0 = .ok (.aload_n 1, 1) := by decide +kernel
theorem dL_lease_1 : decode cL_lease 1 = .ok (.iconst 0, 1) := by decide +kernel
theorem dL_lease_2 : decode cL_lease 2 = .ok (.aload_n 0, 1) := by decide +kernel
theorem dL_lease_3 : decode cL_lease 3 = .ok (.invokevirtual 34, 3) := by decide +kernel
theorem dL_lease_6 : decode cL_lease 6 = .ok (.i2l, 1) := by decide +kernel
theorem dL_lease_7 : decode cL_lease 7 = .ok (.lastore, 1) := by decide +kernel
theorem dL_lease_8 : decode cL_lease 8 = .ok (.goto 6, 3) := by decide +kernel
theorem dL_lease_11 : decode cL_lease 11 = .ok (.astore_n 2, 1) := by decide +kernel
theorem dL_lease_12 : decode cL_lease 12 = .ok (.iconst 1, 1) := by decide +kernel
theorem dL_lease_13 : decode cL_lease 13 = .ok (.ireturn, 1) := by decide +kernel
theorem dL_lease_14 : decode cL_lease 14 = .ok (.iconst 0, 1) := by decide +kernel
theorem dL_lease_15 : decode cL_lease 15 = .ok (.ireturn, 1) := by decide +kernel
set_option maxRecDepth 20000 in
theorem ggL_read_X11_read : GoodIn wsL_read wsX11_read := goodIn_ca (goodIn_ca (goodIn_ca (goodIn_r _ [7, 8, 9, 10, 11, 12, 13, 14, 15, 16, 17, 18, 19, 20, 21, 6, 22, 23, 24, 25, 26, 27, 28, 29, 30, 31, 32, 33, 34, 35, 36, 37, 38, 39, 40, 41, 42, 43, 44, 45, 46, 47, 48, 49, 50, 51, 52, 53, 54, 55, 56, 57, 58, 59, 60, 61, 62, 63, 64, 65, 66, 67, 68, 69, 70, 71, 72, 73, 74, 75, 76, 77, 78, 79, 80, 81, 82, 83] (by decide +kernel) (by decide +kernel)) (goodIn_sub (fun _ h => List.mem_cons_of_mem _ (List.mem_append_left _ (List.mem_append_right _ h))) (by decide +kernel))) (goodIn_sub (fun _ h => List.mem_cons_of_mem _ (List.mem_append_left _ (List.mem_append_left _ (List.mem_append_right _ h)))) (by decide +kernel))) (goodIn_sub (fun _ h => List.mem_cons_of_mem _ (List.mem_append_right _ h)) (by decide +kernel))
set_option maxRecDepth 20000 in
theorem gL_read_X11_read : GoodIn wsL_read (wsV RL 37 RX11 yX11_read wsX11_read) := goodIn_app (goodIn_of _ (by decide +kernel)) ggL_read_X11_read
theorem dL_read_0 : decode cL_read 0 = .ok (.aload_n 2, 1) := by decide +kernel
theorem dL_read_1 : decode cL_read 1 = .ok (.iconst 0, 1) := by decide +kernel
theorem dL_read_2 : decode cL_read 2 = .ok (.aload_n 0, 1) := by decide +kernel
theorem dL_read_3 : decode cL_read 3 = .ok (.iload_n 1, 1) := by decide +kernel
theorem dL_read_4 : decode cL_read 4 = .ok (.invokevirtual 37, 3) := by decide +kernel
theorem dL_read_7 : decode cL_read 7 = .ok (.i2l, 1) := by decide +kernel
theorem dL_read_8 : decode cL_read 8 = .ok (.lastore, 1) := by decide +kernel
theorem dL_read_9 : decode cL_read 9 = .ok (.goto 9, 3) := by decide +kernel
theorem dL_read_12 : decode cL_read 12 = .ok (.astore_n 3, 1) := by decide +kernel
theorem dL_read_13 : decode cL_read 13 = .ok (.iconst 1, 1) := by decide +kernel
theorem dL_read_14 : decode cL_read 14 = .ok (.ireturn, 1) := by decide +kernel
theorem dL_read_15 : decode cL_read 15 = .ok (.astore_n 3, 1) := by decide +kernel
theorem dL_read_16 : decode cL_read 16 = .ok (.iconst 2, 1) := by decide +kernel
theorem dL_read_17 : decode cL_read 17 = .ok (.ireturn, 1) := by decide +kernel
theorem dL_read_18 : decode cL_read 18 = .ok (.iconst 0, 1) := by decide +kernel
theorem dL_read_19 : decode cL_read 19 = .ok (.ireturn, 1) := by decide +kernel
set_option maxRecDepth 20000 in
theorem ggL_fill_X11_fill : GoodIn wsL_fill wsX11_fill := goodIn_ca (goodIn_ca (goodIn_ca (goodIn_r _ [7, 8, 9, 10, 11, 12, 13, 14, 15, 16, 17, 18, 19, 6, 20, 21, 22, 23, 24, 25, 26, 27, 28, 29, 30, 31, 32, 33, 34, 35, 36, 37, 38, 39, 40, 41, 42, 43, 44, 45, 46, 47, 48, 49, 50, 51, 52, 53, 54, 55, 56, 57, 58, 59, 60, 61, 62, 63, 64, 65, 66, 67, 68, 69, 70, 71, 72, 73, 74, 75, 76, 77, 78, 79, 80, 81, 82, 83, 84, 85, 86, 87, 88, 89, 90, 91, 92, 93, 94, 95, 96, 97, 98, 99, 100, 101, 102, 103, 104, 105, 106, 107, 108, 109, 110, 111, 112, 113, 114, 115, 116, 117, 118, 119, 120, 121, 122, 123, 124, 125, 126, 127, 128, 129, 130, 131, 132, 133, 134, 135, 136, 137, 138, 139, 140, 141, 142, 143, 144, 145, 146, 147, 148, 149, 150, 151, 152, 153, 154, 155, 156, 157, 158, 159, 160, 161, 162, 163, 164, 165, 166, 167, 168, 169, 170, 171, 172, 173, 174, 175, 176, 177, 178, 179, 180, 181, 182, 183, 184, 185, 186, 187, 188, 189, 190, 191, 192, 193, 194, 195, 196] (by decide +kernel) (by decide +kernel)) (goodIn_sub (fun _ h => List.mem_cons_of_mem _ (List.mem_append_left _ (List.mem_append_left _ (List.mem_append_right _ h)))) (by decide +kernel))) (goodIn_sub (fun _ h => List.mem_cons_of_mem _ (List.mem_append_left _ (List.mem_append_right _ h))) (by decide +kernel))) (goodIn_sub (fun _ h => List.mem_cons_of_mem _ (List.mem_append_right _ h)) (by decide +kernel))
set_option maxRecDepth 20000 in
theorem gL_fill_X11_fill : GoodIn wsL_fill (wsV RL 41 RX11 yX11_fill wsX11_fill) := goodIn_app (goodIn_of _ (by decide +kernel)) ggL_fill_X11_fill
theorem dL_fill_0 : decode cL_fill 0 = .ok (.aload_n 2, 1) := by decide +kernel
theorem dL_fill_1 : decode cL_fill 1 = .ok (.iconst 0, 1) := by decide +kernel
theorem dL_fill_2 : decode cL_fill 2 = .ok (.aload_n 0, 1) := by decide +kernel
theorem dL_fill_3 : decode cL_fill 3 = .ok (.iload_n 1, 1) := by decide +kernel
theorem dL_fill_4 : decode cL_fill 4 = .ok (.invokevirtual 41, 3) := by decide +kernel
theorem dL_fill_7 : decode cL_fill 7 = .ok (.i2l, 1) := by decide +kernel
theorem dL_fill_8 : decode cL_fill 8 = .ok (.lastore, 1) := by decide +kernel
theorem dL_fill_9 : decode cL_fill 9 = .ok (.goto 9, 3) := by decide +kernel
theorem dL_fill_12 : decode cL_fill 12 = .ok (.astore_n 3, 1) := by decide +kernel
theorem dL_fill_13 : decode cL_fill 13 = .ok (.iconst 1, 1) := by decide +kernel
theorem dL_fill_14 : decode cL_fill 14 = .ok (.ireturn, 1) := by decide +kernel
theorem dL_fill_15 : decode cL_fill 15 = .ok (.astore_n 3, 1) := by decide +kernel
theorem dL_fill_16 : decode cL_fill 16 = .ok (.iconst 2, 1) := by decide +kernel
theorem dL_fill_17 : decode cL_fill 17 = .ok (.ireturn, 1) := by decide +kernel
theorem dL_fill_18 : decode cL_fill 18 = .ok (.iconst 0, 1) := by decide +kernel
theorem dL_fill_19 : decode cL_fill 19 = .ok (.ireturn, 1) := by decide +kernel
set_option maxRecDepth 20000 in
theorem ggL_leaseState_X11_leaseState : GoodIn wsL_leaseState wsX11_leaseState := goodIn_ca (goodIn_ca (goodIn_r _ [6, 7, 8, 9, 10, 11, 5, 12, 13, 14, 15, 16, 17, 18, 19, 20, 21, 22, 23, 24, 25, 26, 27, 28, 29, 30, 31, 32, 33, 34, 35, 36, 37, 38, 39, 40, 41, 42, 43] (by decide +kernel) (by decide +kernel)) (goodIn_sub (fun _ h => List.mem_cons_of_mem _ (List.mem_append_right _ h)) (by decide +kernel))) (goodIn_sub (fun _ h => List.mem_cons_of_mem _ (List.mem_append_left _ (List.mem_append_right _ h))) (by decide +kernel))
set_option maxRecDepth 20000 in
theorem gL_leaseState_X11_leaseState : GoodIn wsL_leaseState (wsV RL 45 RX11 yX11_leaseState wsX11_leaseState) := goodIn_app (goodIn_of _ (by decide +kernel)) ggL_leaseState_X11_leaseState
theorem dL_leaseState_0 : decode cL_leaseState 0 = .ok (.aload_n 2, 1) := by decide +kernel
theorem dL_leaseState_1 : decode cL_leaseState 1 = .ok (.iconst 0, 1) := by decide +kernel
theorem dL_leaseState_2 : decode cL_leaseState 2 = .ok (.aload_n 0, 1) := by decide +kernel
theorem dL_leaseState_3 : decode cL_leaseState 3 = .ok (.iload_n 1, 1) := by decide +kernel
theorem dL_leaseState_4 : decode cL_leaseState 4 = .ok (.invokevirtual 45, 3) := by decide +kernel
theorem dL_leaseState_7 : decode cL_leaseState 7 = .ok (.i2l, 1) := by decide +kernel
theorem dL_leaseState_8 : decode cL_leaseState 8 = .ok (.lastore, 1) := by decide +kernel
theorem dL_leaseState_9 : decode cL_leaseState 9 = .ok (.goto 6, 3) := by decide +kernel
theorem dL_leaseState_12 : decode cL_leaseState 12 = .ok (.astore_n 3, 1) := by decide +kernel
theorem dL_leaseState_13 : decode cL_leaseState 13 = .ok (.iconst 1, 1) := by decide +kernel
theorem dL_leaseState_14 : decode cL_leaseState 14 = .ok (.ireturn, 1) := by decide +kernel
theorem dL_leaseState_15 : decode cL_leaseState 15 = .ok (.iconst 0, 1) := by decide +kernel
theorem dL_leaseState_16 : decode cL_leaseState 16 = .ok (.ireturn, 1) := by decide +kernel
set_option maxRecDepth 20000 in
theorem ggL_write_X11_write : GoodIn wsL_write wsX11_write := goodIn_ca (goodIn_ca (goodIn_ca (goodIn_ca (goodIn_ca (goodIn_r _ [9, 10, 11, 12, 13, 14, 15, 16, 17, 18, 19, 20, 21, 22, 8, 23, 24, 25, 26, 27, 28, 29, 30, 31, 32, 33, 34, 35, 36, 37, 38, 39, 40, 41, 42, 43, 44, 45, 46, 47, 48, 49, 50, 51, 52, 53, 54, 55, 56, 57, 58, 59, 60, 61, 62, 63, 64, 65, 66, 67, 68, 69, 70, 71, 72, 73, 74, 75, 76, 77, 78, 79, 80, 81, 82, 83, 84, 85, 86, 87, 88, 89, 90, 91, 92, 93, 94, 95, 96, 97, 98, 99, 100, 101, 102, 103, 104, 105, 106, 107, 108, 109, 110, 111, 112, 113, 114, 115, 116, 117, 118, 119, 120, 121, 122, 123, 124, 125, 126, 127, 128, 129, 130, 131, 132, 133, 134, 135, 136, 137, 138, 139, 140, 141, 142, 143, 144, 145, 146, 147, 148, 149, 150, 151, 152, 153, 154, 155, 156, 157, 158, 159, 160, 161, 162, 163, 164, 165, 166, 167, 168, 169, 170, 171, 172, 173, 174, 175, 176, 177, 178, 179, 180, 181, 182, 183, 184, 185, 186, 187, 188, 189, 190, 191, 192, 193, 194, 195, 196, 197, 198, 199, 200, 201, 202, 203, 204, 205, 206, 207, 208, 209, 210, 211, 212, 213, 214, 215, 216, 217, 218, 219, 220, 221, 222, 223, 224, 225, 226, 227, 228, 229, 230, 231, 232, 233, 234, 235, 236, 237, 238, 239, 240, 241, 242, 243, 244, 245, 246, 247, 248, 249, 250, 251, 252, 253, 254, 255, 256, 257, 258, 259, 260, 261, 262, 263, 264, 265, 266, 267, 268, 269, 270] (by decide +kernel) (by decide +kernel)) (goodIn_sub (fun _ h => List.mem_cons_of_mem _ (List.mem_append_left _ (List.mem_append_left _ (List.mem_append_left _ (List.mem_append_right _ h))))) (by decide +kernel))) (goodIn_sub (fun _ h => List.mem_cons_of_mem _ (List.mem_append_left _ (List.mem_append_left _ (List.mem_append_right _ h)))) (by decide +kernel))) (goodIn_sub (fun _ h => List.mem_cons_of_mem _ (List.mem_append_left _ (List.mem_append_right _ h))) (by decide +kernel))) (goodIn_sub (fun _ h => List.mem_cons_of_mem _ (List.mem_append_left _ (List.mem_append_left _ (List.mem_append_left _ (List.mem_append_left _ (List.mem_append_right _ h)))))) (by decide +kernel))) (goodIn_sub (fun _ h => List.mem_cons_of_mem _ (List.mem_append_right _ h)) (by decide +kernel))
set_option maxRecDepth 20000 in
theorem gL_write_X11_write : GoodIn wsL_write (wsV RL 48 RX11 yX11_write wsX11_write) := goodIn_app (goodIn_of _ (by decide +kernel)) ggL_write_X11_write
theorem dL_write_0 : decode cL_write 0 = .ok (.aload 4, 2) := by decide +kernel
theorem dL_write_2 : decode cL_write 2 = .ok (.iconst 0, 1) := by decide +kernel
theorem dL_write_3 : decode cL_write 3 = .ok (.aload_n 0, 1) := by decide +kernel
theorem dL_write_4 : decode cL_write 4 = .ok (.iload_n 1, 1) := by decide +kernel
theorem dL_write_5 : decode cL_write 5 = .ok (.iload_n 2, 1) := by decide +kernel
theorem dL_write_6 : decode cL_write 6 = .ok (.iload_n 3, 1) := by decide +kernel
theorem dL_write_7 : decode cL_write 7 = .ok (.invokevirtual 48, 3) := by decide +kernel
theorem dL_write_10 : decode cL_write 10 = .ok (.i2l, 1) := by decide +kernel
theorem dL_write_11 : decode cL_write 11 = .ok (.lastore, 1) := by decide +kernel
theorem dL_write_12 : decode cL_write 12 = .ok (.goto 19, 3) := by decide +kernel
theorem dL_write_15 : decode cL_write 15 = .ok (.astore 5, 2) := by decide +kernel
theorem dL_write_17 : decode cL_write 17 = .ok (.iconst 1, 1) := by decide +kernel
theorem dL_write_18 : decode cL_write 18 = .ok (.ireturn, 1) := by decide +kernel
theorem dL_write_19 : decode cL_write 19 = .ok (.astore 5, 2) := by decide +kernel
theorem dL_write_21 : decode cL_write 21 = .ok (.iconst 2, 1) := by decide +kernel
theorem dL_write_22 : decode cL_write 22 = .ok (.ireturn, 1) := by decide +kernel
theorem dL_write_23 : decode cL_write 23 = .ok (.astore 5, 2) := by decide +kernel
theorem dL_write_25 : decode cL_write 25 = .ok (.iconst 3, 1) := by decide +kernel
theorem dL_write_26 : decode cL_write 26 = .ok (.ireturn, 1) := by decide +kernel
theorem dL_write_27 : decode cL_write 27 = .ok (.astore 5, 2) := by decide +kernel
theorem dL_write_29 : decode cL_write 29 = .ok (.iconst 4, 1) := by decide +kernel
theorem dL_write_30 : decode cL_write 30 = .ok (.ireturn, 1) := by decide +kernel
theorem dL_write_31 : decode cL_write 31 = .ok (.iconst 0, 1) := by decide +kernel
theorem dL_write_32 : decode cL_write 32 = .ok (.ireturn, 1) := by decide +kernel
set_option maxRecDepth 20000 in
theorem ggL_drop_X11_drop : GoodIn wsL_drop wsX11_drop := goodIn_ca (goodIn_ca (goodIn_ca (goodIn_r _ [7, 8, 9, 10, 11, 12, 13, 14, 15, 16, 6, 17, 18, 19, 20, 21, 22, 23, 24, 25, 26, 27, 28, 29, 30, 31, 32, 33, 34, 35, 36, 37, 38, 39, 40, 41, 42, 43, 44, 45, 46, 47, 48, 49, 50, 51, 52, 53, 54, 55, 56, 57, 58, 59, 60, 61, 62, 63, 64, 65, 66, 67, 68, 69, 70, 71, 72, 73, 74, 75, 76, 77, 78, 79, 80, 81, 82, 83, 84, 85, 86, 87, 88, 89, 90, 91, 92, 93, 94, 95, 96, 97, 98, 99, 100, 101, 102, 103, 104, 105, 106, 107, 108, 109, 110, 111, 112, 113, 114, 115, 116, 117, 118, 119, 120, 121, 122, 123, 124, 125, 126, 127, 128, 129, 130, 131, 132, 133, 134, 135, 136, 137, 138, 139, 140, 141, 142, 143, 144, 145, 146, 147, 148, 149, 150, 151, 152, 153, 154, 155, 156, 157, 158, 159, 160] (by decide +kernel) (by decide +kernel)) (goodIn_sub (fun _ h => List.mem_cons_of_mem _ (List.mem_append_left _ (List.mem_append_left _ (List.mem_append_right _ h)))) (by decide +kernel))) (goodIn_sub (fun _ h => List.mem_cons_of_mem _ (List.mem_append_left _ (List.mem_append_right _ h))) (by decide +kernel))) (goodIn_sub (fun _ h => List.mem_cons_of_mem _ (List.mem_append_right _ h)) (by decide +kernel))
set_option maxRecDepth 20000 in
theorem gL_drop_X11_drop : GoodIn wsL_drop (wsV RL 52 RX11 yX11_drop wsX11_drop) := goodIn_app (goodIn_of _ (by decide +kernel)) ggL_drop_X11_drop
theorem dL_drop_0 : decode cL_drop 0 = .ok (.aload_n 2, 1) := by decide +kernel
theorem dL_drop_1 : decode cL_drop 1 = .ok (.iconst 0, 1) := by decide +kernel
theorem dL_drop_2 : decode cL_drop 2 = .ok (.aload_n 0, 1) := by decide +kernel
theorem dL_drop_3 : decode cL_drop 3 = .ok (.iload_n 1, 1) := by decide +kernel
theorem dL_drop_4 : decode cL_drop 4 = .ok (.invokevirtual 52, 3) := by decide +kernel
theorem dL_drop_7 : decode cL_drop 7 = .ok (.ifCond .eq 7, 3) := by decide +kernel
theorem dL_drop_10 : decode cL_drop 10 = .ok (.lconst 1, 1) := by decide +kernel
theorem dL_drop_11 : decode cL_drop 11 = .ok (.goto 4, 3) := by decide +kernel
theorem dL_drop_14 : decode cL_drop 14 = .ok (.lconst 0, 1) := by decide +kernel
theorem dL_drop_15 : decode cL_drop 15 = .ok (.lastore, 1) := by decide +kernel
theorem dL_drop_16 : decode cL_drop 16 = .ok (.goto 9, 3) := by decide +kernel
theorem dL_drop_19 : decode cL_drop 19 = .ok (.astore_n 3, 1) := by decide +kernel
theorem dL_drop_20 : decode cL_drop 20 = .ok (.iconst 1, 1) := by decide +kernel
theorem dL_drop_21 : decode cL_drop 21 = .ok (.ireturn, 1) := by decide +kernel
theorem dL_drop_22 : decode cL_drop 22 = .ok (.astore_n 3, 1) := by decide +kernel
theorem dL_drop_23 : decode cL_drop 23 = .ok (.iconst 2, 1) := by decide +kernel
theorem dL_drop_24 : decode cL_drop 24 = .ok (.ireturn, 1) := by decide +kernel
theorem dL_drop_25 : decode cL_drop 25 = .ok (.iconst 0, 1) := by decide +kernel
theorem dL_drop_26 : decode cL_drop 26 = .ok (.ireturn, 1) := by decide +kernel
set_option maxRecDepth 20000 in
theorem ggL_bump_X11_bump : GoodIn wsL_bump wsX11_bump := goodIn_ca (goodIn_ca (goodIn_ca (goodIn_r _ [7, 8, 9, 10, 11, 12, 13, 14, 15, 16, 6, 17, 18, 19, 20, 21, 22, 23, 24, 25, 26, 27, 28, 29, 30, 31, 32, 33, 34, 35, 36, 37, 38, 39, 40, 41, 42, 43, 44, 45, 46, 47, 48, 49, 50, 51, 52, 53, 54, 55, 56, 57, 58, 59, 60, 61, 62, 63, 64, 65, 66, 67, 68, 69, 70, 71, 72, 73, 74, 75, 76, 77, 78, 79, 80, 81, 82, 83, 84, 85, 86, 87, 88, 89, 90, 91, 92, 93, 94, 95, 96, 97, 98, 99, 100, 101, 102, 103, 104, 105, 106, 107, 108, 109, 110, 111, 112, 113, 114, 115, 116, 117, 118, 119, 120, 121, 122, 123, 124, 125, 126, 127, 128, 129, 130, 131, 132, 133, 134, 135, 136, 137, 138] (by decide +kernel) (by decide +kernel)) (goodIn_sub (fun _ h => List.mem_cons_of_mem _ (List.mem_append_left _ (List.mem_append_right _ h))) (by decide +kernel))) (goodIn_sub (fun _ h => List.mem_cons_of_mem _ (List.mem_append_left _ (List.mem_append_left _ (List.mem_append_right _ h)))) (by decide +kernel))) (goodIn_sub (fun _ h => List.mem_cons_of_mem _ (List.mem_append_right _ h)) (by decide +kernel))
set_option maxRecDepth 20000 in
theorem gL_bump_X11_bump : GoodIn wsL_bump (wsV RL 56 RX11 yX11_bump wsX11_bump) := goodIn_app (goodIn_of _ (by decide +kernel)) ggL_bump_X11_bump
theorem dL_bump_0 : decode cL_bump 0 = .ok (.aload_n 2, 1) := by decide +kernel
theorem dL_bump_1 : decode cL_bump 1 = .ok (.iconst 0, 1) := by decide +kernel
theorem dL_bump_2 : decode cL_bump 2 = .ok (.aload_n 0, 1) := by decide +kernel
theorem dL_bump_3 : decode cL_bump 3 = .ok (.iload_n 1, 1) := by decide +kernel
theorem dL_bump_4 : decode cL_bump 4 = .ok (.invokevirtual 56, 3) := by decide +kernel
theorem dL_bump_7 : decode cL_bump 7 = .ok (.i2l, 1) := by decide +kernel
theorem dL_bump_8 : decode cL_bump 8 = .ok (.lastore, 1) := by decide +kernel
theorem dL_bump_9 : decode cL_bump 9 = .ok (.goto 9, 3) := by decide +kernel
theorem dL_bump_12 : decode cL_bump 12 = .ok (.astore_n 3, 1) := by decide +kernel
theorem dL_bump_13 : decode cL_bump 13 = .ok (.iconst 1, 1) := by decide +kernel
theorem dL_bump_14 : decode cL_bump 14 = .ok (.ireturn, 1) := by decide +kernel
theorem dL_bump_15 : decode cL_bump 15 = .ok (.astore_n 3, 1) := by decide +kernel
theorem dL_bump_16 : decode cL_bump 16 = .ok (.iconst 2, 1) := by decide +kernel
theorem dL_bump_17 : decode cL_bump 17 = .ok (.ireturn, 1) := by decide +kernel
theorem dL_bump_18 : decode cL_bump 18 = .ok (.iconst 0, 1) := by decide +kernel
theorem dL_bump_19 : decode cL_bump 19 = .ok (.ireturn, 1) := by decide +kernel
set_option maxRecDepth 20000 in
theorem ggL_pass_X11_pass : GoodIn wsL_pass wsX11_pass := goodIn_ca (goodIn_ca (goodIn_ca (goodIn_r _ [7, 8, 9, 10, 11, 12, 13, 6, 14, 15, 16, 17, 18, 19, 20, 21, 22, 23, 24, 25, 26, 27, 28, 29, 30, 31, 32, 33, 34, 35, 36, 37, 38, 39, 40, 41, 42, 43, 44, 45, 46, 47, 48, 49, 50, 51, 52, 53, 54, 55, 56, 57, 58, 59, 60, 61, 62, 63, 64, 65, 66, 67, 68, 69, 70, 71, 72, 73, 74, 75, 76, 77, 78, 79, 80, 81, 82, 83, 84, 85, 86, 87, 88, 89, 90, 91, 92, 93, 94, 95, 96, 97, 98, 99, 100, 101, 102, 103, 104, 105, 106, 107, 108, 109, 110, 111, 112, 113, 114, 115, 116, 117, 118, 119] (by decide +kernel) (by decide +kernel)) (goodIn_sub (fun _ h => List.mem_cons_of_mem _ (List.mem_append_left _ (List.mem_append_right _ h))) (by decide +kernel))) (goodIn_sub (fun _ h => List.mem_cons_of_mem _ (List.mem_append_right _ h)) (by decide +kernel))) (goodIn_sub (fun _ h => List.mem_cons_of_mem _ (List.mem_append_left _ (List.mem_append_left _ (List.mem_append_right _ h)))) (by decide +kernel))
set_option maxRecDepth 20000 in
theorem gL_pass_X11_pass : GoodIn wsL_pass (wsV RL 59 RX11 yX11_pass wsX11_pass) := goodIn_app (goodIn_of _ (by decide +kernel)) ggL_pass_X11_pass
theorem dL_pass_0 : decode cL_pass 0 = .ok (.aload_n 2, 1) := by decide +kernel
theorem dL_pass_1 : decode cL_pass 1 = .ok (.iconst 0, 1) := by decide +kernel
theorem dL_pass_2 : decode cL_pass 2 = .ok (.aload_n 0, 1) := by decide +kernel
theorem dL_pass_3 : decode cL_pass 3 = .ok (.iload_n 1, 1) := by decide +kernel
theorem dL_pass_4 : decode cL_pass 4 = .ok (.invokevirtual 59, 3) := by decide +kernel
theorem dL_pass_7 : decode cL_pass 7 = .ok (.i2l, 1) := by decide +kernel
theorem dL_pass_8 : decode cL_pass 8 = .ok (.lastore, 1) := by decide +kernel
theorem dL_pass_9 : decode cL_pass 9 = .ok (.goto 9, 3) := by decide +kernel
theorem dL_pass_12 : decode cL_pass 12 = .ok (.astore_n 3, 1) := by decide +kernel
theorem dL_pass_13 : decode cL_pass 13 = .ok (.iconst 1, 1) := by decide +kernel
theorem dL_pass_14 : decode cL_pass 14 = .ok (.ireturn, 1) := by decide +kernel
theorem dL_pass_15 : decode cL_pass 15 = .ok (.astore_n 3, 1) := by decide +kernel
theorem dL_pass_16 : decode cL_pass 16 = .ok (.iconst 2, 1) := by decide +kernel
theorem dL_pass_17 : decode cL_pass 17 = .ok (.ireturn, 1) := by decide +kernel
theorem dL_pass_18 : decode cL_pass 18 = .ok (.iconst 0, 1) := by decide +kernel
theorem dL_pass_19 : decode cL_pass 19 = .ok (.ireturn, 1) := by decide +kernel
set_option maxRecDepth 20000 in
theorem ggL_crash_X11_crash : GoodIn wsL_crash wsX11_crash := goodIn_ca (goodIn_ca (goodIn_r _ [6, 7, 8, 9, 10, 11, 12, 13, 14, 5, 15, 16, 17, 18, 19, 20, 21, 22, 23, 24, 25, 26, 27, 28, 29, 30, 31, 32, 33, 34, 35, 36, 37, 38, 39, 40, 41, 42, 43, 44, 45, 46, 47, 48, 49, 50, 51, 52, 53, 54, 55, 56, 57, 58, 59, 60, 61, 62, 63, 64, 65, 66, 67, 68, 69, 70, 71, 72, 73, 74, 75, 76, 77, 78, 79, 80, 81, 82, 83, 84, 85] (by decide +kernel) (by decide +kernel)) (goodIn_sub (fun _ h => List.mem_cons_of_mem _ (List.mem_append_right _ h)) (by decide +kernel))) (goodIn_sub (fun _ h => List.mem_cons_of_mem _ (List.mem_append_left _ (List.mem_append_right _ h))) (by decide +kernel))
set_option maxRecDepth 20000 in
theorem gL_crash_X11_crash : GoodIn wsL_crash (wsV RL 62 RX11 yX11_crash wsX11_crash) := goodIn_app (goodIn_of _ (by decide +kernel)) ggL_crash_X11_crash
theorem dL_crash_0 : decode cL_crash 0 = .ok (.aload_n 1, 1) := by decide +kernel
theorem dL_crash_1 : decode cL_crash 1 = .ok (.iconst 0, 1) := by decide +kernel
theorem dL_crash_2 : decode cL_crash 2 = .ok (.aload_n 0, 1) := by decide +kernel
theorem dL_crash_3 : decode cL_crash 3 = .ok (.invokevirtual 62, 3) := by decide +kernel
theorem dL_crash_6 : decode cL_crash 6 = .ok (.i2l, 1) := by decide +kernel
theorem dL_crash_7 : decode cL_crash 7 = .ok (.lastore, 1) := by decide +kernel
theorem dL_crash_8 : decode cL_crash 8 = .ok (.goto 6, 3) := by decide +kernel
theorem dL_crash_11 : decode cL_crash 11 = .ok (.astore_n 2, 1) := by decide +kernel
theorem dL_crash_12 : decode cL_crash 12 = .ok (.iconst 1, 1) := by decide +kernel
theorem dL_crash_13 : decode cL_crash 13 = .ok (.ireturn, 1) := by decide +kernel
theorem dL_crash_14 : decode cL_crash 14 = .ok (.iconst 0, 1) := by decide +kernel
theorem dL_crash_15 : decode cL_crash 15 = .ok (.ireturn, 1) := by decide +kernel
set_option maxRecDepth 20000 in
theorem ggL_recover_X11_recover : GoodIn wsL_recover wsX11_recover := goodIn_ca (goodIn_ca (goodIn_r _ [6, 7, 8, 9, 10, 11, 12, 13, 14, 5, 15, 16, 17, 18, 19, 20, 21, 22, 23, 24, 25, 26, 27, 28, 29, 30, 31, 32, 33, 34, 35, 36, 37, 38, 39, 40, 41, 42, 43, 44, 45, 46, 47, 48, 49, 50, 51, 52, 53, 54, 55, 56, 57, 58, 59, 60, 61, 62, 63, 64, 65, 66, 67, 68, 69, 70, 71, 72, 73, 74, 75, 76, 77, 78, 79, 80, 81, 82, 83, 84, 85, 86, 87, 88, 89, 90, 91, 92, 93, 94, 95, 96, 97, 98, 99, 100, 101, 102, 103, 104, 105, 106, 107, 108, 109, 110, 111, 112, 113, 114, 115, 116, 117, 118, 119, 120, 121, 122, 123, 124, 125, 126, 127, 128, 129, 130, 131, 132, 133, 134, 135, 136, 137, 138, 139, 140, 141, 142, 143, 144, 145, 146, 147, 148, 149, 150, 151, 152, 153, 154, 155, 156, 157, 158, 159, 160, 161, 162, 163, 164, 165, 166, 167, 168, 169, 170, 171, 172, 173, 174, 175, 176, 177, 178, 179, 180, 181, 182, 183, 184, 185, 186, 187, 188, 189, 190, 191, 192, 193, 194, 195, 196, 197, 198, 199, 200, 201] (by decide +kernel) (by decide +kernel)) (goodIn_sub (fun _ h => List.mem_cons_of_mem _ (List.mem_append_right _ h)) (by decide +kernel))) (goodIn_sub (fun _ h => List.mem_cons_of_mem _ (List.mem_append_left _ (List.mem_append_right _ h))) (by decide +kernel))
set_option maxRecDepth 20000 in
theorem gL_recover_X11_recover : GoodIn wsL_recover (wsV RL 65 RX11 yX11_recover wsX11_recover) := goodIn_app (goodIn_of _ (by decide +kernel)) ggL_recover_X11_recover
theorem dL_recover_0 : decode cL_recover 0 = .ok (.aload_n 1, 1) := by decide +kernel
theorem dL_recover_1 : decode cL_recover 1 = .ok (.iconst 0, 1) := by decide +kernel
theorem dL_recover_2 : decode cL_recover 2 = .ok (.aload_n 0, 1) := by decide +kernel
theorem dL_recover_3 : decode cL_recover 3 = .ok (.invokevirtual 65, 3) := by decide +kernel
theorem dL_recover_6 : decode cL_recover 6 = .ok (.i2l, 1) := by decide +kernel
theorem dL_recover_7 : decode cL_recover 7 = .ok (.lastore, 1) := by decide +kernel
theorem dL_recover_8 : decode cL_recover 8 = .ok (.goto 6, 3) := by decide +kernel
theorem dL_recover_11 : decode cL_recover 11 = .ok (.astore_n 2, 1) := by decide +kernel
theorem dL_recover_12 : decode cL_recover 12 = .ok (.iconst 1, 1) := by decide +kernel
theorem dL_recover_13 : decode cL_recover 13 = .ok (.ireturn, 1) := by decide +kernel
theorem dL_recover_14 : decode cL_recover 14 = .ok (.iconst 0, 1) := by decide +kernel
theorem dL_recover_15 : decode cL_recover 15 = .ok (.ireturn, 1) := by decide +kernel
set_option maxRecDepth 20000 in
theorem ggL_where_X11_where : GoodIn wsL_where wsX11_where := goodIn_ca (goodIn_ca (goodIn_r _ [6, 7, 8, 9, 10, 11, 12, 13, 14, 5, 15, 16, 17, 18, 19, 20, 21, 22, 23, 24, 25, 26, 27, 28, 29, 30, 31, 32, 33, 34, 35, 36, 37, 38, 39, 40, 41, 42, 43, 44] (by decide +kernel) (by decide +kernel)) (goodIn_sub (fun _ h => List.mem_cons_of_mem _ (List.mem_append_left _ (List.mem_append_right _ h))) (by decide +kernel))) (goodIn_sub (fun _ h => List.mem_cons_of_mem _ (List.mem_append_right _ h)) (by decide +kernel))
set_option maxRecDepth 20000 in
theorem gL_where_X11_where : GoodIn wsL_where (wsV RL 68 RX11 yX11_where wsX11_where) := goodIn_app (goodIn_of _ (by decide +kernel)) ggL_where_X11_where
theorem dL_where_0 : decode cL_where 0 = .ok (.aload_n 2, 1) := by decide +kernel
theorem dL_where_1 : decode cL_where 1 = .ok (.iconst 0, 1) := by decide +kernel
theorem dL_where_2 : decode cL_where 2 = .ok (.aload_n 0, 1) := by decide +kernel
theorem dL_where_3 : decode cL_where 3 = .ok (.iload_n 1, 1) := by decide +kernel
theorem dL_where_4 : decode cL_where 4 = .ok (.invokevirtual 68, 3) := by decide +kernel
theorem dL_where_7 : decode cL_where 7 = .ok (.i2l, 1) := by decide +kernel
theorem dL_where_8 : decode cL_where 8 = .ok (.lastore, 1) := by decide +kernel
theorem dL_where_9 : decode cL_where 9 = .ok (.goto 6, 3) := by decide +kernel
theorem dL_where_12 : decode cL_where 12 = .ok (.astore_n 3, 1) := by decide +kernel
theorem dL_where_13 : decode cL_where 13 = .ok (.iconst 1, 1) := by decide +kernel
theorem dL_where_14 : decode cL_where 14 = .ok (.ireturn, 1) := by decide +kernel
theorem dL_where_15 : decode cL_where 15 = .ok (.iconst 0, 1) := by decide +kernel
theorem dL_where_16 : decode cL_where 16 = .ok (.ireturn, 1) := by decide +kernel
set_option maxRecDepth 20000 in
theorem ggL_estimate_X11_estimate : GoodIn wsL_estimate wsX11_estimate := goodIn_ca (goodIn_ca (goodIn_r _ [6, 7, 8, 9, 5, 10, 11, 12, 13, 14, 15, 16, 17, 18, 19, 20, 21, 22, 23, 24, 25, 26, 27, 28, 29, 30, 31, 32, 33, 34, 35, 36] (by decide +kernel) (by decide +kernel)) (goodIn_sub (fun _ h => List.mem_cons_of_mem _ (List.mem_append_right _ h)) (by decide +kernel))) (goodIn_sub (fun _ h => List.mem_cons_of_mem _ (List.mem_append_left _ (List.mem_append_right _ h))) (by decide +kernel))
set_option maxRecDepth 20000 in
theorem gL_estimate_X11_estimate : GoodIn wsL_estimate (wsV RL 71 RX11 yX11_estimate wsX11_estimate) := goodIn_app (goodIn_of _ (by decide +kernel)) ggL_estimate_X11_estimate
theorem dL_estimate_0 : decode cL_estimate 0 = .ok (.aload_n 2, 1) := by decide +kernel
theorem dL_estimate_1 : decode cL_estimate 1 = .ok (.iconst 0, 1) := by decide +kernel
theorem dL_estimate_2 : decode cL_estimate 2 = .ok (.aload_n 0, 1) := by decide +kernel
theorem dL_estimate_3 : decode cL_estimate 3 = .ok (.iload_n 1, 1) := by decide +kernel
theorem dL_estimate_4 : decode cL_estimate 4 = .ok (.invokevirtual 71, 3) := by decide +kernel
theorem dL_estimate_7 : decode cL_estimate 7 = .ok (.i2l, 1) := by decide +kernel
theorem dL_estimate_8 : decode cL_estimate 8 = .ok (.lastore, 1) := by decide +kernel
theorem dL_estimate_9 : decode cL_estimate 9 = .ok (.goto 6, 3) := by decide +kernel
theorem dL_estimate_12 : decode cL_estimate 12 = .ok (.astore_n 3, 1) := by decide +kernel
theorem dL_estimate_13 : decode cL_estimate 13 = .ok (.iconst 1, 1) := by decide +kernel
theorem dL_estimate_14 : decode cL_estimate 14 = .ok (.ireturn, 1) := by decide +kernel
theorem dL_estimate_15 : decode cL_estimate 15 = .ok (.iconst 0, 1) := by decide +kernel
theorem dL_estimate_16 : decode cL_estimate 16 = .ok (.ireturn, 1) := by decide +kernel
set_option maxRecDepth 20000 in
theorem ggL_versionOf_X11_versionOf : GoodIn wsL_versionOf wsX11_versionOf := goodIn_ca (goodIn_ca (goodIn_ca (goodIn_r _ [7, 8, 9, 10, 11, 12, 13, 14, 15, 16, 17, 18, 6, 19, 20, 21, 22, 23, 24, 25, 26, 27, 28, 29, 30, 31, 32, 33, 34, 35, 36, 37, 38, 39, 40, 41, 42, 43, 44, 45, 46, 47, 48, 49, 50, 51, 52] (by decide +kernel) (by decide +kernel)) (goodIn_sub (fun _ h => List.mem_cons_of_mem _ (List.mem_append_left _ (List.mem_append_right _ h))) (by decide +kernel))) (goodIn_sub (fun _ h => List.mem_cons_of_mem _ (List.mem_append_left _ (List.mem_append_left _ (List.mem_append_right _ h)))) (by decide +kernel))) (goodIn_sub (fun _ h => List.mem_cons_of_mem _ (List.mem_append_right _ h)) (by decide +kernel))
set_option maxRecDepth 20000 in
theorem gL_versionOf_X11_versionOf : GoodIn wsL_versionOf (wsV RL 74 RX11 yX11_versionOf wsX11_versionOf) := goodIn_app (goodIn_of _ (by decide +kernel)) ggL_versionOf_X11_versionOf
theorem dL_versionOf_0 : decode cL_versionOf 0 = .ok (.aload_n 2, 1) := by decide +kernel
theorem dL_versionOf_1 : decode cL_versionOf 1 = .ok (.iconst 0, 1) := by decide +kernel
theorem dL_versionOf_2 : decode cL_versionOf 2 = .ok (.aload_n 0, 1) := by decide +kernel
theorem dL_versionOf_3 : decode cL_versionOf 3 = .ok (.iload_n 1, 1) := by decide +kernel
theorem dL_versionOf_4 : decode cL_versionOf 4 = .ok (.invokevirtual 74, 3) := by decide +kernel
theorem dL_versionOf_7 : decode cL_versionOf 7 = .ok (.i2l, 1) := by decide +kernel
theorem dL_versionOf_8 : decode cL_versionOf 8 = .ok (.lastore, 1) := by decide +kernel
theorem dL_versionOf_9 : decode cL_versionOf 9 = .ok (.goto 9, 3) := by decide +kernel
theorem dL_versionOf_12 : decode cL_versionOf 12 = .ok (.astore_n 3, 1) := by decide +kernel
theorem dL_versionOf_13 : decode cL_versionOf 13 = .ok (.iconst 1, 1) := by decide +kernel
theorem dL_versionOf_14 : decode cL_versionOf 14 = .ok (.ireturn, 1) := by decide +kernel
theorem dL_versionOf_15 : decode cL_versionOf 15 = .ok (.astore_n 3, 1) := by decide +kernel
theorem dL_versionOf_16 : decode cL_versionOf 16 = .ok (.iconst 2, 1) := by decide +kernel
theorem dL_versionOf_17 : decode cL_versionOf 17 = .ok (.ireturn, 1) := by decide +kernel
theorem dL_versionOf_18 : decode cL_versionOf 18 = .ok (.iconst 0, 1) := by decide +kernel
theorem dL_versionOf_19 : decode cL_versionOf 19 = .ok (.ireturn, 1) := by decide +kernel
set_option maxRecDepth 20000 in
theorem ggL_slot_X11_slot : GoodIn wsL_slot wsX11_slot := goodIn_ca (goodIn_ca (goodIn_r _ [6, 7, 8, 9, 10, 11, 12, 5, 13, 14, 15, 16, 17, 18, 19, 20, 21, 22, 23, 24, 25, 26, 27, 28, 29, 30, 31] (by decide +kernel) (by decide +kernel)) (goodIn_sub (fun _ h => List.mem_cons_of_mem _ (List.mem_append_right _ h)) (by decide +kernel))) (goodIn_sub (fun _ h => List.mem_cons_of_mem _ (List.mem_append_left _ (List.mem_append_right _ h))) (by decide +kernel))
set_option maxRecDepth 20000 in
theorem gL_slot_X11_slot : GoodIn wsL_slot (wsV RL 77 RX11 yX11_slot wsX11_slot) := goodIn_app (goodIn_of _ (by decide +kernel)) ggL_slot_X11_slot
theorem dL_slot_0 : decode cL_slot 0 = .ok (.aload_n 3, 1) := by decide +kernel
theorem dL_slot_1 : decode cL_slot 1 = .ok (.iconst 0, 1) := by decide +kernel
theorem dL_slot_2 : decode cL_slot 2 = .ok (.aload_n 0, 1) := by decide +kernel
theorem dL_slot_3 : decode cL_slot 3 = .ok (.iload_n 1, 1) := by decide +kernel
theorem dL_slot_4 : decode cL_slot 4 = .ok (.iload_n 2, 1) := by decide +kernel
theorem dL_slot_5 : decode cL_slot 5 = .ok (.invokevirtual 77, 3) := by decide +kernel
theorem dL_slot_8 : decode cL_slot 8 = .ok (.i2l, 1) := by decide +kernel
theorem dL_slot_9 : decode cL_slot 9 = .ok (.lastore, 1) := by decide +kernel
theorem dL_slot_10 : decode cL_slot 10 = .ok (.goto 7, 3) := by decide +kernel
theorem dL_slot_13 : decode cL_slot 13 = .ok (.astore 4, 2) := by decide +kernel
theorem dL_slot_15 : decode cL_slot 15 = .ok (.iconst 1, 1) := by decide +kernel
theorem dL_slot_16 : decode cL_slot 16 = .ok (.ireturn, 1) := by decide +kernel
theorem dL_slot_17 : decode cL_slot 17 = .ok (.iconst 0, 1) := by decide +kernel
theorem dL_slot_18 : decode cL_slot 18 = .ok (.ireturn, 1) := by decide +kernel
set_option maxRecDepth 20000 in
theorem ggL_wear_X11_wear : GoodIn wsL_wear wsX11_wear := goodIn_ca (goodIn_ca (goodIn_r _ [6, 7, 8, 9, 10, 5, 11, 12, 13, 14, 15, 16, 17, 18, 19, 20, 21, 22, 23, 24, 25, 26, 27, 28, 29, 30, 31] (by decide +kernel) (by decide +kernel)) (goodIn_sub (fun _ h => List.mem_cons_of_mem _ (List.mem_append_left _ (List.mem_append_right _ h))) (by decide +kernel))) (goodIn_sub (fun _ h => List.mem_cons_of_mem _ (List.mem_append_right _ h)) (by decide +kernel))
set_option maxRecDepth 20000 in
theorem gL_wear_X11_wear : GoodIn wsL_wear (wsV RL 81 RX11 yX11_wear wsX11_wear) := goodIn_app (goodIn_of _ (by decide +kernel)) ggL_wear_X11_wear
theorem dL_wear_0 : decode cL_wear 0 = .ok (.aload_n 2, 1) := by decide +kernel
theorem dL_wear_1 : decode cL_wear 1 = .ok (.iconst 0, 1) := by decide +kernel
theorem dL_wear_2 : decode cL_wear 2 = .ok (.aload_n 0, 1) := by decide +kernel
theorem dL_wear_3 : decode cL_wear 3 = .ok (.iload_n 1, 1) := by decide +kernel
theorem dL_wear_4 : decode cL_wear 4 = .ok (.invokevirtual 81, 3) := by decide +kernel
theorem dL_wear_7 : decode cL_wear 7 = .ok (.i2l, 1) := by decide +kernel
theorem dL_wear_8 : decode cL_wear 8 = .ok (.lastore, 1) := by decide +kernel
theorem dL_wear_9 : decode cL_wear 9 = .ok (.goto 6, 3) := by decide +kernel
theorem dL_wear_12 : decode cL_wear 12 = .ok (.astore_n 3, 1) := by decide +kernel
theorem dL_wear_13 : decode cL_wear 13 = .ok (.iconst 1, 1) := by decide +kernel
theorem dL_wear_14 : decode cL_wear 14 = .ok (.ireturn, 1) := by decide +kernel
theorem dL_wear_15 : decode cL_wear 15 = .ok (.iconst 0, 1) := by decide +kernel
theorem dL_wear_16 : decode cL_wear 16 = .ok (.ireturn, 1) := by decide +kernel
set_option maxRecDepth 20000 in
theorem ggL_stored_X11_stored : GoodIn wsL_stored wsX11_stored := goodIn_ca (goodIn_ca (goodIn_r _ [6, 7, 8, 9, 10, 5, 11, 12, 13, 14, 15, 16, 17, 18, 19, 20, 21, 22, 23, 24, 25, 26, 27, 28, 29, 30, 31, 32] (by decide +kernel) (by decide +kernel)) (goodIn_sub (fun _ h => List.mem_cons_of_mem _ (List.mem_append_left _ (List.mem_append_right _ h))) (by decide +kernel))) (goodIn_sub (fun _ h => List.mem_cons_of_mem _ (List.mem_append_right _ h)) (by decide +kernel))
set_option maxRecDepth 20000 in
theorem gL_stored_X11_stored : GoodIn wsL_stored (wsV RL 84 RX11 yX11_stored wsX11_stored) := goodIn_app (goodIn_of _ (by decide +kernel)) ggL_stored_X11_stored
theorem dL_stored_0 : decode cL_stored 0 = .ok (.aload_n 2, 1) := by decide +kernel
theorem dL_stored_1 : decode cL_stored 1 = .ok (.iconst 0, 1) := by decide +kernel
theorem dL_stored_2 : decode cL_stored 2 = .ok (.aload_n 0, 1) := by decide +kernel
theorem dL_stored_3 : decode cL_stored 3 = .ok (.iload_n 1, 1) := by decide +kernel
theorem dL_stored_4 : decode cL_stored 4 = .ok (.invokevirtual 84, 3) := by decide +kernel
theorem dL_stored_7 : decode cL_stored 7 = .ok (.i2l, 1) := by decide +kernel
theorem dL_stored_8 : decode cL_stored 8 = .ok (.lastore, 1) := by decide +kernel
theorem dL_stored_9 : decode cL_stored 9 = .ok (.goto 6, 3) := by decide +kernel
theorem dL_stored_12 : decode cL_stored 12 = .ok (.astore_n 3, 1) := by decide +kernel
theorem dL_stored_13 : decode cL_stored 13 = .ok (.iconst 1, 1) := by decide +kernel
theorem dL_stored_14 : decode cL_stored 14 = .ok (.ireturn, 1) := by decide +kernel
theorem dL_stored_15 : decode cL_stored 15 = .ok (.iconst 0, 1) := by decide +kernel
theorem dL_stored_16 : decode cL_stored 16 = .ok (.ireturn, 1) := by decide +kernel
set_option maxRecDepth 20000 in
theorem ggL_nextPromise_X11_nextPromise : GoodIn wsL_nextPromise wsX11_nextPromise := goodIn_ca (goodIn_ca (goodIn_r _ [6, 7, 8, 9, 10, 11, 12, 13, 14, 15, 16, 17, 18, 19, 20, 21, 22, 23, 24, 25, 26, 27, 28, 29, 30, 31, 32, 33, 34, 35, 36, 37, 38, 39, 40, 41, 42, 43, 44] (by decide +kernel) (by decide +kernel)) (goodIn_sub (fun _ h => List.mem_cons_of_mem _ (List.mem_append_right _ h)) (by decide +kernel))) (goodIn_sub (fun _ h => List.mem_cons_of_mem _ (List.mem_append_left _ (List.mem_append_right _ h))) (by decide +kernel))
set_option maxRecDepth 20000 in
theorem gL_nextPromise_X11_nextPromise : GoodIn wsL_nextPromise (wsV RL 87 RX11 yX11_nextPromise wsX11_nextPromise) := goodIn_app (goodIn_of _ (by decide +kernel)) ggL_nextPromise_X11_nextPromise
theorem dL_nextPromise_0 : decode cL_nextPromise 0 = .ok (.aload_n 1, 1) := by decide +kernel
theorem dL_nextPromise_1 : decode cL_nextPromise 1 = .ok (.iconst 0, 1) := by decide +kernel
theorem dL_nextPromise_2 : decode cL_nextPromise 2 = .ok (.aload_n 0, 1) := by decide +kernel
theorem dL_nextPromise_3 : decode cL_nextPromise 3 = .ok (.invokevirtual 87, 3) := by decide +kernel
theorem dL_nextPromise_6 : decode cL_nextPromise 6 = .ok (.i2l, 1) := by decide +kernel
theorem dL_nextPromise_7 : decode cL_nextPromise 7 = .ok (.lastore, 1) := by decide +kernel
theorem dL_nextPromise_8 : decode cL_nextPromise 8 = .ok (.goto 6, 3) := by decide +kernel
theorem dL_nextPromise_11 : decode cL_nextPromise 11 = .ok (.astore_n 2, 1) := by decide +kernel
theorem dL_nextPromise_12 : decode cL_nextPromise 12 = .ok (.iconst 1, 1) := by decide +kernel
theorem dL_nextPromise_13 : decode cL_nextPromise 13 = .ok (.ireturn, 1) := by decide +kernel
theorem dL_nextPromise_14 : decode cL_nextPromise 14 = .ok (.iconst 0, 1) := by decide +kernel
theorem dL_nextPromise_15 : decode cL_nextPromise 15 = .ok (.ireturn, 1) := by decide +kernel
set_option maxRecDepth 20000 in
theorem ggL_deliver_X11_deliver : GoodIn wsL_deliver wsX11_deliver := goodIn_ca (goodIn_ca (goodIn_r _ [6, 7, 8, 9, 10, 11, 12, 13, 14, 15, 16, 17, 18, 19, 20, 21, 22, 23, 24, 25, 26, 27, 28, 29, 30, 31, 32, 33, 34, 35, 36, 37, 38, 39, 40] (by decide +kernel) (by decide +kernel)) (goodIn_sub (fun _ h => List.mem_cons_of_mem _ (List.mem_append_right _ h)) (by decide +kernel))) (goodIn_sub (fun _ h => List.mem_cons_of_mem _ (List.mem_append_left _ (List.mem_append_right _ h))) (by decide +kernel))
set_option maxRecDepth 20000 in
theorem gL_deliver_X11_deliver : GoodIn wsL_deliver (wsV RL 90 RX11 yX11_deliver wsX11_deliver) := goodIn_app (goodIn_of _ (by decide +kernel)) ggL_deliver_X11_deliver
theorem dL_deliver_0 : decode cL_deliver 0 = .ok (.aload_n 2, 1) := by decide +kernel
theorem dL_deliver_1 : decode cL_deliver 1 = .ok (.iconst 0, 1) := by decide +kernel
theorem dL_deliver_2 : decode cL_deliver 2 = .ok (.aload_n 0, 1) := by decide +kernel
theorem dL_deliver_3 : decode cL_deliver 3 = .ok (.iload_n 1, 1) := by decide +kernel
theorem dL_deliver_4 : decode cL_deliver 4 = .ok (.invokevirtual 90, 3) := by decide +kernel
theorem dL_deliver_7 : decode cL_deliver 7 = .ok (.ifCond .eq 7, 3) := by decide +kernel
theorem dL_deliver_10 : decode cL_deliver 10 = .ok (.lconst 1, 1) := by decide +kernel
theorem dL_deliver_11 : decode cL_deliver 11 = .ok (.goto 4, 3) := by decide +kernel
theorem dL_deliver_14 : decode cL_deliver 14 = .ok (.lconst 0, 1) := by decide +kernel
theorem dL_deliver_15 : decode cL_deliver 15 = .ok (.lastore, 1) := by decide +kernel
theorem dL_deliver_16 : decode cL_deliver 16 = .ok (.goto 6, 3) := by decide +kernel
theorem dL_deliver_19 : decode cL_deliver 19 = .ok (.astore_n 3, 1) := by decide +kernel
theorem dL_deliver_20 : decode cL_deliver 20 = .ok (.iconst 1, 1) := by decide +kernel
theorem dL_deliver_21 : decode cL_deliver 21 = .ok (.ireturn, 1) := by decide +kernel
theorem dL_deliver_22 : decode cL_deliver 22 = .ok (.iconst 0, 1) := by decide +kernel
theorem dL_deliver_23 : decode cL_deliver 23 = .ok (.ireturn, 1) := by decide +kernel
set_option maxRecDepth 20000 in
theorem ggL_mirrored_X11_mirrored : GoodIn wsL_mirrored wsX11_mirrored := goodIn_ca (goodIn_ca (goodIn_r _ [6, 7, 8, 9, 10, 5, 11, 12, 13, 14, 15, 16, 17, 18, 19, 20, 21, 22, 23, 24, 25, 26, 27, 28, 29, 30, 31, 32] (by decide +kernel) (by decide +kernel)) (goodIn_sub (fun _ h => List.mem_cons_of_mem _ (List.mem_append_left _ (List.mem_append_right _ h))) (by decide +kernel))) (goodIn_sub (fun _ h => List.mem_cons_of_mem _ (List.mem_append_right _ h)) (by decide +kernel))
set_option maxRecDepth 20000 in
theorem gL_mirrored_X11_mirrored : GoodIn wsL_mirrored (wsV RL 93 RX11 yX11_mirrored wsX11_mirrored) := goodIn_app (goodIn_of _ (by decide +kernel)) ggL_mirrored_X11_mirrored
theorem dL_mirrored_0 : decode cL_mirrored 0 = .ok (.aload_n 2, 1) := by decide +kernel
theorem dL_mirrored_1 : decode cL_mirrored 1 = .ok (.iconst 0, 1) := by decide +kernel
theorem dL_mirrored_2 : decode cL_mirrored 2 = .ok (.aload_n 0, 1) := by decide +kernel
theorem dL_mirrored_3 : decode cL_mirrored 3 = .ok (.iload_n 1, 1) := by decide +kernel
theorem dL_mirrored_4 : decode cL_mirrored 4 = .ok (.invokevirtual 93, 3) := by decide +kernel
theorem dL_mirrored_7 : decode cL_mirrored 7 = .ok (.i2l, 1) := by decide +kernel
theorem dL_mirrored_8 : decode cL_mirrored 8 = .ok (.lastore, 1) := by decide +kernel
theorem dL_mirrored_9 : decode cL_mirrored 9 = .ok (.goto 6, 3) := by decide +kernel
theorem dL_mirrored_12 : decode cL_mirrored 12 = .ok (.astore_n 3, 1) := by decide +kernel
theorem dL_mirrored_13 : decode cL_mirrored 13 = .ok (.iconst 1, 1) := by decide +kernel
theorem dL_mirrored_14 : decode cL_mirrored 14 = .ok (.ireturn, 1) := by decide +kernel
theorem dL_mirrored_15 : decode cL_mirrored 15 = .ok (.iconst 0, 1) := by decide +kernel
theorem dL_mirrored_16 : decode cL_mirrored 16 = .ok (.ireturn, 1) := by decide +kernel
set_option maxRecDepth 20000 in
theorem ggL_answeredShare_X11_answeredShare : GoodIn wsL_answeredShare wsX11_answeredShare := goodIn_ca (goodIn_r _ [6, 7, 8, 9, 10, 11, 12, 13, 14, 15, 16, 17, 18, 19, 20, 21, 22, 23, 24, 25, 26, 27, 28, 29, 30, 31] (by decide +kernel) (by decide +kernel)) (goodIn_sub (fun _ h => List.mem_cons_of_mem _ (List.mem_append_right _ h)) (by decide +kernel))
set_option maxRecDepth 20000 in
theorem gL_answeredShare_X11_answeredShare : GoodIn wsL_answeredShare (wsV RL 96 RX11 yX11_answeredShare wsX11_answeredShare) := goodIn_app (goodIn_of _ (by decide +kernel)) ggL_answeredShare_X11_answeredShare
theorem dL_answeredShare_0 : decode cL_answeredShare 0 = .ok (.aload_n 1, 1) := by decide +kernel
theorem dL_answeredShare_1 : decode cL_answeredShare 1 = .ok (.iconst 0, 1) := by decide +kernel
theorem dL_answeredShare_2 : decode cL_answeredShare 2 = .ok (.aload_n 0, 1) := by decide +kernel
theorem dL_answeredShare_3 : decode cL_answeredShare 3 = .ok (.invokevirtual 96, 3) := by decide +kernel
theorem dL_answeredShare_6 : decode cL_answeredShare 6 = .ok (.f2d, 1) := by decide +kernel
theorem dL_answeredShare_7 : decode cL_answeredShare 7 = .ok (.dastore, 1) := by decide +kernel
theorem dL_answeredShare_8 : decode cL_answeredShare 8 = .ok (.goto 6, 3) := by decide +kernel
theorem dL_answeredShare_11 : decode cL_answeredShare 11 = .ok (.astore_n 2, 1) := by decide +kernel
theorem dL_answeredShare_12 : decode cL_answeredShare 12 = .ok (.iconst 1, 1) := by decide +kernel
theorem dL_answeredShare_13 : decode cL_answeredShare 13 = .ok (.ireturn, 1) := by decide +kernel
theorem dL_answeredShare_14 : decode cL_answeredShare 14 = .ok (.iconst 0, 1) := by decide +kernel
theorem dL_answeredShare_15 : decode cL_answeredShare 15 = .ok (.ireturn, 1) := by decide +kernel
set_option maxRecDepth 20000 in
theorem ggL_meanStaleness_X11_meanStaleness : GoodIn wsL_meanStaleness wsX11_meanStaleness := goodIn_ca (goodIn_r _ [6, 7, 8, 9, 10, 11, 12, 13, 14, 15, 16, 17, 18, 19, 20, 21, 22, 23, 24, 25, 26, 27, 28, 29, 30, 31] (by decide +kernel) (by decide +kernel)) (goodIn_sub (fun _ h => List.mem_cons_of_mem _ (List.mem_append_right _ h)) (by decide +kernel))
set_option maxRecDepth 20000 in
theorem gL_meanStaleness_X11_meanStaleness : GoodIn wsL_meanStaleness (wsV RL 102 RX11 yX11_meanStaleness wsX11_meanStaleness) := goodIn_app (goodIn_of _ (by decide +kernel)) ggL_meanStaleness_X11_meanStaleness
theorem dL_meanStaleness_0 : decode cL_meanStaleness 0 = .ok (.aload_n 1, 1) := by decide +kernel
theorem dL_meanStaleness_1 : decode cL_meanStaleness 1 = .ok (.iconst 0, 1) := by decide +kernel
theorem dL_meanStaleness_2 : decode cL_meanStaleness 2 = .ok (.aload_n 0, 1) := by decide +kernel
theorem dL_meanStaleness_3 : decode cL_meanStaleness 3 = .ok (.invokevirtual 102, 3) := by decide +kernel
theorem dL_meanStaleness_6 : decode cL_meanStaleness 6 = .ok (.dastore, 1) := by decide +kernel
theorem dL_meanStaleness_7 : decode cL_meanStaleness 7 = .ok (.goto 6, 3) := by decide +kernel
theorem dL_meanStaleness_10 : decode cL_meanStaleness 10 = .ok (.astore_n 2, 1) := by decide +kernel
theorem dL_meanStaleness_11 : decode cL_meanStaleness 11 = .ok (.iconst 1, 1) := by decide +kernel
theorem dL_meanStaleness_12 : decode cL_meanStaleness 12 = .ok (.ireturn, 1) := by decide +kernel
theorem dL_meanStaleness_13 : decode cL_meanStaleness 13 = .ok (.iconst 0, 1) := by decide +kernel
theorem dL_meanStaleness_14 : decode cL_meanStaleness 14 = .ok (.ireturn, 1) := by decide +kernel
theorem dL_law_0 : decode cL_law 0 = .ok (.new 8, 3) := by decide +kernel
theorem dL_law_3 : decode cL_law 3 = .ok (.dup, 1) := by decide +kernel
theorem dL_law_4 : decode cL_law 4 = .ok (.invokespecial 106, 3) := by decide +kernel
theorem dL_law_7 : decode cL_law 7 = .ok (.astore_n 1, 1) := by decide +kernel
theorem dL_law_8 : decode cL_law 8 = .ok (.new 107, 3) := by decide +kernel
theorem dL_law_11 : decode cL_law 11 = .ok (.dup, 1) := by decide +kernel
theorem dL_law_12 : decode cL_law 12 = .ok (.invokespecial 109, 3) := by decide +kernel
theorem dL_law_15 : decode cL_law 15 = .ok (.astore_n 2, 1) := by decide +kernel
theorem dL_law_16 : decode cL_law 16 = .ok (.iconst 1, 1) := by decide +kernel
theorem dL_law_17 : decode cL_law 17 = .ok (.newarray .long, 2) := by decide +kernel
theorem dL_law_19 : decode cL_law 19 = .ok (.astore_n 3, 1) := by decide +kernel
theorem dL_law_20 : decode cL_law 20 = .ok (.iconst 1, 1) := by decide +kernel
theorem dL_law_21 : decode cL_law 21 = .ok (.newarray .double, 2) := by decide +kernel
theorem dL_law_23 : decode cL_law 23 = .ok (.astore 4, 2) := by decide +kernel
theorem dL_law_25 : decode cL_law 25 = .ok (.iconst 0, 1) := by decide +kernel
theorem dL_law_26 : decode cL_law 26 = .ok (.istore 5, 2) := by decide +kernel
theorem dL_law_28 : decode cL_law 28 = .ok (.iload 5, 2) := by decide +kernel
theorem dL_law_30 : decode cL_law 30 = .ok (.aload_n 0, 1) := by decide +kernel
theorem dL_law_31 : decode cL_law 31 = .ok (.arraylength, 1) := by decide +kernel
theorem dL_law_32 : decode cL_law 32 = .ok (.iconst 5, 1) := by decide +kernel
theorem dL_law_33 : decode cL_law 33 = .ok (.isub, 1) := by decide +kernel
theorem dL_law_34 : decode cL_law 34 = .ok (.if_icmp .gt 938, 3) := by decide +kernel
theorem dL_law_37 : decode cL_law 37 = .ok (.aload_n 0, 1) := by decide +kernel
theorem dL_law_38 : decode cL_law 38 = .ok (.iload 5, 2) := by decide +kernel
theorem dL_law_40 : decode cL_law 40 = .ok (.iaload, 1) := by decide +kernel
theorem dL_law_41 : decode cL_law 41 = .ok (.bipush 31, 2) := by decide +kernel
theorem dL_law_43 : decode cL_law 43 = .ok (.iand, 1) := by decide +kernel
theorem dL_law_44 : decode cL_law 44 = .ok (.tableswitch 922 0 30 #[140, 204, 256, 272, 288, 304, 332, 360, 388, 442, 470, 498, 526, 542, 558, 571, 599, 612, 640, 668, 708, 736, 764, 777, 793, 806, 834, 862, 875, 892, 909], 140) := by decide +kernel
theorem dL_law_184 : decode cL_law 184 = .ok (.aload_n 1, 1) := by decide +kernel
theorem dL_law_185 : decode cL_law 185 = .ok (.aload_n 0, 1) := by decide +kernel
theorem dL_law_186 : decode cL_law 186 = .ok (.iload 5, 2) := by decide +kernel
theorem dL_law_188 : decode cL_law 188 = .ok (.iconst 1, 1) := by decide +kernel
theorem dL_law_189 : decode cL_law 189 = .ok (.iadd, 1) := by decide +kernel
theorem dL_law_190 : decode cL_law 190 = .ok (.iaload, 1) := by decide +kernel
theorem dL_law_191 : decode cL_law 191 = .ok (.aload_n 0, 1) := by decide +kernel
theorem dL_law_192 : decode cL_law 192 = .ok (.iload 5, 2) := by decide +kernel
theorem dL_law_194 : decode cL_law 194 = .ok (.iconst 2, 1) := by decide +kernel
theorem dL_law_195 : decode cL_law 195 = .ok (.iadd, 1) := by decide +kernel
theorem dL_law_196 : decode cL_law 196 = .ok (.iaload, 1) := by decide +kernel
theorem dL_law_197 : decode cL_law 197 = .ok (.aload_n 0, 1) := by decide +kernel
theorem dL_law_198 : decode cL_law 198 = .ok (.iload 5, 2) := by decide +kernel
theorem dL_law_200 : decode cL_law 200 = .ok (.iconst 3, 1) := by decide +kernel
theorem dL_law_201 : decode cL_law 201 = .ok (.iadd, 1) := by decide +kernel
theorem dL_law_202 : decode cL_law 202 = .ok (.iaload, 1) := by decide +kernel
theorem dL_law_203 : decode cL_law 203 = .ok (.aload_n 0, 1) := by decide +kernel
