set_option maxRecDepth 20000 in
theorem memc {big l : List Cond} {a : Cond} (h : a ∈ big) (t : ∀ w ∈ l, w ∈ big) : ∀ w ∈ a :: l, w ∈ big := fun w hw => (List.mem_cons.mp hw).elim (fun e => e ▸ h) (t w)
set_option maxRecDepth 20000 in
theorem memn {big : List Cond} : ∀ w ∈ ([] : List Cond), w ∈ big := fun _ h => absurd h List.not_mem_nil
set_option maxRecDepth 20000 in
theorem m9_1_0 : Cond.classLink RL 10 RX4 ∈ lw_tbl := wsL_law_in0_1 _ (List.mem_of_getElem? (i := 0) rfl)
set_option maxRecDepth 20000 in
theorem m9_1_1 : Cond.instantiable RX4 8 ∈ lw_tbl := wsL_law_in0_1 _ (List.mem_of_getElem? (i := 1) rfl)
set_option maxRecDepth 20000 in
theorem m9_1_2 : Cond.initialized RX4 ∈ lw_tbl := wsL_law_in0_1 _ (List.mem_of_getElem? (i := 2) rfl)
set_option maxRecDepth 20000 in
theorem m9_1_3 : Cond.methodLink RL 81 yX4_init ∈ lw_tbl := wsL_law_in0_1 _ (List.mem_of_getElem? (i := 3) rfl)
set_option maxRecDepth 20000 in
theorem m9_1_4 : Cond.instanceMethod yX4_init ∈ lw_tbl := wsL_law_in0_1 _ (List.mem_of_getElem? (i := 4) rfl)
set_option maxRecDepth 20000 in
theorem m9_1_5 : Cond.code yX4_init cX4_init 1 none ∈ lw_tbl := wsL_law_in0_1 _ (List.mem_of_getElem? (i := 5) rfl)
set_option maxRecDepth 20000 in
theorem m9_1_6 : Cond.methodLink RX4 1 objectInit ∈ lw_tbl := wsL_law_in0_1 _ (List.mem_of_getElem? (i := 6) rfl)
set_option maxRecDepth 20000 in
theorem m9_1_7 : Cond.instanceMethod objectInit ∈ lw_tbl := wsL_law_in0_1 _ (List.mem_of_getElem? (i := 7) rfl)
set_option maxRecDepth 20000 in
theorem m9_1_8 : Cond.code objectInit ⟨#[0xb1]⟩ 1 none ∈ lw_tbl := wsL_law_in0_1 _ (List.mem_of_getElem? (i := 8) rfl)
set_option maxRecDepth 20000 in
theorem m9_1_9 : Cond.classLink RX4 7 RX2 ∈ lw_tbl := wsL_law_in0_1 _ (List.mem_of_getElem? (i := 9) rfl)
set_option maxRecDepth 20000 in
theorem m9_1_10 : Cond.instantiable RX2 8 ∈ lw_tbl := wsL_law_in0_1 _ (List.mem_of_getElem? (i := 10) rfl)
set_option maxRecDepth 20000 in
theorem m9_1_11 : Cond.initialized RX2 ∈ lw_tbl := wsL_law_in0_1 _ (List.mem_of_getElem? (i := 11) rfl)
set_option maxRecDepth 20000 in
theorem m9_1_12 : Cond.fieldLink RX4 10 "FogOrders" "opening" "LFogOrders$Opening;" ∈ lw_tbl := wsL_law_in0_1 _ (List.mem_of_getElem? (i := 12) rfl)
set_option maxRecDepth 20000 in
theorem m9_1_13 : Cond.fieldLink RX4 20 "FogOrders" "board" "LFogOrders$Board;" ∈ lw_tbl := wsL_law_in0_1 _ (List.mem_of_getElem? (i := 13) rfl)
set_option maxRecDepth 20000 in
theorem m9_1_14 : Cond.fieldLink RX4 21 "FogOrders" "trialOpening" "LFogOrders$Opening;" ∈ lw_tbl := wsL_law_in0_1 _ (List.mem_of_getElem? (i := 14) rfl)
set_option maxRecDepth 20000 in
theorem m9_1_15 : Cond.fieldLink RX4 24 "FogOrders" "trial" "LFogOrders$Board;" ∈ lw_tbl := wsL_law_in0_1 _ (List.mem_of_getElem? (i := 15) rfl)
set_option maxRecDepth 20000 in
theorem m9_1_16 : Cond.classLink RX4 27 RX1 ∈ lw_tbl := wsL_law_in0_1 _ (List.mem_of_getElem? (i := 16) rfl)
set_option maxRecDepth 20000 in
theorem m9_1_17 : Cond.instantiable RX1 3 ∈ lw_tbl := wsL_law_in0_1 _ (List.mem_of_getElem? (i := 17) rfl)
set_option maxRecDepth 20000 in
theorem m9_1_18 : Cond.initialized RX1 ∈ lw_tbl := wsL_law_in0_1 _ (List.mem_of_getElem? (i := 18) rfl)
set_option maxRecDepth 20000 in
theorem m9_1_19 : Cond.fieldLink RX4 30 "FogOrders" "history" "LFogOrders$History;" ∈ lw_tbl := wsL_law_in0_1 _ (List.mem_of_getElem? (i := 19) rfl)
set_option maxRecDepth 20000 in
theorem m9_1_20 : Cond.classLink RX4 34 RX0 ∈ lw_tbl := wsL_law_in0_1 _ (List.mem_of_getElem? (i := 20) rfl)
set_option maxRecDepth 20000 in
theorem m9_1_21 : Cond.instantiable RX0 3 ∈ lw_tbl := wsL_law_in0_1 _ (List.mem_of_getElem? (i := 21) rfl)
set_option maxRecDepth 20000 in
theorem m9_1_22 : Cond.initialized RX0 ∈ lw_tbl := wsL_law_in0_1 _ (List.mem_of_getElem? (i := 22) rfl)
set_option maxRecDepth 20000 in
theorem m9_1_23 : Cond.fieldLink RX4 37 "FogOrders" "snapshot" "LFogOrders$Board;" ∈ lw_tbl := wsL_law_in0_1 _ (List.mem_of_getElem? (i := 23) rfl)
set_option maxRecDepth 20000 in
theorem m9_2_0 : Cond.fieldLink RX4 40 "FogOrders" "hasSnapshot" "Z" ∈ lw_tbl := wsL_law_in0_2 _ (List.mem_of_getElem? (i := 0) rfl)
set_option maxRecDepth 20000 in
theorem m9_2_1 : Cond.classLink RX4 44 RX3 ∈ lw_tbl := wsL_law_in0_2 _ (List.mem_of_getElem? (i := 1) rfl)
set_option maxRecDepth 20000 in
theorem m9_2_2 : Cond.instantiable RX3 6 ∈ lw_tbl := wsL_law_in0_2 _ (List.mem_of_getElem? (i := 2) rfl)
set_option maxRecDepth 20000 in
theorem m9_2_3 : Cond.initialized RX3 ∈ lw_tbl := wsL_law_in0_2 _ (List.mem_of_getElem? (i := 3) rfl)
set_option maxRecDepth 20000 in
theorem m9_2_4 : Cond.fieldLink RX4 47 "FogOrders" "text" "LFogOrders$OrderText;" ∈ lw_tbl := wsL_law_in0_2 _ (List.mem_of_getElem? (i := 4) rfl)
set_option maxRecDepth 20000 in
theorem m9_2_5 : Cond.instanceMethod yX2_init ∈ lw_tbl := wsL_law_in0_2 _ (List.mem_of_getElem? (i := 5) rfl)
set_option maxRecDepth 20000 in
theorem m9_2_6 : Cond.code yX2_init cX2_init 1 none ∈ lw_tbl := wsL_law_in0_2 _ (List.mem_of_getElem? (i := 6) rfl)
set_option maxRecDepth 20000 in
theorem m9_2_7 : Cond.methodLink RX2 3 objectInit ∈ lw_tbl := wsL_law_in0_2 _ (List.mem_of_getElem? (i := 7) rfl)
set_option maxRecDepth 20000 in
theorem m9_2_8 : Cond.classLink RX2 9 RX0 ∈ lw_tbl := wsL_law_in0_2 _ (List.mem_of_getElem? (i := 8) rfl)
set_option maxRecDepth 20000 in
theorem m9_2_9 : Cond.fieldLink RX2 12 "FogOrders$Opening" "board" "LFogOrders$Board;" ∈ lw_tbl := wsL_law_in0_2 _ (List.mem_of_getElem? (i := 9) rfl)
set_option maxRecDepth 20000 in
theorem m9_2_10 : Cond.arrayClass .int ∈ lw_tbl := wsL_law_in0_2 _ (List.mem_of_getElem? (i := 10) rfl)
set_option maxRecDepth 20000 in
theorem m9_2_11 : Cond.fieldLink RX2 18 "FogOrders$Opening" "cut" "[I" ∈ lw_tbl := wsL_law_in0_2 _ (List.mem_of_getElem? (i := 11) rfl)
set_option maxRecDepth 20000 in
theorem m9_2_12 : Cond.fieldLink RX2 22 "FogOrders$Opening" "counts" "[I" ∈ lw_tbl := wsL_law_in0_2 _ (List.mem_of_getElem? (i := 12) rfl)
set_option maxRecDepth 20000 in
theorem m9_2_13 : Cond.fieldLink RX2 25 "FogOrders$Opening" "strength" "[I" ∈ lw_tbl := wsL_law_in0_2 _ (List.mem_of_getElem? (i := 13) rfl)
set_option maxRecDepth 20000 in
theorem m9_2_14 : Cond.fieldLink RX2 28 "FogOrders$Opening" "reason" "[I" ∈ lw_tbl := wsL_law_in0_2 _ (List.mem_of_getElem? (i := 14) rfl)
set_option maxRecDepth 20000 in
theorem m9_2_15 : Cond.fieldLink RX2 31 "FogOrders$Opening" "driver" "[I" ∈ lw_tbl := wsL_law_in0_2 _ (List.mem_of_getElem? (i := 15) rfl)
set_option maxRecDepth 20000 in
theorem m9_2_16 : Cond.fieldLink RX2 34 "FogOrders$Opening" "waits" "[I" ∈ lw_tbl := wsL_law_in0_2 _ (List.mem_of_getElem? (i := 16) rfl)
set_option maxRecDepth 20000 in
theorem m9_2_17 : Cond.fieldLink RX2 37 "FogOrders$Opening" "stands" "[I" ∈ lw_tbl := wsL_law_in0_2 _ (List.mem_of_getElem? (i := 17) rfl)
set_option maxRecDepth 20000 in
theorem m9_2_18 : Cond.methodLink RX2 11 yX0_init ∈ lw_tbl := wsL_law_in0_2 _ (List.mem_of_getElem? (i := 18) rfl)
set_option maxRecDepth 20000 in
theorem m9_2_19 : Cond.instanceMethod yX0_init ∈ lw_tbl := wsL_law_in0_2 _ (List.mem_of_getElem? (i := 19) rfl)
set_option maxRecDepth 20000 in
theorem m9_2_20 : Cond.code yX0_init cX0_init 1 none ∈ lw_tbl := wsL_law_in0_2 _ (List.mem_of_getElem? (i := 20) rfl)
set_option maxRecDepth 20000 in
theorem m9_2_21 : Cond.methodLink RX0 3 objectInit ∈ lw_tbl := wsL_law_in0_2 _ (List.mem_of_getElem? (i := 21) rfl)
set_option maxRecDepth 20000 in
theorem m9_2_22 : Cond.fieldLink RX0 9 "FogOrders$Board" "numbers" "[I" ∈ lw_tbl := wsL_law_in0_2 _ (List.mem_of_getElem? (i := 22) rfl)
set_option maxRecDepth 20000 in
theorem m9_2_23 : Cond.fieldLink RX0 15 "FogOrders$Board" "owners" "[I" ∈ lw_tbl := wsL_law_in0_2 _ (List.mem_of_getElem? (i := 23) rfl)
set_option maxRecDepth 20000 in
theorem m9_3_0 : Cond.fieldLink RX0 18 "FogOrders$Board" "cells" "[I" ∈ lw_tbl := wsL_law_in0_3 _ (List.mem_of_getElem? (i := 0) rfl)
set_option maxRecDepth 20000 in
theorem m9_3_1 : Cond.methodLink RX0 21 yJ7_fill_53178 ∈ lw_tbl := wsL_law_in0_3 _ (List.mem_of_getElem? (i := 1) rfl)
set_option maxRecDepth 20000 in
theorem m9_3_2 : Cond.static yJ7_fill_53178 ∈ lw_tbl := wsL_law_in0_3 _ (List.mem_of_getElem? (i := 2) rfl)
set_option maxRecDepth 20000 in
theorem m9_3_3 : Cond.initialized RJ7 ∈ lw_tbl := wsL_law_in0_3 _ (List.mem_of_getElem? (i := 3) rfl)
set_option maxRecDepth 20000 in
theorem m9_3_4 : Cond.code yJ7_fill_53178 cJ7_fill_53178 4 none ∈ lw_tbl := wsL_law_in0_3 _ (List.mem_of_getElem? (i := 4) rfl)
set_option maxRecDepth 20000 in
theorem m9_3_5 : Cond.methodLink RX4 29 yX1_init ∈ lw_tbl := wsL_law_in0_3 _ (List.mem_of_getElem? (i := 5) rfl)
set_option maxRecDepth 20000 in
theorem m9_3_6 : Cond.instanceMethod yX1_init ∈ lw_tbl := wsL_law_in0_3 _ (List.mem_of_getElem? (i := 6) rfl)
set_option maxRecDepth 20000 in
theorem m9_3_7 : Cond.code yX1_init cX1_init 2 none ∈ lw_tbl := wsL_law_in0_3 _ (List.mem_of_getElem? (i := 7) rfl)
set_option maxRecDepth 20000 in
theorem m9_3_8 : Cond.methodLink RX1 3 objectInit ∈ lw_tbl := wsL_law_in0_3 _ (List.mem_of_getElem? (i := 8) rfl)
set_option maxRecDepth 20000 in
theorem m9_3_9 : Cond.classLink RX1 9 RX0 ∈ lw_tbl := wsL_law_in0_3 _ (List.mem_of_getElem? (i := 9) rfl)
set_option maxRecDepth 20000 in
theorem m9_3_10 : Cond.fieldLink RX1 11 "FogOrders$History" "boards" "[LFogOrders$Board;" ∈ lw_tbl := wsL_law_in0_3 _ (List.mem_of_getElem? (i := 10) rfl)
set_option maxRecDepth 20000 in
theorem m9_3_11 : Cond.fieldLink RX1 17 "FogOrders$History" "oldest" "I" ∈ lw_tbl := wsL_law_in0_3 _ (List.mem_of_getElem? (i := 11) rfl)
set_option maxRecDepth 20000 in
theorem m9_3_12 : Cond.fieldLink RX1 21 "FogOrders$History" "saved" "I" ∈ lw_tbl := wsL_law_in0_3 _ (List.mem_of_getElem? (i := 12) rfl)
set_option maxRecDepth 20000 in
theorem m9_3_13 : Cond.methodLink RX1 24 yX0_init ∈ lw_tbl := wsL_law_in0_3 _ (List.mem_of_getElem? (i := 13) rfl)
set_option maxRecDepth 20000 in
theorem m9_3_14 : Cond.methodLink RX4 36 yX0_init ∈ lw_tbl := wsL_law_in0_3 _ (List.mem_of_getElem? (i := 14) rfl)
set_option maxRecDepth 20000 in
theorem m9_3_15 : Cond.instanceMethod yX3_init ∈ lw_tbl := wsL_law_in0_3 _ (List.mem_of_getElem? (i := 15) rfl)
set_option maxRecDepth 20000 in
theorem m9_3_16 : Cond.code yX3_init cX3_init 1 none ∈ lw_tbl := wsL_law_in0_3 _ (List.mem_of_getElem? (i := 16) rfl)
set_option maxRecDepth 20000 in
theorem m9_3_17 : Cond.methodLink RX3 3 objectInit ∈ lw_tbl := wsL_law_in0_3 _ (List.mem_of_getElem? (i := 17) rfl)
set_option maxRecDepth 20000 in
theorem m9_3_18 : Cond.fieldLink RX3 9 "FogOrders$OrderText" "codes" "[I" ∈ lw_tbl := wsL_law_in0_3 _ (List.mem_of_getElem? (i := 18) rfl)
set_option maxRecDepth 20000 in
theorem m9_3_19 : Cond.fieldLink RX3 15 "FogOrders$OrderText" "length" "I" ∈ lw_tbl := wsL_law_in0_3 _ (List.mem_of_getElem? (i := 19) rfl)
set_option maxRecDepth 20000 in
theorem m9_3_20 : Cond.fieldLink RX3 19 "FogOrders$OrderText" "armyRead" "I" ∈ lw_tbl := wsL_law_in0_3 _ (List.mem_of_getElem? (i := 20) rfl)
set_option maxRecDepth 20000 in
theorem m9_3_21 : Cond.fieldLink RX3 22 "FogOrders$OrderText" "kindRead" "I" ∈ lw_tbl := wsL_law_in0_3 _ (List.mem_of_getElem? (i := 21) rfl)
set_option maxRecDepth 20000 in
theorem m9_3_22 : Cond.fieldLink RX3 25 "FogOrders$OrderText" "fromRead" "I" ∈ lw_tbl := wsL_law_in0_3 _ (List.mem_of_getElem? (i := 22) rfl)
set_option maxRecDepth 20000 in
theorem m9_3_23 : Cond.fieldLink RX3 28 "FogOrders$OrderText" "toRead" "I" ∈ lw_tbl := wsL_law_in0_3 _ (List.mem_of_getElem? (i := 23) rfl)
set_option maxRecDepth 20000 in
theorem m9_4_0 : Cond.methodLink RL 82 yL_holds ∈ lw_tbl := wsL_law_in0_4 _ (List.mem_of_getElem? (i := 0) rfl)
set_option maxRecDepth 20000 in
theorem m9_4_1 : Cond.static yL_holds ∈ lw_tbl := wsL_law_in0_4 _ (List.mem_of_getElem? (i := 1) rfl)
set_option maxRecDepth 20000 in
theorem m9_4_2 : Cond.initialized RL ∈ lw_tbl := wsL_law_in0_4 _ (List.mem_of_getElem? (i := 2) rfl)
set_option maxRecDepth 20000 in
theorem m9_4_3 : Cond.code yL_holds cL_holds 10 (some .boolean) ∈ lw_tbl := wsL_law_in0_4 _ (List.mem_of_getElem? (i := 3) rfl)
set_option maxRecDepth 20000 in
theorem m9_4_4 : Cond.methodLink RL 9 yX4_count ∈ lw_tbl := wsL_law_in0_4 _ (List.mem_of_getElem? (i := 4) rfl)
set_option maxRecDepth 20000 in
theorem m9_4_5 : Cond.instanceMethod yX4_count ∈ lw_tbl := wsL_law_in0_4 _ (List.mem_of_getElem? (i := 5) rfl)
set_option maxRecDepth 20000 in
theorem m9_4_6 : Cond.selects RX4 yX4_count yX4_count ∈ lw_tbl := wsL_law_in0_4 _ (List.mem_of_getElem? (i := 6) rfl)
set_option maxRecDepth 20000 in
theorem m9_4_7 : Cond.code yX4_count cX4_count 2 (some .int) ∈ lw_tbl := wsL_law_in0_4 _ (List.mem_of_getElem? (i := 7) rfl)
set_option maxRecDepth 20000 in
theorem m9_4_8 : Cond.classLink RX4 104 "java/lang/IllegalArgumentException" ∈ lw_tbl := wsL_law_in0_4 _ (List.mem_of_getElem? (i := 8) rfl)
set_option maxRecDepth 20000 in
theorem m9_4_9 : Cond.initialized "java/lang/IllegalArgumentException" ∈ lw_tbl := wsL_law_in0_4 _ (List.mem_of_getElem? (i := 9) rfl)
set_option maxRecDepth 20000 in
theorem m9_4_10 : Cond.methodLink RX4 173 yX4_countNumber ∈ lw_tbl := wsL_law_in0_4 _ (List.mem_of_getElem? (i := 10) rfl)
set_option maxRecDepth 20000 in
theorem m9_4_11 : Cond.instanceMethod yX4_countNumber ∈ lw_tbl := wsL_law_in0_4 _ (List.mem_of_getElem? (i := 11) rfl)
set_option maxRecDepth 20000 in
theorem m9_4_12 : Cond.selects RX4 yX4_countNumber yX4_countNumber ∈ lw_tbl := wsL_law_in0_4 _ (List.mem_of_getElem? (i := 12) rfl)
set_option maxRecDepth 20000 in
theorem m9_4_13 : Cond.code yX4_countNumber cX4_countNumber 2 (some .int) ∈ lw_tbl := wsL_law_in0_4 _ (List.mem_of_getElem? (i := 13) rfl)
set_option maxRecDepth 20000 in
theorem m9_4_14 : Cond.methodLink RX4 69 yX0_number ∈ lw_tbl := wsL_law_in0_4 _ (List.mem_of_getElem? (i := 14) rfl)
set_option maxRecDepth 20000 in
theorem m9_4_15 : Cond.instanceMethod yX0_number ∈ lw_tbl := wsL_law_in0_4 _ (List.mem_of_getElem? (i := 15) rfl)
set_option maxRecDepth 20000 in
theorem m9_4_16 : Cond.selects RX0 yX0_number yX0_number ∈ lw_tbl := wsL_law_in0_4 _ (List.mem_of_getElem? (i := 16) rfl)
set_option maxRecDepth 20000 in
theorem m9_4_17 : Cond.code yX0_number cX0_number 2 (some .int) ∈ lw_tbl := wsL_law_in0_4 _ (List.mem_of_getElem? (i := 17) rfl)
set_option maxRecDepth 20000 in
theorem m9_4_18 : Cond.methodLink RX4 266 yX0_ordersOf ∈ lw_tbl := wsL_law_in0_4 _ (List.mem_of_getElem? (i := 18) rfl)
set_option maxRecDepth 20000 in
theorem m9_4_19 : Cond.instanceMethod yX0_ordersOf ∈ lw_tbl := wsL_law_in0_4 _ (List.mem_of_getElem? (i := 19) rfl)
set_option maxRecDepth 20000 in
theorem m9_4_20 : Cond.selects RX0 yX0_ordersOf yX0_ordersOf ∈ lw_tbl := wsL_law_in0_4 _ (List.mem_of_getElem? (i := 20) rfl)
set_option maxRecDepth 20000 in
theorem m9_4_21 : Cond.code yX0_ordersOf cX0_ordersOf 4 (some .int) ∈ lw_tbl := wsL_law_in0_4 _ (List.mem_of_getElem? (i := 21) rfl)
set_option maxRecDepth 20000 in
theorem m9_4_22 : Cond.methodLink RX0 33 yX0_number ∈ lw_tbl := wsL_law_in0_4 _ (List.mem_of_getElem? (i := 22) rfl)
set_option maxRecDepth 20000 in
theorem m9_4_23 : Cond.methodLink RX0 41 yX0_of ∈ lw_tbl := wsL_law_in0_4 _ (List.mem_of_getElem? (i := 23) rfl)
set_option maxRecDepth 20000 in
theorem m9_5_0 : Cond.instanceMethod yX0_of ∈ lw_tbl := wsL_law_in0_5 _ (List.mem_of_getElem? (i := 0) rfl)
set_option maxRecDepth 20000 in
theorem m9_5_1 : Cond.selects RX0 yX0_of yX0_of ∈ lw_tbl := wsL_law_in0_5 _ (List.mem_of_getElem? (i := 1) rfl)
set_option maxRecDepth 20000 in
theorem m9_5_2 : Cond.code yX0_of cX0_of 4 (some .int) ∈ lw_tbl := wsL_law_in0_5 _ (List.mem_of_getElem? (i := 2) rfl)
set_option maxRecDepth 20000 in
theorem m9_5_3 : Cond.methodLink RX4 143 yX1_size ∈ lw_tbl := wsL_law_in0_5 _ (List.mem_of_getElem? (i := 3) rfl)
set_option maxRecDepth 20000 in
theorem m9_5_4 : Cond.instanceMethod yX1_size ∈ lw_tbl := wsL_law_in0_5 _ (List.mem_of_getElem? (i := 4) rfl)
set_option maxRecDepth 20000 in
theorem m9_5_5 : Cond.selects RX1 yX1_size yX1_size ∈ lw_tbl := wsL_law_in0_5 _ (List.mem_of_getElem? (i := 5) rfl)
set_option maxRecDepth 20000 in
theorem m9_5_6 : Cond.code yX1_size cX1_size 1 (some .int) ∈ lw_tbl := wsL_law_in0_5 _ (List.mem_of_getElem? (i := 6) rfl)
set_option maxRecDepth 20000 in
theorem m9_5_7 : Cond.methodLink RL 70 yL_isArmy ∈ lw_tbl := wsL_law_in0_5 _ (List.mem_of_getElem? (i := 7) rfl)
set_option maxRecDepth 20000 in
theorem m9_5_8 : Cond.static yL_isArmy ∈ lw_tbl := wsL_law_in0_5 _ (List.mem_of_getElem? (i := 8) rfl)
set_option maxRecDepth 20000 in
theorem m9_5_9 : Cond.code yL_isArmy cL_isArmy 9 (some .boolean) ∈ lw_tbl := wsL_law_in0_5 _ (List.mem_of_getElem? (i := 9) rfl)
set_option maxRecDepth 20000 in
theorem m9_5_10 : Cond.methodLink RL 21 yX4_armyOf ∈ lw_tbl := wsL_law_in0_5 _ (List.mem_of_getElem? (i := 10) rfl)
set_option maxRecDepth 20000 in
theorem m9_5_11 : Cond.instanceMethod yX4_armyOf ∈ lw_tbl := wsL_law_in0_5 _ (List.mem_of_getElem? (i := 11) rfl)
set_option maxRecDepth 20000 in
theorem m9_5_12 : Cond.selects RX4 yX4_armyOf yX4_armyOf ∈ lw_tbl := wsL_law_in0_5 _ (List.mem_of_getElem? (i := 12) rfl)
set_option maxRecDepth 20000 in
theorem m9_5_13 : Cond.code yX4_armyOf cX4_armyOf 3 (some .int) ∈ lw_tbl := wsL_law_in0_5 _ (List.mem_of_getElem? (i := 13) rfl)
set_option maxRecDepth 20000 in
theorem m9_5_14 : Cond.classLink RX4 58 "java/lang/IndexOutOfBoundsException" ∈ lw_tbl := wsL_law_in0_5 _ (List.mem_of_getElem? (i := 14) rfl)
set_option maxRecDepth 20000 in
theorem m9_5_15 : Cond.initialized "java/lang/IndexOutOfBoundsException" ∈ lw_tbl := wsL_law_in0_5 _ (List.mem_of_getElem? (i := 15) rfl)
set_option maxRecDepth 20000 in
theorem m9_5_16 : Cond.methodLink RX4 85 yX0_hasArmy ∈ lw_tbl := wsL_law_in0_5 _ (List.mem_of_getElem? (i := 16) rfl)
set_option maxRecDepth 20000 in
theorem m9_5_17 : Cond.instanceMethod yX0_hasArmy ∈ lw_tbl := wsL_law_in0_5 _ (List.mem_of_getElem? (i := 17) rfl)
set_option maxRecDepth 20000 in
theorem m9_5_18 : Cond.selects RX0 yX0_hasArmy yX0_hasArmy ∈ lw_tbl := wsL_law_in0_5 _ (List.mem_of_getElem? (i := 18) rfl)
set_option maxRecDepth 20000 in
theorem m9_5_19 : Cond.code yX0_hasArmy cX0_hasArmy 2 (some .boolean) ∈ lw_tbl := wsL_law_in0_5 _ (List.mem_of_getElem? (i := 19) rfl)
set_option maxRecDepth 20000 in
theorem m9_5_20 : Cond.methodLink RX4 156 yX0_of ∈ lw_tbl := wsL_law_in0_5 _ (List.mem_of_getElem? (i := 20) rfl)
set_option maxRecDepth 20000 in
theorem m9_5_21 : Cond.methodLink RL 53 yX4_ifOpened ∈ lw_tbl := wsL_law_in0_5 _ (List.mem_of_getElem? (i := 21) rfl)
set_option maxRecDepth 20000 in
theorem m9_5_22 : Cond.instanceMethod yX4_ifOpened ∈ lw_tbl := wsL_law_in0_5 _ (List.mem_of_getElem? (i := 22) rfl)
set_option maxRecDepth 20000 in
theorem m9_5_23 : Cond.selects RX4 yX4_ifOpened yX4_ifOpened ∈ lw_tbl := wsL_law_in0_5 _ (List.mem_of_getElem? (i := 23) rfl)
set_option maxRecDepth 20000 in
theorem m9_6_0 : Cond.code yX4_ifOpened cX4_ifOpened 3 (some .int) ∈ lw_tbl := wsL_law_in0_6 _ (List.mem_of_getElem? (i := 0) rfl)
set_option maxRecDepth 20000 in
theorem m9_6_1 : Cond.methodLink RX4 111 yX2_study ∈ lw_tbl := wsL_law_in0_6 _ (List.mem_of_getElem? (i := 1) rfl)
set_option maxRecDepth 20000 in
theorem m9_6_2 : Cond.instanceMethod yX2_study ∈ lw_tbl := wsL_law_in0_6 _ (List.mem_of_getElem? (i := 2) rfl)
set_option maxRecDepth 20000 in
theorem m9_6_3 : Cond.selects RX2 yX2_study yX2_study ∈ lw_tbl := wsL_law_in0_6 _ (List.mem_of_getElem? (i := 3) rfl)
set_option maxRecDepth 20000 in
theorem m9_6_4 : Cond.code yX2_study cX2_study 1 none ∈ lw_tbl := wsL_law_in0_6 _ (List.mem_of_getElem? (i := 4) rfl)
set_option maxRecDepth 20000 in
theorem m9_6_5 : Cond.methodLink RX2 40 yX2_decideMoves ∈ lw_tbl := wsL_law_in0_6 _ (List.mem_of_getElem? (i := 5) rfl)
set_option maxRecDepth 20000 in
theorem m9_6_6 : Cond.instanceMethod yX2_decideMoves ∈ lw_tbl := wsL_law_in0_6 _ (List.mem_of_getElem? (i := 6) rfl)
set_option maxRecDepth 20000 in
theorem m9_6_7 : Cond.selects RX2 yX2_decideMoves yX2_decideMoves ∈ lw_tbl := wsL_law_in0_6 _ (List.mem_of_getElem? (i := 7) rfl)
set_option maxRecDepth 20000 in
theorem m9_6_8 : Cond.code yX2_decideMoves cX2_decideMoves 1 none ∈ lw_tbl := wsL_law_in0_6 _ (List.mem_of_getElem? (i := 8) rfl)
set_option maxRecDepth 20000 in
theorem m9_6_9 : Cond.methodLink RX2 49 yX2_judgeSupports ∈ lw_tbl := wsL_law_in0_6 _ (List.mem_of_getElem? (i := 9) rfl)
set_option maxRecDepth 20000 in
theorem m9_6_10 : Cond.instanceMethod yX2_judgeSupports ∈ lw_tbl := wsL_law_in0_6 _ (List.mem_of_getElem? (i := 10) rfl)
set_option maxRecDepth 20000 in
theorem m9_6_11 : Cond.selects RX2 yX2_judgeSupports yX2_judgeSupports ∈ lw_tbl := wsL_law_in0_6 _ (List.mem_of_getElem? (i := 11) rfl)
set_option maxRecDepth 20000 in
theorem m9_6_12 : Cond.code yX2_judgeSupports cX2_judgeSupports 5 none ∈ lw_tbl := wsL_law_in0_6 _ (List.mem_of_getElem? (i := 12) rfl)
set_option maxRecDepth 20000 in
theorem m9_6_13 : Cond.methodLink RX2 61 yX0_number ∈ lw_tbl := wsL_law_in0_6 _ (List.mem_of_getElem? (i := 13) rfl)
set_option maxRecDepth 20000 in
theorem m9_6_14 : Cond.methodLink RX2 65 yX0_of ∈ lw_tbl := wsL_law_in0_6 _ (List.mem_of_getElem? (i := 14) rfl)
set_option maxRecDepth 20000 in
theorem m9_6_15 : Cond.methodLink RX2 69 yX2_isCutOff ∈ lw_tbl := wsL_law_in0_6 _ (List.mem_of_getElem? (i := 15) rfl)
set_option maxRecDepth 20000 in
theorem m9_6_16 : Cond.instanceMethod yX2_isCutOff ∈ lw_tbl := wsL_law_in0_6 _ (List.mem_of_getElem? (i := 16) rfl)
set_option maxRecDepth 20000 in
theorem m9_6_17 : Cond.selects RX2 yX2_isCutOff yX2_isCutOff ∈ lw_tbl := wsL_law_in0_6 _ (List.mem_of_getElem? (i := 17) rfl)
set_option maxRecDepth 20000 in
theorem m9_6_18 : Cond.code yX2_isCutOff cX2_isCutOff 3 (some .boolean) ∈ lw_tbl := wsL_law_in0_6 _ (List.mem_of_getElem? (i := 18) rfl)
set_option maxRecDepth 20000 in
theorem m9_6_19 : Cond.methodLink RX2 80 yX2_moves ∈ lw_tbl := wsL_law_in0_6 _ (List.mem_of_getElem? (i := 19) rfl)
set_option maxRecDepth 20000 in
theorem m9_6_20 : Cond.instanceMethod yX2_moves ∈ lw_tbl := wsL_law_in0_6 _ (List.mem_of_getElem? (i := 20) rfl)
set_option maxRecDepth 20000 in
theorem m9_6_21 : Cond.selects RX2 yX2_moves yX2_moves ∈ lw_tbl := wsL_law_in0_6 _ (List.mem_of_getElem? (i := 21) rfl)
set_option maxRecDepth 20000 in
theorem m9_6_22 : Cond.code yX2_moves cX2_moves 2 (some .boolean) ∈ lw_tbl := wsL_law_in0_6 _ (List.mem_of_getElem? (i := 22) rfl)
set_option maxRecDepth 20000 in
theorem m9_6_23 : Cond.methodLink RX2 73 yX2_hasUse ∈ lw_tbl := wsL_law_in0_6 _ (List.mem_of_getElem? (i := 23) rfl)
set_option maxRecDepth 20000 in
theorem m9_7_0 : Cond.instanceMethod yX2_hasUse ∈ lw_tbl := wsL_law_in0_7 _ (List.mem_of_getElem? (i := 0) rfl)
set_option maxRecDepth 20000 in
theorem m9_7_1 : Cond.selects RX2 yX2_hasUse yX2_hasUse ∈ lw_tbl := wsL_law_in0_7 _ (List.mem_of_getElem? (i := 1) rfl)
set_option maxRecDepth 20000 in
theorem m9_7_2 : Cond.code yX2_hasUse cX2_hasUse 3 (some .boolean) ∈ lw_tbl := wsL_law_in0_7 _ (List.mem_of_getElem? (i := 2) rfl)
set_option maxRecDepth 20000 in
theorem m9_7_3 : Cond.methodLink RX2 83 yX0_armyOn ∈ lw_tbl := wsL_law_in0_7 _ (List.mem_of_getElem? (i := 3) rfl)
set_option maxRecDepth 20000 in
theorem m9_7_4 : Cond.instanceMethod yX0_armyOn ∈ lw_tbl := wsL_law_in0_7 _ (List.mem_of_getElem? (i := 4) rfl)
set_option maxRecDepth 20000 in
theorem m9_7_5 : Cond.selects RX0 yX0_armyOn yX0_armyOn ∈ lw_tbl := wsL_law_in0_7 _ (List.mem_of_getElem? (i := 5) rfl)
set_option maxRecDepth 20000 in
theorem m9_7_6 : Cond.code yX0_armyOn cX0_armyOn 3 (some .int) ∈ lw_tbl := wsL_law_in0_7 _ (List.mem_of_getElem? (i := 6) rfl)
set_option maxRecDepth 20000 in
theorem m9_7_7 : Cond.static yX4_enter ∈ lw_tbl := wsL_law_in0_7 _ (List.mem_of_getElem? (i := 7) rfl)
set_option maxRecDepth 20000 in
theorem m9_7_8 : Cond.code yX4_enter cX4_enter 3 none ∈ lw_tbl := wsL_law_in0_7 _ (List.mem_of_getElem? (i := 8) rfl)
set_option maxRecDepth 20000 in
theorem m9_7_9 : Cond.methodLink RX2 52 yX2_weighOrders ∈ lw_tbl := wsL_law_in0_7 _ (List.mem_of_getElem? (i := 9) rfl)
set_option maxRecDepth 20000 in
theorem m9_7_10 : Cond.instanceMethod yX2_weighOrders ∈ lw_tbl := wsL_law_in0_7 _ (List.mem_of_getElem? (i := 10) rfl)
set_option maxRecDepth 20000 in
theorem m9_7_11 : Cond.selects RX2 yX2_weighOrders yX2_weighOrders ∈ lw_tbl := wsL_law_in0_7 _ (List.mem_of_getElem? (i := 11) rfl)
set_option maxRecDepth 20000 in
theorem m9_7_12 : Cond.code yX2_weighOrders cX2_weighOrders 4 none ∈ lw_tbl := wsL_law_in0_7 _ (List.mem_of_getElem? (i := 12) rfl)
set_option maxRecDepth 20000 in
theorem m9_7_13 : Cond.methodLink RX2 86 yX2_supportsOf ∈ lw_tbl := wsL_law_in0_7 _ (List.mem_of_getElem? (i := 13) rfl)
set_option maxRecDepth 20000 in
theorem m9_7_14 : Cond.instanceMethod yX2_supportsOf ∈ lw_tbl := wsL_law_in0_7 _ (List.mem_of_getElem? (i := 14) rfl)
set_option maxRecDepth 20000 in
theorem m9_7_15 : Cond.selects RX2 yX2_supportsOf yX2_supportsOf ∈ lw_tbl := wsL_law_in0_7 _ (List.mem_of_getElem? (i := 15) rfl)
set_option maxRecDepth 20000 in
theorem m9_7_16 : Cond.code yX2_supportsOf cX2_supportsOf 6 (some .int) ∈ lw_tbl := wsL_law_in0_7 _ (List.mem_of_getElem? (i := 16) rfl)
set_option maxRecDepth 20000 in
theorem m9_7_17 : Cond.static yX4_entry ∈ lw_tbl := wsL_law_in0_7 _ (List.mem_of_getElem? (i := 17) rfl)
set_option maxRecDepth 20000 in
theorem m9_7_18 : Cond.code yX4_entry cX4_entry 2 (some .int) ∈ lw_tbl := wsL_law_in0_7 _ (List.mem_of_getElem? (i := 18) rfl)
set_option maxRecDepth 20000 in
theorem m9_7_19 : Cond.methodLink RX2 55 yX2_failAgainstMoves ∈ lw_tbl := wsL_law_in0_7 _ (List.mem_of_getElem? (i := 19) rfl)
set_option maxRecDepth 20000 in
theorem m9_7_20 : Cond.instanceMethod yX2_failAgainstMoves ∈ lw_tbl := wsL_law_in0_7 _ (List.mem_of_getElem? (i := 20) rfl)
set_option maxRecDepth 20000 in
theorem m9_7_21 : Cond.selects RX2 yX2_failAgainstMoves yX2_failAgainstMoves ∈ lw_tbl := wsL_law_in0_7 _ (List.mem_of_getElem? (i := 21) rfl)
set_option maxRecDepth 20000 in
theorem m9_7_22 : Cond.code yX2_failAgainstMoves cX2_failAgainstMoves 3 none ∈ lw_tbl := wsL_law_in0_7 _ (List.mem_of_getElem? (i := 22) rfl)
set_option maxRecDepth 20000 in
theorem m9_7_23 : Cond.methodLink RX2 93 yX2_hasRival ∈ lw_tbl := wsL_law_in0_7 _ (List.mem_of_getElem? (i := 23) rfl)
set_option maxRecDepth 20000 in
theorem m9_8_0 : Cond.instanceMethod yX2_hasRival ∈ lw_tbl := wsL_law_in0_8 _ (List.mem_of_getElem? (i := 0) rfl)
set_option maxRecDepth 20000 in
theorem m9_8_1 : Cond.selects RX2 yX2_hasRival yX2_hasRival ∈ lw_tbl := wsL_law_in0_8 _ (List.mem_of_getElem? (i := 1) rfl)
set_option maxRecDepth 20000 in
theorem m9_8_2 : Cond.code yX2_hasRival cX2_hasRival 3 (some .boolean) ∈ lw_tbl := wsL_law_in0_8 _ (List.mem_of_getElem? (i := 2) rfl)
set_option maxRecDepth 20000 in
theorem m9_8_3 : Cond.methodLink RX2 96 yX2_losesSwap ∈ lw_tbl := wsL_law_in0_8 _ (List.mem_of_getElem? (i := 3) rfl)
set_option maxRecDepth 20000 in
theorem m9_8_4 : Cond.instanceMethod yX2_losesSwap ∈ lw_tbl := wsL_law_in0_8 _ (List.mem_of_getElem? (i := 4) rfl)
set_option maxRecDepth 20000 in
theorem m9_8_5 : Cond.selects RX2 yX2_losesSwap yX2_losesSwap ∈ lw_tbl := wsL_law_in0_8 _ (List.mem_of_getElem? (i := 5) rfl)
set_option maxRecDepth 20000 in
theorem m9_8_6 : Cond.code yX2_losesSwap cX2_losesSwap 3 (some .boolean) ∈ lw_tbl := wsL_law_in0_8 _ (List.mem_of_getElem? (i := 6) rfl)
set_option maxRecDepth 20000 in
theorem m9_8_7 : Cond.methodLink RX2 58 yX2_failAgainstArmies ∈ lw_tbl := wsL_law_in0_8 _ (List.mem_of_getElem? (i := 7) rfl)
set_option maxRecDepth 20000 in
theorem m9_8_8 : Cond.instanceMethod yX2_failAgainstArmies ∈ lw_tbl := wsL_law_in0_8 _ (List.mem_of_getElem? (i := 8) rfl)
set_option maxRecDepth 20000 in
theorem m9_8_9 : Cond.selects RX2 yX2_failAgainstArmies yX2_failAgainstArmies ∈ lw_tbl := wsL_law_in0_8 _ (List.mem_of_getElem? (i := 9) rfl)
set_option maxRecDepth 20000 in
theorem m9_8_10 : Cond.code yX2_failAgainstArmies cX2_failAgainstArmies 5 none ∈ lw_tbl := wsL_law_in0_8 _ (List.mem_of_getElem? (i := 10) rfl)
set_option maxRecDepth 20000 in
theorem m9_8_11 : Cond.methodLink RX2 99 yX2_goes ∈ lw_tbl := wsL_law_in0_8 _ (List.mem_of_getElem? (i := 11) rfl)
set_option maxRecDepth 20000 in
theorem m9_8_12 : Cond.instanceMethod yX2_goes ∈ lw_tbl := wsL_law_in0_8 _ (List.mem_of_getElem? (i := 12) rfl)
set_option maxRecDepth 20000 in
theorem m9_8_13 : Cond.selects RX2 yX2_goes yX2_goes ∈ lw_tbl := wsL_law_in0_8 _ (List.mem_of_getElem? (i := 13) rfl)
set_option maxRecDepth 20000 in
theorem m9_8_14 : Cond.code yX2_goes cX2_goes 2 (some .boolean) ∈ lw_tbl := wsL_law_in0_8 _ (List.mem_of_getElem? (i := 14) rfl)
set_option maxRecDepth 20000 in
theorem m9_8_15 : Cond.methodLink RX2 102 yX2_blockOf ∈ lw_tbl := wsL_law_in0_8 _ (List.mem_of_getElem? (i := 15) rfl)
set_option maxRecDepth 20000 in
theorem m9_8_16 : Cond.instanceMethod yX2_blockOf ∈ lw_tbl := wsL_law_in0_8 _ (List.mem_of_getElem? (i := 16) rfl)
set_option maxRecDepth 20000 in
theorem m9_8_17 : Cond.selects RX2 yX2_blockOf yX2_blockOf ∈ lw_tbl := wsL_law_in0_8 _ (List.mem_of_getElem? (i := 17) rfl)
set_option maxRecDepth 20000 in
theorem m9_8_18 : Cond.code yX2_blockOf cX2_blockOf 4 (some .int) ∈ lw_tbl := wsL_law_in0_8 _ (List.mem_of_getElem? (i := 18) rfl)
set_option maxRecDepth 20000 in
theorem m9_8_19 : Cond.methodLink RX2 43 yX2_comeToFields ∈ lw_tbl := wsL_law_in0_8 _ (List.mem_of_getElem? (i := 19) rfl)
set_option maxRecDepth 20000 in
theorem m9_8_20 : Cond.instanceMethod yX2_comeToFields ∈ lw_tbl := wsL_law_in0_8 _ (List.mem_of_getElem? (i := 20) rfl)
set_option maxRecDepth 20000 in
theorem m9_8_21 : Cond.selects RX2 yX2_comeToFields yX2_comeToFields ∈ lw_tbl := wsL_law_in0_8 _ (List.mem_of_getElem? (i := 21) rfl)
set_option maxRecDepth 20000 in
theorem m9_8_22 : Cond.code yX2_comeToFields cX2_comeToFields 4 none ∈ lw_tbl := wsL_law_in0_8 _ (List.mem_of_getElem? (i := 22) rfl)
set_option maxRecDepth 20000 in
theorem m9_8_23 : Cond.methodLink RX2 105 yX2_comerTo ∈ lw_tbl := wsL_law_in0_8 _ (List.mem_of_getElem? (i := 23) rfl)
set_option maxRecDepth 20000 in
theorem m9_9_0 : Cond.instanceMethod yX2_comerTo ∈ lw_tbl := wsL_law_in0_9 _ (List.mem_of_getElem? (i := 0) rfl)
set_option maxRecDepth 20000 in
theorem m9_9_1 : Cond.selects RX2 yX2_comerTo yX2_comerTo ∈ lw_tbl := wsL_law_in0_9 _ (List.mem_of_getElem? (i := 1) rfl)
set_option maxRecDepth 20000 in
theorem m9_9_2 : Cond.code yX2_comerTo cX2_comerTo 3 (some .int) ∈ lw_tbl := wsL_law_in0_9 _ (List.mem_of_getElem? (i := 2) rfl)
set_option maxRecDepth 20000 in
theorem m9_9_3 : Cond.methodLink RX2 46 yX2_retreatAll ∈ lw_tbl := wsL_law_in0_9 _ (List.mem_of_getElem? (i := 3) rfl)
set_option maxRecDepth 20000 in
theorem m9_9_4 : Cond.instanceMethod yX2_retreatAll ∈ lw_tbl := wsL_law_in0_9 _ (List.mem_of_getElem? (i := 4) rfl)
set_option maxRecDepth 20000 in
theorem m9_9_5 : Cond.selects RX2 yX2_retreatAll yX2_retreatAll ∈ lw_tbl := wsL_law_in0_9 _ (List.mem_of_getElem? (i := 5) rfl)
set_option maxRecDepth 20000 in
theorem m9_9_6 : Cond.code yX2_retreatAll cX2_retreatAll 3 none ∈ lw_tbl := wsL_law_in0_9 _ (List.mem_of_getElem? (i := 6) rfl)
set_option maxRecDepth 20000 in
theorem m9_9_7 : Cond.methodLink RX2 108 yX2_strongestDriven ∈ lw_tbl := wsL_law_in0_9 _ (List.mem_of_getElem? (i := 7) rfl)
set_option maxRecDepth 20000 in
theorem m9_9_8 : Cond.instanceMethod yX2_strongestDriven ∈ lw_tbl := wsL_law_in0_9 _ (List.mem_of_getElem? (i := 8) rfl)
set_option maxRecDepth 20000 in
theorem m9_9_9 : Cond.selects RX2 yX2_strongestDriven yX2_strongestDriven ∈ lw_tbl := wsL_law_in0_9 _ (List.mem_of_getElem? (i := 9) rfl)
set_option maxRecDepth 20000 in
theorem m9_9_10 : Cond.code yX2_strongestDriven cX2_strongestDriven 7 (some .int) ∈ lw_tbl := wsL_law_in0_9 _ (List.mem_of_getElem? (i := 10) rfl)
set_option maxRecDepth 20000 in
theorem m9_9_11 : Cond.methodLink RX2 112 yX2_retreatField ∈ lw_tbl := wsL_law_in0_9 _ (List.mem_of_getElem? (i := 11) rfl)
set_option maxRecDepth 20000 in
theorem m9_9_12 : Cond.instanceMethod yX2_retreatField ∈ lw_tbl := wsL_law_in0_9 _ (List.mem_of_getElem? (i := 12) rfl)
set_option maxRecDepth 20000 in
theorem m9_9_13 : Cond.selects RX2 yX2_retreatField yX2_retreatField ∈ lw_tbl := wsL_law_in0_9 _ (List.mem_of_getElem? (i := 13) rfl)
set_option maxRecDepth 20000 in
theorem m9_9_14 : Cond.code yX2_retreatField cX2_retreatField 4 (some .int) ∈ lw_tbl := wsL_law_in0_9 _ (List.mem_of_getElem? (i := 14) rfl)
set_option maxRecDepth 20000 in
theorem m9_9_15 : Cond.static yX4_areNeighbours ∈ lw_tbl := wsL_law_in0_9 _ (List.mem_of_getElem? (i := 15) rfl)
set_option maxRecDepth 20000 in
theorem m9_9_16 : Cond.code yX4_areNeighbours cX4_areNeighbours 3 (some .boolean) ∈ lw_tbl := wsL_law_in0_9 _ (List.mem_of_getElem? (i := 16) rfl)
set_option maxRecDepth 20000 in
theorem m9_9_17 : Cond.methodLink RX2 119 yX2_isTaken ∈ lw_tbl := wsL_law_in0_9 _ (List.mem_of_getElem? (i := 17) rfl)
set_option maxRecDepth 20000 in
theorem m9_9_18 : Cond.instanceMethod yX2_isTaken ∈ lw_tbl := wsL_law_in0_9 _ (List.mem_of_getElem? (i := 18) rfl)
set_option maxRecDepth 20000 in
theorem m9_9_19 : Cond.selects RX2 yX2_isTaken yX2_isTaken ∈ lw_tbl := wsL_law_in0_9 _ (List.mem_of_getElem? (i := 19) rfl)
set_option maxRecDepth 20000 in
theorem m9_9_20 : Cond.code yX2_isTaken cX2_isTaken 3 (some .boolean) ∈ lw_tbl := wsL_law_in0_9 _ (List.mem_of_getElem? (i := 20) rfl)
set_option maxRecDepth 20000 in
theorem m9_9_21 : Cond.methodLink RX2 122 yX2_wasFoughtFor ∈ lw_tbl := wsL_law_in0_9 _ (List.mem_of_getElem? (i := 21) rfl)
set_option maxRecDepth 20000 in
theorem m9_9_22 : Cond.instanceMethod yX2_wasFoughtFor ∈ lw_tbl := wsL_law_in0_9 _ (List.mem_of_getElem? (i := 22) rfl)
set_option maxRecDepth 20000 in
theorem m9_9_23 : Cond.selects RX2 yX2_wasFoughtFor yX2_wasFoughtFor ∈ lw_tbl := wsL_law_in0_9 _ (List.mem_of_getElem? (i := 23) rfl)
set_option maxRecDepth 20000 in
theorem m9_10_0 : Cond.code yX2_wasFoughtFor cX2_wasFoughtFor 3 (some .boolean) ∈ lw_tbl := wsL_law_in0_10 _ (List.mem_of_getElem? (i := 0) rfl)
set_option maxRecDepth 20000 in
theorem m9_10_1 : Cond.methodLink RX4 178 yX2_outcome ∈ lw_tbl := wsL_law_in0_10 _ (List.mem_of_getElem? (i := 1) rfl)
set_option maxRecDepth 20000 in
theorem m9_10_2 : Cond.instanceMethod yX2_outcome ∈ lw_tbl := wsL_law_in0_10 _ (List.mem_of_getElem? (i := 2) rfl)
set_option maxRecDepth 20000 in
theorem m9_10_3 : Cond.selects RX2 yX2_outcome yX2_outcome ∈ lw_tbl := wsL_law_in0_10 _ (List.mem_of_getElem? (i := 3) rfl)
set_option maxRecDepth 20000 in
theorem m9_10_4 : Cond.code yX2_outcome cX2_outcome 3 (some .int) ∈ lw_tbl := wsL_law_in0_10 _ (List.mem_of_getElem? (i := 4) rfl)
set_option maxRecDepth 20000 in
theorem m9_10_5 : Cond.methodLink RL 27 yX4_field ∈ lw_tbl := wsL_law_in0_10 _ (List.mem_of_getElem? (i := 5) rfl)
set_option maxRecDepth 20000 in
theorem m9_10_6 : Cond.instanceMethod yX4_field ∈ lw_tbl := wsL_law_in0_10 _ (List.mem_of_getElem? (i := 6) rfl)
set_option maxRecDepth 20000 in
theorem m9_10_7 : Cond.selects RX4 yX4_field yX4_field ∈ lw_tbl := wsL_law_in0_10 _ (List.mem_of_getElem? (i := 7) rfl)
set_option maxRecDepth 20000 in
theorem m9_10_8 : Cond.code yX4_field cX4_field 3 (some .int) ∈ lw_tbl := wsL_law_in0_10 _ (List.mem_of_getElem? (i := 8) rfl)
set_option maxRecDepth 20000 in
theorem m9_10_9 : Cond.methodLink RX4 55 yX4_isField ∈ lw_tbl := wsL_law_in0_10 _ (List.mem_of_getElem? (i := 9) rfl)
set_option maxRecDepth 20000 in
theorem m9_10_10 : Cond.static yX4_isField ∈ lw_tbl := wsL_law_in0_10 _ (List.mem_of_getElem? (i := 10) rfl)
set_option maxRecDepth 20000 in
theorem m9_10_11 : Cond.code yX4_isField cX4_isField 1 (some .boolean) ∈ lw_tbl := wsL_law_in0_10 _ (List.mem_of_getElem? (i := 11) rfl)
set_option maxRecDepth 20000 in
theorem m9_10_12 : Cond.methodLink RX4 163 yX4_fieldNumber ∈ lw_tbl := wsL_law_in0_10 _ (List.mem_of_getElem? (i := 12) rfl)
set_option maxRecDepth 20000 in
theorem m9_10_13 : Cond.instanceMethod yX4_fieldNumber ∈ lw_tbl := wsL_law_in0_10 _ (List.mem_of_getElem? (i := 13) rfl)
set_option maxRecDepth 20000 in
theorem m9_10_14 : Cond.selects RX4 yX4_fieldNumber yX4_fieldNumber ∈ lw_tbl := wsL_law_in0_10 _ (List.mem_of_getElem? (i := 14) rfl)
set_option maxRecDepth 20000 in
theorem m9_10_15 : Cond.code yX4_fieldNumber cX4_fieldNumber 3 (some .int) ∈ lw_tbl := wsL_law_in0_10 _ (List.mem_of_getElem? (i := 15) rfl)
set_option maxRecDepth 20000 in
theorem m9_10_16 : Cond.methodLink RX4 65 yX0_armyOn ∈ lw_tbl := wsL_law_in0_10 _ (List.mem_of_getElem? (i := 16) rfl)
set_option maxRecDepth 20000 in
theorem m9_10_17 : Cond.methodLink RX4 239 yX4_isCentre ∈ lw_tbl := wsL_law_in0_10 _ (List.mem_of_getElem? (i := 17) rfl)
set_option maxRecDepth 20000 in
theorem m9_10_18 : Cond.static yX4_isCentre ∈ lw_tbl := wsL_law_in0_10 _ (List.mem_of_getElem? (i := 18) rfl)
set_option maxRecDepth 20000 in
theorem m9_10_19 : Cond.code yX4_isCentre cX4_isCentre 1 (some .boolean) ∈ lw_tbl := wsL_law_in0_10 _ (List.mem_of_getElem? (i := 19) rfl)
set_option maxRecDepth 20000 in
theorem m9_10_20 : Cond.methodLink RX4 242 yX0_owner ∈ lw_tbl := wsL_law_in0_10 _ (List.mem_of_getElem? (i := 20) rfl)
set_option maxRecDepth 20000 in
theorem m9_10_21 : Cond.instanceMethod yX0_owner ∈ lw_tbl := wsL_law_in0_10 _ (List.mem_of_getElem? (i := 21) rfl)
set_option maxRecDepth 20000 in
theorem m9_10_22 : Cond.selects RX0 yX0_owner yX0_owner ∈ lw_tbl := wsL_law_in0_10 _ (List.mem_of_getElem? (i := 22) rfl)
set_option maxRecDepth 20000 in
theorem m9_10_23 : Cond.code yX0_owner cX0_owner 2 (some .int) ∈ lw_tbl := wsL_law_in0_10 _ (List.mem_of_getElem? (i := 23) rfl)
set_option maxRecDepth 20000 in
theorem m9_11_0 : Cond.methodLink RX4 245 yX0_seatsSeeing ∈ lw_tbl := wsL_law_in0_11 _ (List.mem_of_getElem? (i := 0) rfl)
set_option maxRecDepth 20000 in
theorem m9_11_1 : Cond.instanceMethod yX0_seatsSeeing ∈ lw_tbl := wsL_law_in0_11 _ (List.mem_of_getElem? (i := 1) rfl)
set_option maxRecDepth 20000 in
theorem m9_11_2 : Cond.selects RX0 yX0_seatsSeeing yX0_seatsSeeing ∈ lw_tbl := wsL_law_in0_11 _ (List.mem_of_getElem? (i := 2) rfl)
set_option maxRecDepth 20000 in
theorem m9_11_3 : Cond.code yX0_seatsSeeing cX0_seatsSeeing 5 (some .int) ∈ lw_tbl := wsL_law_in0_11 _ (List.mem_of_getElem? (i := 3) rfl)
set_option maxRecDepth 20000 in
theorem m9_11_4 : Cond.methodLink RX4 248 yX4_neighbourMask ∈ lw_tbl := wsL_law_in0_11 _ (List.mem_of_getElem? (i := 4) rfl)
set_option maxRecDepth 20000 in
theorem m9_11_5 : Cond.static yX4_neighbourMask ∈ lw_tbl := wsL_law_in0_11 _ (List.mem_of_getElem? (i := 5) rfl)
set_option maxRecDepth 20000 in
theorem m9_11_6 : Cond.code yX4_neighbourMask cX4_neighbourMask 3 (some .int) ∈ lw_tbl := wsL_law_in0_11 _ (List.mem_of_getElem? (i := 6) rfl)
set_option maxRecDepth 20000 in
theorem m9_11_7 : Cond.methodLink RX4 283 yX4_areNeighbours ∈ lw_tbl := wsL_law_in0_11 _ (List.mem_of_getElem? (i := 7) rfl)
set_option maxRecDepth 20000 in
theorem m9_11_8 : Cond.methodLink RL 63 yX4_canReach ∈ lw_tbl := wsL_law_in0_11 _ (List.mem_of_getElem? (i := 8) rfl)
set_option maxRecDepth 20000 in
theorem m9_11_9 : Cond.instanceMethod yX4_canReach ∈ lw_tbl := wsL_law_in0_11 _ (List.mem_of_getElem? (i := 9) rfl)
set_option maxRecDepth 20000 in
theorem m9_11_10 : Cond.selects RX4 yX4_canReach yX4_canReach ∈ lw_tbl := wsL_law_in0_11 _ (List.mem_of_getElem? (i := 10) rfl)
set_option maxRecDepth 20000 in
theorem m9_11_11 : Cond.code yX4_canReach cX4_canReach 2 (some .int) ∈ lw_tbl := wsL_law_in0_11 _ (List.mem_of_getElem? (i := 11) rfl)
set_option maxRecDepth 20000 in
theorem m9_11_12 : Cond.methodLink RX4 181 yX4_reachMask ∈ lw_tbl := wsL_law_in0_11 _ (List.mem_of_getElem? (i := 12) rfl)
set_option maxRecDepth 20000 in
theorem m9_11_13 : Cond.instanceMethod yX4_reachMask ∈ lw_tbl := wsL_law_in0_11 _ (List.mem_of_getElem? (i := 13) rfl)
set_option maxRecDepth 20000 in
theorem m9_11_14 : Cond.selects RX4 yX4_reachMask yX4_reachMask ∈ lw_tbl := wsL_law_in0_11 _ (List.mem_of_getElem? (i := 14) rfl)
set_option maxRecDepth 20000 in
theorem m9_11_15 : Cond.code yX4_reachMask cX4_reachMask 4 (some .int) ∈ lw_tbl := wsL_law_in0_11 _ (List.mem_of_getElem? (i := 15) rfl)
set_option maxRecDepth 20000 in
theorem m9_11_16 : Cond.methodLink RX4 149 yX0_copyFrom ∈ lw_tbl := wsL_law_in0_11 _ (List.mem_of_getElem? (i := 16) rfl)
set_option maxRecDepth 20000 in
theorem m9_11_17 : Cond.instanceMethod yX0_copyFrom ∈ lw_tbl := wsL_law_in0_11 _ (List.mem_of_getElem? (i := 17) rfl)
set_option maxRecDepth 20000 in
theorem m9_11_18 : Cond.selects RX0 yX0_copyFrom yX0_copyFrom ∈ lw_tbl := wsL_law_in0_11 _ (List.mem_of_getElem? (i := 18) rfl)
set_option maxRecDepth 20000 in
theorem m9_11_19 : Cond.code yX0_copyFrom cX0_copyFrom 2 none ∈ lw_tbl := wsL_law_in0_11 _ (List.mem_of_getElem? (i := 19) rfl)
set_option maxRecDepth 20000 in
theorem m9_11_20 : Cond.methodLink RX0 27 arraycopyName ∈ lw_tbl := wsL_law_in0_11 _ (List.mem_of_getElem? (i := 20) rfl)
set_option maxRecDepth 20000 in
theorem m9_11_21 : Cond.native arraycopyName ∈ lw_tbl := wsL_law_in0_11 _ (List.mem_of_getElem? (i := 21) rfl)
set_option maxRecDepth 20000 in
theorem m9_11_22 : Cond.static arraycopyName ∈ lw_tbl := wsL_law_in0_11 _ (List.mem_of_getElem? (i := 22) rfl)
set_option maxRecDepth 20000 in
theorem m9_11_23 : Cond.initialized "java/lang/System" ∈ lw_tbl := wsL_law_in0_11 _ (List.mem_of_getElem? (i := 23) rfl)
set_option maxRecDepth 20000 in
theorem m9_12_0 : Cond.methodLink RX4 100 yX0_canBeGiven ∈ lw_tbl := wsL_law_in0_12 _ (List.mem_of_getElem? (i := 0) rfl)
set_option maxRecDepth 20000 in
theorem m9_12_1 : Cond.instanceMethod yX0_canBeGiven ∈ lw_tbl := wsL_law_in0_12 _ (List.mem_of_getElem? (i := 1) rfl)
set_option maxRecDepth 20000 in
theorem m9_12_2 : Cond.selects RX0 yX0_canBeGiven yX0_canBeGiven ∈ lw_tbl := wsL_law_in0_12 _ (List.mem_of_getElem? (i := 2) rfl)
set_option maxRecDepth 20000 in
theorem m9_12_3 : Cond.code yX0_canBeGiven cX0_canBeGiven 5 (some .boolean) ∈ lw_tbl := wsL_law_in0_12 _ (List.mem_of_getElem? (i := 3) rfl)
set_option maxRecDepth 20000 in
theorem m9_12_4 : Cond.methodLink RX0 49 yX0_hasArmy ∈ lw_tbl := wsL_law_in0_12 _ (List.mem_of_getElem? (i := 4) rfl)
set_option maxRecDepth 20000 in
theorem m9_12_5 : Cond.methodLink RX4 94 yX0_give ∈ lw_tbl := wsL_law_in0_12 _ (List.mem_of_getElem? (i := 5) rfl)
set_option maxRecDepth 20000 in
theorem m9_12_6 : Cond.instanceMethod yX0_give ∈ lw_tbl := wsL_law_in0_12 _ (List.mem_of_getElem? (i := 6) rfl)
set_option maxRecDepth 20000 in
theorem m9_12_7 : Cond.selects RX0 yX0_give yX0_give ∈ lw_tbl := wsL_law_in0_12 _ (List.mem_of_getElem? (i := 7) rfl)
set_option maxRecDepth 20000 in
theorem m9_12_8 : Cond.code yX0_give cX0_give 6 (some .int) ∈ lw_tbl := wsL_law_in0_12 _ (List.mem_of_getElem? (i := 8) rfl)
set_option maxRecDepth 20000 in
theorem m9_12_9 : Cond.methodLink RX0 45 yX0_put ∈ lw_tbl := wsL_law_in0_12 _ (List.mem_of_getElem? (i := 9) rfl)
set_option maxRecDepth 20000 in
theorem m9_12_10 : Cond.instanceMethod yX0_put ∈ lw_tbl := wsL_law_in0_12 _ (List.mem_of_getElem? (i := 10) rfl)
set_option maxRecDepth 20000 in
theorem m9_12_11 : Cond.selects RX0 yX0_put yX0_put ∈ lw_tbl := wsL_law_in0_12 _ (List.mem_of_getElem? (i := 11) rfl)
set_option maxRecDepth 20000 in
theorem m9_12_12 : Cond.code yX0_put cX0_put 5 none ∈ lw_tbl := wsL_law_in0_12 _ (List.mem_of_getElem? (i := 12) rfl)
set_option maxRecDepth 20000 in
theorem m9_12_13 : Cond.methodLink RX4 269 yX2_decideMoves ∈ lw_tbl := wsL_law_in0_12 _ (List.mem_of_getElem? (i := 13) rfl)
set_option maxRecDepth 20000 in
theorem m9_12_14 : Cond.methodLink RX4 272 yX2_goes ∈ lw_tbl := wsL_law_in0_12 _ (List.mem_of_getElem? (i := 14) rfl)
set_option maxRecDepth 20000 in
theorem m9_12_15 : Cond.methodLink RL 66 yL_succeeds ∈ lw_tbl := wsL_law_in0_12 _ (List.mem_of_getElem? (i := 15) rfl)
set_option maxRecDepth 20000 in
theorem m9_12_16 : Cond.static yL_succeeds ∈ lw_tbl := wsL_law_in0_12 _ (List.mem_of_getElem? (i := 16) rfl)
set_option maxRecDepth 20000 in
theorem m9_12_17 : Cond.code yL_succeeds cL_succeeds 7 (some .boolean) ∈ lw_tbl := wsL_law_in0_12 _ (List.mem_of_getElem? (i := 17) rfl)
set_option maxRecDepth 20000 in
theorem m9_12_18 : Cond.methodLink RL 60 yX4_seat ∈ lw_tbl := wsL_law_in0_12 _ (List.mem_of_getElem? (i := 18) rfl)
set_option maxRecDepth 20000 in
theorem m9_12_19 : Cond.instanceMethod yX4_seat ∈ lw_tbl := wsL_law_in0_12 _ (List.mem_of_getElem? (i := 19) rfl)
set_option maxRecDepth 20000 in
theorem m9_12_20 : Cond.selects RX4 yX4_seat yX4_seat ∈ lw_tbl := wsL_law_in0_12 _ (List.mem_of_getElem? (i := 20) rfl)
set_option maxRecDepth 20000 in
theorem m9_12_21 : Cond.code yX4_seat cX4_seat 3 (some .int) ∈ lw_tbl := wsL_law_in0_12 _ (List.mem_of_getElem? (i := 21) rfl)
set_option maxRecDepth 20000 in
theorem m9_12_22 : Cond.methodLink RX4 51 yX4_isSeat ∈ lw_tbl := wsL_law_in0_12 _ (List.mem_of_getElem? (i := 22) rfl)
set_option maxRecDepth 20000 in
theorem m9_12_23 : Cond.static yX4_isSeat ∈ lw_tbl := wsL_law_in0_12 _ (List.mem_of_getElem? (i := 23) rfl)
set_option maxRecDepth 20000 in
theorem m9_13_0 : Cond.code yX4_isSeat cX4_isSeat 1 (some .boolean) ∈ lw_tbl := wsL_law_in0_13 _ (List.mem_of_getElem? (i := 0) rfl)
set_option maxRecDepth 20000 in
theorem m9_13_1 : Cond.methodLink RX4 168 yX4_seatNumber ∈ lw_tbl := wsL_law_in0_13 _ (List.mem_of_getElem? (i := 1) rfl)
set_option maxRecDepth 20000 in
theorem m9_13_2 : Cond.instanceMethod yX4_seatNumber ∈ lw_tbl := wsL_law_in0_13 _ (List.mem_of_getElem? (i := 2) rfl)
set_option maxRecDepth 20000 in
theorem m9_13_3 : Cond.selects RX4 yX4_seatNumber yX4_seatNumber ∈ lw_tbl := wsL_law_in0_13 _ (List.mem_of_getElem? (i := 3) rfl)
set_option maxRecDepth 20000 in
theorem m9_13_4 : Cond.code yX4_seatNumber cX4_seatNumber 3 (some .int) ∈ lw_tbl := wsL_law_in0_13 _ (List.mem_of_getElem? (i := 4) rfl)
set_option maxRecDepth 20000 in
theorem m9_13_5 : Cond.methodLink RX4 251 yX0_armiesOf ∈ lw_tbl := wsL_law_in0_13 _ (List.mem_of_getElem? (i := 5) rfl)
set_option maxRecDepth 20000 in
theorem m9_13_6 : Cond.instanceMethod yX0_armiesOf ∈ lw_tbl := wsL_law_in0_13 _ (List.mem_of_getElem? (i := 6) rfl)
set_option maxRecDepth 20000 in
theorem m9_13_7 : Cond.selects RX0 yX0_armiesOf yX0_armiesOf ∈ lw_tbl := wsL_law_in0_13 _ (List.mem_of_getElem? (i := 7) rfl)
set_option maxRecDepth 20000 in
theorem m9_13_8 : Cond.code yX0_armiesOf cX0_armiesOf 4 (some .int) ∈ lw_tbl := wsL_law_in0_13 _ (List.mem_of_getElem? (i := 8) rfl)
set_option maxRecDepth 20000 in
theorem m9_13_9 : Cond.methodLink RX4 254 yX0_centresOf ∈ lw_tbl := wsL_law_in0_13 _ (List.mem_of_getElem? (i := 9) rfl)
set_option maxRecDepth 20000 in
theorem m9_13_10 : Cond.instanceMethod yX0_centresOf ∈ lw_tbl := wsL_law_in0_13 _ (List.mem_of_getElem? (i := 10) rfl)
set_option maxRecDepth 20000 in
theorem m9_13_11 : Cond.selects RX0 yX0_centresOf yX0_centresOf ∈ lw_tbl := wsL_law_in0_13 _ (List.mem_of_getElem? (i := 11) rfl)
set_option maxRecDepth 20000 in
theorem m9_13_12 : Cond.code yX0_centresOf cX0_centresOf 4 (some .int) ∈ lw_tbl := wsL_law_in0_13 _ (List.mem_of_getElem? (i := 12) rfl)
set_option maxRecDepth 20000 in
theorem m9_13_13 : Cond.methodLink RX0 57 yX0_owner ∈ lw_tbl := wsL_law_in0_13 _ (List.mem_of_getElem? (i := 13) rfl)
set_option maxRecDepth 20000 in
theorem m9_13_14 : Cond.methodLink RX4 257 yX0_seenMask ∈ lw_tbl := wsL_law_in0_13 _ (List.mem_of_getElem? (i := 14) rfl)
set_option maxRecDepth 20000 in
theorem m9_13_15 : Cond.instanceMethod yX0_seenMask ∈ lw_tbl := wsL_law_in0_13 _ (List.mem_of_getElem? (i := 15) rfl)
set_option maxRecDepth 20000 in
theorem m9_13_16 : Cond.selects RX0 yX0_seenMask yX0_seenMask ∈ lw_tbl := wsL_law_in0_13 _ (List.mem_of_getElem? (i := 16) rfl)
set_option maxRecDepth 20000 in
theorem m9_13_17 : Cond.code yX0_seenMask cX0_seenMask 4 (some .int) ∈ lw_tbl := wsL_law_in0_13 _ (List.mem_of_getElem? (i := 17) rfl)
set_option maxRecDepth 20000 in
theorem m9_13_18 : Cond.methodLink RX4 260 yX0_lowestFieldOf ∈ lw_tbl := wsL_law_in0_13 _ (List.mem_of_getElem? (i := 18) rfl)
set_option maxRecDepth 20000 in
theorem m9_13_19 : Cond.instanceMethod yX0_lowestFieldOf ∈ lw_tbl := wsL_law_in0_13 _ (List.mem_of_getElem? (i := 19) rfl)
set_option maxRecDepth 20000 in
theorem m9_13_20 : Cond.selects RX0 yX0_lowestFieldOf yX0_lowestFieldOf ∈ lw_tbl := wsL_law_in0_13 _ (List.mem_of_getElem? (i := 20) rfl)
set_option maxRecDepth 20000 in
theorem m9_13_21 : Cond.code yX0_lowestFieldOf cX0_lowestFieldOf 5 (some .int) ∈ lw_tbl := wsL_law_in0_13 _ (List.mem_of_getElem? (i := 21) rfl)
set_option maxRecDepth 20000 in
theorem m9_13_22 : Cond.methodLink RX4 263 yX0_othersSeen ∈ lw_tbl := wsL_law_in0_13 _ (List.mem_of_getElem? (i := 22) rfl)
set_option maxRecDepth 20000 in
theorem m9_13_23 : Cond.instanceMethod yX0_othersSeen ∈ lw_tbl := wsL_law_in0_13 _ (List.mem_of_getElem? (i := 23) rfl)
set_option maxRecDepth 20000 in
theorem m9_14_0 : Cond.selects RX0 yX0_othersSeen yX0_othersSeen ∈ lw_tbl := wsL_law_in0_14 _ (List.mem_of_getElem? (i := 0) rfl)
set_option maxRecDepth 20000 in
theorem m9_14_1 : Cond.code yX0_othersSeen cX0_othersSeen 6 (some .int) ∈ lw_tbl := wsL_law_in0_14 _ (List.mem_of_getElem? (i := 1) rfl)
set_option maxRecDepth 20000 in
theorem m9_14_2 : Cond.methodLink RX0 63 yX0_seenMask ∈ lw_tbl := wsL_law_in0_14 _ (List.mem_of_getElem? (i := 2) rfl)
set_option maxRecDepth 20000 in
theorem m9_14_3 : Cond.methodLink RL 74 yX4_danger ∈ lw_tbl := wsL_law_in0_14 _ (List.mem_of_getElem? (i := 3) rfl)
set_option maxRecDepth 20000 in
theorem m9_14_4 : Cond.instanceMethod yX4_danger ∈ lw_tbl := wsL_law_in0_14 _ (List.mem_of_getElem? (i := 4) rfl)
set_option maxRecDepth 20000 in
theorem m9_14_5 : Cond.selects RX4 yX4_danger yX4_danger ∈ lw_tbl := wsL_law_in0_14 _ (List.mem_of_getElem? (i := 5) rfl)
set_option maxRecDepth 20000 in
theorem m9_14_6 : Cond.code yX4_danger cX4_danger 1 (some .int) ∈ lw_tbl := wsL_law_in0_14 _ (List.mem_of_getElem? (i := 6) rfl)
set_option maxRecDepth 20000 in
theorem m9_14_7 : Cond.methodLink RX4 184 yX2_mostInDanger ∈ lw_tbl := wsL_law_in0_14 _ (List.mem_of_getElem? (i := 7) rfl)
set_option maxRecDepth 20000 in
theorem m9_14_8 : Cond.instanceMethod yX2_mostInDanger ∈ lw_tbl := wsL_law_in0_14 _ (List.mem_of_getElem? (i := 8) rfl)
set_option maxRecDepth 20000 in
theorem m9_14_9 : Cond.selects RX2 yX2_mostInDanger yX2_mostInDanger ∈ lw_tbl := wsL_law_in0_14 _ (List.mem_of_getElem? (i := 9) rfl)
set_option maxRecDepth 20000 in
theorem m9_14_10 : Cond.code yX2_mostInDanger cX2_mostInDanger 1 (some .int) ∈ lw_tbl := wsL_law_in0_14 _ (List.mem_of_getElem? (i := 10) rfl)
set_option maxRecDepth 20000 in
theorem m9_14_11 : Cond.methodLink RL 77 yX4_success ∈ lw_tbl := wsL_law_in0_14 _ (List.mem_of_getElem? (i := 11) rfl)
set_option maxRecDepth 20000 in
theorem m9_14_12 : Cond.instanceMethod yX4_success ∈ lw_tbl := wsL_law_in0_14 _ (List.mem_of_getElem? (i := 12) rfl)
set_option maxRecDepth 20000 in
theorem m9_14_13 : Cond.selects RX4 yX4_success yX4_success ∈ lw_tbl := wsL_law_in0_14 _ (List.mem_of_getElem? (i := 13) rfl)
set_option maxRecDepth 20000 in
theorem m9_14_14 : Cond.code yX4_success cX4_success 1 (some .double) ∈ lw_tbl := wsL_law_in0_14 _ (List.mem_of_getElem? (i := 14) rfl)
set_option maxRecDepth 20000 in
theorem m9_14_15 : Cond.methodLink RX4 190 yX4_successShare ∈ lw_tbl := wsL_law_in0_14 _ (List.mem_of_getElem? (i := 15) rfl)
set_option maxRecDepth 20000 in
theorem m9_14_16 : Cond.instanceMethod yX4_successShare ∈ lw_tbl := wsL_law_in0_14 _ (List.mem_of_getElem? (i := 16) rfl)
set_option maxRecDepth 20000 in
theorem m9_14_17 : Cond.selects RX4 yX4_successShare yX4_successShare ∈ lw_tbl := wsL_law_in0_14 _ (List.mem_of_getElem? (i := 17) rfl)
set_option maxRecDepth 20000 in
theorem m9_14_18 : Cond.code yX4_successShare cX4_successShare 3 (some .double) ∈ lw_tbl := wsL_law_in0_14 _ (List.mem_of_getElem? (i := 18) rfl)
set_option maxRecDepth 20000 in
theorem m9_14_19 : Cond.methodLink RL 85 yX4_keep ∈ lw_tbl := wsL_law_in0_14 _ (List.mem_of_getElem? (i := 19) rfl)
set_option maxRecDepth 20000 in
theorem m9_14_20 : Cond.instanceMethod yX4_keep ∈ lw_tbl := wsL_law_in0_14 _ (List.mem_of_getElem? (i := 20) rfl)
set_option maxRecDepth 20000 in
theorem m9_14_21 : Cond.selects RX4 yX4_keep yX4_keep ∈ lw_tbl := wsL_law_in0_14 _ (List.mem_of_getElem? (i := 21) rfl)
set_option maxRecDepth 20000 in
theorem m9_14_22 : Cond.code yX4_keep cX4_keep 1 (some .int) ∈ lw_tbl := wsL_law_in0_14 _ (List.mem_of_getElem? (i := 22) rfl)
set_option maxRecDepth 20000 in
theorem m9_14_23 : Cond.methodLink RL 88 yL_cell ∈ lw_tbl := wsL_law_in0_14 _ (List.mem_of_getElem? (i := 23) rfl)
set_option maxRecDepth 20000 in
theorem m9_15_0 : Cond.static yL_cell ∈ lw_tbl := wsL_law_in0_15 _ (List.mem_of_getElem? (i := 0) rfl)
set_option maxRecDepth 20000 in
theorem m9_15_1 : Cond.code yL_cell cL_cell 2 (some .int) ∈ lw_tbl := wsL_law_in0_15 _ (List.mem_of_getElem? (i := 1) rfl)
set_option maxRecDepth 20000 in
theorem m9_15_2 : Cond.constant RL 7 (40503) ∈ lw_tbl := wsL_law_in0_15 _ (List.mem_of_getElem? (i := 2) rfl)
set_option maxRecDepth 20000 in
theorem m9_15_3 : Cond.methodLink RL 92 yL_change ∈ lw_tbl := wsL_law_in0_15 _ (List.mem_of_getElem? (i := 3) rfl)
set_option maxRecDepth 20000 in
theorem m9_15_4 : Cond.static yL_change ∈ lw_tbl := wsL_law_in0_15 _ (List.mem_of_getElem? (i := 4) rfl)
set_option maxRecDepth 20000 in
theorem m9_15_5 : Cond.code yL_change cL_change 10 (some .boolean) ∈ lw_tbl := wsL_law_in0_15 _ (List.mem_of_getElem? (i := 5) rfl)
set_option maxRecDepth 20000 in
theorem m9_15_6 : Cond.methodLink RL 15 yL_low ∈ lw_tbl := wsL_law_in0_15 _ (List.mem_of_getElem? (i := 6) rfl)
set_option maxRecDepth 20000 in
theorem m9_15_7 : Cond.static yL_low ∈ lw_tbl := wsL_law_in0_15 _ (List.mem_of_getElem? (i := 7) rfl)
set_option maxRecDepth 20000 in
theorem m9_15_8 : Cond.code yL_low cL_low 2 (some .int) ∈ lw_tbl := wsL_law_in0_15 _ (List.mem_of_getElem? (i := 8) rfl)
set_option maxRecDepth 20000 in
theorem m9_15_9 : Cond.constant RL 8 (2147483647) ∈ lw_tbl := wsL_law_in0_15 _ (List.mem_of_getElem? (i := 9) rfl)
set_option maxRecDepth 20000 in
theorem m9_15_10 : Cond.methodLink RL 24 yL_beside ∈ lw_tbl := wsL_law_in0_15 _ (List.mem_of_getElem? (i := 10) rfl)
set_option maxRecDepth 20000 in
theorem m9_15_11 : Cond.static yL_beside ∈ lw_tbl := wsL_law_in0_15 _ (List.mem_of_getElem? (i := 11) rfl)
set_option maxRecDepth 20000 in
theorem m9_15_12 : Cond.code yL_beside cL_beside 3 (some .int) ∈ lw_tbl := wsL_law_in0_15 _ (List.mem_of_getElem? (i := 12) rfl)
set_option maxRecDepth 20000 in
theorem m9_15_13 : Cond.methodLink RL 30 yX4_army ∈ lw_tbl := wsL_law_in0_15 _ (List.mem_of_getElem? (i := 13) rfl)
set_option maxRecDepth 20000 in
theorem m9_15_14 : Cond.instanceMethod yX4_army ∈ lw_tbl := wsL_law_in0_15 _ (List.mem_of_getElem? (i := 14) rfl)
set_option maxRecDepth 20000 in
theorem m9_15_15 : Cond.selects RX4 yX4_army yX4_army ∈ lw_tbl := wsL_law_in0_15 _ (List.mem_of_getElem? (i := 15) rfl)
set_option maxRecDepth 20000 in
theorem m9_15_16 : Cond.code yX4_army cX4_army 3 (some .int) ∈ lw_tbl := wsL_law_in0_15 _ (List.mem_of_getElem? (i := 16) rfl)
set_option maxRecDepth 20000 in
theorem m9_15_17 : Cond.classLink RX4 72 "java/lang/IllegalStateException" ∈ lw_tbl := wsL_law_in0_15 _ (List.mem_of_getElem? (i := 17) rfl)
set_option maxRecDepth 20000 in
theorem m9_15_18 : Cond.initialized "java/lang/IllegalStateException" ∈ lw_tbl := wsL_law_in0_15 _ (List.mem_of_getElem? (i := 18) rfl)
set_option maxRecDepth 20000 in
theorem m9_15_19 : Cond.methodLink RX4 77 yX1_save ∈ lw_tbl := wsL_law_in0_15 _ (List.mem_of_getElem? (i := 19) rfl)
set_option maxRecDepth 20000 in
theorem m9_15_20 : Cond.instanceMethod yX1_save ∈ lw_tbl := wsL_law_in0_15 _ (List.mem_of_getElem? (i := 20) rfl)
set_option maxRecDepth 20000 in
theorem m9_15_21 : Cond.selects RX1 yX1_save yX1_save ∈ lw_tbl := wsL_law_in0_15 _ (List.mem_of_getElem? (i := 21) rfl)
set_option maxRecDepth 20000 in
theorem m9_15_22 : Cond.code yX1_save cX1_save 3 none ∈ lw_tbl := wsL_law_in0_15 _ (List.mem_of_getElem? (i := 22) rfl)
set_option maxRecDepth 20000 in
theorem m9_15_23 : Cond.methodLink RX1 25 yX1_placeOf ∈ lw_tbl := wsL_law_in0_15 _ (List.mem_of_getElem? (i := 23) rfl)
set_option maxRecDepth 20000 in
theorem m9_16_0 : Cond.instanceMethod yX1_placeOf ∈ lw_tbl := wsL_law_in0_16 _ (List.mem_of_getElem? (i := 0) rfl)
set_option maxRecDepth 20000 in
theorem m9_16_1 : Cond.selects RX1 yX1_placeOf yX1_placeOf ∈ lw_tbl := wsL_law_in0_16 _ (List.mem_of_getElem? (i := 1) rfl)
set_option maxRecDepth 20000 in
theorem m9_16_2 : Cond.code yX1_placeOf cX1_placeOf 3 (some (.object "FogOrders$Board")) ∈ lw_tbl := wsL_law_in0_16 _ (List.mem_of_getElem? (i := 2) rfl)
set_option maxRecDepth 20000 in
theorem m9_16_3 : Cond.methodLink RX1 29 yX0_copyFrom ∈ lw_tbl := wsL_law_in0_16 _ (List.mem_of_getElem? (i := 3) rfl)
set_option maxRecDepth 20000 in
theorem m9_16_4 : Cond.methodLink RX4 81 yX0_setUp ∈ lw_tbl := wsL_law_in0_16 _ (List.mem_of_getElem? (i := 4) rfl)
set_option maxRecDepth 20000 in
theorem m9_16_5 : Cond.instanceMethod yX0_setUp ∈ lw_tbl := wsL_law_in0_16 _ (List.mem_of_getElem? (i := 5) rfl)
set_option maxRecDepth 20000 in
theorem m9_16_6 : Cond.selects RX0 yX0_setUp yX0_setUp ∈ lw_tbl := wsL_law_in0_16 _ (List.mem_of_getElem? (i := 6) rfl)
set_option maxRecDepth 20000 in
theorem m9_16_7 : Cond.code yX0_setUp cX0_setUp 4 (some .int) ∈ lw_tbl := wsL_law_in0_16 _ (List.mem_of_getElem? (i := 7) rfl)
set_option maxRecDepth 20000 in
theorem m9_16_8 : Cond.methodLink RL 33 yX4_move ∈ lw_tbl := wsL_law_in0_16 _ (List.mem_of_getElem? (i := 8) rfl)
set_option maxRecDepth 20000 in
theorem m9_16_9 : Cond.instanceMethod yX4_move ∈ lw_tbl := wsL_law_in0_16 _ (List.mem_of_getElem? (i := 9) rfl)
set_option maxRecDepth 20000 in
theorem m9_16_10 : Cond.selects RX4 yX4_move yX4_move ∈ lw_tbl := wsL_law_in0_16 _ (List.mem_of_getElem? (i := 10) rfl)
set_option maxRecDepth 20000 in
theorem m9_16_11 : Cond.code yX4_move cX4_move 3 (some .int) ∈ lw_tbl := wsL_law_in0_16 _ (List.mem_of_getElem? (i := 11) rfl)
set_option maxRecDepth 20000 in
theorem m9_16_12 : Cond.methodLink RL 36 yX4_support ∈ lw_tbl := wsL_law_in0_16 _ (List.mem_of_getElem? (i := 12) rfl)
set_option maxRecDepth 20000 in
theorem m9_16_13 : Cond.instanceMethod yX4_support ∈ lw_tbl := wsL_law_in0_16 _ (List.mem_of_getElem? (i := 13) rfl)
set_option maxRecDepth 20000 in
theorem m9_16_14 : Cond.selects RX4 yX4_support yX4_support ∈ lw_tbl := wsL_law_in0_16 _ (List.mem_of_getElem? (i := 14) rfl)
set_option maxRecDepth 20000 in
theorem m9_16_15 : Cond.code yX4_support cX4_support 4 (some .int) ∈ lw_tbl := wsL_law_in0_16 _ (List.mem_of_getElem? (i := 15) rfl)
set_option maxRecDepth 20000 in
theorem m9_16_16 : Cond.methodLink RL 40 yX4_hold ∈ lw_tbl := wsL_law_in0_16 _ (List.mem_of_getElem? (i := 16) rfl)
set_option maxRecDepth 20000 in
theorem m9_16_17 : Cond.instanceMethod yX4_hold ∈ lw_tbl := wsL_law_in0_16 _ (List.mem_of_getElem? (i := 17) rfl)
set_option maxRecDepth 20000 in
theorem m9_16_18 : Cond.selects RX4 yX4_hold yX4_hold ∈ lw_tbl := wsL_law_in0_16 _ (List.mem_of_getElem? (i := 18) rfl)
set_option maxRecDepth 20000 in
theorem m9_16_19 : Cond.code yX4_hold cX4_hold 2 (some .int) ∈ lw_tbl := wsL_law_in0_16 _ (List.mem_of_getElem? (i := 19) rfl)
set_option maxRecDepth 20000 in
theorem m9_16_20 : Cond.methodLink RL 43 yX4_drop ∈ lw_tbl := wsL_law_in0_16 _ (List.mem_of_getElem? (i := 20) rfl)
set_option maxRecDepth 20000 in
theorem m9_16_21 : Cond.instanceMethod yX4_drop ∈ lw_tbl := wsL_law_in0_16 _ (List.mem_of_getElem? (i := 21) rfl)
set_option maxRecDepth 20000 in
theorem m9_16_22 : Cond.selects RX4 yX4_drop yX4_drop ∈ lw_tbl := wsL_law_in0_16 _ (List.mem_of_getElem? (i := 22) rfl)
set_option maxRecDepth 20000 in
theorem m9_16_23 : Cond.code yX4_drop cX4_drop 2 (some .int) ∈ lw_tbl := wsL_law_in0_16 _ (List.mem_of_getElem? (i := 23) rfl)
set_option maxRecDepth 20000 in
theorem m9_17_0 : Cond.methodLink RX4 90 yX0_remove ∈ lw_tbl := wsL_law_in0_17 _ (List.mem_of_getElem? (i := 0) rfl)
set_option maxRecDepth 20000 in
theorem m9_17_1 : Cond.instanceMethod yX0_remove ∈ lw_tbl := wsL_law_in0_17 _ (List.mem_of_getElem? (i := 1) rfl)
set_option maxRecDepth 20000 in
theorem m9_17_2 : Cond.selects RX0 yX0_remove yX0_remove ∈ lw_tbl := wsL_law_in0_17 _ (List.mem_of_getElem? (i := 2) rfl)
set_option maxRecDepth 20000 in
theorem m9_17_3 : Cond.code yX0_remove cX0_remove 4 none ∈ lw_tbl := wsL_law_in0_17 _ (List.mem_of_getElem? (i := 3) rfl)
set_option maxRecDepth 20000 in
theorem m9_17_4 : Cond.methodLink RL 46 yL_opens ∈ lw_tbl := wsL_law_in0_17 _ (List.mem_of_getElem? (i := 4) rfl)
set_option maxRecDepth 20000 in
theorem m9_17_5 : Cond.static yL_opens ∈ lw_tbl := wsL_law_in0_17 _ (List.mem_of_getElem? (i := 5) rfl)
set_option maxRecDepth 20000 in
theorem m9_17_6 : Cond.code yL_opens cL_opens 19 (some .boolean) ∈ lw_tbl := wsL_law_in0_17 _ (List.mem_of_getElem? (i := 6) rfl)
set_option maxRecDepth 20000 in
theorem m9_17_7 : Cond.methodLink RL 50 yX4_ifYear ∈ lw_tbl := wsL_law_in0_17 _ (List.mem_of_getElem? (i := 7) rfl)
set_option maxRecDepth 20000 in
theorem m9_17_8 : Cond.instanceMethod yX4_ifYear ∈ lw_tbl := wsL_law_in0_17 _ (List.mem_of_getElem? (i := 8) rfl)
set_option maxRecDepth 20000 in
theorem m9_17_9 : Cond.selects RX4 yX4_ifYear yX4_ifYear ∈ lw_tbl := wsL_law_in0_17 _ (List.mem_of_getElem? (i := 9) rfl)
set_option maxRecDepth 20000 in
theorem m9_17_10 : Cond.code yX4_ifYear cX4_ifYear 2 (some .int) ∈ lw_tbl := wsL_law_in0_17 _ (List.mem_of_getElem? (i := 10) rfl)
set_option maxRecDepth 20000 in
theorem m9_17_11 : Cond.methodLink RX4 187 yX2_centresThen ∈ lw_tbl := wsL_law_in0_17 _ (List.mem_of_getElem? (i := 11) rfl)
set_option maxRecDepth 20000 in
theorem m9_17_12 : Cond.instanceMethod yX2_centresThen ∈ lw_tbl := wsL_law_in0_17 _ (List.mem_of_getElem? (i := 12) rfl)
set_option maxRecDepth 20000 in
theorem m9_17_13 : Cond.selects RX2 yX2_centresThen yX2_centresThen ∈ lw_tbl := wsL_law_in0_17 _ (List.mem_of_getElem? (i := 13) rfl)
set_option maxRecDepth 20000 in
theorem m9_17_14 : Cond.code yX2_centresThen cX2_centresThen 4 (some .int) ∈ lw_tbl := wsL_law_in0_17 _ (List.mem_of_getElem? (i := 14) rfl)
set_option maxRecDepth 20000 in
theorem m9_17_15 : Cond.methodLink RX2 128 yX2_ownerThen ∈ lw_tbl := wsL_law_in0_17 _ (List.mem_of_getElem? (i := 15) rfl)
set_option maxRecDepth 20000 in
theorem m9_17_16 : Cond.instanceMethod yX2_ownerThen ∈ lw_tbl := wsL_law_in0_17 _ (List.mem_of_getElem? (i := 16) rfl)
set_option maxRecDepth 20000 in
theorem m9_17_17 : Cond.selects RX2 yX2_ownerThen yX2_ownerThen ∈ lw_tbl := wsL_law_in0_17 _ (List.mem_of_getElem? (i := 17) rfl)
set_option maxRecDepth 20000 in
theorem m9_17_18 : Cond.code yX2_ownerThen cX2_ownerThen 3 (some .int) ∈ lw_tbl := wsL_law_in0_17 _ (List.mem_of_getElem? (i := 18) rfl)
set_option maxRecDepth 20000 in
theorem m9_17_19 : Cond.methodLink RX2 131 yX0_owner ∈ lw_tbl := wsL_law_in0_17 _ (List.mem_of_getElem? (i := 19) rfl)
set_option maxRecDepth 20000 in
theorem m9_17_20 : Cond.methodLink RL 56 yX4_open ∈ lw_tbl := wsL_law_in0_17 _ (List.mem_of_getElem? (i := 20) rfl)
set_option maxRecDepth 20000 in
theorem m9_17_21 : Cond.instanceMethod yX4_open ∈ lw_tbl := wsL_law_in0_17 _ (List.mem_of_getElem? (i := 21) rfl)
set_option maxRecDepth 20000 in
theorem m9_17_22 : Cond.selects RX4 yX4_open yX4_open ∈ lw_tbl := wsL_law_in0_17 _ (List.mem_of_getElem? (i := 22) rfl)
set_option maxRecDepth 20000 in
theorem m9_17_23 : Cond.code yX4_open cX4_open 1 (some .int) ∈ lw_tbl := wsL_law_in0_17 _ (List.mem_of_getElem? (i := 23) rfl)
set_option maxRecDepth 20000 in
theorem m9_18_0 : Cond.methodLink RX4 114 yX2_carryOut ∈ lw_tbl := wsL_law_in0_18 _ (List.mem_of_getElem? (i := 0) rfl)
set_option maxRecDepth 20000 in
theorem m9_18_1 : Cond.instanceMethod yX2_carryOut ∈ lw_tbl := wsL_law_in0_18 _ (List.mem_of_getElem? (i := 1) rfl)
set_option maxRecDepth 20000 in
theorem m9_18_2 : Cond.selects RX2 yX2_carryOut yX2_carryOut ∈ lw_tbl := wsL_law_in0_18 _ (List.mem_of_getElem? (i := 2) rfl)
set_option maxRecDepth 20000 in
theorem m9_18_3 : Cond.code yX2_carryOut cX2_carryOut 3 (some .int) ∈ lw_tbl := wsL_law_in0_18 _ (List.mem_of_getElem? (i := 3) rfl)
set_option maxRecDepth 20000 in
theorem m9_18_4 : Cond.methodLink RX2 134 yX2_countMove ∈ lw_tbl := wsL_law_in0_18 _ (List.mem_of_getElem? (i := 4) rfl)
set_option maxRecDepth 20000 in
theorem m9_18_5 : Cond.instanceMethod yX2_countMove ∈ lw_tbl := wsL_law_in0_18 _ (List.mem_of_getElem? (i := 5) rfl)
set_option maxRecDepth 20000 in
theorem m9_18_6 : Cond.selects RX2 yX2_countMove yX2_countMove ∈ lw_tbl := wsL_law_in0_18 _ (List.mem_of_getElem? (i := 6) rfl)
set_option maxRecDepth 20000 in
theorem m9_18_7 : Cond.code yX2_countMove cX2_countMove 4 none ∈ lw_tbl := wsL_law_in0_18 _ (List.mem_of_getElem? (i := 7) rfl)
set_option maxRecDepth 20000 in
theorem m9_18_8 : Cond.methodLink RX2 148 yX0_put ∈ lw_tbl := wsL_law_in0_18 _ (List.mem_of_getElem? (i := 8) rfl)
set_option maxRecDepth 20000 in
theorem m9_18_9 : Cond.methodLink RX2 138 yX0_countOne ∈ lw_tbl := wsL_law_in0_18 _ (List.mem_of_getElem? (i := 9) rfl)
set_option maxRecDepth 20000 in
theorem m9_18_10 : Cond.instanceMethod yX0_countOne ∈ lw_tbl := wsL_law_in0_18 _ (List.mem_of_getElem? (i := 10) rfl)
set_option maxRecDepth 20000 in
theorem m9_18_11 : Cond.selects RX0 yX0_countOne yX0_countOne ∈ lw_tbl := wsL_law_in0_18 _ (List.mem_of_getElem? (i := 11) rfl)
set_option maxRecDepth 20000 in
theorem m9_18_12 : Cond.code yX0_countOne cX0_countOne 2 none ∈ lw_tbl := wsL_law_in0_18 _ (List.mem_of_getElem? (i := 12) rfl)
set_option maxRecDepth 20000 in
theorem m9_18_13 : Cond.methodLink RX2 142 yX2_settle ∈ lw_tbl := wsL_law_in0_18 _ (List.mem_of_getElem? (i := 13) rfl)
set_option maxRecDepth 20000 in
theorem m9_18_14 : Cond.instanceMethod yX2_settle ∈ lw_tbl := wsL_law_in0_18 _ (List.mem_of_getElem? (i := 14) rfl)
set_option maxRecDepth 20000 in
theorem m9_18_15 : Cond.selects RX2 yX2_settle yX2_settle ∈ lw_tbl := wsL_law_in0_18 _ (List.mem_of_getElem? (i := 15) rfl)
set_option maxRecDepth 20000 in
theorem m9_18_16 : Cond.code yX2_settle cX2_settle 2 none ∈ lw_tbl := wsL_law_in0_18 _ (List.mem_of_getElem? (i := 16) rfl)
set_option maxRecDepth 20000 in
theorem m9_18_17 : Cond.methodLink RX2 152 yX0_give ∈ lw_tbl := wsL_law_in0_18 _ (List.mem_of_getElem? (i := 17) rfl)
set_option maxRecDepth 20000 in
theorem m9_18_18 : Cond.methodLink RX2 156 yX0_remove ∈ lw_tbl := wsL_law_in0_18 _ (List.mem_of_getElem? (i := 18) rfl)
set_option maxRecDepth 20000 in
theorem m9_18_19 : Cond.methodLink RX2 145 yX0_beginNextSeason ∈ lw_tbl := wsL_law_in0_18 _ (List.mem_of_getElem? (i := 19) rfl)
set_option maxRecDepth 20000 in
theorem m9_18_20 : Cond.instanceMethod yX0_beginNextSeason ∈ lw_tbl := wsL_law_in0_18 _ (List.mem_of_getElem? (i := 20) rfl)
set_option maxRecDepth 20000 in
theorem m9_18_21 : Cond.selects RX0 yX0_beginNextSeason yX0_beginNextSeason ∈ lw_tbl := wsL_law_in0_18 _ (List.mem_of_getElem? (i := 21) rfl)
set_option maxRecDepth 20000 in
theorem m9_18_22 : Cond.code yX0_beginNextSeason cX0_beginNextSeason 1 none ∈ lw_tbl := wsL_law_in0_18 _ (List.mem_of_getElem? (i := 22) rfl)
set_option maxRecDepth 20000 in
theorem m9_18_23 : Cond.methodLink RX0 66 yX0_endYear ∈ lw_tbl := wsL_law_in0_18 _ (List.mem_of_getElem? (i := 23) rfl)
set_option maxRecDepth 20000 in
theorem m9_19_0 : Cond.instanceMethod yX0_endYear ∈ lw_tbl := wsL_law_in0_19 _ (List.mem_of_getElem? (i := 0) rfl)
set_option maxRecDepth 20000 in
theorem m9_19_1 : Cond.selects RX0 yX0_endYear yX0_endYear ∈ lw_tbl := wsL_law_in0_19 _ (List.mem_of_getElem? (i := 1) rfl)
set_option maxRecDepth 20000 in
theorem m9_19_2 : Cond.code yX0_endYear cX0_endYear 3 none ∈ lw_tbl := wsL_law_in0_19 _ (List.mem_of_getElem? (i := 2) rfl)
set_option maxRecDepth 20000 in
theorem m9_19_3 : Cond.methodLink RX0 73 yX0_claimCentres ∈ lw_tbl := wsL_law_in0_19 _ (List.mem_of_getElem? (i := 3) rfl)
set_option maxRecDepth 20000 in
theorem m9_19_4 : Cond.instanceMethod yX0_claimCentres ∈ lw_tbl := wsL_law_in0_19 _ (List.mem_of_getElem? (i := 4) rfl)
set_option maxRecDepth 20000 in
theorem m9_19_5 : Cond.selects RX0 yX0_claimCentres yX0_claimCentres ∈ lw_tbl := wsL_law_in0_19 _ (List.mem_of_getElem? (i := 5) rfl)
set_option maxRecDepth 20000 in
theorem m9_19_6 : Cond.code yX0_claimCentres cX0_claimCentres 2 none ∈ lw_tbl := wsL_law_in0_19 _ (List.mem_of_getElem? (i := 6) rfl)
set_option maxRecDepth 20000 in
theorem m9_19_7 : Cond.methodLink RX0 76 yX0_centresOf ∈ lw_tbl := wsL_law_in0_19 _ (List.mem_of_getElem? (i := 7) rfl)
set_option maxRecDepth 20000 in
theorem m9_19_8 : Cond.methodLink RX0 79 yX0_armiesOf ∈ lw_tbl := wsL_law_in0_19 _ (List.mem_of_getElem? (i := 8) rfl)
set_option maxRecDepth 20000 in
theorem m9_19_9 : Cond.methodLink RX0 82 yX0_takeOff ∈ lw_tbl := wsL_law_in0_19 _ (List.mem_of_getElem? (i := 9) rfl)
set_option maxRecDepth 20000 in
theorem m9_19_10 : Cond.instanceMethod yX0_takeOff ∈ lw_tbl := wsL_law_in0_19 _ (List.mem_of_getElem? (i := 10) rfl)
set_option maxRecDepth 20000 in
theorem m9_19_11 : Cond.selects RX0 yX0_takeOff yX0_takeOff ∈ lw_tbl := wsL_law_in0_19 _ (List.mem_of_getElem? (i := 11) rfl)
set_option maxRecDepth 20000 in
theorem m9_19_12 : Cond.code yX0_takeOff cX0_takeOff 5 none ∈ lw_tbl := wsL_law_in0_19 _ (List.mem_of_getElem? (i := 12) rfl)
set_option maxRecDepth 20000 in
theorem m9_19_13 : Cond.methodLink RX0 92 yX0_remove ∈ lw_tbl := wsL_law_in0_19 _ (List.mem_of_getElem? (i := 13) rfl)
set_option maxRecDepth 20000 in
theorem m9_19_14 : Cond.methodLink RX0 69 yX0_countOne ∈ lw_tbl := wsL_law_in0_19 _ (List.mem_of_getElem? (i := 14) rfl)
set_option maxRecDepth 20000 in
theorem m9_19_15 : Cond.methodLink RX0 86 yX0_build ∈ lw_tbl := wsL_law_in0_19 _ (List.mem_of_getElem? (i := 15) rfl)
set_option maxRecDepth 20000 in
theorem m9_19_16 : Cond.instanceMethod yX0_build ∈ lw_tbl := wsL_law_in0_19 _ (List.mem_of_getElem? (i := 16) rfl)
set_option maxRecDepth 20000 in
theorem m9_19_17 : Cond.selects RX0 yX0_build yX0_build ∈ lw_tbl := wsL_law_in0_19 _ (List.mem_of_getElem? (i := 17) rfl)
set_option maxRecDepth 20000 in
theorem m9_19_18 : Cond.code yX0_build cX0_build 3 none ∈ lw_tbl := wsL_law_in0_19 _ (List.mem_of_getElem? (i := 18) rfl)
set_option maxRecDepth 20000 in
theorem m9_19_19 : Cond.methodLink RX0 95 yX0_armyOn ∈ lw_tbl := wsL_law_in0_19 _ (List.mem_of_getElem? (i := 19) rfl)
set_option maxRecDepth 20000 in
theorem m9_19_20 : Cond.methodLink RX0 98 yX0_setUp ∈ lw_tbl := wsL_law_in0_19 _ (List.mem_of_getElem? (i := 20) rfl)
set_option maxRecDepth 20000 in
theorem m9_19_21 : Cond.methodLink RL 95 yX4_restore ∈ lw_tbl := wsL_law_in0_19 _ (List.mem_of_getElem? (i := 21) rfl)
set_option maxRecDepth 20000 in
theorem m9_19_22 : Cond.instanceMethod yX4_restore ∈ lw_tbl := wsL_law_in0_19 _ (List.mem_of_getElem? (i := 22) rfl)
set_option maxRecDepth 20000 in
theorem m9_19_23 : Cond.selects RX4 yX4_restore yX4_restore ∈ lw_tbl := wsL_law_in0_19 _ (List.mem_of_getElem? (i := 23) rfl)
set_option maxRecDepth 20000 in
theorem m9_20_0 : Cond.code yX4_restore cX4_restore 1 (some .int) ∈ lw_tbl := wsL_law_in0_20 _ (List.mem_of_getElem? (i := 0) rfl)
set_option maxRecDepth 20000 in
theorem m9_20_1 : Cond.methodLink RL 98 yX4_undo ∈ lw_tbl := wsL_law_in0_20 _ (List.mem_of_getElem? (i := 1) rfl)
set_option maxRecDepth 20000 in
theorem m9_20_2 : Cond.instanceMethod yX4_undo ∈ lw_tbl := wsL_law_in0_20 _ (List.mem_of_getElem? (i := 2) rfl)
set_option maxRecDepth 20000 in
theorem m9_20_3 : Cond.selects RX4 yX4_undo yX4_undo ∈ lw_tbl := wsL_law_in0_20 _ (List.mem_of_getElem? (i := 3) rfl)
set_option maxRecDepth 20000 in
theorem m9_20_4 : Cond.code yX4_undo cX4_undo 1 (some .int) ∈ lw_tbl := wsL_law_in0_20 _ (List.mem_of_getElem? (i := 4) rfl)
set_option maxRecDepth 20000 in
theorem m9_20_5 : Cond.methodLink RX4 146 yX1_takeBack ∈ lw_tbl := wsL_law_in0_20 _ (List.mem_of_getElem? (i := 5) rfl)
set_option maxRecDepth 20000 in
theorem m9_20_6 : Cond.instanceMethod yX1_takeBack ∈ lw_tbl := wsL_law_in0_20 _ (List.mem_of_getElem? (i := 6) rfl)
set_option maxRecDepth 20000 in
theorem m9_20_7 : Cond.selects RX1 yX1_takeBack yX1_takeBack ∈ lw_tbl := wsL_law_in0_20 _ (List.mem_of_getElem? (i := 7) rfl)
set_option maxRecDepth 20000 in
theorem m9_20_8 : Cond.code yX1_takeBack cX1_takeBack 3 none ∈ lw_tbl := wsL_law_in0_20 _ (List.mem_of_getElem? (i := 8) rfl)
set_option maxRecDepth 20000 in
theorem iw_wsX4_init_r1 : ∀ w ∈ wsX4_init_r1, w ∈ lw_tbl := memc m9_1_6 (memc m9_1_7 (memc m9_1_8 (memc m9_1_9 (memc m9_1_10 (memc m9_1_11 (memc m9_1_12 (memc m9_1_13 (memc m9_1_14 (memc m9_1_15 (memc m9_1_16 (memc m9_1_17 (memc m9_1_18 (memc m9_1_19 (memc m9_1_20 (memc m9_1_21 (memc m9_1_22 (memc m9_1_23 (memc m9_2_0 (memc m9_2_1 (memc m9_2_2 (memc m9_2_3 (memc m9_2_4 (memc m9_2_5 memn)))))))))))))))))))))))
set_option maxRecDepth 20000 in
theorem iw_wsX4_init_r2 : ∀ w ∈ wsX4_init_r2, w ∈ lw_tbl := memc m9_2_6 (memc m9_2_7 (memc m9_2_8 (memc m9_2_9 (memc m9_2_10 (memc m9_2_11 (memc m9_2_12 (memc m9_2_13 (memc m9_2_14 (memc m9_2_15 (memc m9_2_16 (memc m9_2_17 (memc m9_2_18 (memc m9_2_19 (memc m9_2_20 (memc m9_2_21 (memc m9_2_22 (memc m9_2_23 (memc m9_3_0 (memc m9_3_1 (memc m9_3_2 (memc m9_3_3 (memc m9_3_4 (memc m9_3_5 memn)))))))))))))))))))))))
set_option maxRecDepth 20000 in
theorem iw_wsX4_init_r3 : ∀ w ∈ wsX4_init_r3, w ∈ lw_tbl := memc m9_3_6 (memc m9_3_7 (memc m9_3_8 (memc m9_3_9 (memc m9_3_10 (memc m9_3_11 (memc m9_3_12 (memc m9_3_13 (memc m9_3_14 (memc m9_3_15 (memc m9_3_16 (memc m9_3_17 (memc m9_3_18 (memc m9_3_19 (memc m9_3_20 (memc m9_3_21 (memc m9_3_22 (memc m9_3_23 memn)))))))))))))))))
set_option maxRecDepth 20000 in
theorem iw_wsX4_init : ∀ w ∈ wsX4_init, w ∈ lw_tbl := memc m9_1_5 (sub_a (sub_a (sub_a (sub_a (sub_a (sub_a (iw_wsX4_init_r1) (sub_a (iw_wsX4_init_r2) (iw_wsX4_init_r3))) (wsL_law_in0_wsX20)) (wsL_law_in0_wsX40)) (wsL_law_in0_wsX10)) (wsL_law_in0_wsX00)) (wsL_law_in0_wsX30))
set_option maxRecDepth 20000 in
theorem gl_X4_init : GoodIn lw_tbl wsX4_init := goodIn_sub iw_wsX4_init (by decide +kernel)
set_option maxRecDepth 20000 in
theorem iw_wsL_holds_r1 : ∀ w ∈ wsL_holds_r1, w ∈ lw_tbl := memc m9_4_4 (memc m9_4_5 (memc m9_4_6 (memc m9_1_2 (memc m9_4_7 (memc m9_4_8 (memc m9_4_9 (memc m9_4_10 (memc m9_4_11 (memc m9_4_12 (memc m9_4_13 (memc m9_1_13 (memc m9_1_19 (memc m9_4_14 (memc m9_4_15 (memc m9_4_16 (memc m9_1_22 (memc m9_4_17 (memc m9_2_22 (memc m9_4_18 (memc m9_4_19 (memc m9_4_20 (memc m9_4_21 (memc m9_4_22 memn)))))))))))))))))))))))
set_option maxRecDepth 20000 in
theorem iw_wsL_holds_r2 : ∀ w ∈ wsL_holds_r2, w ∈ lw_tbl := memc m9_4_23 (memc m9_5_0 (memc m9_5_1 (memc m9_5_2 (memc m9_3_0 (memc m9_5_3 (memc m9_5_4 (memc m9_5_5 (memc m9_1_18 (memc m9_5_6 (memc m9_3_12 (memc m9_5_7 (memc m9_5_8 (memc m9_4_2 (memc m9_5_9 (memc m9_5_10 (memc m9_5_11 (memc m9_5_12 (memc m9_5_13 (memc m9_5_14 (memc m9_5_15 (memc m9_5_16 (memc m9_5_17 (memc m9_5_18 memn)))))))))))))))))))))))
set_option maxRecDepth 20000 in
theorem iw_wsL_holds_r3 : ∀ w ∈ wsL_holds_r3, w ∈ lw_tbl := memc m9_5_19 (memc m9_5_20 (memc m9_5_21 (memc m9_5_22 (memc m9_5_23 (memc m9_6_0 (memc m9_1_12 (memc m9_6_1 (memc m9_6_2 (memc m9_6_3 (memc m9_1_11 (memc m9_6_4 (memc m9_6_5 (memc m9_6_6 (memc m9_6_7 (memc m9_6_8 (memc m9_6_9 (memc m9_6_10 (memc m9_6_11 (memc m9_6_12 (memc m9_2_9 (memc m9_2_11 (memc m9_2_12 (memc m9_6_13 memn)))))))))))))))))))))))
set_option maxRecDepth 20000 in
theorem iw_wsL_holds_r4 : ∀ w ∈ wsL_holds_r4, w ∈ lw_tbl := memc m9_6_14 (memc m9_6_15 (memc m9_6_16 (memc m9_6_17 (memc m9_6_18 (memc m9_6_19 (memc m9_6_20 (memc m9_6_21 (memc m9_6_22 (memc m9_6_23 (memc m9_7_0 (memc m9_7_1 (memc m9_7_2 (memc m9_7_3 (memc m9_7_4 (memc m9_7_5 (memc m9_7_6 (memc m9_7_7 (memc m9_7_8 (memc m9_7_9 (memc m9_7_10 (memc m9_7_11 (memc m9_7_12 (memc m9_2_13 memn)))))))))))))))))))))))
set_option maxRecDepth 20000 in
theorem iw_wsL_holds_r5 : ∀ w ∈ wsL_holds_r5, w ∈ lw_tbl := memc m9_7_13 (memc m9_7_14 (memc m9_7_15 (memc m9_7_16 (memc m9_7_17 (memc m9_7_18 (memc m9_7_19 (memc m9_7_20 (memc m9_7_21 (memc m9_7_22 (memc m9_2_14 (memc m9_7_23 (memc m9_8_0 (memc m9_8_1 (memc m9_8_2 (memc m9_8_3 (memc m9_8_4 (memc m9_8_5 (memc m9_8_6 (memc m9_8_7 (memc m9_8_8 (memc m9_8_9 (memc m9_8_10 (memc m9_8_11 memn)))))))))))))))))))))))
set_option maxRecDepth 20000 in
theorem iw_wsL_holds_r6 : ∀ w ∈ wsL_holds_r6, w ∈ lw_tbl := memc m9_8_12 (memc m9_8_13 (memc m9_8_14 (memc m9_8_15 (memc m9_8_16 (memc m9_8_17 (memc m9_8_18 (memc m9_8_19 (memc m9_8_20 (memc m9_8_21 (memc m9_8_22 (memc m9_2_15 (memc m9_2_16 (memc m9_2_17 (memc m9_8_23 (memc m9_9_0 (memc m9_9_1 (memc m9_9_2 (memc m9_9_3 (memc m9_9_4 (memc m9_9_5 (memc m9_9_6 (memc m9_9_7 (memc m9_9_8 memn)))))))))))))))))))))))
set_option maxRecDepth 20000 in
theorem iw_wsL_holds_r7 : ∀ w ∈ wsL_holds_r7, w ∈ lw_tbl := memc m9_9_9 (memc m9_9_10 (memc m9_9_11 (memc m9_9_12 (memc m9_9_13 (memc m9_9_14 (memc m9_9_15 (memc m9_9_16 (memc m9_9_17 (memc m9_9_18 (memc m9_9_19 (memc m9_9_20 (memc m9_9_21 (memc m9_9_22 (memc m9_9_23 (memc m9_10_0 (memc m9_10_1 (memc m9_10_2 (memc m9_10_3 (memc m9_10_4 (memc m9_10_5 (memc m9_10_6 (memc m9_10_7 (memc m9_10_8 memn)))))))))))))))))))))))
set_option maxRecDepth 20000 in
theorem iw_wsL_holds_r8 : ∀ w ∈ wsL_holds_r8, w ∈ lw_tbl := memc m9_10_9 (memc m9_10_10 (memc m9_10_11 (memc m9_10_12 (memc m9_10_13 (memc m9_10_14 (memc m9_10_15 (memc m9_10_16 (memc m9_10_17 (memc m9_10_18 (memc m9_10_19 (memc m9_10_20 (memc m9_10_21 (memc m9_10_22 (memc m9_10_23 (memc m9_2_23 (memc m9_11_0 (memc m9_11_1 (memc m9_11_2 (memc m9_11_3 (memc m9_11_4 (memc m9_11_5 (memc m9_11_6 (memc m9_11_7 memn)))))))))))))))))))))))
set_option maxRecDepth 20000 in
theorem iw_wsL_holds_r9 : ∀ w ∈ wsL_holds_r9, w ∈ lw_tbl := memc m9_11_8 (memc m9_11_9 (memc m9_11_10 (memc m9_11_11 (memc m9_11_12 (memc m9_11_13 (memc m9_11_14 (memc m9_11_15 (memc m9_1_15 (memc m9_1_14 (memc m9_11_16 (memc m9_11_17 (memc m9_11_18 (memc m9_11_19 (memc m9_11_20 (memc m9_11_21 (memc m9_11_22 (memc m9_11_23 (memc m9_12_0 (memc m9_12_1 (memc m9_12_2 (memc m9_12_3 (memc m9_12_4 (memc m9_12_5 memn)))))))))))))))))))))))
set_option maxRecDepth 20000 in
theorem iw_wsL_holds_r10 : ∀ w ∈ wsL_holds_r10, w ∈ lw_tbl := memc m9_12_6 (memc m9_12_7 (memc m9_12_8 (memc m9_12_9 (memc m9_12_10 (memc m9_12_11 (memc m9_12_12 (memc m9_12_13 (memc m9_12_14 (memc m9_12_15 (memc m9_12_16 (memc m9_12_17 (memc m9_12_18 (memc m9_12_19 (memc m9_12_20 (memc m9_12_21 (memc m9_12_22 (memc m9_12_23 (memc m9_13_0 (memc m9_13_1 (memc m9_13_2 (memc m9_13_3 (memc m9_13_4 (memc m9_13_5 memn)))))))))))))))))))))))
set_option maxRecDepth 20000 in
theorem iw_wsL_holds_r11 : ∀ w ∈ wsL_holds_r11, w ∈ lw_tbl := memc m9_13_6 (memc m9_13_7 (memc m9_13_8 (memc m9_13_9 (memc m9_13_10 (memc m9_13_11 (memc m9_13_12 (memc m9_13_13 (memc m9_13_14 (memc m9_13_15 (memc m9_13_16 (memc m9_13_17 (memc m9_13_18 (memc m9_13_19 (memc m9_13_20 (memc m9_13_21 (memc m9_13_22 (memc m9_13_23 (memc m9_14_0 (memc m9_14_1 (memc m9_14_2 (memc m9_14_3 (memc m9_14_4 (memc m9_14_5 memn)))))))))))))))))))))))
set_option maxRecDepth 20000 in
theorem iw_wsL_holds_r12 : ∀ w ∈ wsL_holds_r12, w ∈ lw_tbl := memc m9_14_6 (memc m9_14_7 (memc m9_14_8 (memc m9_14_9 (memc m9_14_10 (memc m9_14_11 (memc m9_14_12 (memc m9_14_13 (memc m9_14_14 (memc m9_14_15 (memc m9_14_16 (memc m9_14_17 (memc m9_14_18 memn))))))))))))
set_option maxRecDepth 20000 in
theorem iw_wsL_holds : ∀ w ∈ wsL_holds, w ∈ lw_tbl := memc m9_4_3 (sub_a (sub_a (sub_a (sub_a (sub_a (sub_a (sub_a (iw_wsL_holds_r1) (sub_a (iw_wsL_holds_r2) (sub_a (iw_wsL_holds_r3) (sub_a (iw_wsL_holds_r4) (sub_a (iw_wsL_holds_r5) (sub_a (iw_wsL_holds_r6) (sub_a (iw_wsL_holds_r7) (sub_a (iw_wsL_holds_r8) (sub_a (iw_wsL_holds_r9) (sub_a (iw_wsL_holds_r10) (sub_a (iw_wsL_holds_r11) (iw_wsL_holds_r12)))))))))))) (wsL_law_in0_wsX40)) (wsL_law_in0_wsX00)) (wsL_law_in0_wsX10)) (wsL_law_in0_wsX20)) (wsL_law_x0)) (wsL_law_x1))
set_option maxRecDepth 20000 in
theorem gl_L_holds : GoodIn lw_tbl (va_wsS RL 82 yL_holds wsL_holds) := goodIn_app (goodIn_sub (memc m9_4_0 (memc m9_4_1 (memc m9_4_2 memn))) (by decide +kernel)) (goodIn_sub iw_wsL_holds (by decide +kernel))
set_option maxRecDepth 20000 in
theorem iw_wsX4_count_r1 : ∀ w ∈ wsX4_count_r1, w ∈ lw_tbl := memc m9_4_8 (memc m9_4_9 (memc m9_4_10 (memc m9_4_11 (memc m9_4_12 (memc m9_1_2 (memc m9_4_13 (memc m9_1_13 (memc m9_1_19 (memc m9_4_14 (memc m9_4_15 (memc m9_4_16 (memc m9_1_22 (memc m9_4_17 (memc m9_2_22 (memc m9_4_18 (memc m9_4_19 (memc m9_4_20 (memc m9_4_21 (memc m9_4_22 (memc m9_4_23 (memc m9_5_0 (memc m9_5_1 (memc m9_5_2 memn)))))))))))))))))))))))
set_option maxRecDepth 20000 in
theorem iw_wsX4_count_r2 : ∀ w ∈ wsX4_count_r2, w ∈ lw_tbl := memc m9_3_0 (memc m9_5_3 (memc m9_5_4 (memc m9_5_5 (memc m9_1_18 (memc m9_5_6 (memc m9_3_12 memn))))))
set_option maxRecDepth 20000 in
theorem iw_wsX4_count : ∀ w ∈ wsX4_count, w ∈ lw_tbl := memc m9_4_7 (sub_a (sub_a (sub_a (sub_a (sub_a (iw_wsX4_count_r1) (iw_wsX4_count_r2)) (wsL_law_in0_wsX40)) (wsL_law_in0_wsX00)) (wsL_law_in0_wsX10)) (wsL_law_x0))
set_option maxRecDepth 20000 in
theorem gl_X4_count : GoodIn lw_tbl (wsV RL 9 RX4 yX4_count wsX4_count) := goodIn_app (goodIn_sub (memc m9_4_4 (memc m9_4_5 (memc m9_4_6 (memc m9_1_2 memn)))) (by decide +kernel)) (goodIn_sub iw_wsX4_count (by decide +kernel))
set_option maxRecDepth 20000 in
theorem iw_wsX4_keep : ∀ w ∈ wsX4_keep, w ∈ lw_tbl := memc m9_14_22 (sub_a (sub_a (memc m9_1_23 (memc m9_1_13 (memc m9_2_0 (memc m9_11_16 (memc m9_11_17 (memc m9_11_18 (memc m9_1_22 (memc m9_11_19 (memc m9_2_22 (memc m9_11_20 (memc m9_11_21 (memc m9_11_22 (memc m9_11_23 (memc m9_2_23 (memc m9_3_0 (memc m9_4_14 (memc m9_4_15 (memc m9_4_16 (memc m9_4_17 memn))))))))))))))))))) (wsL_law_in0_wsX40)) (wsL_law_in0_wsX00))
set_option maxRecDepth 20000 in
theorem gl_X4_keep : GoodIn lw_tbl (wsV RL 85 RX4 yX4_keep wsX4_keep) := goodIn_app (goodIn_sub (memc m9_14_19 (memc m9_14_20 (memc m9_14_21 (memc m9_1_2 memn)))) (by decide +kernel)) (goodIn_sub iw_wsX4_keep (by decide +kernel))
set_option maxRecDepth 20000 in
theorem iw_wsL_cell : ∀ w ∈ wsL_cell, w ∈ lw_tbl := memc m9_15_1 (memc m9_15_2 memn)
set_option maxRecDepth 20000 in
theorem gl_L_cell : GoodIn lw_tbl (va_wsS RL 88 yL_cell wsL_cell) := goodIn_app (goodIn_sub (memc m9_14_23 (memc m9_15_0 (memc m9_4_2 memn))) (by decide +kernel)) (goodIn_sub iw_wsL_cell (by decide +kernel))
set_option maxRecDepth 20000 in
theorem iw_wsL_change_r1 : ∀ w ∈ wsL_change_r1, w ∈ lw_tbl := memc m9_4_4 (memc m9_4_5 (memc m9_4_6 (memc m9_1_2 (memc m9_4_7 (memc m9_4_8 (memc m9_4_9 (memc m9_4_10 (memc m9_4_11 (memc m9_4_12 (memc m9_4_13 (memc m9_1_13 (memc m9_1_19 (memc m9_4_14 (memc m9_4_15 (memc m9_4_16 (memc m9_1_22 (memc m9_4_17 (memc m9_2_22 (memc m9_4_18 (memc m9_4_19 (memc m9_4_20 (memc m9_4_21 (memc m9_4_22 memn)))))))))))))))))))))))
set_option maxRecDepth 20000 in
theorem iw_wsL_change_r2 : ∀ w ∈ wsL_change_r2, w ∈ lw_tbl := memc m9_4_23 (memc m9_5_0 (memc m9_5_1 (memc m9_5_2 (memc m9_3_0 (memc m9_5_3 (memc m9_5_4 (memc m9_5_5 (memc m9_1_18 (memc m9_5_6 (memc m9_3_12 (memc m9_15_6 (memc m9_15_7 (memc m9_4_2 (memc m9_15_8 (memc m9_15_9 (memc m9_5_10 (memc m9_5_11 (memc m9_5_12 (memc m9_5_13 (memc m9_5_14 (memc m9_5_15 (memc m9_5_16 (memc m9_5_17 memn)))))))))))))))))))))))
set_option maxRecDepth 20000 in
theorem iw_wsL_change_r3 : ∀ w ∈ wsL_change_r3, w ∈ lw_tbl := memc m9_5_18 (memc m9_5_19 (memc m9_5_20 (memc m9_15_10 (memc m9_15_11 (memc m9_15_12 (memc m9_10_5 (memc m9_10_6 (memc m9_10_7 (memc m9_10_8 (memc m9_10_9 (memc m9_10_10 (memc m9_10_11 (memc m9_10_12 (memc m9_10_13 (memc m9_10_14 (memc m9_10_15 (memc m9_10_16 (memc m9_7_4 (memc m9_7_5 (memc m9_7_6 (memc m9_10_17 (memc m9_10_18 (memc m9_10_19 memn)))))))))))))))))))))))
set_option maxRecDepth 20000 in
theorem iw_wsL_change_r4 : ∀ w ∈ wsL_change_r4, w ∈ lw_tbl := memc m9_10_20 (memc m9_10_21 (memc m9_10_22 (memc m9_10_23 (memc m9_2_23 (memc m9_11_0 (memc m9_11_1 (memc m9_11_2 (memc m9_11_3 (memc m9_9_15 (memc m9_9_16 (memc m9_11_4 (memc m9_11_5 (memc m9_11_6 (memc m9_11_7 (memc m9_15_13 (memc m9_15_14 (memc m9_15_15 (memc m9_15_16 (memc m9_15_17 (memc m9_15_18 (memc m9_12_22 (memc m9_12_23 (memc m9_13_0 memn)))))))))))))))))))))))
set_option maxRecDepth 20000 in
theorem iw_wsL_change_r5 : ∀ w ∈ wsL_change_r5, w ∈ lw_tbl := memc m9_15_19 (memc m9_15_20 (memc m9_15_21 (memc m9_15_22 (memc m9_3_11 (memc m9_15_23 (memc m9_16_0 (memc m9_16_1 (memc m9_16_2 (memc m9_3_10 (memc m9_16_3 (memc m9_11_17 (memc m9_11_18 (memc m9_11_19 (memc m9_11_20 (memc m9_11_21 (memc m9_11_22 (memc m9_11_23 (memc m9_16_4 (memc m9_16_5 (memc m9_16_6 (memc m9_16_7 (memc m9_12_9 (memc m9_12_10 memn)))))))))))))))))))))))
set_option maxRecDepth 20000 in
theorem iw_wsL_change_r6 : ∀ w ∈ wsL_change_r6, w ∈ lw_tbl := memc m9_12_11 (memc m9_12_12 (memc m9_7_7 (memc m9_7_8 (memc m9_16_8 (memc m9_16_9 (memc m9_16_10 (memc m9_16_11 (memc m9_12_0 (memc m9_12_1 (memc m9_12_2 (memc m9_12_3 (memc m9_12_4 (memc m9_12_5 (memc m9_12_6 (memc m9_12_7 (memc m9_12_8 (memc m9_16_12 (memc m9_16_13 (memc m9_16_14 (memc m9_16_15 (memc m9_16_16 (memc m9_16_17 (memc m9_16_18 memn)))))))))))))))))))))))
set_option maxRecDepth 20000 in
theorem iw_wsL_change_r7 : ∀ w ∈ wsL_change_r7, w ∈ lw_tbl := memc m9_16_19 (memc m9_16_20 (memc m9_16_21 (memc m9_16_22 (memc m9_16_23 (memc m9_17_0 (memc m9_17_1 (memc m9_17_2 (memc m9_17_3 (memc m9_17_4 (memc m9_17_5 (memc m9_17_6 (memc m9_2_10 (memc m9_17_7 (memc m9_17_8 (memc m9_17_9 (memc m9_17_10 (memc m9_1_12 (memc m9_6_1 (memc m9_6_2 (memc m9_6_3 (memc m9_1_11 (memc m9_6_4 (memc m9_6_5 memn)))))))))))))))))))))))
set_option maxRecDepth 20000 in
theorem iw_wsL_change_r8 : ∀ w ∈ wsL_change_r8, w ∈ lw_tbl := memc m9_6_6 (memc m9_6_7 (memc m9_6_8 (memc m9_6_9 (memc m9_6_10 (memc m9_6_11 (memc m9_6_12 (memc m9_2_9 (memc m9_2_11 (memc m9_2_12 (memc m9_6_13 (memc m9_6_14 (memc m9_6_15 (memc m9_6_16 (memc m9_6_17 (memc m9_6_18 (memc m9_6_19 (memc m9_6_20 (memc m9_6_21 (memc m9_6_22 (memc m9_6_23 (memc m9_7_0 (memc m9_7_1 (memc m9_7_2 memn)))))))))))))))))))))))
set_option maxRecDepth 20000 in
theorem iw_wsL_change_r9 : ∀ w ∈ wsL_change_r9, w ∈ lw_tbl := memc m9_7_3 (memc m9_7_9 (memc m9_7_10 (memc m9_7_11 (memc m9_7_12 (memc m9_2_13 (memc m9_7_13 (memc m9_7_14 (memc m9_7_15 (memc m9_7_16 (memc m9_7_17 (memc m9_7_18 (memc m9_7_19 (memc m9_7_20 (memc m9_7_21 (memc m9_7_22 (memc m9_2_14 (memc m9_7_23 (memc m9_8_0 (memc m9_8_1 (memc m9_8_2 (memc m9_8_3 (memc m9_8_4 (memc m9_8_5 memn)))))))))))))))))))))))
set_option maxRecDepth 20000 in
theorem iw_wsL_change_r10 : ∀ w ∈ wsL_change_r10, w ∈ lw_tbl := memc m9_8_6 (memc m9_8_7 (memc m9_8_8 (memc m9_8_9 (memc m9_8_10 (memc m9_8_11 (memc m9_8_12 (memc m9_8_13 (memc m9_8_14 (memc m9_8_15 (memc m9_8_16 (memc m9_8_17 (memc m9_8_18 (memc m9_8_19 (memc m9_8_20 (memc m9_8_21 (memc m9_8_22 (memc m9_2_15 (memc m9_2_16 (memc m9_2_17 (memc m9_8_23 (memc m9_9_0 (memc m9_9_1 (memc m9_9_2 memn)))))))))))))))))))))))
set_option maxRecDepth 20000 in
theorem iw_wsL_change_r11 : ∀ w ∈ wsL_change_r11, w ∈ lw_tbl := memc m9_9_3 (memc m9_9_4 (memc m9_9_5 (memc m9_9_6 (memc m9_9_7 (memc m9_9_8 (memc m9_9_9 (memc m9_9_10 (memc m9_9_11 (memc m9_9_12 (memc m9_9_13 (memc m9_9_14 (memc m9_9_17 (memc m9_9_18 (memc m9_9_19 (memc m9_9_20 (memc m9_9_21 (memc m9_9_22 (memc m9_9_23 (memc m9_10_0 (memc m9_17_11 (memc m9_17_12 (memc m9_17_13 (memc m9_17_14 memn)))))))))))))))))))))))
set_option maxRecDepth 20000 in
theorem iw_wsL_change_r12 : ∀ w ∈ wsL_change_r12, w ∈ lw_tbl := memc m9_17_15 (memc m9_17_16 (memc m9_17_17 (memc m9_17_18 (memc m9_17_19 (memc m9_5_21 (memc m9_5_22 (memc m9_5_23 (memc m9_6_0 (memc m9_10_1 (memc m9_10_2 (memc m9_10_3 (memc m9_10_4 (memc m9_17_20 (memc m9_17_21 (memc m9_17_22 (memc m9_17_23 (memc m9_18_0 (memc m9_18_1 (memc m9_18_2 (memc m9_18_3 (memc m9_18_4 (memc m9_18_5 (memc m9_18_6 memn)))))))))))))))))))))))
set_option maxRecDepth 20000 in
theorem iw_wsL_change_r13 : ∀ w ∈ wsL_change_r13, w ∈ lw_tbl := memc m9_18_7 (memc m9_18_8 (memc m9_18_9 (memc m9_18_10 (memc m9_18_11 (memc m9_18_12 (memc m9_18_13 (memc m9_18_14 (memc m9_18_15 (memc m9_18_16 (memc m9_18_17 (memc m9_18_18 (memc m9_18_19 (memc m9_18_20 (memc m9_18_21 (memc m9_18_22 (memc m9_18_23 (memc m9_19_0 (memc m9_19_1 (memc m9_19_2 (memc m9_19_3 (memc m9_19_4 (memc m9_19_5 (memc m9_19_6 memn)))))))))))))))))))))))
set_option maxRecDepth 20000 in
theorem iw_wsL_change_r14 : ∀ w ∈ wsL_change_r14, w ∈ lw_tbl := memc m9_19_7 (memc m9_13_10 (memc m9_13_11 (memc m9_13_12 (memc m9_13_13 (memc m9_19_8 (memc m9_13_6 (memc m9_13_7 (memc m9_13_8 (memc m9_19_9 (memc m9_19_10 (memc m9_19_11 (memc m9_19_12 (memc m9_19_13 (memc m9_19_14 (memc m9_19_15 (memc m9_19_16 (memc m9_19_17 (memc m9_19_18 (memc m9_19_19 (memc m9_19_20 (memc m9_12_18 (memc m9_12_19 (memc m9_12_20 memn)))))))))))))))))))))))
set_option maxRecDepth 20000 in
theorem iw_wsL_change_r15 : ∀ w ∈ wsL_change_r15, w ∈ lw_tbl := memc m9_12_21 (memc m9_13_1 (memc m9_13_2 (memc m9_13_3 (memc m9_13_4 (memc m9_13_5 (memc m9_13_9 (memc m9_13_14 (memc m9_13_15 (memc m9_13_16 (memc m9_13_17 (memc m9_13_18 (memc m9_13_19 (memc m9_13_20 (memc m9_13_21 (memc m9_13_22 (memc m9_13_23 (memc m9_14_0 (memc m9_14_1 (memc m9_14_2 memn)))))))))))))))))))
set_option maxRecDepth 20000 in
theorem iw_wsL_change : ∀ w ∈ wsL_change, w ∈ lw_tbl := memc m9_15_5 (sub_a (sub_a (sub_a (sub_a (sub_a (sub_a (sub_a (sub_a (iw_wsL_change_r1) (sub_a (iw_wsL_change_r2) (sub_a (iw_wsL_change_r3) (sub_a (iw_wsL_change_r4) (sub_a (iw_wsL_change_r5) (sub_a (iw_wsL_change_r6) (sub_a (iw_wsL_change_r7) (sub_a (iw_wsL_change_r8) (sub_a (iw_wsL_change_r9) (sub_a (iw_wsL_change_r10) (sub_a (iw_wsL_change_r11) (sub_a (iw_wsL_change_r12) (sub_a (iw_wsL_change_r13) (sub_a (iw_wsL_change_r14) (iw_wsL_change_r15))))))))))))))) (wsL_law_in0_wsX40)) (wsL_law_in0_wsX00)) (wsL_law_in0_wsX10)) (wsL_law_in0_wsX20)) (wsL_law_x0)) (wsL_law_x1)) (wsL_law_x2))
set_option maxRecDepth 20000 in
theorem gl_L_change : GoodIn lw_tbl (va_wsS RL 92 yL_change wsL_change) := goodIn_app (goodIn_sub (memc m9_15_3 (memc m9_15_4 (memc m9_4_2 memn))) (by decide +kernel)) (goodIn_sub iw_wsL_change (by decide +kernel))
set_option maxRecDepth 20000 in
theorem iw_wsX4_restore_r1 : ∀ w ∈ wsX4_restore_r1, w ∈ lw_tbl := memc m9_15_17 (memc m9_15_18 (memc m9_2_0 (memc m9_1_19 (memc m9_1_13 (memc m9_1_23 (memc m9_15_19 (memc m9_15_20 (memc m9_15_21 (memc m9_1_18 (memc m9_15_22 (memc m9_3_12 (memc m9_3_11 (memc m9_15_23 (memc m9_16_0 (memc m9_16_1 (memc m9_16_2 (memc m9_3_10 (memc m9_16_3 (memc m9_11_17 (memc m9_11_18 (memc m9_1_22 (memc m9_11_19 (memc m9_2_22 memn)))))))))))))))))))))))
set_option maxRecDepth 20000 in
theorem iw_wsX4_restore_r2 : ∀ w ∈ wsX4_restore_r2, w ∈ lw_tbl := memc m9_11_20 (memc m9_11_21 (memc m9_11_22 (memc m9_11_23 (memc m9_2_23 (memc m9_3_0 (memc m9_11_16 (memc m9_4_14 (memc m9_4_15 (memc m9_4_16 (memc m9_4_17 memn))))))))))
set_option maxRecDepth 20000 in
theorem iw_wsX4_restore : ∀ w ∈ wsX4_restore, w ∈ lw_tbl := memc m9_20_0 (sub_a (sub_a (sub_a (sub_a (sub_a (iw_wsX4_restore_r1) (iw_wsX4_restore_r2)) (wsL_law_in0_wsX40)) (wsL_law_in0_wsX10)) (wsL_law_in0_wsX00)) (wsL_law_x2))
set_option maxRecDepth 20000 in
theorem gl_X4_restore : GoodIn lw_tbl (wsV RL 95 RX4 yX4_restore wsX4_restore) := goodIn_app (goodIn_sub (memc m9_19_21 (memc m9_19_22 (memc m9_19_23 (memc m9_1_2 memn)))) (by decide +kernel)) (goodIn_sub iw_wsX4_restore (by decide +kernel))
set_option maxRecDepth 20000 in
theorem iw_wsX4_undo_r1 : ∀ w ∈ wsX4_undo_r1, w ∈ lw_tbl := memc m9_15_17 (memc m9_15_18 (memc m9_1_19 (memc m9_1_13 (memc m9_5_3 (memc m9_5_4 (memc m9_5_5 (memc m9_1_18 (memc m9_5_6 (memc m9_3_12 (memc m9_20_5 (memc m9_20_6 (memc m9_20_7 (memc m9_20_8 (memc m9_15_23 (memc m9_16_0 (memc m9_16_1 (memc m9_16_2 (memc m9_3_11 (memc m9_3_10 (memc m9_16_3 (memc m9_11_17 (memc m9_11_18 (memc m9_1_22 memn)))))))))))))))))))))))
set_option maxRecDepth 20000 in
theorem iw_wsX4_undo_r2 : ∀ w ∈ wsX4_undo_r2, w ∈ lw_tbl := memc m9_11_19 (memc m9_2_22 (memc m9_11_20 (memc m9_11_21 (memc m9_11_22 (memc m9_11_23 (memc m9_2_23 (memc m9_3_0 memn)))))))
set_option maxRecDepth 20000 in
theorem iw_wsX4_undo : ∀ w ∈ wsX4_undo, w ∈ lw_tbl := memc m9_20_4 (sub_a (sub_a (sub_a (sub_a (sub_a (iw_wsX4_undo_r1) (iw_wsX4_undo_r2)) (wsL_law_in0_wsX40)) (wsL_law_in0_wsX10)) (wsL_law_in0_wsX00)) (wsL_law_x2))
set_option maxRecDepth 20000 in
theorem gl_X4_undo : GoodIn lw_tbl (wsV RL 98 RX4 yX4_undo wsX4_undo) := goodIn_app (goodIn_sub (memc m9_20_1 (memc m9_20_2 (memc m9_20_3 (memc m9_1_2 memn)))) (by decide +kernel)) (goodIn_sub iw_wsX4_undo (by decide +kernel))
