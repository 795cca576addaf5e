set_option maxRecDepth 20000 in
theorem memc {big l : List Cond} {a : Cond} (h : a ∈ big) (t : ∀ w ∈ l, w ∈ big) : ∀ w ∈ a :: l, w ∈ big := fun w hw => (List.mem_cons.mp hw).elim (fun e => e ▸ h) (t w)
set_option maxRecDepth 20000 in
theorem memn {big : List Cond} : ∀ w ∈ ([] : List Cond), w ∈ big := fun _ h => absurd h List.not_mem_nil
set_option maxRecDepth 20000 in
theorem m9_1_0 : Cond.classLink RL 8 RX4 ∈ lw_tbl := wsL_law_in0_1 _ (List.mem_of_getElem? (i := 0) rfl)
set_option maxRecDepth 20000 in
theorem m9_1_1 : Cond.instantiable RX4 8 ∈ lw_tbl := wsL_law_in0_1 _ (List.mem_of_getElem? (i := 1) rfl)
set_option maxRecDepth 20000 in
theorem m9_1_2 : Cond.initialized RX4 ∈ lw_tbl := wsL_law_in0_1 _ (List.mem_of_getElem? (i := 2) rfl)
set_option maxRecDepth 20000 in
theorem m9_1_3 : Cond.classLink RL 68 RX5 ∈ lw_tbl := wsL_law_in0_1 _ (List.mem_of_getElem? (i := 3) rfl)
set_option maxRecDepth 20000 in
theorem m9_1_4 : Cond.instantiable RX5 20 ∈ lw_tbl := wsL_law_in0_1 _ (List.mem_of_getElem? (i := 4) rfl)
set_option maxRecDepth 20000 in
theorem m9_1_5 : Cond.initialized RX5 ∈ lw_tbl := wsL_law_in0_1 _ (List.mem_of_getElem? (i := 5) rfl)
set_option maxRecDepth 20000 in
theorem m9_1_6 : Cond.arrayClass .long ∈ lw_tbl := wsL_law_in0_1 _ (List.mem_of_getElem? (i := 6) rfl)
set_option maxRecDepth 20000 in
theorem m9_1_7 : Cond.methodLink RL 67 yX4_init ∈ lw_tbl := wsL_law_in0_1 _ (List.mem_of_getElem? (i := 7) rfl)
set_option maxRecDepth 20000 in
theorem m9_1_8 : Cond.instanceMethod yX4_init ∈ lw_tbl := wsL_law_in0_1 _ (List.mem_of_getElem? (i := 8) rfl)
set_option maxRecDepth 20000 in
theorem m9_1_9 : Cond.code yX4_init cX4_init 1 none ∈ lw_tbl := wsL_law_in0_1 _ (List.mem_of_getElem? (i := 9) rfl)
set_option maxRecDepth 20000 in
theorem m9_1_10 : Cond.methodLink RX4 1 objectInit ∈ lw_tbl := wsL_law_in0_1 _ (List.mem_of_getElem? (i := 10) rfl)
set_option maxRecDepth 20000 in
theorem m9_1_11 : Cond.instanceMethod objectInit ∈ lw_tbl := wsL_law_in0_1 _ (List.mem_of_getElem? (i := 11) rfl)
set_option maxRecDepth 20000 in
theorem m9_1_12 : Cond.code objectInit ⟨#[0xb1]⟩ 1 none ∈ lw_tbl := wsL_law_in0_1 _ (List.mem_of_getElem? (i := 12) rfl)
set_option maxRecDepth 20000 in
theorem m9_1_13 : Cond.classLink RX4 7 RX2 ∈ lw_tbl := wsL_law_in0_1 _ (List.mem_of_getElem? (i := 13) rfl)
set_option maxRecDepth 20000 in
theorem m9_1_14 : Cond.instantiable RX2 8 ∈ lw_tbl := wsL_law_in0_1 _ (List.mem_of_getElem? (i := 14) rfl)
set_option maxRecDepth 20000 in
theorem m9_1_15 : Cond.initialized RX2 ∈ lw_tbl := wsL_law_in0_1 _ (List.mem_of_getElem? (i := 15) rfl)
set_option maxRecDepth 20000 in
theorem m9_1_16 : Cond.fieldLink RX4 10 "FogOrders" "opening" "LFogOrders$Opening;" ∈ lw_tbl := wsL_law_in0_1 _ (List.mem_of_getElem? (i := 16) rfl)
set_option maxRecDepth 20000 in
theorem m9_1_17 : Cond.fieldLink RX4 20 "FogOrders" "board" "LFogOrders$Board;" ∈ lw_tbl := wsL_law_in0_1 _ (List.mem_of_getElem? (i := 17) rfl)
set_option maxRecDepth 20000 in
theorem m9_1_18 : Cond.fieldLink RX4 21 "FogOrders" "trialOpening" "LFogOrders$Opening;" ∈ lw_tbl := wsL_law_in0_1 _ (List.mem_of_getElem? (i := 18) rfl)
set_option maxRecDepth 20000 in
theorem m9_1_19 : Cond.fieldLink RX4 24 "FogOrders" "trial" "LFogOrders$Board;" ∈ lw_tbl := wsL_law_in0_1 _ (List.mem_of_getElem? (i := 19) rfl)
set_option maxRecDepth 20000 in
theorem m9_1_20 : Cond.classLink RX4 27 RX1 ∈ lw_tbl := wsL_law_in0_1 _ (List.mem_of_getElem? (i := 20) rfl)
set_option maxRecDepth 20000 in
theorem m9_1_21 : Cond.instantiable RX1 3 ∈ lw_tbl := wsL_law_in0_1 _ (List.mem_of_getElem? (i := 21) rfl)
set_option maxRecDepth 20000 in
theorem m9_1_22 : Cond.initialized RX1 ∈ lw_tbl := wsL_law_in0_1 _ (List.mem_of_getElem? (i := 22) rfl)
set_option maxRecDepth 20000 in
theorem m9_1_23 : Cond.fieldLink RX4 30 "FogOrders" "history" "LFogOrders$History;" ∈ lw_tbl := wsL_law_in0_1 _ (List.mem_of_getElem? (i := 23) rfl)
set_option maxRecDepth 20000 in
theorem m9_2_0 : Cond.classLink RX4 34 RX0 ∈ lw_tbl := wsL_law_in0_2 _ (List.mem_of_getElem? (i := 0) rfl)
set_option maxRecDepth 20000 in
theorem m9_2_1 : Cond.instantiable RX0 3 ∈ lw_tbl := wsL_law_in0_2 _ (List.mem_of_getElem? (i := 1) rfl)
set_option maxRecDepth 20000 in
theorem m9_2_2 : Cond.initialized RX0 ∈ lw_tbl := wsL_law_in0_2 _ (List.mem_of_getElem? (i := 2) rfl)
set_option maxRecDepth 20000 in
theorem m9_2_3 : Cond.fieldLink RX4 37 "FogOrders" "snapshot" "LFogOrders$Board;" ∈ lw_tbl := wsL_law_in0_2 _ (List.mem_of_getElem? (i := 3) rfl)
set_option maxRecDepth 20000 in
theorem m9_2_4 : Cond.fieldLink RX4 40 "FogOrders" "hasSnapshot" "Z" ∈ lw_tbl := wsL_law_in0_2 _ (List.mem_of_getElem? (i := 4) rfl)
set_option maxRecDepth 20000 in
theorem m9_2_5 : Cond.classLink RX4 44 RX3 ∈ lw_tbl := wsL_law_in0_2 _ (List.mem_of_getElem? (i := 5) rfl)
set_option maxRecDepth 20000 in
theorem m9_2_6 : Cond.instantiable RX3 6 ∈ lw_tbl := wsL_law_in0_2 _ (List.mem_of_getElem? (i := 6) rfl)
set_option maxRecDepth 20000 in
theorem m9_2_7 : Cond.initialized RX3 ∈ lw_tbl := wsL_law_in0_2 _ (List.mem_of_getElem? (i := 7) rfl)
set_option maxRecDepth 20000 in
theorem m9_2_8 : Cond.fieldLink RX4 47 "FogOrders" "text" "LFogOrders$OrderText;" ∈ lw_tbl := wsL_law_in0_2 _ (List.mem_of_getElem? (i := 8) rfl)
set_option maxRecDepth 20000 in
theorem m9_2_9 : Cond.instanceMethod yX2_init ∈ lw_tbl := wsL_law_in0_2 _ (List.mem_of_getElem? (i := 9) rfl)
set_option maxRecDepth 20000 in
theorem m9_2_10 : Cond.code yX2_init cX2_init 1 none ∈ lw_tbl := wsL_law_in0_2 _ (List.mem_of_getElem? (i := 10) rfl)
set_option maxRecDepth 20000 in
theorem m9_2_11 : Cond.methodLink RX2 3 objectInit ∈ lw_tbl := wsL_law_in0_2 _ (List.mem_of_getElem? (i := 11) rfl)
set_option maxRecDepth 20000 in
theorem m9_2_12 : Cond.classLink RX2 9 RX0 ∈ lw_tbl := wsL_law_in0_2 _ (List.mem_of_getElem? (i := 12) rfl)
set_option maxRecDepth 20000 in
theorem m9_2_13 : Cond.fieldLink RX2 12 "FogOrders$Opening" "board" "LFogOrders$Board;" ∈ lw_tbl := wsL_law_in0_2 _ (List.mem_of_getElem? (i := 13) rfl)
set_option maxRecDepth 20000 in
theorem m9_2_14 : Cond.arrayClass .int ∈ lw_tbl := wsL_law_in0_2 _ (List.mem_of_getElem? (i := 14) rfl)
set_option maxRecDepth 20000 in
theorem m9_2_15 : Cond.fieldLink RX2 18 "FogOrders$Opening" "cut" "[I" ∈ lw_tbl := wsL_law_in0_2 _ (List.mem_of_getElem? (i := 15) rfl)
set_option maxRecDepth 20000 in
theorem m9_2_16 : Cond.fieldLink RX2 22 "FogOrders$Opening" "counts" "[I" ∈ lw_tbl := wsL_law_in0_2 _ (List.mem_of_getElem? (i := 16) rfl)
set_option maxRecDepth 20000 in
theorem m9_2_17 : Cond.fieldLink RX2 25 "FogOrders$Opening" "strength" "[I" ∈ lw_tbl := wsL_law_in0_2 _ (List.mem_of_getElem? (i := 17) rfl)
set_option maxRecDepth 20000 in
theorem m9_2_18 : Cond.fieldLink RX2 28 "FogOrders$Opening" "reason" "[I" ∈ lw_tbl := wsL_law_in0_2 _ (List.mem_of_getElem? (i := 18) rfl)
set_option maxRecDepth 20000 in
theorem m9_2_19 : Cond.fieldLink RX2 31 "FogOrders$Opening" "driver" "[I" ∈ lw_tbl := wsL_law_in0_2 _ (List.mem_of_getElem? (i := 19) rfl)
set_option maxRecDepth 20000 in
theorem m9_2_20 : Cond.fieldLink RX2 34 "FogOrders$Opening" "waits" "[I" ∈ lw_tbl := wsL_law_in0_2 _ (List.mem_of_getElem? (i := 20) rfl)
set_option maxRecDepth 20000 in
theorem m9_2_21 : Cond.fieldLink RX2 37 "FogOrders$Opening" "stands" "[I" ∈ lw_tbl := wsL_law_in0_2 _ (List.mem_of_getElem? (i := 21) rfl)
set_option maxRecDepth 20000 in
theorem m9_2_22 : Cond.methodLink RX2 11 yX0_init ∈ lw_tbl := wsL_law_in0_2 _ (List.mem_of_getElem? (i := 22) rfl)
set_option maxRecDepth 20000 in
theorem m9_2_23 : Cond.instanceMethod yX0_init ∈ lw_tbl := wsL_law_in0_2 _ (List.mem_of_getElem? (i := 23) rfl)
set_option maxRecDepth 20000 in
theorem m9_3_0 : Cond.code yX0_init cX0_init 1 none ∈ lw_tbl := wsL_law_in0_3 _ (List.mem_of_getElem? (i := 0) rfl)
set_option maxRecDepth 20000 in
theorem m9_3_1 : Cond.methodLink RX0 3 objectInit ∈ lw_tbl := wsL_law_in0_3 _ (List.mem_of_getElem? (i := 1) rfl)
set_option maxRecDepth 20000 in
theorem m9_3_2 : Cond.fieldLink RX0 9 "FogOrders$Board" "numbers" "[I" ∈ lw_tbl := wsL_law_in0_3 _ (List.mem_of_getElem? (i := 2) rfl)
set_option maxRecDepth 20000 in
theorem m9_3_3 : Cond.fieldLink RX0 15 "FogOrders$Board" "owners" "[I" ∈ lw_tbl := wsL_law_in0_3 _ (List.mem_of_getElem? (i := 3) rfl)
set_option maxRecDepth 20000 in
theorem m9_3_4 : Cond.fieldLink RX0 18 "FogOrders$Board" "cells" "[I" ∈ lw_tbl := wsL_law_in0_3 _ (List.mem_of_getElem? (i := 4) rfl)
set_option maxRecDepth 20000 in
theorem m9_3_5 : Cond.methodLink RX0 21 yJ7_fill_53178 ∈ lw_tbl := wsL_law_in0_3 _ (List.mem_of_getElem? (i := 5) rfl)
set_option maxRecDepth 20000 in
theorem m9_3_6 : Cond.static yJ7_fill_53178 ∈ lw_tbl := wsL_law_in0_3 _ (List.mem_of_getElem? (i := 6) rfl)
set_option maxRecDepth 20000 in
theorem m9_3_7 : Cond.initialized RJ7 ∈ lw_tbl := wsL_law_in0_3 _ (List.mem_of_getElem? (i := 7) rfl)
set_option maxRecDepth 20000 in
theorem m9_3_8 : Cond.code yJ7_fill_53178 cJ7_fill_53178 4 none ∈ lw_tbl := wsL_law_in0_3 _ (List.mem_of_getElem? (i := 8) rfl)
set_option maxRecDepth 20000 in
theorem m9_3_9 : Cond.methodLink RX4 29 yX1_init ∈ lw_tbl := wsL_law_in0_3 _ (List.mem_of_getElem? (i := 9) rfl)
set_option maxRecDepth 20000 in
theorem m9_3_10 : Cond.instanceMethod yX1_init ∈ lw_tbl := wsL_law_in0_3 _ (List.mem_of_getElem? (i := 10) rfl)
set_option maxRecDepth 20000 in
theorem m9_3_11 : Cond.code yX1_init cX1_init 2 none ∈ lw_tbl := wsL_law_in0_3 _ (List.mem_of_getElem? (i := 11) rfl)
set_option maxRecDepth 20000 in
theorem m9_3_12 : Cond.methodLink RX1 3 objectInit ∈ lw_tbl := wsL_law_in0_3 _ (List.mem_of_getElem? (i := 12) rfl)
set_option maxRecDepth 20000 in
theorem m9_3_13 : Cond.classLink RX1 9 RX0 ∈ lw_tbl := wsL_law_in0_3 _ (List.mem_of_getElem? (i := 13) rfl)
set_option maxRecDepth 20000 in
theorem m9_3_14 : Cond.fieldLink RX1 11 "FogOrders$History" "boards" "[LFogOrders$Board;" ∈ lw_tbl := wsL_law_in0_3 _ (List.mem_of_getElem? (i := 14) rfl)
set_option maxRecDepth 20000 in
theorem m9_3_15 : Cond.fieldLink RX1 17 "FogOrders$History" "oldest" "I" ∈ lw_tbl := wsL_law_in0_3 _ (List.mem_of_getElem? (i := 15) rfl)
set_option maxRecDepth 20000 in
theorem m9_3_16 : Cond.fieldLink RX1 21 "FogOrders$History" "saved" "I" ∈ lw_tbl := wsL_law_in0_3 _ (List.mem_of_getElem? (i := 16) rfl)
set_option maxRecDepth 20000 in
theorem m9_3_17 : Cond.methodLink RX1 24 yX0_init ∈ lw_tbl := wsL_law_in0_3 _ (List.mem_of_getElem? (i := 17) rfl)
set_option maxRecDepth 20000 in
theorem m9_3_18 : Cond.methodLink RX4 36 yX0_init ∈ lw_tbl := wsL_law_in0_3 _ (List.mem_of_getElem? (i := 18) rfl)
set_option maxRecDepth 20000 in
theorem m9_3_19 : Cond.instanceMethod yX3_init ∈ lw_tbl := wsL_law_in0_3 _ (List.mem_of_getElem? (i := 19) rfl)
set_option maxRecDepth 20000 in
theorem m9_3_20 : Cond.code yX3_init cX3_init 1 none ∈ lw_tbl := wsL_law_in0_3 _ (List.mem_of_getElem? (i := 20) rfl)
set_option maxRecDepth 20000 in
theorem m9_3_21 : Cond.methodLink RX3 3 objectInit ∈ lw_tbl := wsL_law_in0_3 _ (List.mem_of_getElem? (i := 21) rfl)
set_option maxRecDepth 20000 in
theorem m9_3_22 : Cond.fieldLink RX3 9 "FogOrders$OrderText" "codes" "[I" ∈ lw_tbl := wsL_law_in0_3 _ (List.mem_of_getElem? (i := 22) rfl)
set_option maxRecDepth 20000 in
theorem m9_3_23 : Cond.fieldLink RX3 15 "FogOrders$OrderText" "length" "I" ∈ lw_tbl := wsL_law_in0_3 _ (List.mem_of_getElem? (i := 23) rfl)
set_option maxRecDepth 20000 in
theorem m9_4_0 : Cond.fieldLink RX3 19 "FogOrders$OrderText" "armyRead" "I" ∈ lw_tbl := wsL_law_in0_4 _ (List.mem_of_getElem? (i := 0) rfl)
set_option maxRecDepth 20000 in
theorem m9_4_1 : Cond.fieldLink RX3 22 "FogOrders$OrderText" "kindRead" "I" ∈ lw_tbl := wsL_law_in0_4 _ (List.mem_of_getElem? (i := 1) rfl)
set_option maxRecDepth 20000 in
theorem m9_4_2 : Cond.fieldLink RX3 25 "FogOrders$OrderText" "fromRead" "I" ∈ lw_tbl := wsL_law_in0_4 _ (List.mem_of_getElem? (i := 2) rfl)
set_option maxRecDepth 20000 in
theorem m9_4_3 : Cond.fieldLink RX3 28 "FogOrders$OrderText" "toRead" "I" ∈ lw_tbl := wsL_law_in0_4 _ (List.mem_of_getElem? (i := 3) rfl)
set_option maxRecDepth 20000 in
theorem m9_4_4 : Cond.methodLink RL 70 yX5_init ∈ lw_tbl := wsL_law_in0_4 _ (List.mem_of_getElem? (i := 4) rfl)
set_option maxRecDepth 20000 in
theorem m9_4_5 : Cond.instanceMethod yX5_init ∈ lw_tbl := wsL_law_in0_4 _ (List.mem_of_getElem? (i := 5) rfl)
set_option maxRecDepth 20000 in
theorem m9_4_6 : Cond.code yX5_init cX5_init 2 none ∈ lw_tbl := wsL_law_in0_4 _ (List.mem_of_getElem? (i := 6) rfl)
set_option maxRecDepth 20000 in
theorem m9_4_7 : Cond.methodLink RX5 1 objectInit ∈ lw_tbl := wsL_law_in0_4 _ (List.mem_of_getElem? (i := 7) rfl)
set_option maxRecDepth 20000 in
theorem m9_4_8 : Cond.fieldLink RX5 7 "FogOrdersModel" "s" "[I" ∈ lw_tbl := wsL_law_in0_4 _ (List.mem_of_getElem? (i := 8) rfl)
set_option maxRecDepth 20000 in
theorem m9_4_9 : Cond.fieldLink RX5 13 "FogOrdersModel" "aside" "[I" ∈ lw_tbl := wsL_law_in0_4 _ (List.mem_of_getElem? (i := 9) rfl)
set_option maxRecDepth 20000 in
theorem m9_4_10 : Cond.fieldLink RX5 16 "FogOrdersModel" "snapshot" "[I" ∈ lw_tbl := wsL_law_in0_4 _ (List.mem_of_getElem? (i := 10) rfl)
set_option maxRecDepth 20000 in
theorem m9_4_11 : Cond.fieldLink RX5 19 "FogOrdersModel" "saved" "[I" ∈ lw_tbl := wsL_law_in0_4 _ (List.mem_of_getElem? (i := 11) rfl)
set_option maxRecDepth 20000 in
theorem m9_4_12 : Cond.fieldLink RX5 22 "FogOrdersModel" "text" "[I" ∈ lw_tbl := wsL_law_in0_4 _ (List.mem_of_getElem? (i := 12) rfl)
set_option maxRecDepth 20000 in
theorem m9_4_13 : Cond.arrayClass .boolean ∈ lw_tbl := wsL_law_in0_4 _ (List.mem_of_getElem? (i := 13) rfl)
set_option maxRecDepth 20000 in
theorem m9_4_14 : Cond.fieldLink RX5 25 "FogOrdersModel" "counts" "[Z" ∈ lw_tbl := wsL_law_in0_4 _ (List.mem_of_getElem? (i := 14) rfl)
set_option maxRecDepth 20000 in
theorem m9_4_15 : Cond.fieldLink RX5 29 "FogOrdersModel" "isCut" "[Z" ∈ lw_tbl := wsL_law_in0_4 _ (List.mem_of_getElem? (i := 15) rfl)
set_option maxRecDepth 20000 in
theorem m9_4_16 : Cond.fieldLink RX5 32 "FogOrdersModel" "strength" "[I" ∈ lw_tbl := wsL_law_in0_4 _ (List.mem_of_getElem? (i := 16) rfl)
set_option maxRecDepth 20000 in
theorem m9_4_17 : Cond.fieldLink RX5 35 "FogOrdersModel" "fails" "[Z" ∈ lw_tbl := wsL_law_in0_4 _ (List.mem_of_getElem? (i := 17) rfl)
set_option maxRecDepth 20000 in
theorem m9_4_18 : Cond.fieldLink RX5 38 "FogOrdersModel" "why" "[I" ∈ lw_tbl := wsL_law_in0_4 _ (List.mem_of_getElem? (i := 18) rfl)
set_option maxRecDepth 20000 in
theorem m9_4_19 : Cond.fieldLink RX5 41 "FogOrdersModel" "driver" "[I" ∈ lw_tbl := wsL_law_in0_4 _ (List.mem_of_getElem? (i := 19) rfl)
set_option maxRecDepth 20000 in
theorem m9_4_20 : Cond.fieldLink RX5 44 "FogOrdersModel" "place" "[I" ∈ lw_tbl := wsL_law_in0_4 _ (List.mem_of_getElem? (i := 20) rfl)
set_option maxRecDepth 20000 in
theorem m9_4_21 : Cond.fieldLink RX5 47 "FogOrdersModel" "isDone" "[Z" ∈ lw_tbl := wsL_law_in0_4 _ (List.mem_of_getElem? (i := 21) rfl)
set_option maxRecDepth 20000 in
theorem m9_4_22 : Cond.methodLink RL 71 yL_army ∈ lw_tbl := wsL_law_in0_4 _ (List.mem_of_getElem? (i := 22) rfl)
set_option maxRecDepth 20000 in
theorem m9_4_23 : Cond.static yL_army ∈ lw_tbl := wsL_law_in0_4 _ (List.mem_of_getElem? (i := 23) rfl)
set_option maxRecDepth 20000 in
theorem m9_5_0 : Cond.initialized RL ∈ lw_tbl := wsL_law_in0_5 _ (List.mem_of_getElem? (i := 0) rfl)
set_option maxRecDepth 20000 in
theorem m9_5_1 : Cond.codeWith yL_army cL_army 5 (some .int) [(0, 10, 13, 13), (0, 10, 17, 15)] ∈ lw_tbl := wsL_law_in0_5 _ (List.mem_of_getElem? (i := 1) rfl)
set_option maxRecDepth 20000 in
theorem m9_5_2 : Cond.classLink RL 13 "java/lang/IndexOutOfBoundsException" ∈ lw_tbl := wsL_law_in0_5 _ (List.mem_of_getElem? (i := 2) rfl)
set_option maxRecDepth 20000 in
theorem m9_5_3 : Cond.classLink RL 15 "java/lang/IllegalStateException" ∈ lw_tbl := wsL_law_in0_5 _ (List.mem_of_getElem? (i := 3) rfl)
set_option maxRecDepth 20000 in
theorem m9_5_4 : Cond.methodLink RL 7 yX4_army ∈ lw_tbl := wsL_law_in0_5 _ (List.mem_of_getElem? (i := 4) rfl)
set_option maxRecDepth 20000 in
theorem m9_5_5 : Cond.instanceMethod yX4_army ∈ lw_tbl := wsL_law_in0_5 _ (List.mem_of_getElem? (i := 5) rfl)
set_option maxRecDepth 20000 in
theorem m9_5_6 : Cond.selects RX4 yX4_army yX4_army ∈ lw_tbl := wsL_law_in0_5 _ (List.mem_of_getElem? (i := 6) rfl)
set_option maxRecDepth 20000 in
theorem m9_5_7 : Cond.code yX4_army cX4_army 3 (some .int) ∈ lw_tbl := wsL_law_in0_5 _ (List.mem_of_getElem? (i := 7) rfl)
set_option maxRecDepth 20000 in
theorem m9_5_8 : Cond.classLink RX4 58 "java/lang/IndexOutOfBoundsException" ∈ lw_tbl := wsL_law_in0_5 _ (List.mem_of_getElem? (i := 8) rfl)
set_option maxRecDepth 20000 in
theorem m9_5_9 : Cond.initialized "java/lang/IndexOutOfBoundsException" ∈ lw_tbl := wsL_law_in0_5 _ (List.mem_of_getElem? (i := 9) rfl)
set_option maxRecDepth 20000 in
theorem m9_5_10 : Cond.classLink RX4 72 "java/lang/IllegalStateException" ∈ lw_tbl := wsL_law_in0_5 _ (List.mem_of_getElem? (i := 10) rfl)
set_option maxRecDepth 20000 in
theorem m9_5_11 : Cond.initialized "java/lang/IllegalStateException" ∈ lw_tbl := wsL_law_in0_5 _ (List.mem_of_getElem? (i := 11) rfl)
set_option maxRecDepth 20000 in
theorem m9_5_12 : Cond.methodLink RX4 51 yX4_isSeat ∈ lw_tbl := wsL_law_in0_5 _ (List.mem_of_getElem? (i := 12) rfl)
set_option maxRecDepth 20000 in
theorem m9_5_13 : Cond.static yX4_isSeat ∈ lw_tbl := wsL_law_in0_5 _ (List.mem_of_getElem? (i := 13) rfl)
set_option maxRecDepth 20000 in
theorem m9_5_14 : Cond.code yX4_isSeat cX4_isSeat 1 (some .boolean) ∈ lw_tbl := wsL_law_in0_5 _ (List.mem_of_getElem? (i := 14) rfl)
set_option maxRecDepth 20000 in
theorem m9_5_15 : Cond.methodLink RX4 55 yX4_isField ∈ lw_tbl := wsL_law_in0_5 _ (List.mem_of_getElem? (i := 15) rfl)
set_option maxRecDepth 20000 in
theorem m9_5_16 : Cond.static yX4_isField ∈ lw_tbl := wsL_law_in0_5 _ (List.mem_of_getElem? (i := 16) rfl)
set_option maxRecDepth 20000 in
theorem m9_5_17 : Cond.code yX4_isField cX4_isField 1 (some .boolean) ∈ lw_tbl := wsL_law_in0_5 _ (List.mem_of_getElem? (i := 17) rfl)
set_option maxRecDepth 20000 in
theorem m9_5_18 : Cond.methodLink RX4 65 yX0_armyOn ∈ lw_tbl := wsL_law_in0_5 _ (List.mem_of_getElem? (i := 18) rfl)
set_option maxRecDepth 20000 in
theorem m9_5_19 : Cond.instanceMethod yX0_armyOn ∈ lw_tbl := wsL_law_in0_5 _ (List.mem_of_getElem? (i := 19) rfl)
set_option maxRecDepth 20000 in
theorem m9_5_20 : Cond.selects RX0 yX0_armyOn yX0_armyOn ∈ lw_tbl := wsL_law_in0_5 _ (List.mem_of_getElem? (i := 20) rfl)
set_option maxRecDepth 20000 in
theorem m9_5_21 : Cond.code yX0_armyOn cX0_armyOn 3 (some .int) ∈ lw_tbl := wsL_law_in0_5 _ (List.mem_of_getElem? (i := 21) rfl)
set_option maxRecDepth 20000 in
theorem m9_5_22 : Cond.methodLink RX0 33 yX0_number ∈ lw_tbl := wsL_law_in0_5 _ (List.mem_of_getElem? (i := 22) rfl)
set_option maxRecDepth 20000 in
theorem m9_5_23 : Cond.instanceMethod yX0_number ∈ lw_tbl := wsL_law_in0_5 _ (List.mem_of_getElem? (i := 23) rfl)
set_option maxRecDepth 20000 in
theorem m9_6_0 : Cond.selects RX0 yX0_number yX0_number ∈ lw_tbl := wsL_law_in0_6 _ (List.mem_of_getElem? (i := 0) rfl)
set_option maxRecDepth 20000 in
theorem m9_6_1 : Cond.code yX0_number cX0_number 2 (some .int) ∈ lw_tbl := wsL_law_in0_6 _ (List.mem_of_getElem? (i := 1) rfl)
set_option maxRecDepth 20000 in
theorem m9_6_2 : Cond.methodLink RX0 41 yX0_of ∈ lw_tbl := wsL_law_in0_6 _ (List.mem_of_getElem? (i := 2) rfl)
set_option maxRecDepth 20000 in
theorem m9_6_3 : Cond.instanceMethod yX0_of ∈ lw_tbl := wsL_law_in0_6 _ (List.mem_of_getElem? (i := 3) rfl)
set_option maxRecDepth 20000 in
theorem m9_6_4 : Cond.selects RX0 yX0_of yX0_of ∈ lw_tbl := wsL_law_in0_6 _ (List.mem_of_getElem? (i := 4) rfl)
set_option maxRecDepth 20000 in
theorem m9_6_5 : Cond.code yX0_of cX0_of 4 (some .int) ∈ lw_tbl := wsL_law_in0_6 _ (List.mem_of_getElem? (i := 5) rfl)
set_option maxRecDepth 20000 in
theorem m9_6_6 : Cond.methodLink RX4 69 yX0_number ∈ lw_tbl := wsL_law_in0_6 _ (List.mem_of_getElem? (i := 6) rfl)
set_option maxRecDepth 20000 in
theorem m9_6_7 : Cond.methodLink RX4 77 yX1_save ∈ lw_tbl := wsL_law_in0_6 _ (List.mem_of_getElem? (i := 7) rfl)
set_option maxRecDepth 20000 in
theorem m9_6_8 : Cond.instanceMethod yX1_save ∈ lw_tbl := wsL_law_in0_6 _ (List.mem_of_getElem? (i := 8) rfl)
set_option maxRecDepth 20000 in
theorem m9_6_9 : Cond.selects RX1 yX1_save yX1_save ∈ lw_tbl := wsL_law_in0_6 _ (List.mem_of_getElem? (i := 9) rfl)
set_option maxRecDepth 20000 in
theorem m9_6_10 : Cond.code yX1_save cX1_save 3 none ∈ lw_tbl := wsL_law_in0_6 _ (List.mem_of_getElem? (i := 10) rfl)
set_option maxRecDepth 20000 in
theorem m9_6_11 : Cond.methodLink RX1 25 yX1_placeOf ∈ lw_tbl := wsL_law_in0_6 _ (List.mem_of_getElem? (i := 11) rfl)
set_option maxRecDepth 20000 in
theorem m9_6_12 : Cond.instanceMethod yX1_placeOf ∈ lw_tbl := wsL_law_in0_6 _ (List.mem_of_getElem? (i := 12) rfl)
set_option maxRecDepth 20000 in
theorem m9_6_13 : Cond.selects RX1 yX1_placeOf yX1_placeOf ∈ lw_tbl := wsL_law_in0_6 _ (List.mem_of_getElem? (i := 13) rfl)
set_option maxRecDepth 20000 in
theorem m9_6_14 : Cond.code yX1_placeOf cX1_placeOf 3 (some (.object "FogOrders$Board")) ∈ lw_tbl := wsL_law_in0_6 _ (List.mem_of_getElem? (i := 14) rfl)
set_option maxRecDepth 20000 in
theorem m9_6_15 : Cond.methodLink RX1 29 yX0_copyFrom ∈ lw_tbl := wsL_law_in0_6 _ (List.mem_of_getElem? (i := 15) rfl)
set_option maxRecDepth 20000 in
theorem m9_6_16 : Cond.instanceMethod yX0_copyFrom ∈ lw_tbl := wsL_law_in0_6 _ (List.mem_of_getElem? (i := 16) rfl)
set_option maxRecDepth 20000 in
theorem m9_6_17 : Cond.selects RX0 yX0_copyFrom yX0_copyFrom ∈ lw_tbl := wsL_law_in0_6 _ (List.mem_of_getElem? (i := 17) rfl)
set_option maxRecDepth 20000 in
theorem m9_6_18 : Cond.code yX0_copyFrom cX0_copyFrom 2 none ∈ lw_tbl := wsL_law_in0_6 _ (List.mem_of_getElem? (i := 18) rfl)
set_option maxRecDepth 20000 in
theorem m9_6_19 : Cond.methodLink RX0 27 arraycopyName ∈ lw_tbl := wsL_law_in0_6 _ (List.mem_of_getElem? (i := 19) rfl)
set_option maxRecDepth 20000 in
theorem m9_6_20 : Cond.native arraycopyName ∈ lw_tbl := wsL_law_in0_6 _ (List.mem_of_getElem? (i := 20) rfl)
set_option maxRecDepth 20000 in
theorem m9_6_21 : Cond.static arraycopyName ∈ lw_tbl := wsL_law_in0_6 _ (List.mem_of_getElem? (i := 21) rfl)
set_option maxRecDepth 20000 in
theorem m9_6_22 : Cond.initialized "java/lang/System" ∈ lw_tbl := wsL_law_in0_6 _ (List.mem_of_getElem? (i := 22) rfl)
set_option maxRecDepth 20000 in
theorem m9_6_23 : Cond.methodLink RX4 81 yX0_setUp ∈ lw_tbl := wsL_law_in0_6 _ (List.mem_of_getElem? (i := 23) rfl)
set_option maxRecDepth 20000 in
theorem m9_7_0 : Cond.instanceMethod yX0_setUp ∈ lw_tbl := wsL_law_in0_7 _ (List.mem_of_getElem? (i := 0) rfl)
set_option maxRecDepth 20000 in
theorem m9_7_1 : Cond.selects RX0 yX0_setUp yX0_setUp ∈ lw_tbl := wsL_law_in0_7 _ (List.mem_of_getElem? (i := 1) rfl)
set_option maxRecDepth 20000 in
theorem m9_7_2 : Cond.code yX0_setUp cX0_setUp 4 (some .int) ∈ lw_tbl := wsL_law_in0_7 _ (List.mem_of_getElem? (i := 2) rfl)
set_option maxRecDepth 20000 in
theorem m9_7_3 : Cond.methodLink RX0 45 yX0_put ∈ lw_tbl := wsL_law_in0_7 _ (List.mem_of_getElem? (i := 3) rfl)
set_option maxRecDepth 20000 in
theorem m9_7_4 : Cond.instanceMethod yX0_put ∈ lw_tbl := wsL_law_in0_7 _ (List.mem_of_getElem? (i := 4) rfl)
set_option maxRecDepth 20000 in
theorem m9_7_5 : Cond.selects RX0 yX0_put yX0_put ∈ lw_tbl := wsL_law_in0_7 _ (List.mem_of_getElem? (i := 5) rfl)
set_option maxRecDepth 20000 in
theorem m9_7_6 : Cond.code yX0_put cX0_put 5 none ∈ lw_tbl := wsL_law_in0_7 _ (List.mem_of_getElem? (i := 6) rfl)
set_option maxRecDepth 20000 in
theorem m9_7_7 : Cond.static yX4_enter ∈ lw_tbl := wsL_law_in0_7 _ (List.mem_of_getElem? (i := 7) rfl)
set_option maxRecDepth 20000 in
theorem m9_7_8 : Cond.code yX4_enter cX4_enter 3 none ∈ lw_tbl := wsL_law_in0_7 _ (List.mem_of_getElem? (i := 8) rfl)
set_option maxRecDepth 20000 in
theorem m9_7_9 : Cond.methodLink RL 76 yX5_army ∈ lw_tbl := wsL_law_in0_7 _ (List.mem_of_getElem? (i := 9) rfl)
set_option maxRecDepth 20000 in
theorem m9_7_10 : Cond.instanceMethod yX5_army ∈ lw_tbl := wsL_law_in0_7 _ (List.mem_of_getElem? (i := 10) rfl)
set_option maxRecDepth 20000 in
theorem m9_7_11 : Cond.selects RX5 yX5_army yX5_army ∈ lw_tbl := wsL_law_in0_7 _ (List.mem_of_getElem? (i := 11) rfl)
set_option maxRecDepth 20000 in
theorem m9_7_12 : Cond.code yX5_army cX5_army 4 (some .int) ∈ lw_tbl := wsL_law_in0_7 _ (List.mem_of_getElem? (i := 12) rfl)
set_option maxRecDepth 20000 in
theorem m9_7_13 : Cond.methodLink RX5 141 yX5_isSeat ∈ lw_tbl := wsL_law_in0_7 _ (List.mem_of_getElem? (i := 13) rfl)
set_option maxRecDepth 20000 in
theorem m9_7_14 : Cond.static yX5_isSeat ∈ lw_tbl := wsL_law_in0_7 _ (List.mem_of_getElem? (i := 14) rfl)
set_option maxRecDepth 20000 in
theorem m9_7_15 : Cond.code yX5_isSeat cX5_isSeat 1 (some .boolean) ∈ lw_tbl := wsL_law_in0_7 _ (List.mem_of_getElem? (i := 15) rfl)
set_option maxRecDepth 20000 in
theorem m9_7_16 : Cond.methodLink RX5 54 yX5_in ∈ lw_tbl := wsL_law_in0_7 _ (List.mem_of_getElem? (i := 16) rfl)
set_option maxRecDepth 20000 in
theorem m9_7_17 : Cond.static yX5_in ∈ lw_tbl := wsL_law_in0_7 _ (List.mem_of_getElem? (i := 17) rfl)
set_option maxRecDepth 20000 in
theorem m9_7_18 : Cond.code yX5_in cX5_in 3 (some .boolean) ∈ lw_tbl := wsL_law_in0_7 _ (List.mem_of_getElem? (i := 18) rfl)
set_option maxRecDepth 20000 in
theorem m9_7_19 : Cond.methodLink RX5 144 yX5_isField ∈ lw_tbl := wsL_law_in0_7 _ (List.mem_of_getElem? (i := 19) rfl)
set_option maxRecDepth 20000 in
theorem m9_7_20 : Cond.static yX5_isField ∈ lw_tbl := wsL_law_in0_7 _ (List.mem_of_getElem? (i := 20) rfl)
set_option maxRecDepth 20000 in
theorem m9_7_21 : Cond.code yX5_isField cX5_isField 1 (some .boolean) ∈ lw_tbl := wsL_law_in0_7 _ (List.mem_of_getElem? (i := 21) rfl)
set_option maxRecDepth 20000 in
theorem m9_7_22 : Cond.methodLink RX5 72 yX5_armyOn ∈ lw_tbl := wsL_law_in0_7 _ (List.mem_of_getElem? (i := 22) rfl)
set_option maxRecDepth 20000 in
theorem m9_7_23 : Cond.instanceMethod yX5_armyOn ∈ lw_tbl := wsL_law_in0_7 _ (List.mem_of_getElem? (i := 23) rfl)
set_option maxRecDepth 20000 in
theorem m9_8_0 : Cond.selects RX5 yX5_armyOn yX5_armyOn ∈ lw_tbl := wsL_law_in0_8 _ (List.mem_of_getElem? (i := 0) rfl)
set_option maxRecDepth 20000 in
theorem m9_8_1 : Cond.code yX5_armyOn cX5_armyOn 4 (some .int) ∈ lw_tbl := wsL_law_in0_8 _ (List.mem_of_getElem? (i := 1) rfl)
set_option maxRecDepth 20000 in
theorem m9_8_2 : Cond.methodLink RX5 65 yX5_of ∈ lw_tbl := wsL_law_in0_8 _ (List.mem_of_getElem? (i := 2) rfl)
set_option maxRecDepth 20000 in
theorem m9_8_3 : Cond.instanceMethod yX5_of ∈ lw_tbl := wsL_law_in0_8 _ (List.mem_of_getElem? (i := 3) rfl)
set_option maxRecDepth 20000 in
theorem m9_8_4 : Cond.selects RX5 yX5_of yX5_of ∈ lw_tbl := wsL_law_in0_8 _ (List.mem_of_getElem? (i := 4) rfl)
set_option maxRecDepth 20000 in
theorem m9_8_5 : Cond.code yX5_of cX5_of 3 (some .int) ∈ lw_tbl := wsL_law_in0_8 _ (List.mem_of_getElem? (i := 5) rfl)
set_option maxRecDepth 20000 in
theorem m9_8_6 : Cond.methodLink RX5 58 yX5_at ∈ lw_tbl := wsL_law_in0_8 _ (List.mem_of_getElem? (i := 6) rfl)
set_option maxRecDepth 20000 in
theorem m9_8_7 : Cond.static yX5_at ∈ lw_tbl := wsL_law_in0_8 _ (List.mem_of_getElem? (i := 7) rfl)
set_option maxRecDepth 20000 in
theorem m9_8_8 : Cond.code yX5_at cX5_at 2 (some .int) ∈ lw_tbl := wsL_law_in0_8 _ (List.mem_of_getElem? (i := 8) rfl)
set_option maxRecDepth 20000 in
theorem m9_8_9 : Cond.methodLink RX5 147 yX5_holds ∈ lw_tbl := wsL_law_in0_8 _ (List.mem_of_getElem? (i := 9) rfl)
set_option maxRecDepth 20000 in
theorem m9_8_10 : Cond.instanceMethod yX5_holds ∈ lw_tbl := wsL_law_in0_8 _ (List.mem_of_getElem? (i := 10) rfl)
set_option maxRecDepth 20000 in
theorem m9_8_11 : Cond.selects RX5 yX5_holds yX5_holds ∈ lw_tbl := wsL_law_in0_8 _ (List.mem_of_getElem? (i := 11) rfl)
set_option maxRecDepth 20000 in
theorem m9_8_12 : Cond.code yX5_holds cX5_holds 2 (some .boolean) ∈ lw_tbl := wsL_law_in0_8 _ (List.mem_of_getElem? (i := 12) rfl)
set_option maxRecDepth 20000 in
theorem m9_8_13 : Cond.fieldLink RX5 50 "FogOrdersModel" "thrown" "I" ∈ lw_tbl := wsL_law_in0_8 _ (List.mem_of_getElem? (i := 13) rfl)
set_option maxRecDepth 20000 in
theorem m9_8_14 : Cond.methodLink RX5 150 yX5_save ∈ lw_tbl := wsL_law_in0_8 _ (List.mem_of_getElem? (i := 14) rfl)
set_option maxRecDepth 20000 in
theorem m9_8_15 : Cond.instanceMethod yX5_save ∈ lw_tbl := wsL_law_in0_8 _ (List.mem_of_getElem? (i := 15) rfl)
set_option maxRecDepth 20000 in
theorem m9_8_16 : Cond.selects RX5 yX5_save yX5_save ∈ lw_tbl := wsL_law_in0_8 _ (List.mem_of_getElem? (i := 16) rfl)
set_option maxRecDepth 20000 in
theorem m9_8_17 : Cond.code yX5_save cX5_save 2 none ∈ lw_tbl := wsL_law_in0_8 _ (List.mem_of_getElem? (i := 17) rfl)
set_option maxRecDepth 20000 in
theorem m9_8_18 : Cond.fieldLink RX5 62 "FogOrdersModel" "savedMany" "I" ∈ lw_tbl := wsL_law_in0_8 _ (List.mem_of_getElem? (i := 18) rfl)
set_option maxRecDepth 20000 in
theorem m9_8_19 : Cond.methodLink RX5 122 yX5_sets ∈ lw_tbl := wsL_law_in0_8 _ (List.mem_of_getElem? (i := 19) rfl)
set_option maxRecDepth 20000 in
theorem m9_8_20 : Cond.instanceMethod yX5_sets ∈ lw_tbl := wsL_law_in0_8 _ (List.mem_of_getElem? (i := 20) rfl)
set_option maxRecDepth 20000 in
theorem m9_8_21 : Cond.selects RX5 yX5_sets yX5_sets ∈ lw_tbl := wsL_law_in0_8 _ (List.mem_of_getElem? (i := 21) rfl)
set_option maxRecDepth 20000 in
theorem m9_8_22 : Cond.code yX5_sets cX5_sets 4 none ∈ lw_tbl := wsL_law_in0_8 _ (List.mem_of_getElem? (i := 22) rfl)
set_option maxRecDepth 20000 in
theorem m9_8_23 : Cond.methodLink RX5 114 yX5_lays ∈ lw_tbl := wsL_law_in0_8 _ (List.mem_of_getElem? (i := 23) rfl)
set_option maxRecDepth 20000 in
theorem m9_9_0 : Cond.instanceMethod yX5_lays ∈ lw_tbl := wsL_law_in0_9 _ (List.mem_of_getElem? (i := 0) rfl)
set_option maxRecDepth 20000 in
theorem m9_9_1 : Cond.selects RX5 yX5_lays yX5_lays ∈ lw_tbl := wsL_law_in0_9 _ (List.mem_of_getElem? (i := 1) rfl)
set_option maxRecDepth 20000 in
theorem m9_9_2 : Cond.code yX5_lays cX5_lays 5 none ∈ lw_tbl := wsL_law_in0_9 _ (List.mem_of_getElem? (i := 2) rfl)
set_option maxRecDepth 20000 in
theorem m9_9_3 : Cond.methodLink RL 77 yX5_thrown ∈ lw_tbl := wsL_law_in0_9 _ (List.mem_of_getElem? (i := 3) rfl)
set_option maxRecDepth 20000 in
theorem m9_9_4 : Cond.instanceMethod yX5_thrown ∈ lw_tbl := wsL_law_in0_9 _ (List.mem_of_getElem? (i := 4) rfl)
set_option maxRecDepth 20000 in
theorem m9_9_5 : Cond.selects RX5 yX5_thrown yX5_thrown ∈ lw_tbl := wsL_law_in0_9 _ (List.mem_of_getElem? (i := 5) rfl)
set_option maxRecDepth 20000 in
theorem m9_9_6 : Cond.code yX5_thrown cX5_thrown 1 (some .int) ∈ lw_tbl := wsL_law_in0_9 _ (List.mem_of_getElem? (i := 6) rfl)
set_option maxRecDepth 20000 in
theorem m9_9_7 : Cond.methodLink RL 80 yL_drop ∈ lw_tbl := wsL_law_in0_9 _ (List.mem_of_getElem? (i := 7) rfl)
set_option maxRecDepth 20000 in
theorem m9_9_8 : Cond.static yL_drop ∈ lw_tbl := wsL_law_in0_9 _ (List.mem_of_getElem? (i := 8) rfl)
set_option maxRecDepth 20000 in
theorem m9_9_9 : Cond.codeWith yL_drop cL_drop 4 (some .int) [(0, 9, 12, 13)] ∈ lw_tbl := wsL_law_in0_9 _ (List.mem_of_getElem? (i := 9) rfl)
set_option maxRecDepth 20000 in
theorem m9_9_10 : Cond.methodLink RL 17 yX4_drop ∈ lw_tbl := wsL_law_in0_9 _ (List.mem_of_getElem? (i := 10) rfl)
set_option maxRecDepth 20000 in
theorem m9_9_11 : Cond.instanceMethod yX4_drop ∈ lw_tbl := wsL_law_in0_9 _ (List.mem_of_getElem? (i := 11) rfl)
set_option maxRecDepth 20000 in
theorem m9_9_12 : Cond.selects RX4 yX4_drop yX4_drop ∈ lw_tbl := wsL_law_in0_9 _ (List.mem_of_getElem? (i := 12) rfl)
set_option maxRecDepth 20000 in
theorem m9_9_13 : Cond.code yX4_drop cX4_drop 2 (some .int) ∈ lw_tbl := wsL_law_in0_9 _ (List.mem_of_getElem? (i := 13) rfl)
set_option maxRecDepth 20000 in
theorem m9_9_14 : Cond.methodLink RX4 85 yX0_hasArmy ∈ lw_tbl := wsL_law_in0_9 _ (List.mem_of_getElem? (i := 14) rfl)
set_option maxRecDepth 20000 in
theorem m9_9_15 : Cond.instanceMethod yX0_hasArmy ∈ lw_tbl := wsL_law_in0_9 _ (List.mem_of_getElem? (i := 15) rfl)
set_option maxRecDepth 20000 in
theorem m9_9_16 : Cond.selects RX0 yX0_hasArmy yX0_hasArmy ∈ lw_tbl := wsL_law_in0_9 _ (List.mem_of_getElem? (i := 16) rfl)
set_option maxRecDepth 20000 in
theorem m9_9_17 : Cond.code yX0_hasArmy cX0_hasArmy 2 (some .boolean) ∈ lw_tbl := wsL_law_in0_9 _ (List.mem_of_getElem? (i := 17) rfl)
set_option maxRecDepth 20000 in
theorem m9_9_18 : Cond.methodLink RX4 90 yX0_remove ∈ lw_tbl := wsL_law_in0_9 _ (List.mem_of_getElem? (i := 18) rfl)
set_option maxRecDepth 20000 in
theorem m9_9_19 : Cond.instanceMethod yX0_remove ∈ lw_tbl := wsL_law_in0_9 _ (List.mem_of_getElem? (i := 19) rfl)
set_option maxRecDepth 20000 in
theorem m9_9_20 : Cond.selects RX0 yX0_remove yX0_remove ∈ lw_tbl := wsL_law_in0_9 _ (List.mem_of_getElem? (i := 20) rfl)
set_option maxRecDepth 20000 in
theorem m9_9_21 : Cond.code yX0_remove cX0_remove 4 none ∈ lw_tbl := wsL_law_in0_9 _ (List.mem_of_getElem? (i := 21) rfl)
set_option maxRecDepth 20000 in
theorem m9_9_22 : Cond.methodLink RL 83 yX5_drop ∈ lw_tbl := wsL_law_in0_9 _ (List.mem_of_getElem? (i := 22) rfl)
set_option maxRecDepth 20000 in
theorem m9_9_23 : Cond.instanceMethod yX5_drop ∈ lw_tbl := wsL_law_in0_9 _ (List.mem_of_getElem? (i := 23) rfl)
set_option maxRecDepth 20000 in
theorem m9_10_0 : Cond.selects RX5 yX5_drop yX5_drop ∈ lw_tbl := wsL_law_in0_10 _ (List.mem_of_getElem? (i := 0) rfl)
set_option maxRecDepth 20000 in
theorem m9_10_1 : Cond.code yX5_drop cX5_drop 2 (some .int) ∈ lw_tbl := wsL_law_in0_10 _ (List.mem_of_getElem? (i := 1) rfl)
set_option maxRecDepth 20000 in
theorem m9_10_2 : Cond.methodLink RX5 153 yX5_isArmy ∈ lw_tbl := wsL_law_in0_10 _ (List.mem_of_getElem? (i := 2) rfl)
set_option maxRecDepth 20000 in
theorem m9_10_3 : Cond.instanceMethod yX5_isArmy ∈ lw_tbl := wsL_law_in0_10 _ (List.mem_of_getElem? (i := 3) rfl)
set_option maxRecDepth 20000 in
theorem m9_10_4 : Cond.selects RX5 yX5_isArmy yX5_isArmy ∈ lw_tbl := wsL_law_in0_10 _ (List.mem_of_getElem? (i := 4) rfl)
set_option maxRecDepth 20000 in
theorem m9_10_5 : Cond.code yX5_isArmy cX5_isArmy 2 (some .boolean) ∈ lw_tbl := wsL_law_in0_10 _ (List.mem_of_getElem? (i := 5) rfl)
set_option maxRecDepth 20000 in
theorem m9_10_6 : Cond.methodLink RX5 118 yX5_goes ∈ lw_tbl := wsL_law_in0_10 _ (List.mem_of_getElem? (i := 6) rfl)
set_option maxRecDepth 20000 in
theorem m9_10_7 : Cond.instanceMethod yX5_goes ∈ lw_tbl := wsL_law_in0_10 _ (List.mem_of_getElem? (i := 7) rfl)
set_option maxRecDepth 20000 in
theorem m9_10_8 : Cond.selects RX5 yX5_goes yX5_goes ∈ lw_tbl := wsL_law_in0_10 _ (List.mem_of_getElem? (i := 8) rfl)
set_option maxRecDepth 20000 in
theorem m9_10_9 : Cond.code yX5_goes cX5_goes 3 none ∈ lw_tbl := wsL_law_in0_10 _ (List.mem_of_getElem? (i := 9) rfl)
set_option maxRecDepth 20000 in
theorem m9_10_10 : Cond.methodLink RL 84 yL_hold ∈ lw_tbl := wsL_law_in0_10 _ (List.mem_of_getElem? (i := 10) rfl)
set_option maxRecDepth 20000 in
theorem m9_10_11 : Cond.static yL_hold ∈ lw_tbl := wsL_law_in0_10 _ (List.mem_of_getElem? (i := 11) rfl)
set_option maxRecDepth 20000 in
theorem m9_10_12 : Cond.codeWith yL_hold cL_hold 4 (some .int) [(0, 9, 12, 13)] ∈ lw_tbl := wsL_law_in0_10 _ (List.mem_of_getElem? (i := 12) rfl)
set_option maxRecDepth 20000 in
theorem m9_10_13 : Cond.methodLink RL 21 yX4_hold ∈ lw_tbl := wsL_law_in0_10 _ (List.mem_of_getElem? (i := 13) rfl)
set_option maxRecDepth 20000 in
theorem m9_10_14 : Cond.instanceMethod yX4_hold ∈ lw_tbl := wsL_law_in0_10 _ (List.mem_of_getElem? (i := 14) rfl)
set_option maxRecDepth 20000 in
theorem m9_10_15 : Cond.selects RX4 yX4_hold yX4_hold ∈ lw_tbl := wsL_law_in0_10 _ (List.mem_of_getElem? (i := 15) rfl)
set_option maxRecDepth 20000 in
theorem m9_10_16 : Cond.code yX4_hold cX4_hold 2 (some .int) ∈ lw_tbl := wsL_law_in0_10 _ (List.mem_of_getElem? (i := 16) rfl)
set_option maxRecDepth 20000 in
theorem m9_10_17 : Cond.methodLink RX4 94 yX0_give ∈ lw_tbl := wsL_law_in0_10 _ (List.mem_of_getElem? (i := 17) rfl)
set_option maxRecDepth 20000 in
theorem m9_10_18 : Cond.instanceMethod yX0_give ∈ lw_tbl := wsL_law_in0_10 _ (List.mem_of_getElem? (i := 18) rfl)
set_option maxRecDepth 20000 in
theorem m9_10_19 : Cond.selects RX0 yX0_give yX0_give ∈ lw_tbl := wsL_law_in0_10 _ (List.mem_of_getElem? (i := 19) rfl)
set_option maxRecDepth 20000 in
theorem m9_10_20 : Cond.code yX0_give cX0_give 6 (some .int) ∈ lw_tbl := wsL_law_in0_10 _ (List.mem_of_getElem? (i := 20) rfl)
set_option maxRecDepth 20000 in
theorem m9_10_21 : Cond.methodLink RL 86 yX5_hold ∈ lw_tbl := wsL_law_in0_10 _ (List.mem_of_getElem? (i := 21) rfl)
set_option maxRecDepth 20000 in
theorem m9_10_22 : Cond.instanceMethod yX5_hold ∈ lw_tbl := wsL_law_in0_10 _ (List.mem_of_getElem? (i := 22) rfl)
set_option maxRecDepth 20000 in
theorem m9_10_23 : Cond.selects RX5 yX5_hold yX5_hold ∈ lw_tbl := wsL_law_in0_10 _ (List.mem_of_getElem? (i := 23) rfl)
set_option maxRecDepth 20000 in
theorem m9_11_0 : Cond.code yX5_hold cX5_hold 2 (some .int) ∈ lw_tbl := wsL_law_in0_11 _ (List.mem_of_getElem? (i := 0) rfl)
set_option maxRecDepth 20000 in
theorem m9_11_1 : Cond.methodLink RX5 156 yX5_ordered ∈ lw_tbl := wsL_law_in0_11 _ (List.mem_of_getElem? (i := 1) rfl)
set_option maxRecDepth 20000 in
theorem m9_11_2 : Cond.instanceMethod yX5_ordered ∈ lw_tbl := wsL_law_in0_11 _ (List.mem_of_getElem? (i := 2) rfl)
set_option maxRecDepth 20000 in
theorem m9_11_3 : Cond.selects RX5 yX5_ordered yX5_ordered ∈ lw_tbl := wsL_law_in0_11 _ (List.mem_of_getElem? (i := 3) rfl)
set_option maxRecDepth 20000 in
theorem m9_11_4 : Cond.code yX5_ordered cX5_ordered 6 (some .int) ∈ lw_tbl := wsL_law_in0_11 _ (List.mem_of_getElem? (i := 4) rfl)
set_option maxRecDepth 20000 in
theorem m9_11_5 : Cond.methodLink RL 87 yL_move ∈ lw_tbl := wsL_law_in0_11 _ (List.mem_of_getElem? (i := 5) rfl)
set_option maxRecDepth 20000 in
theorem m9_11_6 : Cond.static yL_move ∈ lw_tbl := wsL_law_in0_11 _ (List.mem_of_getElem? (i := 6) rfl)
set_option maxRecDepth 20000 in
theorem m9_11_7 : Cond.codeWith yL_move cL_move 5 (some .int) [(0, 10, 13, 13), (0, 10, 17, 27)] ∈ lw_tbl := wsL_law_in0_11 _ (List.mem_of_getElem? (i := 7) rfl)
set_option maxRecDepth 20000 in
theorem m9_11_8 : Cond.classLink RL 27 "java/lang/IllegalArgumentException" ∈ lw_tbl := wsL_law_in0_11 _ (List.mem_of_getElem? (i := 8) rfl)
set_option maxRecDepth 20000 in
theorem m9_11_9 : Cond.methodLink RL 24 yX4_move ∈ lw_tbl := wsL_law_in0_11 _ (List.mem_of_getElem? (i := 9) rfl)
set_option maxRecDepth 20000 in
theorem m9_11_10 : Cond.instanceMethod yX4_move ∈ lw_tbl := wsL_law_in0_11 _ (List.mem_of_getElem? (i := 10) rfl)
set_option maxRecDepth 20000 in
theorem m9_11_11 : Cond.selects RX4 yX4_move yX4_move ∈ lw_tbl := wsL_law_in0_11 _ (List.mem_of_getElem? (i := 11) rfl)
set_option maxRecDepth 20000 in
theorem m9_11_12 : Cond.code yX4_move cX4_move 3 (some .int) ∈ lw_tbl := wsL_law_in0_11 _ (List.mem_of_getElem? (i := 12) rfl)
set_option maxRecDepth 20000 in
theorem m9_11_13 : Cond.classLink RX4 104 "java/lang/IllegalArgumentException" ∈ lw_tbl := wsL_law_in0_11 _ (List.mem_of_getElem? (i := 13) rfl)
set_option maxRecDepth 20000 in
theorem m9_11_14 : Cond.initialized "java/lang/IllegalArgumentException" ∈ lw_tbl := wsL_law_in0_11 _ (List.mem_of_getElem? (i := 14) rfl)
set_option maxRecDepth 20000 in
theorem m9_11_15 : Cond.methodLink RX4 100 yX0_canBeGiven ∈ lw_tbl := wsL_law_in0_11 _ (List.mem_of_getElem? (i := 15) rfl)
set_option maxRecDepth 20000 in
theorem m9_11_16 : Cond.instanceMethod yX0_canBeGiven ∈ lw_tbl := wsL_law_in0_11 _ (List.mem_of_getElem? (i := 16) rfl)
set_option maxRecDepth 20000 in
theorem m9_11_17 : Cond.selects RX0 yX0_canBeGiven yX0_canBeGiven ∈ lw_tbl := wsL_law_in0_11 _ (List.mem_of_getElem? (i := 17) rfl)
set_option maxRecDepth 20000 in
theorem m9_11_18 : Cond.code yX0_canBeGiven cX0_canBeGiven 5 (some .boolean) ∈ lw_tbl := wsL_law_in0_11 _ (List.mem_of_getElem? (i := 18) rfl)
set_option maxRecDepth 20000 in
theorem m9_11_19 : Cond.methodLink RX0 49 yX0_hasArmy ∈ lw_tbl := wsL_law_in0_11 _ (List.mem_of_getElem? (i := 19) rfl)
set_option maxRecDepth 20000 in
theorem m9_11_20 : Cond.static yX4_areNeighbours ∈ lw_tbl := wsL_law_in0_11 _ (List.mem_of_getElem? (i := 20) rfl)
set_option maxRecDepth 20000 in
theorem m9_11_21 : Cond.code yX4_areNeighbours cX4_areNeighbours 3 (some .boolean) ∈ lw_tbl := wsL_law_in0_11 _ (List.mem_of_getElem? (i := 21) rfl)
set_option maxRecDepth 20000 in
theorem m9_11_22 : Cond.methodLink RL 89 yX5_move ∈ lw_tbl := wsL_law_in0_11 _ (List.mem_of_getElem? (i := 22) rfl)
set_option maxRecDepth 20000 in
theorem m9_11_23 : Cond.instanceMethod yX5_move ∈ lw_tbl := wsL_law_in0_11 _ (List.mem_of_getElem? (i := 23) rfl)
set_option maxRecDepth 20000 in
theorem m9_12_0 : Cond.selects RX5 yX5_move yX5_move ∈ lw_tbl := wsL_law_in0_12 _ (List.mem_of_getElem? (i := 0) rfl)
set_option maxRecDepth 20000 in
theorem m9_12_1 : Cond.code yX5_move cX5_move 4 (some .int) ∈ lw_tbl := wsL_law_in0_12 _ (List.mem_of_getElem? (i := 1) rfl)
set_option maxRecDepth 20000 in
theorem m9_12_2 : Cond.methodLink RX5 92 yX5_areNeighbours ∈ lw_tbl := wsL_law_in0_12 _ (List.mem_of_getElem? (i := 2) rfl)
set_option maxRecDepth 20000 in
theorem m9_12_3 : Cond.static yX5_areNeighbours ∈ lw_tbl := wsL_law_in0_12 _ (List.mem_of_getElem? (i := 3) rfl)
set_option maxRecDepth 20000 in
theorem m9_12_4 : Cond.code yX5_areNeighbours cX5_areNeighbours 3 (some .boolean) ∈ lw_tbl := wsL_law_in0_12 _ (List.mem_of_getElem? (i := 4) rfl)
set_option maxRecDepth 20000 in
theorem m9_12_5 : Cond.methodLink RL 90 yL_support ∈ lw_tbl := wsL_law_in0_12 _ (List.mem_of_getElem? (i := 5) rfl)
set_option maxRecDepth 20000 in
theorem m9_12_6 : Cond.static yL_support ∈ lw_tbl := wsL_law_in0_12 _ (List.mem_of_getElem? (i := 6) rfl)
set_option maxRecDepth 20000 in
theorem m9_12_7 : Cond.codeWith yL_support cL_support 6 (some .int) [(0, 12, 15, 13), (0, 12, 19, 27)] ∈ lw_tbl := wsL_law_in0_12 _ (List.mem_of_getElem? (i := 7) rfl)
set_option maxRecDepth 20000 in
theorem m9_12_8 : Cond.methodLink RL 29 yX4_support ∈ lw_tbl := wsL_law_in0_12 _ (List.mem_of_getElem? (i := 8) rfl)
set_option maxRecDepth 20000 in
theorem m9_12_9 : Cond.instanceMethod yX4_support ∈ lw_tbl := wsL_law_in0_12 _ (List.mem_of_getElem? (i := 9) rfl)
set_option maxRecDepth 20000 in
theorem m9_12_10 : Cond.selects RX4 yX4_support yX4_support ∈ lw_tbl := wsL_law_in0_12 _ (List.mem_of_getElem? (i := 10) rfl)
set_option maxRecDepth 20000 in
theorem m9_12_11 : Cond.code yX4_support cX4_support 4 (some .int) ∈ lw_tbl := wsL_law_in0_12 _ (List.mem_of_getElem? (i := 11) rfl)
set_option maxRecDepth 20000 in
theorem m9_12_12 : Cond.methodLink RL 93 yX5_support ∈ lw_tbl := wsL_law_in0_12 _ (List.mem_of_getElem? (i := 12) rfl)
set_option maxRecDepth 20000 in
theorem m9_12_13 : Cond.instanceMethod yX5_support ∈ lw_tbl := wsL_law_in0_12 _ (List.mem_of_getElem? (i := 13) rfl)
set_option maxRecDepth 20000 in
theorem m9_12_14 : Cond.selects RX5 yX5_support yX5_support ∈ lw_tbl := wsL_law_in0_12 _ (List.mem_of_getElem? (i := 14) rfl)
set_option maxRecDepth 20000 in
theorem m9_12_15 : Cond.code yX5_support cX5_support 5 (some .int) ∈ lw_tbl := wsL_law_in0_12 _ (List.mem_of_getElem? (i := 15) rfl)
set_option maxRecDepth 20000 in
theorem m9_12_16 : Cond.methodLink RX5 160 yX5_canSupport ∈ lw_tbl := wsL_law_in0_12 _ (List.mem_of_getElem? (i := 16) rfl)
set_option maxRecDepth 20000 in
theorem m9_12_17 : Cond.instanceMethod yX5_canSupport ∈ lw_tbl := wsL_law_in0_12 _ (List.mem_of_getElem? (i := 17) rfl)
set_option maxRecDepth 20000 in
theorem m9_12_18 : Cond.selects RX5 yX5_canSupport yX5_canSupport ∈ lw_tbl := wsL_law_in0_12 _ (List.mem_of_getElem? (i := 18) rfl)
set_option maxRecDepth 20000 in
theorem m9_12_19 : Cond.code yX5_canSupport cX5_canSupport 4 (some .boolean) ∈ lw_tbl := wsL_law_in0_12 _ (List.mem_of_getElem? (i := 19) rfl)
set_option maxRecDepth 20000 in
theorem m9_12_20 : Cond.methodLink RL 94 yX4_open ∈ lw_tbl := wsL_law_in0_12 _ (List.mem_of_getElem? (i := 20) rfl)
set_option maxRecDepth 20000 in
theorem m9_12_21 : Cond.instanceMethod yX4_open ∈ lw_tbl := wsL_law_in0_12 _ (List.mem_of_getElem? (i := 21) rfl)
set_option maxRecDepth 20000 in
theorem m9_12_22 : Cond.selects RX4 yX4_open yX4_open ∈ lw_tbl := wsL_law_in0_12 _ (List.mem_of_getElem? (i := 22) rfl)
set_option maxRecDepth 20000 in
theorem m9_12_23 : Cond.code yX4_open cX4_open 1 (some .int) ∈ lw_tbl := wsL_law_in0_12 _ (List.mem_of_getElem? (i := 23) rfl)
set_option maxRecDepth 20000 in
theorem m9_13_0 : Cond.methodLink RX4 111 yX2_study ∈ lw_tbl := wsL_law_in0_13 _ (List.mem_of_getElem? (i := 0) rfl)
set_option maxRecDepth 20000 in
theorem m9_13_1 : Cond.instanceMethod yX2_study ∈ lw_tbl := wsL_law_in0_13 _ (List.mem_of_getElem? (i := 1) rfl)
set_option maxRecDepth 20000 in
theorem m9_13_2 : Cond.selects RX2 yX2_study yX2_study ∈ lw_tbl := wsL_law_in0_13 _ (List.mem_of_getElem? (i := 2) rfl)
set_option maxRecDepth 20000 in
theorem m9_13_3 : Cond.code yX2_study cX2_study 1 none ∈ lw_tbl := wsL_law_in0_13 _ (List.mem_of_getElem? (i := 3) rfl)
set_option maxRecDepth 20000 in
theorem m9_13_4 : Cond.methodLink RX2 40 yX2_decideMoves ∈ lw_tbl := wsL_law_in0_13 _ (List.mem_of_getElem? (i := 4) rfl)
set_option maxRecDepth 20000 in
theorem m9_13_5 : Cond.instanceMethod yX2_decideMoves ∈ lw_tbl := wsL_law_in0_13 _ (List.mem_of_getElem? (i := 5) rfl)
set_option maxRecDepth 20000 in
theorem m9_13_6 : Cond.selects RX2 yX2_decideMoves yX2_decideMoves ∈ lw_tbl := wsL_law_in0_13 _ (List.mem_of_getElem? (i := 6) rfl)
set_option maxRecDepth 20000 in
theorem m9_13_7 : Cond.code yX2_decideMoves cX2_decideMoves 1 none ∈ lw_tbl := wsL_law_in0_13 _ (List.mem_of_getElem? (i := 7) rfl)
set_option maxRecDepth 20000 in
theorem m9_13_8 : Cond.methodLink RX2 49 yX2_judgeSupports ∈ lw_tbl := wsL_law_in0_13 _ (List.mem_of_getElem? (i := 8) rfl)
set_option maxRecDepth 20000 in
theorem m9_13_9 : Cond.instanceMethod yX2_judgeSupports ∈ lw_tbl := wsL_law_in0_13 _ (List.mem_of_getElem? (i := 9) rfl)
set_option maxRecDepth 20000 in
theorem m9_13_10 : Cond.selects RX2 yX2_judgeSupports yX2_judgeSupports ∈ lw_tbl := wsL_law_in0_13 _ (List.mem_of_getElem? (i := 10) rfl)
set_option maxRecDepth 20000 in
theorem m9_13_11 : Cond.code yX2_judgeSupports cX2_judgeSupports 5 none ∈ lw_tbl := wsL_law_in0_13 _ (List.mem_of_getElem? (i := 11) rfl)
set_option maxRecDepth 20000 in
theorem m9_13_12 : Cond.methodLink RX2 61 yX0_number ∈ lw_tbl := wsL_law_in0_13 _ (List.mem_of_getElem? (i := 12) rfl)
set_option maxRecDepth 20000 in
theorem m9_13_13 : Cond.methodLink RX2 65 yX0_of ∈ lw_tbl := wsL_law_in0_13 _ (List.mem_of_getElem? (i := 13) rfl)
set_option maxRecDepth 20000 in
theorem m9_13_14 : Cond.methodLink RX2 69 yX2_isCutOff ∈ lw_tbl := wsL_law_in0_13 _ (List.mem_of_getElem? (i := 14) rfl)
set_option maxRecDepth 20000 in
theorem m9_13_15 : Cond.instanceMethod yX2_isCutOff ∈ lw_tbl := wsL_law_in0_13 _ (List.mem_of_getElem? (i := 15) rfl)
set_option maxRecDepth 20000 in
theorem m9_13_16 : Cond.selects RX2 yX2_isCutOff yX2_isCutOff ∈ lw_tbl := wsL_law_in0_13 _ (List.mem_of_getElem? (i := 16) rfl)
set_option maxRecDepth 20000 in
theorem m9_13_17 : Cond.code yX2_isCutOff cX2_isCutOff 3 (some .boolean) ∈ lw_tbl := wsL_law_in0_13 _ (List.mem_of_getElem? (i := 17) rfl)
set_option maxRecDepth 20000 in
theorem m9_13_18 : Cond.methodLink RX2 80 yX2_moves ∈ lw_tbl := wsL_law_in0_13 _ (List.mem_of_getElem? (i := 18) rfl)
set_option maxRecDepth 20000 in
theorem m9_13_19 : Cond.instanceMethod yX2_moves ∈ lw_tbl := wsL_law_in0_13 _ (List.mem_of_getElem? (i := 19) rfl)
set_option maxRecDepth 20000 in
theorem m9_13_20 : Cond.selects RX2 yX2_moves yX2_moves ∈ lw_tbl := wsL_law_in0_13 _ (List.mem_of_getElem? (i := 20) rfl)
set_option maxRecDepth 20000 in
theorem m9_13_21 : Cond.code yX2_moves cX2_moves 2 (some .boolean) ∈ lw_tbl := wsL_law_in0_13 _ (List.mem_of_getElem? (i := 21) rfl)
set_option maxRecDepth 20000 in
theorem m9_13_22 : Cond.methodLink RX2 73 yX2_hasUse ∈ lw_tbl := wsL_law_in0_13 _ (List.mem_of_getElem? (i := 22) rfl)
set_option maxRecDepth 20000 in
theorem m9_13_23 : Cond.instanceMethod yX2_hasUse ∈ lw_tbl := wsL_law_in0_13 _ (List.mem_of_getElem? (i := 23) rfl)
set_option maxRecDepth 20000 in
theorem m9_14_0 : Cond.selects RX2 yX2_hasUse yX2_hasUse ∈ lw_tbl := wsL_law_in0_14 _ (List.mem_of_getElem? (i := 0) rfl)
set_option maxRecDepth 20000 in
theorem m9_14_1 : Cond.code yX2_hasUse cX2_hasUse 3 (some .boolean) ∈ lw_tbl := wsL_law_in0_14 _ (List.mem_of_getElem? (i := 1) rfl)
set_option maxRecDepth 20000 in
theorem m9_14_2 : Cond.methodLink RX2 83 yX0_armyOn ∈ lw_tbl := wsL_law_in0_14 _ (List.mem_of_getElem? (i := 2) rfl)
set_option maxRecDepth 20000 in
theorem m9_14_3 : Cond.methodLink RX2 52 yX2_weighOrders ∈ lw_tbl := wsL_law_in0_14 _ (List.mem_of_getElem? (i := 3) rfl)
set_option maxRecDepth 20000 in
theorem m9_14_4 : Cond.instanceMethod yX2_weighOrders ∈ lw_tbl := wsL_law_in0_14 _ (List.mem_of_getElem? (i := 4) rfl)
set_option maxRecDepth 20000 in
theorem m9_14_5 : Cond.selects RX2 yX2_weighOrders yX2_weighOrders ∈ lw_tbl := wsL_law_in0_14 _ (List.mem_of_getElem? (i := 5) rfl)
set_option maxRecDepth 20000 in
theorem m9_14_6 : Cond.code yX2_weighOrders cX2_weighOrders 4 none ∈ lw_tbl := wsL_law_in0_14 _ (List.mem_of_getElem? (i := 6) rfl)
set_option maxRecDepth 20000 in
theorem m9_14_7 : Cond.methodLink RX2 86 yX2_supportsOf ∈ lw_tbl := wsL_law_in0_14 _ (List.mem_of_getElem? (i := 7) rfl)
set_option maxRecDepth 20000 in
theorem m9_14_8 : Cond.instanceMethod yX2_supportsOf ∈ lw_tbl := wsL_law_in0_14 _ (List.mem_of_getElem? (i := 8) rfl)
set_option maxRecDepth 20000 in
theorem m9_14_9 : Cond.selects RX2 yX2_supportsOf yX2_supportsOf ∈ lw_tbl := wsL_law_in0_14 _ (List.mem_of_getElem? (i := 9) rfl)
set_option maxRecDepth 20000 in
theorem m9_14_10 : Cond.code yX2_supportsOf cX2_supportsOf 6 (some .int) ∈ lw_tbl := wsL_law_in0_14 _ (List.mem_of_getElem? (i := 10) rfl)
set_option maxRecDepth 20000 in
theorem m9_14_11 : Cond.static yX4_entry ∈ lw_tbl := wsL_law_in0_14 _ (List.mem_of_getElem? (i := 11) rfl)
set_option maxRecDepth 20000 in
theorem m9_14_12 : Cond.code yX4_entry cX4_entry 2 (some .int) ∈ lw_tbl := wsL_law_in0_14 _ (List.mem_of_getElem? (i := 12) rfl)
set_option maxRecDepth 20000 in
theorem m9_14_13 : Cond.methodLink RX2 55 yX2_failAgainstMoves ∈ lw_tbl := wsL_law_in0_14 _ (List.mem_of_getElem? (i := 13) rfl)
set_option maxRecDepth 20000 in
theorem m9_14_14 : Cond.instanceMethod yX2_failAgainstMoves ∈ lw_tbl := wsL_law_in0_14 _ (List.mem_of_getElem? (i := 14) rfl)
set_option maxRecDepth 20000 in
theorem m9_14_15 : Cond.selects RX2 yX2_failAgainstMoves yX2_failAgainstMoves ∈ lw_tbl := wsL_law_in0_14 _ (List.mem_of_getElem? (i := 15) rfl)
set_option maxRecDepth 20000 in
theorem m9_14_16 : Cond.code yX2_failAgainstMoves cX2_failAgainstMoves 3 none ∈ lw_tbl := wsL_law_in0_14 _ (List.mem_of_getElem? (i := 16) rfl)
set_option maxRecDepth 20000 in
theorem m9_14_17 : Cond.methodLink RX2 93 yX2_hasRival ∈ lw_tbl := wsL_law_in0_14 _ (List.mem_of_getElem? (i := 17) rfl)
set_option maxRecDepth 20000 in
theorem m9_14_18 : Cond.instanceMethod yX2_hasRival ∈ lw_tbl := wsL_law_in0_14 _ (List.mem_of_getElem? (i := 18) rfl)
set_option maxRecDepth 20000 in
theorem m9_14_19 : Cond.selects RX2 yX2_hasRival yX2_hasRival ∈ lw_tbl := wsL_law_in0_14 _ (List.mem_of_getElem? (i := 19) rfl)
set_option maxRecDepth 20000 in
theorem m9_14_20 : Cond.code yX2_hasRival cX2_hasRival 3 (some .boolean) ∈ lw_tbl := wsL_law_in0_14 _ (List.mem_of_getElem? (i := 20) rfl)
set_option maxRecDepth 20000 in
theorem m9_14_21 : Cond.methodLink RX2 96 yX2_losesSwap ∈ lw_tbl := wsL_law_in0_14 _ (List.mem_of_getElem? (i := 21) rfl)
set_option maxRecDepth 20000 in
theorem m9_14_22 : Cond.instanceMethod yX2_losesSwap ∈ lw_tbl := wsL_law_in0_14 _ (List.mem_of_getElem? (i := 22) rfl)
set_option maxRecDepth 20000 in
theorem m9_14_23 : Cond.selects RX2 yX2_losesSwap yX2_losesSwap ∈ lw_tbl := wsL_law_in0_14 _ (List.mem_of_getElem? (i := 23) rfl)
set_option maxRecDepth 20000 in
theorem m9_15_0 : Cond.code yX2_losesSwap cX2_losesSwap 3 (some .boolean) ∈ lw_tbl := wsL_law_in0_15 _ (List.mem_of_getElem? (i := 0) rfl)
set_option maxRecDepth 20000 in
theorem m9_15_1 : Cond.methodLink RX2 58 yX2_failAgainstArmies ∈ lw_tbl := wsL_law_in0_15 _ (List.mem_of_getElem? (i := 1) rfl)
set_option maxRecDepth 20000 in
theorem m9_15_2 : Cond.instanceMethod yX2_failAgainstArmies ∈ lw_tbl := wsL_law_in0_15 _ (List.mem_of_getElem? (i := 2) rfl)
set_option maxRecDepth 20000 in
theorem m9_15_3 : Cond.selects RX2 yX2_failAgainstArmies yX2_failAgainstArmies ∈ lw_tbl := wsL_law_in0_15 _ (List.mem_of_getElem? (i := 3) rfl)
set_option maxRecDepth 20000 in
theorem m9_15_4 : Cond.code yX2_failAgainstArmies cX2_failAgainstArmies 5 none ∈ lw_tbl := wsL_law_in0_15 _ (List.mem_of_getElem? (i := 4) rfl)
set_option maxRecDepth 20000 in
theorem m9_15_5 : Cond.methodLink RX2 99 yX2_goes ∈ lw_tbl := wsL_law_in0_15 _ (List.mem_of_getElem? (i := 5) rfl)
set_option maxRecDepth 20000 in
theorem m9_15_6 : Cond.instanceMethod yX2_goes ∈ lw_tbl := wsL_law_in0_15 _ (List.mem_of_getElem? (i := 6) rfl)
set_option maxRecDepth 20000 in
theorem m9_15_7 : Cond.selects RX2 yX2_goes yX2_goes ∈ lw_tbl := wsL_law_in0_15 _ (List.mem_of_getElem? (i := 7) rfl)
set_option maxRecDepth 20000 in
theorem m9_15_8 : Cond.code yX2_goes cX2_goes 2 (some .boolean) ∈ lw_tbl := wsL_law_in0_15 _ (List.mem_of_getElem? (i := 8) rfl)
set_option maxRecDepth 20000 in
theorem m9_15_9 : Cond.methodLink RX2 102 yX2_blockOf ∈ lw_tbl := wsL_law_in0_15 _ (List.mem_of_getElem? (i := 9) rfl)
set_option maxRecDepth 20000 in
theorem m9_15_10 : Cond.instanceMethod yX2_blockOf ∈ lw_tbl := wsL_law_in0_15 _ (List.mem_of_getElem? (i := 10) rfl)
set_option maxRecDepth 20000 in
theorem m9_15_11 : Cond.selects RX2 yX2_blockOf yX2_blockOf ∈ lw_tbl := wsL_law_in0_15 _ (List.mem_of_getElem? (i := 11) rfl)
set_option maxRecDepth 20000 in
theorem m9_15_12 : Cond.code yX2_blockOf cX2_blockOf 4 (some .int) ∈ lw_tbl := wsL_law_in0_15 _ (List.mem_of_getElem? (i := 12) rfl)
set_option maxRecDepth 20000 in
theorem m9_15_13 : Cond.methodLink RX2 43 yX2_comeToFields ∈ lw_tbl := wsL_law_in0_15 _ (List.mem_of_getElem? (i := 13) rfl)
set_option maxRecDepth 20000 in
theorem m9_15_14 : Cond.instanceMethod yX2_comeToFields ∈ lw_tbl := wsL_law_in0_15 _ (List.mem_of_getElem? (i := 14) rfl)
set_option maxRecDepth 20000 in
theorem m9_15_15 : Cond.selects RX2 yX2_comeToFields yX2_comeToFields ∈ lw_tbl := wsL_law_in0_15 _ (List.mem_of_getElem? (i := 15) rfl)
set_option maxRecDepth 20000 in
theorem m9_15_16 : Cond.code yX2_comeToFields cX2_comeToFields 4 none ∈ lw_tbl := wsL_law_in0_15 _ (List.mem_of_getElem? (i := 16) rfl)
set_option maxRecDepth 20000 in
theorem m9_15_17 : Cond.methodLink RX2 105 yX2_comerTo ∈ lw_tbl := wsL_law_in0_15 _ (List.mem_of_getElem? (i := 17) rfl)
set_option maxRecDepth 20000 in
theorem m9_15_18 : Cond.instanceMethod yX2_comerTo ∈ lw_tbl := wsL_law_in0_15 _ (List.mem_of_getElem? (i := 18) rfl)
set_option maxRecDepth 20000 in
theorem m9_15_19 : Cond.selects RX2 yX2_comerTo yX2_comerTo ∈ lw_tbl := wsL_law_in0_15 _ (List.mem_of_getElem? (i := 19) rfl)
set_option maxRecDepth 20000 in
theorem m9_15_20 : Cond.code yX2_comerTo cX2_comerTo 3 (some .int) ∈ lw_tbl := wsL_law_in0_15 _ (List.mem_of_getElem? (i := 20) rfl)
set_option maxRecDepth 20000 in
theorem m9_15_21 : Cond.methodLink RX2 46 yX2_retreatAll ∈ lw_tbl := wsL_law_in0_15 _ (List.mem_of_getElem? (i := 21) rfl)
set_option maxRecDepth 20000 in
theorem m9_15_22 : Cond.instanceMethod yX2_retreatAll ∈ lw_tbl := wsL_law_in0_15 _ (List.mem_of_getElem? (i := 22) rfl)
set_option maxRecDepth 20000 in
theorem m9_15_23 : Cond.selects RX2 yX2_retreatAll yX2_retreatAll ∈ lw_tbl := wsL_law_in0_15 _ (List.mem_of_getElem? (i := 23) rfl)
set_option maxRecDepth 20000 in
theorem m9_16_0 : Cond.code yX2_retreatAll cX2_retreatAll 3 none ∈ lw_tbl := wsL_law_in0_16 _ (List.mem_of_getElem? (i := 0) rfl)
set_option maxRecDepth 20000 in
theorem m9_16_1 : Cond.methodLink RX2 108 yX2_strongestDriven ∈ lw_tbl := wsL_law_in0_16 _ (List.mem_of_getElem? (i := 1) rfl)
set_option maxRecDepth 20000 in
theorem m9_16_2 : Cond.instanceMethod yX2_strongestDriven ∈ lw_tbl := wsL_law_in0_16 _ (List.mem_of_getElem? (i := 2) rfl)
set_option maxRecDepth 20000 in
theorem m9_16_3 : Cond.selects RX2 yX2_strongestDriven yX2_strongestDriven ∈ lw_tbl := wsL_law_in0_16 _ (List.mem_of_getElem? (i := 3) rfl)
set_option maxRecDepth 20000 in
theorem m9_16_4 : Cond.code yX2_strongestDriven cX2_strongestDriven 7 (some .int) ∈ lw_tbl := wsL_law_in0_16 _ (List.mem_of_getElem? (i := 4) rfl)
set_option maxRecDepth 20000 in
theorem m9_16_5 : Cond.methodLink RX2 112 yX2_retreatField ∈ lw_tbl := wsL_law_in0_16 _ (List.mem_of_getElem? (i := 5) rfl)
set_option maxRecDepth 20000 in
theorem m9_16_6 : Cond.instanceMethod yX2_retreatField ∈ lw_tbl := wsL_law_in0_16 _ (List.mem_of_getElem? (i := 6) rfl)
set_option maxRecDepth 20000 in
theorem m9_16_7 : Cond.selects RX2 yX2_retreatField yX2_retreatField ∈ lw_tbl := wsL_law_in0_16 _ (List.mem_of_getElem? (i := 7) rfl)
set_option maxRecDepth 20000 in
theorem m9_16_8 : Cond.code yX2_retreatField cX2_retreatField 4 (some .int) ∈ lw_tbl := wsL_law_in0_16 _ (List.mem_of_getElem? (i := 8) rfl)
set_option maxRecDepth 20000 in
theorem m9_16_9 : Cond.methodLink RX2 119 yX2_isTaken ∈ lw_tbl := wsL_law_in0_16 _ (List.mem_of_getElem? (i := 9) rfl)
set_option maxRecDepth 20000 in
theorem m9_16_10 : Cond.instanceMethod yX2_isTaken ∈ lw_tbl := wsL_law_in0_16 _ (List.mem_of_getElem? (i := 10) rfl)
set_option maxRecDepth 20000 in
theorem m9_16_11 : Cond.selects RX2 yX2_isTaken yX2_isTaken ∈ lw_tbl := wsL_law_in0_16 _ (List.mem_of_getElem? (i := 11) rfl)
set_option maxRecDepth 20000 in
theorem m9_16_12 : Cond.code yX2_isTaken cX2_isTaken 3 (some .boolean) ∈ lw_tbl := wsL_law_in0_16 _ (List.mem_of_getElem? (i := 12) rfl)
set_option maxRecDepth 20000 in
theorem m9_16_13 : Cond.methodLink RX2 122 yX2_wasFoughtFor ∈ lw_tbl := wsL_law_in0_16 _ (List.mem_of_getElem? (i := 13) rfl)
set_option maxRecDepth 20000 in
theorem m9_16_14 : Cond.instanceMethod yX2_wasFoughtFor ∈ lw_tbl := wsL_law_in0_16 _ (List.mem_of_getElem? (i := 14) rfl)
set_option maxRecDepth 20000 in
theorem m9_16_15 : Cond.selects RX2 yX2_wasFoughtFor yX2_wasFoughtFor ∈ lw_tbl := wsL_law_in0_16 _ (List.mem_of_getElem? (i := 15) rfl)
set_option maxRecDepth 20000 in
theorem m9_16_16 : Cond.code yX2_wasFoughtFor cX2_wasFoughtFor 3 (some .boolean) ∈ lw_tbl := wsL_law_in0_16 _ (List.mem_of_getElem? (i := 16) rfl)
set_option maxRecDepth 20000 in
theorem m9_16_17 : Cond.methodLink RX4 114 yX2_carryOut ∈ lw_tbl := wsL_law_in0_16 _ (List.mem_of_getElem? (i := 17) rfl)
set_option maxRecDepth 20000 in
theorem m9_16_18 : Cond.instanceMethod yX2_carryOut ∈ lw_tbl := wsL_law_in0_16 _ (List.mem_of_getElem? (i := 18) rfl)
set_option maxRecDepth 20000 in
theorem m9_16_19 : Cond.selects RX2 yX2_carryOut yX2_carryOut ∈ lw_tbl := wsL_law_in0_16 _ (List.mem_of_getElem? (i := 19) rfl)
set_option maxRecDepth 20000 in
theorem m9_16_20 : Cond.code yX2_carryOut cX2_carryOut 3 (some .int) ∈ lw_tbl := wsL_law_in0_16 _ (List.mem_of_getElem? (i := 20) rfl)
set_option maxRecDepth 20000 in
theorem m9_16_21 : Cond.methodLink RX2 134 yX2_countMove ∈ lw_tbl := wsL_law_in0_16 _ (List.mem_of_getElem? (i := 21) rfl)
set_option maxRecDepth 20000 in
theorem m9_16_22 : Cond.instanceMethod yX2_countMove ∈ lw_tbl := wsL_law_in0_16 _ (List.mem_of_getElem? (i := 22) rfl)
set_option maxRecDepth 20000 in
theorem m9_16_23 : Cond.selects RX2 yX2_countMove yX2_countMove ∈ lw_tbl := wsL_law_in0_16 _ (List.mem_of_getElem? (i := 23) rfl)
set_option maxRecDepth 20000 in
theorem m9_17_0 : Cond.code yX2_countMove cX2_countMove 4 none ∈ lw_tbl := wsL_law_in0_17 _ (List.mem_of_getElem? (i := 0) rfl)
set_option maxRecDepth 20000 in
theorem m9_17_1 : Cond.methodLink RX2 148 yX0_put ∈ lw_tbl := wsL_law_in0_17 _ (List.mem_of_getElem? (i := 1) rfl)
set_option maxRecDepth 20000 in
theorem m9_17_2 : Cond.methodLink RX2 138 yX0_countOne ∈ lw_tbl := wsL_law_in0_17 _ (List.mem_of_getElem? (i := 2) rfl)
set_option maxRecDepth 20000 in
theorem m9_17_3 : Cond.instanceMethod yX0_countOne ∈ lw_tbl := wsL_law_in0_17 _ (List.mem_of_getElem? (i := 3) rfl)
set_option maxRecDepth 20000 in
theorem m9_17_4 : Cond.selects RX0 yX0_countOne yX0_countOne ∈ lw_tbl := wsL_law_in0_17 _ (List.mem_of_getElem? (i := 4) rfl)
set_option maxRecDepth 20000 in
theorem m9_17_5 : Cond.code yX0_countOne cX0_countOne 2 none ∈ lw_tbl := wsL_law_in0_17 _ (List.mem_of_getElem? (i := 5) rfl)
set_option maxRecDepth 20000 in
theorem m9_17_6 : Cond.methodLink RX2 142 yX2_settle ∈ lw_tbl := wsL_law_in0_17 _ (List.mem_of_getElem? (i := 6) rfl)
set_option maxRecDepth 20000 in
theorem m9_17_7 : Cond.instanceMethod yX2_settle ∈ lw_tbl := wsL_law_in0_17 _ (List.mem_of_getElem? (i := 7) rfl)
set_option maxRecDepth 20000 in
theorem m9_17_8 : Cond.selects RX2 yX2_settle yX2_settle ∈ lw_tbl := wsL_law_in0_17 _ (List.mem_of_getElem? (i := 8) rfl)
set_option maxRecDepth 20000 in
theorem m9_17_9 : Cond.code yX2_settle cX2_settle 2 none ∈ lw_tbl := wsL_law_in0_17 _ (List.mem_of_getElem? (i := 9) rfl)
set_option maxRecDepth 20000 in
theorem m9_17_10 : Cond.methodLink RX2 152 yX0_give ∈ lw_tbl := wsL_law_in0_17 _ (List.mem_of_getElem? (i := 10) rfl)
set_option maxRecDepth 20000 in
theorem m9_17_11 : Cond.methodLink RX2 156 yX0_remove ∈ lw_tbl := wsL_law_in0_17 _ (List.mem_of_getElem? (i := 11) rfl)
set_option maxRecDepth 20000 in
theorem m9_17_12 : Cond.methodLink RX2 145 yX0_beginNextSeason ∈ lw_tbl := wsL_law_in0_17 _ (List.mem_of_getElem? (i := 12) rfl)
set_option maxRecDepth 20000 in
theorem m9_17_13 : Cond.instanceMethod yX0_beginNextSeason ∈ lw_tbl := wsL_law_in0_17 _ (List.mem_of_getElem? (i := 13) rfl)
set_option maxRecDepth 20000 in
theorem m9_17_14 : Cond.selects RX0 yX0_beginNextSeason yX0_beginNextSeason ∈ lw_tbl := wsL_law_in0_17 _ (List.mem_of_getElem? (i := 14) rfl)
set_option maxRecDepth 20000 in
theorem m9_17_15 : Cond.code yX0_beginNextSeason cX0_beginNextSeason 1 none ∈ lw_tbl := wsL_law_in0_17 _ (List.mem_of_getElem? (i := 15) rfl)
set_option maxRecDepth 20000 in
theorem m9_17_16 : Cond.methodLink RX0 66 yX0_endYear ∈ lw_tbl := wsL_law_in0_17 _ (List.mem_of_getElem? (i := 16) rfl)
set_option maxRecDepth 20000 in
theorem m9_17_17 : Cond.instanceMethod yX0_endYear ∈ lw_tbl := wsL_law_in0_17 _ (List.mem_of_getElem? (i := 17) rfl)
set_option maxRecDepth 20000 in
theorem m9_17_18 : Cond.selects RX0 yX0_endYear yX0_endYear ∈ lw_tbl := wsL_law_in0_17 _ (List.mem_of_getElem? (i := 18) rfl)
set_option maxRecDepth 20000 in
theorem m9_17_19 : Cond.code yX0_endYear cX0_endYear 3 none ∈ lw_tbl := wsL_law_in0_17 _ (List.mem_of_getElem? (i := 19) rfl)
set_option maxRecDepth 20000 in
theorem m9_17_20 : Cond.methodLink RX0 73 yX0_claimCentres ∈ lw_tbl := wsL_law_in0_17 _ (List.mem_of_getElem? (i := 20) rfl)
set_option maxRecDepth 20000 in
theorem m9_17_21 : Cond.instanceMethod yX0_claimCentres ∈ lw_tbl := wsL_law_in0_17 _ (List.mem_of_getElem? (i := 21) rfl)
set_option maxRecDepth 20000 in
theorem m9_17_22 : Cond.selects RX0 yX0_claimCentres yX0_claimCentres ∈ lw_tbl := wsL_law_in0_17 _ (List.mem_of_getElem? (i := 22) rfl)
set_option maxRecDepth 20000 in
theorem m9_17_23 : Cond.code yX0_claimCentres cX0_claimCentres 2 none ∈ lw_tbl := wsL_law_in0_17 _ (List.mem_of_getElem? (i := 23) rfl)
set_option maxRecDepth 20000 in
theorem m9_18_0 : Cond.static yX4_isCentre ∈ lw_tbl := wsL_law_in0_18 _ (List.mem_of_getElem? (i := 0) rfl)
set_option maxRecDepth 20000 in
theorem m9_18_1 : Cond.code yX4_isCentre cX4_isCentre 1 (some .boolean) ∈ lw_tbl := wsL_law_in0_18 _ (List.mem_of_getElem? (i := 1) rfl)
set_option maxRecDepth 20000 in
theorem m9_18_2 : Cond.methodLink RX0 76 yX0_centresOf ∈ lw_tbl := wsL_law_in0_18 _ (List.mem_of_getElem? (i := 2) rfl)
set_option maxRecDepth 20000 in
theorem m9_18_3 : Cond.instanceMethod yX0_centresOf ∈ lw_tbl := wsL_law_in0_18 _ (List.mem_of_getElem? (i := 3) rfl)
set_option maxRecDepth 20000 in
theorem m9_18_4 : Cond.selects RX0 yX0_centresOf yX0_centresOf ∈ lw_tbl := wsL_law_in0_18 _ (List.mem_of_getElem? (i := 4) rfl)
set_option maxRecDepth 20000 in
theorem m9_18_5 : Cond.code yX0_centresOf cX0_centresOf 4 (some .int) ∈ lw_tbl := wsL_law_in0_18 _ (List.mem_of_getElem? (i := 5) rfl)
set_option maxRecDepth 20000 in
theorem m9_18_6 : Cond.methodLink RX0 57 yX0_owner ∈ lw_tbl := wsL_law_in0_18 _ (List.mem_of_getElem? (i := 6) rfl)
set_option maxRecDepth 20000 in
theorem m9_18_7 : Cond.instanceMethod yX0_owner ∈ lw_tbl := wsL_law_in0_18 _ (List.mem_of_getElem? (i := 7) rfl)
set_option maxRecDepth 20000 in
theorem m9_18_8 : Cond.selects RX0 yX0_owner yX0_owner ∈ lw_tbl := wsL_law_in0_18 _ (List.mem_of_getElem? (i := 8) rfl)
set_option maxRecDepth 20000 in
theorem m9_18_9 : Cond.code yX0_owner cX0_owner 2 (some .int) ∈ lw_tbl := wsL_law_in0_18 _ (List.mem_of_getElem? (i := 9) rfl)
set_option maxRecDepth 20000 in
theorem m9_18_10 : Cond.methodLink RX0 79 yX0_armiesOf ∈ lw_tbl := wsL_law_in0_18 _ (List.mem_of_getElem? (i := 10) rfl)
set_option maxRecDepth 20000 in
theorem m9_18_11 : Cond.instanceMethod yX0_armiesOf ∈ lw_tbl := wsL_law_in0_18 _ (List.mem_of_getElem? (i := 11) rfl)
set_option maxRecDepth 20000 in
theorem m9_18_12 : Cond.selects RX0 yX0_armiesOf yX0_armiesOf ∈ lw_tbl := wsL_law_in0_18 _ (List.mem_of_getElem? (i := 12) rfl)
set_option maxRecDepth 20000 in
theorem m9_18_13 : Cond.code yX0_armiesOf cX0_armiesOf 4 (some .int) ∈ lw_tbl := wsL_law_in0_18 _ (List.mem_of_getElem? (i := 13) rfl)
set_option maxRecDepth 20000 in
theorem m9_18_14 : Cond.methodLink RX0 82 yX0_takeOff ∈ lw_tbl := wsL_law_in0_18 _ (List.mem_of_getElem? (i := 14) rfl)
set_option maxRecDepth 20000 in
theorem m9_18_15 : Cond.instanceMethod yX0_takeOff ∈ lw_tbl := wsL_law_in0_18 _ (List.mem_of_getElem? (i := 15) rfl)
set_option maxRecDepth 20000 in
theorem m9_18_16 : Cond.selects RX0 yX0_takeOff yX0_takeOff ∈ lw_tbl := wsL_law_in0_18 _ (List.mem_of_getElem? (i := 16) rfl)
set_option maxRecDepth 20000 in
theorem m9_18_17 : Cond.code yX0_takeOff cX0_takeOff 5 none ∈ lw_tbl := wsL_law_in0_18 _ (List.mem_of_getElem? (i := 17) rfl)
set_option maxRecDepth 20000 in
theorem m9_18_18 : Cond.methodLink RX0 92 yX0_remove ∈ lw_tbl := wsL_law_in0_18 _ (List.mem_of_getElem? (i := 18) rfl)
set_option maxRecDepth 20000 in
theorem m9_18_19 : Cond.methodLink RX0 69 yX0_countOne ∈ lw_tbl := wsL_law_in0_18 _ (List.mem_of_getElem? (i := 19) rfl)
set_option maxRecDepth 20000 in
theorem m9_18_20 : Cond.methodLink RX0 86 yX0_build ∈ lw_tbl := wsL_law_in0_18 _ (List.mem_of_getElem? (i := 20) rfl)
set_option maxRecDepth 20000 in
theorem m9_18_21 : Cond.instanceMethod yX0_build ∈ lw_tbl := wsL_law_in0_18 _ (List.mem_of_getElem? (i := 21) rfl)
set_option maxRecDepth 20000 in
theorem m9_18_22 : Cond.selects RX0 yX0_build yX0_build ∈ lw_tbl := wsL_law_in0_18 _ (List.mem_of_getElem? (i := 22) rfl)
set_option maxRecDepth 20000 in
theorem m9_18_23 : Cond.code yX0_build cX0_build 3 none ∈ lw_tbl := wsL_law_in0_18 _ (List.mem_of_getElem? (i := 23) rfl)
set_option maxRecDepth 20000 in
theorem m9_19_0 : Cond.methodLink RX0 95 yX0_armyOn ∈ lw_tbl := wsL_law_in0_19 _ (List.mem_of_getElem? (i := 0) rfl)
set_option maxRecDepth 20000 in
theorem m9_19_1 : Cond.methodLink RX0 98 yX0_setUp ∈ lw_tbl := wsL_law_in0_19 _ (List.mem_of_getElem? (i := 1) rfl)
set_option maxRecDepth 20000 in
theorem m9_19_2 : Cond.methodLink RL 97 yX5_open ∈ lw_tbl := wsL_law_in0_19 _ (List.mem_of_getElem? (i := 2) rfl)
set_option maxRecDepth 20000 in
theorem m9_19_3 : Cond.instanceMethod yX5_open ∈ lw_tbl := wsL_law_in0_19 _ (List.mem_of_getElem? (i := 3) rfl)
set_option maxRecDepth 20000 in
theorem m9_19_4 : Cond.selects RX5 yX5_open yX5_open ∈ lw_tbl := wsL_law_in0_19 _ (List.mem_of_getElem? (i := 4) rfl)
set_option maxRecDepth 20000 in
theorem m9_19_5 : Cond.code yX5_open cX5_open 2 (some .int) ∈ lw_tbl := wsL_law_in0_19 _ (List.mem_of_getElem? (i := 5) rfl)
set_option maxRecDepth 20000 in
theorem m9_19_6 : Cond.methodLink RX5 163 yX5_opens ∈ lw_tbl := wsL_law_in0_19 _ (List.mem_of_getElem? (i := 6) rfl)
set_option maxRecDepth 20000 in
theorem m9_19_7 : Cond.instanceMethod yX5_opens ∈ lw_tbl := wsL_law_in0_19 _ (List.mem_of_getElem? (i := 7) rfl)
set_option maxRecDepth 20000 in
theorem m9_19_8 : Cond.selects RX5 yX5_opens yX5_opens ∈ lw_tbl := wsL_law_in0_19 _ (List.mem_of_getElem? (i := 8) rfl)
set_option maxRecDepth 20000 in
theorem m9_19_9 : Cond.code yX5_opens cX5_opens 5 (some .int) ∈ lw_tbl := wsL_law_in0_19 _ (List.mem_of_getElem? (i := 9) rfl)
set_option maxRecDepth 20000 in
theorem m9_19_10 : Cond.methodLink RX5 111 yX5_layOpening ∈ lw_tbl := wsL_law_in0_19 _ (List.mem_of_getElem? (i := 10) rfl)
set_option maxRecDepth 20000 in
theorem m9_19_11 : Cond.instanceMethod yX5_layOpening ∈ lw_tbl := wsL_law_in0_19 _ (List.mem_of_getElem? (i := 11) rfl)
set_option maxRecDepth 20000 in
theorem m9_19_12 : Cond.selects RX5 yX5_layOpening yX5_layOpening ∈ lw_tbl := wsL_law_in0_19 _ (List.mem_of_getElem? (i := 12) rfl)
set_option maxRecDepth 20000 in
theorem m9_19_13 : Cond.code yX5_layOpening cX5_layOpening 3 none ∈ lw_tbl := wsL_law_in0_19 _ (List.mem_of_getElem? (i := 13) rfl)
set_option maxRecDepth 20000 in
theorem m9_19_14 : Cond.methodLink RX5 98 yX5_layStrengths ∈ lw_tbl := wsL_law_in0_19 _ (List.mem_of_getElem? (i := 14) rfl)
set_option maxRecDepth 20000 in
theorem m9_19_15 : Cond.instanceMethod yX5_layStrengths ∈ lw_tbl := wsL_law_in0_19 _ (List.mem_of_getElem? (i := 15) rfl)
set_option maxRecDepth 20000 in
theorem m9_19_16 : Cond.selects RX5 yX5_layStrengths yX5_layStrengths ∈ lw_tbl := wsL_law_in0_19 _ (List.mem_of_getElem? (i := 16) rfl)
set_option maxRecDepth 20000 in
theorem m9_19_17 : Cond.code yX5_layStrengths cX5_layStrengths 2 none ∈ lw_tbl := wsL_law_in0_19 _ (List.mem_of_getElem? (i := 17) rfl)
set_option maxRecDepth 20000 in
theorem m9_19_18 : Cond.methodLink RX5 80 yX5_isAttacked ∈ lw_tbl := wsL_law_in0_19 _ (List.mem_of_getElem? (i := 18) rfl)
set_option maxRecDepth 20000 in
theorem m9_19_19 : Cond.instanceMethod yX5_isAttacked ∈ lw_tbl := wsL_law_in0_19 _ (List.mem_of_getElem? (i := 19) rfl)
set_option maxRecDepth 20000 in
theorem m9_19_20 : Cond.selects RX5 yX5_isAttacked yX5_isAttacked ∈ lw_tbl := wsL_law_in0_19 _ (List.mem_of_getElem? (i := 20) rfl)
set_option maxRecDepth 20000 in
theorem m9_19_21 : Cond.code yX5_isAttacked cX5_isAttacked 4 (some .boolean) ∈ lw_tbl := wsL_law_in0_19 _ (List.mem_of_getElem? (i := 21) rfl)
set_option maxRecDepth 20000 in
theorem m9_19_22 : Cond.methodLink RX5 76 yX5_movesTo ∈ lw_tbl := wsL_law_in0_19 _ (List.mem_of_getElem? (i := 22) rfl)
set_option maxRecDepth 20000 in
theorem m9_19_23 : Cond.instanceMethod yX5_movesTo ∈ lw_tbl := wsL_law_in0_19 _ (List.mem_of_getElem? (i := 23) rfl)
set_option maxRecDepth 20000 in
theorem m9_20_0 : Cond.selects RX5 yX5_movesTo yX5_movesTo ∈ lw_tbl := wsL_law_in0_20 _ (List.mem_of_getElem? (i := 0) rfl)
set_option maxRecDepth 20000 in
theorem m9_20_1 : Cond.code yX5_movesTo cX5_movesTo 3 (some .boolean) ∈ lw_tbl := wsL_law_in0_20 _ (List.mem_of_getElem? (i := 1) rfl)
set_option maxRecDepth 20000 in
theorem m9_20_2 : Cond.methodLink RX5 68 yX5_moves ∈ lw_tbl := wsL_law_in0_20 _ (List.mem_of_getElem? (i := 2) rfl)
set_option maxRecDepth 20000 in
theorem m9_20_3 : Cond.instanceMethod yX5_moves ∈ lw_tbl := wsL_law_in0_20 _ (List.mem_of_getElem? (i := 3) rfl)
set_option maxRecDepth 20000 in
theorem m9_20_4 : Cond.selects RX5 yX5_moves yX5_moves ∈ lw_tbl := wsL_law_in0_20 _ (List.mem_of_getElem? (i := 4) rfl)
set_option maxRecDepth 20000 in
theorem m9_20_5 : Cond.code yX5_moves cX5_moves 2 (some .boolean) ∈ lw_tbl := wsL_law_in0_20 _ (List.mem_of_getElem? (i := 5) rfl)
set_option maxRecDepth 20000 in
theorem m9_20_6 : Cond.methodLink RX5 83 yX5_hasObject ∈ lw_tbl := wsL_law_in0_20 _ (List.mem_of_getElem? (i := 6) rfl)
set_option maxRecDepth 20000 in
theorem m9_20_7 : Cond.instanceMethod yX5_hasObject ∈ lw_tbl := wsL_law_in0_20 _ (List.mem_of_getElem? (i := 7) rfl)
set_option maxRecDepth 20000 in
theorem m9_20_8 : Cond.selects RX5 yX5_hasObject yX5_hasObject ∈ lw_tbl := wsL_law_in0_20 _ (List.mem_of_getElem? (i := 8) rfl)
set_option maxRecDepth 20000 in
theorem m9_20_9 : Cond.code yX5_hasObject cX5_hasObject 3 (some .boolean) ∈ lw_tbl := wsL_law_in0_20 _ (List.mem_of_getElem? (i := 9) rfl)
set_option maxRecDepth 20000 in
theorem m9_20_10 : Cond.methodLink RX5 101 yX5_layFails ∈ lw_tbl := wsL_law_in0_20 _ (List.mem_of_getElem? (i := 10) rfl)
set_option maxRecDepth 20000 in
theorem m9_20_11 : Cond.instanceMethod yX5_layFails ∈ lw_tbl := wsL_law_in0_20 _ (List.mem_of_getElem? (i := 11) rfl)
set_option maxRecDepth 20000 in
theorem m9_20_12 : Cond.selects RX5 yX5_layFails yX5_layFails ∈ lw_tbl := wsL_law_in0_20 _ (List.mem_of_getElem? (i := 12) rfl)
set_option maxRecDepth 20000 in
theorem m9_20_13 : Cond.code yX5_layFails cX5_layFails 4 none ∈ lw_tbl := wsL_law_in0_20 _ (List.mem_of_getElem? (i := 13) rfl)
set_option maxRecDepth 20000 in
theorem m9_20_14 : Cond.methodLink RX5 89 yX5_reason ∈ lw_tbl := wsL_law_in0_20 _ (List.mem_of_getElem? (i := 14) rfl)
set_option maxRecDepth 20000 in
theorem m9_20_15 : Cond.instanceMethod yX5_reason ∈ lw_tbl := wsL_law_in0_20 _ (List.mem_of_getElem? (i := 15) rfl)
set_option maxRecDepth 20000 in
theorem m9_20_16 : Cond.selects RX5 yX5_reason yX5_reason ∈ lw_tbl := wsL_law_in0_20 _ (List.mem_of_getElem? (i := 16) rfl)
set_option maxRecDepth 20000 in
theorem m9_20_17 : Cond.code yX5_reason cX5_reason 4 (some .int) ∈ lw_tbl := wsL_law_in0_20 _ (List.mem_of_getElem? (i := 17) rfl)
set_option maxRecDepth 20000 in
theorem m9_20_18 : Cond.methodLink RX5 86 yX5_stays ∈ lw_tbl := wsL_law_in0_20 _ (List.mem_of_getElem? (i := 18) rfl)
set_option maxRecDepth 20000 in
theorem m9_20_19 : Cond.instanceMethod yX5_stays ∈ lw_tbl := wsL_law_in0_20 _ (List.mem_of_getElem? (i := 19) rfl)
set_option maxRecDepth 20000 in
theorem m9_20_20 : Cond.selects RX5 yX5_stays yX5_stays ∈ lw_tbl := wsL_law_in0_20 _ (List.mem_of_getElem? (i := 20) rfl)
set_option maxRecDepth 20000 in
theorem m9_20_21 : Cond.code yX5_stays cX5_stays 2 (some .boolean) ∈ lw_tbl := wsL_law_in0_20 _ (List.mem_of_getElem? (i := 21) rfl)
set_option maxRecDepth 20000 in
theorem m9_20_22 : Cond.methodLink RX5 104 yX5_nextDriven ∈ lw_tbl := wsL_law_in0_20 _ (List.mem_of_getElem? (i := 22) rfl)
set_option maxRecDepth 20000 in
theorem m9_20_23 : Cond.instanceMethod yX5_nextDriven ∈ lw_tbl := wsL_law_in0_20 _ (List.mem_of_getElem? (i := 23) rfl)
set_option maxRecDepth 20000 in
theorem m9_21_0 : Cond.selects RX5 yX5_nextDriven yX5_nextDriven ∈ lw_tbl := wsL_law_in0_21 _ (List.mem_of_getElem? (i := 0) rfl)
set_option maxRecDepth 20000 in
theorem m9_21_1 : Cond.code yX5_nextDriven cX5_nextDriven 4 (some .int) ∈ lw_tbl := wsL_law_in0_21 _ (List.mem_of_getElem? (i := 1) rfl)
set_option maxRecDepth 20000 in
theorem m9_21_2 : Cond.methodLink RX5 108 yX5_retreat ∈ lw_tbl := wsL_law_in0_21 _ (List.mem_of_getElem? (i := 2) rfl)
set_option maxRecDepth 20000 in
theorem m9_21_3 : Cond.instanceMethod yX5_retreat ∈ lw_tbl := wsL_law_in0_21 _ (List.mem_of_getElem? (i := 3) rfl)
set_option maxRecDepth 20000 in
theorem m9_21_4 : Cond.selects RX5 yX5_retreat yX5_retreat ∈ lw_tbl := wsL_law_in0_21 _ (List.mem_of_getElem? (i := 4) rfl)
set_option maxRecDepth 20000 in
theorem m9_21_5 : Cond.code yX5_retreat cX5_retreat 5 (some .int) ∈ lw_tbl := wsL_law_in0_21 _ (List.mem_of_getElem? (i := 5) rfl)
set_option maxRecDepth 20000 in
theorem m9_21_6 : Cond.methodLink RX5 95 yX5_isTaken ∈ lw_tbl := wsL_law_in0_21 _ (List.mem_of_getElem? (i := 6) rfl)
set_option maxRecDepth 20000 in
theorem m9_21_7 : Cond.instanceMethod yX5_isTaken ∈ lw_tbl := wsL_law_in0_21 _ (List.mem_of_getElem? (i := 7) rfl)
set_option maxRecDepth 20000 in
theorem m9_21_8 : Cond.selects RX5 yX5_isTaken yX5_isTaken ∈ lw_tbl := wsL_law_in0_21 _ (List.mem_of_getElem? (i := 8) rfl)
set_option maxRecDepth 20000 in
theorem m9_21_9 : Cond.code yX5_isTaken cX5_isTaken 4 (some .boolean) ∈ lw_tbl := wsL_law_in0_21 _ (List.mem_of_getElem? (i := 9) rfl)
set_option maxRecDepth 20000 in
theorem m9_21_10 : Cond.methodLink RX5 166 yX5_endsYear ∈ lw_tbl := wsL_law_in0_21 _ (List.mem_of_getElem? (i := 10) rfl)
set_option maxRecDepth 20000 in
theorem m9_21_11 : Cond.instanceMethod yX5_endsYear ∈ lw_tbl := wsL_law_in0_21 _ (List.mem_of_getElem? (i := 11) rfl)
set_option maxRecDepth 20000 in
theorem m9_21_12 : Cond.selects RX5 yX5_endsYear yX5_endsYear ∈ lw_tbl := wsL_law_in0_21 _ (List.mem_of_getElem? (i := 12) rfl)
set_option maxRecDepth 20000 in
theorem m9_21_13 : Cond.code yX5_endsYear cX5_endsYear 3 none ∈ lw_tbl := wsL_law_in0_21 _ (List.mem_of_getElem? (i := 13) rfl)
set_option maxRecDepth 20000 in
theorem m9_21_14 : Cond.methodLink RX5 126 yX5_belongs ∈ lw_tbl := wsL_law_in0_21 _ (List.mem_of_getElem? (i := 14) rfl)
set_option maxRecDepth 20000 in
theorem m9_21_15 : Cond.instanceMethod yX5_belongs ∈ lw_tbl := wsL_law_in0_21 _ (List.mem_of_getElem? (i := 15) rfl)
set_option maxRecDepth 20000 in
theorem m9_21_16 : Cond.selects RX5 yX5_belongs yX5_belongs ∈ lw_tbl := wsL_law_in0_21 _ (List.mem_of_getElem? (i := 16) rfl)
set_option maxRecDepth 20000 in
theorem m9_21_17 : Cond.code yX5_belongs cX5_belongs 3 none ∈ lw_tbl := wsL_law_in0_21 _ (List.mem_of_getElem? (i := 17) rfl)
set_option maxRecDepth 20000 in
theorem m9_21_18 : Cond.methodLink RX5 129 yX5_armiesOf ∈ lw_tbl := wsL_law_in0_21 _ (List.mem_of_getElem? (i := 18) rfl)
set_option maxRecDepth 20000 in
theorem m9_21_19 : Cond.instanceMethod yX5_armiesOf ∈ lw_tbl := wsL_law_in0_21 _ (List.mem_of_getElem? (i := 19) rfl)
set_option maxRecDepth 20000 in
theorem m9_21_20 : Cond.selects RX5 yX5_armiesOf yX5_armiesOf ∈ lw_tbl := wsL_law_in0_21 _ (List.mem_of_getElem? (i := 20) rfl)
set_option maxRecDepth 20000 in
theorem m9_21_21 : Cond.code yX5_armiesOf cX5_armiesOf 4 (some .int) ∈ lw_tbl := wsL_law_in0_21 _ (List.mem_of_getElem? (i := 21) rfl)
set_option maxRecDepth 20000 in
theorem m9_21_22 : Cond.methodLink RX5 132 yX5_centresOf ∈ lw_tbl := wsL_law_in0_21 _ (List.mem_of_getElem? (i := 22) rfl)
set_option maxRecDepth 20000 in
theorem m9_21_23 : Cond.instanceMethod yX5_centresOf ∈ lw_tbl := wsL_law_in0_21 _ (List.mem_of_getElem? (i := 23) rfl)
set_option maxRecDepth 20000 in
theorem m9_22_0 : Cond.selects RX5 yX5_centresOf yX5_centresOf ∈ lw_tbl := wsL_law_in0_22 _ (List.mem_of_getElem? (i := 0) rfl)
set_option maxRecDepth 20000 in
theorem m9_22_1 : Cond.code yX5_centresOf cX5_centresOf 4 (some .int) ∈ lw_tbl := wsL_law_in0_22 _ (List.mem_of_getElem? (i := 1) rfl)
set_option maxRecDepth 20000 in
theorem m9_22_2 : Cond.methodLink RX5 135 yX5_highestOf ∈ lw_tbl := wsL_law_in0_22 _ (List.mem_of_getElem? (i := 2) rfl)
set_option maxRecDepth 20000 in
theorem m9_22_3 : Cond.instanceMethod yX5_highestOf ∈ lw_tbl := wsL_law_in0_22 _ (List.mem_of_getElem? (i := 3) rfl)
set_option maxRecDepth 20000 in
theorem m9_22_4 : Cond.selects RX5 yX5_highestOf yX5_highestOf ∈ lw_tbl := wsL_law_in0_22 _ (List.mem_of_getElem? (i := 4) rfl)
set_option maxRecDepth 20000 in
theorem m9_22_5 : Cond.code yX5_highestOf cX5_highestOf 4 (some .int) ∈ lw_tbl := wsL_law_in0_22 _ (List.mem_of_getElem? (i := 5) rfl)
set_option maxRecDepth 20000 in
theorem m9_22_6 : Cond.methodLink RX5 138 yX5_builds ∈ lw_tbl := wsL_law_in0_22 _ (List.mem_of_getElem? (i := 6) rfl)
set_option maxRecDepth 20000 in
theorem m9_22_7 : Cond.instanceMethod yX5_builds ∈ lw_tbl := wsL_law_in0_22 _ (List.mem_of_getElem? (i := 7) rfl)
set_option maxRecDepth 20000 in
theorem m9_22_8 : Cond.selects RX5 yX5_builds yX5_builds ∈ lw_tbl := wsL_law_in0_22 _ (List.mem_of_getElem? (i := 8) rfl)
set_option maxRecDepth 20000 in
theorem m9_22_9 : Cond.code yX5_builds cX5_builds 4 none ∈ lw_tbl := wsL_law_in0_22 _ (List.mem_of_getElem? (i := 9) rfl)
set_option maxRecDepth 20000 in
theorem m9_22_10 : Cond.methodLink RL 98 yL_append ∈ lw_tbl := wsL_law_in0_22 _ (List.mem_of_getElem? (i := 10) rfl)
set_option maxRecDepth 20000 in
theorem m9_22_11 : Cond.static yL_append ∈ lw_tbl := wsL_law_in0_22 _ (List.mem_of_getElem? (i := 11) rfl)
set_option maxRecDepth 20000 in
theorem m9_22_12 : Cond.codeWith yL_append cL_append 4 (some .int) [(0, 9, 12, 27), (0, 9, 15, 15)] ∈ lw_tbl := wsL_law_in0_22 _ (List.mem_of_getElem? (i := 12) rfl)
set_option maxRecDepth 20000 in
theorem m9_22_13 : Cond.methodLink RL 33 yX4_append ∈ lw_tbl := wsL_law_in0_22 _ (List.mem_of_getElem? (i := 13) rfl)
set_option maxRecDepth 20000 in
theorem m9_22_14 : Cond.instanceMethod yX4_append ∈ lw_tbl := wsL_law_in0_22 _ (List.mem_of_getElem? (i := 14) rfl)
set_option maxRecDepth 20000 in
theorem m9_22_15 : Cond.selects RX4 yX4_append yX4_append ∈ lw_tbl := wsL_law_in0_22 _ (List.mem_of_getElem? (i := 15) rfl)
set_option maxRecDepth 20000 in
theorem m9_22_16 : Cond.code yX4_append cX4_append 2 (some .int) ∈ lw_tbl := wsL_law_in0_22 _ (List.mem_of_getElem? (i := 16) rfl)
set_option maxRecDepth 20000 in
theorem m9_22_17 : Cond.methodLink RX4 120 yX3_size ∈ lw_tbl := wsL_law_in0_22 _ (List.mem_of_getElem? (i := 17) rfl)
set_option maxRecDepth 20000 in
theorem m9_22_18 : Cond.instanceMethod yX3_size ∈ lw_tbl := wsL_law_in0_22 _ (List.mem_of_getElem? (i := 18) rfl)
set_option maxRecDepth 20000 in
theorem m9_22_19 : Cond.selects RX3 yX3_size yX3_size ∈ lw_tbl := wsL_law_in0_22 _ (List.mem_of_getElem? (i := 19) rfl)
set_option maxRecDepth 20000 in
theorem m9_22_20 : Cond.code yX3_size cX3_size 1 (some .int) ∈ lw_tbl := wsL_law_in0_22 _ (List.mem_of_getElem? (i := 20) rfl)
set_option maxRecDepth 20000 in
theorem m9_22_21 : Cond.methodLink RX4 125 yX3_add ∈ lw_tbl := wsL_law_in0_22 _ (List.mem_of_getElem? (i := 21) rfl)
set_option maxRecDepth 20000 in
theorem m9_22_22 : Cond.instanceMethod yX3_add ∈ lw_tbl := wsL_law_in0_22 _ (List.mem_of_getElem? (i := 22) rfl)
set_option maxRecDepth 20000 in
theorem m9_22_23 : Cond.selects RX3 yX3_add yX3_add ∈ lw_tbl := wsL_law_in0_22 _ (List.mem_of_getElem? (i := 23) rfl)
set_option maxRecDepth 20000 in
theorem m9_23_0 : Cond.code yX3_add cX3_add 2 none ∈ lw_tbl := wsL_law_in0_23 _ (List.mem_of_getElem? (i := 0) rfl)
set_option maxRecDepth 20000 in
theorem m9_23_1 : Cond.methodLink RL 100 yX5_append ∈ lw_tbl := wsL_law_in0_23 _ (List.mem_of_getElem? (i := 1) rfl)
set_option maxRecDepth 20000 in
theorem m9_23_2 : Cond.instanceMethod yX5_append ∈ lw_tbl := wsL_law_in0_23 _ (List.mem_of_getElem? (i := 2) rfl)
set_option maxRecDepth 20000 in
theorem m9_23_3 : Cond.selects RX5 yX5_append yX5_append ∈ lw_tbl := wsL_law_in0_23 _ (List.mem_of_getElem? (i := 3) rfl)
set_option maxRecDepth 20000 in
theorem m9_23_4 : Cond.code yX5_append cX5_append 2 (some .int) ∈ lw_tbl := wsL_law_in0_23 _ (List.mem_of_getElem? (i := 4) rfl)
set_option maxRecDepth 20000 in
theorem m9_23_5 : Cond.fieldLink RX5 169 "FogOrdersModel" "length" "I" ∈ lw_tbl := wsL_law_in0_23 _ (List.mem_of_getElem? (i := 5) rfl)
set_option maxRecDepth 20000 in
theorem m9_23_6 : Cond.methodLink RL 101 yX4_clearBuffer ∈ lw_tbl := wsL_law_in0_23 _ (List.mem_of_getElem? (i := 6) rfl)
set_option maxRecDepth 20000 in
theorem m9_23_7 : Cond.instanceMethod yX4_clearBuffer ∈ lw_tbl := wsL_law_in0_23 _ (List.mem_of_getElem? (i := 7) rfl)
set_option maxRecDepth 20000 in
theorem m9_23_8 : Cond.selects RX4 yX4_clearBuffer yX4_clearBuffer ∈ lw_tbl := wsL_law_in0_23 _ (List.mem_of_getElem? (i := 8) rfl)
set_option maxRecDepth 20000 in
theorem m9_23_9 : Cond.code yX4_clearBuffer cX4_clearBuffer 2 (some .int) ∈ lw_tbl := wsL_law_in0_23 _ (List.mem_of_getElem? (i := 9) rfl)
set_option maxRecDepth 20000 in
theorem m9_23_10 : Cond.methodLink RX4 128 yX3_empty ∈ lw_tbl := wsL_law_in0_23 _ (List.mem_of_getElem? (i := 10) rfl)
set_option maxRecDepth 20000 in
theorem m9_23_11 : Cond.instanceMethod yX3_empty ∈ lw_tbl := wsL_law_in0_23 _ (List.mem_of_getElem? (i := 11) rfl)
set_option maxRecDepth 20000 in
theorem m9_23_12 : Cond.selects RX3 yX3_empty yX3_empty ∈ lw_tbl := wsL_law_in0_23 _ (List.mem_of_getElem? (i := 12) rfl)
set_option maxRecDepth 20000 in
theorem m9_23_13 : Cond.code yX3_empty cX3_empty 1 none ∈ lw_tbl := wsL_law_in0_23 _ (List.mem_of_getElem? (i := 13) rfl)
set_option maxRecDepth 20000 in
theorem m9_23_14 : Cond.methodLink RL 104 yX5_clearBuffer ∈ lw_tbl := wsL_law_in0_23 _ (List.mem_of_getElem? (i := 14) rfl)
set_option maxRecDepth 20000 in
theorem m9_23_15 : Cond.instanceMethod yX5_clearBuffer ∈ lw_tbl := wsL_law_in0_23 _ (List.mem_of_getElem? (i := 15) rfl)
set_option maxRecDepth 20000 in
theorem m9_23_16 : Cond.selects RX5 yX5_clearBuffer yX5_clearBuffer ∈ lw_tbl := wsL_law_in0_23 _ (List.mem_of_getElem? (i := 16) rfl)
set_option maxRecDepth 20000 in
theorem m9_23_17 : Cond.code yX5_clearBuffer cX5_clearBuffer 2 (some .int) ∈ lw_tbl := wsL_law_in0_23 _ (List.mem_of_getElem? (i := 17) rfl)
set_option maxRecDepth 20000 in
theorem m9_23_18 : Cond.methodLink RL 105 yX4_firstError ∈ lw_tbl := wsL_law_in0_23 _ (List.mem_of_getElem? (i := 18) rfl)
set_option maxRecDepth 20000 in
theorem m9_23_19 : Cond.instanceMethod yX4_firstError ∈ lw_tbl := wsL_law_in0_23 _ (List.mem_of_getElem? (i := 19) rfl)
set_option maxRecDepth 20000 in
theorem m9_23_20 : Cond.selects RX4 yX4_firstError yX4_firstError ∈ lw_tbl := wsL_law_in0_23 _ (List.mem_of_getElem? (i := 20) rfl)
set_option maxRecDepth 20000 in
theorem m9_23_21 : Cond.code yX4_firstError cX4_firstError 1 (some .int) ∈ lw_tbl := wsL_law_in0_23 _ (List.mem_of_getElem? (i := 21) rfl)
set_option maxRecDepth 20000 in
theorem m9_23_22 : Cond.methodLink RX4 131 yX3_errorIndex ∈ lw_tbl := wsL_law_in0_23 _ (List.mem_of_getElem? (i := 22) rfl)
set_option maxRecDepth 20000 in
theorem m9_23_23 : Cond.instanceMethod yX3_errorIndex ∈ lw_tbl := wsL_law_in0_23 _ (List.mem_of_getElem? (i := 23) rfl)
set_option maxRecDepth 20000 in
theorem m9_24_0 : Cond.selects RX3 yX3_errorIndex yX3_errorIndex ∈ lw_tbl := wsL_law_in0_24 _ (List.mem_of_getElem? (i := 0) rfl)
set_option maxRecDepth 20000 in
theorem m9_24_1 : Cond.code yX3_errorIndex cX3_errorIndex 3 (some .int) ∈ lw_tbl := wsL_law_in0_24 _ (List.mem_of_getElem? (i := 1) rfl)
set_option maxRecDepth 20000 in
theorem m9_24_2 : Cond.methodLink RX3 39 yX3_codeAt ∈ lw_tbl := wsL_law_in0_24 _ (List.mem_of_getElem? (i := 2) rfl)
set_option maxRecDepth 20000 in
theorem m9_24_3 : Cond.instanceMethod yX3_codeAt ∈ lw_tbl := wsL_law_in0_24 _ (List.mem_of_getElem? (i := 3) rfl)
set_option maxRecDepth 20000 in
theorem m9_24_4 : Cond.selects RX3 yX3_codeAt yX3_codeAt ∈ lw_tbl := wsL_law_in0_24 _ (List.mem_of_getElem? (i := 4) rfl)
set_option maxRecDepth 20000 in
theorem m9_24_5 : Cond.code yX3_codeAt cX3_codeAt 2 (some .int) ∈ lw_tbl := wsL_law_in0_24 _ (List.mem_of_getElem? (i := 5) rfl)
set_option maxRecDepth 20000 in
theorem m9_24_6 : Cond.methodLink RX3 43 yX3_stateBehind ∈ lw_tbl := wsL_law_in0_24 _ (List.mem_of_getElem? (i := 6) rfl)
set_option maxRecDepth 20000 in
theorem m9_24_7 : Cond.static yX3_stateBehind ∈ lw_tbl := wsL_law_in0_24 _ (List.mem_of_getElem? (i := 7) rfl)
set_option maxRecDepth 20000 in
theorem m9_24_8 : Cond.code yX3_stateBehind cX3_stateBehind 2 (some .int) ∈ lw_tbl := wsL_law_in0_24 _ (List.mem_of_getElem? (i := 8) rfl)
set_option maxRecDepth 20000 in
theorem m9_24_9 : Cond.methodLink RX3 47 yX3_stateBehindLetter ∈ lw_tbl := wsL_law_in0_24 _ (List.mem_of_getElem? (i := 9) rfl)
set_option maxRecDepth 20000 in
theorem m9_24_10 : Cond.static yX3_stateBehindLetter ∈ lw_tbl := wsL_law_in0_24 _ (List.mem_of_getElem? (i := 10) rfl)
set_option maxRecDepth 20000 in
theorem m9_24_11 : Cond.code yX3_stateBehindLetter cX3_stateBehindLetter 1 (some .int) ∈ lw_tbl := wsL_law_in0_24 _ (List.mem_of_getElem? (i := 11) rfl)
set_option maxRecDepth 20000 in
theorem m9_24_12 : Cond.methodLink RX3 50 yX3_stateBehindDigit ∈ lw_tbl := wsL_law_in0_24 _ (List.mem_of_getElem? (i := 12) rfl)
set_option maxRecDepth 20000 in
theorem m9_24_13 : Cond.static yX3_stateBehindDigit ∈ lw_tbl := wsL_law_in0_24 _ (List.mem_of_getElem? (i := 13) rfl)
set_option maxRecDepth 20000 in
theorem m9_24_14 : Cond.code yX3_stateBehindDigit cX3_stateBehindDigit 3 (some .int) ∈ lw_tbl := wsL_law_in0_24 _ (List.mem_of_getElem? (i := 14) rfl)
set_option maxRecDepth 20000 in
theorem m9_24_15 : Cond.methodLink RX3 60 yX3_isDigit ∈ lw_tbl := wsL_law_in0_24 _ (List.mem_of_getElem? (i := 15) rfl)
set_option maxRecDepth 20000 in
theorem m9_24_16 : Cond.static yX3_isDigit ∈ lw_tbl := wsL_law_in0_24 _ (List.mem_of_getElem? (i := 16) rfl)
set_option maxRecDepth 20000 in
theorem m9_24_17 : Cond.code yX3_isDigit cX3_isDigit 1 (some .boolean) ∈ lw_tbl := wsL_law_in0_24 _ (List.mem_of_getElem? (i := 17) rfl)
set_option maxRecDepth 20000 in
theorem m9_24_18 : Cond.methodLink RX3 54 yX3_stateBehindDash ∈ lw_tbl := wsL_law_in0_24 _ (List.mem_of_getElem? (i := 18) rfl)
set_option maxRecDepth 20000 in
theorem m9_24_19 : Cond.static yX3_stateBehindDash ∈ lw_tbl := wsL_law_in0_24 _ (List.mem_of_getElem? (i := 19) rfl)
set_option maxRecDepth 20000 in
theorem m9_24_20 : Cond.code yX3_stateBehindDash cX3_stateBehindDash 1 (some .int) ∈ lw_tbl := wsL_law_in0_24 _ (List.mem_of_getElem? (i := 20) rfl)
set_option maxRecDepth 20000 in
theorem m9_24_21 : Cond.methodLink RX3 57 yX3_stateBehindPart ∈ lw_tbl := wsL_law_in0_24 _ (List.mem_of_getElem? (i := 21) rfl)
set_option maxRecDepth 20000 in
theorem m9_24_22 : Cond.static yX3_stateBehindPart ∈ lw_tbl := wsL_law_in0_24 _ (List.mem_of_getElem? (i := 22) rfl)
set_option maxRecDepth 20000 in
theorem m9_24_23 : Cond.code yX3_stateBehindPart cX3_stateBehindPart 1 (some .int) ∈ lw_tbl := wsL_law_in0_24 _ (List.mem_of_getElem? (i := 23) rfl)
set_option maxRecDepth 20000 in
theorem m9_25_0 : Cond.methodLink RL 108 yX5_firstError ∈ lw_tbl := wsL_law_in0_25 _ (List.mem_of_getElem? (i := 0) rfl)
set_option maxRecDepth 20000 in
theorem m9_25_1 : Cond.instanceMethod yX5_firstError ∈ lw_tbl := wsL_law_in0_25 _ (List.mem_of_getElem? (i := 1) rfl)
set_option maxRecDepth 20000 in
theorem m9_25_2 : Cond.selects RX5 yX5_firstError yX5_firstError ∈ lw_tbl := wsL_law_in0_25 _ (List.mem_of_getElem? (i := 2) rfl)
set_option maxRecDepth 20000 in
theorem m9_25_3 : Cond.code yX5_firstError cX5_firstError 2 (some .int) ∈ lw_tbl := wsL_law_in0_25 _ (List.mem_of_getElem? (i := 3) rfl)
set_option maxRecDepth 20000 in
theorem m9_25_4 : Cond.fieldLink RX5 172 "FogOrdersModel" "isWrong" "Z" ∈ lw_tbl := wsL_law_in0_25 _ (List.mem_of_getElem? (i := 4) rfl)
set_option maxRecDepth 20000 in
theorem m9_25_5 : Cond.fieldLink RX5 176 "FogOrdersModel" "position" "I" ∈ lw_tbl := wsL_law_in0_25 _ (List.mem_of_getElem? (i := 5) rfl)
set_option maxRecDepth 20000 in
theorem m9_25_6 : Cond.methodLink RX5 192 yX5_reads ∈ lw_tbl := wsL_law_in0_25 _ (List.mem_of_getElem? (i := 6) rfl)
set_option maxRecDepth 20000 in
theorem m9_25_7 : Cond.instanceMethod yX5_reads ∈ lw_tbl := wsL_law_in0_25 _ (List.mem_of_getElem? (i := 7) rfl)
set_option maxRecDepth 20000 in
theorem m9_25_8 : Cond.selects RX5 yX5_reads yX5_reads ∈ lw_tbl := wsL_law_in0_25 _ (List.mem_of_getElem? (i := 8) rfl)
set_option maxRecDepth 20000 in
theorem m9_25_9 : Cond.code yX5_reads cX5_reads 5 (some .int) ∈ lw_tbl := wsL_law_in0_25 _ (List.mem_of_getElem? (i := 9) rfl)
set_option maxRecDepth 20000 in
theorem m9_25_10 : Cond.methodLink RX5 188 yX5_part ∈ lw_tbl := wsL_law_in0_25 _ (List.mem_of_getElem? (i := 10) rfl)
set_option maxRecDepth 20000 in
theorem m9_25_11 : Cond.instanceMethod yX5_part ∈ lw_tbl := wsL_law_in0_25 _ (List.mem_of_getElem? (i := 11) rfl)
set_option maxRecDepth 20000 in
theorem m9_25_12 : Cond.selects RX5 yX5_part yX5_part ∈ lw_tbl := wsL_law_in0_25 _ (List.mem_of_getElem? (i := 12) rfl)
set_option maxRecDepth 20000 in
theorem m9_25_13 : Cond.code yX5_part cX5_part 8 (some .boolean) ∈ lw_tbl := wsL_law_in0_25 _ (List.mem_of_getElem? (i := 13) rfl)
set_option maxRecDepth 20000 in
theorem m9_25_14 : Cond.methodLink RX5 179 yX5_takes ∈ lw_tbl := wsL_law_in0_25 _ (List.mem_of_getElem? (i := 14) rfl)
set_option maxRecDepth 20000 in
theorem m9_25_15 : Cond.instanceMethod yX5_takes ∈ lw_tbl := wsL_law_in0_25 _ (List.mem_of_getElem? (i := 15) rfl)
set_option maxRecDepth 20000 in
theorem m9_25_16 : Cond.selects RX5 yX5_takes yX5_takes ∈ lw_tbl := wsL_law_in0_25 _ (List.mem_of_getElem? (i := 16) rfl)
set_option maxRecDepth 20000 in
theorem m9_25_17 : Cond.code yX5_takes cX5_takes 4 (some .int) ∈ lw_tbl := wsL_law_in0_25 _ (List.mem_of_getElem? (i := 17) rfl)
set_option maxRecDepth 20000 in
theorem m9_25_18 : Cond.methodLink RX5 185 yX5_takesField ∈ lw_tbl := wsL_law_in0_25 _ (List.mem_of_getElem? (i := 18) rfl)
set_option maxRecDepth 20000 in
theorem m9_25_19 : Cond.instanceMethod yX5_takesField ∈ lw_tbl := wsL_law_in0_25 _ (List.mem_of_getElem? (i := 19) rfl)
set_option maxRecDepth 20000 in
theorem m9_25_20 : Cond.selects RX5 yX5_takesField yX5_takesField ∈ lw_tbl := wsL_law_in0_25 _ (List.mem_of_getElem? (i := 20) rfl)
set_option maxRecDepth 20000 in
theorem m9_25_21 : Cond.code yX5_takesField cX5_takesField 2 (some .int) ∈ lw_tbl := wsL_law_in0_25 _ (List.mem_of_getElem? (i := 21) rfl)
set_option maxRecDepth 20000 in
theorem m9_25_22 : Cond.methodLink RX5 182 yX5_isNext ∈ lw_tbl := wsL_law_in0_25 _ (List.mem_of_getElem? (i := 22) rfl)
set_option maxRecDepth 20000 in
theorem m9_25_23 : Cond.instanceMethod yX5_isNext ∈ lw_tbl := wsL_law_in0_25 _ (List.mem_of_getElem? (i := 23) rfl)
set_option maxRecDepth 20000 in
theorem m9_26_0 : Cond.selects RX5 yX5_isNext yX5_isNext ∈ lw_tbl := wsL_law_in0_26 _ (List.mem_of_getElem? (i := 0) rfl)
set_option maxRecDepth 20000 in
theorem m9_26_1 : Cond.code yX5_isNext cX5_isNext 3 (some .boolean) ∈ lw_tbl := wsL_law_in0_26 _ (List.mem_of_getElem? (i := 1) rfl)
set_option maxRecDepth 20000 in
theorem m9_26_2 : Cond.methodLink RL 109 yL_orders ∈ lw_tbl := wsL_law_in0_26 _ (List.mem_of_getElem? (i := 2) rfl)
set_option maxRecDepth 20000 in
theorem m9_26_3 : Cond.static yL_orders ∈ lw_tbl := wsL_law_in0_26 _ (List.mem_of_getElem? (i := 3) rfl)
set_option maxRecDepth 20000 in
theorem m9_26_4 : Cond.codeWith yL_orders cL_orders 3 (some .int) [(0, 8, 11, 27)] ∈ lw_tbl := wsL_law_in0_26 _ (List.mem_of_getElem? (i := 4) rfl)
set_option maxRecDepth 20000 in
theorem m9_26_5 : Cond.methodLink RL 36 yX4_orders ∈ lw_tbl := wsL_law_in0_26 _ (List.mem_of_getElem? (i := 5) rfl)
set_option maxRecDepth 20000 in
theorem m9_26_6 : Cond.instanceMethod yX4_orders ∈ lw_tbl := wsL_law_in0_26 _ (List.mem_of_getElem? (i := 6) rfl)
set_option maxRecDepth 20000 in
theorem m9_26_7 : Cond.selects RX4 yX4_orders yX4_orders ∈ lw_tbl := wsL_law_in0_26 _ (List.mem_of_getElem? (i := 7) rfl)
set_option maxRecDepth 20000 in
theorem m9_26_8 : Cond.code yX4_orders cX4_orders 2 (some .int) ∈ lw_tbl := wsL_law_in0_26 _ (List.mem_of_getElem? (i := 8) rfl)
set_option maxRecDepth 20000 in
theorem m9_26_9 : Cond.methodLink RX4 134 yX3_isComplete ∈ lw_tbl := wsL_law_in0_26 _ (List.mem_of_getElem? (i := 9) rfl)
set_option maxRecDepth 20000 in
theorem m9_26_10 : Cond.instanceMethod yX3_isComplete ∈ lw_tbl := wsL_law_in0_26 _ (List.mem_of_getElem? (i := 10) rfl)
set_option maxRecDepth 20000 in
theorem m9_26_11 : Cond.selects RX3 yX3_isComplete yX3_isComplete ∈ lw_tbl := wsL_law_in0_26 _ (List.mem_of_getElem? (i := 11) rfl)
set_option maxRecDepth 20000 in
theorem m9_26_12 : Cond.code yX3_isComplete cX3_isComplete 3 (some .boolean) ∈ lw_tbl := wsL_law_in0_26 _ (List.mem_of_getElem? (i := 12) rfl)
set_option maxRecDepth 20000 in
theorem m9_26_13 : Cond.methodLink RX4 140 yX4_giveAll ∈ lw_tbl := wsL_law_in0_26 _ (List.mem_of_getElem? (i := 13) rfl)
set_option maxRecDepth 20000 in
theorem m9_26_14 : Cond.instanceMethod yX4_giveAll ∈ lw_tbl := wsL_law_in0_26 _ (List.mem_of_getElem? (i := 14) rfl)
set_option maxRecDepth 20000 in
theorem m9_26_15 : Cond.selects RX4 yX4_giveAll yX4_giveAll ∈ lw_tbl := wsL_law_in0_26 _ (List.mem_of_getElem? (i := 15) rfl)
set_option maxRecDepth 20000 in
theorem m9_26_16 : Cond.code yX4_giveAll cX4_giveAll 3 (some .int) ∈ lw_tbl := wsL_law_in0_26 _ (List.mem_of_getElem? (i := 16) rfl)
set_option maxRecDepth 20000 in
theorem m9_26_17 : Cond.methodLink RX4 217 yX3_read ∈ lw_tbl := wsL_law_in0_26 _ (List.mem_of_getElem? (i := 17) rfl)
set_option maxRecDepth 20000 in
theorem m9_26_18 : Cond.instanceMethod yX3_read ∈ lw_tbl := wsL_law_in0_26 _ (List.mem_of_getElem? (i := 18) rfl)
set_option maxRecDepth 20000 in
theorem m9_26_19 : Cond.selects RX3 yX3_read yX3_read ∈ lw_tbl := wsL_law_in0_26 _ (List.mem_of_getElem? (i := 19) rfl)
set_option maxRecDepth 20000 in
theorem m9_26_20 : Cond.code yX3_read cX3_read 3 none ∈ lw_tbl := wsL_law_in0_26 _ (List.mem_of_getElem? (i := 20) rfl)
set_option maxRecDepth 20000 in
theorem m9_26_21 : Cond.methodLink RX4 220 yX3_endsPart ∈ lw_tbl := wsL_law_in0_26 _ (List.mem_of_getElem? (i := 21) rfl)
set_option maxRecDepth 20000 in
theorem m9_26_22 : Cond.instanceMethod yX3_endsPart ∈ lw_tbl := wsL_law_in0_26 _ (List.mem_of_getElem? (i := 22) rfl)
set_option maxRecDepth 20000 in
theorem m9_26_23 : Cond.selects RX3 yX3_endsPart yX3_endsPart ∈ lw_tbl := wsL_law_in0_26 _ (List.mem_of_getElem? (i := 23) rfl)
set_option maxRecDepth 20000 in
theorem m9_27_0 : Cond.code yX3_endsPart cX3_endsPart 2 (some .boolean) ∈ lw_tbl := wsL_law_in0_27 _ (List.mem_of_getElem? (i := 0) rfl)
set_option maxRecDepth 20000 in
theorem m9_27_1 : Cond.methodLink RX4 223 yX4_giveRead ∈ lw_tbl := wsL_law_in0_27 _ (List.mem_of_getElem? (i := 1) rfl)
set_option maxRecDepth 20000 in
theorem m9_27_2 : Cond.instanceMethod yX4_giveRead ∈ lw_tbl := wsL_law_in0_27 _ (List.mem_of_getElem? (i := 2) rfl)
set_option maxRecDepth 20000 in
theorem m9_27_3 : Cond.selects RX4 yX4_giveRead yX4_giveRead ∈ lw_tbl := wsL_law_in0_27 _ (List.mem_of_getElem? (i := 3) rfl)
set_option maxRecDepth 20000 in
theorem m9_27_4 : Cond.code yX4_giveRead cX4_giveRead 1 (some .boolean) ∈ lw_tbl := wsL_law_in0_27 _ (List.mem_of_getElem? (i := 4) rfl)
set_option maxRecDepth 20000 in
theorem m9_27_5 : Cond.methodLink RL 112 yX5_orders ∈ lw_tbl := wsL_law_in0_27 _ (List.mem_of_getElem? (i := 5) rfl)
set_option maxRecDepth 20000 in
theorem m9_27_6 : Cond.instanceMethod yX5_orders ∈ lw_tbl := wsL_law_in0_27 _ (List.mem_of_getElem? (i := 6) rfl)
set_option maxRecDepth 20000 in
theorem m9_27_7 : Cond.selects RX5 yX5_orders yX5_orders ∈ lw_tbl := wsL_law_in0_27 _ (List.mem_of_getElem? (i := 7) rfl)
set_option maxRecDepth 20000 in
theorem m9_27_8 : Cond.code yX5_orders cX5_orders 3 (some .int) ∈ lw_tbl := wsL_law_in0_27 _ (List.mem_of_getElem? (i := 8) rfl)
set_option maxRecDepth 20000 in
theorem m9_27_9 : Cond.methodLink RL 113 yL_undo ∈ lw_tbl := wsL_law_in0_27 _ (List.mem_of_getElem? (i := 9) rfl)
set_option maxRecDepth 20000 in
theorem m9_27_10 : Cond.static yL_undo ∈ lw_tbl := wsL_law_in0_27 _ (List.mem_of_getElem? (i := 10) rfl)
set_option maxRecDepth 20000 in
theorem m9_27_11 : Cond.codeWith yL_undo cL_undo 3 (some .int) [(0, 8, 11, 15)] ∈ lw_tbl := wsL_law_in0_27 _ (List.mem_of_getElem? (i := 11) rfl)
set_option maxRecDepth 20000 in
theorem m9_27_12 : Cond.methodLink RL 40 yX4_undo ∈ lw_tbl := wsL_law_in0_27 _ (List.mem_of_getElem? (i := 12) rfl)
set_option maxRecDepth 20000 in
theorem m9_27_13 : Cond.instanceMethod yX4_undo ∈ lw_tbl := wsL_law_in0_27 _ (List.mem_of_getElem? (i := 13) rfl)
set_option maxRecDepth 20000 in
theorem m9_27_14 : Cond.selects RX4 yX4_undo yX4_undo ∈ lw_tbl := wsL_law_in0_27 _ (List.mem_of_getElem? (i := 14) rfl)
set_option maxRecDepth 20000 in
theorem m9_27_15 : Cond.code yX4_undo cX4_undo 1 (some .int) ∈ lw_tbl := wsL_law_in0_27 _ (List.mem_of_getElem? (i := 15) rfl)
set_option maxRecDepth 20000 in
theorem m9_27_16 : Cond.methodLink RX4 143 yX1_size ∈ lw_tbl := wsL_law_in0_27 _ (List.mem_of_getElem? (i := 16) rfl)
set_option maxRecDepth 20000 in
theorem m9_27_17 : Cond.instanceMethod yX1_size ∈ lw_tbl := wsL_law_in0_27 _ (List.mem_of_getElem? (i := 17) rfl)
set_option maxRecDepth 20000 in
theorem m9_27_18 : Cond.selects RX1 yX1_size yX1_size ∈ lw_tbl := wsL_law_in0_27 _ (List.mem_of_getElem? (i := 18) rfl)
set_option maxRecDepth 20000 in
theorem m9_27_19 : Cond.code yX1_size cX1_size 1 (some .int) ∈ lw_tbl := wsL_law_in0_27 _ (List.mem_of_getElem? (i := 19) rfl)
set_option maxRecDepth 20000 in
theorem m9_27_20 : Cond.methodLink RX4 146 yX1_takeBack ∈ lw_tbl := wsL_law_in0_27 _ (List.mem_of_getElem? (i := 20) rfl)
set_option maxRecDepth 20000 in
theorem m9_27_21 : Cond.instanceMethod yX1_takeBack ∈ lw_tbl := wsL_law_in0_27 _ (List.mem_of_getElem? (i := 21) rfl)
set_option maxRecDepth 20000 in
theorem m9_27_22 : Cond.selects RX1 yX1_takeBack yX1_takeBack ∈ lw_tbl := wsL_law_in0_27 _ (List.mem_of_getElem? (i := 22) rfl)
set_option maxRecDepth 20000 in
theorem m9_27_23 : Cond.code yX1_takeBack cX1_takeBack 3 none ∈ lw_tbl := wsL_law_in0_27 _ (List.mem_of_getElem? (i := 23) rfl)
set_option maxRecDepth 20000 in
theorem m9_28_0 : Cond.methodLink RL 115 yX5_undo ∈ lw_tbl := wsL_law_in0_28 _ (List.mem_of_getElem? (i := 0) rfl)
set_option maxRecDepth 20000 in
theorem m9_28_1 : Cond.instanceMethod yX5_undo ∈ lw_tbl := wsL_law_in0_28 _ (List.mem_of_getElem? (i := 1) rfl)
set_option maxRecDepth 20000 in
theorem m9_28_2 : Cond.selects RX5 yX5_undo yX5_undo ∈ lw_tbl := wsL_law_in0_28 _ (List.mem_of_getElem? (i := 2) rfl)
set_option maxRecDepth 20000 in
theorem m9_28_3 : Cond.code yX5_undo cX5_undo 2 (some .int) ∈ lw_tbl := wsL_law_in0_28 _ (List.mem_of_getElem? (i := 3) rfl)
set_option maxRecDepth 20000 in
theorem m9_28_4 : Cond.methodLink RL 116 yX4_keep ∈ lw_tbl := wsL_law_in0_28 _ (List.mem_of_getElem? (i := 4) rfl)
set_option maxRecDepth 20000 in
theorem m9_28_5 : Cond.instanceMethod yX4_keep ∈ lw_tbl := wsL_law_in0_28 _ (List.mem_of_getElem? (i := 5) rfl)
set_option maxRecDepth 20000 in
theorem m9_28_6 : Cond.selects RX4 yX4_keep yX4_keep ∈ lw_tbl := wsL_law_in0_28 _ (List.mem_of_getElem? (i := 6) rfl)
set_option maxRecDepth 20000 in
theorem m9_28_7 : Cond.code yX4_keep cX4_keep 1 (some .int) ∈ lw_tbl := wsL_law_in0_28 _ (List.mem_of_getElem? (i := 7) rfl)
set_option maxRecDepth 20000 in
theorem m9_28_8 : Cond.methodLink RX4 149 yX0_copyFrom ∈ lw_tbl := wsL_law_in0_28 _ (List.mem_of_getElem? (i := 8) rfl)
set_option maxRecDepth 20000 in
theorem m9_28_9 : Cond.methodLink RL 119 yX5_keep ∈ lw_tbl := wsL_law_in0_28 _ (List.mem_of_getElem? (i := 9) rfl)
set_option maxRecDepth 20000 in
theorem m9_28_10 : Cond.instanceMethod yX5_keep ∈ lw_tbl := wsL_law_in0_28 _ (List.mem_of_getElem? (i := 10) rfl)
set_option maxRecDepth 20000 in
theorem m9_28_11 : Cond.selects RX5 yX5_keep yX5_keep ∈ lw_tbl := wsL_law_in0_28 _ (List.mem_of_getElem? (i := 11) rfl)
set_option maxRecDepth 20000 in
theorem m9_28_12 : Cond.code yX5_keep cX5_keep 2 (some .int) ∈ lw_tbl := wsL_law_in0_28 _ (List.mem_of_getElem? (i := 12) rfl)
set_option maxRecDepth 20000 in
theorem m9_28_13 : Cond.fieldLink RX5 196 "FogOrdersModel" "isKept" "Z" ∈ lw_tbl := wsL_law_in0_28 _ (List.mem_of_getElem? (i := 13) rfl)
set_option maxRecDepth 20000 in
theorem m9_28_14 : Cond.methodLink RL 120 yL_restore ∈ lw_tbl := wsL_law_in0_28 _ (List.mem_of_getElem? (i := 14) rfl)
set_option maxRecDepth 20000 in
theorem m9_28_15 : Cond.static yL_restore ∈ lw_tbl := wsL_law_in0_28 _ (List.mem_of_getElem? (i := 15) rfl)
set_option maxRecDepth 20000 in
theorem m9_28_16 : Cond.codeWith yL_restore cL_restore 3 (some .int) [(0, 8, 11, 15)] ∈ lw_tbl := wsL_law_in0_28 _ (List.mem_of_getElem? (i := 16) rfl)
set_option maxRecDepth 20000 in
theorem m9_28_17 : Cond.methodLink RL 43 yX4_restore ∈ lw_tbl := wsL_law_in0_28 _ (List.mem_of_getElem? (i := 17) rfl)
set_option maxRecDepth 20000 in
theorem m9_28_18 : Cond.instanceMethod yX4_restore ∈ lw_tbl := wsL_law_in0_28 _ (List.mem_of_getElem? (i := 18) rfl)
set_option maxRecDepth 20000 in
theorem m9_28_19 : Cond.selects RX4 yX4_restore yX4_restore ∈ lw_tbl := wsL_law_in0_28 _ (List.mem_of_getElem? (i := 19) rfl)
set_option maxRecDepth 20000 in
theorem m9_28_20 : Cond.code yX4_restore cX4_restore 1 (some .int) ∈ lw_tbl := wsL_law_in0_28 _ (List.mem_of_getElem? (i := 20) rfl)
set_option maxRecDepth 20000 in
theorem m9_28_21 : Cond.methodLink RL 122 yX5_restore ∈ lw_tbl := wsL_law_in0_28 _ (List.mem_of_getElem? (i := 21) rfl)
set_option maxRecDepth 20000 in
theorem m9_28_22 : Cond.instanceMethod yX5_restore ∈ lw_tbl := wsL_law_in0_28 _ (List.mem_of_getElem? (i := 22) rfl)
set_option maxRecDepth 20000 in
theorem m9_28_23 : Cond.selects RX5 yX5_restore yX5_restore ∈ lw_tbl := wsL_law_in0_28 _ (List.mem_of_getElem? (i := 23) rfl)
set_option maxRecDepth 20000 in
theorem m9_29_0 : Cond.code yX5_restore cX5_restore 2 (some .int) ∈ lw_tbl := wsL_law_in0_29 _ (List.mem_of_getElem? (i := 0) rfl)
set_option maxRecDepth 20000 in
theorem m9_29_1 : Cond.methodLink RL 123 yL_armyOf ∈ lw_tbl := wsL_law_in0_29 _ (List.mem_of_getElem? (i := 1) rfl)
set_option maxRecDepth 20000 in
theorem m9_29_2 : Cond.static yL_armyOf ∈ lw_tbl := wsL_law_in0_29 _ (List.mem_of_getElem? (i := 2) rfl)
set_option maxRecDepth 20000 in
theorem m9_29_3 : Cond.codeWith yL_armyOf cL_armyOf 5 (some .int) [(0, 10, 13, 13), (0, 10, 17, 27)] ∈ lw_tbl := wsL_law_in0_29 _ (List.mem_of_getElem? (i := 3) rfl)
set_option maxRecDepth 20000 in
theorem m9_29_4 : Cond.methodLink RL 46 yX4_armyOf ∈ lw_tbl := wsL_law_in0_29 _ (List.mem_of_getElem? (i := 4) rfl)
set_option maxRecDepth 20000 in
theorem m9_29_5 : Cond.instanceMethod yX4_armyOf ∈ lw_tbl := wsL_law_in0_29 _ (List.mem_of_getElem? (i := 5) rfl)
set_option maxRecDepth 20000 in
theorem m9_29_6 : Cond.selects RX4 yX4_armyOf yX4_armyOf ∈ lw_tbl := wsL_law_in0_29 _ (List.mem_of_getElem? (i := 6) rfl)
set_option maxRecDepth 20000 in
theorem m9_29_7 : Cond.code yX4_armyOf cX4_armyOf 3 (some .int) ∈ lw_tbl := wsL_law_in0_29 _ (List.mem_of_getElem? (i := 7) rfl)
set_option maxRecDepth 20000 in
theorem m9_29_8 : Cond.methodLink RX4 156 yX0_of ∈ lw_tbl := wsL_law_in0_29 _ (List.mem_of_getElem? (i := 8) rfl)
set_option maxRecDepth 20000 in
theorem m9_29_9 : Cond.methodLink RL 125 yX5_armyOf ∈ lw_tbl := wsL_law_in0_29 _ (List.mem_of_getElem? (i := 9) rfl)
set_option maxRecDepth 20000 in
theorem m9_29_10 : Cond.instanceMethod yX5_armyOf ∈ lw_tbl := wsL_law_in0_29 _ (List.mem_of_getElem? (i := 10) rfl)
set_option maxRecDepth 20000 in
theorem m9_29_11 : Cond.selects RX5 yX5_armyOf yX5_armyOf ∈ lw_tbl := wsL_law_in0_29 _ (List.mem_of_getElem? (i := 11) rfl)
set_option maxRecDepth 20000 in
theorem m9_29_12 : Cond.code yX5_armyOf cX5_armyOf 3 (some .int) ∈ lw_tbl := wsL_law_in0_29 _ (List.mem_of_getElem? (i := 12) rfl)
set_option maxRecDepth 20000 in
theorem m9_29_13 : Cond.methodLink RL 126 yL_field ∈ lw_tbl := wsL_law_in0_29 _ (List.mem_of_getElem? (i := 13) rfl)
set_option maxRecDepth 20000 in
theorem m9_29_14 : Cond.static yL_field ∈ lw_tbl := wsL_law_in0_29 _ (List.mem_of_getElem? (i := 14) rfl)
set_option maxRecDepth 20000 in
theorem m9_29_15 : Cond.codeWith yL_field cL_field 5 (some .int) [(0, 10, 13, 13), (0, 10, 17, 27)] ∈ lw_tbl := wsL_law_in0_29 _ (List.mem_of_getElem? (i := 15) rfl)
set_option maxRecDepth 20000 in
theorem m9_29_16 : Cond.methodLink RL 49 yX4_field ∈ lw_tbl := wsL_law_in0_29 _ (List.mem_of_getElem? (i := 16) rfl)
set_option maxRecDepth 20000 in
theorem m9_29_17 : Cond.instanceMethod yX4_field ∈ lw_tbl := wsL_law_in0_29 _ (List.mem_of_getElem? (i := 17) rfl)
set_option maxRecDepth 20000 in
theorem m9_29_18 : Cond.selects RX4 yX4_field yX4_field ∈ lw_tbl := wsL_law_in0_29 _ (List.mem_of_getElem? (i := 18) rfl)
set_option maxRecDepth 20000 in
theorem m9_29_19 : Cond.code yX4_field cX4_field 3 (some .int) ∈ lw_tbl := wsL_law_in0_29 _ (List.mem_of_getElem? (i := 19) rfl)
set_option maxRecDepth 20000 in
theorem m9_29_20 : Cond.methodLink RX4 163 yX4_fieldNumber ∈ lw_tbl := wsL_law_in0_29 _ (List.mem_of_getElem? (i := 20) rfl)
set_option maxRecDepth 20000 in
theorem m9_29_21 : Cond.instanceMethod yX4_fieldNumber ∈ lw_tbl := wsL_law_in0_29 _ (List.mem_of_getElem? (i := 21) rfl)
set_option maxRecDepth 20000 in
theorem m9_29_22 : Cond.selects RX4 yX4_fieldNumber yX4_fieldNumber ∈ lw_tbl := wsL_law_in0_29 _ (List.mem_of_getElem? (i := 22) rfl)
set_option maxRecDepth 20000 in
theorem m9_29_23 : Cond.code yX4_fieldNumber cX4_fieldNumber 3 (some .int) ∈ lw_tbl := wsL_law_in0_29 _ (List.mem_of_getElem? (i := 23) rfl)
set_option maxRecDepth 20000 in
theorem m9_30_0 : Cond.methodLink RX4 239 yX4_isCentre ∈ lw_tbl := wsL_law_in0_30 _ (List.mem_of_getElem? (i := 0) rfl)
set_option maxRecDepth 20000 in
theorem m9_30_1 : Cond.methodLink RX4 242 yX0_owner ∈ lw_tbl := wsL_law_in0_30 _ (List.mem_of_getElem? (i := 1) rfl)
set_option maxRecDepth 20000 in
theorem m9_30_2 : Cond.methodLink RX4 245 yX0_seatsSeeing ∈ lw_tbl := wsL_law_in0_30 _ (List.mem_of_getElem? (i := 2) rfl)
set_option maxRecDepth 20000 in
theorem m9_30_3 : Cond.instanceMethod yX0_seatsSeeing ∈ lw_tbl := wsL_law_in0_30 _ (List.mem_of_getElem? (i := 3) rfl)
set_option maxRecDepth 20000 in
theorem m9_30_4 : Cond.selects RX0 yX0_seatsSeeing yX0_seatsSeeing ∈ lw_tbl := wsL_law_in0_30 _ (List.mem_of_getElem? (i := 4) rfl)
set_option maxRecDepth 20000 in
theorem m9_30_5 : Cond.code yX0_seatsSeeing cX0_seatsSeeing 5 (some .int) ∈ lw_tbl := wsL_law_in0_30 _ (List.mem_of_getElem? (i := 5) rfl)
set_option maxRecDepth 20000 in
theorem m9_30_6 : Cond.methodLink RX4 248 yX4_neighbourMask ∈ lw_tbl := wsL_law_in0_30 _ (List.mem_of_getElem? (i := 6) rfl)
set_option maxRecDepth 20000 in
theorem m9_30_7 : Cond.static yX4_neighbourMask ∈ lw_tbl := wsL_law_in0_30 _ (List.mem_of_getElem? (i := 7) rfl)
set_option maxRecDepth 20000 in
theorem m9_30_8 : Cond.code yX4_neighbourMask cX4_neighbourMask 3 (some .int) ∈ lw_tbl := wsL_law_in0_30 _ (List.mem_of_getElem? (i := 8) rfl)
set_option maxRecDepth 20000 in
theorem m9_30_9 : Cond.methodLink RX4 283 yX4_areNeighbours ∈ lw_tbl := wsL_law_in0_30 _ (List.mem_of_getElem? (i := 9) rfl)
set_option maxRecDepth 20000 in
theorem m9_30_10 : Cond.methodLink RL 128 yX5_field ∈ lw_tbl := wsL_law_in0_30 _ (List.mem_of_getElem? (i := 10) rfl)
set_option maxRecDepth 20000 in
theorem m9_30_11 : Cond.instanceMethod yX5_field ∈ lw_tbl := wsL_law_in0_30 _ (List.mem_of_getElem? (i := 11) rfl)
set_option maxRecDepth 20000 in
theorem m9_30_12 : Cond.selects RX5 yX5_field yX5_field ∈ lw_tbl := wsL_law_in0_30 _ (List.mem_of_getElem? (i := 12) rfl)
set_option maxRecDepth 20000 in
theorem m9_30_13 : Cond.code yX5_field cX5_field 3 (some .int) ∈ lw_tbl := wsL_law_in0_30 _ (List.mem_of_getElem? (i := 13) rfl)
set_option maxRecDepth 20000 in
theorem m9_30_14 : Cond.methodLink RX5 205 yX5_toldOfField ∈ lw_tbl := wsL_law_in0_30 _ (List.mem_of_getElem? (i := 14) rfl)
set_option maxRecDepth 20000 in
theorem m9_30_15 : Cond.instanceMethod yX5_toldOfField ∈ lw_tbl := wsL_law_in0_30 _ (List.mem_of_getElem? (i := 15) rfl)
set_option maxRecDepth 20000 in
theorem m9_30_16 : Cond.selects RX5 yX5_toldOfField yX5_toldOfField ∈ lw_tbl := wsL_law_in0_30 _ (List.mem_of_getElem? (i := 16) rfl)
set_option maxRecDepth 20000 in
theorem m9_30_17 : Cond.code yX5_toldOfField cX5_toldOfField 3 (some .int) ∈ lw_tbl := wsL_law_in0_30 _ (List.mem_of_getElem? (i := 17) rfl)
set_option maxRecDepth 20000 in
theorem m9_30_18 : Cond.methodLink RX5 202 yX5_seenBy ∈ lw_tbl := wsL_law_in0_30 _ (List.mem_of_getElem? (i := 18) rfl)
set_option maxRecDepth 20000 in
theorem m9_30_19 : Cond.instanceMethod yX5_seenBy ∈ lw_tbl := wsL_law_in0_30 _ (List.mem_of_getElem? (i := 19) rfl)
set_option maxRecDepth 20000 in
theorem m9_30_20 : Cond.selects RX5 yX5_seenBy yX5_seenBy ∈ lw_tbl := wsL_law_in0_30 _ (List.mem_of_getElem? (i := 20) rfl)
set_option maxRecDepth 20000 in
theorem m9_30_21 : Cond.code yX5_seenBy cX5_seenBy 4 (some .int) ∈ lw_tbl := wsL_law_in0_30 _ (List.mem_of_getElem? (i := 21) rfl)
set_option maxRecDepth 20000 in
theorem m9_30_22 : Cond.methodLink RX5 199 yX5_neighbours ∈ lw_tbl := wsL_law_in0_30 _ (List.mem_of_getElem? (i := 22) rfl)
set_option maxRecDepth 20000 in
theorem m9_30_23 : Cond.static yX5_neighbours ∈ lw_tbl := wsL_law_in0_30 _ (List.mem_of_getElem? (i := 23) rfl)
set_option maxRecDepth 20000 in
theorem m9_31_0 : Cond.code yX5_neighbours cX5_neighbours 3 (some .int) ∈ lw_tbl := wsL_law_in0_31 _ (List.mem_of_getElem? (i := 0) rfl)
set_option maxRecDepth 20000 in
theorem m9_31_1 : Cond.methodLink RL 129 yL_seat ∈ lw_tbl := wsL_law_in0_31 _ (List.mem_of_getElem? (i := 1) rfl)
set_option maxRecDepth 20000 in
theorem m9_31_2 : Cond.static yL_seat ∈ lw_tbl := wsL_law_in0_31 _ (List.mem_of_getElem? (i := 2) rfl)
set_option maxRecDepth 20000 in
theorem m9_31_3 : Cond.codeWith yL_seat cL_seat 5 (some .int) [(0, 10, 13, 13), (0, 10, 17, 27)] ∈ lw_tbl := wsL_law_in0_31 _ (List.mem_of_getElem? (i := 3) rfl)
set_option maxRecDepth 20000 in
theorem m9_31_4 : Cond.methodLink RL 52 yX4_seat ∈ lw_tbl := wsL_law_in0_31 _ (List.mem_of_getElem? (i := 4) rfl)
set_option maxRecDepth 20000 in
theorem m9_31_5 : Cond.instanceMethod yX4_seat ∈ lw_tbl := wsL_law_in0_31 _ (List.mem_of_getElem? (i := 5) rfl)
set_option maxRecDepth 20000 in
theorem m9_31_6 : Cond.selects RX4 yX4_seat yX4_seat ∈ lw_tbl := wsL_law_in0_31 _ (List.mem_of_getElem? (i := 6) rfl)
set_option maxRecDepth 20000 in
theorem m9_31_7 : Cond.code yX4_seat cX4_seat 3 (some .int) ∈ lw_tbl := wsL_law_in0_31 _ (List.mem_of_getElem? (i := 7) rfl)
set_option maxRecDepth 20000 in
theorem m9_31_8 : Cond.methodLink RX4 168 yX4_seatNumber ∈ lw_tbl := wsL_law_in0_31 _ (List.mem_of_getElem? (i := 8) rfl)
set_option maxRecDepth 20000 in
theorem m9_31_9 : Cond.instanceMethod yX4_seatNumber ∈ lw_tbl := wsL_law_in0_31 _ (List.mem_of_getElem? (i := 9) rfl)
set_option maxRecDepth 20000 in
theorem m9_31_10 : Cond.selects RX4 yX4_seatNumber yX4_seatNumber ∈ lw_tbl := wsL_law_in0_31 _ (List.mem_of_getElem? (i := 10) rfl)
set_option maxRecDepth 20000 in
theorem m9_31_11 : Cond.code yX4_seatNumber cX4_seatNumber 3 (some .int) ∈ lw_tbl := wsL_law_in0_31 _ (List.mem_of_getElem? (i := 11) rfl)
set_option maxRecDepth 20000 in
theorem m9_31_12 : Cond.methodLink RX4 251 yX0_armiesOf ∈ lw_tbl := wsL_law_in0_31 _ (List.mem_of_getElem? (i := 12) rfl)
set_option maxRecDepth 20000 in
theorem m9_31_13 : Cond.methodLink RX4 254 yX0_centresOf ∈ lw_tbl := wsL_law_in0_31 _ (List.mem_of_getElem? (i := 13) rfl)
set_option maxRecDepth 20000 in
theorem m9_31_14 : Cond.methodLink RX4 257 yX0_seenMask ∈ lw_tbl := wsL_law_in0_31 _ (List.mem_of_getElem? (i := 14) rfl)
set_option maxRecDepth 20000 in
theorem m9_31_15 : Cond.instanceMethod yX0_seenMask ∈ lw_tbl := wsL_law_in0_31 _ (List.mem_of_getElem? (i := 15) rfl)
set_option maxRecDepth 20000 in
theorem m9_31_16 : Cond.selects RX0 yX0_seenMask yX0_seenMask ∈ lw_tbl := wsL_law_in0_31 _ (List.mem_of_getElem? (i := 16) rfl)
set_option maxRecDepth 20000 in
theorem m9_31_17 : Cond.code yX0_seenMask cX0_seenMask 4 (some .int) ∈ lw_tbl := wsL_law_in0_31 _ (List.mem_of_getElem? (i := 17) rfl)
set_option maxRecDepth 20000 in
theorem m9_31_18 : Cond.methodLink RX4 260 yX0_lowestFieldOf ∈ lw_tbl := wsL_law_in0_31 _ (List.mem_of_getElem? (i := 18) rfl)
set_option maxRecDepth 20000 in
theorem m9_31_19 : Cond.instanceMethod yX0_lowestFieldOf ∈ lw_tbl := wsL_law_in0_31 _ (List.mem_of_getElem? (i := 19) rfl)
set_option maxRecDepth 20000 in
theorem m9_31_20 : Cond.selects RX0 yX0_lowestFieldOf yX0_lowestFieldOf ∈ lw_tbl := wsL_law_in0_31 _ (List.mem_of_getElem? (i := 20) rfl)
set_option maxRecDepth 20000 in
theorem m9_31_21 : Cond.code yX0_lowestFieldOf cX0_lowestFieldOf 5 (some .int) ∈ lw_tbl := wsL_law_in0_31 _ (List.mem_of_getElem? (i := 21) rfl)
set_option maxRecDepth 20000 in
theorem m9_31_22 : Cond.methodLink RX4 263 yX0_othersSeen ∈ lw_tbl := wsL_law_in0_31 _ (List.mem_of_getElem? (i := 22) rfl)
set_option maxRecDepth 20000 in
theorem m9_31_23 : Cond.instanceMethod yX0_othersSeen ∈ lw_tbl := wsL_law_in0_31 _ (List.mem_of_getElem? (i := 23) rfl)
set_option maxRecDepth 20000 in
theorem m9_32_0 : Cond.selects RX0 yX0_othersSeen yX0_othersSeen ∈ lw_tbl := wsL_law_in0_32 _ (List.mem_of_getElem? (i := 0) rfl)
set_option maxRecDepth 20000 in
theorem m9_32_1 : Cond.code yX0_othersSeen cX0_othersSeen 6 (some .int) ∈ lw_tbl := wsL_law_in0_32 _ (List.mem_of_getElem? (i := 1) rfl)
set_option maxRecDepth 20000 in
theorem m9_32_2 : Cond.methodLink RX0 63 yX0_seenMask ∈ lw_tbl := wsL_law_in0_32 _ (List.mem_of_getElem? (i := 2) rfl)
set_option maxRecDepth 20000 in
theorem m9_32_3 : Cond.methodLink RL 131 yX5_seat ∈ lw_tbl := wsL_law_in0_32 _ (List.mem_of_getElem? (i := 3) rfl)
set_option maxRecDepth 20000 in
theorem m9_32_4 : Cond.instanceMethod yX5_seat ∈ lw_tbl := wsL_law_in0_32 _ (List.mem_of_getElem? (i := 4) rfl)
set_option maxRecDepth 20000 in
theorem m9_32_5 : Cond.selects RX5 yX5_seat yX5_seat ∈ lw_tbl := wsL_law_in0_32 _ (List.mem_of_getElem? (i := 5) rfl)
set_option maxRecDepth 20000 in
theorem m9_32_6 : Cond.code yX5_seat cX5_seat 3 (some .int) ∈ lw_tbl := wsL_law_in0_32 _ (List.mem_of_getElem? (i := 6) rfl)
set_option maxRecDepth 20000 in
theorem m9_32_7 : Cond.methodLink RX5 214 yX5_toldOfSeat ∈ lw_tbl := wsL_law_in0_32 _ (List.mem_of_getElem? (i := 7) rfl)
set_option maxRecDepth 20000 in
theorem m9_32_8 : Cond.instanceMethod yX5_toldOfSeat ∈ lw_tbl := wsL_law_in0_32 _ (List.mem_of_getElem? (i := 8) rfl)
set_option maxRecDepth 20000 in
theorem m9_32_9 : Cond.selects RX5 yX5_toldOfSeat yX5_toldOfSeat ∈ lw_tbl := wsL_law_in0_32 _ (List.mem_of_getElem? (i := 9) rfl)
set_option maxRecDepth 20000 in
theorem m9_32_10 : Cond.code yX5_toldOfSeat cX5_toldOfSeat 3 (some .int) ∈ lw_tbl := wsL_law_in0_32 _ (List.mem_of_getElem? (i := 10) rfl)
set_option maxRecDepth 20000 in
theorem m9_32_11 : Cond.methodLink RX5 208 yX5_lowestFieldOf ∈ lw_tbl := wsL_law_in0_32 _ (List.mem_of_getElem? (i := 11) rfl)
set_option maxRecDepth 20000 in
theorem m9_32_12 : Cond.instanceMethod yX5_lowestFieldOf ∈ lw_tbl := wsL_law_in0_32 _ (List.mem_of_getElem? (i := 12) rfl)
set_option maxRecDepth 20000 in
theorem m9_32_13 : Cond.selects RX5 yX5_lowestFieldOf yX5_lowestFieldOf ∈ lw_tbl := wsL_law_in0_32 _ (List.mem_of_getElem? (i := 13) rfl)
set_option maxRecDepth 20000 in
theorem m9_32_14 : Cond.code yX5_lowestFieldOf cX5_lowestFieldOf 4 (some .int) ∈ lw_tbl := wsL_law_in0_32 _ (List.mem_of_getElem? (i := 14) rfl)
set_option maxRecDepth 20000 in
theorem m9_32_15 : Cond.methodLink RX5 211 yX5_othersSeen ∈ lw_tbl := wsL_law_in0_32 _ (List.mem_of_getElem? (i := 15) rfl)
set_option maxRecDepth 20000 in
theorem m9_32_16 : Cond.instanceMethod yX5_othersSeen ∈ lw_tbl := wsL_law_in0_32 _ (List.mem_of_getElem? (i := 16) rfl)
set_option maxRecDepth 20000 in
theorem m9_32_17 : Cond.selects RX5 yX5_othersSeen yX5_othersSeen ∈ lw_tbl := wsL_law_in0_32 _ (List.mem_of_getElem? (i := 17) rfl)
set_option maxRecDepth 20000 in
theorem m9_32_18 : Cond.code yX5_othersSeen cX5_othersSeen 4 (some .int) ∈ lw_tbl := wsL_law_in0_32 _ (List.mem_of_getElem? (i := 18) rfl)
set_option maxRecDepth 20000 in
theorem m9_32_19 : Cond.methodLink RL 132 yL_count ∈ lw_tbl := wsL_law_in0_32 _ (List.mem_of_getElem? (i := 19) rfl)
set_option maxRecDepth 20000 in
theorem m9_32_20 : Cond.static yL_count ∈ lw_tbl := wsL_law_in0_32 _ (List.mem_of_getElem? (i := 20) rfl)
set_option maxRecDepth 20000 in
theorem m9_32_21 : Cond.codeWith yL_count cL_count 4 (some .int) [(0, 9, 12, 27)] ∈ lw_tbl := wsL_law_in0_32 _ (List.mem_of_getElem? (i := 21) rfl)
set_option maxRecDepth 20000 in
theorem m9_32_22 : Cond.methodLink RL 55 yX4_count ∈ lw_tbl := wsL_law_in0_32 _ (List.mem_of_getElem? (i := 22) rfl)
set_option maxRecDepth 20000 in
theorem m9_32_23 : Cond.instanceMethod yX4_count ∈ lw_tbl := wsL_law_in0_32 _ (List.mem_of_getElem? (i := 23) rfl)
set_option maxRecDepth 20000 in
theorem m9_33_0 : Cond.selects RX4 yX4_count yX4_count ∈ lw_tbl := wsL_law_in0_33 _ (List.mem_of_getElem? (i := 0) rfl)
set_option maxRecDepth 20000 in
theorem m9_33_1 : Cond.code yX4_count cX4_count 2 (some .int) ∈ lw_tbl := wsL_law_in0_33 _ (List.mem_of_getElem? (i := 1) rfl)
set_option maxRecDepth 20000 in
theorem m9_33_2 : Cond.methodLink RX4 173 yX4_countNumber ∈ lw_tbl := wsL_law_in0_33 _ (List.mem_of_getElem? (i := 2) rfl)
set_option maxRecDepth 20000 in
theorem m9_33_3 : Cond.instanceMethod yX4_countNumber ∈ lw_tbl := wsL_law_in0_33 _ (List.mem_of_getElem? (i := 3) rfl)
set_option maxRecDepth 20000 in
theorem m9_33_4 : Cond.selects RX4 yX4_countNumber yX4_countNumber ∈ lw_tbl := wsL_law_in0_33 _ (List.mem_of_getElem? (i := 4) rfl)
set_option maxRecDepth 20000 in
theorem m9_33_5 : Cond.code yX4_countNumber cX4_countNumber 2 (some .int) ∈ lw_tbl := wsL_law_in0_33 _ (List.mem_of_getElem? (i := 5) rfl)
set_option maxRecDepth 20000 in
theorem m9_33_6 : Cond.methodLink RX4 266 yX0_ordersOf ∈ lw_tbl := wsL_law_in0_33 _ (List.mem_of_getElem? (i := 6) rfl)
set_option maxRecDepth 20000 in
theorem m9_33_7 : Cond.instanceMethod yX0_ordersOf ∈ lw_tbl := wsL_law_in0_33 _ (List.mem_of_getElem? (i := 7) rfl)
set_option maxRecDepth 20000 in
theorem m9_33_8 : Cond.selects RX0 yX0_ordersOf yX0_ordersOf ∈ lw_tbl := wsL_law_in0_33 _ (List.mem_of_getElem? (i := 8) rfl)
set_option maxRecDepth 20000 in
theorem m9_33_9 : Cond.code yX0_ordersOf cX0_ordersOf 4 (some .int) ∈ lw_tbl := wsL_law_in0_33 _ (List.mem_of_getElem? (i := 9) rfl)
set_option maxRecDepth 20000 in
theorem m9_33_10 : Cond.methodLink RL 134 yX5_count ∈ lw_tbl := wsL_law_in0_33 _ (List.mem_of_getElem? (i := 10) rfl)
set_option maxRecDepth 20000 in
theorem m9_33_11 : Cond.instanceMethod yX5_count ∈ lw_tbl := wsL_law_in0_33 _ (List.mem_of_getElem? (i := 11) rfl)
set_option maxRecDepth 20000 in
theorem m9_33_12 : Cond.selects RX5 yX5_count yX5_count ∈ lw_tbl := wsL_law_in0_33 _ (List.mem_of_getElem? (i := 12) rfl)
set_option maxRecDepth 20000 in
theorem m9_33_13 : Cond.code yX5_count cX5_count 2 (some .int) ∈ lw_tbl := wsL_law_in0_33 _ (List.mem_of_getElem? (i := 13) rfl)
set_option maxRecDepth 20000 in
theorem m9_33_14 : Cond.methodLink RX5 220 yX5_counted ∈ lw_tbl := wsL_law_in0_33 _ (List.mem_of_getElem? (i := 14) rfl)
set_option maxRecDepth 20000 in
theorem m9_33_15 : Cond.instanceMethod yX5_counted ∈ lw_tbl := wsL_law_in0_33 _ (List.mem_of_getElem? (i := 15) rfl)
set_option maxRecDepth 20000 in
theorem m9_33_16 : Cond.selects RX5 yX5_counted yX5_counted ∈ lw_tbl := wsL_law_in0_33 _ (List.mem_of_getElem? (i := 16) rfl)
set_option maxRecDepth 20000 in
theorem m9_33_17 : Cond.code yX5_counted cX5_counted 2 (some .int) ∈ lw_tbl := wsL_law_in0_33 _ (List.mem_of_getElem? (i := 17) rfl)
set_option maxRecDepth 20000 in
theorem m9_33_18 : Cond.methodLink RX5 217 yX5_ordersOf ∈ lw_tbl := wsL_law_in0_33 _ (List.mem_of_getElem? (i := 18) rfl)
set_option maxRecDepth 20000 in
theorem m9_33_19 : Cond.instanceMethod yX5_ordersOf ∈ lw_tbl := wsL_law_in0_33 _ (List.mem_of_getElem? (i := 19) rfl)
set_option maxRecDepth 20000 in
theorem m9_33_20 : Cond.selects RX5 yX5_ordersOf yX5_ordersOf ∈ lw_tbl := wsL_law_in0_33 _ (List.mem_of_getElem? (i := 20) rfl)
set_option maxRecDepth 20000 in
theorem m9_33_21 : Cond.code yX5_ordersOf cX5_ordersOf 4 (some .int) ∈ lw_tbl := wsL_law_in0_33 _ (List.mem_of_getElem? (i := 21) rfl)
set_option maxRecDepth 20000 in
theorem m9_33_22 : Cond.methodLink RL 135 yL_ifOpened ∈ lw_tbl := wsL_law_in0_33 _ (List.mem_of_getElem? (i := 22) rfl)
set_option maxRecDepth 20000 in
theorem m9_33_23 : Cond.static yL_ifOpened ∈ lw_tbl := wsL_law_in0_33 _ (List.mem_of_getElem? (i := 23) rfl)
set_option maxRecDepth 20000 in
theorem m9_34_0 : Cond.codeWith yL_ifOpened cL_ifOpened 5 (some .int) [(0, 10, 13, 13), (0, 10, 17, 27)] ∈ lw_tbl := wsL_law_in0_34 _ (List.mem_of_getElem? (i := 0) rfl)
set_option maxRecDepth 20000 in
theorem m9_34_1 : Cond.methodLink RL 58 yX4_ifOpened ∈ lw_tbl := wsL_law_in0_34 _ (List.mem_of_getElem? (i := 1) rfl)
set_option maxRecDepth 20000 in
theorem m9_34_2 : Cond.instanceMethod yX4_ifOpened ∈ lw_tbl := wsL_law_in0_34 _ (List.mem_of_getElem? (i := 2) rfl)
set_option maxRecDepth 20000 in
theorem m9_34_3 : Cond.selects RX4 yX4_ifOpened yX4_ifOpened ∈ lw_tbl := wsL_law_in0_34 _ (List.mem_of_getElem? (i := 3) rfl)
set_option maxRecDepth 20000 in
theorem m9_34_4 : Cond.code yX4_ifOpened cX4_ifOpened 3 (some .int) ∈ lw_tbl := wsL_law_in0_34 _ (List.mem_of_getElem? (i := 4) rfl)
set_option maxRecDepth 20000 in
theorem m9_34_5 : Cond.methodLink RX4 178 yX2_outcome ∈ lw_tbl := wsL_law_in0_34 _ (List.mem_of_getElem? (i := 5) rfl)
set_option maxRecDepth 20000 in
theorem m9_34_6 : Cond.instanceMethod yX2_outcome ∈ lw_tbl := wsL_law_in0_34 _ (List.mem_of_getElem? (i := 6) rfl)
set_option maxRecDepth 20000 in
theorem m9_34_7 : Cond.selects RX2 yX2_outcome yX2_outcome ∈ lw_tbl := wsL_law_in0_34 _ (List.mem_of_getElem? (i := 7) rfl)
set_option maxRecDepth 20000 in
theorem m9_34_8 : Cond.code yX2_outcome cX2_outcome 3 (some .int) ∈ lw_tbl := wsL_law_in0_34 _ (List.mem_of_getElem? (i := 8) rfl)
set_option maxRecDepth 20000 in
theorem m9_34_9 : Cond.methodLink RL 137 yX5_ifOpened ∈ lw_tbl := wsL_law_in0_34 _ (List.mem_of_getElem? (i := 9) rfl)
set_option maxRecDepth 20000 in
theorem m9_34_10 : Cond.instanceMethod yX5_ifOpened ∈ lw_tbl := wsL_law_in0_34 _ (List.mem_of_getElem? (i := 10) rfl)
set_option maxRecDepth 20000 in
theorem m9_34_11 : Cond.selects RX5 yX5_ifOpened yX5_ifOpened ∈ lw_tbl := wsL_law_in0_34 _ (List.mem_of_getElem? (i := 11) rfl)
set_option maxRecDepth 20000 in
theorem m9_34_12 : Cond.code yX5_ifOpened cX5_ifOpened 3 (some .int) ∈ lw_tbl := wsL_law_in0_34 _ (List.mem_of_getElem? (i := 12) rfl)
set_option maxRecDepth 20000 in
theorem m9_34_13 : Cond.methodLink RX5 223 yX5_opened ∈ lw_tbl := wsL_law_in0_34 _ (List.mem_of_getElem? (i := 13) rfl)
set_option maxRecDepth 20000 in
theorem m9_34_14 : Cond.instanceMethod yX5_opened ∈ lw_tbl := wsL_law_in0_34 _ (List.mem_of_getElem? (i := 14) rfl)
set_option maxRecDepth 20000 in
theorem m9_34_15 : Cond.selects RX5 yX5_opened yX5_opened ∈ lw_tbl := wsL_law_in0_34 _ (List.mem_of_getElem? (i := 15) rfl)
set_option maxRecDepth 20000 in
theorem m9_34_16 : Cond.code yX5_opened cX5_opened 3 (some .int) ∈ lw_tbl := wsL_law_in0_34 _ (List.mem_of_getElem? (i := 16) rfl)
set_option maxRecDepth 20000 in
theorem m9_34_17 : Cond.methodLink RL 138 yL_canReach ∈ lw_tbl := wsL_law_in0_34 _ (List.mem_of_getElem? (i := 17) rfl)
set_option maxRecDepth 20000 in
theorem m9_34_18 : Cond.static yL_canReach ∈ lw_tbl := wsL_law_in0_34 _ (List.mem_of_getElem? (i := 18) rfl)
set_option maxRecDepth 20000 in
theorem m9_34_19 : Cond.codeWith yL_canReach cL_canReach 4 (some .int) [(0, 9, 12, 13)] ∈ lw_tbl := wsL_law_in0_34 _ (List.mem_of_getElem? (i := 19) rfl)
set_option maxRecDepth 20000 in
theorem m9_34_20 : Cond.methodLink RL 61 yX4_canReach ∈ lw_tbl := wsL_law_in0_34 _ (List.mem_of_getElem? (i := 20) rfl)
set_option maxRecDepth 20000 in
theorem m9_34_21 : Cond.instanceMethod yX4_canReach ∈ lw_tbl := wsL_law_in0_34 _ (List.mem_of_getElem? (i := 21) rfl)
set_option maxRecDepth 20000 in
theorem m9_34_22 : Cond.selects RX4 yX4_canReach yX4_canReach ∈ lw_tbl := wsL_law_in0_34 _ (List.mem_of_getElem? (i := 22) rfl)
set_option maxRecDepth 20000 in
theorem m9_34_23 : Cond.code yX4_canReach cX4_canReach 2 (some .int) ∈ lw_tbl := wsL_law_in0_34 _ (List.mem_of_getElem? (i := 23) rfl)
set_option maxRecDepth 20000 in
theorem m9_35_0 : Cond.methodLink RX4 181 yX4_reachMask ∈ lw_tbl := wsL_law_in0_35 _ (List.mem_of_getElem? (i := 0) rfl)
set_option maxRecDepth 20000 in
theorem m9_35_1 : Cond.instanceMethod yX4_reachMask ∈ lw_tbl := wsL_law_in0_35 _ (List.mem_of_getElem? (i := 1) rfl)
set_option maxRecDepth 20000 in
theorem m9_35_2 : Cond.selects RX4 yX4_reachMask yX4_reachMask ∈ lw_tbl := wsL_law_in0_35 _ (List.mem_of_getElem? (i := 2) rfl)
set_option maxRecDepth 20000 in
theorem m9_35_3 : Cond.code yX4_reachMask cX4_reachMask 4 (some .int) ∈ lw_tbl := wsL_law_in0_35 _ (List.mem_of_getElem? (i := 3) rfl)
set_option maxRecDepth 20000 in
theorem m9_35_4 : Cond.methodLink RX4 269 yX2_decideMoves ∈ lw_tbl := wsL_law_in0_35 _ (List.mem_of_getElem? (i := 4) rfl)
set_option maxRecDepth 20000 in
theorem m9_35_5 : Cond.methodLink RX4 272 yX2_goes ∈ lw_tbl := wsL_law_in0_35 _ (List.mem_of_getElem? (i := 5) rfl)
set_option maxRecDepth 20000 in
theorem m9_35_6 : Cond.methodLink RL 140 yX5_canReach ∈ lw_tbl := wsL_law_in0_35 _ (List.mem_of_getElem? (i := 6) rfl)
set_option maxRecDepth 20000 in
theorem m9_35_7 : Cond.instanceMethod yX5_canReach ∈ lw_tbl := wsL_law_in0_35 _ (List.mem_of_getElem? (i := 7) rfl)
set_option maxRecDepth 20000 in
theorem m9_35_8 : Cond.selects RX5 yX5_canReach yX5_canReach ∈ lw_tbl := wsL_law_in0_35 _ (List.mem_of_getElem? (i := 8) rfl)
set_option maxRecDepth 20000 in
theorem m9_35_9 : Cond.code yX5_canReach cX5_canReach 2 (some .int) ∈ lw_tbl := wsL_law_in0_35 _ (List.mem_of_getElem? (i := 9) rfl)
set_option maxRecDepth 20000 in
theorem m9_35_10 : Cond.methodLink RX5 232 yX5_reach ∈ lw_tbl := wsL_law_in0_35 _ (List.mem_of_getElem? (i := 10) rfl)
set_option maxRecDepth 20000 in
theorem m9_35_11 : Cond.instanceMethod yX5_reach ∈ lw_tbl := wsL_law_in0_35 _ (List.mem_of_getElem? (i := 11) rfl)
set_option maxRecDepth 20000 in
theorem m9_35_12 : Cond.selects RX5 yX5_reach yX5_reach ∈ lw_tbl := wsL_law_in0_35 _ (List.mem_of_getElem? (i := 12) rfl)
set_option maxRecDepth 20000 in
theorem m9_35_13 : Cond.code yX5_reach cX5_reach 4 (some .int) ∈ lw_tbl := wsL_law_in0_35 _ (List.mem_of_getElem? (i := 13) rfl)
set_option maxRecDepth 20000 in
theorem m9_35_14 : Cond.methodLink RX5 226 yX5_putAside ∈ lw_tbl := wsL_law_in0_35 _ (List.mem_of_getElem? (i := 14) rfl)
set_option maxRecDepth 20000 in
theorem m9_35_15 : Cond.instanceMethod yX5_putAside ∈ lw_tbl := wsL_law_in0_35 _ (List.mem_of_getElem? (i := 15) rfl)
set_option maxRecDepth 20000 in
theorem m9_35_16 : Cond.selects RX5 yX5_putAside yX5_putAside ∈ lw_tbl := wsL_law_in0_35 _ (List.mem_of_getElem? (i := 16) rfl)
set_option maxRecDepth 20000 in
theorem m9_35_17 : Cond.code yX5_putAside cX5_putAside 2 none ∈ lw_tbl := wsL_law_in0_35 _ (List.mem_of_getElem? (i := 17) rfl)
set_option maxRecDepth 20000 in
theorem m9_35_18 : Cond.methodLink RX5 229 yX5_putBack ∈ lw_tbl := wsL_law_in0_35 _ (List.mem_of_getElem? (i := 18) rfl)
set_option maxRecDepth 20000 in
theorem m9_35_19 : Cond.instanceMethod yX5_putBack ∈ lw_tbl := wsL_law_in0_35 _ (List.mem_of_getElem? (i := 19) rfl)
set_option maxRecDepth 20000 in
theorem m9_35_20 : Cond.selects RX5 yX5_putBack yX5_putBack ∈ lw_tbl := wsL_law_in0_35 _ (List.mem_of_getElem? (i := 20) rfl)
set_option maxRecDepth 20000 in
theorem m9_35_21 : Cond.code yX5_putBack cX5_putBack 2 none ∈ lw_tbl := wsL_law_in0_35 _ (List.mem_of_getElem? (i := 21) rfl)
set_option maxRecDepth 20000 in
theorem m9_35_22 : Cond.methodLink RL 141 yX4_danger ∈ lw_tbl := wsL_law_in0_35 _ (List.mem_of_getElem? (i := 22) rfl)
set_option maxRecDepth 20000 in
theorem m9_35_23 : Cond.instanceMethod yX4_danger ∈ lw_tbl := wsL_law_in0_35 _ (List.mem_of_getElem? (i := 23) rfl)
set_option maxRecDepth 20000 in
theorem m9_36_0 : Cond.selects RX4 yX4_danger yX4_danger ∈ lw_tbl := wsL_law_in0_36 _ (List.mem_of_getElem? (i := 0) rfl)
set_option maxRecDepth 20000 in
theorem m9_36_1 : Cond.code yX4_danger cX4_danger 1 (some .int) ∈ lw_tbl := wsL_law_in0_36 _ (List.mem_of_getElem? (i := 1) rfl)
set_option maxRecDepth 20000 in
theorem m9_36_2 : Cond.methodLink RX4 184 yX2_mostInDanger ∈ lw_tbl := wsL_law_in0_36 _ (List.mem_of_getElem? (i := 2) rfl)
set_option maxRecDepth 20000 in
theorem m9_36_3 : Cond.instanceMethod yX2_mostInDanger ∈ lw_tbl := wsL_law_in0_36 _ (List.mem_of_getElem? (i := 3) rfl)
set_option maxRecDepth 20000 in
theorem m9_36_4 : Cond.selects RX2 yX2_mostInDanger yX2_mostInDanger ∈ lw_tbl := wsL_law_in0_36 _ (List.mem_of_getElem? (i := 4) rfl)
set_option maxRecDepth 20000 in
theorem m9_36_5 : Cond.code yX2_mostInDanger cX2_mostInDanger 1 (some .int) ∈ lw_tbl := wsL_law_in0_36 _ (List.mem_of_getElem? (i := 5) rfl)
set_option maxRecDepth 20000 in
theorem m9_36_6 : Cond.methodLink RL 144 yX5_danger ∈ lw_tbl := wsL_law_in0_36 _ (List.mem_of_getElem? (i := 6) rfl)
set_option maxRecDepth 20000 in
theorem m9_36_7 : Cond.instanceMethod yX5_danger ∈ lw_tbl := wsL_law_in0_36 _ (List.mem_of_getElem? (i := 7) rfl)
set_option maxRecDepth 20000 in
theorem m9_36_8 : Cond.selects RX5 yX5_danger yX5_danger ∈ lw_tbl := wsL_law_in0_36 _ (List.mem_of_getElem? (i := 8) rfl)
set_option maxRecDepth 20000 in
theorem m9_36_9 : Cond.code yX5_danger cX5_danger 1 (some .int) ∈ lw_tbl := wsL_law_in0_36 _ (List.mem_of_getElem? (i := 9) rfl)
set_option maxRecDepth 20000 in
theorem m9_36_10 : Cond.methodLink RX5 235 yX5_inDanger ∈ lw_tbl := wsL_law_in0_36 _ (List.mem_of_getElem? (i := 10) rfl)
set_option maxRecDepth 20000 in
theorem m9_36_11 : Cond.instanceMethod yX5_inDanger ∈ lw_tbl := wsL_law_in0_36 _ (List.mem_of_getElem? (i := 11) rfl)
set_option maxRecDepth 20000 in
theorem m9_36_12 : Cond.selects RX5 yX5_inDanger yX5_inDanger ∈ lw_tbl := wsL_law_in0_36 _ (List.mem_of_getElem? (i := 12) rfl)
set_option maxRecDepth 20000 in
theorem m9_36_13 : Cond.code yX5_inDanger cX5_inDanger 4 (some .int) ∈ lw_tbl := wsL_law_in0_36 _ (List.mem_of_getElem? (i := 13) rfl)
set_option maxRecDepth 20000 in
theorem m9_36_14 : Cond.methodLink RL 145 yL_ifYear ∈ lw_tbl := wsL_law_in0_36 _ (List.mem_of_getElem? (i := 14) rfl)
set_option maxRecDepth 20000 in
theorem m9_36_15 : Cond.static yL_ifYear ∈ lw_tbl := wsL_law_in0_36 _ (List.mem_of_getElem? (i := 15) rfl)
set_option maxRecDepth 20000 in
theorem m9_36_16 : Cond.codeWith yL_ifYear cL_ifYear 4 (some .int) [(0, 9, 12, 13)] ∈ lw_tbl := wsL_law_in0_36 _ (List.mem_of_getElem? (i := 16) rfl)
set_option maxRecDepth 20000 in
theorem m9_36_17 : Cond.methodLink RL 64 yX4_ifYear ∈ lw_tbl := wsL_law_in0_36 _ (List.mem_of_getElem? (i := 17) rfl)
set_option maxRecDepth 20000 in
theorem m9_36_18 : Cond.instanceMethod yX4_ifYear ∈ lw_tbl := wsL_law_in0_36 _ (List.mem_of_getElem? (i := 18) rfl)
set_option maxRecDepth 20000 in
theorem m9_36_19 : Cond.selects RX4 yX4_ifYear yX4_ifYear ∈ lw_tbl := wsL_law_in0_36 _ (List.mem_of_getElem? (i := 19) rfl)
set_option maxRecDepth 20000 in
theorem m9_36_20 : Cond.code yX4_ifYear cX4_ifYear 2 (some .int) ∈ lw_tbl := wsL_law_in0_36 _ (List.mem_of_getElem? (i := 20) rfl)
set_option maxRecDepth 20000 in
theorem m9_36_21 : Cond.methodLink RX4 187 yX2_centresThen ∈ lw_tbl := wsL_law_in0_36 _ (List.mem_of_getElem? (i := 21) rfl)
set_option maxRecDepth 20000 in
theorem m9_36_22 : Cond.instanceMethod yX2_centresThen ∈ lw_tbl := wsL_law_in0_36 _ (List.mem_of_getElem? (i := 22) rfl)
set_option maxRecDepth 20000 in
theorem m9_36_23 : Cond.selects RX2 yX2_centresThen yX2_centresThen ∈ lw_tbl := wsL_law_in0_36 _ (List.mem_of_getElem? (i := 23) rfl)
set_option maxRecDepth 20000 in
theorem m9_37_0 : Cond.code yX2_centresThen cX2_centresThen 4 (some .int) ∈ lw_tbl := wsL_law_in0_37 _ (List.mem_of_getElem? (i := 0) rfl)
set_option maxRecDepth 20000 in
theorem m9_37_1 : Cond.methodLink RX2 128 yX2_ownerThen ∈ lw_tbl := wsL_law_in0_37 _ (List.mem_of_getElem? (i := 1) rfl)
set_option maxRecDepth 20000 in
theorem m9_37_2 : Cond.instanceMethod yX2_ownerThen ∈ lw_tbl := wsL_law_in0_37 _ (List.mem_of_getElem? (i := 2) rfl)
set_option maxRecDepth 20000 in
theorem m9_37_3 : Cond.selects RX2 yX2_ownerThen yX2_ownerThen ∈ lw_tbl := wsL_law_in0_37 _ (List.mem_of_getElem? (i := 3) rfl)
set_option maxRecDepth 20000 in
theorem m9_37_4 : Cond.code yX2_ownerThen cX2_ownerThen 3 (some .int) ∈ lw_tbl := wsL_law_in0_37 _ (List.mem_of_getElem? (i := 4) rfl)
set_option maxRecDepth 20000 in
theorem m9_37_5 : Cond.methodLink RX2 131 yX0_owner ∈ lw_tbl := wsL_law_in0_37 _ (List.mem_of_getElem? (i := 5) rfl)
set_option maxRecDepth 20000 in
theorem m9_37_6 : Cond.methodLink RL 147 yX5_ifYear ∈ lw_tbl := wsL_law_in0_37 _ (List.mem_of_getElem? (i := 6) rfl)
set_option maxRecDepth 20000 in
theorem m9_37_7 : Cond.instanceMethod yX5_ifYear ∈ lw_tbl := wsL_law_in0_37 _ (List.mem_of_getElem? (i := 7) rfl)
set_option maxRecDepth 20000 in
theorem m9_37_8 : Cond.selects RX5 yX5_ifYear yX5_ifYear ∈ lw_tbl := wsL_law_in0_37 _ (List.mem_of_getElem? (i := 8) rfl)
set_option maxRecDepth 20000 in
theorem m9_37_9 : Cond.code yX5_ifYear cX5_ifYear 2 (some .int) ∈ lw_tbl := wsL_law_in0_37 _ (List.mem_of_getElem? (i := 9) rfl)
set_option maxRecDepth 20000 in
theorem m9_37_10 : Cond.methodLink RX5 238 yX5_centresThen ∈ lw_tbl := wsL_law_in0_37 _ (List.mem_of_getElem? (i := 10) rfl)
set_option maxRecDepth 20000 in
theorem m9_37_11 : Cond.instanceMethod yX5_centresThen ∈ lw_tbl := wsL_law_in0_37 _ (List.mem_of_getElem? (i := 11) rfl)
set_option maxRecDepth 20000 in
theorem m9_37_12 : Cond.selects RX5 yX5_centresThen yX5_centresThen ∈ lw_tbl := wsL_law_in0_37 _ (List.mem_of_getElem? (i := 12) rfl)
set_option maxRecDepth 20000 in
theorem m9_37_13 : Cond.code yX5_centresThen cX5_centresThen 4 (some .int) ∈ lw_tbl := wsL_law_in0_37 _ (List.mem_of_getElem? (i := 13) rfl)
set_option maxRecDepth 20000 in
theorem m9_37_14 : Cond.methodLink RL 148 yX4_success ∈ lw_tbl := wsL_law_in0_37 _ (List.mem_of_getElem? (i := 14) rfl)
set_option maxRecDepth 20000 in
theorem m9_37_15 : Cond.instanceMethod yX4_success ∈ lw_tbl := wsL_law_in0_37 _ (List.mem_of_getElem? (i := 15) rfl)
set_option maxRecDepth 20000 in
theorem m9_37_16 : Cond.selects RX4 yX4_success yX4_success ∈ lw_tbl := wsL_law_in0_37 _ (List.mem_of_getElem? (i := 16) rfl)
set_option maxRecDepth 20000 in
theorem m9_37_17 : Cond.code yX4_success cX4_success 1 (some .double) ∈ lw_tbl := wsL_law_in0_37 _ (List.mem_of_getElem? (i := 17) rfl)
set_option maxRecDepth 20000 in
theorem m9_37_18 : Cond.methodLink RX4 190 yX4_successShare ∈ lw_tbl := wsL_law_in0_37 _ (List.mem_of_getElem? (i := 18) rfl)
set_option maxRecDepth 20000 in
theorem m9_37_19 : Cond.instanceMethod yX4_successShare ∈ lw_tbl := wsL_law_in0_37 _ (List.mem_of_getElem? (i := 19) rfl)
set_option maxRecDepth 20000 in
theorem m9_37_20 : Cond.selects RX4 yX4_successShare yX4_successShare ∈ lw_tbl := wsL_law_in0_37 _ (List.mem_of_getElem? (i := 20) rfl)
set_option maxRecDepth 20000 in
theorem m9_37_21 : Cond.code yX4_successShare cX4_successShare 3 (some .double) ∈ lw_tbl := wsL_law_in0_37 _ (List.mem_of_getElem? (i := 21) rfl)
set_option maxRecDepth 20000 in
theorem m9_37_22 : Cond.methodLink RL 152 yX5_success ∈ lw_tbl := wsL_law_in0_37 _ (List.mem_of_getElem? (i := 22) rfl)
set_option maxRecDepth 20000 in
theorem m9_37_23 : Cond.instanceMethod yX5_success ∈ lw_tbl := wsL_law_in0_37 _ (List.mem_of_getElem? (i := 23) rfl)
set_option maxRecDepth 20000 in
theorem m9_38_0 : Cond.selects RX5 yX5_success yX5_success ∈ lw_tbl := wsL_law_in0_38 _ (List.mem_of_getElem? (i := 0) rfl)
set_option maxRecDepth 20000 in
theorem m9_38_1 : Cond.code yX5_success cX5_success 1 (some .double) ∈ lw_tbl := wsL_law_in0_38 _ (List.mem_of_getElem? (i := 1) rfl)
set_option maxRecDepth 20000 in
theorem m9_38_2 : Cond.methodLink RX5 241 yX5_share ∈ lw_tbl := wsL_law_in0_38 _ (List.mem_of_getElem? (i := 2) rfl)
set_option maxRecDepth 20000 in
theorem m9_38_3 : Cond.instanceMethod yX5_share ∈ lw_tbl := wsL_law_in0_38 _ (List.mem_of_getElem? (i := 3) rfl)
set_option maxRecDepth 20000 in
theorem m9_38_4 : Cond.selects RX5 yX5_share yX5_share ∈ lw_tbl := wsL_law_in0_38 _ (List.mem_of_getElem? (i := 4) rfl)
set_option maxRecDepth 20000 in
theorem m9_38_5 : Cond.code yX5_share cX5_share 2 (some .double) ∈ lw_tbl := wsL_law_in0_38 _ (List.mem_of_getElem? (i := 5) rfl)
set_option maxRecDepth 20000 in
theorem m9_38_6 : Cond.methodLink RL 153 yX4_digest ∈ lw_tbl := wsL_law_in0_38 _ (List.mem_of_getElem? (i := 6) rfl)
set_option maxRecDepth 20000 in
theorem m9_38_7 : Cond.instanceMethod yX4_digest ∈ lw_tbl := wsL_law_in0_38 _ (List.mem_of_getElem? (i := 7) rfl)
set_option maxRecDepth 20000 in
theorem m9_38_8 : Cond.selects RX4 yX4_digest yX4_digest ∈ lw_tbl := wsL_law_in0_38 _ (List.mem_of_getElem? (i := 8) rfl)
set_option maxRecDepth 20000 in
theorem m9_38_9 : Cond.code yX4_digest cX4_digest 4 (some .long) ∈ lw_tbl := wsL_law_in0_38 _ (List.mem_of_getElem? (i := 9) rfl)
set_option maxRecDepth 20000 in
theorem m9_38_10 : Cond.constantLong RX4 194 (3701) ∈ lw_tbl := wsL_law_in0_38 _ (List.mem_of_getElem? (i := 10) rfl)
set_option maxRecDepth 20000 in
theorem m9_38_11 : Cond.methodLink RX4 196 yX4_mixed ∈ lw_tbl := wsL_law_in0_38 _ (List.mem_of_getElem? (i := 11) rfl)
set_option maxRecDepth 20000 in
theorem m9_38_12 : Cond.static yX4_mixed ∈ lw_tbl := wsL_law_in0_38 _ (List.mem_of_getElem? (i := 12) rfl)
set_option maxRecDepth 20000 in
theorem m9_38_13 : Cond.code yX4_mixed cX4_mixed 4 (some .long) ∈ lw_tbl := wsL_law_in0_38 _ (List.mem_of_getElem? (i := 13) rfl)
set_option maxRecDepth 20000 in
theorem m9_38_14 : Cond.constantLong RX4 275 (31) ∈ lw_tbl := wsL_law_in0_38 _ (List.mem_of_getElem? (i := 14) rfl)
set_option maxRecDepth 20000 in
theorem m9_38_15 : Cond.methodLink RX4 200 yX4_mixedArmies ∈ lw_tbl := wsL_law_in0_38 _ (List.mem_of_getElem? (i := 15) rfl)
set_option maxRecDepth 20000 in
theorem m9_38_16 : Cond.instanceMethod yX4_mixedArmies ∈ lw_tbl := wsL_law_in0_38 _ (List.mem_of_getElem? (i := 16) rfl)
set_option maxRecDepth 20000 in
theorem m9_38_17 : Cond.selects RX4 yX4_mixedArmies yX4_mixedArmies ∈ lw_tbl := wsL_law_in0_38 _ (List.mem_of_getElem? (i := 17) rfl)
set_option maxRecDepth 20000 in
theorem m9_38_18 : Cond.code yX4_mixedArmies cX4_mixedArmies 7 (some .long) ∈ lw_tbl := wsL_law_in0_38 _ (List.mem_of_getElem? (i := 18) rfl)
set_option maxRecDepth 20000 in
theorem m9_38_19 : Cond.methodLink RX4 204 yX4_mixedFields ∈ lw_tbl := wsL_law_in0_38 _ (List.mem_of_getElem? (i := 19) rfl)
set_option maxRecDepth 20000 in
theorem m9_38_20 : Cond.instanceMethod yX4_mixedFields ∈ lw_tbl := wsL_law_in0_38 _ (List.mem_of_getElem? (i := 20) rfl)
set_option maxRecDepth 20000 in
theorem m9_38_21 : Cond.selects RX4 yX4_mixedFields yX4_mixedFields ∈ lw_tbl := wsL_law_in0_38 _ (List.mem_of_getElem? (i := 21) rfl)
set_option maxRecDepth 20000 in
theorem m9_38_22 : Cond.code yX4_mixedFields cX4_mixedFields 7 (some .long) ∈ lw_tbl := wsL_law_in0_38 _ (List.mem_of_getElem? (i := 22) rfl)
set_option maxRecDepth 20000 in
theorem m9_38_23 : Cond.methodLink RX4 207 yX4_mixedSeats ∈ lw_tbl := wsL_law_in0_38 _ (List.mem_of_getElem? (i := 23) rfl)
set_option maxRecDepth 20000 in
theorem m9_39_0 : Cond.instanceMethod yX4_mixedSeats ∈ lw_tbl := wsL_law_in0_39 _ (List.mem_of_getElem? (i := 0) rfl)
set_option maxRecDepth 20000 in
theorem m9_39_1 : Cond.selects RX4 yX4_mixedSeats yX4_mixedSeats ∈ lw_tbl := wsL_law_in0_39 _ (List.mem_of_getElem? (i := 1) rfl)
set_option maxRecDepth 20000 in
theorem m9_39_2 : Cond.code yX4_mixedSeats cX4_mixedSeats 7 (some .long) ∈ lw_tbl := wsL_law_in0_39 _ (List.mem_of_getElem? (i := 2) rfl)
set_option maxRecDepth 20000 in
theorem m9_39_3 : Cond.methodLink RX4 210 yX4_bitsOf ∈ lw_tbl := wsL_law_in0_39 _ (List.mem_of_getElem? (i := 3) rfl)
set_option maxRecDepth 20000 in
theorem m9_39_4 : Cond.static yX4_bitsOf ∈ lw_tbl := wsL_law_in0_39 _ (List.mem_of_getElem? (i := 4) rfl)
set_option maxRecDepth 20000 in
theorem m9_39_5 : Cond.code yX4_bitsOf cX4_bitsOf 8 (some .long) ∈ lw_tbl := wsL_law_in0_39 _ (List.mem_of_getElem? (i := 5) rfl)
set_option maxRecDepth 20000 in
theorem m9_39_6 : Cond.constantLong RX4 277 (1023) ∈ lw_tbl := wsL_law_in0_39 _ (List.mem_of_getElem? (i := 6) rfl)
set_option maxRecDepth 20000 in
theorem m9_39_7 : Cond.constantDouble RX4 279 (4611686018427387904) ∈ lw_tbl := wsL_law_in0_39 _ (List.mem_of_getElem? (i := 7) rfl)
set_option maxRecDepth 20000 in
theorem m9_39_8 : Cond.constantDouble RX4 281 (4841369599423283200) ∈ lw_tbl := wsL_law_in0_39 _ (List.mem_of_getElem? (i := 8) rfl)
set_option maxRecDepth 20000 in
theorem m9_39_9 : Cond.methodLink RX4 214 yX3_codeAt ∈ lw_tbl := wsL_law_in0_39 _ (List.mem_of_getElem? (i := 9) rfl)
set_option maxRecDepth 20000 in
theorem m9_39_10 : Cond.methodLink RL 157 yX5_digest ∈ lw_tbl := wsL_law_in0_39 _ (List.mem_of_getElem? (i := 10) rfl)
set_option maxRecDepth 20000 in
theorem m9_39_11 : Cond.instanceMethod yX5_digest ∈ lw_tbl := wsL_law_in0_39 _ (List.mem_of_getElem? (i := 11) rfl)
set_option maxRecDepth 20000 in
theorem m9_39_12 : Cond.selects RX5 yX5_digest yX5_digest ∈ lw_tbl := wsL_law_in0_39 _ (List.mem_of_getElem? (i := 12) rfl)
set_option maxRecDepth 20000 in
theorem m9_39_13 : Cond.code yX5_digest cX5_digest 3 (some .long) ∈ lw_tbl := wsL_law_in0_39 _ (List.mem_of_getElem? (i := 13) rfl)
set_option maxRecDepth 20000 in
theorem m9_39_14 : Cond.constantLong RX5 263 (3701) ∈ lw_tbl := wsL_law_in0_39 _ (List.mem_of_getElem? (i := 14) rfl)
set_option maxRecDepth 20000 in
theorem m9_39_15 : Cond.fieldLink RX5 255 "FogOrdersModel" "digested" "J" ∈ lw_tbl := wsL_law_in0_39 _ (List.mem_of_getElem? (i := 15) rfl)
set_option maxRecDepth 20000 in
theorem m9_39_16 : Cond.methodLink RX5 259 yX5_digestOne ∈ lw_tbl := wsL_law_in0_39 _ (List.mem_of_getElem? (i := 16) rfl)
set_option maxRecDepth 20000 in
theorem m9_39_17 : Cond.instanceMethod yX5_digestOne ∈ lw_tbl := wsL_law_in0_39 _ (List.mem_of_getElem? (i := 17) rfl)
set_option maxRecDepth 20000 in
theorem m9_39_18 : Cond.selects RX5 yX5_digestOne yX5_digestOne ∈ lw_tbl := wsL_law_in0_39 _ (List.mem_of_getElem? (i := 18) rfl)
set_option maxRecDepth 20000 in
theorem m9_39_19 : Cond.code yX5_digestOne cX5_digestOne 3 none ∈ lw_tbl := wsL_law_in0_39 _ (List.mem_of_getElem? (i := 19) rfl)
set_option maxRecDepth 20000 in
theorem m9_39_20 : Cond.constantLong RX5 253 (31) ∈ lw_tbl := wsL_law_in0_39 _ (List.mem_of_getElem? (i := 20) rfl)
set_option maxRecDepth 20000 in
theorem m9_39_21 : Cond.methodLink RX5 265 yX5_digestArmies ∈ lw_tbl := wsL_law_in0_39 _ (List.mem_of_getElem? (i := 21) rfl)
set_option maxRecDepth 20000 in
theorem m9_39_22 : Cond.instanceMethod yX5_digestArmies ∈ lw_tbl := wsL_law_in0_39 _ (List.mem_of_getElem? (i := 22) rfl)
set_option maxRecDepth 20000 in
theorem m9_39_23 : Cond.selects RX5 yX5_digestArmies yX5_digestArmies ∈ lw_tbl := wsL_law_in0_39 _ (List.mem_of_getElem? (i := 23) rfl)
set_option maxRecDepth 20000 in
theorem m9_40_0 : Cond.code yX5_digestArmies cX5_digestArmies 3 none ∈ lw_tbl := wsL_law_in0_40 _ (List.mem_of_getElem? (i := 0) rfl)
set_option maxRecDepth 20000 in
theorem m9_40_1 : Cond.methodLink RX5 268 yX5_bitsOf ∈ lw_tbl := wsL_law_in0_40 _ (List.mem_of_getElem? (i := 1) rfl)
set_option maxRecDepth 20000 in
theorem m9_40_2 : Cond.static yX5_bitsOf ∈ lw_tbl := wsL_law_in0_40 _ (List.mem_of_getElem? (i := 2) rfl)
set_option maxRecDepth 20000 in
theorem m9_40_3 : Cond.code yX5_bitsOf cX5_bitsOf 6 (some .long) ∈ lw_tbl := wsL_law_in0_40 _ (List.mem_of_getElem? (i := 3) rfl)
set_option maxRecDepth 20000 in
theorem m9_40_4 : Cond.constantLong RX5 245 (1023) ∈ lw_tbl := wsL_law_in0_40 _ (List.mem_of_getElem? (i := 4) rfl)
set_option maxRecDepth 20000 in
theorem m9_40_5 : Cond.constantDouble RX5 247 (4611686018427387904) ∈ lw_tbl := wsL_law_in0_40 _ (List.mem_of_getElem? (i := 5) rfl)
set_option maxRecDepth 20000 in
theorem m9_40_6 : Cond.constantLong RX5 249 (4503599627370496) ∈ lw_tbl := wsL_law_in0_40 _ (List.mem_of_getElem? (i := 6) rfl)
set_option maxRecDepth 20000 in
theorem m9_40_7 : Cond.constantDouble RX5 251 (4841369599423283200) ∈ lw_tbl := wsL_law_in0_40 _ (List.mem_of_getElem? (i := 7) rfl)
set_option maxRecDepth 20000 in
theorem iw_wsX4_init_r1 : ∀ w ∈ wsX4_init_r1, w ∈ lw_tbl := memc m9_1_10 (memc m9_1_11 (memc m9_1_12 (memc m9_1_13 (memc m9_1_14 (memc m9_1_15 (memc m9_1_16 (memc m9_1_17 (memc m9_1_18 (memc m9_1_19 (memc m9_1_20 (memc m9_1_21 (memc m9_1_22 (memc m9_1_23 (memc m9_2_0 (memc m9_2_1 (memc m9_2_2 (memc m9_2_3 (memc m9_2_4 (memc m9_2_5 (memc m9_2_6 (memc m9_2_7 (memc m9_2_8 (memc m9_2_9 memn)))))))))))))))))))))))
set_option maxRecDepth 20000 in
theorem iw_wsX4_init_r2 : ∀ w ∈ wsX4_init_r2, w ∈ lw_tbl := memc m9_2_10 (memc m9_2_11 (memc m9_2_12 (memc m9_2_13 (memc m9_2_14 (memc m9_2_15 (memc m9_2_16 (memc m9_2_17 (memc m9_2_18 (memc m9_2_19 (memc m9_2_20 (memc m9_2_21 (memc m9_2_22 (memc m9_2_23 (memc m9_3_0 (memc m9_3_1 (memc m9_3_2 (memc m9_3_3 (memc m9_3_4 (memc m9_3_5 (memc m9_3_6 (memc m9_3_7 (memc m9_3_8 (memc m9_3_9 memn)))))))))))))))))))))))
set_option maxRecDepth 20000 in
theorem iw_wsX4_init_r3 : ∀ w ∈ wsX4_init_r3, w ∈ lw_tbl := memc m9_3_10 (memc m9_3_11 (memc m9_3_12 (memc m9_3_13 (memc m9_3_14 (memc m9_3_15 (memc m9_3_16 (memc m9_3_17 (memc m9_3_18 (memc m9_3_19 (memc m9_3_20 (memc m9_3_21 (memc m9_3_22 (memc m9_3_23 (memc m9_4_0 (memc m9_4_1 (memc m9_4_2 (memc m9_4_3 memn)))))))))))))))))
set_option maxRecDepth 20000 in
theorem iw_wsX4_init : ∀ w ∈ wsX4_init, w ∈ lw_tbl := memc m9_1_9 (sub_a (sub_a (sub_a (sub_a (sub_a (sub_a (iw_wsX4_init_r1) (sub_a (iw_wsX4_init_r2) (iw_wsX4_init_r3))) (wsL_law_in0_wsX20)) (wsL_law_in0_wsX40)) (wsL_law_in0_wsX10)) (wsL_law_in0_wsX00)) (wsL_law_in0_wsX30))
set_option maxRecDepth 20000 in
theorem gl_X4_init : GoodIn lw_tbl wsX4_init := goodIn_sub iw_wsX4_init (by decide +kernel)
set_option maxRecDepth 20000 in
theorem iw_wsX5_init : ∀ w ∈ wsX5_init, w ∈ lw_tbl := memc m9_4_6 (sub_a (memc m9_4_7 (memc m9_1_11 (memc m9_1_12 (memc m9_2_14 (memc m9_4_8 (memc m9_4_9 (memc m9_4_10 (memc m9_4_11 (memc m9_4_12 (memc m9_4_13 (memc m9_4_14 (memc m9_4_15 (memc m9_4_16 (memc m9_4_17 (memc m9_4_18 (memc m9_4_19 (memc m9_4_20 (memc m9_4_21 memn)))))))))))))))))) (wsL_law_in0_wsX50))
set_option maxRecDepth 20000 in
theorem gl_X5_init : GoodIn lw_tbl wsX5_init := goodIn_sub iw_wsX5_init (by decide +kernel)
set_option maxRecDepth 20000 in
theorem iw_wsL_army_r1 : ∀ w ∈ wsL_army_r1, w ∈ lw_tbl := memc m9_5_2 (memc m9_5_3 (memc m9_5_4 (memc m9_5_5 (memc m9_5_6 (memc m9_1_2 (memc m9_5_7 (memc m9_5_8 (memc m9_5_9 (memc m9_5_10 (memc m9_5_11 (memc m9_1_17 (memc m9_1_23 (memc m9_5_12 (memc m9_5_13 (memc m9_5_14 (memc m9_5_15 (memc m9_5_16 (memc m9_5_17 (memc m9_5_18 (memc m9_5_19 (memc m9_5_20 (memc m9_2_2 (memc m9_5_21 memn)))))))))))))))))))))))
set_option maxRecDepth 20000 in
theorem iw_wsL_army_r2 : ∀ w ∈ wsL_army_r2, w ∈ lw_tbl := memc m9_5_22 (memc m9_5_23 (memc m9_6_0 (memc m9_6_1 (memc m9_3_2 (memc m9_6_2 (memc m9_6_3 (memc m9_6_4 (memc m9_6_5 (memc m9_3_4 (memc m9_6_6 (memc m9_6_7 (memc m9_6_8 (memc m9_6_9 (memc m9_1_22 (memc m9_6_10 (memc m9_3_16 (memc m9_3_15 (memc m9_6_11 (memc m9_6_12 (memc m9_6_13 (memc m9_6_14 (memc m9_3_14 (memc m9_6_15 memn)))))))))))))))))))))))
set_option maxRecDepth 20000 in
theorem iw_wsL_army_r3 : ∀ w ∈ wsL_army_r3, w ∈ lw_tbl := memc m9_6_16 (memc m9_6_17 (memc m9_6_18 (memc m9_6_19 (memc m9_6_20 (memc m9_6_21 (memc m9_6_22 (memc m9_3_3 (memc m9_6_23 (memc m9_7_0 (memc m9_7_1 (memc m9_7_2 (memc m9_7_3 (memc m9_7_4 (memc m9_7_5 (memc m9_7_6 (memc m9_7_7 (memc m9_7_8 memn)))))))))))))))))
set_option maxRecDepth 20000 in
theorem iw_wsL_army : ∀ w ∈ wsL_army, w ∈ lw_tbl := memc m9_5_1 (sub_a (sub_a (sub_a (sub_a (sub_a (sub_a (iw_wsL_army_r1) (sub_a (iw_wsL_army_r2) (iw_wsL_army_r3))) (wsL_law_in0_wsX40)) (wsL_law_in0_wsX00)) (wsL_law_in0_wsX10)) (wsL_law_x0)) (wsL_law_x1))
set_option maxRecDepth 20000 in
theorem gl_L_army : GoodIn lw_tbl (va_wsS RL 71 yL_army wsL_army) := goodIn_app (goodIn_sub (memc m9_4_22 (memc m9_4_23 (memc m9_5_0 memn))) (by decide +kernel)) (goodIn_sub iw_wsL_army (by decide +kernel))
set_option maxRecDepth 20000 in
theorem iw_wsX5_army_r1 : ∀ w ∈ wsX5_army_r1, w ∈ lw_tbl := memc m9_4_8 (memc m9_7_13 (memc m9_7_14 (memc m9_1_5 (memc m9_7_15 (memc m9_7_16 (memc m9_7_17 (memc m9_7_18 (memc m9_7_19 (memc m9_7_20 (memc m9_7_21 (memc m9_7_22 (memc m9_7_23 (memc m9_8_0 (memc m9_8_1 (memc m9_8_2 (memc m9_8_3 (memc m9_8_4 (memc m9_8_5 (memc m9_8_6 (memc m9_8_7 (memc m9_8_8 (memc m9_8_9 (memc m9_8_10 memn)))))))))))))))))))))))
set_option maxRecDepth 20000 in
theorem iw_wsX5_army_r2 : ∀ w ∈ wsX5_army_r2, w ∈ lw_tbl := memc m9_8_11 (memc m9_8_12 (memc m9_8_13 (memc m9_8_14 (memc m9_8_15 (memc m9_8_16 (memc m9_8_17 (memc m9_8_18 (memc m9_4_11 (memc m9_8_19 (memc m9_8_20 (memc m9_8_21 (memc m9_8_22 (memc m9_8_23 (memc m9_9_0 (memc m9_9_1 (memc m9_9_2 memn))))))))))))))))
set_option maxRecDepth 20000 in
theorem iw_wsX5_army : ∀ w ∈ wsX5_army, w ∈ lw_tbl := memc m9_7_12 (sub_a (sub_a (iw_wsX5_army_r1) (iw_wsX5_army_r2)) (wsL_law_in0_wsX50))
set_option maxRecDepth 20000 in
theorem gl_X5_army : GoodIn lw_tbl (wsV RL 76 RX5 yX5_army wsX5_army) := goodIn_app (goodIn_sub (memc m9_7_9 (memc m9_7_10 (memc m9_7_11 (memc m9_1_5 memn)))) (by decide +kernel)) (goodIn_sub iw_wsX5_army (by decide +kernel))
set_option maxRecDepth 20000 in
theorem iw_wsX5_thrown : ∀ w ∈ wsX5_thrown, w ∈ lw_tbl := memc m9_9_6 (sub_a (memc m9_8_13 memn) (wsL_law_in0_wsX50))
set_option maxRecDepth 20000 in
theorem gl_X5_thrown : GoodIn lw_tbl (wsV RL 77 RX5 yX5_thrown wsX5_thrown) := goodIn_app (goodIn_sub (memc m9_9_3 (memc m9_9_4 (memc m9_9_5 (memc m9_1_5 memn)))) (by decide +kernel)) (goodIn_sub iw_wsX5_thrown (by decide +kernel))
set_option maxRecDepth 20000 in
theorem iw_wsL_drop_r1 : ∀ w ∈ wsL_drop_r1, w ∈ lw_tbl := memc m9_5_2 (memc m9_9_10 (memc m9_9_11 (memc m9_9_12 (memc m9_1_2 (memc m9_9_13 (memc m9_5_8 (memc m9_5_9 (memc m9_1_17 (memc m9_1_23 (memc m9_9_14 (memc m9_9_15 (memc m9_9_16 (memc m9_2_2 (memc m9_9_17 (memc m9_5_22 (memc m9_5_23 (memc m9_6_0 (memc m9_6_1 (memc m9_3_2 (memc m9_6_7 (memc m9_6_8 (memc m9_6_9 (memc m9_1_22 memn)))))))))))))))))))))))
set_option maxRecDepth 20000 in
theorem iw_wsL_drop_r2 : ∀ w ∈ wsL_drop_r2, w ∈ lw_tbl := memc m9_6_10 (memc m9_3_16 (memc m9_3_15 (memc m9_6_11 (memc m9_6_12 (memc m9_6_13 (memc m9_6_14 (memc m9_3_14 (memc m9_6_15 (memc m9_6_16 (memc m9_6_17 (memc m9_6_18 (memc m9_6_19 (memc m9_6_20 (memc m9_6_21 (memc m9_6_22 (memc m9_3_3 (memc m9_3_4 (memc m9_9_18 (memc m9_9_19 (memc m9_9_20 (memc m9_9_21 (memc m9_6_2 (memc m9_6_3 memn)))))))))))))))))))))))
set_option maxRecDepth 20000 in
theorem iw_wsL_drop_r3 : ∀ w ∈ wsL_drop_r3, w ∈ lw_tbl := memc m9_6_4 (memc m9_6_5 (memc m9_7_3 (memc m9_7_4 (memc m9_7_5 (memc m9_7_6 (memc m9_7_7 (memc m9_7_8 (memc m9_6_6 memn))))))))
set_option maxRecDepth 20000 in
theorem iw_wsL_drop : ∀ w ∈ wsL_drop, w ∈ lw_tbl := memc m9_9_9 (sub_a (sub_a (sub_a (sub_a (sub_a (iw_wsL_drop_r1) (sub_a (iw_wsL_drop_r2) (iw_wsL_drop_r3))) (wsL_law_in0_wsX40)) (wsL_law_in0_wsX00)) (wsL_law_in0_wsX10)) (wsL_law_x0))
set_option maxRecDepth 20000 in
theorem gl_L_drop : GoodIn lw_tbl (va_wsS RL 80 yL_drop wsL_drop) := goodIn_app (goodIn_sub (memc m9_9_7 (memc m9_9_8 (memc m9_5_0 memn))) (by decide +kernel)) (goodIn_sub iw_wsL_drop (by decide +kernel))
set_option maxRecDepth 20000 in
theorem iw_wsX5_drop_r1 : ∀ w ∈ wsX5_drop_r1, w ∈ lw_tbl := memc m9_4_8 (memc m9_10_2 (memc m9_10_3 (memc m9_10_4 (memc m9_1_5 (memc m9_10_5 (memc m9_7_16 (memc m9_7_17 (memc m9_7_18 (memc m9_8_9 (memc m9_8_10 (memc m9_8_11 (memc m9_8_12 (memc m9_8_13 (memc m9_8_14 (memc m9_8_15 (memc m9_8_16 (memc m9_8_17 (memc m9_8_18 (memc m9_4_11 (memc m9_10_6 (memc m9_10_7 (memc m9_10_8 (memc m9_10_9 memn)))))))))))))))))))))))
set_option maxRecDepth 20000 in
theorem iw_wsX5_drop_r2 : ∀ w ∈ wsX5_drop_r2, w ∈ lw_tbl := memc m9_8_6 (memc m9_8_7 (memc m9_8_8 memn))
set_option maxRecDepth 20000 in
theorem iw_wsX5_drop : ∀ w ∈ wsX5_drop, w ∈ lw_tbl := memc m9_10_1 (sub_a (sub_a (iw_wsX5_drop_r1) (iw_wsX5_drop_r2)) (wsL_law_in0_wsX50))
set_option maxRecDepth 20000 in
theorem gl_X5_drop : GoodIn lw_tbl (wsV RL 83 RX5 yX5_drop wsX5_drop) := goodIn_app (goodIn_sub (memc m9_9_22 (memc m9_9_23 (memc m9_10_0 (memc m9_1_5 memn)))) (by decide +kernel)) (goodIn_sub iw_wsX5_drop (by decide +kernel))
set_option maxRecDepth 20000 in
theorem iw_wsL_hold_r1 : ∀ w ∈ wsL_hold_r1, w ∈ lw_tbl := memc m9_5_2 (memc m9_10_13 (memc m9_10_14 (memc m9_10_15 (memc m9_1_2 (memc m9_10_16 (memc m9_5_8 (memc m9_5_9 (memc m9_1_17 (memc m9_1_23 (memc m9_9_14 (memc m9_9_15 (memc m9_9_16 (memc m9_2_2 (memc m9_9_17 (memc m9_5_22 (memc m9_5_23 (memc m9_6_0 (memc m9_6_1 (memc m9_3_2 (memc m9_6_7 (memc m9_6_8 (memc m9_6_9 (memc m9_1_22 memn)))))))))))))))))))))))
set_option maxRecDepth 20000 in
theorem iw_wsL_hold_r2 : ∀ w ∈ wsL_hold_r2, w ∈ lw_tbl := memc m9_6_10 (memc m9_3_16 (memc m9_3_15 (memc m9_6_11 (memc m9_6_12 (memc m9_6_13 (memc m9_6_14 (memc m9_3_14 (memc m9_6_15 (memc m9_6_16 (memc m9_6_17 (memc m9_6_18 (memc m9_6_19 (memc m9_6_20 (memc m9_6_21 (memc m9_6_22 (memc m9_3_3 (memc m9_3_4 (memc m9_10_17 (memc m9_10_18 (memc m9_10_19 (memc m9_10_20 (memc m9_6_2 (memc m9_6_3 memn)))))))))))))))))))))))
set_option maxRecDepth 20000 in
theorem iw_wsL_hold_r3 : ∀ w ∈ wsL_hold_r3, w ∈ lw_tbl := memc m9_6_4 (memc m9_6_5 (memc m9_7_3 (memc m9_7_4 (memc m9_7_5 (memc m9_7_6 memn)))))
set_option maxRecDepth 20000 in
theorem iw_wsL_hold : ∀ w ∈ wsL_hold, w ∈ lw_tbl := memc m9_10_12 (sub_a (sub_a (sub_a (sub_a (sub_a (iw_wsL_hold_r1) (sub_a (iw_wsL_hold_r2) (iw_wsL_hold_r3))) (wsL_law_in0_wsX40)) (wsL_law_in0_wsX00)) (wsL_law_in0_wsX10)) (wsL_law_x0))
set_option maxRecDepth 20000 in
theorem gl_L_hold : GoodIn lw_tbl (va_wsS RL 84 yL_hold wsL_hold) := goodIn_app (goodIn_sub (memc m9_10_10 (memc m9_10_11 (memc m9_5_0 memn))) (by decide +kernel)) (goodIn_sub iw_wsL_hold (by decide +kernel))
set_option maxRecDepth 20000 in
theorem iw_wsX5_hold_r1 : ∀ w ∈ wsX5_hold_r1, w ∈ lw_tbl := memc m9_10_2 (memc m9_10_3 (memc m9_10_4 (memc m9_1_5 (memc m9_10_5 (memc m9_4_8 (memc m9_7_16 (memc m9_7_17 (memc m9_7_18 (memc m9_8_9 (memc m9_8_10 (memc m9_8_11 (memc m9_8_12 (memc m9_8_13 (memc m9_11_1 (memc m9_11_2 (memc m9_11_3 (memc m9_11_4 (memc m9_8_14 (memc m9_8_15 (memc m9_8_16 (memc m9_8_17 (memc m9_8_18 (memc m9_4_11 memn)))))))))))))))))))))))
set_option maxRecDepth 20000 in
theorem iw_wsX5_hold_r2 : ∀ w ∈ wsX5_hold_r2, w ∈ lw_tbl := memc m9_8_2 (memc m9_8_3 (memc m9_8_4 (memc m9_8_5 (memc m9_8_6 (memc m9_8_7 (memc m9_8_8 (memc m9_8_23 (memc m9_9_0 (memc m9_9_1 (memc m9_9_2 memn))))))))))
set_option maxRecDepth 20000 in
theorem iw_wsX5_hold : ∀ w ∈ wsX5_hold, w ∈ lw_tbl := memc m9_11_0 (sub_a (sub_a (iw_wsX5_hold_r1) (iw_wsX5_hold_r2)) (wsL_law_in0_wsX50))
set_option maxRecDepth 20000 in
theorem gl_X5_hold : GoodIn lw_tbl (wsV RL 86 RX5 yX5_hold wsX5_hold) := goodIn_app (goodIn_sub (memc m9_10_21 (memc m9_10_22 (memc m9_10_23 (memc m9_1_5 memn)))) (by decide +kernel)) (goodIn_sub iw_wsX5_hold (by decide +kernel))
set_option maxRecDepth 20000 in
theorem iw_wsL_move_r1 : ∀ w ∈ wsL_move_r1, w ∈ lw_tbl := memc m9_5_2 (memc m9_11_8 (memc m9_11_9 (memc m9_11_10 (memc m9_11_11 (memc m9_1_2 (memc m9_11_12 (memc m9_5_8 (memc m9_5_9 (memc m9_11_13 (memc m9_11_14 (memc m9_1_17 (memc m9_1_23 (memc m9_9_14 (memc m9_9_15 (memc m9_9_16 (memc m9_2_2 (memc m9_9_17 (memc m9_5_22 (memc m9_5_23 (memc m9_6_0 (memc m9_6_1 (memc m9_3_2 (memc m9_5_15 memn)))))))))))))))))))))))
set_option maxRecDepth 20000 in
theorem iw_wsL_move_r2 : ∀ w ∈ wsL_move_r2, w ∈ lw_tbl := memc m9_5_16 (memc m9_5_17 (memc m9_11_15 (memc m9_11_16 (memc m9_11_17 (memc m9_11_18 (memc m9_11_19 (memc m9_6_2 (memc m9_6_3 (memc m9_6_4 (memc m9_6_5 (memc m9_3_4 (memc m9_11_20 (memc m9_11_21 (memc m9_6_7 (memc m9_6_8 (memc m9_6_9 (memc m9_1_22 (memc m9_6_10 (memc m9_3_16 (memc m9_3_15 (memc m9_6_11 (memc m9_6_12 (memc m9_6_13 memn)))))))))))))))))))))))
set_option maxRecDepth 20000 in
theorem iw_wsL_move_r3 : ∀ w ∈ wsL_move_r3, w ∈ lw_tbl := memc m9_6_14 (memc m9_3_14 (memc m9_6_15 (memc m9_6_16 (memc m9_6_17 (memc m9_6_18 (memc m9_6_19 (memc m9_6_20 (memc m9_6_21 (memc m9_6_22 (memc m9_3_3 (memc m9_10_17 (memc m9_10_18 (memc m9_10_19 (memc m9_10_20 (memc m9_7_3 (memc m9_7_4 (memc m9_7_5 (memc m9_7_6 memn))))))))))))))))))
set_option maxRecDepth 20000 in
theorem iw_wsL_move : ∀ w ∈ wsL_move, w ∈ lw_tbl := memc m9_11_7 (sub_a (sub_a (sub_a (sub_a (sub_a (sub_a (iw_wsL_move_r1) (sub_a (iw_wsL_move_r2) (iw_wsL_move_r3))) (wsL_law_in0_wsX40)) (wsL_law_in0_wsX00)) (wsL_law_in0_wsX10)) (wsL_law_x0)) (wsL_law_x2))
set_option maxRecDepth 20000 in
theorem gl_L_move : GoodIn lw_tbl (va_wsS RL 87 yL_move wsL_move) := goodIn_app (goodIn_sub (memc m9_11_5 (memc m9_11_6 (memc m9_5_0 memn))) (by decide +kernel)) (goodIn_sub iw_wsL_move (by decide +kernel))
set_option maxRecDepth 20000 in
theorem iw_wsX5_move_r1 : ∀ w ∈ wsX5_move_r1, w ∈ lw_tbl := memc m9_10_2 (memc m9_10_3 (memc m9_10_4 (memc m9_1_5 (memc m9_10_5 (memc m9_4_8 (memc m9_7_16 (memc m9_7_17 (memc m9_7_18 (memc m9_7_19 (memc m9_7_20 (memc m9_7_21 (memc m9_8_2 (memc m9_8_3 (memc m9_8_4 (memc m9_8_5 (memc m9_8_6 (memc m9_8_7 (memc m9_8_8 (memc m9_12_2 (memc m9_12_3 (memc m9_12_4 (memc m9_8_9 (memc m9_8_10 memn)))))))))))))))))))))))
set_option maxRecDepth 20000 in
theorem iw_wsX5_move_r2 : ∀ w ∈ wsX5_move_r2, w ∈ lw_tbl := memc m9_8_11 (memc m9_8_12 (memc m9_8_13 (memc m9_11_1 (memc m9_11_2 (memc m9_11_3 (memc m9_11_4 (memc m9_8_14 (memc m9_8_15 (memc m9_8_16 (memc m9_8_17 (memc m9_8_18 (memc m9_4_11 (memc m9_8_23 (memc m9_9_0 (memc m9_9_1 (memc m9_9_2 memn))))))))))))))))
set_option maxRecDepth 20000 in
theorem iw_wsX5_move : ∀ w ∈ wsX5_move, w ∈ lw_tbl := memc m9_12_1 (sub_a (sub_a (iw_wsX5_move_r1) (iw_wsX5_move_r2)) (wsL_law_in0_wsX50))
set_option maxRecDepth 20000 in
theorem gl_X5_move : GoodIn lw_tbl (wsV RL 89 RX5 yX5_move wsX5_move) := goodIn_app (goodIn_sub (memc m9_11_22 (memc m9_11_23 (memc m9_12_0 (memc m9_1_5 memn)))) (by decide +kernel)) (goodIn_sub iw_wsX5_move (by decide +kernel))
set_option maxRecDepth 20000 in
theorem iw_wsL_support_r1 : ∀ w ∈ wsL_support_r1, w ∈ lw_tbl := memc m9_5_2 (memc m9_11_8 (memc m9_12_8 (memc m9_12_9 (memc m9_12_10 (memc m9_1_2 (memc m9_12_11 (memc m9_5_8 (memc m9_5_9 (memc m9_11_13 (memc m9_11_14 (memc m9_1_17 (memc m9_1_23 (memc m9_9_14 (memc m9_9_15 (memc m9_9_16 (memc m9_2_2 (memc m9_9_17 (memc m9_5_22 (memc m9_5_23 (memc m9_6_0 (memc m9_6_1 (memc m9_3_2 (memc m9_5_15 memn)))))))))))))))))))))))
set_option maxRecDepth 20000 in
theorem iw_wsL_support_r2 : ∀ w ∈ wsL_support_r2, w ∈ lw_tbl := memc m9_5_16 (memc m9_5_17 (memc m9_11_15 (memc m9_11_16 (memc m9_11_17 (memc m9_11_18 (memc m9_11_19 (memc m9_6_2 (memc m9_6_3 (memc m9_6_4 (memc m9_6_5 (memc m9_3_4 (memc m9_11_20 (memc m9_11_21 (memc m9_6_7 (memc m9_6_8 (memc m9_6_9 (memc m9_1_22 (memc m9_6_10 (memc m9_3_16 (memc m9_3_15 (memc m9_6_11 (memc m9_6_12 (memc m9_6_13 memn)))))))))))))))))))))))
set_option maxRecDepth 20000 in
theorem iw_wsL_support_r3 : ∀ w ∈ wsL_support_r3, w ∈ lw_tbl := memc m9_6_14 (memc m9_3_14 (memc m9_6_15 (memc m9_6_16 (memc m9_6_17 (memc m9_6_18 (memc m9_6_19 (memc m9_6_20 (memc m9_6_21 (memc m9_6_22 (memc m9_3_3 (memc m9_10_17 (memc m9_10_18 (memc m9_10_19 (memc m9_10_20 (memc m9_7_3 (memc m9_7_4 (memc m9_7_5 (memc m9_7_6 memn))))))))))))))))))
set_option maxRecDepth 20000 in
theorem iw_wsL_support : ∀ w ∈ wsL_support, w ∈ lw_tbl := memc m9_12_7 (sub_a (sub_a (sub_a (sub_a (sub_a (sub_a (iw_wsL_support_r1) (sub_a (iw_wsL_support_r2) (iw_wsL_support_r3))) (wsL_law_in0_wsX40)) (wsL_law_in0_wsX00)) (wsL_law_in0_wsX10)) (wsL_law_x0)) (wsL_law_x2))
set_option maxRecDepth 20000 in
theorem gl_L_support : GoodIn lw_tbl (va_wsS RL 90 yL_support wsL_support) := goodIn_app (goodIn_sub (memc m9_12_5 (memc m9_12_6 (memc m9_5_0 memn))) (by decide +kernel)) (goodIn_sub iw_wsL_support (by decide +kernel))
set_option maxRecDepth 20000 in
theorem iw_wsX5_support_r1 : ∀ w ∈ wsX5_support_r1, w ∈ lw_tbl := memc m9_10_2 (memc m9_10_3 (memc m9_10_4 (memc m9_1_5 (memc m9_10_5 (memc m9_4_8 (memc m9_7_16 (memc m9_7_17 (memc m9_7_18 (memc m9_7_19 (memc m9_7_20 (memc m9_7_21 (memc m9_12_16 (memc m9_12_17 (memc m9_12_18 (memc m9_12_19 (memc m9_8_2 (memc m9_8_3 (memc m9_8_4 (memc m9_8_5 (memc m9_8_6 (memc m9_8_7 (memc m9_8_8 (memc m9_12_2 memn)))))))))))))))))))))))
set_option maxRecDepth 20000 in
theorem iw_wsX5_support_r2 : ∀ w ∈ wsX5_support_r2, w ∈ lw_tbl := memc m9_12_3 (memc m9_12_4 (memc m9_8_9 (memc m9_8_10 (memc m9_8_11 (memc m9_8_12 (memc m9_8_13 (memc m9_11_1 (memc m9_11_2 (memc m9_11_3 (memc m9_11_4 (memc m9_8_14 (memc m9_8_15 (memc m9_8_16 (memc m9_8_17 (memc m9_8_18 (memc m9_4_11 (memc m9_8_23 (memc m9_9_0 (memc m9_9_1 (memc m9_9_2 memn))))))))))))))))))))
set_option maxRecDepth 20000 in
theorem iw_wsX5_support : ∀ w ∈ wsX5_support, w ∈ lw_tbl := memc m9_12_15 (sub_a (sub_a (iw_wsX5_support_r1) (iw_wsX5_support_r2)) (wsL_law_in0_wsX50))
set_option maxRecDepth 20000 in
theorem gl_X5_support : GoodIn lw_tbl (wsV RL 93 RX5 yX5_support wsX5_support) := goodIn_app (goodIn_sub (memc m9_12_12 (memc m9_12_13 (memc m9_12_14 (memc m9_1_5 memn)))) (by decide +kernel)) (goodIn_sub iw_wsX5_support (by decide +kernel))
set_option maxRecDepth 20000 in
theorem iw_wsX4_open_r1 : ∀ w ∈ wsX4_open_r1, w ∈ lw_tbl := memc m9_1_23 (memc m9_1_17 (memc m9_1_16 (memc m9_6_7 (memc m9_6_8 (memc m9_6_9 (memc m9_1_22 (memc m9_6_10 (memc m9_3_16 (memc m9_3_15 (memc m9_6_11 (memc m9_6_12 (memc m9_6_13 (memc m9_6_14 (memc m9_3_14 (memc m9_6_15 (memc m9_6_16 (memc m9_6_17 (memc m9_2_2 (memc m9_6_18 (memc m9_3_2 (memc m9_6_19 (memc m9_6_20 (memc m9_6_21 memn)))))))))))))))))))))))
set_option maxRecDepth 20000 in
theorem iw_wsX4_open_r2 : ∀ w ∈ wsX4_open_r2, w ∈ lw_tbl := memc m9_6_22 (memc m9_3_3 (memc m9_3_4 (memc m9_13_0 (memc m9_13_1 (memc m9_13_2 (memc m9_1_15 (memc m9_13_3 (memc m9_13_4 (memc m9_13_5 (memc m9_13_6 (memc m9_13_7 (memc m9_13_8 (memc m9_13_9 (memc m9_13_10 (memc m9_13_11 (memc m9_2_13 (memc m9_2_15 (memc m9_2_16 (memc m9_13_12 (memc m9_5_23 (memc m9_6_0 (memc m9_6_1 (memc m9_13_13 memn)))))))))))))))))))))))
set_option maxRecDepth 20000 in
theorem iw_wsX4_open_r3 : ∀ w ∈ wsX4_open_r3, w ∈ lw_tbl := memc m9_6_3 (memc m9_6_4 (memc m9_6_5 (memc m9_13_14 (memc m9_13_15 (memc m9_13_16 (memc m9_13_17 (memc m9_13_18 (memc m9_13_19 (memc m9_13_20 (memc m9_13_21 (memc m9_13_22 (memc m9_13_23 (memc m9_14_0 (memc m9_14_1 (memc m9_14_2 (memc m9_5_19 (memc m9_5_20 (memc m9_5_21 (memc m9_5_22 (memc m9_6_2 (memc m9_7_7 (memc m9_1_2 (memc m9_7_8 memn)))))))))))))))))))))))
set_option maxRecDepth 20000 in
theorem iw_wsX4_open_r4 : ∀ w ∈ wsX4_open_r4, w ∈ lw_tbl := memc m9_14_3 (memc m9_14_4 (memc m9_14_5 (memc m9_14_6 (memc m9_2_17 (memc m9_14_7 (memc m9_14_8 (memc m9_14_9 (memc m9_14_10 (memc m9_14_11 (memc m9_14_12 (memc m9_14_13 (memc m9_14_14 (memc m9_14_15 (memc m9_14_16 (memc m9_2_18 (memc m9_14_17 (memc m9_14_18 (memc m9_14_19 (memc m9_14_20 (memc m9_14_21 (memc m9_14_22 (memc m9_14_23 (memc m9_15_0 memn)))))))))))))))))))))))
set_option maxRecDepth 20000 in
theorem iw_wsX4_open_r5 : ∀ w ∈ wsX4_open_r5, w ∈ lw_tbl := memc m9_15_1 (memc m9_15_2 (memc m9_15_3 (memc m9_15_4 (memc m9_15_5 (memc m9_15_6 (memc m9_15_7 (memc m9_15_8 (memc m9_15_9 (memc m9_15_10 (memc m9_15_11 (memc m9_15_12 (memc m9_15_13 (memc m9_15_14 (memc m9_15_15 (memc m9_15_16 (memc m9_2_19 (memc m9_2_20 (memc m9_2_21 (memc m9_15_17 (memc m9_15_18 (memc m9_15_19 (memc m9_15_20 (memc m9_15_21 memn)))))))))))))))))))))))
set_option maxRecDepth 20000 in
theorem iw_wsX4_open_r6 : ∀ w ∈ wsX4_open_r6, w ∈ lw_tbl := memc m9_15_22 (memc m9_15_23 (memc m9_16_0 (memc m9_16_1 (memc m9_16_2 (memc m9_16_3 (memc m9_16_4 (memc m9_16_5 (memc m9_16_6 (memc m9_16_7 (memc m9_16_8 (memc m9_11_20 (memc m9_11_21 (memc m9_16_9 (memc m9_16_10 (memc m9_16_11 (memc m9_16_12 (memc m9_16_13 (memc m9_16_14 (memc m9_16_15 (memc m9_16_16 (memc m9_16_17 (memc m9_16_18 (memc m9_16_19 memn)))))))))))))))))))))))
set_option maxRecDepth 20000 in
theorem iw_wsX4_open_r7 : ∀ w ∈ wsX4_open_r7, w ∈ lw_tbl := memc m9_16_20 (memc m9_16_21 (memc m9_16_22 (memc m9_16_23 (memc m9_17_0 (memc m9_17_1 (memc m9_7_4 (memc m9_7_5 (memc m9_7_6 (memc m9_17_2 (memc m9_17_3 (memc m9_17_4 (memc m9_17_5 (memc m9_17_6 (memc m9_17_7 (memc m9_17_8 (memc m9_17_9 (memc m9_17_10 (memc m9_10_18 (memc m9_10_19 (memc m9_10_20 (memc m9_7_3 (memc m9_17_11 (memc m9_9_19 memn)))))))))))))))))))))))
set_option maxRecDepth 20000 in
theorem iw_wsX4_open_r8 : ∀ w ∈ wsX4_open_r8, w ∈ lw_tbl := memc m9_9_20 (memc m9_9_21 (memc m9_17_12 (memc m9_17_13 (memc m9_17_14 (memc m9_17_15 (memc m9_17_16 (memc m9_17_17 (memc m9_17_18 (memc m9_17_19 (memc m9_17_20 (memc m9_17_21 (memc m9_17_22 (memc m9_17_23 (memc m9_18_0 (memc m9_18_1 (memc m9_18_2 (memc m9_18_3 (memc m9_18_4 (memc m9_18_5 (memc m9_18_6 (memc m9_18_7 (memc m9_18_8 (memc m9_18_9 memn)))))))))))))))))))))))
set_option maxRecDepth 20000 in
theorem iw_wsX4_open_r9 : ∀ w ∈ wsX4_open_r9, w ∈ lw_tbl := memc m9_18_10 (memc m9_18_11 (memc m9_18_12 (memc m9_18_13 (memc m9_18_14 (memc m9_18_15 (memc m9_18_16 (memc m9_18_17 (memc m9_18_18 (memc m9_18_19 (memc m9_18_20 (memc m9_18_21 (memc m9_18_22 (memc m9_18_23 (memc m9_19_0 (memc m9_19_1 (memc m9_7_0 (memc m9_7_1 (memc m9_7_2 memn))))))))))))))))))
set_option maxRecDepth 20000 in
theorem iw_wsX4_open : ∀ w ∈ wsX4_open, w ∈ lw_tbl := memc m9_12_23 (sub_a (sub_a (sub_a (sub_a (sub_a (iw_wsX4_open_r1) (sub_a (iw_wsX4_open_r2) (sub_a (iw_wsX4_open_r3) (sub_a (iw_wsX4_open_r4) (sub_a (iw_wsX4_open_r5) (sub_a (iw_wsX4_open_r6) (sub_a (iw_wsX4_open_r7) (sub_a (iw_wsX4_open_r8) (iw_wsX4_open_r9))))))))) (wsL_law_in0_wsX40)) (wsL_law_in0_wsX10)) (wsL_law_in0_wsX00)) (wsL_law_in0_wsX20))
set_option maxRecDepth 20000 in
theorem gl_X4_open : GoodIn lw_tbl (wsV RL 94 RX4 yX4_open wsX4_open) := goodIn_app (goodIn_sub (memc m9_12_20 (memc m9_12_21 (memc m9_12_22 (memc m9_1_2 memn)))) (by decide +kernel)) (goodIn_sub iw_wsX4_open (by decide +kernel))
set_option maxRecDepth 20000 in
theorem iw_wsX5_open_r1 : ∀ w ∈ wsX5_open_r1, w ∈ lw_tbl := memc m9_8_13 (memc m9_4_8 (memc m9_8_14 (memc m9_8_15 (memc m9_8_16 (memc m9_1_5 (memc m9_8_17 (memc m9_8_18 (memc m9_4_11 (memc m9_19_6 (memc m9_19_7 (memc m9_19_8 (memc m9_19_9 (memc m9_4_17 (memc m9_4_19 (memc m9_4_20 (memc m9_19_10 (memc m9_19_11 (memc m9_19_12 (memc m9_19_13 (memc m9_4_21 (memc m9_19_14 (memc m9_19_15 (memc m9_19_16 memn)))))))))))))))))))))))
set_option maxRecDepth 20000 in
theorem iw_wsX5_open_r2 : ∀ w ∈ wsX5_open_r2, w ∈ lw_tbl := memc m9_19_17 (memc m9_4_15 (memc m9_4_14 (memc m9_4_16 (memc m9_4_18 (memc m9_8_2 (memc m9_8_3 (memc m9_8_4 (memc m9_8_5 (memc m9_8_6 (memc m9_8_7 (memc m9_8_8 (memc m9_19_18 (memc m9_19_19 (memc m9_19_20 (memc m9_19_21 (memc m9_19_22 (memc m9_19_23 (memc m9_20_0 (memc m9_20_1 (memc m9_20_2 (memc m9_20_3 (memc m9_20_4 (memc m9_20_5 memn)))))))))))))))))))))))
set_option maxRecDepth 20000 in
theorem iw_wsX5_open_r3 : ∀ w ∈ wsX5_open_r3, w ∈ lw_tbl := memc m9_20_6 (memc m9_20_7 (memc m9_20_8 (memc m9_20_9 (memc m9_7_22 (memc m9_7_23 (memc m9_8_0 (memc m9_8_1 (memc m9_20_10 (memc m9_20_11 (memc m9_20_12 (memc m9_20_13 (memc m9_20_14 (memc m9_20_15 (memc m9_20_16 (memc m9_20_17 (memc m9_20_18 (memc m9_20_19 (memc m9_20_20 (memc m9_20_21 (memc m9_20_22 (memc m9_20_23 (memc m9_21_0 (memc m9_21_1 memn)))))))))))))))))))))))
set_option maxRecDepth 20000 in
theorem iw_wsX5_open_r4 : ∀ w ∈ wsX5_open_r4, w ∈ lw_tbl := memc m9_21_2 (memc m9_21_3 (memc m9_21_4 (memc m9_21_5 (memc m9_12_2 (memc m9_12_3 (memc m9_12_4 (memc m9_21_6 (memc m9_21_7 (memc m9_21_8 (memc m9_21_9 (memc m9_8_23 (memc m9_9_0 (memc m9_9_1 (memc m9_9_2 (memc m9_10_6 (memc m9_10_7 (memc m9_10_8 (memc m9_10_9 (memc m9_21_10 (memc m9_21_11 (memc m9_21_12 (memc m9_21_13 (memc m9_21_14 memn)))))))))))))))))))))))
set_option maxRecDepth 20000 in
theorem iw_wsX5_open_r5 : ∀ w ∈ wsX5_open_r5, w ∈ lw_tbl := memc m9_21_15 (memc m9_21_16 (memc m9_21_17 (memc m9_21_18 (memc m9_21_19 (memc m9_21_20 (memc m9_21_21 (memc m9_21_22 (memc m9_21_23 (memc m9_22_0 (memc m9_22_1 (memc m9_22_2 (memc m9_22_3 (memc m9_22_4 (memc m9_22_5 (memc m9_22_6 (memc m9_22_7 (memc m9_22_8 (memc m9_22_9 (memc m9_8_19 (memc m9_8_20 (memc m9_8_21 (memc m9_8_22 memn))))))))))))))))))))))
set_option maxRecDepth 20000 in
theorem iw_wsX5_open : ∀ w ∈ wsX5_open, w ∈ lw_tbl := memc m9_19_5 (sub_a (sub_a (iw_wsX5_open_r1) (sub_a (iw_wsX5_open_r2) (sub_a (iw_wsX5_open_r3) (sub_a (iw_wsX5_open_r4) (iw_wsX5_open_r5))))) (wsL_law_in0_wsX50))
set_option maxRecDepth 20000 in
theorem gl_X5_open : GoodIn lw_tbl (wsV RL 97 RX5 yX5_open wsX5_open) := goodIn_app (goodIn_sub (memc m9_19_2 (memc m9_19_3 (memc m9_19_4 (memc m9_1_5 memn)))) (by decide +kernel)) (goodIn_sub iw_wsX5_open (by decide +kernel))
set_option maxRecDepth 20000 in
theorem iw_wsL_append_r1 : ∀ w ∈ wsL_append_r1, w ∈ lw_tbl := memc m9_11_8 (memc m9_5_3 (memc m9_22_13 (memc m9_22_14 (memc m9_22_15 (memc m9_1_2 (memc m9_22_16 (memc m9_11_13 (memc m9_11_14 (memc m9_5_10 (memc m9_5_11 (memc m9_2_8 (memc m9_22_17 (memc m9_22_18 (memc m9_22_19 (memc m9_2_7 (memc m9_22_20 (memc m9_3_23 (memc m9_22_21 (memc m9_22_22 (memc m9_22_23 (memc m9_23_0 (memc m9_3_22 (memc m9_7_7 memn)))))))))))))))))))))))
set_option maxRecDepth 20000 in
theorem iw_wsL_append_r2 : ∀ w ∈ wsL_append_r2, w ∈ lw_tbl := memc m9_7_8 memn
set_option maxRecDepth 20000 in
theorem iw_wsL_append : ∀ w ∈ wsL_append, w ∈ lw_tbl := memc m9_22_12 (sub_a (sub_a (sub_a (sub_a (sub_a (iw_wsL_append_r1) (iw_wsL_append_r2)) (wsL_law_in0_wsX40)) (wsL_law_in0_wsX30)) (wsL_law_x2)) (wsL_law_x1))
set_option maxRecDepth 20000 in
theorem gl_L_append : GoodIn lw_tbl (va_wsS RL 98 yL_append wsL_append) := goodIn_app (goodIn_sub (memc m9_22_10 (memc m9_22_11 (memc m9_5_0 memn))) (by decide +kernel)) (goodIn_sub iw_wsL_append (by decide +kernel))
set_option maxRecDepth 20000 in
theorem iw_wsX5_append : ∀ w ∈ wsX5_append, w ∈ lw_tbl := memc m9_23_4 (sub_a (memc m9_23_5 (memc m9_4_12 (memc m9_7_16 (memc m9_7_17 (memc m9_1_5 (memc m9_7_18 (memc m9_8_9 (memc m9_8_10 (memc m9_8_11 (memc m9_8_12 (memc m9_8_13 memn))))))))))) (wsL_law_in0_wsX50))
set_option maxRecDepth 20000 in
theorem gl_X5_append : GoodIn lw_tbl (wsV RL 100 RX5 yX5_append wsX5_append) := goodIn_app (goodIn_sub (memc m9_23_1 (memc m9_23_2 (memc m9_23_3 (memc m9_1_5 memn)))) (by decide +kernel)) (goodIn_sub iw_wsX5_append (by decide +kernel))
set_option maxRecDepth 20000 in
theorem iw_wsX4_clearBuffer : ∀ w ∈ wsX4_clearBuffer, w ∈ lw_tbl := memc m9_23_9 (sub_a (sub_a (memc m9_2_8 (memc m9_22_17 (memc m9_22_18 (memc m9_22_19 (memc m9_2_7 (memc m9_22_20 (memc m9_3_23 (memc m9_23_10 (memc m9_23_11 (memc m9_23_12 (memc m9_23_13 memn))))))))))) (wsL_law_in0_wsX40)) (wsL_law_in0_wsX30))
set_option maxRecDepth 20000 in
theorem gl_X4_clearBuffer : GoodIn lw_tbl (wsV RL 101 RX4 yX4_clearBuffer wsX4_clearBuffer) := goodIn_app (goodIn_sub (memc m9_23_6 (memc m9_23_7 (memc m9_23_8 (memc m9_1_2 memn)))) (by decide +kernel)) (goodIn_sub iw_wsX4_clearBuffer (by decide +kernel))
set_option maxRecDepth 20000 in
theorem iw_wsX5_clearBuffer : ∀ w ∈ wsX5_clearBuffer, w ∈ lw_tbl := memc m9_23_17 (sub_a (memc m9_8_13 (memc m9_23_5 memn)) (wsL_law_in0_wsX50))
set_option maxRecDepth 20000 in
theorem gl_X5_clearBuffer : GoodIn lw_tbl (wsV RL 104 RX5 yX5_clearBuffer wsX5_clearBuffer) := goodIn_app (goodIn_sub (memc m9_23_14 (memc m9_23_15 (memc m9_23_16 (memc m9_1_5 memn)))) (by decide +kernel)) (goodIn_sub iw_wsX5_clearBuffer (by decide +kernel))
set_option maxRecDepth 20000 in
theorem iw_wsX4_firstError_r1 : ∀ w ∈ wsX4_firstError_r1, w ∈ lw_tbl := memc m9_2_8 (memc m9_23_22 (memc m9_23_23 (memc m9_24_0 (memc m9_2_7 (memc m9_24_1 (memc m9_3_23 (memc m9_24_2 (memc m9_24_3 (memc m9_24_4 (memc m9_24_5 (memc m9_3_22 (memc m9_14_11 (memc m9_1_2 (memc m9_14_12 (memc m9_24_6 (memc m9_24_7 (memc m9_24_8 (memc m9_24_9 (memc m9_24_10 (memc m9_24_11 (memc m9_24_12 (memc m9_24_13 (memc m9_24_14 memn)))))))))))))))))))))))
set_option maxRecDepth 20000 in
theorem iw_wsX4_firstError_r2 : ∀ w ∈ wsX4_firstError_r2, w ∈ lw_tbl := memc m9_24_15 (memc m9_24_16 (memc m9_24_17 (memc m9_24_18 (memc m9_24_19 (memc m9_24_20 (memc m9_24_21 (memc m9_24_22 (memc m9_24_23 memn))))))))
set_option maxRecDepth 20000 in
theorem iw_wsX4_firstError : ∀ w ∈ wsX4_firstError, w ∈ lw_tbl := memc m9_23_21 (sub_a (sub_a (sub_a (iw_wsX4_firstError_r1) (iw_wsX4_firstError_r2)) (wsL_law_in0_wsX40)) (wsL_law_in0_wsX30))
set_option maxRecDepth 20000 in
theorem gl_X4_firstError : GoodIn lw_tbl (wsV RL 105 RX4 yX4_firstError wsX4_firstError) := goodIn_app (goodIn_sub (memc m9_23_18 (memc m9_23_19 (memc m9_23_20 (memc m9_1_2 memn)))) (by decide +kernel)) (goodIn_sub iw_wsX4_firstError (by decide +kernel))
set_option maxRecDepth 20000 in
theorem iw_wsX5_firstError_r1 : ∀ w ∈ wsX5_firstError_r1, w ∈ lw_tbl := memc m9_8_13 (memc m9_25_4 (memc m9_25_5 (memc m9_23_5 (memc m9_25_6 (memc m9_25_7 (memc m9_25_8 (memc m9_1_5 (memc m9_25_9 (memc m9_25_10 (memc m9_25_11 (memc m9_25_12 (memc m9_25_13 (memc m9_4_12 (memc m9_25_14 (memc m9_25_15 (memc m9_25_16 (memc m9_25_17 (memc m9_7_16 (memc m9_7_17 (memc m9_7_18 (memc m9_25_18 (memc m9_25_19 (memc m9_25_20 memn)))))))))))))))))))))))
set_option maxRecDepth 20000 in
theorem iw_wsX5_firstError_r2 : ∀ w ∈ wsX5_firstError_r2, w ∈ lw_tbl := memc m9_25_21 (memc m9_25_22 (memc m9_25_23 (memc m9_26_0 (memc m9_26_1 (memc m9_10_2 (memc m9_10_3 (memc m9_10_4 (memc m9_10_5 (memc m9_4_8 (memc m9_8_2 (memc m9_8_3 (memc m9_8_4 (memc m9_8_5 (memc m9_8_6 (memc m9_8_7 (memc m9_8_8 (memc m9_12_2 (memc m9_12_3 (memc m9_12_4 (memc m9_12_16 (memc m9_12_17 (memc m9_12_18 (memc m9_12_19 memn)))))))))))))))))))))))
set_option maxRecDepth 20000 in
theorem iw_wsX5_firstError_r3 : ∀ w ∈ wsX5_firstError_r3, w ∈ lw_tbl := memc m9_8_23 (memc m9_9_0 (memc m9_9_1 (memc m9_9_2 memn)))
set_option maxRecDepth 20000 in
theorem iw_wsX5_firstError : ∀ w ∈ wsX5_firstError, w ∈ lw_tbl := memc m9_25_3 (sub_a (sub_a (iw_wsX5_firstError_r1) (sub_a (iw_wsX5_firstError_r2) (iw_wsX5_firstError_r3))) (wsL_law_in0_wsX50))
set_option maxRecDepth 20000 in
theorem gl_X5_firstError : GoodIn lw_tbl (wsV RL 108 RX5 yX5_firstError wsX5_firstError) := goodIn_app (goodIn_sub (memc m9_25_0 (memc m9_25_1 (memc m9_25_2 (memc m9_1_5 memn)))) (by decide +kernel)) (goodIn_sub iw_wsX5_firstError (by decide +kernel))
set_option maxRecDepth 20000 in
theorem iw_wsL_orders_r1 : ∀ w ∈ wsL_orders_r1, w ∈ lw_tbl := memc m9_11_8 (memc m9_26_5 (memc m9_26_6 (memc m9_26_7 (memc m9_1_2 (memc m9_26_8 (memc m9_11_13 (memc m9_11_14 (memc m9_2_8 (memc m9_1_23 (memc m9_1_17 (memc m9_26_9 (memc m9_26_10 (memc m9_26_11 (memc m9_2_7 (memc m9_26_12 (memc m9_3_23 (memc m9_24_2 (memc m9_24_3 (memc m9_24_4 (memc m9_24_5 (memc m9_3_22 (memc m9_14_11 (memc m9_14_12 memn)))))))))))))))))))))))
set_option maxRecDepth 20000 in
theorem iw_wsL_orders_r2 : ∀ w ∈ wsL_orders_r2, w ∈ lw_tbl := memc m9_24_6 (memc m9_24_7 (memc m9_24_8 (memc m9_24_9 (memc m9_24_10 (memc m9_24_11 (memc m9_24_12 (memc m9_24_13 (memc m9_24_14 (memc m9_24_15 (memc m9_24_16 (memc m9_24_17 (memc m9_24_18 (memc m9_24_19 (memc m9_24_20 (memc m9_24_21 (memc m9_24_22 (memc m9_24_23 (memc m9_6_7 (memc m9_6_8 (memc m9_6_9 (memc m9_1_22 (memc m9_6_10 (memc m9_3_16 memn)))))))))))))))))))))))
set_option maxRecDepth 20000 in
theorem iw_wsL_orders_r3 : ∀ w ∈ wsL_orders_r3, w ∈ lw_tbl := memc m9_3_15 (memc m9_6_11 (memc m9_6_12 (memc m9_6_13 (memc m9_6_14 (memc m9_3_14 (memc m9_6_15 (memc m9_6_16 (memc m9_6_17 (memc m9_2_2 (memc m9_6_18 (memc m9_3_2 (memc m9_6_19 (memc m9_6_20 (memc m9_6_21 (memc m9_6_22 (memc m9_3_3 (memc m9_3_4 (memc m9_26_13 (memc m9_26_14 (memc m9_26_15 (memc m9_26_16 (memc m9_22_17 (memc m9_22_18 memn)))))))))))))))))))))))
set_option maxRecDepth 20000 in
theorem iw_wsL_orders_r4 : ∀ w ∈ wsL_orders_r4, w ∈ lw_tbl := memc m9_22_19 (memc m9_22_20 (memc m9_26_17 (memc m9_26_18 (memc m9_26_19 (memc m9_26_20 (memc m9_4_0 (memc m9_4_1 (memc m9_4_2 (memc m9_4_3 (memc m9_26_21 (memc m9_26_22 (memc m9_26_23 (memc m9_27_0 (memc m9_27_1 (memc m9_27_2 (memc m9_27_3 (memc m9_27_4 (memc m9_11_15 (memc m9_11_16 (memc m9_11_17 (memc m9_11_18 (memc m9_11_19 (memc m9_9_15 memn)))))))))))))))))))))))
set_option maxRecDepth 20000 in
theorem iw_wsL_orders_r5 : ∀ w ∈ wsL_orders_r5, w ∈ lw_tbl := memc m9_9_16 (memc m9_9_17 (memc m9_5_22 (memc m9_5_23 (memc m9_6_0 (memc m9_6_1 (memc m9_6_2 (memc m9_6_3 (memc m9_6_4 (memc m9_6_5 (memc m9_11_20 (memc m9_11_21 (memc m9_10_17 (memc m9_10_18 (memc m9_10_19 (memc m9_10_20 (memc m9_7_3 (memc m9_7_4 (memc m9_7_5 (memc m9_7_6 (memc m9_23_10 (memc m9_23_11 (memc m9_23_12 (memc m9_23_13 memn)))))))))))))))))))))))
set_option maxRecDepth 20000 in
theorem iw_wsL_orders : ∀ w ∈ wsL_orders, w ∈ lw_tbl := memc m9_26_4 (sub_a (sub_a (sub_a (sub_a (sub_a (sub_a (iw_wsL_orders_r1) (sub_a (iw_wsL_orders_r2) (sub_a (iw_wsL_orders_r3) (sub_a (iw_wsL_orders_r4) (iw_wsL_orders_r5))))) (wsL_law_in0_wsX40)) (wsL_law_in0_wsX30)) (wsL_law_in0_wsX10)) (wsL_law_in0_wsX00)) (wsL_law_x2))
set_option maxRecDepth 20000 in
theorem gl_L_orders : GoodIn lw_tbl (va_wsS RL 109 yL_orders wsL_orders) := goodIn_app (goodIn_sub (memc m9_26_2 (memc m9_26_3 (memc m9_5_0 memn))) (by decide +kernel)) (goodIn_sub iw_wsL_orders (by decide +kernel))
set_option maxRecDepth 20000 in
theorem iw_wsX5_orders_r1 : ∀ w ∈ wsX5_orders_r1, w ∈ lw_tbl := memc m9_25_4 (memc m9_23_5 (memc m9_25_6 (memc m9_25_7 (memc m9_25_8 (memc m9_1_5 (memc m9_25_9 (memc m9_25_5 (memc m9_25_10 (memc m9_25_11 (memc m9_25_12 (memc m9_25_13 (memc m9_4_12 (memc m9_25_14 (memc m9_25_15 (memc m9_25_16 (memc m9_25_17 (memc m9_7_16 (memc m9_7_17 (memc m9_7_18 (memc m9_25_18 (memc m9_25_19 (memc m9_25_20 (memc m9_25_21 memn)))))))))))))))))))))))
set_option maxRecDepth 20000 in
theorem iw_wsX5_orders_r2 : ∀ w ∈ wsX5_orders_r2, w ∈ lw_tbl := memc m9_25_22 (memc m9_25_23 (memc m9_26_0 (memc m9_26_1 (memc m9_10_2 (memc m9_10_3 (memc m9_10_4 (memc m9_10_5 (memc m9_4_8 (memc m9_8_2 (memc m9_8_3 (memc m9_8_4 (memc m9_8_5 (memc m9_8_6 (memc m9_8_7 (memc m9_8_8 (memc m9_12_2 (memc m9_12_3 (memc m9_12_4 (memc m9_12_16 (memc m9_12_17 (memc m9_12_18 (memc m9_12_19 (memc m9_8_23 memn)))))))))))))))))))))))
set_option maxRecDepth 20000 in
theorem iw_wsX5_orders_r3 : ∀ w ∈ wsX5_orders_r3, w ∈ lw_tbl := memc m9_9_0 (memc m9_9_1 (memc m9_9_2 (memc m9_8_9 (memc m9_8_10 (memc m9_8_11 (memc m9_8_12 (memc m9_8_13 (memc m9_8_14 (memc m9_8_15 (memc m9_8_16 (memc m9_8_17 (memc m9_8_18 (memc m9_4_11 memn)))))))))))))
set_option maxRecDepth 20000 in
theorem iw_wsX5_orders : ∀ w ∈ wsX5_orders, w ∈ lw_tbl := memc m9_27_8 (sub_a (sub_a (iw_wsX5_orders_r1) (sub_a (iw_wsX5_orders_r2) (iw_wsX5_orders_r3))) (wsL_law_in0_wsX50))
set_option maxRecDepth 20000 in
theorem gl_X5_orders : GoodIn lw_tbl (wsV RL 112 RX5 yX5_orders wsX5_orders) := goodIn_app (goodIn_sub (memc m9_27_5 (memc m9_27_6 (memc m9_27_7 (memc m9_1_5 memn)))) (by decide +kernel)) (goodIn_sub iw_wsX5_orders (by decide +kernel))
set_option maxRecDepth 20000 in
theorem iw_wsL_undo_r1 : ∀ w ∈ wsL_undo_r1, w ∈ lw_tbl := memc m9_5_3 (memc m9_27_12 (memc m9_27_13 (memc m9_27_14 (memc m9_1_2 (memc m9_27_15 (memc m9_5_10 (memc m9_5_11 (memc m9_1_23 (memc m9_1_17 (memc m9_27_16 (memc m9_27_17 (memc m9_27_18 (memc m9_1_22 (memc m9_27_19 (memc m9_3_16 (memc m9_27_20 (memc m9_27_21 (memc m9_27_22 (memc m9_27_23 (memc m9_6_11 (memc m9_6_12 (memc m9_6_13 (memc m9_6_14 memn)))))))))))))))))))))))
set_option maxRecDepth 20000 in
theorem iw_wsL_undo_r2 : ∀ w ∈ wsL_undo_r2, w ∈ lw_tbl := memc m9_3_15 (memc m9_3_14 (memc m9_6_15 (memc m9_6_16 (memc m9_6_17 (memc m9_2_2 (memc m9_6_18 (memc m9_3_2 (memc m9_6_19 (memc m9_6_20 (memc m9_6_21 (memc m9_6_22 (memc m9_3_3 (memc m9_3_4 memn)))))))))))))
set_option maxRecDepth 20000 in
theorem iw_wsL_undo : ∀ w ∈ wsL_undo, w ∈ lw_tbl := memc m9_27_11 (sub_a (sub_a (sub_a (sub_a (sub_a (iw_wsL_undo_r1) (iw_wsL_undo_r2)) (wsL_law_in0_wsX40)) (wsL_law_in0_wsX10)) (wsL_law_in0_wsX00)) (wsL_law_x1))
set_option maxRecDepth 20000 in
theorem gl_L_undo : GoodIn lw_tbl (va_wsS RL 113 yL_undo wsL_undo) := goodIn_app (goodIn_sub (memc m9_27_9 (memc m9_27_10 (memc m9_5_0 memn))) (by decide +kernel)) (goodIn_sub iw_wsL_undo (by decide +kernel))
set_option maxRecDepth 20000 in
theorem iw_wsX5_undo : ∀ w ∈ wsX5_undo, w ∈ lw_tbl := memc m9_28_3 (sub_a (memc m9_8_18 (memc m9_4_8 (memc m9_4_11 (memc m9_8_9 (memc m9_8_10 (memc m9_8_11 (memc m9_1_5 (memc m9_8_12 (memc m9_8_13 memn))))))))) (wsL_law_in0_wsX50))
set_option maxRecDepth 20000 in
theorem gl_X5_undo : GoodIn lw_tbl (wsV RL 115 RX5 yX5_undo wsX5_undo) := goodIn_app (goodIn_sub (memc m9_28_0 (memc m9_28_1 (memc m9_28_2 (memc m9_1_5 memn)))) (by decide +kernel)) (goodIn_sub iw_wsX5_undo (by decide +kernel))
set_option maxRecDepth 20000 in
theorem iw_wsX4_keep : ∀ w ∈ wsX4_keep, w ∈ lw_tbl := memc m9_28_7 (sub_a (sub_a (memc m9_2_3 (memc m9_1_17 (memc m9_2_4 (memc m9_28_8 (memc m9_6_16 (memc m9_6_17 (memc m9_2_2 (memc m9_6_18 (memc m9_3_2 (memc m9_6_19 (memc m9_6_20 (memc m9_6_21 (memc m9_6_22 (memc m9_3_3 (memc m9_3_4 (memc m9_6_6 (memc m9_5_23 (memc m9_6_0 (memc m9_6_1 memn))))))))))))))))))) (wsL_law_in0_wsX40)) (wsL_law_in0_wsX00))
set_option maxRecDepth 20000 in
theorem gl_X4_keep : GoodIn lw_tbl (wsV RL 116 RX4 yX4_keep wsX4_keep) := goodIn_app (goodIn_sub (memc m9_28_4 (memc m9_28_5 (memc m9_28_6 (memc m9_1_2 memn)))) (by decide +kernel)) (goodIn_sub iw_wsX4_keep (by decide +kernel))
set_option maxRecDepth 20000 in
theorem iw_wsX5_keep : ∀ w ∈ wsX5_keep, w ∈ lw_tbl := memc m9_28_12 (sub_a (memc m9_8_13 (memc m9_4_10 (memc m9_4_8 (memc m9_28_13 memn)))) (wsL_law_in0_wsX50))
set_option maxRecDepth 20000 in
theorem gl_X5_keep : GoodIn lw_tbl (wsV RL 119 RX5 yX5_keep wsX5_keep) := goodIn_app (goodIn_sub (memc m9_28_9 (memc m9_28_10 (memc m9_28_11 (memc m9_1_5 memn)))) (by decide +kernel)) (goodIn_sub iw_wsX5_keep (by decide +kernel))
set_option maxRecDepth 20000 in
theorem iw_wsL_restore_r1 : ∀ w ∈ wsL_restore_r1, w ∈ lw_tbl := memc m9_5_3 (memc m9_28_17 (memc m9_28_18 (memc m9_28_19 (memc m9_1_2 (memc m9_28_20 (memc m9_5_10 (memc m9_5_11 (memc m9_2_4 (memc m9_1_23 (memc m9_1_17 (memc m9_2_3 (memc m9_6_7 (memc m9_6_8 (memc m9_6_9 (memc m9_1_22 (memc m9_6_10 (memc m9_3_16 (memc m9_3_15 (memc m9_6_11 (memc m9_6_12 (memc m9_6_13 (memc m9_6_14 (memc m9_3_14 memn)))))))))))))))))))))))
set_option maxRecDepth 20000 in
theorem iw_wsL_restore_r2 : ∀ w ∈ wsL_restore_r2, w ∈ lw_tbl := memc m9_6_15 (memc m9_6_16 (memc m9_6_17 (memc m9_2_2 (memc m9_6_18 (memc m9_3_2 (memc m9_6_19 (memc m9_6_20 (memc m9_6_21 (memc m9_6_22 (memc m9_3_3 (memc m9_3_4 (memc m9_28_8 (memc m9_6_6 (memc m9_5_23 (memc m9_6_0 (memc m9_6_1 memn))))))))))))))))
set_option maxRecDepth 20000 in
theorem iw_wsL_restore : ∀ w ∈ wsL_restore, w ∈ lw_tbl := memc m9_28_16 (sub_a (sub_a (sub_a (sub_a (sub_a (iw_wsL_restore_r1) (iw_wsL_restore_r2)) (wsL_law_in0_wsX40)) (wsL_law_in0_wsX10)) (wsL_law_in0_wsX00)) (wsL_law_x1))
set_option maxRecDepth 20000 in
theorem gl_L_restore : GoodIn lw_tbl (va_wsS RL 120 yL_restore wsL_restore) := goodIn_app (goodIn_sub (memc m9_28_14 (memc m9_28_15 (memc m9_5_0 memn))) (by decide +kernel)) (goodIn_sub iw_wsL_restore (by decide +kernel))
set_option maxRecDepth 20000 in
theorem iw_wsX5_restore : ∀ w ∈ wsX5_restore, w ∈ lw_tbl := memc m9_29_0 (sub_a (memc m9_28_13 (memc m9_4_8 (memc m9_4_10 (memc m9_8_9 (memc m9_8_10 (memc m9_8_11 (memc m9_1_5 (memc m9_8_12 (memc m9_8_13 (memc m9_8_14 (memc m9_8_15 (memc m9_8_16 (memc m9_8_17 (memc m9_8_18 (memc m9_4_11 memn))))))))))))))) (wsL_law_in0_wsX50))
set_option maxRecDepth 20000 in
theorem gl_X5_restore : GoodIn lw_tbl (wsV RL 122 RX5 yX5_restore wsX5_restore) := goodIn_app (goodIn_sub (memc m9_28_21 (memc m9_28_22 (memc m9_28_23 (memc m9_1_5 memn)))) (by decide +kernel)) (goodIn_sub iw_wsX5_restore (by decide +kernel))
set_option maxRecDepth 20000 in
theorem iw_wsL_armyOf_r1 : ∀ w ∈ wsL_armyOf_r1, w ∈ lw_tbl := memc m9_5_2 (memc m9_11_8 (memc m9_29_4 (memc m9_29_5 (memc m9_29_6 (memc m9_1_2 (memc m9_29_7 (memc m9_5_8 (memc m9_5_9 (memc m9_11_13 (memc m9_11_14 (memc m9_1_17 (memc m9_9_14 (memc m9_9_15 (memc m9_9_16 (memc m9_2_2 (memc m9_9_17 (memc m9_5_22 (memc m9_5_23 (memc m9_6_0 (memc m9_6_1 (memc m9_3_2 (memc m9_29_8 (memc m9_6_3 memn)))))))))))))))))))))))
set_option maxRecDepth 20000 in
theorem iw_wsL_armyOf_r2 : ∀ w ∈ wsL_armyOf_r2, w ∈ lw_tbl := memc m9_6_4 (memc m9_6_5 (memc m9_3_4 memn))
set_option maxRecDepth 20000 in
theorem iw_wsL_armyOf : ∀ w ∈ wsL_armyOf, w ∈ lw_tbl := memc m9_29_3 (sub_a (sub_a (sub_a (sub_a (sub_a (iw_wsL_armyOf_r1) (iw_wsL_armyOf_r2)) (wsL_law_in0_wsX40)) (wsL_law_in0_wsX00)) (wsL_law_x0)) (wsL_law_x2))
set_option maxRecDepth 20000 in
theorem gl_L_armyOf : GoodIn lw_tbl (va_wsS RL 123 yL_armyOf wsL_armyOf) := goodIn_app (goodIn_sub (memc m9_29_1 (memc m9_29_2 (memc m9_5_0 memn))) (by decide +kernel)) (goodIn_sub iw_wsL_armyOf (by decide +kernel))
set_option maxRecDepth 20000 in
theorem iw_wsX5_armyOf : ∀ w ∈ wsX5_armyOf, w ∈ lw_tbl := memc m9_29_12 (sub_a (memc m9_10_2 (memc m9_10_3 (memc m9_10_4 (memc m9_1_5 (memc m9_10_5 (memc m9_4_8 (memc m9_7_16 (memc m9_7_17 (memc m9_7_18 (memc m9_8_9 (memc m9_8_10 (memc m9_8_11 (memc m9_8_12 (memc m9_8_13 (memc m9_8_2 (memc m9_8_3 (memc m9_8_4 (memc m9_8_5 (memc m9_8_6 (memc m9_8_7 (memc m9_8_8 memn))))))))))))))))))))) (wsL_law_in0_wsX50))
set_option maxRecDepth 20000 in
theorem gl_X5_armyOf : GoodIn lw_tbl (wsV RL 125 RX5 yX5_armyOf wsX5_armyOf) := goodIn_app (goodIn_sub (memc m9_29_9 (memc m9_29_10 (memc m9_29_11 (memc m9_1_5 memn)))) (by decide +kernel)) (goodIn_sub iw_wsX5_armyOf (by decide +kernel))
set_option maxRecDepth 20000 in
theorem iw_wsL_field_r1 : ∀ w ∈ wsL_field_r1, w ∈ lw_tbl := memc m9_5_2 (memc m9_11_8 (memc m9_29_16 (memc m9_29_17 (memc m9_29_18 (memc m9_1_2 (memc m9_29_19 (memc m9_5_8 (memc m9_5_9 (memc m9_11_13 (memc m9_11_14 (memc m9_5_15 (memc m9_5_16 (memc m9_5_17 (memc m9_29_20 (memc m9_29_21 (memc m9_29_22 (memc m9_29_23 (memc m9_1_17 (memc m9_5_18 (memc m9_5_19 (memc m9_5_20 (memc m9_2_2 (memc m9_5_21 memn)))))))))))))))))))))))
set_option maxRecDepth 20000 in
theorem iw_wsL_field_r2 : ∀ w ∈ wsL_field_r2, w ∈ lw_tbl := memc m9_5_22 (memc m9_5_23 (memc m9_6_0 (memc m9_6_1 (memc m9_3_2 (memc m9_6_2 (memc m9_6_3 (memc m9_6_4 (memc m9_6_5 (memc m9_3_4 (memc m9_30_0 (memc m9_18_0 (memc m9_18_1 (memc m9_30_1 (memc m9_18_7 (memc m9_18_8 (memc m9_18_9 (memc m9_3_3 (memc m9_30_2 (memc m9_30_3 (memc m9_30_4 (memc m9_30_5 (memc m9_11_20 (memc m9_11_21 memn)))))))))))))))))))))))
set_option maxRecDepth 20000 in
theorem iw_wsL_field_r3 : ∀ w ∈ wsL_field_r3, w ∈ lw_tbl := memc m9_30_6 (memc m9_30_7 (memc m9_30_8 (memc m9_30_9 memn)))
set_option maxRecDepth 20000 in
theorem iw_wsL_field : ∀ w ∈ wsL_field, w ∈ lw_tbl := memc m9_29_15 (sub_a (sub_a (sub_a (sub_a (sub_a (iw_wsL_field_r1) (sub_a (iw_wsL_field_r2) (iw_wsL_field_r3))) (wsL_law_in0_wsX40)) (wsL_law_in0_wsX00)) (wsL_law_x0)) (wsL_law_x2))
set_option maxRecDepth 20000 in
theorem gl_L_field : GoodIn lw_tbl (va_wsS RL 126 yL_field wsL_field) := goodIn_app (goodIn_sub (memc m9_29_13 (memc m9_29_14 (memc m9_5_0 memn))) (by decide +kernel)) (goodIn_sub iw_wsL_field (by decide +kernel))
set_option maxRecDepth 20000 in
theorem iw_wsX5_field_r1 : ∀ w ∈ wsX5_field_r1, w ∈ lw_tbl := memc m9_7_19 (memc m9_7_20 (memc m9_1_5 (memc m9_7_21 (memc m9_7_16 (memc m9_7_17 (memc m9_7_18 (memc m9_8_9 (memc m9_8_10 (memc m9_8_11 (memc m9_8_12 (memc m9_8_13 (memc m9_30_14 (memc m9_30_15 (memc m9_30_16 (memc m9_30_17 (memc m9_4_8 (memc m9_7_22 (memc m9_7_23 (memc m9_8_0 (memc m9_8_1 (memc m9_8_2 (memc m9_8_3 (memc m9_8_4 memn)))))))))))))))))))))))
set_option maxRecDepth 20000 in
theorem iw_wsX5_field_r2 : ∀ w ∈ wsX5_field_r2, w ∈ lw_tbl := memc m9_8_5 (memc m9_8_6 (memc m9_8_7 (memc m9_8_8 (memc m9_30_18 (memc m9_30_19 (memc m9_30_20 (memc m9_30_21 (memc m9_30_22 (memc m9_30_23 (memc m9_31_0 (memc m9_12_2 (memc m9_12_3 (memc m9_12_4 memn)))))))))))))
set_option maxRecDepth 20000 in
theorem iw_wsX5_field : ∀ w ∈ wsX5_field, w ∈ lw_tbl := memc m9_30_13 (sub_a (sub_a (iw_wsX5_field_r1) (iw_wsX5_field_r2)) (wsL_law_in0_wsX50))
set_option maxRecDepth 20000 in
theorem gl_X5_field : GoodIn lw_tbl (wsV RL 128 RX5 yX5_field wsX5_field) := goodIn_app (goodIn_sub (memc m9_30_10 (memc m9_30_11 (memc m9_30_12 (memc m9_1_5 memn)))) (by decide +kernel)) (goodIn_sub iw_wsX5_field (by decide +kernel))
set_option maxRecDepth 20000 in
theorem iw_wsL_seat_r1 : ∀ w ∈ wsL_seat_r1, w ∈ lw_tbl := memc m9_5_2 (memc m9_11_8 (memc m9_31_4 (memc m9_31_5 (memc m9_31_6 (memc m9_1_2 (memc m9_31_7 (memc m9_5_8 (memc m9_5_9 (memc m9_11_13 (memc m9_11_14 (memc m9_5_12 (memc m9_5_13 (memc m9_5_14 (memc m9_31_8 (memc m9_31_9 (memc m9_31_10 (memc m9_31_11 (memc m9_1_17 (memc m9_31_12 (memc m9_18_11 (memc m9_18_12 (memc m9_2_2 (memc m9_18_13 memn)))))))))))))))))))))))
set_option maxRecDepth 20000 in
theorem iw_wsL_seat_r2 : ∀ w ∈ wsL_seat_r2, w ∈ lw_tbl := memc m9_5_22 (memc m9_5_23 (memc m9_6_0 (memc m9_6_1 (memc m9_3_2 (memc m9_6_2 (memc m9_6_3 (memc m9_6_4 (memc m9_6_5 (memc m9_3_4 (memc m9_31_13 (memc m9_18_3 (memc m9_18_4 (memc m9_18_5 (memc m9_18_6 (memc m9_18_7 (memc m9_18_8 (memc m9_18_9 (memc m9_3_3 (memc m9_31_14 (memc m9_31_15 (memc m9_31_16 (memc m9_31_17 (memc m9_30_7 memn)))))))))))))))))))))))
set_option maxRecDepth 20000 in
theorem iw_wsL_seat_r3 : ∀ w ∈ wsL_seat_r3, w ∈ lw_tbl := memc m9_30_8 (memc m9_30_9 (memc m9_11_20 (memc m9_11_21 (memc m9_31_18 (memc m9_31_19 (memc m9_31_20 (memc m9_31_21 (memc m9_31_22 (memc m9_31_23 (memc m9_32_0 (memc m9_32_1 (memc m9_32_2 memn))))))))))))
set_option maxRecDepth 20000 in
theorem iw_wsL_seat : ∀ w ∈ wsL_seat, w ∈ lw_tbl := memc m9_31_3 (sub_a (sub_a (sub_a (sub_a (sub_a (iw_wsL_seat_r1) (sub_a (iw_wsL_seat_r2) (iw_wsL_seat_r3))) (wsL_law_in0_wsX40)) (wsL_law_in0_wsX00)) (wsL_law_x0)) (wsL_law_x2))
set_option maxRecDepth 20000 in
theorem gl_L_seat : GoodIn lw_tbl (va_wsS RL 129 yL_seat wsL_seat) := goodIn_app (goodIn_sub (memc m9_31_1 (memc m9_31_2 (memc m9_5_0 memn))) (by decide +kernel)) (goodIn_sub iw_wsL_seat (by decide +kernel))
set_option maxRecDepth 20000 in
theorem iw_wsX5_seat_r1 : ∀ w ∈ wsX5_seat_r1, w ∈ lw_tbl := memc m9_7_13 (memc m9_7_14 (memc m9_1_5 (memc m9_7_15 (memc m9_7_16 (memc m9_7_17 (memc m9_7_18 (memc m9_8_9 (memc m9_8_10 (memc m9_8_11 (memc m9_8_12 (memc m9_8_13 (memc m9_32_7 (memc m9_32_8 (memc m9_32_9 (memc m9_32_10 (memc m9_21_18 (memc m9_21_19 (memc m9_21_20 (memc m9_21_21 (memc m9_4_8 (memc m9_8_2 (memc m9_8_3 (memc m9_8_4 memn)))))))))))))))))))))))
set_option maxRecDepth 20000 in
theorem iw_wsX5_seat_r2 : ∀ w ∈ wsX5_seat_r2, w ∈ lw_tbl := memc m9_8_5 (memc m9_8_6 (memc m9_8_7 (memc m9_8_8 (memc m9_21_22 (memc m9_21_23 (memc m9_22_0 (memc m9_22_1 (memc m9_30_18 (memc m9_30_19 (memc m9_30_20 (memc m9_30_21 (memc m9_30_22 (memc m9_30_23 (memc m9_31_0 (memc m9_12_2 (memc m9_12_3 (memc m9_12_4 (memc m9_32_11 (memc m9_32_12 (memc m9_32_13 (memc m9_32_14 (memc m9_32_15 (memc m9_32_16 memn)))))))))))))))))))))))
set_option maxRecDepth 20000 in
theorem iw_wsX5_seat_r3 : ∀ w ∈ wsX5_seat_r3, w ∈ lw_tbl := memc m9_32_17 (memc m9_32_18 memn)
set_option maxRecDepth 20000 in
theorem iw_wsX5_seat : ∀ w ∈ wsX5_seat, w ∈ lw_tbl := memc m9_32_6 (sub_a (sub_a (iw_wsX5_seat_r1) (sub_a (iw_wsX5_seat_r2) (iw_wsX5_seat_r3))) (wsL_law_in0_wsX50))
set_option maxRecDepth 20000 in
theorem gl_X5_seat : GoodIn lw_tbl (wsV RL 131 RX5 yX5_seat wsX5_seat) := goodIn_app (goodIn_sub (memc m9_32_3 (memc m9_32_4 (memc m9_32_5 (memc m9_1_5 memn)))) (by decide +kernel)) (goodIn_sub iw_wsX5_seat (by decide +kernel))
set_option maxRecDepth 20000 in
theorem iw_wsL_count_r1 : ∀ w ∈ wsL_count_r1, w ∈ lw_tbl := memc m9_11_8 (memc m9_32_22 (memc m9_32_23 (memc m9_33_0 (memc m9_1_2 (memc m9_33_1 (memc m9_11_13 (memc m9_11_14 (memc m9_33_2 (memc m9_33_3 (memc m9_33_4 (memc m9_33_5 (memc m9_1_17 (memc m9_1_23 (memc m9_6_6 (memc m9_5_23 (memc m9_6_0 (memc m9_2_2 (memc m9_6_1 (memc m9_3_2 (memc m9_33_6 (memc m9_33_7 (memc m9_33_8 (memc m9_33_9 memn)))))))))))))))))))))))
set_option maxRecDepth 20000 in
theorem iw_wsL_count_r2 : ∀ w ∈ wsL_count_r2, w ∈ lw_tbl := memc m9_5_22 (memc m9_6_2 (memc m9_6_3 (memc m9_6_4 (memc m9_6_5 (memc m9_3_4 (memc m9_27_16 (memc m9_27_17 (memc m9_27_18 (memc m9_1_22 (memc m9_27_19 (memc m9_3_16 memn)))))))))))
set_option maxRecDepth 20000 in
theorem iw_wsL_count : ∀ w ∈ wsL_count, w ∈ lw_tbl := memc m9_32_21 (sub_a (sub_a (sub_a (sub_a (sub_a (iw_wsL_count_r1) (iw_wsL_count_r2)) (wsL_law_in0_wsX40)) (wsL_law_in0_wsX00)) (wsL_law_in0_wsX10)) (wsL_law_x2))
set_option maxRecDepth 20000 in
theorem gl_L_count : GoodIn lw_tbl (va_wsS RL 132 yL_count wsL_count) := goodIn_app (goodIn_sub (memc m9_32_19 (memc m9_32_20 (memc m9_5_0 memn))) (by decide +kernel)) (goodIn_sub iw_wsL_count (by decide +kernel))
set_option maxRecDepth 20000 in
theorem iw_wsX5_count_r1 : ∀ w ∈ wsX5_count_r1, w ∈ lw_tbl := memc m9_7_16 (memc m9_7_17 (memc m9_1_5 (memc m9_7_18 (memc m9_8_9 (memc m9_8_10 (memc m9_8_11 (memc m9_8_12 (memc m9_8_13 (memc m9_33_14 (memc m9_33_15 (memc m9_33_16 (memc m9_33_17 (memc m9_4_8 (memc m9_8_18 (memc m9_33_18 (memc m9_33_19 (memc m9_33_20 (memc m9_33_21 (memc m9_8_2 (memc m9_8_3 (memc m9_8_4 (memc m9_8_5 (memc m9_8_6 memn)))))))))))))))))))))))
set_option maxRecDepth 20000 in
theorem iw_wsX5_count_r2 : ∀ w ∈ wsX5_count_r2, w ∈ lw_tbl := memc m9_8_7 (memc m9_8_8 memn)
set_option maxRecDepth 20000 in
theorem iw_wsX5_count : ∀ w ∈ wsX5_count, w ∈ lw_tbl := memc m9_33_13 (sub_a (sub_a (iw_wsX5_count_r1) (iw_wsX5_count_r2)) (wsL_law_in0_wsX50))
set_option maxRecDepth 20000 in
theorem gl_X5_count : GoodIn lw_tbl (wsV RL 134 RX5 yX5_count wsX5_count) := goodIn_app (goodIn_sub (memc m9_33_10 (memc m9_33_11 (memc m9_33_12 (memc m9_1_5 memn)))) (by decide +kernel)) (goodIn_sub iw_wsX5_count (by decide +kernel))
set_option maxRecDepth 20000 in
theorem iw_wsL_ifOpened_r1 : ∀ w ∈ wsL_ifOpened_r1, w ∈ lw_tbl := memc m9_5_2 (memc m9_11_8 (memc m9_34_1 (memc m9_34_2 (memc m9_34_3 (memc m9_1_2 (memc m9_34_4 (memc m9_5_8 (memc m9_5_9 (memc m9_11_13 (memc m9_11_14 (memc m9_1_17 (memc m9_1_16 (memc m9_9_14 (memc m9_9_15 (memc m9_9_16 (memc m9_2_2 (memc m9_9_17 (memc m9_5_22 (memc m9_5_23 (memc m9_6_0 (memc m9_6_1 (memc m9_3_2 (memc m9_13_0 memn)))))))))))))))))))))))
set_option maxRecDepth 20000 in
theorem iw_wsL_ifOpened_r2 : ∀ w ∈ wsL_ifOpened_r2, w ∈ lw_tbl := memc m9_13_1 (memc m9_13_2 (memc m9_1_15 (memc m9_13_3 (memc m9_13_4 (memc m9_13_5 (memc m9_13_6 (memc m9_13_7 (memc m9_13_8 (memc m9_13_9 (memc m9_13_10 (memc m9_13_11 (memc m9_2_13 (memc m9_2_15 (memc m9_2_16 (memc m9_13_12 (memc m9_13_13 (memc m9_6_3 (memc m9_6_4 (memc m9_6_5 (memc m9_3_4 (memc m9_13_14 (memc m9_13_15 (memc m9_13_16 memn)))))))))))))))))))))))
set_option maxRecDepth 20000 in
theorem iw_wsL_ifOpened_r3 : ∀ w ∈ wsL_ifOpened_r3, w ∈ lw_tbl := memc m9_13_17 (memc m9_13_18 (memc m9_13_19 (memc m9_13_20 (memc m9_13_21 (memc m9_13_22 (memc m9_13_23 (memc m9_14_0 (memc m9_14_1 (memc m9_14_2 (memc m9_5_19 (memc m9_5_20 (memc m9_5_21 (memc m9_6_2 (memc m9_7_7 (memc m9_7_8 (memc m9_14_3 (memc m9_14_4 (memc m9_14_5 (memc m9_14_6 (memc m9_2_17 (memc m9_14_7 (memc m9_14_8 (memc m9_14_9 memn)))))))))))))))))))))))
set_option maxRecDepth 20000 in
theorem iw_wsL_ifOpened_r4 : ∀ w ∈ wsL_ifOpened_r4, w ∈ lw_tbl := memc m9_14_10 (memc m9_14_11 (memc m9_14_12 (memc m9_14_13 (memc m9_14_14 (memc m9_14_15 (memc m9_14_16 (memc m9_2_18 (memc m9_14_17 (memc m9_14_18 (memc m9_14_19 (memc m9_14_20 (memc m9_14_21 (memc m9_14_22 (memc m9_14_23 (memc m9_15_0 (memc m9_15_1 (memc m9_15_2 (memc m9_15_3 (memc m9_15_4 (memc m9_15_5 (memc m9_15_6 (memc m9_15_7 (memc m9_15_8 memn)))))))))))))))))))))))
set_option maxRecDepth 20000 in
theorem iw_wsL_ifOpened_r5 : ∀ w ∈ wsL_ifOpened_r5, w ∈ lw_tbl := memc m9_15_9 (memc m9_15_10 (memc m9_15_11 (memc m9_15_12 (memc m9_15_13 (memc m9_15_14 (memc m9_15_15 (memc m9_15_16 (memc m9_2_19 (memc m9_2_20 (memc m9_2_21 (memc m9_15_17 (memc m9_15_18 (memc m9_15_19 (memc m9_15_20 (memc m9_15_21 (memc m9_15_22 (memc m9_15_23 (memc m9_16_0 (memc m9_16_1 (memc m9_16_2 (memc m9_16_3 (memc m9_16_4 (memc m9_16_5 memn)))))))))))))))))))))))
set_option maxRecDepth 20000 in
theorem iw_wsL_ifOpened_r6 : ∀ w ∈ wsL_ifOpened_r6, w ∈ lw_tbl := memc m9_16_6 (memc m9_16_7 (memc m9_16_8 (memc m9_11_20 (memc m9_11_21 (memc m9_16_9 (memc m9_16_10 (memc m9_16_11 (memc m9_16_12 (memc m9_16_13 (memc m9_16_14 (memc m9_16_15 (memc m9_16_16 (memc m9_34_5 (memc m9_34_6 (memc m9_34_7 (memc m9_34_8 memn))))))))))))))))
set_option maxRecDepth 20000 in
theorem iw_wsL_ifOpened : ∀ w ∈ wsL_ifOpened, w ∈ lw_tbl := memc m9_34_0 (sub_a (sub_a (sub_a (sub_a (sub_a (sub_a (iw_wsL_ifOpened_r1) (sub_a (iw_wsL_ifOpened_r2) (sub_a (iw_wsL_ifOpened_r3) (sub_a (iw_wsL_ifOpened_r4) (sub_a (iw_wsL_ifOpened_r5) (iw_wsL_ifOpened_r6)))))) (wsL_law_in0_wsX40)) (wsL_law_in0_wsX00)) (wsL_law_in0_wsX20)) (wsL_law_x0)) (wsL_law_x2))
set_option maxRecDepth 20000 in
theorem gl_L_ifOpened : GoodIn lw_tbl (va_wsS RL 135 yL_ifOpened wsL_ifOpened) := goodIn_app (goodIn_sub (memc m9_33_22 (memc m9_33_23 (memc m9_5_0 memn))) (by decide +kernel)) (goodIn_sub iw_wsL_ifOpened (by decide +kernel))
set_option maxRecDepth 20000 in
theorem iw_wsX5_ifOpened_r1 : ∀ w ∈ wsX5_ifOpened_r1, w ∈ lw_tbl := memc m9_10_2 (memc m9_10_3 (memc m9_10_4 (memc m9_1_5 (memc m9_10_5 (memc m9_4_8 (memc m9_7_16 (memc m9_7_17 (memc m9_7_18 (memc m9_8_9 (memc m9_8_10 (memc m9_8_11 (memc m9_8_12 (memc m9_8_13 (memc m9_34_13 (memc m9_34_14 (memc m9_34_15 (memc m9_34_16 (memc m9_4_20 (memc m9_4_16 (memc m9_4_18 (memc m9_4_19 (memc m9_4_14 (memc m9_4_15 memn)))))))))))))))))))))))
set_option maxRecDepth 20000 in
theorem iw_wsX5_ifOpened_r2 : ∀ w ∈ wsX5_ifOpened_r2, w ∈ lw_tbl := memc m9_19_10 (memc m9_19_11 (memc m9_19_12 (memc m9_19_13 (memc m9_4_21 (memc m9_19_14 (memc m9_19_15 (memc m9_19_16 (memc m9_19_17 (memc m9_4_17 (memc m9_8_2 (memc m9_8_3 (memc m9_8_4 (memc m9_8_5 (memc m9_8_6 (memc m9_8_7 (memc m9_8_8 (memc m9_19_18 (memc m9_19_19 (memc m9_19_20 (memc m9_19_21 (memc m9_19_22 (memc m9_19_23 (memc m9_20_0 memn)))))))))))))))))))))))
set_option maxRecDepth 20000 in
theorem iw_wsX5_ifOpened_r3 : ∀ w ∈ wsX5_ifOpened_r3, w ∈ lw_tbl := memc m9_20_1 (memc m9_20_2 (memc m9_20_3 (memc m9_20_4 (memc m9_20_5 (memc m9_20_6 (memc m9_20_7 (memc m9_20_8 (memc m9_20_9 (memc m9_7_22 (memc m9_7_23 (memc m9_8_0 (memc m9_8_1 (memc m9_20_10 (memc m9_20_11 (memc m9_20_12 (memc m9_20_13 (memc m9_20_14 (memc m9_20_15 (memc m9_20_16 (memc m9_20_17 (memc m9_20_18 (memc m9_20_19 (memc m9_20_20 memn)))))))))))))))))))))))
set_option maxRecDepth 20000 in
theorem iw_wsX5_ifOpened_r4 : ∀ w ∈ wsX5_ifOpened_r4, w ∈ lw_tbl := memc m9_20_21 (memc m9_20_22 (memc m9_20_23 (memc m9_21_0 (memc m9_21_1 (memc m9_21_2 (memc m9_21_3 (memc m9_21_4 (memc m9_21_5 (memc m9_12_2 (memc m9_12_3 (memc m9_12_4 (memc m9_21_6 (memc m9_21_7 (memc m9_21_8 (memc m9_21_9 memn)))))))))))))))
set_option maxRecDepth 20000 in
theorem iw_wsX5_ifOpened : ∀ w ∈ wsX5_ifOpened, w ∈ lw_tbl := memc m9_34_12 (sub_a (sub_a (iw_wsX5_ifOpened_r1) (sub_a (iw_wsX5_ifOpened_r2) (sub_a (iw_wsX5_ifOpened_r3) (iw_wsX5_ifOpened_r4)))) (wsL_law_in0_wsX50))
set_option maxRecDepth 20000 in
theorem gl_X5_ifOpened : GoodIn lw_tbl (wsV RL 137 RX5 yX5_ifOpened wsX5_ifOpened) := goodIn_app (goodIn_sub (memc m9_34_9 (memc m9_34_10 (memc m9_34_11 (memc m9_1_5 memn)))) (by decide +kernel)) (goodIn_sub iw_wsX5_ifOpened (by decide +kernel))
set_option maxRecDepth 20000 in
theorem iw_wsL_canReach_r1 : ∀ w ∈ wsL_canReach_r1, w ∈ lw_tbl := memc m9_5_2 (memc m9_34_20 (memc m9_34_21 (memc m9_34_22 (memc m9_1_2 (memc m9_34_23 (memc m9_5_8 (memc m9_5_9 (memc m9_1_17 (memc m9_9_14 (memc m9_9_15 (memc m9_9_16 (memc m9_2_2 (memc m9_9_17 (memc m9_5_22 (memc m9_5_23 (memc m9_6_0 (memc m9_6_1 (memc m9_3_2 (memc m9_35_0 (memc m9_35_1 (memc m9_35_2 (memc m9_35_3 (memc m9_1_19 memn)))))))))))))))))))))))
set_option maxRecDepth 20000 in
theorem iw_wsL_canReach_r2 : ∀ w ∈ wsL_canReach_r2, w ∈ lw_tbl := memc m9_1_18 (memc m9_28_8 (memc m9_6_16 (memc m9_6_17 (memc m9_6_18 (memc m9_6_19 (memc m9_6_20 (memc m9_6_21 (memc m9_6_22 (memc m9_3_3 (memc m9_3_4 (memc m9_11_15 (memc m9_11_16 (memc m9_11_17 (memc m9_11_18 (memc m9_11_19 (memc m9_6_2 (memc m9_6_3 (memc m9_6_4 (memc m9_6_5 (memc m9_11_20 (memc m9_11_21 (memc m9_10_17 (memc m9_10_18 memn)))))))))))))))))))))))
set_option maxRecDepth 20000 in
theorem iw_wsL_canReach_r3 : ∀ w ∈ wsL_canReach_r3, w ∈ lw_tbl := memc m9_10_19 (memc m9_10_20 (memc m9_7_3 (memc m9_7_4 (memc m9_7_5 (memc m9_7_6 (memc m9_35_4 (memc m9_13_5 (memc m9_13_6 (memc m9_1_15 (memc m9_13_7 (memc m9_13_8 (memc m9_13_9 (memc m9_13_10 (memc m9_13_11 (memc m9_2_13 (memc m9_2_15 (memc m9_2_16 (memc m9_13_12 (memc m9_13_13 (memc m9_13_14 (memc m9_13_15 (memc m9_13_16 (memc m9_13_17 memn)))))))))))))))))))))))
set_option maxRecDepth 20000 in
theorem iw_wsL_canReach_r4 : ∀ w ∈ wsL_canReach_r4, w ∈ lw_tbl := memc m9_13_18 (memc m9_13_19 (memc m9_13_20 (memc m9_13_21 (memc m9_13_22 (memc m9_13_23 (memc m9_14_0 (memc m9_14_1 (memc m9_14_2 (memc m9_5_19 (memc m9_5_20 (memc m9_5_21 (memc m9_7_7 (memc m9_7_8 (memc m9_14_3 (memc m9_14_4 (memc m9_14_5 (memc m9_14_6 (memc m9_2_17 (memc m9_14_7 (memc m9_14_8 (memc m9_14_9 (memc m9_14_10 (memc m9_14_11 memn)))))))))))))))))))))))
set_option maxRecDepth 20000 in
theorem iw_wsL_canReach_r5 : ∀ w ∈ wsL_canReach_r5, w ∈ lw_tbl := memc m9_14_12 (memc m9_14_13 (memc m9_14_14 (memc m9_14_15 (memc m9_14_16 (memc m9_2_18 (memc m9_14_17 (memc m9_14_18 (memc m9_14_19 (memc m9_14_20 (memc m9_14_21 (memc m9_14_22 (memc m9_14_23 (memc m9_15_0 (memc m9_15_1 (memc m9_15_2 (memc m9_15_3 (memc m9_15_4 (memc m9_15_5 (memc m9_15_6 (memc m9_15_7 (memc m9_15_8 (memc m9_15_9 (memc m9_15_10 memn)))))))))))))))))))))))
set_option maxRecDepth 20000 in
theorem iw_wsL_canReach_r6 : ∀ w ∈ wsL_canReach_r6, w ∈ lw_tbl := memc m9_15_11 (memc m9_15_12 (memc m9_35_5 memn))
set_option maxRecDepth 20000 in
theorem iw_wsL_canReach : ∀ w ∈ wsL_canReach, w ∈ lw_tbl := memc m9_34_19 (sub_a (sub_a (sub_a (sub_a (sub_a (iw_wsL_canReach_r1) (sub_a (iw_wsL_canReach_r2) (sub_a (iw_wsL_canReach_r3) (sub_a (iw_wsL_canReach_r4) (sub_a (iw_wsL_canReach_r5) (iw_wsL_canReach_r6)))))) (wsL_law_in0_wsX40)) (wsL_law_in0_wsX00)) (wsL_law_in0_wsX20)) (wsL_law_x0))
set_option maxRecDepth 20000 in
theorem gl_L_canReach : GoodIn lw_tbl (va_wsS RL 138 yL_canReach wsL_canReach) := goodIn_app (goodIn_sub (memc m9_34_17 (memc m9_34_18 (memc m9_5_0 memn))) (by decide +kernel)) (goodIn_sub iw_wsL_canReach (by decide +kernel))
set_option maxRecDepth 20000 in
theorem iw_wsX5_canReach_r1 : ∀ w ∈ wsX5_canReach_r1, w ∈ lw_tbl := memc m9_10_2 (memc m9_10_3 (memc m9_10_4 (memc m9_1_5 (memc m9_10_5 (memc m9_4_8 (memc m9_7_16 (memc m9_7_17 (memc m9_7_18 (memc m9_8_9 (memc m9_8_10 (memc m9_8_11 (memc m9_8_12 (memc m9_8_13 (memc m9_35_10 (memc m9_35_11 (memc m9_35_12 (memc m9_35_13 (memc m9_4_17 (memc m9_35_14 (memc m9_35_15 (memc m9_35_16 (memc m9_35_17 (memc m9_4_9 memn)))))))))))))))))))))))
set_option maxRecDepth 20000 in
theorem iw_wsX5_canReach_r2 : ∀ w ∈ wsX5_canReach_r2, w ∈ lw_tbl := memc m9_8_2 (memc m9_8_3 (memc m9_8_4 (memc m9_8_5 (memc m9_8_6 (memc m9_8_7 (memc m9_8_8 (memc m9_12_2 (memc m9_12_3 (memc m9_12_4 (memc m9_8_23 (memc m9_9_0 (memc m9_9_1 (memc m9_9_2 (memc m9_19_10 (memc m9_19_11 (memc m9_19_12 (memc m9_19_13 (memc m9_4_20 (memc m9_4_19 (memc m9_4_21 (memc m9_19_14 (memc m9_19_15 (memc m9_19_16 memn)))))))))))))))))))))))
set_option maxRecDepth 20000 in
theorem iw_wsX5_canReach_r3 : ∀ w ∈ wsX5_canReach_r3, w ∈ lw_tbl := memc m9_19_17 (memc m9_4_15 (memc m9_4_14 (memc m9_4_16 (memc m9_4_18 (memc m9_19_18 (memc m9_19_19 (memc m9_19_20 (memc m9_19_21 (memc m9_19_22 (memc m9_19_23 (memc m9_20_0 (memc m9_20_1 (memc m9_20_2 (memc m9_20_3 (memc m9_20_4 (memc m9_20_5 (memc m9_20_6 (memc m9_20_7 (memc m9_20_8 (memc m9_20_9 (memc m9_7_22 (memc m9_7_23 (memc m9_8_0 memn)))))))))))))))))))))))
set_option maxRecDepth 20000 in
theorem iw_wsX5_canReach_r4 : ∀ w ∈ wsX5_canReach_r4, w ∈ lw_tbl := memc m9_8_1 (memc m9_20_10 (memc m9_20_11 (memc m9_20_12 (memc m9_20_13 (memc m9_20_14 (memc m9_20_15 (memc m9_20_16 (memc m9_20_17 (memc m9_20_18 (memc m9_20_19 (memc m9_20_20 (memc m9_20_21 (memc m9_20_22 (memc m9_20_23 (memc m9_21_0 (memc m9_21_1 (memc m9_21_2 (memc m9_21_3 (memc m9_21_4 (memc m9_21_5 (memc m9_21_6 (memc m9_21_7 (memc m9_21_8 memn)))))))))))))))))))))))
set_option maxRecDepth 20000 in
theorem iw_wsX5_canReach_r5 : ∀ w ∈ wsX5_canReach_r5, w ∈ lw_tbl := memc m9_21_9 (memc m9_35_18 (memc m9_35_19 (memc m9_35_20 (memc m9_35_21 memn))))
set_option maxRecDepth 20000 in
theorem iw_wsX5_canReach : ∀ w ∈ wsX5_canReach, w ∈ lw_tbl := memc m9_35_9 (sub_a (sub_a (iw_wsX5_canReach_r1) (sub_a (iw_wsX5_canReach_r2) (sub_a (iw_wsX5_canReach_r3) (sub_a (iw_wsX5_canReach_r4) (iw_wsX5_canReach_r5))))) (wsL_law_in0_wsX50))
set_option maxRecDepth 20000 in
theorem gl_X5_canReach : GoodIn lw_tbl (wsV RL 140 RX5 yX5_canReach wsX5_canReach) := goodIn_app (goodIn_sub (memc m9_35_6 (memc m9_35_7 (memc m9_35_8 (memc m9_1_5 memn)))) (by decide +kernel)) (goodIn_sub iw_wsX5_canReach (by decide +kernel))
set_option maxRecDepth 20000 in
theorem iw_wsX4_danger_r1 : ∀ w ∈ wsX4_danger_r1, w ∈ lw_tbl := memc m9_1_16 (memc m9_13_0 (memc m9_13_1 (memc m9_13_2 (memc m9_1_15 (memc m9_13_3 (memc m9_13_4 (memc m9_13_5 (memc m9_13_6 (memc m9_13_7 (memc m9_13_8 (memc m9_13_9 (memc m9_13_10 (memc m9_13_11 (memc m9_2_13 (memc m9_2_15 (memc m9_2_16 (memc m9_13_12 (memc m9_5_23 (memc m9_6_0 (memc m9_2_2 (memc m9_6_1 (memc m9_3_2 (memc m9_13_13 memn)))))))))))))))))))))))
set_option maxRecDepth 20000 in
theorem iw_wsX4_danger_r2 : ∀ w ∈ wsX4_danger_r2, w ∈ lw_tbl := memc m9_6_3 (memc m9_6_4 (memc m9_6_5 (memc m9_3_4 (memc m9_13_14 (memc m9_13_15 (memc m9_13_16 (memc m9_13_17 (memc m9_13_18 (memc m9_13_19 (memc m9_13_20 (memc m9_13_21 (memc m9_13_22 (memc m9_13_23 (memc m9_14_0 (memc m9_14_1 (memc m9_14_2 (memc m9_5_19 (memc m9_5_20 (memc m9_5_21 (memc m9_5_22 (memc m9_6_2 (memc m9_7_7 (memc m9_1_2 memn)))))))))))))))))))))))
set_option maxRecDepth 20000 in
theorem iw_wsX4_danger_r3 : ∀ w ∈ wsX4_danger_r3, w ∈ lw_tbl := memc m9_7_8 (memc m9_14_3 (memc m9_14_4 (memc m9_14_5 (memc m9_14_6 (memc m9_2_17 (memc m9_14_7 (memc m9_14_8 (memc m9_14_9 (memc m9_14_10 (memc m9_14_11 (memc m9_14_12 (memc m9_14_13 (memc m9_14_14 (memc m9_14_15 (memc m9_14_16 (memc m9_2_18 (memc m9_14_17 (memc m9_14_18 (memc m9_14_19 (memc m9_14_20 (memc m9_14_21 (memc m9_14_22 (memc m9_14_23 memn)))))))))))))))))))))))
set_option maxRecDepth 20000 in
theorem iw_wsX4_danger_r4 : ∀ w ∈ wsX4_danger_r4, w ∈ lw_tbl := memc m9_15_0 (memc m9_15_1 (memc m9_15_2 (memc m9_15_3 (memc m9_15_4 (memc m9_15_5 (memc m9_15_6 (memc m9_15_7 (memc m9_15_8 (memc m9_15_9 (memc m9_15_10 (memc m9_15_11 (memc m9_15_12 (memc m9_15_13 (memc m9_15_14 (memc m9_15_15 (memc m9_15_16 (memc m9_2_19 (memc m9_2_20 (memc m9_2_21 (memc m9_15_17 (memc m9_15_18 (memc m9_15_19 (memc m9_15_20 memn)))))))))))))))))))))))
set_option maxRecDepth 20000 in
theorem iw_wsX4_danger_r5 : ∀ w ∈ wsX4_danger_r5, w ∈ lw_tbl := memc m9_15_21 (memc m9_15_22 (memc m9_15_23 (memc m9_16_0 (memc m9_16_1 (memc m9_16_2 (memc m9_16_3 (memc m9_16_4 (memc m9_16_5 (memc m9_16_6 (memc m9_16_7 (memc m9_16_8 (memc m9_11_20 (memc m9_11_21 (memc m9_16_9 (memc m9_16_10 (memc m9_16_11 (memc m9_16_12 (memc m9_16_13 (memc m9_16_14 (memc m9_16_15 (memc m9_16_16 (memc m9_36_2 (memc m9_36_3 memn)))))))))))))))))))))))
set_option maxRecDepth 20000 in
theorem iw_wsX4_danger_r6 : ∀ w ∈ wsX4_danger_r6, w ∈ lw_tbl := memc m9_36_4 (memc m9_36_5 memn)
set_option maxRecDepth 20000 in
theorem iw_wsX4_danger : ∀ w ∈ wsX4_danger, w ∈ lw_tbl := memc m9_36_1 (sub_a (sub_a (sub_a (sub_a (iw_wsX4_danger_r1) (sub_a (iw_wsX4_danger_r2) (sub_a (iw_wsX4_danger_r3) (sub_a (iw_wsX4_danger_r4) (sub_a (iw_wsX4_danger_r5) (iw_wsX4_danger_r6)))))) (wsL_law_in0_wsX40)) (wsL_law_in0_wsX20)) (wsL_law_in0_wsX00))
set_option maxRecDepth 20000 in
theorem gl_X4_danger : GoodIn lw_tbl (wsV RL 141 RX4 yX4_danger wsX4_danger) := goodIn_app (goodIn_sub (memc m9_35_22 (memc m9_35_23 (memc m9_36_0 (memc m9_1_2 memn)))) (by decide +kernel)) (goodIn_sub iw_wsX4_danger (by decide +kernel))
set_option maxRecDepth 20000 in
theorem iw_wsX5_danger_r1 : ∀ w ∈ wsX5_danger_r1, w ∈ lw_tbl := memc m9_8_13 (memc m9_36_10 (memc m9_36_11 (memc m9_36_12 (memc m9_1_5 (memc m9_36_13 (memc m9_4_8 (memc m9_4_19 (memc m9_4_16 (memc m9_19_10 (memc m9_19_11 (memc m9_19_12 (memc m9_19_13 (memc m9_4_20 (memc m9_4_21 (memc m9_19_14 (memc m9_19_15 (memc m9_19_16 (memc m9_19_17 (memc m9_4_15 (memc m9_4_14 (memc m9_4_17 (memc m9_4_18 (memc m9_8_2 memn)))))))))))))))))))))))
set_option maxRecDepth 20000 in
theorem iw_wsX5_danger_r2 : ∀ w ∈ wsX5_danger_r2, w ∈ lw_tbl := memc m9_8_3 (memc m9_8_4 (memc m9_8_5 (memc m9_8_6 (memc m9_8_7 (memc m9_8_8 (memc m9_19_18 (memc m9_19_19 (memc m9_19_20 (memc m9_19_21 (memc m9_19_22 (memc m9_19_23 (memc m9_20_0 (memc m9_20_1 (memc m9_20_2 (memc m9_20_3 (memc m9_20_4 (memc m9_20_5 (memc m9_20_6 (memc m9_20_7 (memc m9_20_8 (memc m9_20_9 (memc m9_7_22 (memc m9_7_23 memn)))))))))))))))))))))))
set_option maxRecDepth 20000 in
theorem iw_wsX5_danger_r3 : ∀ w ∈ wsX5_danger_r3, w ∈ lw_tbl := memc m9_8_0 (memc m9_8_1 (memc m9_20_10 (memc m9_20_11 (memc m9_20_12 (memc m9_20_13 (memc m9_20_14 (memc m9_20_15 (memc m9_20_16 (memc m9_20_17 (memc m9_20_18 (memc m9_20_19 (memc m9_20_20 (memc m9_20_21 (memc m9_20_22 (memc m9_20_23 (memc m9_21_0 (memc m9_21_1 (memc m9_21_2 (memc m9_21_3 (memc m9_21_4 (memc m9_21_5 (memc m9_12_2 (memc m9_12_3 memn)))))))))))))))))))))))
set_option maxRecDepth 20000 in
theorem iw_wsX5_danger_r4 : ∀ w ∈ wsX5_danger_r4, w ∈ lw_tbl := memc m9_12_4 (memc m9_21_6 (memc m9_21_7 (memc m9_21_8 (memc m9_21_9 memn))))
set_option maxRecDepth 20000 in
theorem iw_wsX5_danger : ∀ w ∈ wsX5_danger, w ∈ lw_tbl := memc m9_36_9 (sub_a (sub_a (iw_wsX5_danger_r1) (sub_a (iw_wsX5_danger_r2) (sub_a (iw_wsX5_danger_r3) (iw_wsX5_danger_r4)))) (wsL_law_in0_wsX50))
set_option maxRecDepth 20000 in
theorem gl_X5_danger : GoodIn lw_tbl (wsV RL 144 RX5 yX5_danger wsX5_danger) := goodIn_app (goodIn_sub (memc m9_36_6 (memc m9_36_7 (memc m9_36_8 (memc m9_1_5 memn)))) (by decide +kernel)) (goodIn_sub iw_wsX5_danger (by decide +kernel))
set_option maxRecDepth 20000 in
theorem iw_wsL_ifYear_r1 : ∀ w ∈ wsL_ifYear_r1, w ∈ lw_tbl := memc m9_5_2 (memc m9_36_17 (memc m9_36_18 (memc m9_36_19 (memc m9_1_2 (memc m9_36_20 (memc m9_5_8 (memc m9_5_9 (memc m9_1_16 (memc m9_5_12 (memc m9_5_13 (memc m9_5_14 (memc m9_13_0 (memc m9_13_1 (memc m9_13_2 (memc m9_1_15 (memc m9_13_3 (memc m9_13_4 (memc m9_13_5 (memc m9_13_6 (memc m9_13_7 (memc m9_13_8 (memc m9_13_9 (memc m9_13_10 memn)))))))))))))))))))))))
set_option maxRecDepth 20000 in
theorem iw_wsL_ifYear_r2 : ∀ w ∈ wsL_ifYear_r2, w ∈ lw_tbl := memc m9_13_11 (memc m9_2_13 (memc m9_2_15 (memc m9_2_16 (memc m9_13_12 (memc m9_5_23 (memc m9_6_0 (memc m9_2_2 (memc m9_6_1 (memc m9_3_2 (memc m9_13_13 (memc m9_6_3 (memc m9_6_4 (memc m9_6_5 (memc m9_3_4 (memc m9_13_14 (memc m9_13_15 (memc m9_13_16 (memc m9_13_17 (memc m9_13_18 (memc m9_13_19 (memc m9_13_20 (memc m9_13_21 (memc m9_13_22 memn)))))))))))))))))))))))
set_option maxRecDepth 20000 in
theorem iw_wsL_ifYear_r3 : ∀ w ∈ wsL_ifYear_r3, w ∈ lw_tbl := memc m9_13_23 (memc m9_14_0 (memc m9_14_1 (memc m9_14_2 (memc m9_5_19 (memc m9_5_20 (memc m9_5_21 (memc m9_5_22 (memc m9_6_2 (memc m9_7_7 (memc m9_7_8 (memc m9_14_3 (memc m9_14_4 (memc m9_14_5 (memc m9_14_6 (memc m9_2_17 (memc m9_14_7 (memc m9_14_8 (memc m9_14_9 (memc m9_14_10 (memc m9_14_11 (memc m9_14_12 (memc m9_14_13 (memc m9_14_14 memn)))))))))))))))))))))))
set_option maxRecDepth 20000 in
theorem iw_wsL_ifYear_r4 : ∀ w ∈ wsL_ifYear_r4, w ∈ lw_tbl := memc m9_14_15 (memc m9_14_16 (memc m9_2_18 (memc m9_14_17 (memc m9_14_18 (memc m9_14_19 (memc m9_14_20 (memc m9_14_21 (memc m9_14_22 (memc m9_14_23 (memc m9_15_0 (memc m9_15_1 (memc m9_15_2 (memc m9_15_3 (memc m9_15_4 (memc m9_15_5 (memc m9_15_6 (memc m9_15_7 (memc m9_15_8 (memc m9_15_9 (memc m9_15_10 (memc m9_15_11 (memc m9_15_12 (memc m9_15_13 memn)))))))))))))))))))))))
set_option maxRecDepth 20000 in
theorem iw_wsL_ifYear_r5 : ∀ w ∈ wsL_ifYear_r5, w ∈ lw_tbl := memc m9_15_14 (memc m9_15_15 (memc m9_15_16 (memc m9_2_19 (memc m9_2_20 (memc m9_2_21 (memc m9_15_17 (memc m9_15_18 (memc m9_15_19 (memc m9_15_20 (memc m9_15_21 (memc m9_15_22 (memc m9_15_23 (memc m9_16_0 (memc m9_16_1 (memc m9_16_2 (memc m9_16_3 (memc m9_16_4 (memc m9_16_5 (memc m9_16_6 (memc m9_16_7 (memc m9_16_8 (memc m9_11_20 (memc m9_11_21 memn)))))))))))))))))))))))
set_option maxRecDepth 20000 in
theorem iw_wsL_ifYear_r6 : ∀ w ∈ wsL_ifYear_r6, w ∈ lw_tbl := memc m9_16_9 (memc m9_16_10 (memc m9_16_11 (memc m9_16_12 (memc m9_16_13 (memc m9_16_14 (memc m9_16_15 (memc m9_16_16 (memc m9_36_21 (memc m9_36_22 (memc m9_36_23 (memc m9_37_0 (memc m9_18_0 (memc m9_18_1 (memc m9_37_1 (memc m9_37_2 (memc m9_37_3 (memc m9_37_4 (memc m9_37_5 (memc m9_18_7 (memc m9_18_8 (memc m9_18_9 (memc m9_3_3 memn))))))))))))))))))))))
set_option maxRecDepth 20000 in
theorem iw_wsL_ifYear : ∀ w ∈ wsL_ifYear, w ∈ lw_tbl := memc m9_36_16 (sub_a (sub_a (sub_a (sub_a (sub_a (iw_wsL_ifYear_r1) (sub_a (iw_wsL_ifYear_r2) (sub_a (iw_wsL_ifYear_r3) (sub_a (iw_wsL_ifYear_r4) (sub_a (iw_wsL_ifYear_r5) (iw_wsL_ifYear_r6)))))) (wsL_law_in0_wsX40)) (wsL_law_in0_wsX20)) (wsL_law_in0_wsX00)) (wsL_law_x0))
set_option maxRecDepth 20000 in
theorem gl_L_ifYear : GoodIn lw_tbl (va_wsS RL 145 yL_ifYear wsL_ifYear) := goodIn_app (goodIn_sub (memc m9_36_14 (memc m9_36_15 (memc m9_5_0 memn))) (by decide +kernel)) (goodIn_sub iw_wsL_ifYear (by decide +kernel))
set_option maxRecDepth 20000 in
theorem iw_wsX5_ifYear_r1 : ∀ w ∈ wsX5_ifYear_r1, w ∈ lw_tbl := memc m9_7_13 (memc m9_7_14 (memc m9_1_5 (memc m9_7_15 (memc m9_7_16 (memc m9_7_17 (memc m9_7_18 (memc m9_8_9 (memc m9_8_10 (memc m9_8_11 (memc m9_8_12 (memc m9_8_13 (memc m9_37_10 (memc m9_37_11 (memc m9_37_12 (memc m9_37_13 (memc m9_35_14 (memc m9_35_15 (memc m9_35_16 (memc m9_35_17 (memc m9_4_9 (memc m9_4_8 (memc m9_19_6 (memc m9_19_7 memn)))))))))))))))))))))))
set_option maxRecDepth 20000 in
theorem iw_wsX5_ifYear_r2 : ∀ w ∈ wsX5_ifYear_r2, w ∈ lw_tbl := memc m9_19_8 (memc m9_19_9 (memc m9_4_17 (memc m9_4_19 (memc m9_4_20 (memc m9_19_10 (memc m9_19_11 (memc m9_19_12 (memc m9_19_13 (memc m9_4_21 (memc m9_19_14 (memc m9_19_15 (memc m9_19_16 (memc m9_19_17 (memc m9_4_15 (memc m9_4_14 (memc m9_4_16 (memc m9_4_18 (memc m9_8_2 (memc m9_8_3 (memc m9_8_4 (memc m9_8_5 (memc m9_8_6 (memc m9_8_7 memn)))))))))))))))))))))))
set_option maxRecDepth 20000 in
theorem iw_wsX5_ifYear_r3 : ∀ w ∈ wsX5_ifYear_r3, w ∈ lw_tbl := memc m9_8_8 (memc m9_19_18 (memc m9_19_19 (memc m9_19_20 (memc m9_19_21 (memc m9_19_22 (memc m9_19_23 (memc m9_20_0 (memc m9_20_1 (memc m9_20_2 (memc m9_20_3 (memc m9_20_4 (memc m9_20_5 (memc m9_20_6 (memc m9_20_7 (memc m9_20_8 (memc m9_20_9 (memc m9_7_22 (memc m9_7_23 (memc m9_8_0 (memc m9_8_1 (memc m9_20_10 (memc m9_20_11 (memc m9_20_12 memn)))))))))))))))))))))))
set_option maxRecDepth 20000 in
theorem iw_wsX5_ifYear_r4 : ∀ w ∈ wsX5_ifYear_r4, w ∈ lw_tbl := memc m9_20_13 (memc m9_20_14 (memc m9_20_15 (memc m9_20_16 (memc m9_20_17 (memc m9_20_18 (memc m9_20_19 (memc m9_20_20 (memc m9_20_21 (memc m9_20_22 (memc m9_20_23 (memc m9_21_0 (memc m9_21_1 (memc m9_21_2 (memc m9_21_3 (memc m9_21_4 (memc m9_21_5 (memc m9_12_2 (memc m9_12_3 (memc m9_12_4 (memc m9_21_6 (memc m9_21_7 (memc m9_21_8 (memc m9_21_9 memn)))))))))))))))))))))))
set_option maxRecDepth 20000 in
theorem iw_wsX5_ifYear_r5 : ∀ w ∈ wsX5_ifYear_r5, w ∈ lw_tbl := memc m9_8_23 (memc m9_9_0 (memc m9_9_1 (memc m9_9_2 (memc m9_10_6 (memc m9_10_7 (memc m9_10_8 (memc m9_10_9 (memc m9_21_14 (memc m9_21_15 (memc m9_21_16 (memc m9_21_17 (memc m9_21_22 (memc m9_21_23 (memc m9_22_0 (memc m9_22_1 (memc m9_35_18 (memc m9_35_19 (memc m9_35_20 (memc m9_35_21 memn)))))))))))))))))))
set_option maxRecDepth 20000 in
theorem iw_wsX5_ifYear : ∀ w ∈ wsX5_ifYear, w ∈ lw_tbl := memc m9_37_9 (sub_a (sub_a (iw_wsX5_ifYear_r1) (sub_a (iw_wsX5_ifYear_r2) (sub_a (iw_wsX5_ifYear_r3) (sub_a (iw_wsX5_ifYear_r4) (iw_wsX5_ifYear_r5))))) (wsL_law_in0_wsX50))
set_option maxRecDepth 20000 in
theorem gl_X5_ifYear : GoodIn lw_tbl (wsV RL 147 RX5 yX5_ifYear wsX5_ifYear) := goodIn_app (goodIn_sub (memc m9_37_6 (memc m9_37_7 (memc m9_37_8 (memc m9_1_5 memn)))) (by decide +kernel)) (goodIn_sub iw_wsX5_ifYear (by decide +kernel))
set_option maxRecDepth 20000 in
theorem iw_wsX4_success : ∀ w ∈ wsX4_success, w ∈ lw_tbl := memc m9_37_17 (sub_a (sub_a (memc m9_37_18 (memc m9_37_19 (memc m9_37_20 (memc m9_1_2 (memc m9_37_21 (memc m9_1_17 (memc m9_6_6 (memc m9_5_23 (memc m9_6_0 (memc m9_2_2 (memc m9_6_1 (memc m9_3_2 memn)))))))))))) (wsL_law_in0_wsX40)) (wsL_law_in0_wsX00))
set_option maxRecDepth 20000 in
theorem gl_X4_success : GoodIn lw_tbl (wsV RL 148 RX4 yX4_success wsX4_success) := goodIn_app (goodIn_sub (memc m9_37_14 (memc m9_37_15 (memc m9_37_16 (memc m9_1_2 memn)))) (by decide +kernel)) (goodIn_sub iw_wsX4_success (by decide +kernel))
set_option maxRecDepth 20000 in
theorem iw_wsX5_success : ∀ w ∈ wsX5_success, w ∈ lw_tbl := memc m9_38_1 (sub_a (memc m9_8_13 (memc m9_38_2 (memc m9_38_3 (memc m9_38_4 (memc m9_1_5 (memc m9_38_5 (memc m9_4_8 memn))))))) (wsL_law_in0_wsX50))
set_option maxRecDepth 20000 in
theorem gl_X5_success : GoodIn lw_tbl (wsV RL 152 RX5 yX5_success wsX5_success) := goodIn_app (goodIn_sub (memc m9_37_22 (memc m9_37_23 (memc m9_38_0 (memc m9_1_5 memn)))) (by decide +kernel)) (goodIn_sub iw_wsX5_success (by decide +kernel))
set_option maxRecDepth 20000 in
theorem iw_wsX4_digest_r1 : ∀ w ∈ wsX4_digest_r1, w ∈ lw_tbl := memc m9_38_10 (memc m9_1_16 (memc m9_2_8 (memc m9_33_2 (memc m9_33_3 (memc m9_33_4 (memc m9_1_2 (memc m9_33_5 (memc m9_1_17 (memc m9_1_23 (memc m9_6_6 (memc m9_5_23 (memc m9_6_0 (memc m9_2_2 (memc m9_6_1 (memc m9_3_2 (memc m9_33_6 (memc m9_33_7 (memc m9_33_8 (memc m9_33_9 (memc m9_5_22 (memc m9_6_2 (memc m9_6_3 (memc m9_6_4 memn)))))))))))))))))))))))
set_option maxRecDepth 20000 in
theorem iw_wsX4_digest_r2 : ∀ w ∈ wsX4_digest_r2, w ∈ lw_tbl := memc m9_6_5 (memc m9_3_4 (memc m9_27_16 (memc m9_27_17 (memc m9_27_18 (memc m9_1_22 (memc m9_27_19 (memc m9_3_16 (memc m9_38_11 (memc m9_38_12 (memc m9_38_13 (memc m9_38_14 (memc m9_13_0 (memc m9_13_1 (memc m9_13_2 (memc m9_1_15 (memc m9_13_3 (memc m9_13_4 (memc m9_13_5 (memc m9_13_6 (memc m9_13_7 (memc m9_13_8 (memc m9_13_9 (memc m9_13_10 memn)))))))))))))))))))))))
set_option maxRecDepth 20000 in
theorem iw_wsX4_digest_r3 : ∀ w ∈ wsX4_digest_r3, w ∈ lw_tbl := memc m9_13_11 (memc m9_2_13 (memc m9_2_15 (memc m9_2_16 (memc m9_13_12 (memc m9_13_13 (memc m9_13_14 (memc m9_13_15 (memc m9_13_16 (memc m9_13_17 (memc m9_13_18 (memc m9_13_19 (memc m9_13_20 (memc m9_13_21 (memc m9_13_22 (memc m9_13_23 (memc m9_14_0 (memc m9_14_1 (memc m9_14_2 (memc m9_5_19 (memc m9_5_20 (memc m9_5_21 (memc m9_7_7 (memc m9_7_8 memn)))))))))))))))))))))))
set_option maxRecDepth 20000 in
theorem iw_wsX4_digest_r4 : ∀ w ∈ wsX4_digest_r4, w ∈ lw_tbl := memc m9_14_3 (memc m9_14_4 (memc m9_14_5 (memc m9_14_6 (memc m9_2_17 (memc m9_14_7 (memc m9_14_8 (memc m9_14_9 (memc m9_14_10 (memc m9_14_11 (memc m9_14_12 (memc m9_14_13 (memc m9_14_14 (memc m9_14_15 (memc m9_14_16 (memc m9_2_18 (memc m9_14_17 (memc m9_14_18 (memc m9_14_19 (memc m9_14_20 (memc m9_14_21 (memc m9_14_22 (memc m9_14_23 (memc m9_15_0 memn)))))))))))))))))))))))
set_option maxRecDepth 20000 in
theorem iw_wsX4_digest_r5 : ∀ w ∈ wsX4_digest_r5, w ∈ lw_tbl := memc m9_15_1 (memc m9_15_2 (memc m9_15_3 (memc m9_15_4 (memc m9_15_5 (memc m9_15_6 (memc m9_15_7 (memc m9_15_8 (memc m9_15_9 (memc m9_15_10 (memc m9_15_11 (memc m9_15_12 (memc m9_15_13 (memc m9_15_14 (memc m9_15_15 (memc m9_15_16 (memc m9_2_19 (memc m9_2_20 (memc m9_2_21 (memc m9_15_17 (memc m9_15_18 (memc m9_15_19 (memc m9_15_20 (memc m9_15_21 memn)))))))))))))))))))))))
set_option maxRecDepth 20000 in
theorem iw_wsX4_digest_r6 : ∀ w ∈ wsX4_digest_r6, w ∈ lw_tbl := memc m9_15_22 (memc m9_15_23 (memc m9_16_0 (memc m9_16_1 (memc m9_16_2 (memc m9_16_3 (memc m9_16_4 (memc m9_16_5 (memc m9_16_6 (memc m9_16_7 (memc m9_16_8 (memc m9_11_20 (memc m9_11_21 (memc m9_16_9 (memc m9_16_10 (memc m9_16_11 (memc m9_16_12 (memc m9_16_13 (memc m9_16_14 (memc m9_16_15 (memc m9_16_16 (memc m9_38_15 (memc m9_38_16 (memc m9_38_17 memn)))))))))))))))))))))))
set_option maxRecDepth 20000 in
theorem iw_wsX4_digest_r7 : ∀ w ∈ wsX4_digest_r7, w ∈ lw_tbl := memc m9_38_18 (memc m9_29_8 (memc m9_34_5 (memc m9_34_6 (memc m9_34_7 (memc m9_34_8 (memc m9_35_0 (memc m9_35_1 (memc m9_35_2 (memc m9_35_3 (memc m9_1_19 (memc m9_1_18 (memc m9_28_8 (memc m9_6_16 (memc m9_6_17 (memc m9_6_18 (memc m9_6_19 (memc m9_6_20 (memc m9_6_21 (memc m9_6_22 (memc m9_3_3 (memc m9_11_15 (memc m9_11_16 (memc m9_11_17 memn)))))))))))))))))))))))
set_option maxRecDepth 20000 in
theorem iw_wsX4_digest_r8 : ∀ w ∈ wsX4_digest_r8, w ∈ lw_tbl := memc m9_11_18 (memc m9_11_19 (memc m9_9_15 (memc m9_9_16 (memc m9_9_17 (memc m9_10_17 (memc m9_10_18 (memc m9_10_19 (memc m9_10_20 (memc m9_7_3 (memc m9_7_4 (memc m9_7_5 (memc m9_7_6 (memc m9_35_4 (memc m9_35_5 (memc m9_38_19 (memc m9_38_20 (memc m9_38_21 (memc m9_38_22 (memc m9_29_20 (memc m9_29_21 (memc m9_29_22 (memc m9_29_23 (memc m9_5_18 memn)))))))))))))))))))))))
set_option maxRecDepth 20000 in
theorem iw_wsX4_digest_r9 : ∀ w ∈ wsX4_digest_r9, w ∈ lw_tbl := memc m9_30_0 (memc m9_18_0 (memc m9_18_1 (memc m9_30_1 (memc m9_18_7 (memc m9_18_8 (memc m9_18_9 (memc m9_30_2 (memc m9_30_3 (memc m9_30_4 (memc m9_30_5 (memc m9_30_6 (memc m9_30_7 (memc m9_30_8 (memc m9_30_9 (memc m9_38_23 (memc m9_39_0 (memc m9_39_1 (memc m9_39_2 (memc m9_31_8 (memc m9_31_9 (memc m9_31_10 (memc m9_31_11 (memc m9_31_12 memn)))))))))))))))))))))))
set_option maxRecDepth 20000 in
theorem iw_wsX4_digest_r10 : ∀ w ∈ wsX4_digest_r10, w ∈ lw_tbl := memc m9_18_11 (memc m9_18_12 (memc m9_18_13 (memc m9_31_13 (memc m9_18_3 (memc m9_18_4 (memc m9_18_5 (memc m9_18_6 (memc m9_31_14 (memc m9_31_15 (memc m9_31_16 (memc m9_31_17 (memc m9_31_18 (memc m9_31_19 (memc m9_31_20 (memc m9_31_21 (memc m9_31_22 (memc m9_31_23 (memc m9_32_0 (memc m9_32_1 (memc m9_32_2 (memc m9_36_21 (memc m9_36_22 (memc m9_36_23 memn)))))))))))))))))))))))
set_option maxRecDepth 20000 in
theorem iw_wsX4_digest_r11 : ∀ w ∈ wsX4_digest_r11, w ∈ lw_tbl := memc m9_37_0 (memc m9_37_1 (memc m9_37_2 (memc m9_37_3 (memc m9_37_4 (memc m9_37_5 (memc m9_36_2 (memc m9_36_3 (memc m9_36_4 (memc m9_36_5 (memc m9_37_18 (memc m9_37_19 (memc m9_37_20 (memc m9_37_21 (memc m9_39_3 (memc m9_39_4 (memc m9_39_5 (memc m9_39_6 (memc m9_39_7 (memc m9_39_8 (memc m9_22_17 (memc m9_22_18 (memc m9_22_19 (memc m9_2_7 memn)))))))))))))))))))))))
set_option maxRecDepth 20000 in
theorem iw_wsX4_digest_r12 : ∀ w ∈ wsX4_digest_r12, w ∈ lw_tbl := memc m9_22_20 (memc m9_3_23 (memc m9_39_9 (memc m9_24_3 (memc m9_24_4 (memc m9_24_5 (memc m9_3_22 memn))))))
set_option maxRecDepth 20000 in
theorem iw_wsX4_digest : ∀ w ∈ wsX4_digest, w ∈ lw_tbl := memc m9_38_9 (sub_a (sub_a (sub_a (sub_a (sub_a (sub_a (iw_wsX4_digest_r1) (sub_a (iw_wsX4_digest_r2) (sub_a (iw_wsX4_digest_r3) (sub_a (iw_wsX4_digest_r4) (sub_a (iw_wsX4_digest_r5) (sub_a (iw_wsX4_digest_r6) (sub_a (iw_wsX4_digest_r7) (sub_a (iw_wsX4_digest_r8) (sub_a (iw_wsX4_digest_r9) (sub_a (iw_wsX4_digest_r10) (sub_a (iw_wsX4_digest_r11) (iw_wsX4_digest_r12)))))))))))) (wsL_law_in0_wsX40)) (wsL_law_in0_wsX00)) (wsL_law_in0_wsX10)) (wsL_law_in0_wsX20)) (wsL_law_in0_wsX30))
set_option maxRecDepth 20000 in
theorem gl_X4_digest : GoodIn lw_tbl (wsV RL 153 RX4 yX4_digest wsX4_digest) := goodIn_app (goodIn_sub (memc m9_38_6 (memc m9_38_7 (memc m9_38_8 (memc m9_1_2 memn)))) (by decide +kernel)) (goodIn_sub iw_wsX4_digest (by decide +kernel))
set_option maxRecDepth 20000 in
theorem iw_wsX5_digest_r1 : ∀ w ∈ wsX5_digest_r1, w ∈ lw_tbl := memc m9_8_13 (memc m9_39_14 (memc m9_39_15 (memc m9_23_5 (memc m9_4_12 (memc m9_33_14 (memc m9_33_15 (memc m9_33_16 (memc m9_1_5 (memc m9_33_17 (memc m9_4_8 (memc m9_8_18 (memc m9_33_18 (memc m9_33_19 (memc m9_33_20 (memc m9_33_21 (memc m9_8_2 (memc m9_8_3 (memc m9_8_4 (memc m9_8_5 (memc m9_8_6 (memc m9_8_7 (memc m9_8_8 (memc m9_39_16 memn)))))))))))))))))))))))
set_option maxRecDepth 20000 in
theorem iw_wsX5_digest_r2 : ∀ w ∈ wsX5_digest_r2, w ∈ lw_tbl := memc m9_39_17 (memc m9_39_18 (memc m9_39_19 (memc m9_39_20 (memc m9_39_21 (memc m9_39_22 (memc m9_39_23 (memc m9_40_0 (memc m9_34_13 (memc m9_34_14 (memc m9_34_15 (memc m9_34_16 (memc m9_4_20 (memc m9_4_16 (memc m9_4_18 (memc m9_4_19 (memc m9_4_14 (memc m9_4_15 (memc m9_19_10 (memc m9_19_11 (memc m9_19_12 (memc m9_19_13 (memc m9_4_21 (memc m9_19_14 memn)))))))))))))))))))))))
set_option maxRecDepth 20000 in
theorem iw_wsX5_digest_r3 : ∀ w ∈ wsX5_digest_r3, w ∈ lw_tbl := memc m9_19_15 (memc m9_19_16 (memc m9_19_17 (memc m9_4_17 (memc m9_19_18 (memc m9_19_19 (memc m9_19_20 (memc m9_19_21 (memc m9_19_22 (memc m9_19_23 (memc m9_20_0 (memc m9_20_1 (memc m9_20_2 (memc m9_20_3 (memc m9_20_4 (memc m9_20_5 (memc m9_20_6 (memc m9_20_7 (memc m9_20_8 (memc m9_20_9 (memc m9_7_22 (memc m9_7_23 (memc m9_8_0 (memc m9_8_1 memn)))))))))))))))))))))))
set_option maxRecDepth 20000 in
theorem iw_wsX5_digest_r4 : ∀ w ∈ wsX5_digest_r4, w ∈ lw_tbl := memc m9_20_10 (memc m9_20_11 (memc m9_20_12 (memc m9_20_13 (memc m9_20_14 (memc m9_20_15 (memc m9_20_16 (memc m9_20_17 (memc m9_20_18 (memc m9_20_19 (memc m9_20_20 (memc m9_20_21 (memc m9_20_22 (memc m9_20_23 (memc m9_21_0 (memc m9_21_1 (memc m9_21_2 (memc m9_21_3 (memc m9_21_4 (memc m9_21_5 (memc m9_12_2 (memc m9_12_3 (memc m9_12_4 (memc m9_21_6 memn)))))))))))))))))))))))
set_option maxRecDepth 20000 in
theorem iw_wsX5_digest_r5 : ∀ w ∈ wsX5_digest_r5, w ∈ lw_tbl := memc m9_21_7 (memc m9_21_8 (memc m9_21_9 (memc m9_35_10 (memc m9_35_11 (memc m9_35_12 (memc m9_35_13 (memc m9_35_14 (memc m9_35_15 (memc m9_35_16 (memc m9_35_17 (memc m9_4_9 (memc m9_8_23 (memc m9_9_0 (memc m9_9_1 (memc m9_9_2 (memc m9_35_18 (memc m9_35_19 (memc m9_35_20 (memc m9_35_21 (memc m9_30_14 (memc m9_30_15 (memc m9_30_16 (memc m9_30_17 memn)))))))))))))))))))))))
set_option maxRecDepth 20000 in
theorem iw_wsX5_digest_r6 : ∀ w ∈ wsX5_digest_r6, w ∈ lw_tbl := memc m9_30_18 (memc m9_30_19 (memc m9_30_20 (memc m9_30_21 (memc m9_30_22 (memc m9_30_23 (memc m9_31_0 (memc m9_32_7 (memc m9_32_8 (memc m9_32_9 (memc m9_32_10 (memc m9_21_18 (memc m9_21_19 (memc m9_21_20 (memc m9_21_21 (memc m9_21_22 (memc m9_21_23 (memc m9_22_0 (memc m9_22_1 (memc m9_32_11 (memc m9_32_12 (memc m9_32_13 (memc m9_32_14 (memc m9_32_15 memn)))))))))))))))))))))))
set_option maxRecDepth 20000 in
theorem iw_wsX5_digest_r7 : ∀ w ∈ wsX5_digest_r7, w ∈ lw_tbl := memc m9_32_16 (memc m9_32_17 (memc m9_32_18 (memc m9_37_10 (memc m9_37_11 (memc m9_37_12 (memc m9_37_13 (memc m9_19_6 (memc m9_19_7 (memc m9_19_8 (memc m9_19_9 (memc m9_10_6 (memc m9_10_7 (memc m9_10_8 (memc m9_10_9 (memc m9_21_14 (memc m9_21_15 (memc m9_21_16 (memc m9_21_17 (memc m9_36_10 (memc m9_36_11 (memc m9_36_12 (memc m9_36_13 (memc m9_38_2 memn)))))))))))))))))))))))
set_option maxRecDepth 20000 in
theorem iw_wsX5_digest_r8 : ∀ w ∈ wsX5_digest_r8, w ∈ lw_tbl := memc m9_38_3 (memc m9_38_4 (memc m9_38_5 (memc m9_40_1 (memc m9_40_2 (memc m9_40_3 (memc m9_40_4 (memc m9_40_5 (memc m9_40_6 (memc m9_40_7 memn)))))))))
set_option maxRecDepth 20000 in
theorem iw_wsX5_digest : ∀ w ∈ wsX5_digest, w ∈ lw_tbl := memc m9_39_13 (sub_a (sub_a (iw_wsX5_digest_r1) (sub_a (iw_wsX5_digest_r2) (sub_a (iw_wsX5_digest_r3) (sub_a (iw_wsX5_digest_r4) (sub_a (iw_wsX5_digest_r5) (sub_a (iw_wsX5_digest_r6) (sub_a (iw_wsX5_digest_r7) (iw_wsX5_digest_r8)))))))) (wsL_law_in0_wsX50))
set_option maxRecDepth 20000 in
theorem gl_X5_digest : GoodIn lw_tbl (wsV RL 157 RX5 yX5_digest wsX5_digest) := goodIn_app (goodIn_sub (memc m9_39_10 (memc m9_39_11 (memc m9_39_12 (memc m9_1_5 memn)))) (by decide +kernel)) (goodIn_sub iw_wsX5_digest (by decide +kernel))
