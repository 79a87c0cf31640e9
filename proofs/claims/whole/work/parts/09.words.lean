abbrev mJ6_bitCount_0f7a4 : Mt := (yJ6_bitCount_0f7a4, cJ6_bitCount_0f7a4, 1, some .int, 0, 0)
abbrev mJ9_max_7cf53 : Mt := (yJ9_max_7cf53, cJ9_max_7cf53, 2, some .int, 0, 0)
abbrev mJ9_min_7cf53 : Mt := (yJ9_min_7cf53, cJ9_min_7cf53, 2, some .int, 0, 0)
abbrev mL_law : Mt := (yL_law, cL_law, 4, some .boolean, 136, 2689)
abbrev mX0_explore : Mt := (yX0_explore, cX0_explore, 5, none, 0, 0)
abbrev mX0_init : Mt := (yX0_init, cX0_init, 1, none, 10, 40)
abbrev mX0_isIn : Mt := (yX0_isIn, cX0_isIn, 2, some .boolean, 0, 0)
abbrev mX0_isJustEnough : Mt := (yX0_isJustEnough, cX0_isJustEnough, 6, some .boolean, 0, 0)
abbrev mX0_keepRow : Mt := (yX0_keepRow, cX0_keepRow, 4, none, 0, 0)
abbrev mX0_search : Mt := (yX0_search, cX0_search, 4, none, 0, 0)
abbrev mX0_tire : Mt := (yX0_tire, cX0_tire, 6, none, 0, 0)
abbrev mX1_addHill : Mt := (yX1_addHill, cX1_addHill, 2, none, 0, 0)
abbrev mX1_addJoin : Mt := (yX1_addJoin, cX1_addJoin, 2, none, 0, 0)
abbrev mX1_addMan : Mt := (yX1_addMan, cX1_addMan, 2, none, 0, 0)
abbrev mX1_empty : Mt := (yX1_empty, cX1_empty, 1, none, 0, 0)
abbrev mX1_forceOf : Mt := (yX1_forceOf, cX1_forceOf, 4, some .int, 0, 0)
abbrev mX1_hasHill : Mt := (yX1_hasHill, cX1_hasHill, 2, some .boolean, 0, 0)
abbrev mX1_hasLedge : Mt := (yX1_hasLedge, cX1_hasLedge, 3, some .boolean, 0, 0)
abbrev mX1_hasMan : Mt := (yX1_hasMan, cX1_hasMan, 2, some .boolean, 0, 0)
abbrev mX1_init : Mt := (yX1_init, cX1_init, 1, none, 8, 31)
abbrev mX1_isOnePlace : Mt := (yX1_isOnePlace, cX1_isOnePlace, 6, some .boolean, 0, 0)
abbrev mX1_rainsOn : Mt := (yX1_rainsOn, cX1_rainsOn, 2, some .boolean, 0, 0)
abbrev mX2_begin : Mt := (yX2_begin, cX2_begin, 3, none, 0, 0)
abbrev mX2_blockersAt : Mt := (yX2_blockersAt, cX2_blockersAt, 7, some .int, 0, 0)
abbrev mX2_canComeUp : Mt := (yX2_canComeUp, cX2_canComeUp, 3, some .boolean, 0, 0)
abbrev mX2_copyFrom : Mt := (yX2_copyFrom, cX2_copyFrom, 2, none, 0, 0)
abbrev mX2_fallDusk : Mt := (yX2_fallDusk, cX2_fallDusk, 5, none, 0, 0)
abbrev mX2_freeSteps : Mt := (yX2_freeSteps, cX2_freeSteps, 5, some .int, 0, 0)
abbrev mX2_hoursLeft : Mt := (yX2_hoursLeft, cX2_hoursLeft, 2, some .int, 0, 0)
abbrev mX2_init : Mt := (yX2_init, cX2_init, 1, none, 5, 34)
abbrev mX2_isOver : Mt := (yX2_isOver, cX2_isOver, 3, some .boolean, 0, 0)
abbrev mX2_menAt : Mt := (yX2_menAt, cX2_menAt, 5, some .int, 0, 0)
abbrev mX2_needOf : Mt := (yX2_needOf, cX2_needOf, 3, some .int, 0, 0)
abbrev mX2_overBits : Mt := (yX2_overBits, cX2_overBits, 4, some .int, 0, 0)
abbrev mX2_passDay : Mt := (yX2_passDay, cX2_passDay, 4, none, 0, 0)
abbrev mX2_passHour : Mt := (yX2_passHour, cX2_passHour, 6, some .int, 0, 0)
abbrev mX2_rest : Mt := (yX2_rest, cX2_rest, 3, none, 0, 0)
abbrev mX2_sizeNow : Mt := (yX2_sizeNow, cX2_sizeNow, 3, some .int, 0, 0)
abbrev mX2_strengthAfter : Mt := (yX2_strengthAfter, cX2_strengthAfter, 5, some .int, 0, 0)
abbrev mX2_strengthAt : Mt := (yX2_strengthAt, cX2_strengthAt, 5, some .int, 0, 0)
abbrev mX2_writeDown : Mt := (yX2_writeDown, cX2_writeDown, 4, none, 0, 0)
abbrev mX2_writtenStep : Mt := (yX2_writtenStep, cX2_writtenStep, 3, some .int, 0, 0)
abbrev mX3_addItem : Mt := (yX3_addItem, cX3_addItem, 3, none, 0, 0)
abbrev mX3_canStand : Mt := (yX3_canStand, cX3_canStand, 2, some .boolean, 0, 0)
abbrev mX3_fits : Mt := (yX3_fits, cX3_fits, 4, some .boolean, 0, 0)
abbrev mX3_fitsJoin : Mt := (yX3_fitsJoin, cX3_fitsJoin, 3, some .boolean, 0, 0)
abbrev mX3_init : Mt := (yX3_init, cX3_init, 2, none, 1, 4)
abbrev mX3_isDigit : Mt := (yX3_isDigit, cX3_isDigit, 1, some .boolean, 0, 0)
abbrev mX3_isSign : Mt := (yX3_isSign, cX3_isSign, 1, some .boolean, 0, 0)
abbrev mX3_isWithin : Mt := (yX3_isWithin, cX3_isWithin, 3, some .boolean, 0, 0)
abbrev mX3_numbersOf : Mt := (yX3_numbersOf, cX3_numbersOf, 1, some .int, 0, 0)
abbrev mX3_readAll : Mt := (yX3_readAll, cX3_readAll, 4, some .int, 0, 0)
abbrev mX3_readItem : Mt := (yX3_readItem, cX3_readItem, 5, some .boolean, 0, 0)
abbrev mX3_take : Mt := (yX3_take, cX3_take, 1, none, 0, 0)
abbrev mX3_takeNumber : Mt := (yX3_takeNumber, cX3_takeNumber, 3, none, 0, 0)
abbrev mX4_agrees : Mt := (yX4_agrees, cX4_agrees, 3, some .boolean, 0, 0)
abbrev mX4_allPush : Mt := (yX4_allPush, cX4_allPush, 3, none, 0, 0)
abbrev mX4_back : Mt := (yX4_back, cX4_back, 2, some .int, 0, 0)
abbrev mX4_blocks : Mt := (yX4_blocks, cX4_blocks, 2, some .int, 0, 0)
abbrev mX4_clear : Mt := (yX4_clear, cX4_clear, 2, some .int, 0, 0)
abbrev mX4_commonDivisor : Mt := (yX4_commonDivisor, cX4_commonDivisor, 7, some .long, 0, 0)
abbrev mX4_count : Mt := (yX4_count, cX4_count, 2, some .int, 0, 0)
abbrev mX4_crew : Mt := (yX4_crew, cX4_crew, 6, some .int, 0, 0)
abbrev mX4_days : Mt := (yX4_days, cX4_days, 3, some .int, 0, 0)
abbrev mX4_evening : Mt := (yX4_evening, cX4_evening, 3, some .int, 0, 0)
abbrev mX4_forget : Mt := (yX4_forget, cX4_forget, 2, some .int, 0, 0)
abbrev mX4_highest : Mt := (yX4_highest, cX4_highest, 4, some .int, 0, 0)
abbrev mX4_hill : Mt := (yX4_hill, cX4_hill, 3, some .int, 0, 0)
abbrev mX4_hills : Mt := (yX4_hills, cX4_hills, 4, some .int, 0, 0)
abbrev mX4_hour : Mt := (yX4_hour, cX4_hour, 2, some .int, 0, 0)
abbrev mX4_init : Mt := (yX4_init, cX4_init, 2, none, 121, 964)
abbrev mX4_isOverBehind : Mt := (yX4_isOverBehind, cX4_isOverBehind, 5, some .boolean, 0, 0)
abbrev mX4_keep : Mt := (yX4_keep, cX4_keep, 2, some .int, 0, 0)
abbrev mX4_little : Mt := (yX4_little, cX4_little, 4, some .int, 0, 0)
abbrev mX4_man : Mt := (yX4_man, cX4_man, 3, some .int, 0, 0)
abbrev mX4_now : Mt := (yX4_now, cX4_now, 2, some .int, 0, 0)
abbrev mX4_odds : Mt := (yX4_odds, cX4_odds, 14, some .long, 0, 0)
abbrev mX4_order : Mt := (yX4_order, cX4_order, 4, some .int, 0, 0)
abbrev mX4_power : Mt := (yX4_power, cX4_power, 5, some .long, 0, 0)
abbrev mX4_rainWeight : Mt := (yX4_rainWeight, cX4_rainWeight, 4, some .long, 0, 0)
abbrev mX4_rate : Mt := (yX4_rate, cX4_rate, 3, some .int, 0, 0)
abbrev mX4_rateAs : Mt := (yX4_rateAs, cX4_rateAs, 4, some .int, 0, 0)
abbrev mX4_remember : Mt := (yX4_remember, cX4_remember, 3, none, 0, 0)
abbrev mX4_saw : Mt := (yX4_saw, cX4_saw, 3, some .int, 0, 0)
abbrev mX4_stone : Mt := (yX4_stone, cX4_stone, 3, some .int, 0, 0)
abbrev mX4_trace : Mt := (yX4_trace, cX4_trace, 1, some .long, 0, 0)
abbrev mX4_type : Mt := (yX4_type, cX4_type, 2, some .int, 0, 0)
abbrev mX4_undo : Mt := (yX4_undo, cX4_undo, 1, some .int, 0, 0)
abbrev mX4_wear : Mt := (yX4_wear, cX4_wear, 4, some .int, 0, 0)
abbrev mX4_written : Mt := (yX4_written, cX4_written, 3, some .int, 0, 0)
abbrev mX5_back : Mt := (yX5_back, cX5_back, 2, some .int, 0, 0)
abbrev mX5_begin : Mt := (yX5_begin, cX5_begin, 2, none, 0, 0)
abbrev mX5_blocks : Mt := (yX5_blocks, cX5_blocks, 2, some .int, 0, 0)
abbrev mX5_blocksIn : Mt := (yX5_blocksIn, cX5_blocksIn, 8, some .int, 0, 0)
abbrev mX5_clear : Mt := (yX5_clear, cX5_clear, 2, some .int, 0, 0)
abbrev mX5_common : Mt := (yX5_common, cX5_common, 10, some .long, 0, 0)
abbrev mX5_copy : Mt := (yX5_copy, cX5_copy, 4, none, 0, 0)
abbrev mX5_count : Mt := (yX5_count, cX5_count, 2, some .int, 0, 0)
abbrev mX5_crew : Mt := (yX5_crew, cX5_crew, 6, some .int, 0, 0)
abbrev mX5_days : Mt := (yX5_days, cX5_days, 3, some .int, 0, 0)
abbrev mX5_dusk : Mt := (yX5_dusk, cX5_dusk, 5, none, 0, 0)
abbrev mX5_evening : Mt := (yX5_evening, cX5_evening, 5, some .int, 0, 0)
abbrev mX5_forget : Mt := (yX5_forget, cX5_forget, 2, some .int, 0, 0)
abbrev mX5_goToDusk : Mt := (yX5_goToDusk, cX5_goToDusk, 4, none, 0, 0)
abbrev mX5_has : Mt := (yX5_has, cX5_has, 2, some .boolean, 0, 0)
abbrev mX5_highest : Mt := (yX5_highest, cX5_highest, 9, some .int, 0, 0)
abbrev mX5_hill : Mt := (yX5_hill, cX5_hill, 3, some .int, 0, 0)
abbrev mX5_hills : Mt := (yX5_hills, cX5_hills, 3, some .int, 0, 0)
abbrev mX5_hollowRate : Mt := (yX5_hollowRate, cX5_hollowRate, 4, some .int, 0, 0)
abbrev mX5_hour : Mt := (yX5_hour, cX5_hour, 2, some .int, 0, 0)
abbrev mX5_in : Mt := (yX5_in, cX5_in, 6, some .boolean, 0, 0)
abbrev mX5_init : Mt := (yX5_init, cX5_init, 1, none, 13, 1676)
abbrev mX5_isCode : Mt := (yX5_isCode, cX5_isCode, 5, some .boolean, 0, 0)
abbrev mX5_isFigure : Mt := (yX5_isFigure, cX5_isFigure, 1, some .boolean, 0, 0)
abbrev mX5_isHill : Mt := (yX5_isHill, cX5_isHill, 2, some .boolean, 0, 0)
abbrev mX5_isMan : Mt := (yX5_isMan, cX5_isMan, 2, some .boolean, 0, 0)
abbrev mX5_isOver : Mt := (yX5_isOver, cX5_isOver, 3, some .boolean, 0, 0)
abbrev mX5_isOverBy : Mt := (yX5_isOverBy, cX5_isOverBy, 5, some .boolean, 0, 0)
abbrev mX5_keep : Mt := (yX5_keep, cX5_keep, 2, some .int, 0, 0)
abbrev mX5_lentRate : Mt := (yX5_lentRate, cX5_lentRate, 2, some .int, 0, 0)
abbrev mX5_little : Mt := (yX5_little, cX5_little, 3, some .int, 0, 0)
abbrev mX5_man : Mt := (yX5_man, cX5_man, 3, some .int, 0, 0)
abbrev mX5_next : Mt := (yX5_next, cX5_next, 3, none, 0, 0)
abbrev mX5_now : Mt := (yX5_now, cX5_now, 2, some .int, 0, 0)
abbrev mX5_odds : Mt := (yX5_odds, cX5_odds, 13, some .long, 0, 0)
abbrev mX5_one : Mt := (yX5_one, cX5_one, 1, some .int, 0, 0)
abbrev mX5_ones : Mt := (yX5_ones, cX5_ones, 3, some .int, 0, 0)
abbrev mX5_order : Mt := (yX5_order, cX5_order, 4, some .int, 0, 0)
abbrev mX5_orderAll : Mt := (yX5_orderAll, cX5_orderAll, 5, none, 0, 0)
abbrev mX5_over : Mt := (yX5_over, cX5_over, 3, some .int, 0, 0)
abbrev mX5_overIn : Mt := (yX5_overIn, cX5_overIn, 4, some .int, 0, 0)
abbrev mX5_push : Mt := (yX5_push, cX5_push, 6, some .int, 0, 0)
abbrev mX5_pushOf : Mt := (yX5_pushOf, cX5_pushOf, 5, some .int, 0, 0)
abbrev mX5_rainsOn : Mt := (yX5_rainsOn, cX5_rainsOn, 2, some .boolean, 0, 0)
abbrev mX5_rate : Mt := (yX5_rate, cX5_rate, 3, some .int, 0, 0)
abbrev mX5_remember : Mt := (yX5_remember, cX5_remember, 2, none, 0, 0)
abbrev mX5_roundRate : Mt := (yX5_roundRate, cX5_roundRate, 2, some .int, 0, 0)
abbrev mX5_saw : Mt := (yX5_saw, cX5_saw, 3, some .int, 0, 0)
abbrev mX5_sizeBy : Mt := (yX5_sizeBy, cX5_sizeBy, 4, some .int, 0, 0)
abbrev mX5_sizeIn : Mt := (yX5_sizeIn, cX5_sizeIn, 3, some .int, 0, 0)
abbrev mX5_splitRate : Mt := (yX5_splitRate, cX5_splitRate, 2, some .int, 0, 0)
abbrev mX5_stepBy : Mt := (yX5_stepBy, cX5_stepBy, 7, some .int, 0, 0)
abbrev mX5_stone : Mt := (yX5_stone, cX5_stone, 3, some .int, 0, 0)
abbrev mX5_stoneRate : Mt := (yX5_stoneRate, cX5_stoneRate, 2, some .int, 0, 0)
abbrev mX5_takeHill : Mt := (yX5_takeHill, cX5_takeHill, 2, none, 0, 0)
abbrev mX5_takeItem : Mt := (yX5_takeItem, cX5_takeItem, 1, none, 0, 0)
abbrev mX5_takeJoin : Mt := (yX5_takeJoin, cX5_takeJoin, 3, none, 0, 0)
abbrev mX5_takeNumber : Mt := (yX5_takeNumber, cX5_takeNumber, 3, some .int, 0, 0)
abbrev mX5_tire : Mt := (yX5_tire, cX5_tire, 6, none, 0, 0)
abbrev mX5_trace : Mt := (yX5_trace, cX5_trace, 1, some .long, 0, 0)
abbrev mX5_type : Mt := (yX5_type, cX5_type, 2, some .int, 0, 0)
abbrev mX5_undo : Mt := (yX5_undo, cX5_undo, 1, some .int, 0, 0)
abbrev mX5_want : Mt := (yX5_want, cX5_want, 2, some .boolean, 0, 0)
abbrev mX5_wear : Mt := (yX5_wear, cX5_wear, 4, some .int, 0, 0)
abbrev mX5_wetRate : Mt := (yX5_wetRate, cX5_wetRate, 2, some .int, 0, 0)
abbrev mX5_written : Mt := (yX5_written, cX5_written, 3, some .int, 0, 0)
theorem tq_0 {w : Cond} (h : w ∈ k2_sels lw_privs) (hg : goodWord w = true) : w ∈ tb := List.mem_filter.mpr ⟨List.mem_append_left _ h, hg⟩
theorem tq_1 {w : Cond} (h : w ∈ tables_1_1) (hg : goodWord w = true) : w ∈ tb := List.mem_filter.mpr ⟨List.mem_append_right _ (List.mem_append_left _ h), hg⟩
theorem tq_2 {w : Cond} (h : w ∈ tables_1_2) (hg : goodWord w = true) : w ∈ tb := List.mem_filter.mpr ⟨List.mem_append_right _ (List.mem_append_right _ (List.mem_append_left _ h)), hg⟩
theorem tq_3 {w : Cond} (h : w ∈ tables_1_3) (hg : goodWord w = true) : w ∈ tb := List.mem_filter.mpr ⟨List.mem_append_right _ (List.mem_append_right _ (List.mem_append_right _ (List.mem_append_left _ h))), hg⟩
theorem tq_4 {w : Cond} (h : w ∈ tables_1_4) (hg : goodWord w = true) : w ∈ tb := List.mem_filter.mpr ⟨List.mem_append_right _ (List.mem_append_right _ (List.mem_append_right _ (List.mem_append_right _ (List.mem_append_left _ h)))), hg⟩
theorem tq_5 {w : Cond} (h : w ∈ tables_1_5) (hg : goodWord w = true) : w ∈ tb := List.mem_filter.mpr ⟨List.mem_append_right _ (List.mem_append_right _ (List.mem_append_right _ (List.mem_append_right _ (List.mem_append_right _ h)))), hg⟩
theorem tw_fieldLink {L : List Cond} (i : Nat) {own : String} {ix : Nat} {ref name desc : String} (h : (match L[i]? with | some (.fieldLink a b c d e) => a == own && b == ix && c == ref && d == name && e == desc | _ => false) = true) : Cond.fieldLink own ix ref name desc ∈ L := by
  split at h
  · rename_i a b c d e he
    simp only [Bool.and_eq_true, beq_iff_eq] at h
    obtain ⟨⟨⟨⟨rfl, rfl⟩, rfl⟩, rfl⟩, rfl⟩ := h
    exact List.mem_of_getElem? he
  · cases h
theorem tw_methodLink {L : List Cond} (i : Nat) {own : String} {ix : Nat} {y : MethodName} (h : (match L[i]? with | some (.methodLink a b c) => a == own && b == ix && decide (c = y) | _ => false) = true) : Cond.methodLink own ix y ∈ L := by
  split at h
  · rename_i a b c he
    simp only [Bool.and_eq_true, beq_iff_eq, decide_eq_true_eq] at h
    obtain ⟨⟨rfl, rfl⟩, rfl⟩ := h
    exact List.mem_of_getElem? he
  · cases h
theorem tw_instanceMethod {L : List Cond} (i : Nat) {y : MethodName} (h : (match L[i]? with | some (.instanceMethod c) => decide (c = y) | _ => false) = true) : Cond.instanceMethod y ∈ L := by
  split at h
  · rename_i c he
    simp only [decide_eq_true_eq] at h
    subst h
    exact List.mem_of_getElem? he
  · cases h
theorem tw_static {L : List Cond} (i : Nat) {y : MethodName} (h : (match L[i]? with | some (.static c) => decide (c = y) | _ => false) = true) : Cond.static y ∈ L := by
  split at h
  · rename_i c he
    simp only [decide_eq_true_eq] at h
    subst h
    exact List.mem_of_getElem? he
  · cases h
theorem tw_selects {L : List Cond} (i : Nat) {C : String} {y z : MethodName} (h : (match L[i]? with | some (.selects a c e) => a == C && decide (c = y) && decide (e = z) | _ => false) = true) : Cond.selects C y z ∈ L := by
  split at h
  · rename_i a c e he
    simp only [Bool.and_eq_true, beq_iff_eq, decide_eq_true_eq] at h
    obtain ⟨⟨rfl, rfl⟩, rfl⟩ := h
    exact List.mem_of_getElem? he
  · cases h
theorem tw_d {L : List Cond} (i : Nat) {w : Cond} (h : L[i]? = some w) : w ∈ L := List.mem_of_getElem? h
theorem an_RX4_32 : Cond.classLink RX4 32 RX2 ∈ tb := (tq_1 (w := Cond.classLink RX4 32 RX2) (tw_d 126 (by decide +kernel)) rfl)
theorem fl_RX4_9 : FL RX4 9 4 0 := ⟨(RX4, TX4, 16), rfl, by decide, (tq_1 (w := Cond.fieldLink RX4 9 "DuskStones" "text" "[C") (tw_fieldLink 207 (by decide +kernel)) rfl), rfl⟩
theorem fl_RX4_18 : FL RX4 18 4 2 := ⟨(RX4, TX4, 16), rfl, by decide, (tq_1 (w := Cond.fieldLink RX4 18 "DuskStones" "reader" "LDuskStones$Reader;") (tw_fieldLink 209 (by decide +kernel)) rfl), rfl⟩
theorem fl_RX4_25 : FL RX4 25 4 3 := ⟨(RX4, TX4, 16), rfl, by decide, (tq_1 (w := Cond.fieldLink RX4 25 "DuskStones" "land" "LDuskStones$Land;") (tw_fieldLink 210 (by decide +kernel)) rfl), rfl⟩
theorem fl_RX4_29 : FL RX4 29 4 4 := ⟨(RX4, TX4, 16), rfl, by decide, (tq_1 (w := Cond.fieldLink RX4 29 "DuskStones" "draft" "LDuskStones$Land;") (tw_fieldLink 211 (by decide +kernel)) rfl), rfl⟩
theorem fl_RX4_35 : FL RX4 35 4 5 := ⟨(RX4, TX4, 16), rfl, by decide, (tq_1 (w := Cond.fieldLink RX4 35 "DuskStones" "present" "LDuskStones$Moment;") (tw_fieldLink 212 (by decide +kernel)) rfl), rfl⟩
theorem fl_RX4_39 : FL RX4 39 4 6 := ⟨(RX4, TX4, 16), rfl, by decide, (tq_1 (w := Cond.fieldLink RX4 39 "DuskStones" "trial" "LDuskStones$Moment;") (tw_fieldLink 213 (by decide +kernel)) rfl), rfl⟩
theorem fl_RX4_42 : FL RX4 42 4 7 := ⟨(RX4, TX4, 16), rfl, by decide, (tq_1 (w := Cond.fieldLink RX4 42 "DuskStones" "past" "[LDuskStones$Moment;") (tw_fieldLink 214 (by decide +kernel)) rfl), rfl⟩
theorem fl_RX4_46 : FL RX4 46 4 9 := ⟨(RX4, TX4, 16), rfl, by decide, (tq_1 (w := Cond.fieldLink RX4 46 "DuskStones" "images" "[LDuskStones$Moment;") (tw_fieldLink 216 (by decide +kernel)) rfl), rfl⟩
theorem fl_RX4_49 : FL RX4 49 4 10 := ⟨(RX4, TX4, 16), rfl, by decide, (tq_1 (w := Cond.fieldLink RX4 49 "DuskStones" "kept" "[Z") (tw_fieldLink 217 (by decide +kernel)) rfl), rfl⟩
theorem fl_RX4_53 : FL RX4 53 4 11 := ⟨(RX4, TX4, 16), rfl, by decide, (tq_1 (w := Cond.fieldLink RX4 53 "DuskStones" "seenHill" "[I") (tw_fieldLink 218 (by decide +kernel)) rfl), rfl⟩
theorem fl_RX4_57 : FL RX4 57 4 12 := ⟨(RX4, TX4, 16), rfl, by decide, (tq_1 (w := Cond.fieldLink RX4 57 "DuskStones" "seenStep" "[I") (tw_fieldLink 219 (by decide +kernel)) rfl), rfl⟩
theorem fl_RX4_63 : FL RX4 63 4 14 := ⟨(RX4, TX4, 16), rfl, by decide, (tq_1 (w := Cond.fieldLink RX4 63 "DuskStones" "climb" "LDuskStones$Climb;") (tw_fieldLink 221 (by decide +kernel)) rfl), rfl⟩
theorem fl_RX4_71 : FL RX4 71 4 1 := ⟨(RX4, TX4, 16), rfl, by decide, (tq_1 (w := Cond.fieldLink RX4 71 "DuskStones" "letters" "I") (tw_fieldLink 208 (by decide +kernel)) rfl), rfl⟩
theorem fl_RX4_79 : FL RX4 79 4 8 := ⟨(RX4, TX4, 16), rfl, by decide, (tq_1 (w := Cond.fieldLink RX4 79 "DuskStones" "pastCount" "I") (tw_fieldLink 215 (by decide +kernel)) rfl), rfl⟩
theorem fl_RX4_82 : FL RX4 82 4 13 := ⟨(RX4, TX4, 16), rfl, by decide, (tq_1 (w := Cond.fieldLink RX4 82 "DuskStones" "seenCount" "I") (tw_fieldLink 220 (by decide +kernel)) rfl), rfl⟩
theorem fl_RX4_89 : FL RX4 89 1 1 := ⟨(RX1, TX1, 15), rfl, by decide, (tq_1 (w := Cond.fieldLink RX4 89 "DuskStones$Land" "high" "[I") (tw_fieldLink 60 (by decide +kernel)) rfl), rfl⟩
theorem fl_RX4_92 : FL RX4 92 1 2 := ⟨(RX1, TX1, 15), rfl, by decide, (tq_1 (w := Cond.fieldLink RX4 92 "DuskStones$Land" "slope" "[I") (tw_fieldLink 62 (by decide +kernel)) rfl), rfl⟩
theorem fl_RX4_95 : FL RX4 95 1 3 := ⟨(RX1, TX1, 15), rfl, by decide, (tq_1 (w := Cond.fieldLink RX4 95 "DuskStones$Land" "ledges" "[I") (tw_fieldLink 65 (by decide +kernel)) rfl), rfl⟩
theorem fl_RX4_98 : FL RX4 98 1 4 := ⟨(RX1, TX1, 15), rfl, by decide, (tq_1 (w := Cond.fieldLink RX4 98 "DuskStones$Land" "size" "[I") (tw_fieldLink 67 (by decide +kernel)) rfl), rfl⟩
theorem fl_RX4_101 : FL RX4 101 2 2 := ⟨(RX2, TX2, 8), rfl, by decide, (tq_1 (w := Cond.fieldLink RX4 101 "DuskStones$Moment" "step" "[I") (tw_fieldLink 137 (by decide +kernel)) rfl), rfl⟩
theorem fl_RX4_108 : FL RX4 108 2 3 := ⟨(RX2, TX2, 8), rfl, by decide, (tq_1 (w := Cond.fieldLink RX4 108 "DuskStones$Moment" "rolled" "[I") (tw_fieldLink 139 (by decide +kernel)) rfl), rfl⟩
theorem fl_RX4_118 : FL RX4 118 1 10 := ⟨(RX1, TX1, 15), rfl, by decide, (tq_1 (w := Cond.fieldLink RX4 118 "DuskStones$Land" "force" "[I") (tw_fieldLink 81 (by decide +kernel)) rfl), rfl⟩
theorem fl_RX4_121 : FL RX4 121 2 4 := ⟨(RX2, TX2, 8), rfl, by decide, (tq_1 (w := Cond.fieldLink RX4 121 "DuskStones$Moment" "strength" "[I") (tw_fieldLink 142 (by decide +kernel)) rfl), rfl⟩
theorem fl_RX4_124 : FL RX4 124 2 5 := ⟨(RX2, TX2, 8), rfl, by decide, (tq_1 (w := Cond.fieldLink RX4 124 "DuskStones$Moment" "order" "[I") (tw_fieldLink 144 (by decide +kernel)) rfl), rfl⟩
theorem fl_RX4_127 : FL RX4 127 2 0 := ⟨(RX2, TX2, 8), rfl, by decide, (tq_1 (w := Cond.fieldLink RX4 127 "DuskStones$Moment" "day" "I") (tw_fieldLink 133 (by decide +kernel)) rfl), rfl⟩
theorem fl_RX4_130 : FL RX4 130 2 1 := ⟨(RX2, TX2, 8), rfl, by decide, (tq_1 (w := Cond.fieldLink RX4 130 "DuskStones$Moment" "hour" "I") (tw_fieldLink 135 (by decide +kernel)) rfl), rfl⟩
theorem fl_RX4_137 : FL RX4 137 2 7 := ⟨(RX2, TX2, 8), rfl, by decide, (tq_1 (w := Cond.fieldLink RX4 137 "DuskStones$Moment" "evenings" "I") (tw_fieldLink 147 (by decide +kernel)) rfl), rfl⟩
theorem fl_RX4_146 : FL RX4 146 1 11 := ⟨(RX1, TX1, 15), rfl, by decide, (tq_1 (w := Cond.fieldLink RX4 146 "DuskStones$Land" "hours" "I") (tw_fieldLink 87 (by decide +kernel)) rfl), rfl⟩
theorem fl_RX4_170 : FL RX4 170 0 3 := ⟨(RX0, TX0, 7), rfl, by decide, (tq_1 (w := Cond.fieldLink RX4 170 "DuskStones$Climb" "best" "I") (tw_fieldLink 179 (by decide +kernel)) rfl), rfl⟩
theorem fl_RX4_173 : FL RX4 173 0 2 := ⟨(RX0, TX0, 7), rfl, by decide, (tq_1 (w := Cond.fieldLink RX4 173 "DuskStones$Climb" "bestRow" "[I") (tw_fieldLink 177 (by decide +kernel)) rfl), rfl⟩
theorem fl_RX4_198 : FL RX4 198 1 9 := ⟨(RX1, TX1, 15), rfl, by decide, (tq_1 (w := Cond.fieldLink RX4 198 "DuskStones$Land" "men" "I") (tw_fieldLink 79 (by decide +kernel)) rfl), rfl⟩
theorem fl_RX4_242 : FL RX4 242 1 0 := ⟨(RX1, TX1, 15), rfl, by decide, (tq_1 (w := Cond.fieldLink RX4 242 "DuskStones$Land" "hills" "I") (tw_fieldLink 57 (by decide +kernel)) rfl), rfl⟩
theorem fl_RX4_245 : FL RX4 245 1 5 := ⟨(RX1, TX1, 15), rfl, by decide, (tq_1 (w := Cond.fieldLink RX4 245 "DuskStones$Land" "joins" "I") (tw_fieldLink 71 (by decide +kernel)) rfl), rfl⟩
theorem fl_RX4_248 : FL RX4 248 1 12 := ⟨(RX1, TX1, 15), rfl, by decide, (tq_1 (w := Cond.fieldLink RX4 248 "DuskStones$Land" "rain" "I") (tw_fieldLink 90 (by decide +kernel)) rfl), rfl⟩
theorem fl_RX4_251 : FL RX4 251 4 15 := ⟨(RX4, TX4, 16), rfl, by decide, (tq_1 (w := Cond.fieldLink RX4 251 "DuskStones" "traceSum" "J") (tw_fieldLink 222 (by decide +kernel)) rfl), rfl⟩
theorem fl_RX0_11 : FL RX0 11 0 0 := ⟨(RX0, TX0, 7), rfl, by decide, (tq_1 (w := Cond.fieldLink RX0 11 "DuskStones$Climb" "strength" "[[I") (tw_fieldLink 174 (by decide +kernel)) rfl), rfl⟩
theorem fl_RX0_16 : FL RX0 16 0 1 := ⟨(RX0, TX0, 7), rfl, by decide, (tq_1 (w := Cond.fieldLink RX0 16 "DuskStones$Climb" "row" "[I") (tw_fieldLink 175 (by decide +kernel)) rfl), rfl⟩
theorem fl_RX0_20 : FL RX0 20 0 2 := ⟨(RX0, TX0, 7), rfl, by decide, (tq_1 (w := Cond.fieldLink RX0 20 "DuskStones$Climb" "bestRow" "[I") (tw_fieldLink 176 (by decide +kernel)) rfl), rfl⟩
theorem fl_RX0_29 : FL RX0 29 0 4 := ⟨(RX0, TX0, 7), rfl, by decide, (tq_1 (w := Cond.fieldLink RX0 29 "DuskStones$Climb" "need" "I") (tw_fieldLink 180 (by decide +kernel)) rfl), rfl⟩
theorem fl_RX0_43 : FL RX0 43 0 5 := ⟨(RX0, TX0, 7), rfl, by decide, (tq_1 (w := Cond.fieldLink RX0 43 "DuskStones$Climb" "hours" "I") (tw_fieldLink 181 (by decide +kernel)) rfl), rfl⟩
theorem fl_RX0_49 : FL RX0 49 0 6 := ⟨(RX0, TX0, 7), rfl, by decide, (tq_1 (w := Cond.fieldLink RX0 49 "DuskStones$Climb" "free" "I") (tw_fieldLink 182 (by decide +kernel)) rfl), rfl⟩
theorem fl_RX0_52 : FL RX0 52 2 4 := ⟨(RX2, TX2, 8), rfl, by decide, (tq_1 (w := Cond.fieldLink RX0 52 "DuskStones$Moment" "strength" "[I") (tw_fieldLink 141 (by decide +kernel)) rfl), rfl⟩
theorem fl_RX0_68 : FL RX0 68 0 3 := ⟨(RX0, TX0, 7), rfl, by decide, (tq_1 (w := Cond.fieldLink RX0 68 "DuskStones$Climb" "best" "I") (tw_fieldLink 178 (by decide +kernel)) rfl), rfl⟩
theorem fl_RX0_71 : FL RX0 71 1 9 := ⟨(RX1, TX1, 15), rfl, by decide, (tq_1 (w := Cond.fieldLink RX0 71 "DuskStones$Land" "men" "I") (tw_fieldLink 76 (by decide +kernel)) rfl), rfl⟩
theorem fl_RX0_90 : FL RX0 90 1 10 := ⟨(RX1, TX1, 15), rfl, by decide, (tq_1 (w := Cond.fieldLink RX0 90 "DuskStones$Land" "force" "[I") (tw_fieldLink 82 (by decide +kernel)) rfl), rfl⟩
theorem fl_RX1_9 : FL RX1 9 1 1 := ⟨(RX1, TX1, 15), rfl, by decide, (tq_1 (w := Cond.fieldLink RX1 9 "DuskStones$Land" "high" "[I") (tw_fieldLink 58 (by decide +kernel)) rfl), rfl⟩
theorem fl_RX1_15 : FL RX1 15 1 2 := ⟨(RX1, TX1, 15), rfl, by decide, (tq_1 (w := Cond.fieldLink RX1 15 "DuskStones$Land" "slope" "[I") (tw_fieldLink 61 (by decide +kernel)) rfl), rfl⟩
theorem fl_RX1_18 : FL RX1 18 1 3 := ⟨(RX1, TX1, 15), rfl, by decide, (tq_1 (w := Cond.fieldLink RX1 18 "DuskStones$Land" "ledges" "[I") (tw_fieldLink 64 (by decide +kernel)) rfl), rfl⟩
theorem fl_RX1_21 : FL RX1 21 1 4 := ⟨(RX1, TX1, 15), rfl, by decide, (tq_1 (w := Cond.fieldLink RX1 21 "DuskStones$Land" "size" "[I") (tw_fieldLink 66 (by decide +kernel)) rfl), rfl⟩
theorem fl_RX1_24 : FL RX1 24 1 6 := ⟨(RX1, TX1, 15), rfl, by decide, (tq_1 (w := Cond.fieldLink RX1 24 "DuskStones$Land" "joinA" "[I") (tw_fieldLink 72 (by decide +kernel)) rfl), rfl⟩
theorem fl_RX1_27 : FL RX1 27 1 7 := ⟨(RX1, TX1, 15), rfl, by decide, (tq_1 (w := Cond.fieldLink RX1 27 "DuskStones$Land" "joinB" "[I") (tw_fieldLink 73 (by decide +kernel)) rfl), rfl⟩
theorem fl_RX1_30 : FL RX1 30 1 8 := ⟨(RX1, TX1, 15), rfl, by decide, (tq_1 (w := Cond.fieldLink RX1 30 "DuskStones$Land" "joinFrom" "[I") (tw_fieldLink 74 (by decide +kernel)) rfl), rfl⟩
theorem fl_RX1_33 : FL RX1 33 1 10 := ⟨(RX1, TX1, 15), rfl, by decide, (tq_1 (w := Cond.fieldLink RX1 33 "DuskStones$Land" "force" "[I") (tw_fieldLink 80 (by decide +kernel)) rfl), rfl⟩
theorem fl_RX1_40 : FL RX1 40 1 0 := ⟨(RX1, TX1, 15), rfl, by decide, (tq_1 (w := Cond.fieldLink RX1 40 "DuskStones$Land" "hills" "I") (tw_fieldLink 54 (by decide +kernel)) rfl), rfl⟩
theorem fl_RX1_43 : FL RX1 43 1 5 := ⟨(RX1, TX1, 15), rfl, by decide, (tq_1 (w := Cond.fieldLink RX1 43 "DuskStones$Land" "joins" "I") (tw_fieldLink 69 (by decide +kernel)) rfl), rfl⟩
theorem fl_RX1_46 : FL RX1 46 1 9 := ⟨(RX1, TX1, 15), rfl, by decide, (tq_1 (w := Cond.fieldLink RX1 46 "DuskStones$Land" "men" "I") (tw_fieldLink 75 (by decide +kernel)) rfl), rfl⟩
theorem fl_RX1_49 : FL RX1 49 1 12 := ⟨(RX1, TX1, 15), rfl, by decide, (tq_1 (w := Cond.fieldLink RX1 49 "DuskStones$Land" "rain" "I") (tw_fieldLink 88 (by decide +kernel)) rfl), rfl⟩
theorem fl_RX2_9 : FL RX2 9 2 2 := ⟨(RX2, TX2, 8), rfl, by decide, (tq_1 (w := Cond.fieldLink RX2 9 "DuskStones$Moment" "step" "[I") (tw_fieldLink 136 (by decide +kernel)) rfl), rfl⟩
theorem fl_RX2_15 : FL RX2 15 2 3 := ⟨(RX2, TX2, 8), rfl, by decide, (tq_1 (w := Cond.fieldLink RX2 15 "DuskStones$Moment" "rolled" "[I") (tw_fieldLink 138 (by decide +kernel)) rfl), rfl⟩
theorem fl_RX2_18 : FL RX2 18 2 4 := ⟨(RX2, TX2, 8), rfl, by decide, (tq_1 (w := Cond.fieldLink RX2 18 "DuskStones$Moment" "strength" "[I") (tw_fieldLink 140 (by decide +kernel)) rfl), rfl⟩
theorem fl_RX2_21 : FL RX2 21 2 5 := ⟨(RX2, TX2, 8), rfl, by decide, (tq_1 (w := Cond.fieldLink RX2 21 "DuskStones$Moment" "order" "[I") (tw_fieldLink 143 (by decide +kernel)) rfl), rfl⟩
theorem fl_RX2_24 : FL RX2 24 2 6 := ⟨(RX2, TX2, 8), rfl, by decide, (tq_1 (w := Cond.fieldLink RX2 24 "DuskStones$Moment" "evening" "[I") (tw_fieldLink 145 (by decide +kernel)) rfl), rfl⟩
theorem fl_RX2_27 : FL RX2 27 2 0 := ⟨(RX2, TX2, 8), rfl, by decide, (tq_1 (w := Cond.fieldLink RX2 27 "DuskStones$Moment" "day" "I") (tw_fieldLink 132 (by decide +kernel)) rfl), rfl⟩
theorem fl_RX2_31 : FL RX2 31 2 1 := ⟨(RX2, TX2, 8), rfl, by decide, (tq_1 (w := Cond.fieldLink RX2 31 "DuskStones$Moment" "hour" "I") (tw_fieldLink 134 (by decide +kernel)) rfl), rfl⟩
theorem fl_RX2_34 : FL RX2 34 2 7 := ⟨(RX2, TX2, 8), rfl, by decide, (tq_1 (w := Cond.fieldLink RX2 34 "DuskStones$Moment" "evenings" "I") (tw_fieldLink 146 (by decide +kernel)) rfl), rfl⟩
theorem fl_RX2_47 : FL RX2 47 1 1 := ⟨(RX1, TX1, 15), rfl, by decide, (tq_1 (w := Cond.fieldLink RX2 47 "DuskStones$Land" "high" "[I") (tw_fieldLink 59 (by decide +kernel)) rfl), rfl⟩
theorem fl_RX2_52 : FL RX2 52 1 0 := ⟨(RX1, TX1, 15), rfl, by decide, (tq_1 (w := Cond.fieldLink RX2 52 "DuskStones$Land" "hills" "I") (tw_fieldLink 56 (by decide +kernel)) rfl), rfl⟩
theorem fl_RX2_59 : FL RX2 59 1 4 := ⟨(RX1, TX1, 15), rfl, by decide, (tq_1 (w := Cond.fieldLink RX2 59 "DuskStones$Land" "size" "[I") (tw_fieldLink 68 (by decide +kernel)) rfl), rfl⟩
theorem fl_RX2_72 : FL RX2 72 1 2 := ⟨(RX1, TX1, 15), rfl, by decide, (tq_1 (w := Cond.fieldLink RX2 72 "DuskStones$Land" "slope" "[I") (tw_fieldLink 63 (by decide +kernel)) rfl), rfl⟩
theorem fl_RX2_75 : FL RX2 75 1 11 := ⟨(RX1, TX1, 15), rfl, by decide, (tq_1 (w := Cond.fieldLink RX2 75 "DuskStones$Land" "hours" "I") (tw_fieldLink 85 (by decide +kernel)) rfl), rfl⟩
theorem fl_RX2_78 : FL RX2 78 1 9 := ⟨(RX1, TX1, 15), rfl, by decide, (tq_1 (w := Cond.fieldLink RX2 78 "DuskStones$Land" "men" "I") (tw_fieldLink 78 (by decide +kernel)) rfl), rfl⟩
theorem fl_RX2_100 : FL RX2 100 1 10 := ⟨(RX1, TX1, 15), rfl, by decide, (tq_1 (w := Cond.fieldLink RX2 100 "DuskStones$Land" "force" "[I") (tw_fieldLink 83 (by decide +kernel)) rfl), rfl⟩
theorem fl_RX3_11 : FL RX3 11 3 1 := ⟨(RX3, TX3, 7), rfl, by decide, (tq_1 (w := Cond.fieldLink RX3 11 "DuskStones$Reader" "numbers" "[I") (tw_fieldLink 25 (by decide +kernel)) rfl), rfl⟩
theorem fl_RX3_15 : FL RX3 15 3 0 := ⟨(RX3, TX3, 7), rfl, by decide, (tq_1 (w := Cond.fieldLink RX3 15 "DuskStones$Reader" "text" "[C") (tw_fieldLink 24 (by decide +kernel)) rfl), rfl⟩
theorem fl_RX3_25 : FL RX3 25 3 2 := ⟨(RX3, TX3, 7), rfl, by decide, (tq_1 (w := Cond.fieldLink RX3 25 "DuskStones$Reader" "length" "I") (tw_fieldLink 26 (by decide +kernel)) rfl), rfl⟩
theorem fl_RX3_29 : FL RX3 29 3 3 := ⟨(RX3, TX3, 7), rfl, by decide, (tq_1 (w := Cond.fieldLink RX3 29 "DuskStones$Reader" "next" "I") (tw_fieldLink 27 (by decide +kernel)) rfl), rfl⟩
theorem fl_RX3_40 : FL RX3 40 3 5 := ⟨(RX3, TX3, 7), rfl, by decide, (tq_1 (w := Cond.fieldLink RX3 40 "DuskStones$Reader" "token" "I") (tw_fieldLink 29 (by decide +kernel)) rfl), rfl⟩
theorem fl_RX3_47 : FL RX3 47 3 4 := ⟨(RX3, TX3, 7), rfl, by decide, (tq_1 (w := Cond.fieldLink RX3 47 "DuskStones$Reader" "place" "I") (tw_fieldLink 28 (by decide +kernel)) rfl), rfl⟩
theorem fl_RX3_62 : FL RX3 62 3 6 := ⟨(RX3, TX3, 7), rfl, by decide, (tq_1 (w := Cond.fieldLink RX3 62 "DuskStones$Reader" "value" "I") (tw_fieldLink 30 (by decide +kernel)) rfl), rfl⟩
theorem fl_RX3_69 : FL RX3 69 1 0 := ⟨(RX1, TX1, 15), rfl, by decide, (tq_1 (w := Cond.fieldLink RX3 69 "DuskStones$Land" "hills" "I") (tw_fieldLink 55 (by decide +kernel)) rfl), rfl⟩
theorem fl_RX3_72 : FL RX3 72 1 5 := ⟨(RX1, TX1, 15), rfl, by decide, (tq_1 (w := Cond.fieldLink RX3 72 "DuskStones$Land" "joins" "I") (tw_fieldLink 70 (by decide +kernel)) rfl), rfl⟩
theorem fl_RX3_75 : FL RX3 75 1 9 := ⟨(RX1, TX1, 15), rfl, by decide, (tq_1 (w := Cond.fieldLink RX3 75 "DuskStones$Land" "men" "I") (tw_fieldLink 77 (by decide +kernel)) rfl), rfl⟩
theorem fl_RX3_78 : FL RX3 78 1 13 := ⟨(RX1, TX1, 15), rfl, by decide, (tq_1 (w := Cond.fieldLink RX3 78 "DuskStones$Land" "hoursTold" "Z") (tw_fieldLink 92 (by decide +kernel)) rfl), rfl⟩
theorem fl_RX3_82 : FL RX3 82 1 14 := ⟨(RX1, TX1, 15), rfl, by decide, (tq_1 (w := Cond.fieldLink RX3 82 "DuskStones$Land" "rainTold" "Z") (tw_fieldLink 94 (by decide +kernel)) rfl), rfl⟩
theorem fl_RX5_7 : FL RX5 7 5 0 := ⟨(RX5, TX5, 33), rfl, by decide, (tq_3 (w := Cond.fieldLink RX5 7 "DuskStonesModel" "w" "[I") (tw_fieldLink 136 (by decide +kernel)) rfl), rfl⟩
theorem fl_RX5_13 : FL RX5 13 5 1 := ⟨(RX5, TX5, 33), rfl, by decide, (tq_3 (w := Cond.fieldLink RX5 13 "DuskStonesModel" "isKept" "[Z") (tw_fieldLink 137 (by decide +kernel)) rfl), rfl⟩
theorem fl_RX5_17 : FL RX5 17 5 2 := ⟨(RX5, TX5, 33), rfl, by decide, (tq_3 (w := Cond.fieldLink RX5 17 "DuskStonesModel" "high" "[I") (tw_fieldLink 138 (by decide +kernel)) rfl), rfl⟩
theorem fl_RX5_20 : FL RX5 20 5 3 := ⟨(RX5, TX5, 33), rfl, by decide, (tq_3 (w := Cond.fieldLink RX5 20 "DuskStonesModel" "slope" "[I") (tw_fieldLink 139 (by decide +kernel)) rfl), rfl⟩
theorem fl_RX5_23 : FL RX5 23 5 4 := ⟨(RX5, TX5, 33), rfl, by decide, (tq_3 (w := Cond.fieldLink RX5 23 "DuskStonesModel" "ledges" "[I") (tw_fieldLink 140 (by decide +kernel)) rfl), rfl⟩
theorem fl_RX5_26 : FL RX5 26 5 5 := ⟨(RX5, TX5, 33), rfl, by decide, (tq_3 (w := Cond.fieldLink RX5 26 "DuskStonesModel" "size" "[I") (tw_fieldLink 141 (by decide +kernel)) rfl), rfl⟩
theorem fl_RX5_29 : FL RX5 29 5 6 := ⟨(RX5, TX5, 33), rfl, by decide, (tq_3 (w := Cond.fieldLink RX5 29 "DuskStonesModel" "joinOne" "[I") (tw_fieldLink 142 (by decide +kernel)) rfl), rfl⟩
theorem fl_RX5_32 : FL RX5 32 5 7 := ⟨(RX5, TX5, 33), rfl, by decide, (tq_3 (w := Cond.fieldLink RX5 32 "DuskStonesModel" "joinTwo" "[I") (tw_fieldLink 143 (by decide +kernel)) rfl), rfl⟩
theorem fl_RX5_35 : FL RX5 35 5 8 := ⟨(RX5, TX5, 33), rfl, by decide, (tq_3 (w := Cond.fieldLink RX5 35 "DuskStonesModel" "joinFrom" "[I") (tw_fieldLink 144 (by decide +kernel)) rfl), rfl⟩
theorem fl_RX5_38 : FL RX5 38 5 9 := ⟨(RX5, TX5, 33), rfl, by decide, (tq_3 (w := Cond.fieldLink RX5 38 "DuskStonesModel" "force" "[I") (tw_fieldLink 145 (by decide +kernel)) rfl), rfl⟩
theorem fl_RX5_41 : FL RX5 41 5 21 := ⟨(RX5, TX5, 33), rfl, by decide, (tq_3 (w := Cond.fieldLink RX5 41 "DuskStonesModel" "text" "[I") (tw_fieldLink 157 (by decide +kernel)) rfl), rfl⟩
theorem fl_RX5_44 : FL RX5 44 5 29 := ⟨(RX5, TX5, 33), rfl, by decide, (tq_3 (w := Cond.fieldLink RX5 44 "DuskStonesModel" "sightHill" "[I") (tw_fieldLink 165 (by decide +kernel)) rfl), rfl⟩
theorem fl_RX5_47 : FL RX5 47 5 30 := ⟨(RX5, TX5, 33), rfl, by decide, (tq_3 (w := Cond.fieldLink RX5 47 "DuskStonesModel" "sightStep" "[I") (tw_fieldLink 166 (by decide +kernel)) rfl), rfl⟩
theorem fl_RX5_50 : FL RX5 50 5 13 := ⟨(RX5, TX5, 33), rfl, by decide, (tq_3 (w := Cond.fieldLink RX5 50 "DuskStonesModel" "hours" "I") (tw_fieldLink 149 (by decide +kernel)) rfl), rfl⟩
theorem fl_RX5_63 : FL RX5 63 5 22 := ⟨(RX5, TX5, 33), rfl, by decide, (tq_3 (w := Cond.fieldLink RX5 63 "DuskStonesModel" "textSize" "I") (tw_fieldLink 158 (by decide +kernel)) rfl), rfl⟩
theorem fl_RX5_70 : FL RX5 70 5 23 := ⟨(RX5, TX5, 33), rfl, by decide, (tq_3 (w := Cond.fieldLink RX5 70 "DuskStonesModel" "at" "I") (tw_fieldLink 159 (by decide +kernel)) rfl), rfl⟩
theorem fl_RX5_73 : FL RX5 73 5 24 := ⟨(RX5, TX5, 33), rfl, by decide, (tq_3 (w := Cond.fieldLink RX5 73 "DuskStonesModel" "first" "I") (tw_fieldLink 160 (by decide +kernel)) rfl), rfl⟩
theorem fl_RX5_76 : FL RX5 76 5 25 := ⟨(RX5, TX5, 33), rfl, by decide, (tq_3 (w := Cond.fieldLink RX5 76 "DuskStonesModel" "kind" "I") (tw_fieldLink 161 (by decide +kernel)) rfl), rfl⟩
theorem fl_RX5_83 : FL RX5 83 5 26 := ⟨(RX5, TX5, 33), rfl, by decide, (tq_3 (w := Cond.fieldLink RX5 83 "DuskStonesModel" "number" "I") (tw_fieldLink 162 (by decide +kernel)) rfl), rfl⟩
theorem fl_RX5_86 : FL RX5 86 5 27 := ⟨(RX5, TX5, 33), rfl, by decide, (tq_3 (w := Cond.fieldLink RX5 86 "DuskStonesModel" "faultAt" "I") (tw_fieldLink 163 (by decide +kernel)) rfl), rfl⟩
theorem fl_RX5_96 : FL RX5 96 5 15 := ⟨(RX5, TX5, 33), rfl, by decide, (tq_3 (w := Cond.fieldLink RX5 96 "DuskStonesModel" "newHills" "I") (tw_fieldLink 151 (by decide +kernel)) rfl), rfl⟩
theorem fl_RX5_103 : FL RX5 103 5 16 := ⟨(RX5, TX5, 33), rfl, by decide, (tq_3 (w := Cond.fieldLink RX5 103 "DuskStonesModel" "newJoins" "I") (tw_fieldLink 152 (by decide +kernel)) rfl), rfl⟩
theorem fl_RX5_112 : FL RX5 112 5 17 := ⟨(RX5, TX5, 33), rfl, by decide, (tq_3 (w := Cond.fieldLink RX5 112 "DuskStonesModel" "newMen" "I") (tw_fieldLink 153 (by decide +kernel)) rfl), rfl⟩
theorem fl_RX5_115 : FL RX5 115 5 20 := ⟨(RX5, TX5, 33), rfl, by decide, (tq_3 (w := Cond.fieldLink RX5 115 "DuskStonesModel" "told" "I") (tw_fieldLink 156 (by decide +kernel)) rfl), rfl⟩
theorem fl_RX5_122 : FL RX5 122 5 18 := ⟨(RX5, TX5, 33), rfl, by decide, (tq_3 (w := Cond.fieldLink RX5 122 "DuskStonesModel" "newHours" "I") (tw_fieldLink 154 (by decide +kernel)) rfl), rfl⟩
theorem fl_RX5_125 : FL RX5 125 5 19 := ⟨(RX5, TX5, 33), rfl, by decide, (tq_3 (w := Cond.fieldLink RX5 125 "DuskStonesModel" "newRain" "I") (tw_fieldLink 155 (by decide +kernel)) rfl), rfl⟩
theorem fl_RX5_131 : FL RX5 131 5 10 := ⟨(RX5, TX5, 33), rfl, by decide, (tq_3 (w := Cond.fieldLink RX5 131 "DuskStonesModel" "hills" "I") (tw_fieldLink 146 (by decide +kernel)) rfl), rfl⟩
theorem fl_RX5_134 : FL RX5 134 5 11 := ⟨(RX5, TX5, 33), rfl, by decide, (tq_3 (w := Cond.fieldLink RX5 134 "DuskStonesModel" "joins" "I") (tw_fieldLink 147 (by decide +kernel)) rfl), rfl⟩
theorem fl_RX5_137 : FL RX5 137 5 12 := ⟨(RX5, TX5, 33), rfl, by decide, (tq_3 (w := Cond.fieldLink RX5 137 "DuskStonesModel" "men" "I") (tw_fieldLink 148 (by decide +kernel)) rfl), rfl⟩
theorem fl_RX5_140 : FL RX5 140 5 14 := ⟨(RX5, TX5, 33), rfl, by decide, (tq_3 (w := Cond.fieldLink RX5 140 "DuskStonesModel" "rain" "I") (tw_fieldLink 150 (by decide +kernel)) rfl), rfl⟩
theorem fl_RX5_143 : FL RX5 143 5 31 := ⟨(RX5, TX5, 33), rfl, by decide, (tq_3 (w := Cond.fieldLink RX5 143 "DuskStonesModel" "sightMany" "I") (tw_fieldLink 167 (by decide +kernel)) rfl), rfl⟩
theorem fl_RX5_146 : FL RX5 146 5 28 := ⟨(RX5, TX5, 33), rfl, by decide, (tq_3 (w := Cond.fieldLink RX5 146 "DuskStonesModel" "undoMany" "I") (tw_fieldLink 164 (by decide +kernel)) rfl), rfl⟩
theorem fl_RX5_234 : FL RX5 234 5 32 := ⟨(RX5, TX5, 33), rfl, by decide, (tq_3 (w := Cond.fieldLink RX5 234 "DuskStonesModel" "trace" "J") (tw_fieldLink 168 (by decide +kernel)) rfl), rfl⟩
theorem gs_RX4_255 : Cond.fieldLink RX4 255 "DuskStones" "KIND_TRACE" "[I" ∈ tb := (tq_3 (w := Cond.fieldLink RX4 255 "DuskStones" "KIND_TRACE" "[I") (tw_fieldLink 102 (by decide +kernel)) rfl)
theorem gs_RX4_258 : Cond.fieldLink RX4 258 "DuskStones" "KIND_ABOVE" "[I" ∈ tb := (tq_3 (w := Cond.fieldLink RX4 258 "DuskStones" "KIND_ABOVE" "[I") (tw_fieldLink 104 (by decide +kernel)) rfl)
theorem gs_RX3_85 : Cond.fieldLink RX3 85 "DuskStones$Reader" "HILL_LEAST" "[I" ∈ tb := (tq_2 (w := Cond.fieldLink RX3 85 "DuskStones$Reader" "HILL_LEAST" "[I") (tw_fieldLink 67 (by decide +kernel)) rfl)
theorem gs_RX3_88 : Cond.fieldLink RX3 88 "DuskStones$Reader" "HILL_MOST" "[I" ∈ tb := (tq_2 (w := Cond.fieldLink RX3 88 "DuskStones$Reader" "HILL_MOST" "[I") (tw_fieldLink 69 (by decide +kernel)) rfl)
theorem lk_RX4_1 : Cond.methodLink RX4 1 objectInit ∈ tb ∧ Cond.instanceMethod objectInit ∈ tb ∧ Cond.code objectInit ⟨#[0xb1]⟩ 1 none ∈ tb := ⟨(tq_1 (w := Cond.methodLink RX4 1 objectInit) (tw_methodLink 15 (by decide +kernel)) rfl), (tq_1 (w := Cond.instanceMethod objectInit) (tw_instanceMethod 16 (by decide +kernel)) rfl), (tq_1 (w := Cond.code objectInit ⟨#[0xb1]⟩ 1 none) (tw_d 17 (by decide +kernel)) rfl)⟩
theorem tz_0 : Cond.initialized RX3 ∈ tb := (tq_1 (w := Cond.initialized RX3) (tw_d 2 (by decide +kernel)) rfl)
theorem tz_1 : Cond.code yX3_init cX3_init 2 none ∈ tb := (tq_1 (w := Cond.code yX3_init cX3_init 2 none) (tw_d 22 (by decide +kernel)) rfl)
theorem lk_RX4_15 : LkI RX4 15 mX3_init 1 := ⟨Or.inl (tq_1 (w := Cond.methodLink RX4 15 yX3_init) (tw_methodLink 20 (by decide +kernel)) rfl), (tq_1 (w := Cond.instanceMethod yX3_init) (tw_instanceMethod 21 (by decide +kernel)) rfl), tz_0, tz_1, rfl, rfl, ⟨by decide +kernel, by decide +kernel, by decide +kernel, by decide +kernel⟩, by decide⟩
theorem tz_2 : Cond.initialized RX1 ∈ tb := (tq_1 (w := Cond.initialized RX1) (tw_d 3 (by decide +kernel)) rfl)
theorem tz_3 : Cond.code yX1_init cX1_init 1 none ∈ tb := (tq_1 (w := Cond.code yX1_init cX1_init 1 none) (tw_d 52 (by decide +kernel)) rfl)
theorem lk_RX4_24 : LkI RX4 24 mX1_init 0 := ⟨Or.inr ⟨rfl, by decide⟩, (tq_1 (w := Cond.instanceMethod yX1_init) (tw_instanceMethod 51 (by decide +kernel)) rfl), tz_2, tz_3, rfl, rfl, ⟨by decide +kernel, by decide +kernel, by decide +kernel, by decide +kernel⟩, by decide⟩
theorem tz_4 : Cond.initialized RX2 ∈ tb := (tq_1 (w := Cond.initialized RX2) (tw_d 4 (by decide +kernel)) rfl)
theorem tz_5 : Cond.code yX2_init cX2_init 1 none ∈ tb := (tq_1 (w := Cond.code yX2_init cX2_init 1 none) (tw_d 130 (by decide +kernel)) rfl)
theorem lk_RX4_34 : LkI RX4 34 mX2_init 0 := ⟨Or.inr ⟨rfl, by decide⟩, (tq_1 (w := Cond.instanceMethod yX2_init) (tw_instanceMethod 129 (by decide +kernel)) rfl), tz_4, tz_5, rfl, rfl, ⟨by decide +kernel, by decide +kernel, by decide +kernel, by decide +kernel⟩, by decide⟩
theorem tz_6 : Cond.initialized RX0 ∈ tb := (tq_1 (w := Cond.initialized RX0) (tw_d 5 (by decide +kernel)) rfl)
theorem tz_7 : Cond.code yX0_init cX0_init 1 none ∈ tb := (tq_1 (w := Cond.code yX0_init cX0_init 1 none) (tw_d 170 (by decide +kernel)) rfl)
theorem lk_RX4_62 : LkI RX4 62 mX0_init 0 := ⟨Or.inr ⟨rfl, by decide⟩, (tq_1 (w := Cond.instanceMethod yX0_init) (tw_instanceMethod 169 (by decide +kernel)) rfl), tz_6, tz_7, rfl, rfl, ⟨by decide +kernel, by decide +kernel, by decide +kernel, by decide +kernel⟩, by decide⟩
theorem lk_RX0_3 : Cond.methodLink RX0 3 objectInit ∈ tb ∧ Cond.instanceMethod objectInit ∈ tb ∧ Cond.code objectInit ⟨#[0xb1]⟩ 1 none ∈ tb := ⟨(tq_1 (w := Cond.methodLink RX0 3 objectInit) (tw_methodLink 171 (by decide +kernel)) rfl), (tq_1 (w := Cond.instanceMethod objectInit) (tw_instanceMethod 16 (by decide +kernel)) rfl), (tq_1 (w := Cond.code objectInit ⟨#[0xb1]⟩ 1 none) (tw_d 17 (by decide +kernel)) rfl)⟩
theorem lk_RX1_3 : Cond.methodLink RX1 3 objectInit ∈ tb ∧ Cond.instanceMethod objectInit ∈ tb ∧ Cond.code objectInit ⟨#[0xb1]⟩ 1 none ∈ tb := ⟨(tq_1 (w := Cond.methodLink RX1 3 objectInit) (tw_methodLink 53 (by decide +kernel)) rfl), (tq_1 (w := Cond.instanceMethod objectInit) (tw_instanceMethod 16 (by decide +kernel)) rfl), (tq_1 (w := Cond.code objectInit ⟨#[0xb1]⟩ 1 none) (tw_d 17 (by decide +kernel)) rfl)⟩
theorem lk_RX2_3 : Cond.methodLink RX2 3 objectInit ∈ tb ∧ Cond.instanceMethod objectInit ∈ tb ∧ Cond.code objectInit ⟨#[0xb1]⟩ 1 none ∈ tb := ⟨(tq_1 (w := Cond.methodLink RX2 3 objectInit) (tw_methodLink 131 (by decide +kernel)) rfl), (tq_1 (w := Cond.instanceMethod objectInit) (tw_instanceMethod 16 (by decide +kernel)) rfl), (tq_1 (w := Cond.code objectInit ⟨#[0xb1]⟩ 1 none) (tw_d 17 (by decide +kernel)) rfl)⟩
theorem lk_RX3_3 : Cond.methodLink RX3 3 objectInit ∈ tb ∧ Cond.instanceMethod objectInit ∈ tb ∧ Cond.code objectInit ⟨#[0xb1]⟩ 1 none ∈ tb := ⟨(tq_1 (w := Cond.methodLink RX3 3 objectInit) (tw_methodLink 23 (by decide +kernel)) rfl), (tq_1 (w := Cond.instanceMethod objectInit) (tw_instanceMethod 16 (by decide +kernel)) rfl), (tq_1 (w := Cond.code objectInit ⟨#[0xb1]⟩ 1 none) (tw_d 17 (by decide +kernel)) rfl)⟩
theorem tz_8 : Cond.initialized RX4 ∈ tb := (tq_1 (w := Cond.initialized RX4) (tw_d 1 (by decide +kernel)) rfl)
theorem tz_9 : Cond.code yX4_init cX4_init 2 none ∈ tb := (tq_1 (w := Cond.code yX4_init cX4_init 2 none) (tw_d 14 (by decide +kernel)) rfl)
theorem lk_RL_9 : LkI RL 9 mX4_init 0 := ⟨Or.inl (tq_1 (w := Cond.methodLink RL 9 yX4_init) (tw_methodLink 12 (by decide +kernel)) rfl), (tq_1 (w := Cond.instanceMethod yX4_init) (tw_instanceMethod 13 (by decide +kernel)) rfl), tz_8, tz_9, rfl, rfl, ⟨by decide +kernel, by decide +kernel, by decide +kernel, by decide +kernel⟩, by decide⟩
theorem tz_10 : Cond.initialized RX5 ∈ tb := (tq_1 (w := Cond.initialized RX5) (tw_d 6 (by decide +kernel)) rfl)
theorem tz_11 : Cond.code yX5_init cX5_init 1 none ∈ tb := (tq_3 (w := Cond.code yX5_init cX5_init 1 none) (tw_d 130 (by decide +kernel)) rfl)
theorem lk_RL_12 : LkI RL 12 mX5_init 0 := ⟨Or.inl (tq_3 (w := Cond.methodLink RL 12 yX5_init) (tw_methodLink 128 (by decide +kernel)) rfl), (tq_3 (w := Cond.instanceMethod yX5_init) (tw_instanceMethod 129 (by decide +kernel)) rfl), tz_10, tz_11, rfl, rfl, ⟨by decide +kernel, by decide +kernel, by decide +kernel, by decide +kernel⟩, by decide⟩
theorem lk_RX5_1 : Cond.methodLink RX5 1 objectInit ∈ tb ∧ Cond.instanceMethod objectInit ∈ tb ∧ Cond.code objectInit ⟨#[0xb1]⟩ 1 none ∈ tb := ⟨(tq_3 (w := Cond.methodLink RX5 1 objectInit) (tw_methodLink 131 (by decide +kernel)) rfl), (tq_1 (w := Cond.instanceMethod objectInit) (tw_instanceMethod 16 (by decide +kernel)) rfl), (tq_1 (w := Cond.code objectInit ⟨#[0xb1]⟩ 1 none) (tw_d 17 (by decide +kernel)) rfl)⟩
theorem lk_RX4_189 : Cond.methodLink RX4 189 Lib.Math.min.name ∈ tb ∧ Cond.static Lib.Math.min.name ∈ tb ∧ Cond.initialized "java/lang/Math" ∈ tb ∧ Cond.code Lib.Math.min.name Lib.Math.min.code 2 (some .int) ∈ tb := ⟨(tq_3 (w := Cond.methodLink RX4 189 Lib.Math.min.name) (tw_methodLink 26 (by decide +kernel)) rfl), (tq_2 (w := Cond.static Lib.Math.min.name) (tw_static 33 (by decide +kernel)) rfl), (tq_1 (w := Cond.initialized "java/lang/Math") (tw_d 7 (by decide +kernel)) rfl), (tq_2 (w := Cond.code Lib.Math.min.name Lib.Math.min.code 2 (some .int)) (tw_d 34 (by decide +kernel)) rfl)⟩
theorem tz_12 : Cond.initialized RJ6 ∈ tb := (tq_1 (w := Cond.initialized RJ6) (tw_d 9 (by decide +kernel)) rfl)
theorem tz_13 : Cond.code yJ6_bitCount_0f7a4 cJ6_bitCount_0f7a4 1 (some .int) ∈ tb := (tq_3 (w := Cond.code yJ6_bitCount_0f7a4 cJ6_bitCount_0f7a4 1 (some .int)) (tw_d 34 (by decide +kernel)) rfl)
theorem tz_14 : Cond.static yJ6_bitCount_0f7a4 ∈ tb := (tq_3 (w := Cond.static yJ6_bitCount_0f7a4) (tw_static 33 (by decide +kernel)) rfl)
theorem lk_RX4_201 : LkS RX4 201 mJ6_bitCount_0f7a4 1 := ⟨(tq_3 (w := Cond.methodLink RX4 201 yJ6_bitCount_0f7a4) (tw_methodLink 32 (by decide +kernel)) rfl), tz_14, tz_12, tz_13, ⟨by decide +kernel, by decide +kernel, by decide +kernel, by decide +kernel⟩, by decide⟩
theorem tz_15 : Cond.code yX4_rainWeight cX4_rainWeight 4 (some .long) ∈ tb := (tq_3 (w := Cond.code yX4_rainWeight cX4_rainWeight 4 (some .long)) (tw_d 78 (by decide +kernel)) rfl)
theorem tz_16 : Cond.static yX4_rainWeight ∈ tb := (tq_3 (w := Cond.static yX4_rainWeight) (tw_static 77 (by decide +kernel)) rfl)
theorem lk_RX4_222 : LkS RX4 222 mX4_rainWeight 3 := ⟨(tq_3 (w := Cond.methodLink RX4 222 yX4_rainWeight) (tw_methodLink 76 (by decide +kernel)) rfl), tz_16, tz_8, tz_15, ⟨by decide +kernel, by decide +kernel, by decide +kernel, by decide +kernel⟩, by decide⟩
theorem tz_17 : Cond.code yX4_power cX4_power 5 (some .long) ∈ tb := (tq_3 (w := Cond.code yX4_power cX4_power 5 (some .long)) (tw_d 81 (by decide +kernel)) rfl)
theorem tz_18 : Cond.static yX4_power ∈ tb := (tq_3 (w := Cond.static yX4_power) (tw_static 80 (by decide +kernel)) rfl)
theorem lk_RX4_230 : LkS RX4 230 mX4_power 2 := ⟨(tq_3 (w := Cond.methodLink RX4 230 yX4_power) (tw_methodLink 79 (by decide +kernel)) rfl), tz_18, tz_8, tz_17, ⟨by decide +kernel, by decide +kernel, by decide +kernel, by decide +kernel⟩, by decide⟩
theorem tz_19 : Cond.code yX4_commonDivisor cX4_commonDivisor 7 (some .long) ∈ tb := (tq_3 (w := Cond.code yX4_commonDivisor cX4_commonDivisor 7 (some .long)) (tw_d 88 (by decide +kernel)) rfl)
theorem tz_20 : Cond.static yX4_commonDivisor ∈ tb := (tq_3 (w := Cond.static yX4_commonDivisor) (tw_static 87 (by decide +kernel)) rfl)
theorem lk_RX4_234 : LkS RX4 234 mX4_commonDivisor 2 := ⟨(tq_3 (w := Cond.methodLink RX4 234 yX4_commonDivisor) (tw_methodLink 86 (by decide +kernel)) rfl), tz_20, tz_8, tz_19, ⟨by decide +kernel, by decide +kernel, by decide +kernel, by decide +kernel⟩, by decide⟩
theorem lk_RX0_37 : Cond.methodLink RX0 37 Lib.Math.min.name ∈ tb ∧ Cond.static Lib.Math.min.name ∈ tb ∧ Cond.initialized "java/lang/Math" ∈ tb ∧ Cond.code Lib.Math.min.name Lib.Math.min.code 2 (some .int) ∈ tb := ⟨(tq_2 (w := Cond.methodLink RX0 37 Lib.Math.min.name) (tw_methodLink 217 (by decide +kernel)) rfl), (tq_2 (w := Cond.static Lib.Math.min.name) (tw_static 33 (by decide +kernel)) rfl), (tq_1 (w := Cond.initialized "java/lang/Math") (tw_d 7 (by decide +kernel)) rfl), (tq_2 (w := Cond.code Lib.Math.min.name Lib.Math.min.code 2 (some .int)) (tw_d 34 (by decide +kernel)) rfl)⟩
theorem lk_RX0_54 : Cond.methodLink RX0 54 arraycopyName ∈ tb ∧ Cond.native arraycopyName ∈ tb ∧ Cond.static arraycopyName ∈ tb ∧ Cond.initialized "java/lang/System" ∈ tb := ⟨(tq_2 (w := Cond.methodLink RX0 54 arraycopyName) (tw_methodLink 222 (by decide +kernel)) rfl), (tq_2 (w := Cond.native arraycopyName) (tw_d 150 (by decide +kernel)) rfl), (tq_2 (w := Cond.static arraycopyName) (tw_static 149 (by decide +kernel)) rfl), (tq_1 (w := Cond.initialized "java/lang/System") (tw_d 8 (by decide +kernel)) rfl)⟩
theorem tz_21 : Cond.code yX0_isIn cX0_isIn 2 (some .boolean) ∈ tb := (tq_2 (w := Cond.code yX0_isIn cX0_isIn 2 (some .boolean)) (tw_d 237 (by decide +kernel)) rfl)
theorem tz_22 : Cond.static yX0_isIn ∈ tb := (tq_2 (w := Cond.static yX0_isIn) (tw_static 236 (by decide +kernel)) rfl)
theorem lk_RX0_83 : LkS RX0 83 mX0_isIn 2 := ⟨(tq_2 (w := Cond.methodLink RX0 83 yX0_isIn) (tw_methodLink 235 (by decide +kernel)) rfl), tz_22, tz_6, tz_21, ⟨by decide +kernel, by decide +kernel, by decide +kernel, by decide +kernel⟩, by decide⟩
theorem lk_RX0_87 : Cond.methodLink RX0 87 Lib.Math.max.name ∈ tb ∧ Cond.static Lib.Math.max.name ∈ tb ∧ Cond.initialized "java/lang/Math" ∈ tb ∧ Cond.code Lib.Math.max.name Lib.Math.max.code 2 (some .int) ∈ tb := ⟨(tq_3 (w := Cond.methodLink RX0 87 Lib.Math.max.name) (tw_methodLink 2 (by decide +kernel)) rfl), (tq_2 (w := Cond.static Lib.Math.max.name) (tw_static 113 (by decide +kernel)) rfl), (tq_1 (w := Cond.initialized "java/lang/Math") (tw_d 7 (by decide +kernel)) rfl), (tq_2 (w := Cond.code Lib.Math.max.name Lib.Math.max.code 2 (some .int)) (tw_d 114 (by decide +kernel)) rfl)⟩
theorem lk_RX2_41 : Cond.methodLink RX2 41 arraycopyName ∈ tb ∧ Cond.native arraycopyName ∈ tb ∧ Cond.static arraycopyName ∈ tb ∧ Cond.initialized "java/lang/System" ∈ tb := ⟨(tq_2 (w := Cond.methodLink RX2 41 arraycopyName) (tw_methodLink 148 (by decide +kernel)) rfl), (tq_2 (w := Cond.native arraycopyName) (tw_d 150 (by decide +kernel)) rfl), (tq_2 (w := Cond.static arraycopyName) (tw_static 149 (by decide +kernel)) rfl), (tq_1 (w := Cond.initialized "java/lang/System") (tw_d 8 (by decide +kernel)) rfl)⟩
theorem lk_RX2_62 : Cond.methodLink RX2 62 Lib.Math.max.name ∈ tb ∧ Cond.static Lib.Math.max.name ∈ tb ∧ Cond.initialized "java/lang/Math" ∈ tb ∧ Cond.code Lib.Math.max.name Lib.Math.max.code 2 (some .int) ∈ tb := ⟨(tq_2 (w := Cond.methodLink RX2 62 Lib.Math.max.name) (tw_methodLink 112 (by decide +kernel)) rfl), (tq_2 (w := Cond.static Lib.Math.max.name) (tw_static 113 (by decide +kernel)) rfl), (tq_1 (w := Cond.initialized "java/lang/Math") (tw_d 7 (by decide +kernel)) rfl), (tq_2 (w := Cond.code Lib.Math.max.name Lib.Math.max.code 2 (some .int)) (tw_d 114 (by decide +kernel)) rfl)⟩
theorem lk_RX2_103 : Cond.methodLink RX2 103 Lib.Math.min.name ∈ tb ∧ Cond.static Lib.Math.min.name ∈ tb ∧ Cond.initialized "java/lang/Math" ∈ tb ∧ Cond.code Lib.Math.min.name Lib.Math.min.code 2 (some .int) ∈ tb := ⟨(tq_2 (w := Cond.methodLink RX2 103 Lib.Math.min.name) (tw_methodLink 182 (by decide +kernel)) rfl), (tq_2 (w := Cond.static Lib.Math.min.name) (tw_static 33 (by decide +kernel)) rfl), (tq_1 (w := Cond.initialized "java/lang/Math") (tw_d 7 (by decide +kernel)) rfl), (tq_2 (w := Cond.code Lib.Math.min.name Lib.Math.min.code 2 (some .int)) (tw_d 34 (by decide +kernel)) rfl)⟩
theorem lk_RX3_19 : Cond.methodLink RX3 19 Lib.Math.min.name ∈ tb ∧ Cond.static Lib.Math.min.name ∈ tb ∧ Cond.initialized "java/lang/Math" ∈ tb ∧ Cond.code Lib.Math.min.name Lib.Math.min.code 2 (some .int) ∈ tb := ⟨(tq_2 (w := Cond.methodLink RX3 19 Lib.Math.min.name) (tw_methodLink 32 (by decide +kernel)) rfl), (tq_2 (w := Cond.static Lib.Math.min.name) (tw_static 33 (by decide +kernel)) rfl), (tq_1 (w := Cond.initialized "java/lang/Math") (tw_d 7 (by decide +kernel)) rfl), (tq_2 (w := Cond.code Lib.Math.min.name Lib.Math.min.code 2 (some .int)) (tw_d 34 (by decide +kernel)) rfl)⟩
theorem tz_23 : Cond.code yX3_canStand cX3_canStand 2 (some .boolean) ∈ tb := (tq_2 (w := Cond.code yX3_canStand cX3_canStand 2 (some .boolean)) (tw_d 59 (by decide +kernel)) rfl)
theorem tz_24 : Cond.static yX3_canStand ∈ tb := (tq_2 (w := Cond.static yX3_canStand) (tw_static 58 (by decide +kernel)) rfl)
theorem lk_RX3_50 : LkS RX3 50 mX3_canStand 2 := ⟨(tq_2 (w := Cond.methodLink RX3 50 yX3_canStand) (tw_methodLink 57 (by decide +kernel)) rfl), tz_24, tz_0, tz_23, ⟨by decide +kernel, by decide +kernel, by decide +kernel, by decide +kernel⟩, by decide⟩
theorem tz_25 : Cond.code yX3_numbersOf cX3_numbersOf 1 (some .int) ∈ tb := (tq_2 (w := Cond.code yX3_numbersOf cX3_numbersOf 1 (some .int)) (tw_d 62 (by decide +kernel)) rfl)
theorem tz_26 : Cond.static yX3_numbersOf ∈ tb := (tq_2 (w := Cond.static yX3_numbersOf) (tw_static 61 (by decide +kernel)) rfl)
theorem lk_RX3_54 : LkS RX3 54 mX3_numbersOf 1 := ⟨(tq_2 (w := Cond.methodLink RX3 54 yX3_numbersOf) (tw_methodLink 60 (by decide +kernel)) rfl), tz_26, tz_0, tz_25, ⟨by decide +kernel, by decide +kernel, by decide +kernel, by decide +kernel⟩, by decide⟩
theorem tz_27 : Cond.code yX3_isDigit cX3_isDigit 1 (some .boolean) ∈ tb := (tq_2 (w := Cond.code yX3_isDigit cX3_isDigit 1 (some .boolean)) (tw_d 45 (by decide +kernel)) rfl)
theorem tz_28 : Cond.static yX3_isDigit ∈ tb := (tq_2 (w := Cond.static yX3_isDigit) (tw_static 44 (by decide +kernel)) rfl)
theorem lk_RX3_119 : LkS RX3 119 mX3_isDigit 1 := ⟨(tq_2 (w := Cond.methodLink RX3 119 yX3_isDigit) (tw_methodLink 43 (by decide +kernel)) rfl), tz_28, tz_0, tz_27, ⟨by decide +kernel, by decide +kernel, by decide +kernel, by decide +kernel⟩, by decide⟩
theorem tz_29 : Cond.code yX3_isSign cX3_isSign 1 (some .boolean) ∈ tb := (tq_2 (w := Cond.code yX3_isSign cX3_isSign 1 (some .boolean)) (tw_d 52 (by decide +kernel)) rfl)
theorem tz_30 : Cond.static yX3_isSign ∈ tb := (tq_2 (w := Cond.static yX3_isSign) (tw_static 51 (by decide +kernel)) rfl)
theorem lk_RX3_126 : LkS RX3 126 mX3_isSign 1 := ⟨(tq_2 (w := Cond.methodLink RX3 126 yX3_isSign) (tw_methodLink 50 (by decide +kernel)) rfl), tz_30, tz_0, tz_29, ⟨by decide +kernel, by decide +kernel, by decide +kernel, by decide +kernel⟩, by decide⟩
theorem tz_31 : Cond.code yX5_in cX5_in 6 (some .boolean) ∈ tb := (tq_4 (w := Cond.code yX5_in cX5_in 6 (some .boolean)) (tw_d 3 (by decide +kernel)) rfl)
theorem tz_32 : Cond.static yX5_in ∈ tb := (tq_4 (w := Cond.static yX5_in) (tw_static 2 (by decide +kernel)) rfl)
theorem lk_RX5_59 : LkS RX5 59 mX5_in 3 := ⟨(tq_4 (w := Cond.methodLink RX5 59 yX5_in) (tw_methodLink 1 (by decide +kernel)) rfl), tz_32, tz_10, tz_31, ⟨by decide +kernel, by decide +kernel, by decide +kernel, by decide +kernel⟩, by decide⟩
theorem tz_33 : Cond.code yX5_isFigure cX5_isFigure 1 (some .boolean) ∈ tb := (tq_4 (w := Cond.code yX5_isFigure cX5_isFigure 1 (some .boolean)) (tw_d 18 (by decide +kernel)) rfl)
theorem tz_34 : Cond.static yX5_isFigure ∈ tb := (tq_4 (w := Cond.static yX5_isFigure) (tw_static 17 (by decide +kernel)) rfl)
theorem lk_RX5_79 : LkS RX5 79 mX5_isFigure 1 := ⟨(tq_4 (w := Cond.methodLink RX5 79 yX5_isFigure) (tw_methodLink 16 (by decide +kernel)) rfl), tz_34, tz_10, tz_33, ⟨by decide +kernel, by decide +kernel, by decide +kernel, by decide +kernel⟩, by decide⟩
theorem tz_35 : Cond.code yX5_has cX5_has 2 (some .boolean) ∈ tb := (tq_4 (w := Cond.code yX5_has cX5_has 2 (some .boolean)) (tw_d 43 (by decide +kernel)) rfl)
theorem tz_36 : Cond.static yX5_has ∈ tb := (tq_4 (w := Cond.static yX5_has) (tw_static 42 (by decide +kernel)) rfl)
theorem lk_RX5_118 : LkS RX5 118 mX5_has 2 := ⟨(tq_4 (w := Cond.methodLink RX5 118 yX5_has) (tw_methodLink 41 (by decide +kernel)) rfl), tz_36, tz_10, tz_35, ⟨by decide +kernel, by decide +kernel, by decide +kernel, by decide +kernel⟩, by decide⟩
theorem tz_37 : Cond.code yX5_one cX5_one 1 (some .int) ∈ tb := (tq_4 (w := Cond.code yX5_one cX5_one 1 (some .int)) (tw_d 70 (by decide +kernel)) rfl)
theorem tz_38 : Cond.static yX5_one ∈ tb := (tq_4 (w := Cond.static yX5_one) (tw_static 69 (by decide +kernel)) rfl)
theorem lk_RX5_161 : LkS RX5 161 mX5_one 1 := ⟨(tq_4 (w := Cond.methodLink RX5 161 yX5_one) (tw_methodLink 68 (by decide +kernel)) rfl), tz_38, tz_10, tz_37, ⟨by decide +kernel, by decide +kernel, by decide +kernel, by decide +kernel⟩, by decide⟩
theorem tz_39 : Cond.code yX5_ones cX5_ones 3 (some .int) ∈ tb := (tq_4 (w := Cond.code yX5_ones cX5_ones 3 (some .int)) (tw_d 173 (by decide +kernel)) rfl)
theorem tz_40 : Cond.static yX5_ones ∈ tb := (tq_4 (w := Cond.static yX5_ones) (tw_static 172 (by decide +kernel)) rfl)
theorem lk_RX5_219 : LkS RX5 219 mX5_ones 1 := ⟨(tq_4 (w := Cond.methodLink RX5 219 yX5_ones) (tw_methodLink 171 (by decide +kernel)) rfl), tz_40, tz_10, tz_39, ⟨by decide +kernel, by decide +kernel, by decide +kernel, by decide +kernel⟩, by decide⟩
theorem tz_41 : Cond.code yX5_common cX5_common 10 (some .long) ∈ tb := (tq_4 (w := Cond.code yX5_common cX5_common 10 (some .long)) (tw_d 204 (by decide +kernel)) rfl)
theorem tz_42 : Cond.static yX5_common ∈ tb := (tq_4 (w := Cond.static yX5_common) (tw_static 203 (by decide +kernel)) rfl)
theorem lk_RX5_230 : LkS RX5 230 mX5_common 2 := ⟨(tq_4 (w := Cond.methodLink RX5 230 yX5_common) (tw_methodLink 202 (by decide +kernel)) rfl), tz_42, tz_10, tz_41, ⟨by decide +kernel, by decide +kernel, by decide +kernel, by decide +kernel⟩, by decide⟩
theorem tz_43 : Cond.code yX2_begin cX2_begin 3 none ∈ tb := (tq_1 (w := Cond.code yX2_begin cX2_begin 3 none) (tw_d 202 (by decide +kernel)) rfl)
theorem tz_44 : Cond.instanceMethod yX2_begin ∈ tb := (tq_1 (w := Cond.instanceMethod yX2_begin) (tw_instanceMethod 200 (by decide +kernel)) rfl)
theorem tz_45 : Cond.selects RX2 yX2_begin yX2_begin ∈ tb := (tq_1 (w := Cond.selects RX2 yX2_begin yX2_begin) (tw_selects 201 (by decide +kernel)) rfl)
theorem lk_RX4_67 : LkV RX4 67 mX2_begin 1 := ⟨(tq_1 (w := Cond.methodLink RX4 67 yX2_begin) (tw_methodLink 199 (by decide +kernel)) rfl), tz_44, tz_45, tz_4, tz_43, ⟨by decide +kernel, by decide +kernel, by decide +kernel, by decide +kernel⟩, by decide⟩
theorem tz_46 : Cond.code yX3_readAll cX3_readAll 4 (some .int) ∈ tb := (tq_2 (w := Cond.code yX3_readAll cX3_readAll 4 (some .int)) (tw_d 31 (by decide +kernel)) rfl)
theorem tz_47 : Cond.instanceMethod yX3_readAll ∈ tb := (tq_2 (w := Cond.instanceMethod yX3_readAll) (tw_instanceMethod 29 (by decide +kernel)) rfl)
theorem tz_48 : Cond.selects RX3 yX3_readAll yX3_readAll ∈ tb := (tq_2 (w := Cond.selects RX3 yX3_readAll yX3_readAll) (tw_selects 30 (by decide +kernel)) rfl)
theorem lk_RX4_75 : LkV RX4 75 mX3_readAll 2 := ⟨(tq_2 (w := Cond.methodLink RX4 75 yX3_readAll) (tw_methodLink 28 (by decide +kernel)) rfl), tz_47, tz_48, tz_0, tz_46, ⟨by decide +kernel, by decide +kernel, by decide +kernel, by decide +kernel⟩, by decide⟩
theorem tz_49 : Cond.code yX1_hasHill cX1_hasHill 2 (some .boolean) ∈ tb := (tq_2 (w := Cond.code yX1_hasHill cX1_hasHill 2 (some .boolean)) (tw_d 82 (by decide +kernel)) rfl)
theorem tz_50 : Cond.instanceMethod yX1_hasHill ∈ tb := (tq_2 (w := Cond.instanceMethod yX1_hasHill) (tw_instanceMethod 80 (by decide +kernel)) rfl)
theorem tz_51 : Cond.selects RX1 yX1_hasHill yX1_hasHill ∈ tb := (tq_2 (w := Cond.selects RX1 yX1_hasHill yX1_hasHill) (tw_selects 81 (by decide +kernel)) rfl)
theorem lk_RX4_85 : LkV RX4 85 mX1_hasHill 1 := ⟨(tq_2 (w := Cond.methodLink RX4 85 yX1_hasHill) (tw_methodLink 103 (by decide +kernel)) rfl), tz_50, tz_51, tz_2, tz_49, ⟨by decide +kernel, by decide +kernel, by decide +kernel, by decide +kernel⟩, by decide⟩
theorem tz_52 : Cond.code yX2_sizeNow cX2_sizeNow 3 (some .int) ∈ tb := (tq_2 (w := Cond.code yX2_sizeNow cX2_sizeNow 3 (some .int)) (tw_d 111 (by decide +kernel)) rfl)
theorem tz_53 : Cond.instanceMethod yX2_sizeNow ∈ tb := (tq_2 (w := Cond.instanceMethod yX2_sizeNow) (tw_instanceMethod 109 (by decide +kernel)) rfl)
theorem tz_54 : Cond.selects RX2 yX2_sizeNow yX2_sizeNow ∈ tb := (tq_2 (w := Cond.selects RX2 yX2_sizeNow yX2_sizeNow) (tw_selects 110 (by decide +kernel)) rfl)
theorem lk_RX4_104 : LkV RX4 104 mX2_sizeNow 2 := ⟨(tq_2 (w := Cond.methodLink RX4 104 yX2_sizeNow) (tw_methodLink 108 (by decide +kernel)) rfl), tz_53, tz_54, tz_4, tz_52, ⟨by decide +kernel, by decide +kernel, by decide +kernel, by decide +kernel⟩, by decide⟩
theorem tz_55 : Cond.code yX2_isOver cX2_isOver 3 (some .boolean) ∈ tb := (tq_2 (w := Cond.code yX2_isOver cX2_isOver 3 (some .boolean)) (tw_d 118 (by decide +kernel)) rfl)
theorem tz_56 : Cond.instanceMethod yX2_isOver ∈ tb := (tq_2 (w := Cond.instanceMethod yX2_isOver) (tw_instanceMethod 116 (by decide +kernel)) rfl)
theorem tz_57 : Cond.selects RX2 yX2_isOver yX2_isOver ∈ tb := (tq_2 (w := Cond.selects RX2 yX2_isOver yX2_isOver) (tw_selects 117 (by decide +kernel)) rfl)
theorem lk_RX4_111 : LkV RX4 111 mX2_isOver 2 := ⟨(tq_2 (w := Cond.methodLink RX4 111 yX2_isOver) (tw_methodLink 115 (by decide +kernel)) rfl), tz_56, tz_57, tz_4, tz_55, ⟨by decide +kernel, by decide +kernel, by decide +kernel, by decide +kernel⟩, by decide⟩
theorem tz_58 : Cond.code yX1_hasMan cX1_hasMan 2 (some .boolean) ∈ tb := (tq_2 (w := Cond.code yX1_hasMan cX1_hasMan 2 (some .boolean)) (tw_d 126 (by decide +kernel)) rfl)
theorem tz_59 : Cond.instanceMethod yX1_hasMan ∈ tb := (tq_2 (w := Cond.instanceMethod yX1_hasMan) (tw_instanceMethod 124 (by decide +kernel)) rfl)
theorem tz_60 : Cond.selects RX1 yX1_hasMan yX1_hasMan ∈ tb := (tq_2 (w := Cond.selects RX1 yX1_hasMan yX1_hasMan) (tw_selects 125 (by decide +kernel)) rfl)
theorem lk_RX4_115 : LkV RX4 115 mX1_hasMan 1 := ⟨(tq_2 (w := Cond.methodLink RX4 115 yX1_hasMan) (tw_methodLink 123 (by decide +kernel)) rfl), tz_59, tz_60, tz_2, tz_58, ⟨by decide +kernel, by decide +kernel, by decide +kernel, by decide +kernel⟩, by decide⟩
theorem tz_61 : Cond.code yX2_overBits cX2_overBits 4 (some .int) ∈ tb := (tq_2 (w := Cond.code yX2_overBits cX2_overBits 4 (some .int)) (tw_d 134 (by decide +kernel)) rfl)
theorem tz_62 : Cond.instanceMethod yX2_overBits ∈ tb := (tq_2 (w := Cond.instanceMethod yX2_overBits) (tw_instanceMethod 132 (by decide +kernel)) rfl)
theorem tz_63 : Cond.selects RX2 yX2_overBits yX2_overBits ∈ tb := (tq_2 (w := Cond.selects RX2 yX2_overBits yX2_overBits) (tw_selects 133 (by decide +kernel)) rfl)
theorem lk_RX4_133 : LkV RX4 133 mX2_overBits 1 := ⟨(tq_2 (w := Cond.methodLink RX4 133 yX2_overBits) (tw_methodLink 131 (by decide +kernel)) rfl), tz_62, tz_63, tz_4, tz_61, ⟨by decide +kernel, by decide +kernel, by decide +kernel, by decide +kernel⟩, by decide⟩
theorem tz_64 : Cond.code yX4_remember cX4_remember 3 none ∈ tb := (tq_2 (w := Cond.code yX4_remember cX4_remember 3 none) (tw_d 143 (by decide +kernel)) rfl)
theorem tz_65 : Cond.instanceMethod yX4_remember ∈ tb := (tq_2 (w := Cond.instanceMethod yX4_remember) (tw_instanceMethod 142 (by decide +kernel)) rfl)
theorem tz_66 : Cond.selects RX4 yX4_remember yX4_remember ∈ tb := (tq_0 (w := Cond.selects RX4 yX4_remember yX4_remember) (tw_selects 0 (by decide +kernel)) rfl)
theorem lk_RX4_140 : LkV RX4 140 mX4_remember 0 := ⟨(tq_2 (w := Cond.methodLink RX4 140 yX4_remember) (tw_methodLink 140 (by decide +kernel)) rfl), tz_65, tz_66, tz_8, tz_64, ⟨by decide +kernel, by decide +kernel, by decide +kernel, by decide +kernel⟩, by decide⟩
theorem tz_67 : Cond.code yX2_passHour cX2_passHour 6 (some .int) ∈ tb := (tq_2 (w := Cond.code yX2_passHour cX2_passHour 6 (some .int)) (tw_d 158 (by decide +kernel)) rfl)
theorem tz_68 : Cond.instanceMethod yX2_passHour ∈ tb := (tq_2 (w := Cond.instanceMethod yX2_passHour) (tw_instanceMethod 156 (by decide +kernel)) rfl)
theorem tz_69 : Cond.selects RX2 yX2_passHour yX2_passHour ∈ tb := (tq_2 (w := Cond.selects RX2 yX2_passHour yX2_passHour) (tw_selects 157 (by decide +kernel)) rfl)
theorem lk_RX4_143 : LkV RX4 143 mX2_passHour 1 := ⟨(tq_2 (w := Cond.methodLink RX4 143 yX2_passHour) (tw_methodLink 155 (by decide +kernel)) rfl), tz_68, tz_69, tz_4, tz_67, ⟨by decide +kernel, by decide +kernel, by decide +kernel, by decide +kernel⟩, by decide⟩
theorem tz_70 : Cond.code yX1_rainsOn cX1_rainsOn 2 (some .boolean) ∈ tb := (tq_2 (w := Cond.code yX1_rainsOn cX1_rainsOn 2 (some .boolean)) (tw_d 186 (by decide +kernel)) rfl)
theorem tz_71 : Cond.instanceMethod yX1_rainsOn ∈ tb := (tq_2 (w := Cond.instanceMethod yX1_rainsOn) (tw_instanceMethod 184 (by decide +kernel)) rfl)
theorem tz_72 : Cond.selects RX1 yX1_rainsOn yX1_rainsOn ∈ tb := (tq_2 (w := Cond.selects RX1 yX1_rainsOn yX1_rainsOn) (tw_selects 185 (by decide +kernel)) rfl)
theorem lk_RX4_149 : LkV RX4 149 mX1_rainsOn 1 := ⟨(tq_2 (w := Cond.methodLink RX4 149 yX1_rainsOn) (tw_methodLink 183 (by decide +kernel)) rfl), tz_71, tz_72, tz_2, tz_70, ⟨by decide +kernel, by decide +kernel, by decide +kernel, by decide +kernel⟩, by decide⟩
theorem tz_73 : Cond.code yX2_fallDusk cX2_fallDusk 5 none ∈ tb := (tq_2 (w := Cond.code yX2_fallDusk cX2_fallDusk 5 none) (tw_d 190 (by decide +kernel)) rfl)
theorem tz_74 : Cond.instanceMethod yX2_fallDusk ∈ tb := (tq_2 (w := Cond.instanceMethod yX2_fallDusk) (tw_instanceMethod 188 (by decide +kernel)) rfl)
theorem tz_75 : Cond.selects RX2 yX2_fallDusk yX2_fallDusk ∈ tb := (tq_2 (w := Cond.selects RX2 yX2_fallDusk yX2_fallDusk) (tw_selects 189 (by decide +kernel)) rfl)
theorem lk_RX4_152 : LkV RX4 152 mX2_fallDusk 2 := ⟨(tq_2 (w := Cond.methodLink RX4 152 yX2_fallDusk) (tw_methodLink 187 (by decide +kernel)) rfl), tz_74, tz_75, tz_4, tz_73, ⟨by decide +kernel, by decide +kernel, by decide +kernel, by decide +kernel⟩, by decide⟩
theorem tz_76 : Cond.code yX2_writeDown cX2_writeDown 4 none ∈ tb := (tq_2 (w := Cond.code yX2_writeDown cX2_writeDown 4 none) (tw_d 198 (by decide +kernel)) rfl)
theorem tz_77 : Cond.instanceMethod yX2_writeDown ∈ tb := (tq_2 (w := Cond.instanceMethod yX2_writeDown) (tw_instanceMethod 196 (by decide +kernel)) rfl)
theorem tz_78 : Cond.selects RX2 yX2_writeDown yX2_writeDown ∈ tb := (tq_2 (w := Cond.selects RX2 yX2_writeDown yX2_writeDown) (tw_selects 197 (by decide +kernel)) rfl)
theorem lk_RX4_156 : LkV RX4 156 mX2_writeDown 1 := ⟨(tq_2 (w := Cond.methodLink RX4 156 yX2_writeDown) (tw_methodLink 195 (by decide +kernel)) rfl), tz_77, tz_78, tz_4, tz_76, ⟨by decide +kernel, by decide +kernel, by decide +kernel, by decide +kernel⟩, by decide⟩
theorem tz_79 : Cond.code yX2_copyFrom cX2_copyFrom 2 none ∈ tb := (tq_2 (w := Cond.code yX2_copyFrom cX2_copyFrom 2 none) (tw_d 147 (by decide +kernel)) rfl)
theorem tz_80 : Cond.instanceMethod yX2_copyFrom ∈ tb := (tq_2 (w := Cond.instanceMethod yX2_copyFrom) (tw_instanceMethod 145 (by decide +kernel)) rfl)
theorem tz_81 : Cond.selects RX2 yX2_copyFrom yX2_copyFrom ∈ tb := (tq_2 (w := Cond.selects RX2 yX2_copyFrom yX2_copyFrom) (tw_selects 146 (by decide +kernel)) rfl)
theorem lk_RX4_159 : LkV RX4 159 mX2_copyFrom 1 := ⟨(tq_2 (w := Cond.methodLink RX4 159 yX2_copyFrom) (tw_methodLink 144 (by decide +kernel)) rfl), tz_80, tz_81, tz_4, tz_79, ⟨by decide +kernel, by decide +kernel, by decide +kernel, by decide +kernel⟩, by decide⟩
theorem tz_82 : Cond.code yX2_hoursLeft cX2_hoursLeft 2 (some .int) ∈ tb := (tq_2 (w := Cond.code yX2_hoursLeft cX2_hoursLeft 2 (some .int)) (tw_d 210 (by decide +kernel)) rfl)
theorem tz_83 : Cond.instanceMethod yX2_hoursLeft ∈ tb := (tq_2 (w := Cond.instanceMethod yX2_hoursLeft) (tw_instanceMethod 208 (by decide +kernel)) rfl)
theorem tz_84 : Cond.selects RX2 yX2_hoursLeft yX2_hoursLeft ∈ tb := (tq_2 (w := Cond.selects RX2 yX2_hoursLeft yX2_hoursLeft) (tw_selects 209 (by decide +kernel)) rfl)
theorem lk_RX4_163 : LkV RX4 163 mX2_hoursLeft 1 := ⟨(tq_2 (w := Cond.methodLink RX4 163 yX2_hoursLeft) (tw_methodLink 207 (by decide +kernel)) rfl), tz_83, tz_84, tz_4, tz_82, ⟨by decide +kernel, by decide +kernel, by decide +kernel, by decide +kernel⟩, by decide⟩
theorem tz_85 : Cond.code yX0_search cX0_search 4 none ∈ tb := (tq_2 (w := Cond.code yX0_search cX0_search 4 none) (tw_d 214 (by decide +kernel)) rfl)
theorem tz_86 : Cond.instanceMethod yX0_search ∈ tb := (tq_2 (w := Cond.instanceMethod yX0_search) (tw_instanceMethod 212 (by decide +kernel)) rfl)
theorem tz_87 : Cond.selects RX0 yX0_search yX0_search ∈ tb := (tq_2 (w := Cond.selects RX0 yX0_search yX0_search) (tw_selects 213 (by decide +kernel)) rfl)
theorem lk_RX4_166 : LkV RX4 166 mX0_search 3 := ⟨(tq_2 (w := Cond.methodLink RX4 166 yX0_search) (tw_methodLink 211 (by decide +kernel)) rfl), tz_86, tz_87, tz_6, tz_85, ⟨by decide +kernel, by decide +kernel, by decide +kernel, by decide +kernel⟩, by decide⟩
theorem tz_88 : Cond.code yX4_allPush cX4_allPush 3 none ∈ tb := (tq_3 (w := Cond.code yX4_allPush cX4_allPush 3 none) (tw_d 10 (by decide +kernel)) rfl)
theorem tz_89 : Cond.instanceMethod yX4_allPush ∈ tb := (tq_3 (w := Cond.instanceMethod yX4_allPush) (tw_instanceMethod 9 (by decide +kernel)) rfl)
theorem tz_90 : Cond.selects RX4 yX4_allPush yX4_allPush ∈ tb := (tq_0 (w := Cond.selects RX4 yX4_allPush yX4_allPush) (tw_selects 1 (by decide +kernel)) rfl)
theorem lk_RX4_176 : LkV RX4 176 mX4_allPush 1 := ⟨(tq_3 (w := Cond.methodLink RX4 176 yX4_allPush) (tw_methodLink 7 (by decide +kernel)) rfl), tz_89, tz_90, tz_8, tz_88, ⟨by decide +kernel, by decide +kernel, by decide +kernel, by decide +kernel⟩, by decide⟩
theorem tz_91 : Cond.code yX2_passDay cX2_passDay 4 none ∈ tb := (tq_3 (w := Cond.code yX2_passDay cX2_passDay 4 none) (tw_d 14 (by decide +kernel)) rfl)
theorem tz_92 : Cond.instanceMethod yX2_passDay ∈ tb := (tq_3 (w := Cond.instanceMethod yX2_passDay) (tw_instanceMethod 12 (by decide +kernel)) rfl)
theorem tz_93 : Cond.selects RX2 yX2_passDay yX2_passDay ∈ tb := (tq_3 (w := Cond.selects RX2 yX2_passDay yX2_passDay) (tw_selects 13 (by decide +kernel)) rfl)
theorem lk_RX4_180 : LkV RX4 180 mX2_passDay 1 := ⟨(tq_3 (w := Cond.methodLink RX4 180 yX2_passDay) (tw_methodLink 11 (by decide +kernel)) rfl), tz_92, tz_93, tz_4, tz_91, ⟨by decide +kernel, by decide +kernel, by decide +kernel, by decide +kernel⟩, by decide⟩
theorem tz_94 : Cond.code yX2_freeSteps cX2_freeSteps 5 (some .int) ∈ tb := (tq_2 (w := Cond.code yX2_freeSteps cX2_freeSteps 5 (some .int)) (tw_d 221 (by decide +kernel)) rfl)
theorem tz_95 : Cond.instanceMethod yX2_freeSteps ∈ tb := (tq_2 (w := Cond.instanceMethod yX2_freeSteps) (tw_instanceMethod 219 (by decide +kernel)) rfl)
theorem tz_96 : Cond.selects RX2 yX2_freeSteps yX2_freeSteps ∈ tb := (tq_2 (w := Cond.selects RX2 yX2_freeSteps yX2_freeSteps) (tw_selects 220 (by decide +kernel)) rfl)
theorem lk_RX4_183 : LkV RX4 183 mX2_freeSteps 2 := ⟨(tq_3 (w := Cond.methodLink RX4 183 yX2_freeSteps) (tw_methodLink 21 (by decide +kernel)) rfl), tz_95, tz_96, tz_4, tz_94, ⟨by decide +kernel, by decide +kernel, by decide +kernel, by decide +kernel⟩, by decide⟩
theorem tz_97 : Cond.code yX2_strengthAfter cX2_strengthAfter 5 (some .int) ∈ tb := (tq_3 (w := Cond.code yX2_strengthAfter cX2_strengthAfter 5 (some .int)) (tw_d 25 (by decide +kernel)) rfl)
theorem tz_98 : Cond.instanceMethod yX2_strengthAfter ∈ tb := (tq_3 (w := Cond.instanceMethod yX2_strengthAfter) (tw_instanceMethod 23 (by decide +kernel)) rfl)
theorem tz_99 : Cond.selects RX2 yX2_strengthAfter yX2_strengthAfter ∈ tb := (tq_3 (w := Cond.selects RX2 yX2_strengthAfter yX2_strengthAfter) (tw_selects 24 (by decide +kernel)) rfl)
theorem lk_RX4_186 : LkV RX4 186 mX2_strengthAfter 2 := ⟨(tq_3 (w := Cond.methodLink RX4 186 yX2_strengthAfter) (tw_methodLink 22 (by decide +kernel)) rfl), tz_98, tz_99, tz_4, tz_97, ⟨by decide +kernel, by decide +kernel, by decide +kernel, by decide +kernel⟩, by decide⟩
theorem tz_100 : Cond.code yX2_needOf cX2_needOf 3 (some .int) ∈ tb := (tq_2 (w := Cond.code yX2_needOf cX2_needOf 3 (some .int)) (tw_d 171 (by decide +kernel)) rfl)
theorem tz_101 : Cond.instanceMethod yX2_needOf ∈ tb := (tq_2 (w := Cond.instanceMethod yX2_needOf) (tw_instanceMethod 169 (by decide +kernel)) rfl)
theorem tz_102 : Cond.selects RX2 yX2_needOf yX2_needOf ∈ tb := (tq_2 (w := Cond.selects RX2 yX2_needOf yX2_needOf) (tw_selects 170 (by decide +kernel)) rfl)
theorem lk_RX4_195 : LkV RX4 195 mX2_needOf 2 := ⟨(tq_3 (w := Cond.methodLink RX4 195 yX2_needOf) (tw_methodLink 31 (by decide +kernel)) rfl), tz_101, tz_102, tz_4, tz_100, ⟨by decide +kernel, by decide +kernel, by decide +kernel, by decide +kernel⟩, by decide⟩
theorem tz_103 : Cond.code yX1_forceOf cX1_forceOf 4 (some .int) ∈ tb := (tq_3 (w := Cond.code yX1_forceOf cX1_forceOf 4 (some .int)) (tw_d 41 (by decide +kernel)) rfl)
theorem tz_104 : Cond.instanceMethod yX1_forceOf ∈ tb := (tq_3 (w := Cond.instanceMethod yX1_forceOf) (tw_instanceMethod 39 (by decide +kernel)) rfl)
theorem tz_105 : Cond.selects RX1 yX1_forceOf yX1_forceOf ∈ tb := (tq_3 (w := Cond.selects RX1 yX1_forceOf yX1_forceOf) (tw_selects 40 (by decide +kernel)) rfl)
theorem lk_RX4_207 : LkV RX4 207 mX1_forceOf 1 := ⟨(tq_3 (w := Cond.methodLink RX4 207 yX1_forceOf) (tw_methodLink 38 (by decide +kernel)) rfl), tz_104, tz_105, tz_2, tz_103, ⟨by decide +kernel, by decide +kernel, by decide +kernel, by decide +kernel⟩, by decide⟩
theorem tz_106 : Cond.code yX2_blockersAt cX2_blockersAt 7 (some .int) ∈ tb := (tq_2 (w := Cond.code yX2_blockersAt cX2_blockersAt 7 (some .int)) (tw_d 176 (by decide +kernel)) rfl)
theorem tz_107 : Cond.instanceMethod yX2_blockersAt ∈ tb := (tq_2 (w := Cond.instanceMethod yX2_blockersAt) (tw_instanceMethod 174 (by decide +kernel)) rfl)
theorem tz_108 : Cond.selects RX2 yX2_blockersAt yX2_blockersAt ∈ tb := (tq_2 (w := Cond.selects RX2 yX2_blockersAt yX2_blockersAt) (tw_selects 175 (by decide +kernel)) rfl)
theorem lk_RX4_210 : LkV RX4 210 mX2_blockersAt 3 := ⟨(tq_3 (w := Cond.methodLink RX4 210 yX2_blockersAt) (tw_methodLink 46 (by decide +kernel)) rfl), tz_107, tz_108, tz_4, tz_106, ⟨by decide +kernel, by decide +kernel, by decide +kernel, by decide +kernel⟩, by decide⟩
theorem tz_109 : Cond.code yX2_writtenStep cX2_writtenStep 3 (some .int) ∈ tb := (tq_3 (w := Cond.code yX2_writtenStep cX2_writtenStep 3 (some .int)) (tw_d 54 (by decide +kernel)) rfl)
theorem tz_110 : Cond.instanceMethod yX2_writtenStep ∈ tb := (tq_3 (w := Cond.instanceMethod yX2_writtenStep) (tw_instanceMethod 52 (by decide +kernel)) rfl)
theorem tz_111 : Cond.selects RX2 yX2_writtenStep yX2_writtenStep ∈ tb := (tq_3 (w := Cond.selects RX2 yX2_writtenStep yX2_writtenStep) (tw_selects 53 (by decide +kernel)) rfl)
theorem lk_RX4_214 : LkV RX4 214 mX2_writtenStep 2 := ⟨(tq_3 (w := Cond.methodLink RX4 214 yX2_writtenStep) (tw_methodLink 51 (by decide +kernel)) rfl), tz_110, tz_111, tz_4, tz_109, ⟨by decide +kernel, by decide +kernel, by decide +kernel, by decide +kernel⟩, by decide⟩
theorem tz_112 : Cond.code yX4_agrees cX4_agrees 3 (some .boolean) ∈ tb := (tq_3 (w := Cond.code yX4_agrees cX4_agrees 3 (some .boolean)) (tw_d 70 (by decide +kernel)) rfl)
theorem tz_113 : Cond.instanceMethod yX4_agrees ∈ tb := (tq_3 (w := Cond.instanceMethod yX4_agrees) (tw_instanceMethod 69 (by decide +kernel)) rfl)
theorem tz_114 : Cond.selects RX4 yX4_agrees yX4_agrees ∈ tb := (tq_0 (w := Cond.selects RX4 yX4_agrees yX4_agrees) (tw_selects 2 (by decide +kernel)) rfl)
theorem lk_RX4_217 : LkV RX4 217 mX4_agrees 1 := ⟨(tq_3 (w := Cond.methodLink RX4 217 yX4_agrees) (tw_methodLink 67 (by decide +kernel)) rfl), tz_113, tz_114, tz_8, tz_112, ⟨by decide +kernel, by decide +kernel, by decide +kernel, by decide +kernel⟩, by decide⟩
theorem tz_115 : Cond.code yX4_isOverBehind cX4_isOverBehind 5 (some .boolean) ∈ tb := (tq_3 (w := Cond.code yX4_isOverBehind cX4_isOverBehind 5 (some .boolean)) (tw_d 85 (by decide +kernel)) rfl)
theorem tz_116 : Cond.instanceMethod yX4_isOverBehind ∈ tb := (tq_3 (w := Cond.instanceMethod yX4_isOverBehind) (tw_instanceMethod 84 (by decide +kernel)) rfl)
theorem tz_117 : Cond.selects RX4 yX4_isOverBehind yX4_isOverBehind ∈ tb := (tq_0 (w := Cond.selects RX4 yX4_isOverBehind yX4_isOverBehind) (tw_selects 3 (by decide +kernel)) rfl)
theorem lk_RX4_226 : LkV RX4 226 mX4_isOverBehind 3 := ⟨(tq_3 (w := Cond.methodLink RX4 226 yX4_isOverBehind) (tw_methodLink 82 (by decide +kernel)) rfl), tz_116, tz_117, tz_8, tz_115, ⟨by decide +kernel, by decide +kernel, by decide +kernel, by decide +kernel⟩, by decide⟩
theorem tz_118 : Cond.code yX4_rateAs cX4_rateAs 4 (some .int) ∈ tb := (tq_3 (w := Cond.code yX4_rateAs cX4_rateAs 4 (some .int)) (tw_d 101 (by decide +kernel)) rfl)
theorem tz_119 : Cond.instanceMethod yX4_rateAs ∈ tb := (tq_3 (w := Cond.instanceMethod yX4_rateAs) (tw_instanceMethod 100 (by decide +kernel)) rfl)
theorem tz_120 : Cond.selects RX4 yX4_rateAs yX4_rateAs ∈ tb := (tq_0 (w := Cond.selects RX4 yX4_rateAs yX4_rateAs) (tw_selects 4 (by decide +kernel)) rfl)
theorem lk_RX4_239 : LkV RX4 239 mX4_rateAs 2 := ⟨(tq_3 (w := Cond.methodLink RX4 239 yX4_rateAs) (tw_methodLink 98 (by decide +kernel)) rfl), tz_119, tz_120, tz_8, tz_118, ⟨by decide +kernel, by decide +kernel, by decide +kernel, by decide +kernel⟩, by decide⟩
theorem tz_121 : Cond.code yX2_menAt cX2_menAt 5 (some .int) ∈ tb := (tq_3 (w := Cond.code yX2_menAt cX2_menAt 5 (some .int)) (tw_d 109 (by decide +kernel)) rfl)
theorem tz_122 : Cond.instanceMethod yX2_menAt ∈ tb := (tq_3 (w := Cond.instanceMethod yX2_menAt) (tw_instanceMethod 107 (by decide +kernel)) rfl)
theorem tz_123 : Cond.selects RX2 yX2_menAt yX2_menAt ∈ tb := (tq_3 (w := Cond.selects RX2 yX2_menAt yX2_menAt) (tw_selects 108 (by decide +kernel)) rfl)
theorem lk_RX4_261 : LkV RX4 261 mX2_menAt 2 := ⟨(tq_3 (w := Cond.methodLink RX4 261 yX2_menAt) (tw_methodLink 106 (by decide +kernel)) rfl), tz_122, tz_123, tz_4, tz_121, ⟨by decide +kernel, by decide +kernel, by decide +kernel, by decide +kernel⟩, by decide⟩
theorem lk_RX0_23 : LkV RX0 23 mX2_needOf 2 := ⟨(tq_2 (w := Cond.methodLink RX0 23 yX2_needOf) (tw_methodLink 215 (by decide +kernel)) rfl), tz_101, tz_102, tz_4, tz_100, ⟨by decide +kernel, by decide +kernel, by decide +kernel, by decide +kernel⟩, by decide⟩
theorem lk_RX0_33 : LkV RX0 33 mX2_hoursLeft 1 := ⟨(tq_2 (w := Cond.methodLink RX0 33 yX2_hoursLeft) (tw_methodLink 216 (by decide +kernel)) rfl), tz_83, tz_84, tz_4, tz_82, ⟨by decide +kernel, by decide +kernel, by decide +kernel, by decide +kernel⟩, by decide⟩
theorem lk_RX0_46 : LkV RX0 46 mX2_freeSteps 2 := ⟨(tq_2 (w := Cond.methodLink RX0 46 yX2_freeSteps) (tw_methodLink 218 (by decide +kernel)) rfl), tz_95, tz_96, tz_4, tz_94, ⟨by decide +kernel, by decide +kernel, by decide +kernel, by decide +kernel⟩, by decide⟩
theorem tz_124 : Cond.code yX0_keepRow cX0_keepRow 4 none ∈ tb := (tq_2 (w := Cond.code yX0_keepRow cX0_keepRow 4 none) (tw_d 226 (by decide +kernel)) rfl)
theorem tz_125 : Cond.instanceMethod yX0_keepRow ∈ tb := (tq_2 (w := Cond.instanceMethod yX0_keepRow) (tw_instanceMethod 224 (by decide +kernel)) rfl)
theorem tz_126 : Cond.selects RX0 yX0_keepRow yX0_keepRow ∈ tb := (tq_2 (w := Cond.selects RX0 yX0_keepRow yX0_keepRow) (tw_selects 225 (by decide +kernel)) rfl)
theorem lk_RX0_60 : LkV RX0 60 mX0_keepRow 2 := ⟨(tq_2 (w := Cond.methodLink RX0 60 yX0_keepRow) (tw_methodLink 223 (by decide +kernel)) rfl), tz_125, tz_126, tz_6, tz_124, ⟨by decide +kernel, by decide +kernel, by decide +kernel, by decide +kernel⟩, by decide⟩
theorem tz_127 : Cond.code yX0_explore cX0_explore 5 none ∈ tb := (tq_2 (w := Cond.code yX0_explore cX0_explore 5 none) (tw_d 230 (by decide +kernel)) rfl)
theorem tz_128 : Cond.instanceMethod yX0_explore ∈ tb := (tq_2 (w := Cond.instanceMethod yX0_explore) (tw_instanceMethod 228 (by decide +kernel)) rfl)
theorem tz_129 : Cond.selects RX0 yX0_explore yX0_explore ∈ tb := (tq_2 (w := Cond.selects RX0 yX0_explore yX0_explore) (tw_selects 229 (by decide +kernel)) rfl)
theorem lk_RX0_64 : LkV RX0 64 mX0_explore 3 := ⟨(tq_2 (w := Cond.methodLink RX0 64 yX0_explore) (tw_methodLink 227 (by decide +kernel)) rfl), tz_128, tz_129, tz_6, tz_127, ⟨by decide +kernel, by decide +kernel, by decide +kernel, by decide +kernel⟩, by decide⟩
theorem tz_130 : Cond.code yX0_isJustEnough cX0_isJustEnough 6 (some .boolean) ∈ tb := (tq_2 (w := Cond.code yX0_isJustEnough cX0_isJustEnough 6 (some .boolean)) (tw_d 234 (by decide +kernel)) rfl)
theorem tz_131 : Cond.instanceMethod yX0_isJustEnough ∈ tb := (tq_2 (w := Cond.instanceMethod yX0_isJustEnough) (tw_instanceMethod 232 (by decide +kernel)) rfl)
theorem tz_132 : Cond.selects RX0 yX0_isJustEnough yX0_isJustEnough ∈ tb := (tq_2 (w := Cond.selects RX0 yX0_isJustEnough yX0_isJustEnough) (tw_selects 233 (by decide +kernel)) rfl)
theorem lk_RX0_76 : LkV RX0 76 mX0_isJustEnough 3 := ⟨(tq_2 (w := Cond.methodLink RX0 76 yX0_isJustEnough) (tw_methodLink 231 (by decide +kernel)) rfl), tz_131, tz_132, tz_6, tz_130, ⟨by decide +kernel, by decide +kernel, by decide +kernel, by decide +kernel⟩, by decide⟩
theorem tz_133 : Cond.code yX0_tire cX0_tire 6 none ∈ tb := (tq_3 (w := Cond.code yX0_tire cX0_tire 6 none) (tw_d 1 (by decide +kernel)) rfl)
theorem tz_134 : Cond.instanceMethod yX0_tire ∈ tb := (tq_2 (w := Cond.instanceMethod yX0_tire) (tw_instanceMethod 239 (by decide +kernel)) rfl)
theorem tz_135 : Cond.selects RX0 yX0_tire yX0_tire ∈ tb := (tq_3 (w := Cond.selects RX0 yX0_tire yX0_tire) (tw_selects 0 (by decide +kernel)) rfl)
theorem lk_RX0_80 : LkV RX0 80 mX0_tire 3 := ⟨(tq_2 (w := Cond.methodLink RX0 80 yX0_tire) (tw_methodLink 238 (by decide +kernel)) rfl), tz_134, tz_135, tz_6, tz_133, ⟨by decide +kernel, by decide +kernel, by decide +kernel, by decide +kernel⟩, by decide⟩
theorem tz_136 : Cond.code yX2_rest cX2_rest 3 none ∈ tb := (tq_1 (w := Cond.code yX2_rest cX2_rest 3 none) (tw_d 206 (by decide +kernel)) rfl)
theorem tz_137 : Cond.instanceMethod yX2_rest ∈ tb := (tq_1 (w := Cond.instanceMethod yX2_rest) (tw_instanceMethod 204 (by decide +kernel)) rfl)
theorem tz_138 : Cond.selects RX2 yX2_rest yX2_rest ∈ tb := (tq_1 (w := Cond.selects RX2 yX2_rest yX2_rest) (tw_selects 205 (by decide +kernel)) rfl)
theorem lk_RX2_37 : LkV RX2 37 mX2_rest 1 := ⟨(tq_1 (w := Cond.methodLink RX2 37 yX2_rest) (tw_methodLink 203 (by decide +kernel)) rfl), tz_137, tz_138, tz_4, tz_136, ⟨by decide +kernel, by decide +kernel, by decide +kernel, by decide +kernel⟩, by decide⟩
theorem lk_RX2_55 : LkV RX2 55 mX2_isOver 2 := ⟨(tq_2 (w := Cond.methodLink RX2 55 yX2_isOver) (tw_methodLink 135 (by decide +kernel)) rfl), tz_56, tz_57, tz_4, tz_55, ⟨by decide +kernel, by decide +kernel, by decide +kernel, by decide +kernel⟩, by decide⟩
theorem lk_RX2_68 : LkV RX2 68 mX2_sizeNow 2 := ⟨(tq_2 (w := Cond.methodLink RX2 68 yX2_sizeNow) (tw_methodLink 172 (by decide +kernel)) rfl), tz_53, tz_54, tz_4, tz_52, ⟨by decide +kernel, by decide +kernel, by decide +kernel, by decide +kernel⟩, by decide⟩
theorem tz_139 : Cond.code yX1_isOnePlace cX1_isOnePlace 6 (some .boolean) ∈ tb := (tq_2 (w := Cond.code yX1_isOnePlace cX1_isOnePlace 6 (some .boolean)) (tw_d 180 (by decide +kernel)) rfl)
theorem tz_140 : Cond.instanceMethod yX1_isOnePlace ∈ tb := (tq_2 (w := Cond.instanceMethod yX1_isOnePlace) (tw_instanceMethod 178 (by decide +kernel)) rfl)
theorem tz_141 : Cond.selects RX1 yX1_isOnePlace yX1_isOnePlace ∈ tb := (tq_2 (w := Cond.selects RX1 yX1_isOnePlace yX1_isOnePlace) (tw_selects 179 (by decide +kernel)) rfl)
theorem lk_RX2_81 : LkV RX2 81 mX1_isOnePlace 3 := ⟨(tq_2 (w := Cond.methodLink RX2 81 yX1_isOnePlace) (tw_methodLink 177 (by decide +kernel)) rfl), tz_140, tz_141, tz_2, tz_139, ⟨by decide +kernel, by decide +kernel, by decide +kernel, by decide +kernel⟩, by decide⟩
theorem lk_RX2_85 : LkV RX2 85 mX2_blockersAt 3 := ⟨(tq_2 (w := Cond.methodLink RX2 85 yX2_blockersAt) (tw_methodLink 173 (by decide +kernel)) rfl), tz_107, tz_108, tz_4, tz_106, ⟨by decide +kernel, by decide +kernel, by decide +kernel, by decide +kernel⟩, by decide⟩
theorem lk_RX2_89 : LkV RX2 89 mX2_overBits 1 := ⟨(tq_2 (w := Cond.methodLink RX2 89 yX2_overBits) (tw_methodLink 159 (by decide +kernel)) rfl), tz_62, tz_63, tz_4, tz_61, ⟨by decide +kernel, by decide +kernel, by decide +kernel, by decide +kernel⟩, by decide⟩
theorem tz_142 : Cond.code yX2_canComeUp cX2_canComeUp 3 (some .boolean) ∈ tb := (tq_2 (w := Cond.code yX2_canComeUp cX2_canComeUp 3 (some .boolean)) (tw_d 163 (by decide +kernel)) rfl)
theorem tz_143 : Cond.instanceMethod yX2_canComeUp ∈ tb := (tq_2 (w := Cond.instanceMethod yX2_canComeUp) (tw_instanceMethod 161 (by decide +kernel)) rfl)
theorem tz_144 : Cond.selects RX2 yX2_canComeUp yX2_canComeUp ∈ tb := (tq_2 (w := Cond.selects RX2 yX2_canComeUp yX2_canComeUp) (tw_selects 162 (by decide +kernel)) rfl)
theorem lk_RX2_93 : LkV RX2 93 mX2_canComeUp 2 := ⟨(tq_2 (w := Cond.methodLink RX2 93 yX2_canComeUp) (tw_methodLink 160 (by decide +kernel)) rfl), tz_143, tz_144, tz_4, tz_142, ⟨by decide +kernel, by decide +kernel, by decide +kernel, by decide +kernel⟩, by decide⟩
theorem lk_RX2_96 : LkV RX2 96 mX1_hasHill 1 := ⟨(tq_2 (w := Cond.methodLink RX2 96 yX1_hasHill) (tw_methodLink 181 (by decide +kernel)) rfl), tz_50, tz_51, tz_2, tz_49, ⟨by decide +kernel, by decide +kernel, by decide +kernel, by decide +kernel⟩, by decide⟩
theorem tz_145 : Cond.code yX2_strengthAt cX2_strengthAt 5 (some .int) ∈ tb := (tq_2 (w := Cond.code yX2_strengthAt cX2_strengthAt 5 (some .int)) (tw_d 167 (by decide +kernel)) rfl)
theorem tz_146 : Cond.instanceMethod yX2_strengthAt ∈ tb := (tq_2 (w := Cond.instanceMethod yX2_strengthAt) (tw_instanceMethod 165 (by decide +kernel)) rfl)
theorem tz_147 : Cond.selects RX2 yX2_strengthAt yX2_strengthAt ∈ tb := (tq_2 (w := Cond.selects RX2 yX2_strengthAt yX2_strengthAt) (tw_selects 166 (by decide +kernel)) rfl)
theorem lk_RX2_106 : LkV RX2 106 mX2_strengthAt 2 := ⟨(tq_2 (w := Cond.methodLink RX2 106 yX2_strengthAt) (tw_methodLink 164 (by decide +kernel)) rfl), tz_146, tz_147, tz_4, tz_145, ⟨by decide +kernel, by decide +kernel, by decide +kernel, by decide +kernel⟩, by decide⟩
theorem lk_RX2_109 : LkV RX2 109 mX2_needOf 2 := ⟨(tq_2 (w := Cond.methodLink RX2 109 yX2_needOf) (tw_methodLink 168 (by decide +kernel)) rfl), tz_101, tz_102, tz_4, tz_100, ⟨by decide +kernel, by decide +kernel, by decide +kernel, by decide +kernel⟩, by decide⟩
theorem lk_RX2_112 : LkV RX2 112 mX2_hoursLeft 1 := ⟨(tq_3 (w := Cond.methodLink RX2 112 yX2_hoursLeft) (tw_methodLink 15 (by decide +kernel)) rfl), tz_83, tz_84, tz_4, tz_82, ⟨by decide +kernel, by decide +kernel, by decide +kernel, by decide +kernel⟩, by decide⟩
theorem lk_RX2_115 : LkV RX2 115 mX2_passHour 1 := ⟨(tq_3 (w := Cond.methodLink RX2 115 yX2_passHour) (tw_methodLink 16 (by decide +kernel)) rfl), tz_68, tz_69, tz_4, tz_67, ⟨by decide +kernel, by decide +kernel, by decide +kernel, by decide +kernel⟩, by decide⟩
theorem tz_148 : Cond.code yX1_hasLedge cX1_hasLedge 3 (some .boolean) ∈ tb := (tq_2 (w := Cond.code yX1_hasLedge cX1_hasLedge 3 (some .boolean)) (tw_d 194 (by decide +kernel)) rfl)
theorem tz_149 : Cond.instanceMethod yX1_hasLedge ∈ tb := (tq_2 (w := Cond.instanceMethod yX1_hasLedge) (tw_instanceMethod 192 (by decide +kernel)) rfl)
theorem tz_150 : Cond.selects RX1 yX1_hasLedge yX1_hasLedge ∈ tb := (tq_2 (w := Cond.selects RX1 yX1_hasLedge yX1_hasLedge) (tw_selects 193 (by decide +kernel)) rfl)
theorem lk_RX2_118 : LkV RX2 118 mX1_hasLedge 2 := ⟨(tq_2 (w := Cond.methodLink RX2 118 yX1_hasLedge) (tw_methodLink 191 (by decide +kernel)) rfl), tz_149, tz_150, tz_2, tz_148, ⟨by decide +kernel, by decide +kernel, by decide +kernel, by decide +kernel⟩, by decide⟩
theorem tz_151 : Cond.code yX1_empty cX1_empty 1 none ∈ tb := (tq_2 (w := Cond.code yX1_empty cX1_empty 1 none) (tw_d 38 (by decide +kernel)) rfl)
theorem tz_152 : Cond.instanceMethod yX1_empty ∈ tb := (tq_2 (w := Cond.instanceMethod yX1_empty) (tw_instanceMethod 36 (by decide +kernel)) rfl)
theorem tz_153 : Cond.selects RX1 yX1_empty yX1_empty ∈ tb := (tq_2 (w := Cond.selects RX1 yX1_empty yX1_empty) (tw_selects 37 (by decide +kernel)) rfl)
theorem lk_RX3_32 : LkV RX3 32 mX1_empty 0 := ⟨(tq_2 (w := Cond.methodLink RX3 32 yX1_empty) (tw_methodLink 35 (by decide +kernel)) rfl), tz_152, tz_153, tz_2, tz_151, ⟨by decide +kernel, by decide +kernel, by decide +kernel, by decide +kernel⟩, by decide⟩
theorem tz_154 : Cond.code yX3_take cX3_take 1 none ∈ tb := (tq_2 (w := Cond.code yX3_take cX3_take 1 none) (tw_d 42 (by decide +kernel)) rfl)
theorem tz_155 : Cond.instanceMethod yX3_take ∈ tb := (tq_2 (w := Cond.instanceMethod yX3_take) (tw_instanceMethod 40 (by decide +kernel)) rfl)
theorem tz_156 : Cond.selects RX3 yX3_take yX3_take ∈ tb := (tq_2 (w := Cond.selects RX3 yX3_take yX3_take) (tw_selects 41 (by decide +kernel)) rfl)
theorem lk_RX3_37 : LkV RX3 37 mX3_take 0 := ⟨(tq_2 (w := Cond.methodLink RX3 37 yX3_take) (tw_methodLink 39 (by decide +kernel)) rfl), tz_155, tz_156, tz_0, tz_154, ⟨by decide +kernel, by decide +kernel, by decide +kernel, by decide +kernel⟩, by decide⟩
theorem tz_157 : Cond.code yX3_readItem cX3_readItem 5 (some .boolean) ∈ tb := (tq_2 (w := Cond.code yX3_readItem cX3_readItem 5 (some .boolean)) (tw_d 56 (by decide +kernel)) rfl)
theorem tz_158 : Cond.instanceMethod yX3_readItem ∈ tb := (tq_2 (w := Cond.instanceMethod yX3_readItem) (tw_instanceMethod 54 (by decide +kernel)) rfl)
theorem tz_159 : Cond.selects RX3 yX3_readItem yX3_readItem ∈ tb := (tq_2 (w := Cond.selects RX3 yX3_readItem yX3_readItem) (tw_selects 55 (by decide +kernel)) rfl)
theorem lk_RX3_43 : LkV RX3 43 mX3_readItem 1 := ⟨(tq_2 (w := Cond.methodLink RX3 43 yX3_readItem) (tw_methodLink 53 (by decide +kernel)) rfl), tz_158, tz_159, tz_0, tz_157, ⟨by decide +kernel, by decide +kernel, by decide +kernel, by decide +kernel⟩, by decide⟩
theorem tz_160 : Cond.code yX3_fits cX3_fits 4 (some .boolean) ∈ tb := (tq_2 (w := Cond.code yX3_fits cX3_fits 4 (some .boolean)) (tw_d 66 (by decide +kernel)) rfl)
theorem tz_161 : Cond.instanceMethod yX3_fits ∈ tb := (tq_2 (w := Cond.instanceMethod yX3_fits) (tw_instanceMethod 64 (by decide +kernel)) rfl)
theorem tz_162 : Cond.selects RX3 yX3_fits yX3_fits ∈ tb := (tq_2 (w := Cond.selects RX3 yX3_fits yX3_fits) (tw_selects 65 (by decide +kernel)) rfl)
theorem lk_RX3_58 : LkV RX3 58 mX3_fits 3 := ⟨(tq_2 (w := Cond.methodLink RX3 58 yX3_fits) (tw_methodLink 63 (by decide +kernel)) rfl), tz_161, tz_162, tz_0, tz_160, ⟨by decide +kernel, by decide +kernel, by decide +kernel, by decide +kernel⟩, by decide⟩
theorem tz_163 : Cond.code yX3_addItem cX3_addItem 3 none ∈ tb := (tq_2 (w := Cond.code yX3_addItem cX3_addItem 3 none) (tw_d 86 (by decide +kernel)) rfl)
theorem tz_164 : Cond.instanceMethod yX3_addItem ∈ tb := (tq_2 (w := Cond.instanceMethod yX3_addItem) (tw_instanceMethod 84 (by decide +kernel)) rfl)
theorem tz_165 : Cond.selects RX3 yX3_addItem yX3_addItem ∈ tb := (tq_2 (w := Cond.selects RX3 yX3_addItem yX3_addItem) (tw_selects 85 (by decide +kernel)) rfl)
theorem lk_RX3_65 : LkV RX3 65 mX3_addItem 2 := ⟨(tq_2 (w := Cond.methodLink RX3 65 yX3_addItem) (tw_methodLink 83 (by decide +kernel)) rfl), tz_164, tz_165, tz_0, tz_163, ⟨by decide +kernel, by decide +kernel, by decide +kernel, by decide +kernel⟩, by decide⟩
theorem tz_166 : Cond.code yX3_isWithin cX3_isWithin 3 (some .boolean) ∈ tb := (tq_2 (w := Cond.code yX3_isWithin cX3_isWithin 3 (some .boolean)) (tw_d 74 (by decide +kernel)) rfl)
theorem tz_167 : Cond.instanceMethod yX3_isWithin ∈ tb := (tq_2 (w := Cond.instanceMethod yX3_isWithin) (tw_instanceMethod 72 (by decide +kernel)) rfl)
theorem tz_168 : Cond.selects RX3 yX3_isWithin yX3_isWithin ∈ tb := (tq_2 (w := Cond.selects RX3 yX3_isWithin yX3_isWithin) (tw_selects 73 (by decide +kernel)) rfl)
theorem lk_RX3_91 : LkV RX3 91 mX3_isWithin 2 := ⟨(tq_2 (w := Cond.methodLink RX3 91 yX3_isWithin) (tw_methodLink 71 (by decide +kernel)) rfl), tz_167, tz_168, tz_0, tz_166, ⟨by decide +kernel, by decide +kernel, by decide +kernel, by decide +kernel⟩, by decide⟩
theorem tz_169 : Cond.code yX3_fitsJoin cX3_fitsJoin 3 (some .boolean) ∈ tb := (tq_2 (w := Cond.code yX3_fitsJoin cX3_fitsJoin 3 (some .boolean)) (tw_d 78 (by decide +kernel)) rfl)
theorem tz_170 : Cond.instanceMethod yX3_fitsJoin ∈ tb := (tq_2 (w := Cond.instanceMethod yX3_fitsJoin) (tw_instanceMethod 76 (by decide +kernel)) rfl)
theorem tz_171 : Cond.selects RX3 yX3_fitsJoin yX3_fitsJoin ∈ tb := (tq_2 (w := Cond.selects RX3 yX3_fitsJoin yX3_fitsJoin) (tw_selects 77 (by decide +kernel)) rfl)
theorem lk_RX3_95 : LkV RX3 95 mX3_fitsJoin 2 := ⟨(tq_2 (w := Cond.methodLink RX3 95 yX3_fitsJoin) (tw_methodLink 75 (by decide +kernel)) rfl), tz_170, tz_171, tz_0, tz_169, ⟨by decide +kernel, by decide +kernel, by decide +kernel, by decide +kernel⟩, by decide⟩
theorem lk_RX3_98 : LkV RX3 98 mX1_hasHill 1 := ⟨(tq_2 (w := Cond.methodLink RX3 98 yX1_hasHill) (tw_methodLink 79 (by decide +kernel)) rfl), tz_50, tz_51, tz_2, tz_49, ⟨by decide +kernel, by decide +kernel, by decide +kernel, by decide +kernel⟩, by decide⟩
theorem tz_172 : Cond.code yX1_addHill cX1_addHill 2 none ∈ tb := (tq_2 (w := Cond.code yX1_addHill cX1_addHill 2 none) (tw_d 90 (by decide +kernel)) rfl)
theorem tz_173 : Cond.instanceMethod yX1_addHill ∈ tb := (tq_2 (w := Cond.instanceMethod yX1_addHill) (tw_instanceMethod 88 (by decide +kernel)) rfl)
theorem tz_174 : Cond.selects RX1 yX1_addHill yX1_addHill ∈ tb := (tq_2 (w := Cond.selects RX1 yX1_addHill yX1_addHill) (tw_selects 89 (by decide +kernel)) rfl)
theorem lk_RX3_102 : LkV RX3 102 mX1_addHill 1 := ⟨(tq_2 (w := Cond.methodLink RX3 102 yX1_addHill) (tw_methodLink 87 (by decide +kernel)) rfl), tz_173, tz_174, tz_2, tz_172, ⟨by decide +kernel, by decide +kernel, by decide +kernel, by decide +kernel⟩, by decide⟩
theorem tz_175 : Cond.code yX1_addJoin cX1_addJoin 2 none ∈ tb := (tq_2 (w := Cond.code yX1_addJoin cX1_addJoin 2 none) (tw_d 94 (by decide +kernel)) rfl)
theorem tz_176 : Cond.instanceMethod yX1_addJoin ∈ tb := (tq_2 (w := Cond.instanceMethod yX1_addJoin) (tw_instanceMethod 92 (by decide +kernel)) rfl)
theorem tz_177 : Cond.selects RX1 yX1_addJoin yX1_addJoin ∈ tb := (tq_2 (w := Cond.selects RX1 yX1_addJoin yX1_addJoin) (tw_selects 93 (by decide +kernel)) rfl)
theorem lk_RX3_106 : LkV RX3 106 mX1_addJoin 1 := ⟨(tq_2 (w := Cond.methodLink RX3 106 yX1_addJoin) (tw_methodLink 91 (by decide +kernel)) rfl), tz_176, tz_177, tz_2, tz_175, ⟨by decide +kernel, by decide +kernel, by decide +kernel, by decide +kernel⟩, by decide⟩
theorem tz_178 : Cond.code yX1_addMan cX1_addMan 2 none ∈ tb := (tq_2 (w := Cond.code yX1_addMan cX1_addMan 2 none) (tw_d 98 (by decide +kernel)) rfl)
theorem tz_179 : Cond.instanceMethod yX1_addMan ∈ tb := (tq_2 (w := Cond.instanceMethod yX1_addMan) (tw_instanceMethod 96 (by decide +kernel)) rfl)
theorem tz_180 : Cond.selects RX1 yX1_addMan yX1_addMan ∈ tb := (tq_2 (w := Cond.selects RX1 yX1_addMan yX1_addMan) (tw_selects 97 (by decide +kernel)) rfl)
theorem lk_RX3_109 : LkV RX3 109 mX1_addMan 1 := ⟨(tq_2 (w := Cond.methodLink RX3 109 yX1_addMan) (tw_methodLink 95 (by decide +kernel)) rfl), tz_179, tz_180, tz_2, tz_178, ⟨by decide +kernel, by decide +kernel, by decide +kernel, by decide +kernel⟩, by decide⟩
theorem tz_181 : Cond.code yX3_takeNumber cX3_takeNumber 3 none ∈ tb := (tq_2 (w := Cond.code yX3_takeNumber cX3_takeNumber 3 none) (tw_d 49 (by decide +kernel)) rfl)
theorem tz_182 : Cond.instanceMethod yX3_takeNumber ∈ tb := (tq_2 (w := Cond.instanceMethod yX3_takeNumber) (tw_instanceMethod 47 (by decide +kernel)) rfl)
theorem tz_183 : Cond.selects RX3 yX3_takeNumber yX3_takeNumber ∈ tb := (tq_2 (w := Cond.selects RX3 yX3_takeNumber yX3_takeNumber) (tw_selects 48 (by decide +kernel)) rfl)
theorem lk_RX3_123 : LkV RX3 123 mX3_takeNumber 0 := ⟨(tq_2 (w := Cond.methodLink RX3 123 yX3_takeNumber) (tw_methodLink 46 (by decide +kernel)) rfl), tz_182, tz_183, tz_0, tz_181, ⟨by decide +kernel, by decide +kernel, by decide +kernel, by decide +kernel⟩, by decide⟩
theorem tz_184 : Cond.code yX4_type cX4_type 2 (some .int) ∈ tb := (tq_2 (w := Cond.code yX4_type cX4_type 2 (some .int)) (tw_d 19 (by decide +kernel)) rfl)
theorem tz_185 : Cond.instanceMethod yX4_type ∈ tb := (tq_2 (w := Cond.instanceMethod yX4_type) (tw_instanceMethod 17 (by decide +kernel)) rfl)
theorem tz_186 : Cond.selects RX4 yX4_type yX4_type ∈ tb := (tq_2 (w := Cond.selects RX4 yX4_type yX4_type) (tw_selects 18 (by decide +kernel)) rfl)
theorem lk_RL_13 : LkV RL 13 mX4_type 1 := ⟨(tq_2 (w := Cond.methodLink RL 13 yX4_type) (tw_methodLink 16 (by decide +kernel)) rfl), tz_185, tz_186, tz_8, tz_184, ⟨by decide +kernel, by decide +kernel, by decide +kernel, by decide +kernel⟩, by decide⟩
theorem tz_187 : Cond.code yX5_type cX5_type 2 (some .int) ∈ tb := (tq_3 (w := Cond.code yX5_type cX5_type 2 (some .int)) (tw_d 239 (by decide +kernel)) rfl)
theorem tz_188 : Cond.instanceMethod yX5_type ∈ tb := (tq_3 (w := Cond.instanceMethod yX5_type) (tw_instanceMethod 237 (by decide +kernel)) rfl)
theorem tz_189 : Cond.selects RX5 yX5_type yX5_type ∈ tb := (tq_3 (w := Cond.selects RX5 yX5_type yX5_type) (tw_selects 238 (by decide +kernel)) rfl)
theorem lk_RL_17 : LkV RL 17 mX5_type 1 := ⟨(tq_3 (w := Cond.methodLink RL 17 yX5_type) (tw_methodLink 236 (by decide +kernel)) rfl), tz_188, tz_189, tz_10, tz_187, ⟨by decide +kernel, by decide +kernel, by decide +kernel, by decide +kernel⟩, by decide⟩
theorem tz_190 : Cond.code yX4_clear cX4_clear 2 (some .int) ∈ tb := (tq_2 (w := Cond.code yX4_clear cX4_clear 2 (some .int)) (tw_d 23 (by decide +kernel)) rfl)
theorem tz_191 : Cond.instanceMethod yX4_clear ∈ tb := (tq_2 (w := Cond.instanceMethod yX4_clear) (tw_instanceMethod 21 (by decide +kernel)) rfl)
theorem tz_192 : Cond.selects RX4 yX4_clear yX4_clear ∈ tb := (tq_2 (w := Cond.selects RX4 yX4_clear yX4_clear) (tw_selects 22 (by decide +kernel)) rfl)
theorem lk_RL_18 : LkV RL 18 mX4_clear 0 := ⟨(tq_2 (w := Cond.methodLink RL 18 yX4_clear) (tw_methodLink 20 (by decide +kernel)) rfl), tz_191, tz_192, tz_8, tz_190, ⟨by decide +kernel, by decide +kernel, by decide +kernel, by decide +kernel⟩, by decide⟩
theorem tz_193 : Cond.code yX5_clear cX5_clear 2 (some .int) ∈ tb := (tq_4 (w := Cond.code yX5_clear cX5_clear 2 (some .int)) (tw_d 7 (by decide +kernel)) rfl)
theorem tz_194 : Cond.instanceMethod yX5_clear ∈ tb := (tq_4 (w := Cond.instanceMethod yX5_clear) (tw_instanceMethod 5 (by decide +kernel)) rfl)
theorem tz_195 : Cond.selects RX5 yX5_clear yX5_clear ∈ tb := (tq_4 (w := Cond.selects RX5 yX5_clear yX5_clear) (tw_selects 6 (by decide +kernel)) rfl)
theorem lk_RL_22 : LkV RL 22 mX5_clear 0 := ⟨(tq_4 (w := Cond.methodLink RL 22 yX5_clear) (tw_methodLink 4 (by decide +kernel)) rfl), tz_194, tz_195, tz_10, tz_193, ⟨by decide +kernel, by decide +kernel, by decide +kernel, by decide +kernel⟩, by decide⟩
theorem tz_196 : Cond.code yX4_hills cX4_hills 4 (some .int) ∈ tb := (tq_2 (w := Cond.code yX4_hills cX4_hills 4 (some .int)) (tw_d 27 (by decide +kernel)) rfl)
theorem tz_197 : Cond.instanceMethod yX4_hills ∈ tb := (tq_2 (w := Cond.instanceMethod yX4_hills) (tw_instanceMethod 25 (by decide +kernel)) rfl)
theorem tz_198 : Cond.selects RX4 yX4_hills yX4_hills ∈ tb := (tq_2 (w := Cond.selects RX4 yX4_hills yX4_hills) (tw_selects 26 (by decide +kernel)) rfl)
theorem lk_RL_23 : LkV RL 23 mX4_hills 0 := ⟨(tq_2 (w := Cond.methodLink RL 23 yX4_hills) (tw_methodLink 24 (by decide +kernel)) rfl), tz_197, tz_198, tz_8, tz_196, ⟨by decide +kernel, by decide +kernel, by decide +kernel, by decide +kernel⟩, by decide⟩
theorem tz_199 : Cond.code yX5_hills cX5_hills 3 (some .int) ∈ tb := (tq_4 (w := Cond.code yX5_hills cX5_hills 3 (some .int)) (tw_d 11 (by decide +kernel)) rfl)
theorem tz_200 : Cond.instanceMethod yX5_hills ∈ tb := (tq_4 (w := Cond.instanceMethod yX5_hills) (tw_instanceMethod 9 (by decide +kernel)) rfl)
theorem tz_201 : Cond.selects RX5 yX5_hills yX5_hills ∈ tb := (tq_4 (w := Cond.selects RX5 yX5_hills yX5_hills) (tw_selects 10 (by decide +kernel)) rfl)
theorem lk_RL_26 : LkV RL 26 mX5_hills 0 := ⟨(tq_4 (w := Cond.methodLink RL 26 yX5_hills) (tw_methodLink 8 (by decide +kernel)) rfl), tz_200, tz_201, tz_10, tz_199, ⟨by decide +kernel, by decide +kernel, by decide +kernel, by decide +kernel⟩, by decide⟩
theorem tz_202 : Cond.code yX4_hill cX4_hill 3 (some .int) ∈ tb := (tq_2 (w := Cond.code yX4_hill cX4_hill 3 (some .int)) (tw_d 102 (by decide +kernel)) rfl)
theorem tz_203 : Cond.instanceMethod yX4_hill ∈ tb := (tq_2 (w := Cond.instanceMethod yX4_hill) (tw_instanceMethod 100 (by decide +kernel)) rfl)
theorem tz_204 : Cond.selects RX4 yX4_hill yX4_hill ∈ tb := (tq_2 (w := Cond.selects RX4 yX4_hill yX4_hill) (tw_selects 101 (by decide +kernel)) rfl)
theorem lk_RL_27 : LkV RL 27 mX4_hill 2 := ⟨(tq_2 (w := Cond.methodLink RL 27 yX4_hill) (tw_methodLink 99 (by decide +kernel)) rfl), tz_203, tz_204, tz_8, tz_202, ⟨by decide +kernel, by decide +kernel, by decide +kernel, by decide +kernel⟩, by decide⟩
theorem tz_205 : Cond.code yX5_hill cX5_hill 3 (some .int) ∈ tb := (tq_4 (w := Cond.code yX5_hill cX5_hill 3 (some .int)) (tw_d 47 (by decide +kernel)) rfl)
theorem tz_206 : Cond.instanceMethod yX5_hill ∈ tb := (tq_4 (w := Cond.instanceMethod yX5_hill) (tw_instanceMethod 45 (by decide +kernel)) rfl)
theorem tz_207 : Cond.selects RX5 yX5_hill yX5_hill ∈ tb := (tq_4 (w := Cond.selects RX5 yX5_hill yX5_hill) (tw_selects 46 (by decide +kernel)) rfl)
theorem lk_RL_31 : LkV RL 31 mX5_hill 2 := ⟨(tq_4 (w := Cond.methodLink RL 31 yX5_hill) (tw_methodLink 44 (by decide +kernel)) rfl), tz_206, tz_207, tz_10, tz_205, ⟨by decide +kernel, by decide +kernel, by decide +kernel, by decide +kernel⟩, by decide⟩
theorem tz_208 : Cond.code yX4_stone cX4_stone 3 (some .int) ∈ tb := (tq_2 (w := Cond.code yX4_stone cX4_stone 3 (some .int)) (tw_d 107 (by decide +kernel)) rfl)
theorem tz_209 : Cond.instanceMethod yX4_stone ∈ tb := (tq_2 (w := Cond.instanceMethod yX4_stone) (tw_instanceMethod 105 (by decide +kernel)) rfl)
theorem tz_210 : Cond.selects RX4 yX4_stone yX4_stone ∈ tb := (tq_2 (w := Cond.selects RX4 yX4_stone yX4_stone) (tw_selects 106 (by decide +kernel)) rfl)
theorem lk_RL_32 : LkV RL 32 mX4_stone 2 := ⟨(tq_2 (w := Cond.methodLink RL 32 yX4_stone) (tw_methodLink 104 (by decide +kernel)) rfl), tz_209, tz_210, tz_8, tz_208, ⟨by decide +kernel, by decide +kernel, by decide +kernel, by decide +kernel⟩, by decide⟩
theorem tz_211 : Cond.code yX5_stone cX5_stone 3 (some .int) ∈ tb := (tq_4 (w := Cond.code yX5_stone cX5_stone 3 (some .int)) (tw_d 55 (by decide +kernel)) rfl)
theorem tz_212 : Cond.instanceMethod yX5_stone ∈ tb := (tq_4 (w := Cond.instanceMethod yX5_stone) (tw_instanceMethod 53 (by decide +kernel)) rfl)
theorem tz_213 : Cond.selects RX5 yX5_stone yX5_stone ∈ tb := (tq_4 (w := Cond.selects RX5 yX5_stone yX5_stone) (tw_selects 54 (by decide +kernel)) rfl)
theorem lk_RL_35 : LkV RL 35 mX5_stone 2 := ⟨(tq_4 (w := Cond.methodLink RL 35 yX5_stone) (tw_methodLink 52 (by decide +kernel)) rfl), tz_212, tz_213, tz_10, tz_211, ⟨by decide +kernel, by decide +kernel, by decide +kernel, by decide +kernel⟩, by decide⟩
theorem tz_214 : Cond.code yX4_man cX4_man 3 (some .int) ∈ tb := (tq_2 (w := Cond.code yX4_man cX4_man 3 (some .int)) (tw_d 122 (by decide +kernel)) rfl)
theorem tz_215 : Cond.instanceMethod yX4_man ∈ tb := (tq_2 (w := Cond.instanceMethod yX4_man) (tw_instanceMethod 120 (by decide +kernel)) rfl)
theorem tz_216 : Cond.selects RX4 yX4_man yX4_man ∈ tb := (tq_2 (w := Cond.selects RX4 yX4_man yX4_man) (tw_selects 121 (by decide +kernel)) rfl)
theorem lk_RL_36 : LkV RL 36 mX4_man 2 := ⟨(tq_2 (w := Cond.methodLink RL 36 yX4_man) (tw_methodLink 119 (by decide +kernel)) rfl), tz_215, tz_216, tz_8, tz_214, ⟨by decide +kernel, by decide +kernel, by decide +kernel, by decide +kernel⟩, by decide⟩
theorem tz_217 : Cond.code yX5_man cX5_man 3 (some .int) ∈ tb := (tq_4 (w := Cond.code yX5_man cX5_man 3 (some .int)) (tw_d 74 (by decide +kernel)) rfl)
theorem tz_218 : Cond.instanceMethod yX5_man ∈ tb := (tq_4 (w := Cond.instanceMethod yX5_man) (tw_instanceMethod 72 (by decide +kernel)) rfl)
theorem tz_219 : Cond.selects RX5 yX5_man yX5_man ∈ tb := (tq_4 (w := Cond.selects RX5 yX5_man yX5_man) (tw_selects 73 (by decide +kernel)) rfl)
theorem lk_RL_39 : LkV RL 39 mX5_man 2 := ⟨(tq_4 (w := Cond.methodLink RL 39 yX5_man) (tw_methodLink 71 (by decide +kernel)) rfl), tz_218, tz_219, tz_10, tz_217, ⟨by decide +kernel, by decide +kernel, by decide +kernel, by decide +kernel⟩, by decide⟩
theorem tz_220 : Cond.code yX4_now cX4_now 2 (some .int) ∈ tb := (tq_2 (w := Cond.code yX4_now cX4_now 2 (some .int)) (tw_d 130 (by decide +kernel)) rfl)
theorem tz_221 : Cond.instanceMethod yX4_now ∈ tb := (tq_2 (w := Cond.instanceMethod yX4_now) (tw_instanceMethod 128 (by decide +kernel)) rfl)
theorem tz_222 : Cond.selects RX4 yX4_now yX4_now ∈ tb := (tq_2 (w := Cond.selects RX4 yX4_now yX4_now) (tw_selects 129 (by decide +kernel)) rfl)
theorem lk_RL_40 : LkV RL 40 mX4_now 1 := ⟨(tq_2 (w := Cond.methodLink RL 40 yX4_now) (tw_methodLink 127 (by decide +kernel)) rfl), tz_221, tz_222, tz_8, tz_220, ⟨by decide +kernel, by decide +kernel, by decide +kernel, by decide +kernel⟩, by decide⟩
theorem tz_223 : Cond.code yX5_now cX5_now 2 (some .int) ∈ tb := (tq_4 (w := Cond.code yX5_now cX5_now 2 (some .int)) (tw_d 82 (by decide +kernel)) rfl)
theorem tz_224 : Cond.instanceMethod yX5_now ∈ tb := (tq_4 (w := Cond.instanceMethod yX5_now) (tw_instanceMethod 80 (by decide +kernel)) rfl)
theorem tz_225 : Cond.selects RX5 yX5_now yX5_now ∈ tb := (tq_4 (w := Cond.selects RX5 yX5_now yX5_now) (tw_selects 81 (by decide +kernel)) rfl)
theorem lk_RL_43 : LkV RL 43 mX5_now 1 := ⟨(tq_4 (w := Cond.methodLink RL 43 yX5_now) (tw_methodLink 79 (by decide +kernel)) rfl), tz_224, tz_225, tz_10, tz_223, ⟨by decide +kernel, by decide +kernel, by decide +kernel, by decide +kernel⟩, by decide⟩
theorem tz_226 : Cond.code yX4_order cX4_order 4 (some .int) ∈ tb := (tq_2 (w := Cond.code yX4_order cX4_order 4 (some .int)) (tw_d 139 (by decide +kernel)) rfl)
theorem tz_227 : Cond.instanceMethod yX4_order ∈ tb := (tq_2 (w := Cond.instanceMethod yX4_order) (tw_instanceMethod 137 (by decide +kernel)) rfl)
theorem tz_228 : Cond.selects RX4 yX4_order yX4_order ∈ tb := (tq_2 (w := Cond.selects RX4 yX4_order yX4_order) (tw_selects 138 (by decide +kernel)) rfl)
theorem lk_RL_44 : LkV RL 44 mX4_order 2 := ⟨(tq_2 (w := Cond.methodLink RL 44 yX4_order) (tw_methodLink 136 (by decide +kernel)) rfl), tz_227, tz_228, tz_8, tz_226, ⟨by decide +kernel, by decide +kernel, by decide +kernel, by decide +kernel⟩, by decide⟩
theorem tz_229 : Cond.code yX5_order cX5_order 4 (some .int) ∈ tb := (tq_4 (w := Cond.code yX5_order cX5_order 4 (some .int)) (tw_d 90 (by decide +kernel)) rfl)
theorem tz_230 : Cond.instanceMethod yX5_order ∈ tb := (tq_4 (w := Cond.instanceMethod yX5_order) (tw_instanceMethod 88 (by decide +kernel)) rfl)
theorem tz_231 : Cond.selects RX5 yX5_order yX5_order ∈ tb := (tq_4 (w := Cond.selects RX5 yX5_order yX5_order) (tw_selects 89 (by decide +kernel)) rfl)
theorem lk_RL_47 : LkV RL 47 mX5_order 2 := ⟨(tq_4 (w := Cond.methodLink RL 47 yX5_order) (tw_methodLink 87 (by decide +kernel)) rfl), tz_230, tz_231, tz_10, tz_229, ⟨by decide +kernel, by decide +kernel, by decide +kernel, by decide +kernel⟩, by decide⟩
theorem tz_232 : Cond.code yX4_hour cX4_hour 2 (some .int) ∈ tb := (tq_2 (w := Cond.code yX4_hour cX4_hour 2 (some .int)) (tw_d 154 (by decide +kernel)) rfl)
theorem tz_233 : Cond.instanceMethod yX4_hour ∈ tb := (tq_2 (w := Cond.instanceMethod yX4_hour) (tw_instanceMethod 152 (by decide +kernel)) rfl)
theorem tz_234 : Cond.selects RX4 yX4_hour yX4_hour ∈ tb := (tq_2 (w := Cond.selects RX4 yX4_hour yX4_hour) (tw_selects 153 (by decide +kernel)) rfl)
theorem lk_RL_48 : LkV RL 48 mX4_hour 0 := ⟨(tq_2 (w := Cond.methodLink RL 48 yX4_hour) (tw_methodLink 151 (by decide +kernel)) rfl), tz_233, tz_234, tz_8, tz_232, ⟨by decide +kernel, by decide +kernel, by decide +kernel, by decide +kernel⟩, by decide⟩
theorem tz_235 : Cond.code yX5_hour cX5_hour 2 (some .int) ∈ tb := (tq_4 (w := Cond.code yX5_hour cX5_hour 2 (some .int)) (tw_d 102 (by decide +kernel)) rfl)
theorem tz_236 : Cond.instanceMethod yX5_hour ∈ tb := (tq_4 (w := Cond.instanceMethod yX5_hour) (tw_instanceMethod 100 (by decide +kernel)) rfl)
theorem tz_237 : Cond.selects RX5 yX5_hour yX5_hour ∈ tb := (tq_4 (w := Cond.selects RX5 yX5_hour yX5_hour) (tw_selects 101 (by decide +kernel)) rfl)
theorem lk_RL_51 : LkV RL 51 mX5_hour 0 := ⟨(tq_4 (w := Cond.methodLink RL 51 yX5_hour) (tw_methodLink 99 (by decide +kernel)) rfl), tz_236, tz_237, tz_10, tz_235, ⟨by decide +kernel, by decide +kernel, by decide +kernel, by decide +kernel⟩, by decide⟩
theorem tz_238 : Cond.code yX4_undo cX4_undo 1 (some .int) ∈ tb := (tq_2 (w := Cond.code yX4_undo cX4_undo 1 (some .int)) (tw_d 202 (by decide +kernel)) rfl)
theorem tz_239 : Cond.instanceMethod yX4_undo ∈ tb := (tq_2 (w := Cond.instanceMethod yX4_undo) (tw_instanceMethod 200 (by decide +kernel)) rfl)
theorem tz_240 : Cond.selects RX4 yX4_undo yX4_undo ∈ tb := (tq_2 (w := Cond.selects RX4 yX4_undo yX4_undo) (tw_selects 201 (by decide +kernel)) rfl)
theorem lk_RL_52 : LkV RL 52 mX4_undo 0 := ⟨(tq_2 (w := Cond.methodLink RL 52 yX4_undo) (tw_methodLink 199 (by decide +kernel)) rfl), tz_239, tz_240, tz_8, tz_238, ⟨by decide +kernel, by decide +kernel, by decide +kernel, by decide +kernel⟩, by decide⟩
theorem tz_241 : Cond.code yX5_undo cX5_undo 1 (some .int) ∈ tb := (tq_4 (w := Cond.code yX5_undo cX5_undo 1 (some .int)) (tw_d 134 (by decide +kernel)) rfl)
theorem tz_242 : Cond.instanceMethod yX5_undo ∈ tb := (tq_4 (w := Cond.instanceMethod yX5_undo) (tw_instanceMethod 132 (by decide +kernel)) rfl)
theorem tz_243 : Cond.selects RX5 yX5_undo yX5_undo ∈ tb := (tq_4 (w := Cond.selects RX5 yX5_undo yX5_undo) (tw_selects 133 (by decide +kernel)) rfl)
theorem lk_RL_55 : LkV RL 55 mX5_undo 0 := ⟨(tq_4 (w := Cond.methodLink RL 55 yX5_undo) (tw_methodLink 131 (by decide +kernel)) rfl), tz_242, tz_243, tz_10, tz_241, ⟨by decide +kernel, by decide +kernel, by decide +kernel, by decide +kernel⟩, by decide⟩
theorem tz_244 : Cond.code yX4_highest cX4_highest 4 (some .int) ∈ tb := (tq_2 (w := Cond.code yX4_highest cX4_highest 4 (some .int)) (tw_d 206 (by decide +kernel)) rfl)
theorem tz_245 : Cond.instanceMethod yX4_highest ∈ tb := (tq_2 (w := Cond.instanceMethod yX4_highest) (tw_instanceMethod 204 (by decide +kernel)) rfl)
theorem tz_246 : Cond.selects RX4 yX4_highest yX4_highest ∈ tb := (tq_2 (w := Cond.selects RX4 yX4_highest yX4_highest) (tw_selects 205 (by decide +kernel)) rfl)
theorem lk_RL_56 : LkV RL 56 mX4_highest 2 := ⟨(tq_2 (w := Cond.methodLink RL 56 yX4_highest) (tw_methodLink 203 (by decide +kernel)) rfl), tz_245, tz_246, tz_8, tz_244, ⟨by decide +kernel, by decide +kernel, by decide +kernel, by decide +kernel⟩, by decide⟩
theorem tz_247 : Cond.code yX5_highest cX5_highest 9 (some .int) ∈ tb := (tq_4 (w := Cond.code yX5_highest cX5_highest 9 (some .int)) (tw_d 138 (by decide +kernel)) rfl)
theorem tz_248 : Cond.instanceMethod yX5_highest ∈ tb := (tq_4 (w := Cond.instanceMethod yX5_highest) (tw_instanceMethod 136 (by decide +kernel)) rfl)
theorem tz_249 : Cond.selects RX5 yX5_highest yX5_highest ∈ tb := (tq_4 (w := Cond.selects RX5 yX5_highest yX5_highest) (tw_selects 137 (by decide +kernel)) rfl)
theorem lk_RL_59 : LkV RL 59 mX5_highest 2 := ⟨(tq_4 (w := Cond.methodLink RL 59 yX5_highest) (tw_methodLink 135 (by decide +kernel)) rfl), tz_248, tz_249, tz_10, tz_247, ⟨by decide +kernel, by decide +kernel, by decide +kernel, by decide +kernel⟩, by decide⟩
theorem tz_250 : Cond.code yX4_days cX4_days 3 (some .int) ∈ tb := (tq_3 (w := Cond.code yX4_days cX4_days 3 (some .int)) (tw_d 6 (by decide +kernel)) rfl)
theorem tz_251 : Cond.instanceMethod yX4_days ∈ tb := (tq_3 (w := Cond.instanceMethod yX4_days) (tw_instanceMethod 4 (by decide +kernel)) rfl)
theorem tz_252 : Cond.selects RX4 yX4_days yX4_days ∈ tb := (tq_3 (w := Cond.selects RX4 yX4_days yX4_days) (tw_selects 5 (by decide +kernel)) rfl)
theorem lk_RL_60 : LkV RL 60 mX4_days 1 := ⟨(tq_3 (w := Cond.methodLink RL 60 yX4_days) (tw_methodLink 3 (by decide +kernel)) rfl), tz_251, tz_252, tz_8, tz_250, ⟨by decide +kernel, by decide +kernel, by decide +kernel, by decide +kernel⟩, by decide⟩
theorem tz_253 : Cond.code yX5_days cX5_days 3 (some .int) ∈ tb := (tq_4 (w := Cond.code yX5_days cX5_days 3 (some .int)) (tw_d 154 (by decide +kernel)) rfl)
theorem tz_254 : Cond.instanceMethod yX5_days ∈ tb := (tq_4 (w := Cond.instanceMethod yX5_days) (tw_instanceMethod 152 (by decide +kernel)) rfl)
theorem tz_255 : Cond.selects RX5 yX5_days yX5_days ∈ tb := (tq_4 (w := Cond.selects RX5 yX5_days yX5_days) (tw_selects 153 (by decide +kernel)) rfl)
theorem lk_RL_63 : LkV RL 63 mX5_days 1 := ⟨(tq_4 (w := Cond.methodLink RL 63 yX5_days) (tw_methodLink 151 (by decide +kernel)) rfl), tz_254, tz_255, tz_10, tz_253, ⟨by decide +kernel, by decide +kernel, by decide +kernel, by decide +kernel⟩, by decide⟩
theorem tz_256 : Cond.code yX4_little cX4_little 4 (some .int) ∈ tb := (tq_3 (w := Cond.code yX4_little cX4_little 4 (some .int)) (tw_d 20 (by decide +kernel)) rfl)
theorem tz_257 : Cond.instanceMethod yX4_little ∈ tb := (tq_3 (w := Cond.instanceMethod yX4_little) (tw_instanceMethod 18 (by decide +kernel)) rfl)
theorem tz_258 : Cond.selects RX4 yX4_little yX4_little ∈ tb := (tq_3 (w := Cond.selects RX4 yX4_little yX4_little) (tw_selects 19 (by decide +kernel)) rfl)
theorem lk_RL_64 : LkV RL 64 mX4_little 1 := ⟨(tq_3 (w := Cond.methodLink RL 64 yX4_little) (tw_methodLink 17 (by decide +kernel)) rfl), tz_257, tz_258, tz_8, tz_256, ⟨by decide +kernel, by decide +kernel, by decide +kernel, by decide +kernel⟩, by decide⟩
theorem tz_259 : Cond.code yX5_little cX5_little 3 (some .int) ∈ tb := (tq_4 (w := Cond.code yX5_little cX5_little 3 (some .int)) (tw_d 162 (by decide +kernel)) rfl)
theorem tz_260 : Cond.instanceMethod yX5_little ∈ tb := (tq_4 (w := Cond.instanceMethod yX5_little) (tw_instanceMethod 160 (by decide +kernel)) rfl)
theorem tz_261 : Cond.selects RX5 yX5_little yX5_little ∈ tb := (tq_4 (w := Cond.selects RX5 yX5_little yX5_little) (tw_selects 161 (by decide +kernel)) rfl)
theorem lk_RL_67 : LkV RL 67 mX5_little 1 := ⟨(tq_4 (w := Cond.methodLink RL 67 yX5_little) (tw_methodLink 159 (by decide +kernel)) rfl), tz_260, tz_261, tz_10, tz_259, ⟨by decide +kernel, by decide +kernel, by decide +kernel, by decide +kernel⟩, by decide⟩
theorem tz_262 : Cond.code yX4_crew cX4_crew 6 (some .int) ∈ tb := (tq_3 (w := Cond.code yX4_crew cX4_crew 6 (some .int)) (tw_d 30 (by decide +kernel)) rfl)
theorem tz_263 : Cond.instanceMethod yX4_crew ∈ tb := (tq_3 (w := Cond.instanceMethod yX4_crew) (tw_instanceMethod 28 (by decide +kernel)) rfl)
theorem tz_264 : Cond.selects RX4 yX4_crew yX4_crew ∈ tb := (tq_3 (w := Cond.selects RX4 yX4_crew yX4_crew) (tw_selects 29 (by decide +kernel)) rfl)
theorem lk_RL_68 : LkV RL 68 mX4_crew 1 := ⟨(tq_3 (w := Cond.methodLink RL 68 yX4_crew) (tw_methodLink 27 (by decide +kernel)) rfl), tz_263, tz_264, tz_8, tz_262, ⟨by decide +kernel, by decide +kernel, by decide +kernel, by decide +kernel⟩, by decide⟩
theorem tz_265 : Cond.code yX5_crew cX5_crew 6 (some .int) ∈ tb := (tq_4 (w := Cond.code yX5_crew cX5_crew 6 (some .int)) (tw_d 170 (by decide +kernel)) rfl)
theorem tz_266 : Cond.instanceMethod yX5_crew ∈ tb := (tq_4 (w := Cond.instanceMethod yX5_crew) (tw_instanceMethod 168 (by decide +kernel)) rfl)
theorem tz_267 : Cond.selects RX5 yX5_crew yX5_crew ∈ tb := (tq_4 (w := Cond.selects RX5 yX5_crew yX5_crew) (tw_selects 169 (by decide +kernel)) rfl)
theorem lk_RL_71 : LkV RL 71 mX5_crew 1 := ⟨(tq_4 (w := Cond.methodLink RL 71 yX5_crew) (tw_methodLink 167 (by decide +kernel)) rfl), tz_266, tz_267, tz_10, tz_265, ⟨by decide +kernel, by decide +kernel, by decide +kernel, by decide +kernel⟩, by decide⟩
theorem tz_268 : Cond.code yX4_blocks cX4_blocks 2 (some .int) ∈ tb := (tq_3 (w := Cond.code yX4_blocks cX4_blocks 2 (some .int)) (tw_d 45 (by decide +kernel)) rfl)
theorem tz_269 : Cond.instanceMethod yX4_blocks ∈ tb := (tq_3 (w := Cond.instanceMethod yX4_blocks) (tw_instanceMethod 43 (by decide +kernel)) rfl)
theorem tz_270 : Cond.selects RX4 yX4_blocks yX4_blocks ∈ tb := (tq_3 (w := Cond.selects RX4 yX4_blocks yX4_blocks) (tw_selects 44 (by decide +kernel)) rfl)
theorem lk_RL_72 : LkV RL 72 mX4_blocks 1 := ⟨(tq_3 (w := Cond.methodLink RL 72 yX4_blocks) (tw_methodLink 42 (by decide +kernel)) rfl), tz_269, tz_270, tz_8, tz_268, ⟨by decide +kernel, by decide +kernel, by decide +kernel, by decide +kernel⟩, by decide⟩
theorem tz_271 : Cond.code yX5_blocks cX5_blocks 2 (some .int) ∈ tb := (tq_4 (w := Cond.code yX5_blocks cX5_blocks 2 (some .int)) (tw_d 177 (by decide +kernel)) rfl)
theorem tz_272 : Cond.instanceMethod yX5_blocks ∈ tb := (tq_4 (w := Cond.instanceMethod yX5_blocks) (tw_instanceMethod 175 (by decide +kernel)) rfl)
theorem tz_273 : Cond.selects RX5 yX5_blocks yX5_blocks ∈ tb := (tq_4 (w := Cond.selects RX5 yX5_blocks yX5_blocks) (tw_selects 176 (by decide +kernel)) rfl)
theorem lk_RL_75 : LkV RL 75 mX5_blocks 1 := ⟨(tq_4 (w := Cond.methodLink RL 75 yX5_blocks) (tw_methodLink 174 (by decide +kernel)) rfl), tz_272, tz_273, tz_10, tz_271, ⟨by decide +kernel, by decide +kernel, by decide +kernel, by decide +kernel⟩, by decide⟩
theorem tz_274 : Cond.code yX4_written cX4_written 3 (some .int) ∈ tb := (tq_3 (w := Cond.code yX4_written cX4_written 3 (some .int)) (tw_d 50 (by decide +kernel)) rfl)
theorem tz_275 : Cond.instanceMethod yX4_written ∈ tb := (tq_3 (w := Cond.instanceMethod yX4_written) (tw_instanceMethod 48 (by decide +kernel)) rfl)
theorem tz_276 : Cond.selects RX4 yX4_written yX4_written ∈ tb := (tq_3 (w := Cond.selects RX4 yX4_written yX4_written) (tw_selects 49 (by decide +kernel)) rfl)
theorem lk_RL_76 : LkV RL 76 mX4_written 2 := ⟨(tq_3 (w := Cond.methodLink RL 76 yX4_written) (tw_methodLink 47 (by decide +kernel)) rfl), tz_275, tz_276, tz_8, tz_274, ⟨by decide +kernel, by decide +kernel, by decide +kernel, by decide +kernel⟩, by decide⟩
theorem tz_277 : Cond.code yX5_written cX5_written 3 (some .int) ∈ tb := (tq_4 (w := Cond.code yX5_written cX5_written 3 (some .int)) (tw_d 181 (by decide +kernel)) rfl)
theorem tz_278 : Cond.instanceMethod yX5_written ∈ tb := (tq_4 (w := Cond.instanceMethod yX5_written) (tw_instanceMethod 179 (by decide +kernel)) rfl)
theorem tz_279 : Cond.selects RX5 yX5_written yX5_written ∈ tb := (tq_4 (w := Cond.selects RX5 yX5_written yX5_written) (tw_selects 180 (by decide +kernel)) rfl)
theorem lk_RL_79 : LkV RL 79 mX5_written 2 := ⟨(tq_4 (w := Cond.methodLink RL 79 yX5_written) (tw_methodLink 178 (by decide +kernel)) rfl), tz_278, tz_279, tz_10, tz_277, ⟨by decide +kernel, by decide +kernel, by decide +kernel, by decide +kernel⟩, by decide⟩
theorem tz_280 : Cond.code yX4_saw cX4_saw 3 (some .int) ∈ tb := (tq_3 (w := Cond.code yX4_saw cX4_saw 3 (some .int)) (tw_d 58 (by decide +kernel)) rfl)
theorem tz_281 : Cond.instanceMethod yX4_saw ∈ tb := (tq_3 (w := Cond.instanceMethod yX4_saw) (tw_instanceMethod 56 (by decide +kernel)) rfl)
theorem tz_282 : Cond.selects RX4 yX4_saw yX4_saw ∈ tb := (tq_3 (w := Cond.selects RX4 yX4_saw yX4_saw) (tw_selects 57 (by decide +kernel)) rfl)
theorem lk_RL_80 : LkV RL 80 mX4_saw 2 := ⟨(tq_3 (w := Cond.methodLink RL 80 yX4_saw) (tw_methodLink 55 (by decide +kernel)) rfl), tz_281, tz_282, tz_8, tz_280, ⟨by decide +kernel, by decide +kernel, by decide +kernel, by decide +kernel⟩, by decide⟩
theorem tz_283 : Cond.code yX5_saw cX5_saw 3 (some .int) ∈ tb := (tq_4 (w := Cond.code yX5_saw cX5_saw 3 (some .int)) (tw_d 185 (by decide +kernel)) rfl)
theorem tz_284 : Cond.instanceMethod yX5_saw ∈ tb := (tq_4 (w := Cond.instanceMethod yX5_saw) (tw_instanceMethod 183 (by decide +kernel)) rfl)
theorem tz_285 : Cond.selects RX5 yX5_saw yX5_saw ∈ tb := (tq_4 (w := Cond.selects RX5 yX5_saw yX5_saw) (tw_selects 184 (by decide +kernel)) rfl)
theorem lk_RL_83 : LkV RL 83 mX5_saw 2 := ⟨(tq_4 (w := Cond.methodLink RL 83 yX5_saw) (tw_methodLink 182 (by decide +kernel)) rfl), tz_284, tz_285, tz_10, tz_283, ⟨by decide +kernel, by decide +kernel, by decide +kernel, by decide +kernel⟩, by decide⟩
theorem tz_286 : Cond.code yX4_forget cX4_forget 2 (some .int) ∈ tb := (tq_3 (w := Cond.code yX4_forget cX4_forget 2 (some .int)) (tw_d 62 (by decide +kernel)) rfl)
theorem tz_287 : Cond.instanceMethod yX4_forget ∈ tb := (tq_3 (w := Cond.instanceMethod yX4_forget) (tw_instanceMethod 60 (by decide +kernel)) rfl)
theorem tz_288 : Cond.selects RX4 yX4_forget yX4_forget ∈ tb := (tq_3 (w := Cond.selects RX4 yX4_forget yX4_forget) (tw_selects 61 (by decide +kernel)) rfl)
theorem lk_RL_84 : LkV RL 84 mX4_forget 0 := ⟨(tq_3 (w := Cond.methodLink RL 84 yX4_forget) (tw_methodLink 59 (by decide +kernel)) rfl), tz_287, tz_288, tz_8, tz_286, ⟨by decide +kernel, by decide +kernel, by decide +kernel, by decide +kernel⟩, by decide⟩
theorem tz_289 : Cond.code yX5_forget cX5_forget 2 (some .int) ∈ tb := (tq_4 (w := Cond.code yX5_forget cX5_forget 2 (some .int)) (tw_d 190 (by decide +kernel)) rfl)
theorem tz_290 : Cond.instanceMethod yX5_forget ∈ tb := (tq_4 (w := Cond.instanceMethod yX5_forget) (tw_instanceMethod 188 (by decide +kernel)) rfl)
theorem tz_291 : Cond.selects RX5 yX5_forget yX5_forget ∈ tb := (tq_4 (w := Cond.selects RX5 yX5_forget yX5_forget) (tw_selects 189 (by decide +kernel)) rfl)
theorem lk_RL_87 : LkV RL 87 mX5_forget 0 := ⟨(tq_4 (w := Cond.methodLink RL 87 yX5_forget) (tw_methodLink 187 (by decide +kernel)) rfl), tz_290, tz_291, tz_10, tz_289, ⟨by decide +kernel, by decide +kernel, by decide +kernel, by decide +kernel⟩, by decide⟩
theorem tz_292 : Cond.code yX4_evening cX4_evening 3 (some .int) ∈ tb := (tq_3 (w := Cond.code yX4_evening cX4_evening 3 (some .int)) (tw_d 66 (by decide +kernel)) rfl)
theorem tz_293 : Cond.instanceMethod yX4_evening ∈ tb := (tq_3 (w := Cond.instanceMethod yX4_evening) (tw_instanceMethod 64 (by decide +kernel)) rfl)
theorem tz_294 : Cond.selects RX4 yX4_evening yX4_evening ∈ tb := (tq_3 (w := Cond.selects RX4 yX4_evening yX4_evening) (tw_selects 65 (by decide +kernel)) rfl)
theorem lk_RL_88 : LkV RL 88 mX4_evening 0 := ⟨(tq_3 (w := Cond.methodLink RL 88 yX4_evening) (tw_methodLink 63 (by decide +kernel)) rfl), tz_293, tz_294, tz_8, tz_292, ⟨by decide +kernel, by decide +kernel, by decide +kernel, by decide +kernel⟩, by decide⟩
theorem tz_295 : Cond.code yX5_evening cX5_evening 5 (some .int) ∈ tb := (tq_4 (w := Cond.code yX5_evening cX5_evening 5 (some .int)) (tw_d 194 (by decide +kernel)) rfl)
theorem tz_296 : Cond.instanceMethod yX5_evening ∈ tb := (tq_4 (w := Cond.instanceMethod yX5_evening) (tw_instanceMethod 192 (by decide +kernel)) rfl)
theorem tz_297 : Cond.selects RX5 yX5_evening yX5_evening ∈ tb := (tq_4 (w := Cond.selects RX5 yX5_evening yX5_evening) (tw_selects 193 (by decide +kernel)) rfl)
theorem lk_RL_91 : LkV RL 91 mX5_evening 0 := ⟨(tq_4 (w := Cond.methodLink RL 91 yX5_evening) (tw_methodLink 191 (by decide +kernel)) rfl), tz_296, tz_297, tz_10, tz_295, ⟨by decide +kernel, by decide +kernel, by decide +kernel, by decide +kernel⟩, by decide⟩
theorem tz_298 : Cond.code yX4_odds cX4_odds 14 (some .long) ∈ tb := (tq_3 (w := Cond.code yX4_odds cX4_odds 14 (some .long)) (tw_d 74 (by decide +kernel)) rfl)
theorem tz_299 : Cond.instanceMethod yX4_odds ∈ tb := (tq_3 (w := Cond.instanceMethod yX4_odds) (tw_instanceMethod 72 (by decide +kernel)) rfl)
theorem tz_300 : Cond.selects RX4 yX4_odds yX4_odds ∈ tb := (tq_3 (w := Cond.selects RX4 yX4_odds yX4_odds) (tw_selects 73 (by decide +kernel)) rfl)
theorem lk_RL_92 : LkV RL 92 mX4_odds 4 := ⟨(tq_3 (w := Cond.methodLink RL 92 yX4_odds) (tw_methodLink 71 (by decide +kernel)) rfl), tz_299, tz_300, tz_8, tz_298, ⟨by decide +kernel, by decide +kernel, by decide +kernel, by decide +kernel⟩, by decide⟩
theorem tz_301 : Cond.code yX5_odds cX5_odds 13 (some .long) ∈ tb := (tq_4 (w := Cond.code yX5_odds cX5_odds 13 (some .long)) (tw_d 198 (by decide +kernel)) rfl)
theorem tz_302 : Cond.instanceMethod yX5_odds ∈ tb := (tq_4 (w := Cond.instanceMethod yX5_odds) (tw_instanceMethod 196 (by decide +kernel)) rfl)
theorem tz_303 : Cond.selects RX5 yX5_odds yX5_odds ∈ tb := (tq_4 (w := Cond.selects RX5 yX5_odds yX5_odds) (tw_selects 197 (by decide +kernel)) rfl)
theorem lk_RL_96 : LkV RL 96 mX5_odds 4 := ⟨(tq_4 (w := Cond.methodLink RL 96 yX5_odds) (tw_methodLink 195 (by decide +kernel)) rfl), tz_302, tz_303, tz_10, tz_301, ⟨by decide +kernel, by decide +kernel, by decide +kernel, by decide +kernel⟩, by decide⟩
theorem tz_304 : Cond.code yX4_wear cX4_wear 4 (some .int) ∈ tb := (tq_3 (w := Cond.code yX4_wear cX4_wear 4 (some .int)) (tw_d 92 (by decide +kernel)) rfl)
theorem tz_305 : Cond.instanceMethod yX4_wear ∈ tb := (tq_3 (w := Cond.instanceMethod yX4_wear) (tw_instanceMethod 90 (by decide +kernel)) rfl)
theorem tz_306 : Cond.selects RX4 yX4_wear yX4_wear ∈ tb := (tq_3 (w := Cond.selects RX4 yX4_wear yX4_wear) (tw_selects 91 (by decide +kernel)) rfl)
theorem lk_RL_97 : LkV RL 97 mX4_wear 2 := ⟨(tq_3 (w := Cond.methodLink RL 97 yX4_wear) (tw_methodLink 89 (by decide +kernel)) rfl), tz_305, tz_306, tz_8, tz_304, ⟨by decide +kernel, by decide +kernel, by decide +kernel, by decide +kernel⟩, by decide⟩
theorem tz_307 : Cond.code yX5_wear cX5_wear 4 (some .int) ∈ tb := (tq_4 (w := Cond.code yX5_wear cX5_wear 4 (some .int)) (tw_d 208 (by decide +kernel)) rfl)
theorem tz_308 : Cond.instanceMethod yX5_wear ∈ tb := (tq_4 (w := Cond.instanceMethod yX5_wear) (tw_instanceMethod 206 (by decide +kernel)) rfl)
theorem tz_309 : Cond.selects RX5 yX5_wear yX5_wear ∈ tb := (tq_4 (w := Cond.selects RX5 yX5_wear yX5_wear) (tw_selects 207 (by decide +kernel)) rfl)
theorem lk_RL_100 : LkV RL 100 mX5_wear 2 := ⟨(tq_4 (w := Cond.methodLink RL 100 yX5_wear) (tw_methodLink 205 (by decide +kernel)) rfl), tz_308, tz_309, tz_10, tz_307, ⟨by decide +kernel, by decide +kernel, by decide +kernel, by decide +kernel⟩, by decide⟩
theorem tz_310 : Cond.code yX4_rate cX4_rate 3 (some .int) ∈ tb := (tq_3 (w := Cond.code yX4_rate cX4_rate 3 (some .int)) (tw_d 96 (by decide +kernel)) rfl)
theorem tz_311 : Cond.instanceMethod yX4_rate ∈ tb := (tq_3 (w := Cond.instanceMethod yX4_rate) (tw_instanceMethod 94 (by decide +kernel)) rfl)
theorem tz_312 : Cond.selects RX4 yX4_rate yX4_rate ∈ tb := (tq_3 (w := Cond.selects RX4 yX4_rate yX4_rate) (tw_selects 95 (by decide +kernel)) rfl)
theorem lk_RL_101 : LkV RL 101 mX4_rate 2 := ⟨(tq_3 (w := Cond.methodLink RL 101 yX4_rate) (tw_methodLink 93 (by decide +kernel)) rfl), tz_311, tz_312, tz_8, tz_310, ⟨by decide +kernel, by decide +kernel, by decide +kernel, by decide +kernel⟩, by decide⟩
theorem tz_313 : Cond.code yX5_rate cX5_rate 3 (some .int) ∈ tb := (tq_4 (w := Cond.code yX5_rate cX5_rate 3 (some .int)) (tw_d 212 (by decide +kernel)) rfl)
theorem tz_314 : Cond.instanceMethod yX5_rate ∈ tb := (tq_4 (w := Cond.instanceMethod yX5_rate) (tw_instanceMethod 210 (by decide +kernel)) rfl)
theorem tz_315 : Cond.selects RX5 yX5_rate yX5_rate ∈ tb := (tq_4 (w := Cond.selects RX5 yX5_rate yX5_rate) (tw_selects 211 (by decide +kernel)) rfl)
theorem lk_RL_104 : LkV RL 104 mX5_rate 2 := ⟨(tq_4 (w := Cond.methodLink RL 104 yX5_rate) (tw_methodLink 209 (by decide +kernel)) rfl), tz_314, tz_315, tz_10, tz_313, ⟨by decide +kernel, by decide +kernel, by decide +kernel, by decide +kernel⟩, by decide⟩
theorem tz_316 : Cond.code yX4_keep cX4_keep 2 (some .int) ∈ tb := (tq_3 (w := Cond.code yX4_keep cX4_keep 2 (some .int)) (tw_d 113 (by decide +kernel)) rfl)
theorem tz_317 : Cond.instanceMethod yX4_keep ∈ tb := (tq_3 (w := Cond.instanceMethod yX4_keep) (tw_instanceMethod 111 (by decide +kernel)) rfl)
theorem tz_318 : Cond.selects RX4 yX4_keep yX4_keep ∈ tb := (tq_3 (w := Cond.selects RX4 yX4_keep yX4_keep) (tw_selects 112 (by decide +kernel)) rfl)
theorem lk_RL_105 : LkV RL 105 mX4_keep 1 := ⟨(tq_3 (w := Cond.methodLink RL 105 yX4_keep) (tw_methodLink 110 (by decide +kernel)) rfl), tz_317, tz_318, tz_8, tz_316, ⟨by decide +kernel, by decide +kernel, by decide +kernel, by decide +kernel⟩, by decide⟩
theorem tz_319 : Cond.code yX5_keep cX5_keep 2 (some .int) ∈ tb := (tq_5 (w := Cond.code yX5_keep cX5_keep 2 (some .int)) (tw_d 6 (by decide +kernel)) rfl)
theorem tz_320 : Cond.instanceMethod yX5_keep ∈ tb := (tq_5 (w := Cond.instanceMethod yX5_keep) (tw_instanceMethod 4 (by decide +kernel)) rfl)
theorem tz_321 : Cond.selects RX5 yX5_keep yX5_keep ∈ tb := (tq_5 (w := Cond.selects RX5 yX5_keep yX5_keep) (tw_selects 5 (by decide +kernel)) rfl)
theorem lk_RL_108 : LkV RL 108 mX5_keep 1 := ⟨(tq_5 (w := Cond.methodLink RL 108 yX5_keep) (tw_methodLink 3 (by decide +kernel)) rfl), tz_320, tz_321, tz_10, tz_319, ⟨by decide +kernel, by decide +kernel, by decide +kernel, by decide +kernel⟩, by decide⟩
theorem tz_322 : Cond.code yX4_back cX4_back 2 (some .int) ∈ tb := (tq_3 (w := Cond.code yX4_back cX4_back 2 (some .int)) (tw_d 117 (by decide +kernel)) rfl)
theorem tz_323 : Cond.instanceMethod yX4_back ∈ tb := (tq_3 (w := Cond.instanceMethod yX4_back) (tw_instanceMethod 115 (by decide +kernel)) rfl)
theorem tz_324 : Cond.selects RX4 yX4_back yX4_back ∈ tb := (tq_3 (w := Cond.selects RX4 yX4_back yX4_back) (tw_selects 116 (by decide +kernel)) rfl)
theorem lk_RL_109 : LkV RL 109 mX4_back 1 := ⟨(tq_3 (w := Cond.methodLink RL 109 yX4_back) (tw_methodLink 114 (by decide +kernel)) rfl), tz_323, tz_324, tz_8, tz_322, ⟨by decide +kernel, by decide +kernel, by decide +kernel, by decide +kernel⟩, by decide⟩
theorem tz_325 : Cond.code yX5_back cX5_back 2 (some .int) ∈ tb := (tq_5 (w := Cond.code yX5_back cX5_back 2 (some .int)) (tw_d 10 (by decide +kernel)) rfl)
theorem tz_326 : Cond.instanceMethod yX5_back ∈ tb := (tq_5 (w := Cond.instanceMethod yX5_back) (tw_instanceMethod 8 (by decide +kernel)) rfl)
theorem tz_327 : Cond.selects RX5 yX5_back yX5_back ∈ tb := (tq_5 (w := Cond.selects RX5 yX5_back yX5_back) (tw_selects 9 (by decide +kernel)) rfl)
theorem lk_RL_112 : LkV RL 112 mX5_back 1 := ⟨(tq_5 (w := Cond.methodLink RL 112 yX5_back) (tw_methodLink 7 (by decide +kernel)) rfl), tz_326, tz_327, tz_10, tz_325, ⟨by decide +kernel, by decide +kernel, by decide +kernel, by decide +kernel⟩, by decide⟩
theorem tz_328 : Cond.code yX4_count cX4_count 2 (some .int) ∈ tb := (tq_3 (w := Cond.code yX4_count cX4_count 2 (some .int)) (tw_d 121 (by decide +kernel)) rfl)
theorem tz_329 : Cond.instanceMethod yX4_count ∈ tb := (tq_3 (w := Cond.instanceMethod yX4_count) (tw_instanceMethod 119 (by decide +kernel)) rfl)
theorem tz_330 : Cond.selects RX4 yX4_count yX4_count ∈ tb := (tq_3 (w := Cond.selects RX4 yX4_count yX4_count) (tw_selects 120 (by decide +kernel)) rfl)
theorem lk_RL_113 : LkV RL 113 mX4_count 1 := ⟨(tq_3 (w := Cond.methodLink RL 113 yX4_count) (tw_methodLink 118 (by decide +kernel)) rfl), tz_329, tz_330, tz_8, tz_328, ⟨by decide +kernel, by decide +kernel, by decide +kernel, by decide +kernel⟩, by decide⟩
theorem tz_331 : Cond.code yX5_count cX5_count 2 (some .int) ∈ tb := (tq_5 (w := Cond.code yX5_count cX5_count 2 (some .int)) (tw_d 14 (by decide +kernel)) rfl)
theorem tz_332 : Cond.instanceMethod yX5_count ∈ tb := (tq_5 (w := Cond.instanceMethod yX5_count) (tw_instanceMethod 12 (by decide +kernel)) rfl)
theorem tz_333 : Cond.selects RX5 yX5_count yX5_count ∈ tb := (tq_5 (w := Cond.selects RX5 yX5_count yX5_count) (tw_selects 13 (by decide +kernel)) rfl)
theorem lk_RL_116 : LkV RL 116 mX5_count 1 := ⟨(tq_5 (w := Cond.methodLink RL 116 yX5_count) (tw_methodLink 11 (by decide +kernel)) rfl), tz_332, tz_333, tz_10, tz_331, ⟨by decide +kernel, by decide +kernel, by decide +kernel, by decide +kernel⟩, by decide⟩
theorem tz_334 : Cond.code yX4_trace cX4_trace 1 (some .long) ∈ tb := (tq_3 (w := Cond.code yX4_trace cX4_trace 1 (some .long)) (tw_d 125 (by decide +kernel)) rfl)
theorem tz_335 : Cond.instanceMethod yX4_trace ∈ tb := (tq_3 (w := Cond.instanceMethod yX4_trace) (tw_instanceMethod 123 (by decide +kernel)) rfl)
theorem tz_336 : Cond.selects RX4 yX4_trace yX4_trace ∈ tb := (tq_3 (w := Cond.selects RX4 yX4_trace yX4_trace) (tw_selects 124 (by decide +kernel)) rfl)
theorem lk_RL_117 : LkV RL 117 mX4_trace 0 := ⟨(tq_3 (w := Cond.methodLink RL 117 yX4_trace) (tw_methodLink 122 (by decide +kernel)) rfl), tz_335, tz_336, tz_8, tz_334, ⟨by decide +kernel, by decide +kernel, by decide +kernel, by decide +kernel⟩, by decide⟩
theorem tz_337 : Cond.code yX5_trace cX5_trace 1 (some .long) ∈ tb := (tq_5 (w := Cond.code yX5_trace cX5_trace 1 (some .long)) (tw_d 18 (by decide +kernel)) rfl)
theorem tz_338 : Cond.instanceMethod yX5_trace ∈ tb := (tq_5 (w := Cond.instanceMethod yX5_trace) (tw_instanceMethod 16 (by decide +kernel)) rfl)
theorem tz_339 : Cond.selects RX5 yX5_trace yX5_trace ∈ tb := (tq_5 (w := Cond.selects RX5 yX5_trace yX5_trace) (tw_selects 17 (by decide +kernel)) rfl)
theorem lk_RL_121 : LkV RL 121 mX5_trace 0 := ⟨(tq_5 (w := Cond.methodLink RL 121 yX5_trace) (tw_methodLink 15 (by decide +kernel)) rfl), tz_338, tz_339, tz_10, tz_337, ⟨by decide +kernel, by decide +kernel, by decide +kernel, by decide +kernel⟩, by decide⟩
theorem tz_340 : Cond.code yX5_begin cX5_begin 2 none ∈ tb := (tq_3 (w := Cond.code yX5_begin cX5_begin 2 none) (tw_d 135 (by decide +kernel)) rfl)
theorem tz_341 : Cond.instanceMethod yX5_begin ∈ tb := (tq_3 (w := Cond.instanceMethod yX5_begin) (tw_instanceMethod 134 (by decide +kernel)) rfl)
theorem tz_342 : Cond.selects RX5 yX5_begin yX5_begin ∈ tb := (tq_0 (w := Cond.selects RX5 yX5_begin yX5_begin) (tw_selects 5 (by decide +kernel)) rfl)
theorem lk_RX5_54 : LkV RX5 54 mX5_begin 0 := ⟨(tq_3 (w := Cond.methodLink RX5 54 yX5_begin) (tw_methodLink 132 (by decide +kernel)) rfl), tz_341, tz_342, tz_10, tz_340, ⟨by decide +kernel, by decide +kernel, by decide +kernel, by decide +kernel⟩, by decide⟩
theorem tz_343 : Cond.code yX5_next cX5_next 3 none ∈ tb := (tq_4 (w := Cond.code yX5_next cX5_next 3 none) (tw_d 15 (by decide +kernel)) rfl)
theorem tz_344 : Cond.instanceMethod yX5_next ∈ tb := (tq_4 (w := Cond.instanceMethod yX5_next) (tw_instanceMethod 14 (by decide +kernel)) rfl)
theorem tz_345 : Cond.selects RX5 yX5_next yX5_next ∈ tb := (tq_0 (w := Cond.selects RX5 yX5_next yX5_next) (tw_selects 6 (by decide +kernel)) rfl)
theorem lk_RX5_89 : LkV RX5 89 mX5_next 0 := ⟨(tq_4 (w := Cond.methodLink RX5 89 yX5_next) (tw_methodLink 12 (by decide +kernel)) rfl), tz_344, tz_345, tz_10, tz_343, ⟨by decide +kernel, by decide +kernel, by decide +kernel, by decide +kernel⟩, by decide⟩
theorem tz_346 : Cond.code yX5_want cX5_want 2 (some .boolean) ∈ tb := (tq_4 (w := Cond.code yX5_want cX5_want 2 (some .boolean)) (tw_d 28 (by decide +kernel)) rfl)
theorem tz_347 : Cond.instanceMethod yX5_want ∈ tb := (tq_4 (w := Cond.instanceMethod yX5_want) (tw_instanceMethod 27 (by decide +kernel)) rfl)
theorem tz_348 : Cond.selects RX5 yX5_want yX5_want ∈ tb := (tq_0 (w := Cond.selects RX5 yX5_want yX5_want) (tw_selects 8 (by decide +kernel)) rfl)
theorem lk_RX5_92 : LkV RX5 92 mX5_want 1 := ⟨(tq_4 (w := Cond.methodLink RX5 92 yX5_want) (tw_methodLink 25 (by decide +kernel)) rfl), tz_347, tz_348, tz_10, tz_346, ⟨by decide +kernel, by decide +kernel, by decide +kernel, by decide +kernel⟩, by decide⟩
theorem tz_349 : Cond.code yX5_takeNumber cX5_takeNumber 3 (some .int) ∈ tb := (tq_4 (w := Cond.code yX5_takeNumber cX5_takeNumber 3 (some .int)) (tw_d 36 (by decide +kernel)) rfl)
theorem tz_350 : Cond.instanceMethod yX5_takeNumber ∈ tb := (tq_4 (w := Cond.instanceMethod yX5_takeNumber) (tw_instanceMethod 35 (by decide +kernel)) rfl)
theorem tz_351 : Cond.selects RX5 yX5_takeNumber yX5_takeNumber ∈ tb := (tq_0 (w := Cond.selects RX5 yX5_takeNumber yX5_takeNumber) (tw_selects 10 (by decide +kernel)) rfl)
theorem lk_RX5_99 : LkV RX5 99 mX5_takeNumber 2 := ⟨(tq_4 (w := Cond.methodLink RX5 99 yX5_takeNumber) (tw_methodLink 33 (by decide +kernel)) rfl), tz_350, tz_351, tz_10, tz_349, ⟨by decide +kernel, by decide +kernel, by decide +kernel, by decide +kernel⟩, by decide⟩
theorem tz_352 : Cond.code yX5_takeHill cX5_takeHill 2 none ∈ tb := (tq_4 (w := Cond.code yX5_takeHill cX5_takeHill 2 none) (tw_d 32 (by decide +kernel)) rfl)
theorem tz_353 : Cond.instanceMethod yX5_takeHill ∈ tb := (tq_4 (w := Cond.instanceMethod yX5_takeHill) (tw_instanceMethod 31 (by decide +kernel)) rfl)
theorem tz_354 : Cond.selects RX5 yX5_takeHill yX5_takeHill ∈ tb := (tq_0 (w := Cond.selects RX5 yX5_takeHill yX5_takeHill) (tw_selects 9 (by decide +kernel)) rfl)
theorem lk_RX5_106 : LkV RX5 106 mX5_takeHill 0 := ⟨(tq_4 (w := Cond.methodLink RX5 106 yX5_takeHill) (tw_methodLink 29 (by decide +kernel)) rfl), tz_353, tz_354, tz_10, tz_352, ⟨by decide +kernel, by decide +kernel, by decide +kernel, by decide +kernel⟩, by decide⟩
theorem tz_355 : Cond.code yX5_takeJoin cX5_takeJoin 3 none ∈ tb := (tq_4 (w := Cond.code yX5_takeJoin cX5_takeJoin 3 none) (tw_d 40 (by decide +kernel)) rfl)
theorem tz_356 : Cond.instanceMethod yX5_takeJoin ∈ tb := (tq_4 (w := Cond.instanceMethod yX5_takeJoin) (tw_instanceMethod 39 (by decide +kernel)) rfl)
theorem tz_357 : Cond.selects RX5 yX5_takeJoin yX5_takeJoin ∈ tb := (tq_0 (w := Cond.selects RX5 yX5_takeJoin yX5_takeJoin) (tw_selects 11 (by decide +kernel)) rfl)
theorem lk_RX5_109 : LkV RX5 109 mX5_takeJoin 0 := ⟨(tq_4 (w := Cond.methodLink RX5 109 yX5_takeJoin) (tw_methodLink 37 (by decide +kernel)) rfl), tz_356, tz_357, tz_10, tz_355, ⟨by decide +kernel, by decide +kernel, by decide +kernel, by decide +kernel⟩, by decide⟩
theorem tz_358 : Cond.code yX5_takeItem cX5_takeItem 1 none ∈ tb := (tq_4 (w := Cond.code yX5_takeItem cX5_takeItem 1 none) (tw_d 24 (by decide +kernel)) rfl)
theorem tz_359 : Cond.instanceMethod yX5_takeItem ∈ tb := (tq_4 (w := Cond.instanceMethod yX5_takeItem) (tw_instanceMethod 23 (by decide +kernel)) rfl)
theorem tz_360 : Cond.selects RX5 yX5_takeItem yX5_takeItem ∈ tb := (tq_0 (w := Cond.selects RX5 yX5_takeItem yX5_takeItem) (tw_selects 7 (by decide +kernel)) rfl)
theorem lk_RX5_128 : LkV RX5 128 mX5_takeItem 0 := ⟨(tq_4 (w := Cond.methodLink RX5 128 yX5_takeItem) (tw_methodLink 21 (by decide +kernel)) rfl), tz_359, tz_360, tz_10, tz_358, ⟨by decide +kernel, by decide +kernel, by decide +kernel, by decide +kernel⟩, by decide⟩
theorem tz_361 : Cond.code yX5_isHill cX5_isHill 2 (some .boolean) ∈ tb := (tq_4 (w := Cond.code yX5_isHill cX5_isHill 2 (some .boolean)) (tw_d 51 (by decide +kernel)) rfl)
theorem tz_362 : Cond.instanceMethod yX5_isHill ∈ tb := (tq_4 (w := Cond.instanceMethod yX5_isHill) (tw_instanceMethod 50 (by decide +kernel)) rfl)
theorem tz_363 : Cond.selects RX5 yX5_isHill yX5_isHill ∈ tb := (tq_0 (w := Cond.selects RX5 yX5_isHill yX5_isHill) (tw_selects 12 (by decide +kernel)) rfl)
theorem lk_RX5_149 : LkV RX5 149 mX5_isHill 1 := ⟨(tq_4 (w := Cond.methodLink RX5 149 yX5_isHill) (tw_methodLink 48 (by decide +kernel)) rfl), tz_362, tz_363, tz_10, tz_361, ⟨by decide +kernel, by decide +kernel, by decide +kernel, by decide +kernel⟩, by decide⟩
theorem tz_364 : Cond.code yX5_sizeBy cX5_sizeBy 4 (some .int) ∈ tb := (tq_4 (w := Cond.code yX5_sizeBy cX5_sizeBy 4 (some .int)) (tw_d 63 (by decide +kernel)) rfl)
theorem tz_365 : Cond.instanceMethod yX5_sizeBy ∈ tb := (tq_4 (w := Cond.instanceMethod yX5_sizeBy) (tw_instanceMethod 62 (by decide +kernel)) rfl)
theorem tz_366 : Cond.selects RX5 yX5_sizeBy yX5_sizeBy ∈ tb := (tq_0 (w := Cond.selects RX5 yX5_sizeBy yX5_sizeBy) (tw_selects 14 (by decide +kernel)) rfl)
theorem lk_RX5_152 : LkV RX5 152 mX5_sizeBy 2 := ⟨(tq_4 (w := Cond.methodLink RX5 152 yX5_sizeBy) (tw_methodLink 60 (by decide +kernel)) rfl), tz_365, tz_366, tz_10, tz_364, ⟨by decide +kernel, by decide +kernel, by decide +kernel, by decide +kernel⟩, by decide⟩
theorem tz_367 : Cond.code yX5_sizeIn cX5_sizeIn 3 (some .int) ∈ tb := (tq_4 (w := Cond.code yX5_sizeIn cX5_sizeIn 3 (some .int)) (tw_d 59 (by decide +kernel)) rfl)
theorem tz_368 : Cond.instanceMethod yX5_sizeIn ∈ tb := (tq_4 (w := Cond.instanceMethod yX5_sizeIn) (tw_instanceMethod 58 (by decide +kernel)) rfl)
theorem tz_369 : Cond.selects RX5 yX5_sizeIn yX5_sizeIn ∈ tb := (tq_0 (w := Cond.selects RX5 yX5_sizeIn yX5_sizeIn) (tw_selects 13 (by decide +kernel)) rfl)
theorem lk_RX5_155 : LkV RX5 155 mX5_sizeIn 2 := ⟨(tq_4 (w := Cond.methodLink RX5 155 yX5_sizeIn) (tw_methodLink 56 (by decide +kernel)) rfl), tz_368, tz_369, tz_10, tz_367, ⟨by decide +kernel, by decide +kernel, by decide +kernel, by decide +kernel⟩, by decide⟩
theorem tz_370 : Cond.code yX5_isOver cX5_isOver 3 (some .boolean) ∈ tb := (tq_4 (w := Cond.code yX5_isOver cX5_isOver 3 (some .boolean)) (tw_d 67 (by decide +kernel)) rfl)
theorem tz_371 : Cond.instanceMethod yX5_isOver ∈ tb := (tq_4 (w := Cond.instanceMethod yX5_isOver) (tw_instanceMethod 66 (by decide +kernel)) rfl)
theorem tz_372 : Cond.selects RX5 yX5_isOver yX5_isOver ∈ tb := (tq_0 (w := Cond.selects RX5 yX5_isOver yX5_isOver) (tw_selects 15 (by decide +kernel)) rfl)
theorem lk_RX5_158 : LkV RX5 158 mX5_isOver 2 := ⟨(tq_4 (w := Cond.methodLink RX5 158 yX5_isOver) (tw_methodLink 64 (by decide +kernel)) rfl), tz_371, tz_372, tz_10, tz_370, ⟨by decide +kernel, by decide +kernel, by decide +kernel, by decide +kernel⟩, by decide⟩
theorem tz_373 : Cond.code yX5_isMan cX5_isMan 2 (some .boolean) ∈ tb := (tq_4 (w := Cond.code yX5_isMan cX5_isMan 2 (some .boolean)) (tw_d 78 (by decide +kernel)) rfl)
theorem tz_374 : Cond.instanceMethod yX5_isMan ∈ tb := (tq_4 (w := Cond.instanceMethod yX5_isMan) (tw_instanceMethod 77 (by decide +kernel)) rfl)
theorem tz_375 : Cond.selects RX5 yX5_isMan yX5_isMan ∈ tb := (tq_0 (w := Cond.selects RX5 yX5_isMan yX5_isMan) (tw_selects 16 (by decide +kernel)) rfl)
theorem lk_RX5_165 : LkV RX5 165 mX5_isMan 1 := ⟨(tq_4 (w := Cond.methodLink RX5 165 yX5_isMan) (tw_methodLink 75 (by decide +kernel)) rfl), tz_374, tz_375, tz_10, tz_373, ⟨by decide +kernel, by decide +kernel, by decide +kernel, by decide +kernel⟩, by decide⟩
theorem tz_376 : Cond.code yX5_over cX5_over 3 (some .int) ∈ tb := (tq_4 (w := Cond.code yX5_over cX5_over 3 (some .int)) (tw_d 86 (by decide +kernel)) rfl)
theorem tz_377 : Cond.instanceMethod yX5_over ∈ tb := (tq_4 (w := Cond.instanceMethod yX5_over) (tw_instanceMethod 85 (by decide +kernel)) rfl)
theorem tz_378 : Cond.selects RX5 yX5_over yX5_over ∈ tb := (tq_0 (w := Cond.selects RX5 yX5_over yX5_over) (tw_selects 17 (by decide +kernel)) rfl)
theorem lk_RX5_168 : LkV RX5 168 mX5_over 0 := ⟨(tq_4 (w := Cond.methodLink RX5 168 yX5_over) (tw_methodLink 83 (by decide +kernel)) rfl), tz_377, tz_378, tz_10, tz_376, ⟨by decide +kernel, by decide +kernel, by decide +kernel, by decide +kernel⟩, by decide⟩
theorem tz_379 : Cond.code yX5_copy cX5_copy 4 none ∈ tb := (tq_4 (w := Cond.code yX5_copy cX5_copy 4 none) (tw_d 98 (by decide +kernel)) rfl)
theorem tz_380 : Cond.instanceMethod yX5_copy ∈ tb := (tq_4 (w := Cond.instanceMethod yX5_copy) (tw_instanceMethod 97 (by decide +kernel)) rfl)
theorem tz_381 : Cond.selects RX5 yX5_copy yX5_copy ∈ tb := (tq_0 (w := Cond.selects RX5 yX5_copy yX5_copy) (tw_selects 19 (by decide +kernel)) rfl)
theorem lk_RX5_172 : LkV RX5 172 mX5_copy 2 := ⟨(tq_4 (w := Cond.methodLink RX5 172 yX5_copy) (tw_methodLink 95 (by decide +kernel)) rfl), tz_380, tz_381, tz_10, tz_379, ⟨by decide +kernel, by decide +kernel, by decide +kernel, by decide +kernel⟩, by decide⟩
theorem tz_382 : Cond.code yX5_remember cX5_remember 2 none ∈ tb := (tq_4 (w := Cond.code yX5_remember cX5_remember 2 none) (tw_d 94 (by decide +kernel)) rfl)
theorem tz_383 : Cond.instanceMethod yX5_remember ∈ tb := (tq_4 (w := Cond.instanceMethod yX5_remember) (tw_instanceMethod 93 (by decide +kernel)) rfl)
theorem tz_384 : Cond.selects RX5 yX5_remember yX5_remember ∈ tb := (tq_0 (w := Cond.selects RX5 yX5_remember yX5_remember) (tw_selects 18 (by decide +kernel)) rfl)
theorem lk_RX5_176 : LkV RX5 176 mX5_remember 0 := ⟨(tq_4 (w := Cond.methodLink RX5 176 yX5_remember) (tw_methodLink 91 (by decide +kernel)) rfl), tz_383, tz_384, tz_10, tz_382, ⟨by decide +kernel, by decide +kernel, by decide +kernel, by decide +kernel⟩, by decide⟩
theorem tz_385 : Cond.code yX5_overIn cX5_overIn 4 (some .int) ∈ tb := (tq_4 (w := Cond.code yX5_overIn cX5_overIn 4 (some .int)) (tw_d 110 (by decide +kernel)) rfl)
theorem tz_386 : Cond.instanceMethod yX5_overIn ∈ tb := (tq_4 (w := Cond.instanceMethod yX5_overIn) (tw_instanceMethod 109 (by decide +kernel)) rfl)
theorem tz_387 : Cond.selects RX5 yX5_overIn yX5_overIn ∈ tb := (tq_0 (w := Cond.selects RX5 yX5_overIn yX5_overIn) (tw_selects 21 (by decide +kernel)) rfl)
theorem lk_RX5_179 : LkV RX5 179 mX5_overIn 1 := ⟨(tq_4 (w := Cond.methodLink RX5 179 yX5_overIn) (tw_methodLink 107 (by decide +kernel)) rfl), tz_386, tz_387, tz_10, tz_385, ⟨by decide +kernel, by decide +kernel, by decide +kernel, by decide +kernel⟩, by decide⟩
theorem tz_388 : Cond.code yX5_pushOf cX5_pushOf 5 (some .int) ∈ tb := (tq_4 (w := Cond.code yX5_pushOf cX5_pushOf 5 (some .int)) (tw_d 114 (by decide +kernel)) rfl)
theorem tz_389 : Cond.instanceMethod yX5_pushOf ∈ tb := (tq_4 (w := Cond.instanceMethod yX5_pushOf) (tw_instanceMethod 113 (by decide +kernel)) rfl)
theorem tz_390 : Cond.selects RX5 yX5_pushOf yX5_pushOf ∈ tb := (tq_0 (w := Cond.selects RX5 yX5_pushOf yX5_pushOf) (tw_selects 22 (by decide +kernel)) rfl)
theorem lk_RX5_183 : LkV RX5 183 mX5_pushOf 2 := ⟨(tq_4 (w := Cond.methodLink RX5 183 yX5_pushOf) (tw_methodLink 111 (by decide +kernel)) rfl), tz_389, tz_390, tz_10, tz_388, ⟨by decide +kernel, by decide +kernel, by decide +kernel, by decide +kernel⟩, by decide⟩
theorem tz_391 : Cond.code yX5_blocksIn cX5_blocksIn 8 (some .int) ∈ tb := (tq_4 (w := Cond.code yX5_blocksIn cX5_blocksIn 8 (some .int)) (tw_d 118 (by decide +kernel)) rfl)
theorem tz_392 : Cond.instanceMethod yX5_blocksIn ∈ tb := (tq_4 (w := Cond.instanceMethod yX5_blocksIn) (tw_instanceMethod 117 (by decide +kernel)) rfl)
theorem tz_393 : Cond.selects RX5 yX5_blocksIn yX5_blocksIn ∈ tb := (tq_0 (w := Cond.selects RX5 yX5_blocksIn yX5_blocksIn) (tw_selects 23 (by decide +kernel)) rfl)
theorem lk_RX5_186 : LkV RX5 186 mX5_blocksIn 3 := ⟨(tq_4 (w := Cond.methodLink RX5 186 yX5_blocksIn) (tw_methodLink 115 (by decide +kernel)) rfl), tz_392, tz_393, tz_10, tz_391, ⟨by decide +kernel, by decide +kernel, by decide +kernel, by decide +kernel⟩, by decide⟩
theorem tz_394 : Cond.code yX5_tire cX5_tire 6 none ∈ tb := (tq_4 (w := Cond.code yX5_tire cX5_tire 6 none) (tw_d 122 (by decide +kernel)) rfl)
theorem tz_395 : Cond.instanceMethod yX5_tire ∈ tb := (tq_4 (w := Cond.instanceMethod yX5_tire) (tw_instanceMethod 121 (by decide +kernel)) rfl)
theorem tz_396 : Cond.selects RX5 yX5_tire yX5_tire ∈ tb := (tq_0 (w := Cond.selects RX5 yX5_tire yX5_tire) (tw_selects 24 (by decide +kernel)) rfl)
theorem lk_RX5_190 : LkV RX5 190 mX5_tire 2 := ⟨(tq_4 (w := Cond.methodLink RX5 190 yX5_tire) (tw_methodLink 119 (by decide +kernel)) rfl), tz_395, tz_396, tz_10, tz_394, ⟨by decide +kernel, by decide +kernel, by decide +kernel, by decide +kernel⟩, by decide⟩
theorem tz_397 : Cond.code yX5_push cX5_push 6 (some .int) ∈ tb := (tq_4 (w := Cond.code yX5_push cX5_push 6 (some .int)) (tw_d 106 (by decide +kernel)) rfl)
theorem tz_398 : Cond.instanceMethod yX5_push ∈ tb := (tq_4 (w := Cond.instanceMethod yX5_push) (tw_instanceMethod 105 (by decide +kernel)) rfl)
theorem tz_399 : Cond.selects RX5 yX5_push yX5_push ∈ tb := (tq_0 (w := Cond.selects RX5 yX5_push yX5_push) (tw_selects 20 (by decide +kernel)) rfl)
theorem lk_RX5_193 : LkV RX5 193 mX5_push 1 := ⟨(tq_4 (w := Cond.methodLink RX5 193 yX5_push) (tw_methodLink 103 (by decide +kernel)) rfl), tz_398, tz_399, tz_10, tz_397, ⟨by decide +kernel, by decide +kernel, by decide +kernel, by decide +kernel⟩, by decide⟩
theorem tz_400 : Cond.code yX5_rainsOn cX5_rainsOn 2 (some .boolean) ∈ tb := (tq_4 (w := Cond.code yX5_rainsOn cX5_rainsOn 2 (some .boolean)) (tw_d 126 (by decide +kernel)) rfl)
theorem tz_401 : Cond.instanceMethod yX5_rainsOn ∈ tb := (tq_4 (w := Cond.instanceMethod yX5_rainsOn) (tw_instanceMethod 125 (by decide +kernel)) rfl)
theorem tz_402 : Cond.selects RX5 yX5_rainsOn yX5_rainsOn ∈ tb := (tq_0 (w := Cond.selects RX5 yX5_rainsOn yX5_rainsOn) (tw_selects 25 (by decide +kernel)) rfl)
theorem lk_RX5_196 : LkV RX5 196 mX5_rainsOn 1 := ⟨(tq_4 (w := Cond.methodLink RX5 196 yX5_rainsOn) (tw_methodLink 123 (by decide +kernel)) rfl), tz_401, tz_402, tz_10, tz_400, ⟨by decide +kernel, by decide +kernel, by decide +kernel, by decide +kernel⟩, by decide⟩
theorem tz_403 : Cond.code yX5_dusk cX5_dusk 5 none ∈ tb := (tq_4 (w := Cond.code yX5_dusk cX5_dusk 5 none) (tw_d 130 (by decide +kernel)) rfl)
theorem tz_404 : Cond.instanceMethod yX5_dusk ∈ tb := (tq_4 (w := Cond.instanceMethod yX5_dusk) (tw_instanceMethod 129 (by decide +kernel)) rfl)
theorem tz_405 : Cond.selects RX5 yX5_dusk yX5_dusk ∈ tb := (tq_0 (w := Cond.selects RX5 yX5_dusk yX5_dusk) (tw_selects 26 (by decide +kernel)) rfl)
theorem lk_RX5_199 : LkV RX5 199 mX5_dusk 2 := ⟨(tq_4 (w := Cond.methodLink RX5 199 yX5_dusk) (tw_methodLink 127 (by decide +kernel)) rfl), tz_404, tz_405, tz_10, tz_403, ⟨by decide +kernel, by decide +kernel, by decide +kernel, by decide +kernel⟩, by decide⟩
theorem tz_406 : Cond.code yX5_orderAll cX5_orderAll 5 none ∈ tb := (tq_4 (w := Cond.code yX5_orderAll cX5_orderAll 5 none) (tw_d 150 (by decide +kernel)) rfl)
theorem tz_407 : Cond.instanceMethod yX5_orderAll ∈ tb := (tq_4 (w := Cond.instanceMethod yX5_orderAll) (tw_instanceMethod 149 (by decide +kernel)) rfl)
theorem tz_408 : Cond.selects RX5 yX5_orderAll yX5_orderAll ∈ tb := (tq_0 (w := Cond.selects RX5 yX5_orderAll yX5_orderAll) (tw_selects 29 (by decide +kernel)) rfl)
theorem lk_RX5_203 : LkV RX5 203 mX5_orderAll 3 := ⟨(tq_4 (w := Cond.methodLink RX5 203 yX5_orderAll) (tw_methodLink 147 (by decide +kernel)) rfl), tz_407, tz_408, tz_10, tz_406, ⟨by decide +kernel, by decide +kernel, by decide +kernel, by decide +kernel⟩, by decide⟩
theorem tz_409 : Cond.code yX5_isCode cX5_isCode 5 (some .boolean) ∈ tb := (tq_4 (w := Cond.code yX5_isCode cX5_isCode 5 (some .boolean)) (tw_d 142 (by decide +kernel)) rfl)
theorem tz_410 : Cond.instanceMethod yX5_isCode ∈ tb := (tq_4 (w := Cond.instanceMethod yX5_isCode) (tw_instanceMethod 141 (by decide +kernel)) rfl)
theorem tz_411 : Cond.selects RX5 yX5_isCode yX5_isCode ∈ tb := (tq_0 (w := Cond.selects RX5 yX5_isCode yX5_isCode) (tw_selects 27 (by decide +kernel)) rfl)
theorem lk_RX5_207 : LkV RX5 207 mX5_isCode 2 := ⟨(tq_4 (w := Cond.methodLink RX5 207 yX5_isCode) (tw_methodLink 139 (by decide +kernel)) rfl), tz_410, tz_411, tz_10, tz_409, ⟨by decide +kernel, by decide +kernel, by decide +kernel, by decide +kernel⟩, by decide⟩
theorem tz_412 : Cond.code yX5_stepBy cX5_stepBy 7 (some .int) ∈ tb := (tq_4 (w := Cond.code yX5_stepBy cX5_stepBy 7 (some .int)) (tw_d 146 (by decide +kernel)) rfl)
theorem tz_413 : Cond.instanceMethod yX5_stepBy ∈ tb := (tq_4 (w := Cond.instanceMethod yX5_stepBy) (tw_instanceMethod 145 (by decide +kernel)) rfl)
theorem tz_414 : Cond.selects RX5 yX5_stepBy yX5_stepBy ∈ tb := (tq_0 (w := Cond.selects RX5 yX5_stepBy yX5_stepBy) (tw_selects 28 (by decide +kernel)) rfl)
theorem lk_RX5_210 : LkV RX5 210 mX5_stepBy 3 := ⟨(tq_4 (w := Cond.methodLink RX5 210 yX5_stepBy) (tw_methodLink 143 (by decide +kernel)) rfl), tz_413, tz_414, tz_10, tz_412, ⟨by decide +kernel, by decide +kernel, by decide +kernel, by decide +kernel⟩, by decide⟩
theorem tz_415 : Cond.code yX5_goToDusk cX5_goToDusk 4 none ∈ tb := (tq_4 (w := Cond.code yX5_goToDusk cX5_goToDusk 4 none) (tw_d 158 (by decide +kernel)) rfl)
theorem tz_416 : Cond.instanceMethod yX5_goToDusk ∈ tb := (tq_4 (w := Cond.instanceMethod yX5_goToDusk) (tw_instanceMethod 157 (by decide +kernel)) rfl)
theorem tz_417 : Cond.selects RX5 yX5_goToDusk yX5_goToDusk ∈ tb := (tq_0 (w := Cond.selects RX5 yX5_goToDusk yX5_goToDusk) (tw_selects 30 (by decide +kernel)) rfl)
theorem lk_RX5_213 : LkV RX5 213 mX5_goToDusk 2 := ⟨(tq_4 (w := Cond.methodLink RX5 213 yX5_goToDusk) (tw_methodLink 155 (by decide +kernel)) rfl), tz_416, tz_417, tz_10, tz_415, ⟨by decide +kernel, by decide +kernel, by decide +kernel, by decide +kernel⟩, by decide⟩
theorem tz_418 : Cond.code yX5_isOverBy cX5_isOverBy 5 (some .boolean) ∈ tb := (tq_4 (w := Cond.code yX5_isOverBy cX5_isOverBy 5 (some .boolean)) (tw_d 166 (by decide +kernel)) rfl)
theorem tz_419 : Cond.instanceMethod yX5_isOverBy ∈ tb := (tq_4 (w := Cond.instanceMethod yX5_isOverBy) (tw_instanceMethod 165 (by decide +kernel)) rfl)
theorem tz_420 : Cond.selects RX5 yX5_isOverBy yX5_isOverBy ∈ tb := (tq_0 (w := Cond.selects RX5 yX5_isOverBy yX5_isOverBy) (tw_selects 31 (by decide +kernel)) rfl)
theorem lk_RX5_216 : LkV RX5 216 mX5_isOverBy 2 := ⟨(tq_4 (w := Cond.methodLink RX5 216 yX5_isOverBy) (tw_methodLink 163 (by decide +kernel)) rfl), tz_419, tz_420, tz_10, tz_418, ⟨by decide +kernel, by decide +kernel, by decide +kernel, by decide +kernel⟩, by decide⟩
theorem tz_421 : Cond.code yX5_stoneRate cX5_stoneRate 2 (some .int) ∈ tb := (tq_4 (w := Cond.code yX5_stoneRate cX5_stoneRate 2 (some .int)) (tw_d 218 (by decide +kernel)) rfl)
theorem tz_422 : Cond.instanceMethod yX5_stoneRate ∈ tb := (tq_4 (w := Cond.instanceMethod yX5_stoneRate) (tw_instanceMethod 217 (by decide +kernel)) rfl)
theorem tz_423 : Cond.selects RX5 yX5_stoneRate yX5_stoneRate ∈ tb := (tq_0 (w := Cond.selects RX5 yX5_stoneRate yX5_stoneRate) (tw_selects 32 (by decide +kernel)) rfl)
theorem lk_RX5_238 : LkV RX5 238 mX5_stoneRate 1 := ⟨(tq_4 (w := Cond.methodLink RX5 238 yX5_stoneRate) (tw_methodLink 215 (by decide +kernel)) rfl), tz_422, tz_423, tz_10, tz_421, ⟨by decide +kernel, by decide +kernel, by decide +kernel, by decide +kernel⟩, by decide⟩
theorem tz_424 : Cond.code yX5_roundRate cX5_roundRate 2 (some .int) ∈ tb := (tq_4 (w := Cond.code yX5_roundRate cX5_roundRate 2 (some .int)) (tw_d 222 (by decide +kernel)) rfl)
theorem tz_425 : Cond.instanceMethod yX5_roundRate ∈ tb := (tq_4 (w := Cond.instanceMethod yX5_roundRate) (tw_instanceMethod 221 (by decide +kernel)) rfl)
theorem tz_426 : Cond.selects RX5 yX5_roundRate yX5_roundRate ∈ tb := (tq_0 (w := Cond.selects RX5 yX5_roundRate yX5_roundRate) (tw_selects 33 (by decide +kernel)) rfl)
theorem lk_RX5_245 : LkV RX5 245 mX5_roundRate 1 := ⟨(tq_4 (w := Cond.methodLink RX5 245 yX5_roundRate) (tw_methodLink 219 (by decide +kernel)) rfl), tz_425, tz_426, tz_10, tz_424, ⟨by decide +kernel, by decide +kernel, by decide +kernel, by decide +kernel⟩, by decide⟩
theorem tz_427 : Cond.code yX5_splitRate cX5_splitRate 2 (some .int) ∈ tb := (tq_4 (w := Cond.code yX5_splitRate cX5_splitRate 2 (some .int)) (tw_d 226 (by decide +kernel)) rfl)
theorem tz_428 : Cond.instanceMethod yX5_splitRate ∈ tb := (tq_4 (w := Cond.instanceMethod yX5_splitRate) (tw_instanceMethod 225 (by decide +kernel)) rfl)
theorem tz_429 : Cond.selects RX5 yX5_splitRate yX5_splitRate ∈ tb := (tq_0 (w := Cond.selects RX5 yX5_splitRate yX5_splitRate) (tw_selects 34 (by decide +kernel)) rfl)
theorem lk_RX5_250 : LkV RX5 250 mX5_splitRate 1 := ⟨(tq_4 (w := Cond.methodLink RX5 250 yX5_splitRate) (tw_methodLink 223 (by decide +kernel)) rfl), tz_428, tz_429, tz_10, tz_427, ⟨by decide +kernel, by decide +kernel, by decide +kernel, by decide +kernel⟩, by decide⟩
theorem tz_430 : Cond.code yX5_wetRate cX5_wetRate 2 (some .int) ∈ tb := (tq_4 (w := Cond.code yX5_wetRate cX5_wetRate 2 (some .int)) (tw_d 231 (by decide +kernel)) rfl)
theorem tz_431 : Cond.instanceMethod yX5_wetRate ∈ tb := (tq_4 (w := Cond.instanceMethod yX5_wetRate) (tw_instanceMethod 230 (by decide +kernel)) rfl)
theorem tz_432 : Cond.selects RX5 yX5_wetRate yX5_wetRate ∈ tb := (tq_0 (w := Cond.selects RX5 yX5_wetRate yX5_wetRate) (tw_selects 35 (by decide +kernel)) rfl)
theorem lk_RX5_258 : LkV RX5 258 mX5_wetRate 1 := ⟨(tq_4 (w := Cond.methodLink RX5 258 yX5_wetRate) (tw_methodLink 228 (by decide +kernel)) rfl), tz_431, tz_432, tz_10, tz_430, ⟨by decide +kernel, by decide +kernel, by decide +kernel, by decide +kernel⟩, by decide⟩
theorem tz_433 : Cond.code yX5_lentRate cX5_lentRate 2 (some .int) ∈ tb := (tq_4 (w := Cond.code yX5_lentRate cX5_lentRate 2 (some .int)) (tw_d 236 (by decide +kernel)) rfl)
theorem tz_434 : Cond.instanceMethod yX5_lentRate ∈ tb := (tq_4 (w := Cond.instanceMethod yX5_lentRate) (tw_instanceMethod 235 (by decide +kernel)) rfl)
theorem tz_435 : Cond.selects RX5 yX5_lentRate yX5_lentRate ∈ tb := (tq_0 (w := Cond.selects RX5 yX5_lentRate yX5_lentRate) (tw_selects 36 (by decide +kernel)) rfl)
theorem lk_RX5_261 : LkV RX5 261 mX5_lentRate 1 := ⟨(tq_4 (w := Cond.methodLink RX5 261 yX5_lentRate) (tw_methodLink 233 (by decide +kernel)) rfl), tz_434, tz_435, tz_10, tz_433, ⟨by decide +kernel, by decide +kernel, by decide +kernel, by decide +kernel⟩, by decide⟩
theorem tz_436 : Cond.code yX5_hollowRate cX5_hollowRate 4 (some .int) ∈ tb := (tq_5 (w := Cond.code yX5_hollowRate cX5_hollowRate 4 (some .int)) (tw_d 1 (by decide +kernel)) rfl)
theorem tz_437 : Cond.instanceMethod yX5_hollowRate ∈ tb := (tq_5 (w := Cond.instanceMethod yX5_hollowRate) (tw_instanceMethod 0 (by decide +kernel)) rfl)
theorem tz_438 : Cond.selects RX5 yX5_hollowRate yX5_hollowRate ∈ tb := (tq_0 (w := Cond.selects RX5 yX5_hollowRate yX5_hollowRate) (tw_selects 37 (by decide +kernel)) rfl)
theorem lk_RX5_264 : LkV RX5 264 mX5_hollowRate 1 := ⟨(tq_4 (w := Cond.methodLink RX5 264 yX5_hollowRate) (tw_methodLink 238 (by decide +kernel)) rfl), tz_437, tz_438, tz_10, tz_436, ⟨by decide +kernel, by decide +kernel, by decide +kernel, by decide +kernel⟩, by decide⟩
theorem cs_RX4_238 : Cond.constant RX4 238 (-1000000) ∈ tb := (tq_3 (w := Cond.constant RX4 238 (-1000000)) (tw_d 97 (by decide +kernel)) rfl)
theorem cl_RX4_220 : Cond.constantLong RX4 220 (-1) ∈ tb := (tq_3 (w := Cond.constantLong RX4 220 (-1)) (tw_d 75 (by decide +kernel)) rfl)
theorem cl_RX5_57 : Cond.constantLong RX5 57 (255) ∈ tb := (tq_4 (w := Cond.constantLong RX5 57 (255)) (tw_d 0 (by decide +kernel)) rfl)
theorem cl_RX5_66 : Cond.constantLong RX5 66 (48) ∈ tb := (tq_4 (w := Cond.constantLong RX5 66 (48)) (tw_d 19 (by decide +kernel)) rfl)
theorem cl_RX5_68 : Cond.constantLong RX5 68 (57) ∈ tb := (tq_4 (w := Cond.constantLong RX5 68 (57)) (tw_d 20 (by decide +kernel)) rfl)
theorem cl_RX5_222 : Cond.constantLong RX5 222 (9) ∈ tb := (tq_4 (w := Cond.constantLong RX5 222 (9)) (tw_d 186 (by decide +kernel)) rfl)
theorem cl_RX5_224 : Cond.constantLong RX5 224 (4) ∈ tb := (tq_4 (w := Cond.constantLong RX5 224 (4)) (tw_d 199 (by decide +kernel)) rfl)
theorem cl_RX5_226 : Cond.constantLong RX5 226 (10) ∈ tb := (tq_4 (w := Cond.constantLong RX5 226 (10)) (tw_d 200 (by decide +kernel)) rfl)
theorem cl_RX5_228 : Cond.constantLong RX5 228 (-1) ∈ tb := (tq_4 (w := Cond.constantLong RX5 228 (-1)) (tw_d 201 (by decide +kernel)) rfl)
theorem cl_RX5_241 : Cond.constantLong RX5 241 (100) ∈ tb := (tq_4 (w := Cond.constantLong RX5 241 (100)) (tw_d 227 (by decide +kernel)) rfl)
theorem cl_RX5_243 : Cond.constantLong RX5 243 (1000) ∈ tb := (tq_4 (w := Cond.constantLong RX5 243 (1000)) (tw_d 232 (by decide +kernel)) rfl)
theorem cl_RX5_248 : Cond.constantLong RX5 248 (10000) ∈ tb := (tq_4 (w := Cond.constantLong RX5 248 (10000)) (tw_d 237 (by decide +kernel)) rfl)
theorem cl_RX5_253 : Cond.constantLong RX5 253 (100000) ∈ tb := (tq_5 (w := Cond.constantLong RX5 253 (100000)) (tw_d 2 (by decide +kernel)) rfl)
theorem cl_RX5_255 : Cond.constantLong RX5 255 (5) ∈ tb := (tq_4 (w := Cond.constantLong RX5 255 (5)) (tw_d 213 (by decide +kernel)) rfl)
theorem cs_RX5_257 : Cond.constant RX5 257 (-1000000) ∈ tb := (tq_4 (w := Cond.constant RX5 257 (-1000000)) (tw_d 214 (by decide +kernel)) rfl)
theorem cs_RJ6_265 : Cond.constant RJ6 265 (1431655765) ∈ tb := (tq_3 (w := Cond.constant RJ6 265 (1431655765)) (tw_d 35 (by decide +kernel)) rfl)
theorem cs_RJ6_266 : Cond.constant RJ6 266 (858993459) ∈ tb := (tq_3 (w := Cond.constant RJ6 266 (858993459)) (tw_d 36 (by decide +kernel)) rfl)
theorem cs_RJ6_267 : Cond.constant RJ6 267 (252645135) ∈ tb := (tq_3 (w := Cond.constant RJ6 267 (252645135)) (tw_d 37 (by decide +kernel)) rfl)
theorem mn_RX0_9 : Cond.classLink RX0 9 "[[I" ∈ tb ∧ Cond.arrayClass .int ∈ tb := ⟨(tq_1 (w := Cond.classLink RX0 9 "[[I") (tw_d 172 (by decide +kernel)) rfl), (tq_1 (w := Cond.arrayClass .int) (tw_d 47 (by decide +kernel)) rfl)⟩
theorem nw_RX4_13 : ∃ q, vwCl[3]? = some q ∧ q.2.2 = 7 ∧ Cond.classLink RX4 13 q.1 ∈ tb ∧ Cond.instantiable q.1 7 ∈ tb ∧ Cond.initialized q.1 ∈ tb := ⟨(RX3, TX3, 7), rfl, rfl, (tq_1 (w := Cond.classLink RX4 13 RX3) (tw_d 18 (by decide +kernel)) rfl), (tq_1 (w := Cond.instantiable RX3 7) (tw_d 19 (by decide +kernel)) rfl), (tq_1 (w := Cond.initialized RX3) (tw_d 2 (by decide +kernel)) rfl)⟩
theorem nw_RX4_22 : ∃ q, vwCl[1]? = some q ∧ q.2.2 = 15 ∧ Cond.classLink RX4 22 q.1 ∈ tb ∧ Cond.instantiable q.1 15 ∈ tb ∧ Cond.initialized q.1 ∈ tb := ⟨(RX1, TX1, 15), rfl, rfl, (tq_1 (w := Cond.classLink RX4 22 RX1) (tw_d 48 (by decide +kernel)) rfl), (tq_1 (w := Cond.instantiable RX1 15) (tw_d 49 (by decide +kernel)) rfl), (tq_1 (w := Cond.initialized RX1) (tw_d 3 (by decide +kernel)) rfl)⟩
theorem nw_RX4_32 : ∃ q, vwCl[2]? = some q ∧ q.2.2 = 8 ∧ Cond.classLink RX4 32 q.1 ∈ tb ∧ Cond.instantiable q.1 8 ∈ tb ∧ Cond.initialized q.1 ∈ tb := ⟨(RX2, TX2, 8), rfl, rfl, (tq_1 (w := Cond.classLink RX4 32 RX2) (tw_d 126 (by decide +kernel)) rfl), (tq_1 (w := Cond.instantiable RX2 8) (tw_d 127 (by decide +kernel)) rfl), (tq_1 (w := Cond.initialized RX2) (tw_d 4 (by decide +kernel)) rfl)⟩
theorem nw_RX4_60 : ∃ q, vwCl[0]? = some q ∧ q.2.2 = 7 ∧ Cond.classLink RX4 60 q.1 ∈ tb ∧ Cond.instantiable q.1 7 ∈ tb ∧ Cond.initialized q.1 ∈ tb := ⟨(RX0, TX0, 7), rfl, rfl, (tq_1 (w := Cond.classLink RX4 60 RX0) (tw_d 166 (by decide +kernel)) rfl), (tq_1 (w := Cond.instantiable RX0 7) (tw_d 167 (by decide +kernel)) rfl), (tq_1 (w := Cond.initialized RX0) (tw_d 5 (by decide +kernel)) rfl)⟩
theorem nw_RL_7 : ∃ q, vwCl[4]? = some q ∧ q.2.2 = 16 ∧ Cond.classLink RL 7 q.1 ∈ tb ∧ Cond.instantiable q.1 16 ∈ tb ∧ Cond.initialized q.1 ∈ tb := ⟨(RX4, TX4, 16), rfl, rfl, (tq_1 (w := Cond.classLink RL 7 RX4) (tw_d 10 (by decide +kernel)) rfl), (tq_1 (w := Cond.instantiable RX4 16) (tw_d 11 (by decide +kernel)) rfl), (tq_1 (w := Cond.initialized RX4) (tw_d 1 (by decide +kernel)) rfl)⟩
theorem nw_RL_10 : ∃ q, vwCl[5]? = some q ∧ q.2.2 = 33 ∧ Cond.classLink RL 10 q.1 ∈ tb ∧ Cond.instantiable q.1 33 ∈ tb ∧ Cond.initialized q.1 ∈ tb := ⟨(RX5, TX5, 33), rfl, rfl, (tq_3 (w := Cond.classLink RL 10 RX5) (tw_d 126 (by decide +kernel)) rfl), (tq_3 (w := Cond.instantiable RX5 33) (tw_d 127 (by decide +kernel)) rfl), (tq_1 (w := Cond.initialized RX5) (tw_d 6 (by decide +kernel)) rfl)⟩
theorem fl_RX1_36 : FL RX1 36 1 11 := ⟨(RX1, TX1, 15), rfl, by decide, (tq_1 (w := Cond.fieldLink RX1 36 "DuskStones$Land" "hours" "I") (tw_fieldLink 84 (by decide +kernel)) rfl), rfl⟩
theorem fl_RX1_52 : FL RX1 52 1 13 := ⟨(RX1, TX1, 15), rfl, by decide, (tq_1 (w := Cond.fieldLink RX1 52 "DuskStones$Land" "hoursTold" "Z") (tw_fieldLink 91 (by decide +kernel)) rfl), rfl⟩
theorem fl_RX1_56 : FL RX1 56 1 14 := ⟨(RX1, TX1, 15), rfl, by decide, (tq_1 (w := Cond.fieldLink RX1 56 "DuskStones$Land" "rainTold" "Z") (tw_fieldLink 93 (by decide +kernel)) rfl), rfl⟩
theorem fl_RX3_113 : FL RX3 113 1 11 := ⟨(RX1, TX1, 15), rfl, by decide, (tq_1 (w := Cond.fieldLink RX3 113 "DuskStones$Land" "hours" "I") (tw_fieldLink 86 (by decide +kernel)) rfl), rfl⟩
theorem fl_RX3_116 : FL RX3 116 1 12 := ⟨(RX1, TX1, 15), rfl, by decide, (tq_1 (w := Cond.fieldLink RX3 116 "DuskStones$Land" "rain" "I") (tw_fieldLink 89 (by decide +kernel)) rfl), rfl⟩
theorem ac_int : Cond.arrayClass .int ∈ tb := (tq_1 (w := Cond.arrayClass .int) (tw_d 47 (by decide +kernel)) rfl)
theorem ac_char : Cond.arrayClass .char ∈ tb := (tq_1 (w := Cond.arrayClass .char) (tw_d 46 (by decide +kernel)) rfl)
theorem ac_boolean : Cond.arrayClass .boolean ∈ tb := (tq_1 (w := Cond.arrayClass .boolean) (tw_d 198 (by decide +kernel)) rfl)
theorem sh_0 : shn 136 0 = (4, 16) := rfl
theorem sh_1 : shn 136 1 = (7, 200) := rfl
theorem sh_2 : shn 136 2 = (3, 7) := rfl
theorem sh_3 : shn 136 3 = (6, 4) := rfl
theorem sh_4 : shn 136 4 = (1, 15) := rfl
theorem sh_5 : shn 136 5 = (6, 4) := rfl
theorem sh_6 : shn 136 6 = (6, 4) := rfl
theorem sh_7 : shn 136 7 = (6, 4) := rfl
theorem sh_8 : shn 136 8 = (6, 4) := rfl
theorem sh_9 : shn 136 9 = (6, 4) := rfl
theorem sh_10 : shn 136 10 = (6, 4) := rfl
theorem sh_11 : shn 136 11 = (6, 4) := rfl
theorem sh_12 : shn 136 12 = (6, 3) := rfl
theorem sh_13 : shn 136 13 = (1, 15) := rfl
theorem sh_14 : shn 136 14 = (6, 4) := rfl
theorem sh_15 : shn 136 15 = (6, 4) := rfl
theorem sh_16 : shn 136 16 = (6, 4) := rfl
theorem sh_17 : shn 136 17 = (6, 4) := rfl
theorem sh_18 : shn 136 18 = (6, 4) := rfl
theorem sh_19 : shn 136 19 = (6, 4) := rfl
theorem sh_20 : shn 136 20 = (6, 4) := rfl
theorem sh_21 : shn 136 21 = (6, 3) := rfl
theorem sh_22 : shn 136 22 = (2, 8) := rfl
theorem sh_23 : shn 136 23 = (6, 4) := rfl
theorem sh_24 : shn 136 24 = (6, 4) := rfl
theorem sh_25 : shn 136 25 = (6, 3) := rfl
theorem sh_26 : shn 136 26 = (6, 3) := rfl
theorem sh_27 : shn 136 27 = (6, 20) := rfl
theorem sh_28 : shn 136 28 = (2, 8) := rfl
theorem sh_29 : shn 136 29 = (6, 4) := rfl
theorem sh_30 : shn 136 30 = (6, 4) := rfl
theorem sh_31 : shn 136 31 = (6, 3) := rfl
theorem sh_32 : shn 136 32 = (6, 3) := rfl
theorem sh_33 : shn 136 33 = (6, 20) := rfl
theorem sh_34 : shn 136 34 = (9, 10) := rfl
theorem sh_35 : shn 136 35 = (9, 2) := rfl
theorem sh_36 : shn 136 36 = (8, 2) := rfl
theorem sh_37 : shn 136 37 = (6, 6) := rfl
theorem sh_38 : shn 136 38 = (6, 6) := rfl
theorem sh_39 : shn 136 39 = (0, 7) := rfl
theorem sh_40 : shn 136 40 = (10, 7) := rfl
theorem sh_41 : shn 136 41 = (6, 3) := rfl
theorem sh_42 : shn 136 42 = (6, 3) := rfl
theorem sh_43 : shn 136 43 = (6, 3) := rfl
theorem sh_44 : shn 136 44 = (6, 3) := rfl
theorem sh_45 : shn 136 45 = (6, 3) := rfl
theorem sh_46 : shn 136 46 = (6, 3) := rfl
theorem sh_47 : shn 136 47 = (6, 3) := rfl
theorem sh_48 : shn 136 48 = (6, 6) := rfl
theorem sh_49 : shn 136 49 = (6, 6) := rfl
theorem sh_50 : shn 136 50 = (2, 8) := rfl
theorem sh_51 : shn 136 51 = (6, 4) := rfl
theorem sh_52 : shn 136 52 = (6, 4) := rfl
theorem sh_53 : shn 136 53 = (6, 3) := rfl
theorem sh_54 : shn 136 54 = (6, 3) := rfl
theorem sh_55 : shn 136 55 = (6, 20) := rfl
theorem sh_56 : shn 136 56 = (2, 8) := rfl
theorem sh_57 : shn 136 57 = (6, 4) := rfl
theorem sh_58 : shn 136 58 = (6, 4) := rfl
theorem sh_59 : shn 136 59 = (6, 3) := rfl
theorem sh_60 : shn 136 60 = (6, 3) := rfl
theorem sh_61 : shn 136 61 = (6, 20) := rfl
theorem sh_62 : shn 136 62 = (2, 8) := rfl
theorem sh_63 : shn 136 63 = (6, 4) := rfl
theorem sh_64 : shn 136 64 = (6, 4) := rfl
theorem sh_65 : shn 136 65 = (6, 3) := rfl
theorem sh_66 : shn 136 66 = (6, 3) := rfl
theorem sh_67 : shn 136 67 = (6, 20) := rfl
theorem sh_68 : shn 136 68 = (2, 8) := rfl
theorem sh_69 : shn 136 69 = (6, 4) := rfl
theorem sh_70 : shn 136 70 = (6, 4) := rfl
theorem sh_71 : shn 136 71 = (6, 3) := rfl
theorem sh_72 : shn 136 72 = (6, 3) := rfl
theorem sh_73 : shn 136 73 = (6, 20) := rfl
theorem sh_74 : shn 136 74 = (2, 8) := rfl
theorem sh_75 : shn 136 75 = (6, 4) := rfl
theorem sh_76 : shn 136 76 = (6, 4) := rfl
theorem sh_77 : shn 136 77 = (6, 3) := rfl
theorem sh_78 : shn 136 78 = (6, 3) := rfl
theorem sh_79 : shn 136 79 = (6, 20) := rfl
theorem sh_80 : shn 136 80 = (2, 8) := rfl
theorem sh_81 : shn 136 81 = (6, 4) := rfl
theorem sh_82 : shn 136 82 = (6, 4) := rfl
theorem sh_83 : shn 136 83 = (6, 3) := rfl
theorem sh_84 : shn 136 84 = (6, 3) := rfl
theorem sh_85 : shn 136 85 = (6, 20) := rfl
theorem sh_86 : shn 136 86 = (2, 8) := rfl
theorem sh_87 : shn 136 87 = (6, 4) := rfl
theorem sh_88 : shn 136 88 = (6, 4) := rfl
theorem sh_89 : shn 136 89 = (6, 3) := rfl
theorem sh_90 : shn 136 90 = (6, 3) := rfl
theorem sh_91 : shn 136 91 = (6, 20) := rfl
theorem sh_92 : shn 136 92 = (2, 8) := rfl
theorem sh_93 : shn 136 93 = (6, 4) := rfl
theorem sh_94 : shn 136 94 = (6, 4) := rfl
theorem sh_95 : shn 136 95 = (6, 3) := rfl
theorem sh_96 : shn 136 96 = (6, 3) := rfl
theorem sh_97 : shn 136 97 = (6, 20) := rfl
theorem sh_98 : shn 136 98 = (2, 8) := rfl
theorem sh_99 : shn 136 99 = (6, 4) := rfl
theorem sh_100 : shn 136 100 = (6, 4) := rfl
theorem sh_101 : shn 136 101 = (6, 3) := rfl
theorem sh_102 : shn 136 102 = (6, 3) := rfl
theorem sh_103 : shn 136 103 = (6, 20) := rfl
theorem sh_104 : shn 136 104 = (2, 8) := rfl
theorem sh_105 : shn 136 105 = (6, 4) := rfl
theorem sh_106 : shn 136 106 = (6, 4) := rfl
theorem sh_107 : shn 136 107 = (6, 3) := rfl
theorem sh_108 : shn 136 108 = (6, 3) := rfl
theorem sh_109 : shn 136 109 = (6, 20) := rfl
theorem sh_110 : shn 136 110 = (2, 8) := rfl
theorem sh_111 : shn 136 111 = (6, 4) := rfl
theorem sh_112 : shn 136 112 = (6, 4) := rfl
theorem sh_113 : shn 136 113 = (6, 3) := rfl
theorem sh_114 : shn 136 114 = (6, 3) := rfl
theorem sh_115 : shn 136 115 = (6, 20) := rfl
theorem sh_116 : shn 136 116 = (2, 8) := rfl
theorem sh_117 : shn 136 117 = (6, 4) := rfl
theorem sh_118 : shn 136 118 = (6, 4) := rfl
theorem sh_119 : shn 136 119 = (6, 3) := rfl
theorem sh_120 : shn 136 120 = (6, 3) := rfl
theorem sh_121 : shn 136 121 = (6, 20) := rfl
theorem sh_122 : shn 136 122 = (5, 33) := rfl
theorem sh_123 : shn 136 123 = (6, 1400) := rfl
theorem sh_124 : shn 136 124 = (8, 2) := rfl
theorem sh_125 : shn 136 125 = (6, 8) := rfl
theorem sh_126 : shn 136 126 = (6, 8) := rfl
theorem sh_127 : shn 136 127 = (6, 8) := rfl
theorem sh_128 : shn 136 128 = (6, 8) := rfl
theorem sh_129 : shn 136 129 = (6, 8) := rfl
theorem sh_130 : shn 136 130 = (6, 8) := rfl
theorem sh_131 : shn 136 131 = (6, 8) := rfl
theorem sh_132 : shn 136 132 = (6, 6) := rfl
theorem sh_133 : shn 136 133 = (6, 200) := rfl
theorem sh_134 : shn 136 134 = (6, 6) := rfl
theorem sh_135 : shn 136 135 = (6, 6) := rfl
