/-! the methods' data (name, code, locals, answer, frames and words below), and the words of fields and calls: by program -/
def miX0_init : MI := (yX0_init, cX0_init, 1, none, 1, 20)
def miX0_renew : MI := (yX0_renew, cX0_renew, 4, none, 0, 0)
def miX0_hasPlace : MI := (yX0_hasPlace, cX0_hasPlace, 3, some .boolean, 0, 0)
def miX0_howManyDead : MI := (yX0_howManyDead, cX0_howManyDead, 3, some .int, 0, 0)
def miX1_init : MI := (yX1_init, cX1_init, 1, none, 1, 20)
def miX1_begin : MI := (yX1_begin, cX1_begin, 2, none, 1, 23)
def miX1_askFor : MI := (yX1_askFor, cX1_askFor, 8, none, 0, 0)
def miX1_isCellAsked : MI := (yX1_isCellAsked, cX1_isCellAsked, 3, some .boolean, 0, 0)
def miX1_cellsAsked : MI := (yX1_cellsAsked, cX1_cellsAsked, 3, some .int, 1, 20)
def miX1_traceBack : MI := (yX1_traceBack, cX1_traceBack, 3, none, 3, 76)
def miX1_traceStep : MI := (yX1_traceStep, cX1_traceStep, 4, none, 2, 53)
def miX1_traceNear : MI := (yX1_traceNear, cX1_traceNear, 7, none, 0, 0)
def miX1_traceColours : MI := (yX1_traceColours, cX1_traceColours, 12, none, 1, 22)
def miX1_columnsOf : MI := (yX1_columnsOf, cX1_columnsOf, 3, some .int, 0, 0)
def miX1_traceMatrix : MI := (yX1_traceMatrix, cX1_traceMatrix, 5, none, 0, 0)
def miX1_traceHalf : MI := (yX1_traceHalf, cX1_traceHalf, 6, none, 1, 22)
def miX1_doubled : MI := (yX1_doubled, cX1_doubled, 3, some .int, 0, 0)
def miX2_init : MI := (yX2_init, cX2_init, 1, none, 1, 20)
def miX2_make : MI := (yX2_make, cX2_make, 6, none, 4, 108)
def miX2_made : MI := (yX2_made, cX2_made, 4, some .int, 0, 0)
def miX2_sumOf : MI := (yX2_sumOf, cX2_sumOf, 9, some .int, 1, 23)
def miX2_leastOf : MI := (yX2_leastOf, cX2_leastOf, 7, some .int, 1, 23)
def miX2_greatestOf : MI := (yX2_greatestOf, cX2_greatestOf, 7, some .int, 1, 23)
def miX2_takeCells : MI := (yX2_takeCells, cX2_takeCells, 5, none, 1, 22)
def miX2_makeStage : MI := (yX2_makeStage, cX2_makeStage, 11, none, 3, 78)
def miX2_behindStep : MI := (yX2_behindStep, cX2_behindStep, 7, some .int, 2, 52)
def miX2_mended : MI := (yX2_mended, cX2_mended, 10, some .int, 1, 23)
def miX2_middle : MI := (yX2_middle, cX2_middle, 8, some .int, 1, 23)
def miX2_putFiveInOrder : MI := (yX2_putFiveInOrder, cX2_putFiveInOrder, 4, none, 0, 0)
def miX2_filled : MI := (yX2_filled, cX2_filled, 9, some .int, 1, 23)
def miX2_mingled : MI := (yX2_mingled, cX2_mingled, 7, some .int, 1, 23)
def miX2_bent : MI := (yX2_bent, cX2_bent, 4, some .int, 0, 0)
def miX3_init : MI := (yX3_init, cX3_init, 1, none, 1, 20)
def miX3_restart : MI := (yX3_restart, cX3_restart, 3, none, 0, 0)
def miX3_mayTake : MI := (yX3_mayTake, cX3_mayTake, 4, some .boolean, 0, 0)
def miX3_append : MI := (yX3_append, cX3_append, 6, none, 1, 40)
def miX3_lagOf : MI := (yX3_lagOf, cX3_lagOf, 2, some .int, 0, 0)
def miX3_hasStage : MI := (yX3_hasStage, cX3_hasStage, 2, some .boolean, 1, 22)
def miX3_hasPlane : MI := (yX3_hasPlane, cX3_hasPlane, 3, some .boolean, 1, 22)
def miX3_holdsPart : MI := (yX3_holdsPart, cX3_holdsPart, 6, some .boolean, 0, 0)
def miX4_init : MI := (yX4_init, cX4_init, 2, none, 2, 40)
def miX4_size : MI := (yX4_size, cX4_size, 3, some .int, 1, 23)
def miX4_cell : MI := (yX4_cell, cX4_cell, 6, some .int, 1, 22)
def miX4_dead : MI := (yX4_dead, cX4_dead, 6, some .int, 1, 22)
def miX4_black : MI := (yX4_black, cX4_black, 2, some .int, 3, 87)
def miX4_gain : MI := (yX4_gain, cX4_gain, 4, some .int, 3, 87)
def miX4_step : MI := (yX4_step, cX4_step, 2, some .int, 3, 87)
def miX4_entry : MI := (yX4_entry, cX4_entry, 4, some .int, 1, 22)
def miX4_matrix : MI := (yX4_matrix, cX4_matrix, 1, some .int, 3, 87)
def miX4_point : MI := (yX4_point, cX4_point, 4, some .int, 1, 22)
def miX4_curve : MI := (yX4_curve, cX4_curve, 2, some .int, 3, 87)
def miX4_undo : MI := (yX4_undo, cX4_undo, 1, some .int, 0, 0)
def miX4_kind : MI := (yX4_kind, cX4_kind, 2, some .int, 1, 22)
def miX4_stage : MI := (yX4_stage, cX4_stage, 3, some .int, 2, 43)
def miX4_at : MI := (yX4_at, cX4_at, 5, some .int, 5, 133)
def miX4_part : MI := (yX4_part, cX4_part, 7, some .int, 5, 133)
def miX4_needs : MI := (yX4_needs, cX4_needs, 7, some .int, 4, 98)
def miX4_counts : MI := (yX4_counts, cX4_counts, 7, some .int, 4, 98)
def miX4_bound : MI := (yX4_bound, cX4_bound, 6, some .int, 5, 133)
def miX4_count : MI := (yX4_count, cX4_count, 2, some .int, 1, 22)
def miX4_digest : MI := (yX4_digest, cX4_digest, 3, some .long, 6, 161)
def miX4_addStep : MI := (yX4_addStep, cX4_addStep, 3, some .int, 2, 65)
def miX4_mixedCells : MI := (yX4_mixedCells, cX4_mixedCells, 8, some .long, 1, 23)
def miX4_mixedSteps : MI := (yX4_mixedSteps, cX4_mixedSteps, 7, some .long, 2, 49)
def miX4_mixedPicture : MI := (yX4_mixedPicture, cX4_mixedPicture, 9, some .long, 5, 133)
def miX4_mixedRow : MI := (yX4_mixedRow, cX4_mixedRow, 7, some .long, 1, 23)
def miX4_mixed : MI := (yX4_mixed, cX4_mixed, 4, some .long, 0, 0)
def miX4_isWithin : MI := (yX4_isWithin, cX4_isWithin, 3, some .boolean, 0, 0)
def miX4_placeOf : MI := (yX4_placeOf, cX4_placeOf, 2, some .int, 0, 0)
def miX4_colourOf : MI := (yX4_colourOf, cX4_colourOf, 2, some .int, 0, 0)
def miX5_init : MI := (yX5_init, cX5_init, 2, none, 1, 20)
def miX5_in : MI := (yX5_in, cX5_in, 3, some .boolean, 0, 0)
def miX5_size : MI := (yX5_size, cX5_size, 4, some .int, 1, 22)
def miX5_isCell : MI := (yX5_isCell, cX5_isCell, 3, some .boolean, 1, 22)
def miX5_cell : MI := (yX5_cell, cX5_cell, 5, some .int, 2, 44)
def miX5_dead : MI := (yX5_dead, cX5_dead, 5, some .int, 2, 44)
def miX5_hasColours : MI := (yX5_hasColours, cX5_hasColours, 3, some .boolean, 0, 0)
def miX5_barred : MI := (yX5_barred, cX5_barred, 3, some .int, 1, 23)
def miX5_come : MI := (yX5_come, cX5_come, 2, some .int, 0, 0)
def miX5_black : MI := (yX5_black, cX5_black, 3, some .int, 2, 45)
def miX5_gain : MI := (yX5_gain, cX5_gain, 5, some .int, 2, 45)
def miX5_step : MI := (yX5_step, cX5_step, 3, some .int, 2, 45)
def miX5_entry : MI := (yX5_entry, cX5_entry, 4, some .int, 1, 22)
def miX5_matrix : MI := (yX5_matrix, cX5_matrix, 3, some .int, 2, 45)
def miX5_point : MI := (yX5_point, cX5_point, 4, some .int, 1, 22)
def miX5_curve : MI := (yX5_curve, cX5_curve, 3, some .int, 2, 45)
def miX5_undo : MI := (yX5_undo, cX5_undo, 1, some .int, 0, 0)
def miX5_kind : MI := (yX5_kind, cX5_kind, 2, some .int, 1, 22)
def miX5_measure : MI := (yX5_measure, cX5_measure, 4, none, 0, 0)
def miX5_colour : MI := (yX5_colour, cX5_colour, 2, some .int, 0, 0)
def miX5_place : MI := (yX5_place, cX5_place, 4, some .int, 0, 0)
def miX5_isPlace : MI := (yX5_isPlace, cX5_isPlace, 4, some .boolean, 1, 22)
def miX5_overX : MI := (yX5_overX, cX5_overX, 1, some .int, 0, 0)
def miX5_overY : MI := (yX5_overY, cX5_overY, 1, some .int, 0, 0)
def miX5_mended : MI := (yX5_mended, cX5_mended, 10, some .int, 2, 45)
def miX5_middle : MI := (yX5_middle, cX5_middle, 8, some .int, 2, 45)
def miX5_coloured : MI := (yX5_coloured, cX5_coloured, 9, some .int, 2, 45)
def miX5_matrixed : MI := (yX5_matrixed, cX5_matrixed, 7, some .int, 1, 23)
def miX5_curved : MI := (yX5_curved, cX5_curved, 5, some .int, 0, 0)
def miX5_halved : MI := (yX5_halved, cX5_halved, 7, some .int, 1, 23)
def miX5_made : MI := (yX5_made, cX5_made, 6, some .int, 3, 74)
def miX5_make : MI := (yX5_make, cX5_make, 7, none, 4, 99)
def miX5_stage : MI := (yX5_stage, cX5_stage, 3, some .int, 1, 23)
def miX5_at : MI := (yX5_at, cX5_at, 5, some .int, 5, 125)
def miX5_isPart : MI := (yX5_isPart, cX5_isPart, 5, some .boolean, 1, 22)
def miX5_part : MI := (yX5_part, cX5_part, 9, some .int, 5, 125)
def miX5_touch : MI := (yX5_touch, cX5_touch, 5, none, 2, 45)
def miX5_countFor : MI := (yX5_countFor, cX5_countFor, 8, none, 3, 69)
def miX5_forget : MI := (yX5_forget, cX5_forget, 2, none, 1, 23)
def miX5_trace : MI := (yX5_trace, cX5_trace, 5, none, 4, 96)
def miX5_needs : MI := (yX5_needs, cX5_needs, 8, some .int, 5, 120)
def miX5_counts : MI := (yX5_counts, cX5_counts, 6, some .int, 5, 120)
def miX5_bound : MI := (yX5_bound, cX5_bound, 7, some .int, 5, 125)
def miX5_count : MI := (yX5_count, cX5_count, 4, some .int, 0, 0)
def miX5_mix : MI := (yX5_mix, cX5_mix, 3, none, 0, 0)
def miX5_many : MI := (yX5_many, cX5_many, 1, some .int, 0, 0)
def miX5_digest : MI := (yX5_digest, cX5_digest, 4, some .long, 5, 125)
def miJ6_bitCount_0f7a4 : MI := (yJ6_bitCount_0f7a4, cJ6_bitCount_0f7a4, 1, some .int, 0, 0)
def miJ9_floorDiv_7cf53 : MI := (yJ9_floorDiv_7cf53, cJ9_floorDiv_7cf53, 3, some .int, 0, 0)
def miJ9_max_7cf53 : MI := (yJ9_max_7cf53, cJ9_max_7cf53, 2, some .int, 0, 0)
def miJ9_min_7cf53 : MI := (yJ9_min_7cf53, cJ9_min_7cf53, 2, some .int, 0, 0)
def miJ7_fill_53178 : MI := (yJ7_fill_53178, cJ7_fill_53178, 4, none, 0, 0)
theorem fRX0_9 : FI RX0 9 0 2 1 := ⟨_, _, _, rfl, by decide, wfRX0_9, rfl⟩
theorem fp_0_2 : FP 0 2 1 := Or.inr ⟨_, rfl⟩
theorem fw_0_2 : FW RX0 "<init>" 0 2 := fun C T N h => by cases h; exact Or.inr ⟨rfl, rfl, rfl⟩
theorem fRX0_15 : FI RX0 15 0 3 1 := ⟨_, _, _, rfl, by decide, wfRX0_15, rfl⟩
theorem fp_0_3 : FP 0 3 1 := Or.inr ⟨_, rfl⟩
theorem fw_0_3 : FW RX0 "<init>" 0 3 := fun C T N h => by cases h; exact Or.inr ⟨rfl, rfl, rfl⟩
theorem fRX0_19 : FI RX0 19 0 0 0 := ⟨_, _, _, rfl, by decide, wfRX0_19, rfl⟩
theorem fp_0_0 : FP 0 0 0 := rfl
theorem fw_0_0 : FW RX0 "<init>" 0 0 := fun C T N h => by cases h; exact Or.inl rfl
theorem fv_0_0 (own nm : String) : FW own nm 0 0 := fun C T N h => by cases h; exact Or.inl rfl
theorem fRX0_23 : FI RX0 23 0 1 0 := ⟨_, _, _, rfl, by decide, wfRX0_23, rfl⟩
theorem fp_0_1 : FP 0 1 0 := rfl
theorem fw_0_1 : FW RX0 "<init>" 0 1 := fun C T N h => by cases h; exact Or.inl rfl
theorem fv_0_1 (own nm : String) : FW own nm 0 1 := fun C T N h => by cases h; exact Or.inl rfl
theorem fRX1_11 : FI RX1 11 1 1 1 := ⟨_, _, _, rfl, by decide, wfRX1_11, rfl⟩
theorem fp_1_1 : FP 1 1 1 := Or.inr ⟨_, rfl⟩
theorem fw_1_1 : FW RX1 "<init>" 1 1 := fun C T N h => by cases h; exact Or.inr ⟨rfl, rfl, rfl⟩
theorem fRX1_16 : FI RX1 16 1 0 0 := ⟨_, _, _, rfl, by decide, wfRX1_16, rfl⟩
theorem fp_1_0 : FP 1 0 0 := rfl
theorem fw_1_0 : FW RX1 "<init>" 1 0 := fun C T N h => by cases h; exact Or.inl rfl
theorem fv_1_0 (own nm : String) : FW own nm 1 0 := fun C T N h => by cases h; exact Or.inl rfl
theorem kRX1_20 : CB RX1 20 miJ7_fill_53178 2 := ⟨wlRX1_20, wzRJ7, wcJ7_fill_53178, by decide +kernel⟩
theorem vJ7_fill_53178 : Cond.static yJ7_fill_53178 ∈ TG := wTJ7_fill_53178
theorem kRX1_26 : CB RX1 26 miJ6_bitCount_0f7a4 1 := ⟨wlRX1_26, wzRJ6, wcJ6_bitCount_0f7a4, by decide +kernel⟩
theorem vJ6_bitCount_0f7a4 : Cond.static yJ6_bitCount_0f7a4 ∈ TG := wTJ6_bitCount_0f7a4
theorem fRX1_32 : FI RX1 32 3 1 1 := ⟨_, _, _, rfl, by decide, wfRX1_32, rfl⟩
theorem fRX1_38 : FI RX1 38 3 3 1 := ⟨_, _, _, rfl, by decide, wfRX1_38, rfl⟩
theorem kRX1_41 : CB RX1 41 miX1_traceStep 4 := ⟨wlRX1_41, wzRX1, wcX1_traceStep, by decide +kernel⟩
theorem vX1_traceStep : Cond.static yX1_traceStep ∈ TG := wTX1_traceStep
theorem kRX1_45 : CB RX1 45 miX1_traceNear 3 := ⟨wlRX1_45, wzRX1, wcX1_traceNear, by decide +kernel⟩
theorem vX1_traceNear : Cond.static yX1_traceNear ∈ TG := wTX1_traceNear
theorem kRX1_49 : CB RX1 49 miX1_traceColours 3 := ⟨wlRX1_49, wzRX1, wcX1_traceColours, by decide +kernel⟩
theorem vX1_traceColours : Cond.static yX1_traceColours ∈ TG := wTX1_traceColours
theorem kRX1_52 : CB RX1 52 miX1_traceMatrix 2 := ⟨wlRX1_52, wzRX1, wcX1_traceMatrix, by decide +kernel⟩
theorem vX1_traceMatrix : Cond.static yX1_traceMatrix ∈ TG := wTX1_traceMatrix
theorem kRX1_56 : CB RX1 56 miX1_traceHalf 3 := ⟨wlRX1_56, wzRX1, wcX1_traceHalf, by decide +kernel⟩
theorem vX1_traceHalf : Cond.static yX1_traceHalf ∈ TG := wTX1_traceHalf
theorem kRX1_65 : CB RX1 65 miX1_columnsOf 2 := ⟨wlRX1_65, wzRX1, wcX1_columnsOf, by decide +kernel⟩
theorem vX1_columnsOf : Cond.static yX1_columnsOf ∈ TG := wTX1_columnsOf
theorem kRX1_69 : CB RX1 69 miJ9_max_7cf53 2 := ⟨wlRX1_69, wzRJ9, wcJ9_max_7cf53, by decide +kernel⟩
theorem vJ9_max_7cf53 : Cond.static yJ9_max_7cf53 ∈ TG := wTJ9_max_7cf53
theorem kRX1_74 : CB RX1 74 miJ9_min_7cf53 2 := ⟨wlRX1_74, wzRJ9, wcJ9_min_7cf53, by decide +kernel⟩
theorem vJ9_min_7cf53 : Cond.static yJ9_min_7cf53 ∈ TG := wTJ9_min_7cf53
theorem kRX1_78 : CB RX1 78 miX1_doubled 1 := ⟨wlRX1_78, wzRX1, wcX1_doubled, by decide +kernel⟩
theorem vX1_doubled : Cond.static yX1_doubled ∈ TG := wTX1_doubled
theorem fRX2_9 : FI RX2 9 2 0 1 := ⟨_, _, _, rfl, by decide, wfRX2_9, rfl⟩
theorem fp_2_0 : FP 2 0 1 := Or.inr ⟨_, rfl⟩
theorem fw_2_0 : FW RX2 "<init>" 2 0 := fun C T N h => by cases h; exact Or.inl rfl
theorem fv_2_0 (own nm : String) : FW own nm 2 0 := fun C T N h => by cases h; exact Or.inl rfl
theorem fRX2_15 : FI RX2 15 2 1 1 := ⟨_, _, _, rfl, by decide, wfRX2_15, rfl⟩
theorem fp_2_1 : FP 2 1 1 := Or.inr ⟨_, rfl⟩
theorem fw_2_1 : FW RX2 "<init>" 2 1 := fun C T N h => by cases h; exact Or.inl rfl
theorem fv_2_1 (own nm : String) : FW own nm 2 1 := fun C T N h => by cases h; exact Or.inl rfl
theorem fRX2_18 : FI RX2 18 2 2 1 := ⟨_, _, _, rfl, by decide, wfRX2_18, rfl⟩
theorem fp_2_2 : FP 2 2 1 := Or.inr ⟨_, rfl⟩
theorem fw_2_2 : FW RX2 "<init>" 2 2 := fun C T N h => by cases h; exact Or.inr ⟨rfl, rfl, rfl⟩
theorem kRX2_21 : CB RX2 21 miX1_traceBack 1 := ⟨wlRX2_21, wzRX1, wcX1_traceBack, by decide +kernel⟩
theorem vX1_traceBack : Cond.instanceMethod yX1_traceBack ∈ TG ∧ Cond.selects (yX1_traceBack).cls yX1_traceBack yX1_traceBack ∈ TG := ⟨wIX1_traceBack, wSX1_traceBack⟩
theorem kRX2_27 : CB RX2 27 miX2_takeCells 2 := ⟨wlRX2_27, wzRX2, wcX2_takeCells, by decide +kernel⟩
theorem vX2_takeCells : Cond.instanceMethod yX2_takeCells ∈ TG ∧ Cond.selects (yX2_takeCells).cls yX2_takeCells yX2_takeCells ∈ TG := ⟨wIX2_takeCells, wSX2_takeCells⟩
theorem fRX2_31 : FI RX2 31 1 0 0 := ⟨_, _, _, rfl, by decide, wfRX2_31, rfl⟩
theorem kRX2_35 : CB RX2 35 miX2_makeStage 4 := ⟨wlRX2_35, wzRX2, wcX2_makeStage, by decide +kernel⟩
theorem vX2_makeStage : Cond.instanceMethod yX2_makeStage ∈ TG ∧ Cond.selects (yX2_makeStage).cls yX2_makeStage yX2_makeStage ∈ TG := ⟨wIX2_makeStage, wSX2_makeStage⟩
theorem kRX2_39 : CB RX2 39 miX2_made 3 := ⟨wlRX2_39, wzRX2, wcX2_made, by decide +kernel⟩
theorem vX2_made : Cond.instanceMethod yX2_made ∈ TG ∧ Cond.selects (yX2_made).cls yX2_made yX2_made ∈ TG := ⟨wIX2_made, wSX2_made⟩
theorem kRX2_43 : CB RX2 43 miJ9_min_7cf53 2 := ⟨wlRX2_43, wzRJ9, wcJ9_min_7cf53, by decide +kernel⟩
theorem kRX2_49 : CB RX2 49 miJ9_max_7cf53 2 := ⟨wlRX2_49, wzRJ9, wcJ9_max_7cf53, by decide +kernel⟩
theorem fRX2_52 : FI RX2 52 0 1 0 := ⟨_, _, _, rfl, by decide, wfRX2_52, rfl⟩
theorem fRX2_57 : FI RX2 57 0 0 0 := ⟨_, _, _, rfl, by decide, wfRX2_57, rfl⟩
theorem kRX2_60 : CB RX2 60 miX1_isCellAsked 2 := ⟨wlRX2_60, wzRX1, wcX1_isCellAsked, by decide +kernel⟩
theorem vX1_isCellAsked : Cond.instanceMethod yX1_isCellAsked ∈ TG ∧ Cond.selects (yX1_isCellAsked).cls yX1_isCellAsked yX1_isCellAsked ∈ TG := ⟨wIX1_isCellAsked, wSX1_isCellAsked⟩
theorem kRX2_64 : CBN RX2 64 miX4_placeOf 2 := ⟨by decide +kernel, wzRX4, wcX4_placeOf, by decide +kernel⟩
theorem vX4_placeOf : Cond.static yX4_placeOf ∈ TG := wTX4_placeOf
theorem fRX2_67 : FI RX2 67 0 2 1 := ⟨_, _, _, rfl, by decide, wfRX2_67, rfl⟩
theorem fRX2_70 : FI RX2 70 3 3 1 := ⟨_, _, _, rfl, by decide, wfRX2_70, rfl⟩
theorem fRX2_76 : FI RX2 76 1 1 1 := ⟨_, _, _, rfl, by decide, wfRX2_76, rfl⟩
theorem fRX2_79 : FI RX2 79 3 1 1 := ⟨_, _, _, rfl, by decide, wfRX2_79, rfl⟩
theorem fRX2_82 : FI RX2 82 3 2 1 := ⟨_, _, _, rfl, by decide, wfRX2_82, rfl⟩
theorem kRX2_85 : CB RX2 85 miX2_behindStep 6 := ⟨wlRX2_85, wzRX2, wcX2_behindStep, by decide +kernel⟩
theorem vX2_behindStep : Cond.instanceMethod yX2_behindStep ∈ TG ∧ Cond.selects (yX2_behindStep).cls yX2_behindStep yX2_behindStep ∈ TG := ⟨wIX2_behindStep, wSX2_behindStep⟩
theorem kRX2_89 : CBN RX2 89 miX4_colourOf 2 := ⟨by decide +kernel, wzRX4, wcX4_colourOf, by decide +kernel⟩
theorem vX4_colourOf : Cond.static yX4_colourOf ∈ TG := wTX4_colourOf
theorem kRX2_92 : CB RX2 92 miX2_mended 3 := ⟨wlRX2_92, wzRX2, wcX2_mended, by decide +kernel⟩
theorem vX2_mended : Cond.instanceMethod yX2_mended ∈ TG ∧ Cond.selects (yX2_mended).cls yX2_mended yX2_mended ∈ TG := ⟨wIX2_mended, wSX2_mended⟩
theorem kRX2_96 : CB RX2 96 miX2_middle 3 := ⟨wlRX2_96, wzRX2, wcX2_middle, by decide +kernel⟩
theorem vX2_middle : Cond.instanceMethod yX2_middle ∈ TG ∧ Cond.selects (yX2_middle).cls yX2_middle yX2_middle ∈ TG := ⟨wIX2_middle, wSX2_middle⟩
theorem kRX2_99 : CB RX2 99 miX2_filled 4 := ⟨wlRX2_99, wzRX2, wcX2_filled, by decide +kernel⟩
theorem vX2_filled : Cond.instanceMethod yX2_filled ∈ TG ∧ Cond.selects (yX2_filled).cls yX2_filled yX2_filled ∈ TG := ⟨wIX2_filled, wSX2_filled⟩
theorem kRX2_103 : CB RX2 103 miX2_mingled 4 := ⟨wlRX2_103, wzRX2, wcX2_mingled, by decide +kernel⟩
theorem vX2_mingled : Cond.instanceMethod yX2_mingled ∈ TG ∧ Cond.selects (yX2_mingled).cls yX2_mingled yX2_mingled ∈ TG := ⟨wIX2_mingled, wSX2_mingled⟩
theorem kRX2_107 : CB RX2 107 miX2_bent 2 := ⟨wlRX2_107, wzRX2, wcX2_bent, by decide +kernel⟩
theorem vX2_bent : Cond.static yX2_bent ∈ TG := wTX2_bent
theorem kRX2_111 : CB RX2 111 miX2_sumOf 5 := ⟨wlRX2_111, wzRX2, wcX2_sumOf, by decide +kernel⟩
theorem vX2_sumOf : Cond.instanceMethod yX2_sumOf ∈ TG ∧ Cond.selects (yX2_sumOf).cls yX2_sumOf yX2_sumOf ∈ TG := ⟨wIX2_sumOf, wSX2_sumOf⟩
theorem fRX2_115 : FI RX2 115 0 3 1 := ⟨_, _, _, rfl, by decide, wfRX2_115, rfl⟩
theorem kRX2_125 : CB RX2 125 miX0_hasPlace 2 := ⟨wlRX2_125, wzRX0, wcX0_hasPlace, by decide +kernel⟩
theorem vX0_hasPlace : Cond.instanceMethod yX0_hasPlace ∈ TG ∧ Cond.selects (yX0_hasPlace).cls yX0_hasPlace yX0_hasPlace ∈ TG := ⟨wIX0_hasPlace, wSX0_hasPlace⟩
theorem kRX2_128 : CB RX2 128 miX2_putFiveInOrder 0 := ⟨wlRX2_128, wzRX2, wcX2_putFiveInOrder, by decide +kernel⟩
theorem vX2_putFiveInOrder : Cond.instanceMethod yX2_putFiveInOrder ∈ TG ∧ Cond.selects (yX2_putFiveInOrder).cls yX2_putFiveInOrder yX2_putFiveInOrder ∈ TG := ⟨wIX2_putFiveInOrder, wSX2_putFiveInOrder⟩
theorem kRX2_131 : CB RX2 131 miJ9_floorDiv_7cf53 2 := ⟨wlRX2_131, wzRJ9, wcJ9_floorDiv_7cf53, by decide +kernel⟩
theorem vJ9_floorDiv_7cf53 : Cond.static yJ9_floorDiv_7cf53 ∈ TG := wTJ9_floorDiv_7cf53
theorem fRX3_9 : FI RX3 9 3 1 1 := ⟨_, _, _, rfl, by decide, wfRX3_9, rfl⟩
theorem fp_3_1 : FP 3 1 1 := Or.inr ⟨_, rfl⟩
theorem fw_3_1 : FW RX3 "<init>" 3 1 := fun C T N h => by cases h; exact Or.inr ⟨rfl, rfl, rfl⟩
theorem fRX3_17 : FI RX3 17 3 2 1 := ⟨_, _, _, rfl, by decide, wfRX3_17, rfl⟩
theorem fp_3_2 : FP 3 2 1 := Or.inr ⟨_, rfl⟩
theorem fw_3_2 : FW RX3 "<init>" 3 2 := fun C T N h => by cases h; exact Or.inr ⟨rfl, rfl, rfl⟩
theorem fRX3_20 : FI RX3 20 3 3 1 := ⟨_, _, _, rfl, by decide, wfRX3_20, rfl⟩
theorem fp_3_3 : FP 3 3 1 := Or.inr ⟨_, rfl⟩
theorem fw_3_3 : FW RX3 "<init>" 3 3 := fun C T N h => by cases h; exact Or.inr ⟨rfl, rfl, rfl⟩
theorem fRX3_23 : FI RX3 23 3 0 0 := ⟨_, _, _, rfl, by decide, wfRX3_23, rfl⟩
theorem fp_3_0 : FP 3 0 0 := rfl
theorem fw_3_0 : FW RX3 "<init>" 3 0 := fun C T N h => by cases h; exact Or.inl rfl
theorem fv_3_0 (own nm : String) : FW own nm 3 0 := fun C T N h => by cases h; exact Or.inl rfl
theorem kRX3_36 : CB RX3 36 miX3_lagOf 2 := ⟨wlRX3_36, wzRX3, wcX3_lagOf, by decide +kernel⟩
theorem vX3_lagOf : Cond.static yX3_lagOf ∈ TG := wTX3_lagOf
theorem kRX3_40 : CBN RX3 40 miX4_isWithin 3 := ⟨by decide +kernel, wzRX4, wcX4_isWithin, by decide +kernel⟩
theorem vX4_isWithin : Cond.static yX4_isWithin ∈ TG := wTX4_isWithin
theorem kRX4_11 : CBN RX4 11 miX0_init 0 := ⟨by decide +kernel, wzRX0, wcX0_init, by decide +kernel⟩
theorem vX0_init : (yX0_init).name = "<init>" ∧ (miX0_init).2.2.2.1 = none ∧ Cond.instanceMethod yX0_init ∈ TG := ⟨rfl, rfl, wIX0_init⟩
theorem fRX4_12 : FI RX4 12 4 0 1 := ⟨_, _, _, rfl, by decide, wfRX4_12, rfl⟩
theorem fp_4_0 : FP 4 0 1 := Or.inl ⟨_, rfl⟩
theorem fw_4_0 : FW RX4 "<init>" 4 0 := fun C T N h => by cases h; exact Or.inr ⟨rfl, rfl, rfl⟩
theorem kRX4_18 : CBN RX4 18 miX3_init 0 := ⟨by decide +kernel, wzRX3, wcX3_init, by decide +kernel⟩
theorem vX3_init : (yX3_init).name = "<init>" ∧ (miX3_init).2.2.2.1 = none ∧ Cond.instanceMethod yX3_init ∈ TG := ⟨rfl, rfl, wIX3_init⟩
theorem fRX4_19 : FI RX4 19 4 1 1 := ⟨_, _, _, rfl, by decide, wfRX4_19, rfl⟩
theorem fp_4_1 : FP 4 1 1 := Or.inl ⟨_, rfl⟩
theorem fw_4_1 : FW RX4 "<init>" 4 1 := fun C T N h => by cases h; exact Or.inr ⟨rfl, rfl, rfl⟩
theorem kRX4_25 : CBN RX4 25 miX1_init 0 := ⟨by decide +kernel, wzRX1, wcX1_init, by decide +kernel⟩
theorem vX1_init : (yX1_init).name = "<init>" ∧ (miX1_init).2.2.2.1 = none ∧ Cond.instanceMethod yX1_init ∈ TG := ⟨rfl, rfl, wIX1_init⟩
theorem fRX4_26 : FI RX4 26 4 2 1 := ⟨_, _, _, rfl, by decide, wfRX4_26, rfl⟩
theorem fp_4_2 : FP 4 2 1 := Or.inl ⟨_, rfl⟩
theorem fw_4_2 : FW RX4 "<init>" 4 2 := fun C T N h => by cases h; exact Or.inr ⟨rfl, rfl, rfl⟩
theorem kRX4_32 : CBN RX4 32 miX2_init 0 := ⟨by decide +kernel, wzRX2, wcX2_init, by decide +kernel⟩
theorem vX2_init : (yX2_init).name = "<init>" ∧ (miX2_init).2.2.2.1 = none ∧ Cond.instanceMethod yX2_init ∈ TG := ⟨rfl, rfl, wIX2_init⟩
theorem fRX4_33 : FI RX4 33 4 3 1 := ⟨_, _, _, rfl, by decide, wfRX4_33, rfl⟩
theorem fp_4_3 : FP 4 3 1 := Or.inl ⟨_, rfl⟩
theorem fw_4_3 : FW RX4 "<init>" 4 3 := fun C T N h => by cases h; exact Or.inr ⟨rfl, rfl, rfl⟩
theorem fRX4_46 : FI RX4 46 4 4 1 := ⟨_, _, _, rfl, by decide, wfRX4_46, rfl⟩
theorem fp_4_4 : FP 4 4 1 := Or.inr ⟨_, rfl⟩
theorem fw_4_4 : FW RX4 "<init>" 4 4 := fun C T N h => by cases h; exact Or.inr ⟨rfl, rfl, rfl⟩
theorem fRX4_49 : FI RX4 49 4 5 1 := ⟨_, _, _, rfl, by decide, wfRX4_49, rfl⟩
theorem fp_4_5 : FP 4 5 1 := Or.inr ⟨_, rfl⟩
theorem fw_4_5 : FW RX4 "<init>" 4 5 := fun C T N h => by cases h; exact Or.inr ⟨rfl, rfl, rfl⟩
theorem kRX4_52 : CB RX4 52 miX0_renew 2 := ⟨wlRX4_52, wzRX0, wcX0_renew, by decide +kernel⟩
theorem vX0_renew : Cond.instanceMethod yX0_renew ∈ TG ∧ Cond.selects (yX0_renew).cls yX0_renew yX0_renew ∈ TG := ⟨wIX0_renew, wSX0_renew⟩
theorem kRX4_56 : CB RX4 56 miX3_restart 2 := ⟨wlRX4_56, wzRX3, wcX3_restart, by decide +kernel⟩
theorem vX3_restart : Cond.instanceMethod yX3_restart ∈ TG ∧ Cond.selects (yX3_restart).cls yX3_restart yX3_restart ∈ TG := ⟨wIX3_restart, wSX3_restart⟩
theorem kRX4_59 : CB RX4 59 miJ9_min_7cf53 2 := ⟨wlRX4_59, wzRJ9, wcJ9_min_7cf53, by decide +kernel⟩
theorem kRX4_65 : CB RX4 65 miX4_isWithin 3 := ⟨wlRX4_65, wzRX4, wcX4_isWithin, by decide +kernel⟩
theorem kRX4_69 : CB RX4 69 miX0_hasPlace 2 := ⟨wlRX4_69, wzRX0, wcX0_hasPlace, by decide +kernel⟩
theorem kRX4_73 : CB RX4 73 miX4_placeOf 2 := ⟨wlRX4_73, wzRX4, wcX4_placeOf, by decide +kernel⟩
theorem fRX4_76 : FI RX4 76 0 2 1 := ⟨_, _, _, rfl, by decide, wfRX4_76, rfl⟩
theorem fRX4_79 : FI RX4 79 0 3 1 := ⟨_, _, _, rfl, by decide, wfRX4_79, rfl⟩
theorem kRX4_83 : CB RX4 83 miX4_addStep 2 := ⟨wlRX4_83, wzRX4, wcX4_addStep, by decide +kernel⟩
theorem vX4_addStep : Cond.instanceMethod yX4_addStep ∈ TG ∧ Cond.selects (yX4_addStep).cls yX4_addStep yX4_addStep ∈ TG := ⟨wIX4_addStep, wSX4_addStep⟩
theorem fRX4_90 : FI RX4 90 3 0 0 := ⟨_, _, _, rfl, by decide, wfRX4_90, rfl⟩
theorem fRX4_94 : FI RX4 94 3 1 1 := ⟨_, _, _, rfl, by decide, wfRX4_94, rfl⟩
theorem kRX4_97 : CB RX4 97 miX3_hasStage 1 := ⟨wlRX4_97, wzRX3, wcX3_hasStage, by decide +kernel⟩
theorem vX3_hasStage : Cond.instanceMethod yX3_hasStage ∈ TG ∧ Cond.selects (yX3_hasStage).cls yX3_hasStage yX3_hasStage ∈ TG := ⟨wIX3_hasStage, wSX3_hasStage⟩
theorem fRX4_101 : FI RX4 101 3 3 1 := ⟨_, _, _, rfl, by decide, wfRX4_101, rfl⟩
theorem kRX4_105 : CB RX4 105 miX3_holdsPart 5 := ⟨wlRX4_105, wzRX3, wcX3_holdsPart, by decide +kernel⟩
theorem vX3_holdsPart : Cond.instanceMethod yX3_holdsPart ∈ TG ∧ Cond.selects (yX3_holdsPart).cls yX3_holdsPart yX3_holdsPart ∈ TG := ⟨wIX3_holdsPart, wSX3_holdsPart⟩
theorem kRX4_109 : CB RX4 109 miX3_hasPlane 2 := ⟨wlRX4_109, wzRX3, wcX3_hasPlane, by decide +kernel⟩
theorem vX3_hasPlane : Cond.instanceMethod yX3_hasPlane ∈ TG ∧ Cond.selects (yX3_hasPlane).cls yX3_hasPlane yX3_hasPlane ∈ TG := ⟨wIX3_hasPlane, wSX3_hasPlane⟩
theorem kRX4_112 : CB RX4 112 miX1_begin 1 := ⟨wlRX4_112, wzRX1, wcX1_begin, by decide +kernel⟩
theorem vX1_begin : Cond.instanceMethod yX1_begin ∈ TG ∧ Cond.selects (yX1_begin).cls yX1_begin yX1_begin ∈ TG := ⟨wIX1_begin, wSX1_begin⟩
theorem kRX4_116 : CB RX4 116 miX1_askFor 5 := ⟨wlRX4_116, wzRX1, wcX1_askFor, by decide +kernel⟩
theorem vX1_askFor : Cond.instanceMethod yX1_askFor ∈ TG ∧ Cond.selects (yX1_askFor).cls yX1_askFor yX1_askFor ∈ TG := ⟨wIX1_askFor, wSX1_askFor⟩
theorem kRX4_120 : CB RX4 120 miX2_make 3 := ⟨wlRX4_120, wzRX2, wcX2_make, by decide +kernel⟩
theorem vX2_make : Cond.instanceMethod yX2_make ∈ TG ∧ Cond.selects (yX2_make).cls yX2_make yX2_make ∈ TG := ⟨wIX2_make, wSX2_make⟩
theorem kRX4_124 : CB RX4 124 miX2_made 3 := ⟨wlRX4_124, wzRX2, wcX2_made, by decide +kernel⟩
theorem kRX4_128 : CB RX4 128 miX2_sumOf 5 := ⟨wlRX4_128, wzRX2, wcX2_sumOf, by decide +kernel⟩
theorem kRX4_132 : CB RX4 132 miX1_traceBack 1 := ⟨wlRX4_132, wzRX1, wcX1_traceBack, by decide +kernel⟩
theorem kRX4_136 : CB RX4 136 miX1_cellsAsked 0 := ⟨wlRX4_136, wzRX1, wcX1_cellsAsked, by decide +kernel⟩
theorem vX1_cellsAsked : Cond.instanceMethod yX1_cellsAsked ∈ TG ∧ Cond.selects (yX1_cellsAsked).cls yX1_cellsAsked yX1_cellsAsked ∈ TG := ⟨wIX1_cellsAsked, wSX1_cellsAsked⟩
theorem kRX4_140 : CB RX4 140 miX1_isCellAsked 2 := ⟨wlRX4_140, wzRX1, wcX1_isCellAsked, by decide +kernel⟩
theorem kRX4_143 : CB RX4 143 miX2_leastOf 3 := ⟨wlRX4_143, wzRX2, wcX2_leastOf, by decide +kernel⟩
theorem vX2_leastOf : Cond.instanceMethod yX2_leastOf ∈ TG ∧ Cond.selects (yX2_leastOf).cls yX2_leastOf yX2_leastOf ∈ TG := ⟨wIX2_leastOf, wSX2_leastOf⟩
theorem kRX4_146 : CB RX4 146 miX2_greatestOf 3 := ⟨wlRX4_146, wzRX2, wcX2_greatestOf, by decide +kernel⟩
theorem vX2_greatestOf : Cond.instanceMethod yX2_greatestOf ∈ TG ∧ Cond.selects (yX2_greatestOf).cls yX2_greatestOf yX2_greatestOf ∈ TG := ⟨wIX2_greatestOf, wSX2_greatestOf⟩
theorem fRX4_149 : FI RX4 149 0 0 0 := ⟨_, _, _, rfl, by decide, wfRX4_149, rfl⟩
theorem fRX4_152 : FI RX4 152 0 1 0 := ⟨_, _, _, rfl, by decide, wfRX4_152, rfl⟩
theorem kRX4_155 : CB RX4 155 miX0_howManyDead 0 := ⟨wlRX4_155, wzRX0, wcX0_howManyDead, by decide +kernel⟩
theorem vX0_howManyDead : Cond.instanceMethod yX0_howManyDead ∈ TG ∧ Cond.selects (yX0_howManyDead).cls yX0_howManyDead yX0_howManyDead ∈ TG := ⟨wIX0_howManyDead, wSX0_howManyDead⟩
theorem kRX4_160 : CB RX4 160 miX4_mixed 2 := ⟨wlRX4_160, wzRX4, wcX4_mixed, by decide +kernel⟩
theorem vX4_mixed : Cond.static yX4_mixed ∈ TG := wTX4_mixed
theorem kRX4_164 : CB RX4 164 miX4_mixedCells 1 := ⟨wlRX4_164, wzRX4, wcX4_mixedCells, by decide +kernel⟩
theorem vX4_mixedCells : Cond.instanceMethod yX4_mixedCells ∈ TG ∧ Cond.selects (yX4_mixedCells).cls yX4_mixedCells yX4_mixedCells ∈ TG := ⟨wIX4_mixedCells, wSX4_mixedCells⟩
theorem kRX4_168 : CB RX4 168 miX4_mixedSteps 1 := ⟨wlRX4_168, wzRX4, wcX4_mixedSteps, by decide +kernel⟩
theorem vX4_mixedSteps : Cond.instanceMethod yX4_mixedSteps ∈ TG ∧ Cond.selects (yX4_mixedSteps).cls yX4_mixedSteps yX4_mixedSteps ∈ TG := ⟨wIX4_mixedSteps, wSX4_mixedSteps⟩
theorem kRX4_171 : CB RX4 171 miX4_mixedRow 3 := ⟨wlRX4_171, wzRX4, wcX4_mixedRow, by decide +kernel⟩
theorem vX4_mixedRow : Cond.static yX4_mixedRow ∈ TG := wTX4_mixedRow
theorem kRX4_175 : CB RX4 175 miX4_mixedPicture 1 := ⟨wlRX4_175, wzRX4, wcX4_mixedPicture, by decide +kernel⟩
theorem vX4_mixedPicture : Cond.instanceMethod yX4_mixedPicture ∈ TG ∧ Cond.selects (yX4_mixedPicture).cls yX4_mixedPicture yX4_mixedPicture ∈ TG := ⟨wIX4_mixedPicture, wSX4_mixedPicture⟩
theorem kRX4_178 : CB RX4 178 miX3_mayTake 1 := ⟨wlRX4_178, wzRX3, wcX3_mayTake, by decide +kernel⟩
theorem vX3_mayTake : Cond.instanceMethod yX3_mayTake ∈ TG ∧ Cond.selects (yX3_mayTake).cls yX3_mayTake yX3_mayTake ∈ TG := ⟨wIX3_mayTake, wSX3_mayTake⟩
theorem kRX4_181 : CB RX4 181 miX3_append 2 := ⟨wlRX4_181, wzRX3, wcX3_append, by decide +kernel⟩
theorem vX3_append : Cond.instanceMethod yX3_append ∈ TG ∧ Cond.selects (yX3_append).cls yX3_append yX3_append ∈ TG := ⟨wIX3_append, wSX3_append⟩
theorem fRX4_185 : FI RX4 185 3 2 1 := ⟨_, _, _, rfl, by decide, wfRX4_185, rfl⟩
theorem fRX5_7 : FI RX5 7 5 0 0 := ⟨_, _, _, rfl, by decide, wfRX5_7, rfl⟩
theorem fp_5_0 : FP 5 0 0 := rfl
theorem fw_5_0 : FW RX5 "<init>" 5 0 := fun C T N h => by cases h; exact Or.inl rfl
theorem fv_5_0 (own nm : String) : FW own nm 5 0 := fun C T N h => by cases h; exact Or.inl rfl
theorem fRX5_13 : FI RX5 13 5 1 0 := ⟨_, _, _, rfl, by decide, wfRX5_13, rfl⟩
theorem fp_5_1 : FP 5 1 0 := rfl
theorem fw_5_1 : FW RX5 "<init>" 5 1 := fun C T N h => by cases h; exact Or.inl rfl
theorem fv_5_1 (own nm : String) : FW own nm 5 1 := fun C T N h => by cases h; exact Or.inl rfl
theorem fRX5_16 : FI RX5 16 5 2 1 := ⟨_, _, _, rfl, by decide, wfRX5_16, rfl⟩
theorem fp_5_2 : FP 5 2 1 := Or.inr ⟨_, rfl⟩
theorem fw_5_2 : FW RX5 "<init>" 5 2 := fun C T N h => by cases h; exact Or.inr ⟨rfl, rfl, rfl⟩
theorem fRX5_20 : FI RX5 20 5 3 1 := ⟨_, _, _, rfl, by decide, wfRX5_20, rfl⟩
theorem fp_5_3 : FP 5 3 1 := Or.inr ⟨_, rfl⟩
theorem fw_5_3 : FW RX5 "<init>" 5 3 := fun C T N h => by cases h; exact Or.inr ⟨rfl, rfl, rfl⟩
theorem fRX5_24 : FI RX5 24 5 5 1 := ⟨_, _, _, rfl, by decide, wfRX5_24, rfl⟩
theorem fp_5_5 : FP 5 5 1 := Or.inr ⟨_, rfl⟩
theorem fw_5_5 : FW RX5 "<init>" 5 5 := fun C T N h => by cases h; exact Or.inr ⟨rfl, rfl, rfl⟩
theorem fRX5_27 : FI RX5 27 5 6 1 := ⟨_, _, _, rfl, by decide, wfRX5_27, rfl⟩
theorem fp_5_6 : FP 5 6 1 := Or.inr ⟨_, rfl⟩
theorem fw_5_6 : FW RX5 "<init>" 5 6 := fun C T N h => by cases h; exact Or.inr ⟨rfl, rfl, rfl⟩
theorem fRX5_30 : FI RX5 30 5 7 1 := ⟨_, _, _, rfl, by decide, wfRX5_30, rfl⟩
theorem fp_5_7 : FP 5 7 1 := Or.inr ⟨_, rfl⟩
theorem fw_5_7 : FW RX5 "<init>" 5 7 := fun C T N h => by cases h; exact Or.inr ⟨rfl, rfl, rfl⟩
theorem fRX5_33 : FI RX5 33 5 8 1 := ⟨_, _, _, rfl, by decide, wfRX5_33, rfl⟩
theorem fp_5_8 : FP 5 8 1 := Or.inr ⟨_, rfl⟩
theorem fw_5_8 : FW RX5 "<init>" 5 8 := fun C T N h => by cases h; exact Or.inr ⟨rfl, rfl, rfl⟩
theorem fRX5_36 : FI RX5 36 5 9 1 := ⟨_, _, _, rfl, by decide, wfRX5_36, rfl⟩
theorem fp_5_9 : FP 5 9 1 := Or.inr ⟨_, rfl⟩
theorem fw_5_9 : FW RX5 "<init>" 5 9 := fun C T N h => by cases h; exact Or.inr ⟨rfl, rfl, rfl⟩
theorem fRX5_39 : FI RX5 39 5 10 1 := ⟨_, _, _, rfl, by decide, wfRX5_39, rfl⟩
theorem fp_5_10 : FP 5 10 1 := Or.inr ⟨_, rfl⟩
theorem fw_5_10 : FW RX5 "<init>" 5 10 := fun C T N h => by cases h; exact Or.inr ⟨rfl, rfl, rfl⟩
theorem fRX5_42 : FI RX5 42 5 11 1 := ⟨_, _, _, rfl, by decide, wfRX5_42, rfl⟩
theorem fp_5_11 : FP 5 11 1 := Or.inr ⟨_, rfl⟩
theorem fw_5_11 : FW RX5 "<init>" 5 11 := fun C T N h => by cases h; exact Or.inr ⟨rfl, rfl, rfl⟩
theorem fRX5_45 : FI RX5 45 5 12 1 := ⟨_, _, _, rfl, by decide, wfRX5_45, rfl⟩
theorem fp_5_12 : FP 5 12 1 := Or.inr ⟨_, rfl⟩
theorem fw_5_12 : FW RX5 "<init>" 5 12 := fun C T N h => by cases h; exact Or.inr ⟨rfl, rfl, rfl⟩
theorem fRX5_48 : FI RX5 48 5 13 1 := ⟨_, _, _, rfl, by decide, wfRX5_48, rfl⟩
theorem fp_5_13 : FP 5 13 1 := Or.inr ⟨_, rfl⟩
theorem fw_5_13 : FW RX5 "<init>" 5 13 := fun C T N h => by cases h; exact Or.inr ⟨rfl, rfl, rfl⟩
theorem fRX5_51 : FI RX5 51 5 14 1 := ⟨_, _, _, rfl, by decide, wfRX5_51, rfl⟩
theorem fp_5_14 : FP 5 14 1 := Or.inr ⟨_, rfl⟩
theorem fw_5_14 : FW RX5 "<init>" 5 14 := fun C T N h => by cases h; exact Or.inr ⟨rfl, rfl, rfl⟩
theorem fRX5_54 : FI RX5 54 5 15 1 := ⟨_, _, _, rfl, by decide, wfRX5_54, rfl⟩
theorem fp_5_15 : FP 5 15 1 := Or.inr ⟨_, rfl⟩
theorem fw_5_15 : FW RX5 "<init>" 5 15 := fun C T N h => by cases h; exact Or.inr ⟨rfl, rfl, rfl⟩
theorem fRX5_57 : FI RX5 57 5 16 1 := ⟨_, _, _, rfl, by decide, wfRX5_57, rfl⟩
theorem fp_5_16 : FP 5 16 1 := Or.inr ⟨_, rfl⟩
theorem fw_5_16 : FW RX5 "<init>" 5 16 := fun C T N h => by cases h; exact Or.inr ⟨rfl, rfl, rfl⟩
theorem kRX5_60 : CB RX5 60 miX5_in 3 := ⟨wlRX5_60, wzRX5, wcX5_in, by decide +kernel⟩
theorem vX5_in : Cond.static yX5_in ∈ TG := wTX5_in
theorem fRX5_64 : FI RX5 64 5 4 0 := ⟨_, _, _, rfl, by decide, wfRX5_64, rfl⟩
theorem fp_5_4 : FP 5 4 0 := rfl
theorem fw_5_4 : FW RX5 "<init>" 5 4 := fun C T N h => by cases h; exact Or.inl rfl
theorem fv_5_4 (own nm : String) : FW own nm 5 4 := fun C T N h => by cases h; exact Or.inl rfl
theorem kRX5_67 : CB RX5 67 miX5_isCell 2 := ⟨wlRX5_67, wzRX5, wcX5_isCell, by decide +kernel⟩
theorem vX5_isCell : Cond.instanceMethod yX5_isCell ∈ TG ∧ Cond.selects (yX5_isCell).cls yX5_isCell yX5_isCell ∈ TG := ⟨wIX5_isCell, wSX5_isCell⟩
theorem kRX5_71 : CB RX5 71 miX5_measure 0 := ⟨wlRX5_71, wzRX5, wcX5_measure, by decide +kernel⟩
theorem vX5_measure : Cond.instanceMethod yX5_measure ∈ TG ∧ Cond.selects (yX5_measure).cls yX5_measure yX5_measure ∈ TG := ⟨wIX5_measure, wSX5_measure⟩
theorem kRX5_74 : CB RX5 74 miX5_hasColours 0 := ⟨wlRX5_74, wzRX5, wcX5_hasColours, by decide +kernel⟩
theorem vX5_hasColours : Cond.instanceMethod yX5_hasColours ∈ TG ∧ Cond.selects (yX5_hasColours).cls yX5_hasColours yX5_hasColours ∈ TG := ⟨wIX5_hasColours, wSX5_hasColours⟩
theorem kRX5_78 : CB RX5 78 miX5_barred 1 := ⟨wlRX5_78, wzRX5, wcX5_barred, by decide +kernel⟩
theorem vX5_barred : Cond.instanceMethod yX5_barred ∈ TG ∧ Cond.selects (yX5_barred).cls yX5_barred yX5_barred ∈ TG := ⟨wIX5_barred, wSX5_barred⟩
theorem kRX5_82 : CB RX5 82 miX5_come 1 := ⟨wlRX5_82, wzRX5, wcX5_come, by decide +kernel⟩
theorem vX5_come : Cond.instanceMethod yX5_come ∈ TG ∧ Cond.selects (yX5_come).cls yX5_come yX5_come ∈ TG := ⟨wIX5_come, wSX5_come⟩
theorem kRX5_85 : CB RX5 85 miX5_place 4 := ⟨wlRX5_85, wzRX5, wcX5_place, by decide +kernel⟩
theorem vX5_place : Cond.static yX5_place ∈ TG := wTX5_place
theorem kRX5_89 : CB RX5 89 miX5_overX 1 := ⟨wlRX5_89, wzRX5, wcX5_overX, by decide +kernel⟩
theorem vX5_overX : Cond.static yX5_overX ∈ TG := wTX5_overX
theorem kRX5_92 : CB RX5 92 miX5_overY 1 := ⟨wlRX5_92, wzRX5, wcX5_overY, by decide +kernel⟩
theorem vX5_overY : Cond.static yX5_overY ∈ TG := wTX5_overY
theorem kRX5_95 : CB RX5 95 miX5_isPlace 3 := ⟨wlRX5_95, wzRX5, wcX5_isPlace, by decide +kernel⟩
theorem vX5_isPlace : Cond.instanceMethod yX5_isPlace ∈ TG ∧ Cond.selects (yX5_isPlace).cls yX5_isPlace yX5_isPlace ∈ TG := ⟨wIX5_isPlace, wSX5_isPlace⟩
theorem kRX5_98 : CB RX5 98 miX5_colour 2 := ⟨wlRX5_98, wzRX5, wcX5_colour, by decide +kernel⟩
theorem vX5_colour : Cond.static yX5_colour ∈ TG := wTX5_colour
theorem kRX5_102 : CB RX5 102 miX5_mended 3 := ⟨wlRX5_102, wzRX5, wcX5_mended, by decide +kernel⟩
theorem vX5_mended : Cond.instanceMethod yX5_mended ∈ TG ∧ Cond.selects (yX5_mended).cls yX5_mended yX5_mended ∈ TG := ⟨wIX5_mended, wSX5_mended⟩
theorem kRX5_106 : CB RX5 106 miX5_middle 3 := ⟨wlRX5_106, wzRX5, wcX5_middle, by decide +kernel⟩
theorem vX5_middle : Cond.instanceMethod yX5_middle ∈ TG ∧ Cond.selects (yX5_middle).cls yX5_middle yX5_middle ∈ TG := ⟨wIX5_middle, wSX5_middle⟩
theorem kRX5_109 : CB RX5 109 miX5_coloured 4 := ⟨wlRX5_109, wzRX5, wcX5_coloured, by decide +kernel⟩
theorem vX5_coloured : Cond.instanceMethod yX5_coloured ∈ TG ∧ Cond.selects (yX5_coloured).cls yX5_coloured yX5_coloured ∈ TG := ⟨wIX5_coloured, wSX5_coloured⟩
theorem kRX5_112 : CB RX5 112 miX5_matrixed 4 := ⟨wlRX5_112, wzRX5, wcX5_matrixed, by decide +kernel⟩
theorem vX5_matrixed : Cond.instanceMethod yX5_matrixed ∈ TG ∧ Cond.selects (yX5_matrixed).cls yX5_matrixed yX5_matrixed ∈ TG := ⟨wIX5_matrixed, wSX5_matrixed⟩
theorem kRX5_115 : CB RX5 115 miX5_curved 2 := ⟨wlRX5_115, wzRX5, wcX5_curved, by decide +kernel⟩
theorem vX5_curved : Cond.instanceMethod yX5_curved ∈ TG ∧ Cond.selects (yX5_curved).cls yX5_curved yX5_curved ∈ TG := ⟨wIX5_curved, wSX5_curved⟩
theorem kRX5_118 : CB RX5 118 miX5_halved 4 := ⟨wlRX5_118, wzRX5, wcX5_halved, by decide +kernel⟩
theorem vX5_halved : Cond.instanceMethod yX5_halved ∈ TG ∧ Cond.selects (yX5_halved).cls yX5_halved yX5_halved ∈ TG := ⟨wIX5_halved, wSX5_halved⟩
theorem kRX5_121 : CB RX5 121 miX5_made 4 := ⟨wlRX5_121, wzRX5, wcX5_made, by decide +kernel⟩
theorem vX5_made : Cond.instanceMethod yX5_made ∈ TG ∧ Cond.selects (yX5_made).cls yX5_made yX5_made ∈ TG := ⟨wIX5_made, wSX5_made⟩
theorem kRX5_124 : CB RX5 124 miX5_make 1 := ⟨wlRX5_124, wzRX5, wcX5_make, by decide +kernel⟩
theorem vX5_make : Cond.instanceMethod yX5_make ∈ TG ∧ Cond.selects (yX5_make).cls yX5_make yX5_make ∈ TG := ⟨wIX5_make, wSX5_make⟩
theorem kRX5_128 : CB RX5 128 miX5_isPart 4 := ⟨wlRX5_128, wzRX5, wcX5_isPart, by decide +kernel⟩
theorem vX5_isPart : Cond.instanceMethod yX5_isPart ∈ TG ∧ Cond.selects (yX5_isPart).cls yX5_isPart yX5_isPart ∈ TG := ⟨wIX5_isPart, wSX5_isPart⟩
theorem kRX5_132 : CB RX5 132 miX5_touch 4 := ⟨wlRX5_132, wzRX5, wcX5_touch, by decide +kernel⟩
theorem vX5_touch : Cond.instanceMethod yX5_touch ∈ TG ∧ Cond.selects (yX5_touch).cls yX5_touch yX5_touch ∈ TG := ⟨wIX5_touch, wSX5_touch⟩
theorem kRX5_136 : CB RX5 136 miX5_countFor 4 := ⟨wlRX5_136, wzRX5, wcX5_countFor, by decide +kernel⟩
theorem vX5_countFor : Cond.instanceMethod yX5_countFor ∈ TG ∧ Cond.selects (yX5_countFor).cls yX5_countFor yX5_countFor ∈ TG := ⟨wIX5_countFor, wSX5_countFor⟩
theorem kRX5_139 : CB RX5 139 miX5_forget 0 := ⟨wlRX5_139, wzRX5, wcX5_forget, by decide +kernel⟩
theorem vX5_forget : Cond.instanceMethod yX5_forget ∈ TG ∧ Cond.selects (yX5_forget).cls yX5_forget yX5_forget ∈ TG := ⟨wIX5_forget, wSX5_forget⟩
theorem kRX5_142 : CB RX5 142 miX5_trace 0 := ⟨wlRX5_142, wzRX5, wcX5_trace, by decide +kernel⟩
theorem vX5_trace : Cond.instanceMethod yX5_trace ∈ TG ∧ Cond.selects (yX5_trace).cls yX5_trace yX5_trace ∈ TG := ⟨wIX5_trace, wSX5_trace⟩
theorem fRX5_147 : FI RX5 147 5 17 2 := ⟨_, _, _, rfl, by decide, wfRX5_147, rfl⟩
theorem fp_5_17 : FP 5 17 2 := rfl
theorem fw_5_17 : FW RX5 "<init>" 5 17 := fun C T N h => by cases h; exact Or.inl rfl
theorem fv_5_17 (own nm : String) : FW own nm 5 17 := fun C T N h => by cases h; exact Or.inl rfl
theorem kRX5_153 : CB RX5 153 miX5_mix 1 := ⟨wlRX5_153, wzRX5, wcX5_mix, by decide +kernel⟩
theorem vX5_mix : Cond.instanceMethod yX5_mix ∈ TG ∧ Cond.selects (yX5_mix).cls yX5_mix yX5_mix ∈ TG := ⟨wIX5_mix, wSX5_mix⟩
theorem kRX5_157 : CB RX5 157 miX5_many 1 := ⟨wlRX5_157, wzRX5, wcX5_many, by decide +kernel⟩
theorem vX5_many : Cond.static yX5_many ∈ TG := wTX5_many
theorem kRL_9 : CB RL 9 miX4_init 0 := ⟨wlRL_9, wzRX4, wcX4_init, by decide +kernel⟩
theorem vX4_init : (yX4_init).name = "<init>" ∧ (miX4_init).2.2.2.1 = none ∧ Cond.instanceMethod yX4_init ∈ TG := ⟨rfl, rfl, wIX4_init⟩
theorem kRL_12 : CB RL 12 miX5_init 0 := ⟨wlRL_12, wzRX5, wcX5_init, by decide +kernel⟩
theorem vX5_init : (yX5_init).name = "<init>" ∧ (miX5_init).2.2.2.1 = none ∧ Cond.instanceMethod yX5_init ∈ TG := ⟨rfl, rfl, wIX5_init⟩
theorem kRL_13 : CB RL 13 miX4_size 2 := ⟨wlRL_13, wzRX4, wcX4_size, by decide +kernel⟩
theorem vX4_size : Cond.instanceMethod yX4_size ∈ TG ∧ Cond.selects (yX4_size).cls yX4_size yX4_size ∈ TG := ⟨wIX4_size, wSX4_size⟩
theorem kRL_17 : CB RL 17 miX5_size 2 := ⟨wlRL_17, wzRX5, wcX5_size, by decide +kernel⟩
theorem vX5_size : Cond.instanceMethod yX5_size ∈ TG ∧ Cond.selects (yX5_size).cls yX5_size yX5_size ∈ TG := ⟨wIX5_size, wSX5_size⟩
theorem kRL_18 : CB RL 18 miX4_cell 3 := ⟨wlRL_18, wzRX4, wcX4_cell, by decide +kernel⟩
theorem vX4_cell : Cond.instanceMethod yX4_cell ∈ TG ∧ Cond.selects (yX4_cell).cls yX4_cell yX4_cell ∈ TG := ⟨wIX4_cell, wSX4_cell⟩
theorem kRL_22 : CB RL 22 miX5_cell 3 := ⟨wlRL_22, wzRX5, wcX5_cell, by decide +kernel⟩
theorem vX5_cell : Cond.instanceMethod yX5_cell ∈ TG ∧ Cond.selects (yX5_cell).cls yX5_cell yX5_cell ∈ TG := ⟨wIX5_cell, wSX5_cell⟩
theorem kRL_23 : CB RL 23 miX4_dead 3 := ⟨wlRL_23, wzRX4, wcX4_dead, by decide +kernel⟩
theorem vX4_dead : Cond.instanceMethod yX4_dead ∈ TG ∧ Cond.selects (yX4_dead).cls yX4_dead yX4_dead ∈ TG := ⟨wIX4_dead, wSX4_dead⟩
theorem kRL_27 : CB RL 27 miX5_dead 3 := ⟨wlRL_27, wzRX5, wcX5_dead, by decide +kernel⟩
theorem vX5_dead : Cond.instanceMethod yX5_dead ∈ TG ∧ Cond.selects (yX5_dead).cls yX5_dead yX5_dead ∈ TG := ⟨wIX5_dead, wSX5_dead⟩
theorem kRL_28 : CB RL 28 miX4_black 1 := ⟨wlRL_28, wzRX4, wcX4_black, by decide +kernel⟩
theorem vX4_black : Cond.instanceMethod yX4_black ∈ TG ∧ Cond.selects (yX4_black).cls yX4_black yX4_black ∈ TG := ⟨wIX4_black, wSX4_black⟩
theorem kRL_32 : CB RL 32 miX5_black 1 := ⟨wlRL_32, wzRX5, wcX5_black, by decide +kernel⟩
theorem vX5_black : Cond.instanceMethod yX5_black ∈ TG ∧ Cond.selects (yX5_black).cls yX5_black yX5_black ∈ TG := ⟨wIX5_black, wSX5_black⟩
theorem kRL_33 : CB RL 33 miX4_gain 3 := ⟨wlRL_33, wzRX4, wcX4_gain, by decide +kernel⟩
theorem vX4_gain : Cond.instanceMethod yX4_gain ∈ TG ∧ Cond.selects (yX4_gain).cls yX4_gain yX4_gain ∈ TG := ⟨wIX4_gain, wSX4_gain⟩
theorem kRL_36 : CB RL 36 miX5_gain 3 := ⟨wlRL_36, wzRX5, wcX5_gain, by decide +kernel⟩
theorem vX5_gain : Cond.instanceMethod yX5_gain ∈ TG ∧ Cond.selects (yX5_gain).cls yX5_gain yX5_gain ∈ TG := ⟨wIX5_gain, wSX5_gain⟩
theorem kRL_37 : CB RL 37 miX4_step 1 := ⟨wlRL_37, wzRX4, wcX4_step, by decide +kernel⟩
theorem vX4_step : Cond.instanceMethod yX4_step ∈ TG ∧ Cond.selects (yX4_step).cls yX4_step yX4_step ∈ TG := ⟨wIX4_step, wSX4_step⟩
theorem kRL_40 : CB RL 40 miX5_step 1 := ⟨wlRL_40, wzRX5, wcX5_step, by decide +kernel⟩
theorem vX5_step : Cond.instanceMethod yX5_step ∈ TG ∧ Cond.selects (yX5_step).cls yX5_step yX5_step ∈ TG := ⟨wIX5_step, wSX5_step⟩
theorem kRL_41 : CB RL 41 miX4_entry 2 := ⟨wlRL_41, wzRX4, wcX4_entry, by decide +kernel⟩
theorem vX4_entry : Cond.instanceMethod yX4_entry ∈ TG ∧ Cond.selects (yX4_entry).cls yX4_entry yX4_entry ∈ TG := ⟨wIX4_entry, wSX4_entry⟩
theorem kRL_44 : CB RL 44 miX5_entry 2 := ⟨wlRL_44, wzRX5, wcX5_entry, by decide +kernel⟩
theorem vX5_entry : Cond.instanceMethod yX5_entry ∈ TG ∧ Cond.selects (yX5_entry).cls yX5_entry yX5_entry ∈ TG := ⟨wIX5_entry, wSX5_entry⟩
theorem kRL_45 : CB RL 45 miX4_matrix 0 := ⟨wlRL_45, wzRX4, wcX4_matrix, by decide +kernel⟩
theorem vX4_matrix : Cond.instanceMethod yX4_matrix ∈ TG ∧ Cond.selects (yX4_matrix).cls yX4_matrix yX4_matrix ∈ TG := ⟨wIX4_matrix, wSX4_matrix⟩
theorem kRL_49 : CB RL 49 miX5_matrix 0 := ⟨wlRL_49, wzRX5, wcX5_matrix, by decide +kernel⟩
theorem vX5_matrix : Cond.instanceMethod yX5_matrix ∈ TG ∧ Cond.selects (yX5_matrix).cls yX5_matrix yX5_matrix ∈ TG := ⟨wIX5_matrix, wSX5_matrix⟩
theorem kRL_50 : CB RL 50 miX4_point 2 := ⟨wlRL_50, wzRX4, wcX4_point, by decide +kernel⟩
theorem vX4_point : Cond.instanceMethod yX4_point ∈ TG ∧ Cond.selects (yX4_point).cls yX4_point yX4_point ∈ TG := ⟨wIX4_point, wSX4_point⟩
theorem kRL_53 : CB RL 53 miX5_point 2 := ⟨wlRL_53, wzRX5, wcX5_point, by decide +kernel⟩
theorem vX5_point : Cond.instanceMethod yX5_point ∈ TG ∧ Cond.selects (yX5_point).cls yX5_point yX5_point ∈ TG := ⟨wIX5_point, wSX5_point⟩
theorem kRL_54 : CB RL 54 miX4_curve 0 := ⟨wlRL_54, wzRX4, wcX4_curve, by decide +kernel⟩
theorem vX4_curve : Cond.instanceMethod yX4_curve ∈ TG ∧ Cond.selects (yX4_curve).cls yX4_curve yX4_curve ∈ TG := ⟨wIX4_curve, wSX4_curve⟩
theorem kRL_57 : CB RL 57 miX5_curve 0 := ⟨wlRL_57, wzRX5, wcX5_curve, by decide +kernel⟩
theorem vX5_curve : Cond.instanceMethod yX5_curve ∈ TG ∧ Cond.selects (yX5_curve).cls yX5_curve yX5_curve ∈ TG := ⟨wIX5_curve, wSX5_curve⟩
theorem kRL_58 : CB RL 58 miX4_undo 0 := ⟨wlRL_58, wzRX4, wcX4_undo, by decide +kernel⟩
theorem vX4_undo : Cond.instanceMethod yX4_undo ∈ TG ∧ Cond.selects (yX4_undo).cls yX4_undo yX4_undo ∈ TG := ⟨wIX4_undo, wSX4_undo⟩
theorem kRL_61 : CB RL 61 miX5_undo 0 := ⟨wlRL_61, wzRX5, wcX5_undo, by decide +kernel⟩
theorem vX5_undo : Cond.instanceMethod yX5_undo ∈ TG ∧ Cond.selects (yX5_undo).cls yX5_undo yX5_undo ∈ TG := ⟨wIX5_undo, wSX5_undo⟩
theorem kRL_62 : CB RL 62 miX4_kind 1 := ⟨wlRL_62, wzRX4, wcX4_kind, by decide +kernel⟩
theorem vX4_kind : Cond.instanceMethod yX4_kind ∈ TG ∧ Cond.selects (yX4_kind).cls yX4_kind yX4_kind ∈ TG := ⟨wIX4_kind, wSX4_kind⟩
theorem kRL_65 : CB RL 65 miX5_kind 1 := ⟨wlRL_65, wzRX5, wcX5_kind, by decide +kernel⟩
theorem vX5_kind : Cond.instanceMethod yX5_kind ∈ TG ∧ Cond.selects (yX5_kind).cls yX5_kind yX5_kind ∈ TG := ⟨wIX5_kind, wSX5_kind⟩
theorem kRL_66 : CB RL 66 miX4_stage 2 := ⟨wlRL_66, wzRX4, wcX4_stage, by decide +kernel⟩
theorem vX4_stage : Cond.instanceMethod yX4_stage ∈ TG ∧ Cond.selects (yX4_stage).cls yX4_stage yX4_stage ∈ TG := ⟨wIX4_stage, wSX4_stage⟩
theorem kRL_69 : CB RL 69 miX5_stage 2 := ⟨wlRL_69, wzRX5, wcX5_stage, by decide +kernel⟩
theorem vX5_stage : Cond.instanceMethod yX5_stage ∈ TG ∧ Cond.selects (yX5_stage).cls yX5_stage yX5_stage ∈ TG := ⟨wIX5_stage, wSX5_stage⟩
theorem kRL_70 : CB RL 70 miX4_at 4 := ⟨wlRL_70, wzRX4, wcX4_at, by decide +kernel⟩
theorem vX4_at : Cond.instanceMethod yX4_at ∈ TG ∧ Cond.selects (yX4_at).cls yX4_at yX4_at ∈ TG := ⟨wIX4_at, wSX4_at⟩
theorem kRL_74 : CB RL 74 miX5_at 4 := ⟨wlRL_74, wzRX5, wcX5_at, by decide +kernel⟩
theorem vX5_at : Cond.instanceMethod yX5_at ∈ TG ∧ Cond.selects (yX5_at).cls yX5_at yX5_at ∈ TG := ⟨wIX5_at, wSX5_at⟩
theorem kRL_75 : CB RL 75 miX4_part 5 := ⟨wlRL_75, wzRX4, wcX4_part, by decide +kernel⟩
theorem vX4_part : Cond.instanceMethod yX4_part ∈ TG ∧ Cond.selects (yX4_part).cls yX4_part yX4_part ∈ TG := ⟨wIX4_part, wSX4_part⟩
theorem kRL_79 : CB RL 79 miX5_part 5 := ⟨wlRL_79, wzRX5, wcX5_part, by decide +kernel⟩
theorem vX5_part : Cond.instanceMethod yX5_part ∈ TG ∧ Cond.selects (yX5_part).cls yX5_part yX5_part ∈ TG := ⟨wIX5_part, wSX5_part⟩
theorem kRL_80 : CB RL 80 miX4_needs 4 := ⟨wlRL_80, wzRX4, wcX4_needs, by decide +kernel⟩
theorem vX4_needs : Cond.instanceMethod yX4_needs ∈ TG ∧ Cond.selects (yX4_needs).cls yX4_needs yX4_needs ∈ TG := ⟨wIX4_needs, wSX4_needs⟩
theorem kRL_83 : CB RL 83 miX5_needs 4 := ⟨wlRL_83, wzRX5, wcX5_needs, by decide +kernel⟩
theorem vX5_needs : Cond.instanceMethod yX5_needs ∈ TG ∧ Cond.selects (yX5_needs).cls yX5_needs yX5_needs ∈ TG := ⟨wIX5_needs, wSX5_needs⟩
theorem kRL_84 : CB RL 84 miX4_counts 5 := ⟨wlRL_84, wzRX4, wcX4_counts, by decide +kernel⟩
theorem vX4_counts : Cond.instanceMethod yX4_counts ∈ TG ∧ Cond.selects (yX4_counts).cls yX4_counts yX4_counts ∈ TG := ⟨wIX4_counts, wSX4_counts⟩
theorem kRL_87 : CB RL 87 miX5_counts 5 := ⟨wlRL_87, wzRX5, wcX5_counts, by decide +kernel⟩
theorem vX5_counts : Cond.instanceMethod yX5_counts ∈ TG ∧ Cond.selects (yX5_counts).cls yX5_counts yX5_counts ∈ TG := ⟨wIX5_counts, wSX5_counts⟩
theorem kRL_88 : CB RL 88 miX4_bound 2 := ⟨wlRL_88, wzRX4, wcX4_bound, by decide +kernel⟩
theorem vX4_bound : Cond.instanceMethod yX4_bound ∈ TG ∧ Cond.selects (yX4_bound).cls yX4_bound yX4_bound ∈ TG := ⟨wIX4_bound, wSX4_bound⟩
theorem kRL_91 : CB RL 91 miX5_bound 2 := ⟨wlRL_91, wzRX5, wcX5_bound, by decide +kernel⟩
theorem vX5_bound : Cond.instanceMethod yX5_bound ∈ TG ∧ Cond.selects (yX5_bound).cls yX5_bound yX5_bound ∈ TG := ⟨wIX5_bound, wSX5_bound⟩
theorem kRL_92 : CB RL 92 miX4_count 1 := ⟨wlRL_92, wzRX4, wcX4_count, by decide +kernel⟩
theorem vX4_count : Cond.instanceMethod yX4_count ∈ TG ∧ Cond.selects (yX4_count).cls yX4_count yX4_count ∈ TG := ⟨wIX4_count, wSX4_count⟩
theorem kRL_95 : CB RL 95 miX5_count 1 := ⟨wlRL_95, wzRX5, wcX5_count, by decide +kernel⟩
theorem vX5_count : Cond.instanceMethod yX5_count ∈ TG ∧ Cond.selects (yX5_count).cls yX5_count yX5_count ∈ TG := ⟨wIX5_count, wSX5_count⟩
theorem kRL_96 : CB RL 96 miX4_digest 0 := ⟨wlRL_96, wzRX4, wcX4_digest, by decide +kernel⟩
theorem vX4_digest : Cond.instanceMethod yX4_digest ∈ TG ∧ Cond.selects (yX4_digest).cls yX4_digest yX4_digest ∈ TG := ⟨wIX4_digest, wSX4_digest⟩
theorem kRL_100 : CB RL 100 miX5_digest 0 := ⟨wlRL_100, wzRX5, wcX5_digest, by decide +kernel⟩
theorem vX5_digest : Cond.instanceMethod yX5_digest ∈ TG ∧ Cond.selects (yX5_digest).cls yX5_digest yX5_digest ∈ TG := ⟨wIX5_digest, wSX5_digest⟩
