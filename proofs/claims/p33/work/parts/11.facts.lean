/-! the tables' facts, by program (wip/p33/gen2.py) -/
theorem wa_all {l : List Jvm.Cond} (h : l.all (fun w => decide (w ∈ lw_tbl) && goodWord w) = true) : ∀ x ∈ l, x ∈ WA := fun x hx => by
  have h1 := List.all_eq_true.mp h x hx
  simp only [Bool.and_eq_true, decide_eq_true_eq] at h1
  exact List.mem_filter.mpr h1
theorem inX0 : ∀ x ∈ u_ws RX0 TX0 8, x ∈ WA := wa_all (by decide +kernel)
theorem inX1 : ∀ x ∈ u_ws RX1 TX1 4, x ∈ WA := wa_all (by decide +kernel)
theorem inX2 : ∀ x ∈ u_ws RX2 TX2 5, x ∈ WA := wa_all (by decide +kernel)
theorem inX3 : ∀ x ∈ u_ws RX3 TX3 7, x ∈ WA := wa_all (by decide +kernel)
theorem fd_X3_12 : mFd RX3 12 3 0 := ⟨RX3, TX3, 7, rfl, inX3, by decide, wa_m 139 (by decide +kernel) rfl⟩
theorem fp_X3_12 : mFp RX3 12 3 0 (.object "Copperleaf$Pages") true := ⟨RX3, TX3, 7, tyX3, rfl, inX3, by decide, wa_m 139 (by decide +kernel) rfl, tyX3_ok, nmX3, rfl, by decide +kernel, fun h => by first | rfl | cases h⟩
theorem fd_X3_19 : mFd RX3 19 3 1 := ⟨RX3, TX3, 7, rfl, inX3, by decide, wa_m 140 (by decide +kernel) rfl⟩
theorem fp_X3_19 : mFp RX3 19 3 1 (.object "Copperleaf$State") true := ⟨RX3, TX3, 7, tyX3, rfl, inX3, by decide, wa_m 140 (by decide +kernel) rfl, tyX3_ok, nmX3, rfl, by decide +kernel, fun h => by first | rfl | cases h⟩
theorem fd_X3_23 : mFd RX3 23 3 2 := ⟨RX3, TX3, 7, rfl, inX3, by decide, wa_m 141 (by decide +kernel) rfl⟩
theorem fp_X3_23 : mFp RX3 23 3 2 (.object "Copperleaf$State") true := ⟨RX3, TX3, 7, tyX3, rfl, inX3, by decide, wa_m 141 (by decide +kernel) rfl, tyX3_ok, nmX3, rfl, by decide +kernel, fun h => by first | rfl | cases h⟩
theorem fd_X3_31 : mFd RX3 31 3 3 := ⟨RX3, TX3, 7, rfl, inX3, by decide, wa_m 142 (by decide +kernel) rfl⟩
theorem fp_X3_31 : mFp RX3 31 3 3 (.object "Copperleaf$Writer") true := ⟨RX3, TX3, 7, tyX3, rfl, inX3, by decide, wa_m 142 (by decide +kernel) rfl, tyX3_ok, nmX3, rfl, by decide +kernel, fun h => by first | rfl | cases h⟩
theorem fd_X3_35 : mFd RX3 35 3 4 := ⟨RX3, TX3, 7, rfl, inX3, by decide, wa_m 143 (by decide +kernel) rfl⟩
theorem fp_X3_35 : mFp RX3 35 3 4 (.array (.object "Copperleaf$State")) true := ⟨RX3, TX3, 7, tyX3, rfl, inX3, by decide, wa_m 143 (by decide +kernel) rfl, tyX3_ok, nmX3, rfl, by decide +kernel, fun h => by first | rfl | cases h⟩
theorem fd_X3_39 : mFd RX3 39 3 5 := ⟨RX3, TX3, 7, rfl, inX3, by decide, wa_m 144 (by decide +kernel) rfl⟩
theorem fp_X3_39 : mFp RX3 39 3 5 (.array .long) true := ⟨RX3, TX3, 7, tyX3, rfl, inX3, by decide, wa_m 144 (by decide +kernel) rfl, tyX3_ok, nmX3, rfl, by decide +kernel, fun h => by first | rfl | cases h⟩
theorem fd_X3_43 : mFd RX3 43 3 6 := ⟨RX3, TX3, 7, rfl, inX3, by decide, wa_m 145 (by decide +kernel) rfl⟩
theorem fp_X3_43 : mFp RX3 43 3 6 .int false := ⟨RX3, TX3, 7, tyX3, rfl, inX3, by decide, wa_m 145 (by decide +kernel) rfl, tyX3_ok, nmX3, rfl, by decide +kernel, fun h => by first | rfl | cases h⟩
theorem fd_X3_47 : mFd RX3 47 0 4 := ⟨RX0, TX0, 8, rfl, inX0, by decide, wa_m 46 (by decide +kernel) rfl⟩
theorem fd_X3_51 : mFd RX3 51 1 1 := ⟨RX1, TX1, 4, rfl, inX1, by decide, wa_m 79 (by decide +kernel) rfl⟩
theorem fp_X3_51 : mFp RX3 51 1 1 .int false := ⟨RX1, TX1, 4, tyX1, rfl, inX1, by decide, wa_m 79 (by decide +kernel) rfl, tyX1_ok, nmX1, rfl, by decide +kernel, fun h => by first | rfl | cases h⟩
theorem fd_X3_58 : mFd RX3 58 1 3 := ⟨RX1, TX1, 4, rfl, inX1, by decide, wa_m 85 (by decide +kernel) rfl⟩
theorem fp_X3_58 : mFp RX3 58 1 3 .boolean false := ⟨RX1, TX1, 4, tyX1, rfl, inX1, by decide, wa_m 85 (by decide +kernel) rfl, tyX1_ok, nmX1, rfl, by decide +kernel, fun h => by first | rfl | cases h⟩
theorem fd_X3_73 : mFd RX3 73 1 0 := ⟨RX1, TX1, 4, rfl, inX1, by decide, wa_m 78 (by decide +kernel) rfl⟩
theorem fp_X3_73 : mFp RX3 73 1 0 .int false := ⟨RX1, TX1, 4, tyX1, rfl, inX1, by decide, wa_m 78 (by decide +kernel) rfl, tyX1_ok, nmX1, rfl, by decide +kernel, fun h => by first | rfl | cases h⟩
theorem fd_X3_121 : mFd RX3 121 0 6 := ⟨RX0, TX0, 8, rfl, inX0, by decide, wa_m 50 (by decide +kernel) rfl⟩
theorem fd_X3_135 : mFd RX3 135 1 2 := ⟨RX1, TX1, 4, rfl, inX1, by decide, wa_m 84 (by decide +kernel) rfl⟩
theorem fp_X3_135 : mFp RX3 135 1 2 .int false := ⟨RX1, TX1, 4, tyX1, rfl, inX1, by decide, wa_m 84 (by decide +kernel) rfl, tyX1_ok, nmX1, rfl, by decide +kernel, fun h => by first | rfl | cases h⟩
theorem fd_X3_233 : mFd RX3 233 0 5 := ⟨RX0, TX0, 8, rfl, inX0, by decide, wa_m 48 (by decide +kernel) rfl⟩
theorem fd_X0_9 : mFd RX0 9 0 0 := ⟨RX0, TX0, 8, rfl, inX0, by decide, wa_m 41 (by decide +kernel) rfl⟩
theorem fp_X0_9 : mFp RX0 9 0 0 (.array .int) true := ⟨RX0, TX0, 8, tyX0, rfl, inX0, by decide, wa_m 41 (by decide +kernel) rfl, tyX0_ok, nmX0, rfl, by decide +kernel, fun h => by first | rfl | cases h⟩
theorem fd_X0_15 : mFd RX0 15 0 1 := ⟨RX0, TX0, 8, rfl, inX0, by decide, wa_m 42 (by decide +kernel) rfl⟩
theorem fp_X0_15 : mFp RX0 15 0 1 (.array .boolean) true := ⟨RX0, TX0, 8, tyX0, rfl, inX0, by decide, wa_m 42 (by decide +kernel) rfl, tyX0_ok, nmX0, rfl, by decide +kernel, fun h => by first | rfl | cases h⟩
theorem fd_X0_19 : mFd RX0 19 0 2 := ⟨RX0, TX0, 8, rfl, inX0, by decide, wa_m 43 (by decide +kernel) rfl⟩
theorem fp_X0_19 : mFp RX0 19 0 2 (.array .int) true := ⟨RX0, TX0, 8, tyX0, rfl, inX0, by decide, wa_m 43 (by decide +kernel) rfl, tyX0_ok, nmX0, rfl, by decide +kernel, fun h => by first | rfl | cases h⟩
theorem fd_X0_22 : mFd RX0 22 0 3 := ⟨RX0, TX0, 8, rfl, inX0, by decide, wa_m 44 (by decide +kernel) rfl⟩
theorem fp_X0_22 : mFp RX0 22 0 3 (.array .int) true := ⟨RX0, TX0, 8, tyX0, rfl, inX0, by decide, wa_m 44 (by decide +kernel) rfl, tyX0_ok, nmX0, rfl, by decide +kernel, fun h => by first | rfl | cases h⟩
theorem fd_X0_25 : mFd RX0 25 0 4 := ⟨RX0, TX0, 8, rfl, inX0, by decide, wa_m 45 (by decide +kernel) rfl⟩
theorem fp_X0_25 : mFp RX0 25 0 4 (.array .boolean) true := ⟨RX0, TX0, 8, tyX0, rfl, inX0, by decide, wa_m 45 (by decide +kernel) rfl, tyX0_ok, nmX0, rfl, by decide +kernel, fun h => by first | rfl | cases h⟩
theorem fd_X0_28 : mFd RX0 28 0 5 := ⟨RX0, TX0, 8, rfl, inX0, by decide, wa_m 47 (by decide +kernel) rfl⟩
theorem fp_X0_28 : mFp RX0 28 0 5 (.array .boolean) true := ⟨RX0, TX0, 8, tyX0, rfl, inX0, by decide, wa_m 47 (by decide +kernel) rfl, tyX0_ok, nmX0, rfl, by decide +kernel, fun h => by first | rfl | cases h⟩
theorem fd_X0_31 : mFd RX0 31 0 6 := ⟨RX0, TX0, 8, rfl, inX0, by decide, wa_m 49 (by decide +kernel) rfl⟩
theorem fp_X0_31 : mFp RX0 31 0 6 (.array .boolean) true := ⟨RX0, TX0, 8, tyX0, rfl, inX0, by decide, wa_m 49 (by decide +kernel) rfl, tyX0_ok, nmX0, rfl, by decide +kernel, fun h => by first | rfl | cases h⟩
theorem fd_X0_34 : mFd RX0 34 0 7 := ⟨RX0, TX0, 8, rfl, inX0, by decide, wa_m 51 (by decide +kernel) rfl⟩
theorem fp_X0_34 : mFp RX0 34 0 7 (.array .int) true := ⟨RX0, TX0, 8, tyX0, rfl, inX0, by decide, wa_m 51 (by decide +kernel) rfl, tyX0_ok, nmX0, rfl, by decide +kernel, fun h => by first | rfl | cases h⟩
theorem fd_X1_7 : mFd RX1 7 1 0 := ⟨RX1, TX1, 4, rfl, inX1, by decide, wa_m 77 (by decide +kernel) rfl⟩
theorem fp_X1_7 : mFp RX1 7 1 0 .int false := ⟨RX1, TX1, 4, tyX1, rfl, inX1, by decide, wa_m 77 (by decide +kernel) rfl, tyX1_ok, nmX1, rfl, by decide +kernel, fun h => by first | rfl | cases h⟩
theorem fd_X1_13 : mFd RX1 13 1 1 := ⟨RX1, TX1, 4, rfl, inX1, by decide, wa_m 80 (by decide +kernel) rfl⟩
theorem fp_X1_13 : mFp RX1 13 1 1 .int false := ⟨RX1, TX1, 4, tyX1, rfl, inX1, by decide, wa_m 80 (by decide +kernel) rfl, tyX1_ok, nmX1, rfl, by decide +kernel, fun h => by first | rfl | cases h⟩
theorem fd_X1_16 : mFd RX1 16 1 2 := ⟨RX1, TX1, 4, rfl, inX1, by decide, wa_m 82 (by decide +kernel) rfl⟩
theorem fp_X1_16 : mFp RX1 16 1 2 .int false := ⟨RX1, TX1, 4, tyX1, rfl, inX1, by decide, wa_m 82 (by decide +kernel) rfl, tyX1_ok, nmX1, rfl, by decide +kernel, fun h => by first | rfl | cases h⟩
theorem fp_X1_19 : mFp RX1 19 1 3 .boolean false := ⟨RX1, TX1, 4, tyX1, rfl, inX1, by decide, wa_m 86 (by decide +kernel) rfl, tyX1_ok, nmX1, rfl, by decide +kernel, fun h => by first | rfl | cases h⟩
theorem fd_X2_9 : mFd RX2 9 2 2 := ⟨RX2, TX2, 5, rfl, inX2, by decide, wa_m 104 (by decide +kernel) rfl⟩
theorem fp_X2_9 : mFp RX2 9 2 2 (.array .int) true := ⟨RX2, TX2, 5, tyX2, rfl, inX2, by decide, wa_m 104 (by decide +kernel) rfl, tyX2_ok, nmX2, rfl, by decide +kernel, fun h => by first | rfl | cases h⟩
theorem fd_X2_15 : mFd RX2 15 2 3 := ⟨RX2, TX2, 5, rfl, inX2, by decide, wa_m 105 (by decide +kernel) rfl⟩
theorem fp_X2_15 : mFp RX2 15 2 3 (.array .int) true := ⟨RX2, TX2, 5, tyX2, rfl, inX2, by decide, wa_m 105 (by decide +kernel) rfl, tyX2_ok, nmX2, rfl, by decide +kernel, fun h => by first | rfl | cases h⟩
theorem fd_X2_18 : mFd RX2 18 2 0 := ⟨RX2, TX2, 5, rfl, inX2, by decide, wa_m 102 (by decide +kernel) rfl⟩
theorem fp_X2_18 : mFp RX2 18 2 0 (.object "Copperleaf$Pages") true := ⟨RX2, TX2, 5, tyX2, rfl, inX2, by decide, wa_m 102 (by decide +kernel) rfl, tyX2_ok, nmX2, rfl, by decide +kernel, fun h => by first | rfl | cases h⟩
theorem fd_X2_22 : mFd RX2 22 2 1 := ⟨RX2, TX2, 5, rfl, inX2, by decide, wa_m 103 (by decide +kernel) rfl⟩
theorem fp_X2_22 : mFp RX2 22 2 1 (.object "Copperleaf$State") true := ⟨RX2, TX2, 5, tyX2, rfl, inX2, by decide, wa_m 103 (by decide +kernel) rfl, tyX2_ok, nmX2, rfl, by decide +kernel, fun h => by first | rfl | cases h⟩
theorem fd_X2_48 : mFd RX2 48 1 2 := ⟨RX1, TX1, 4, rfl, inX1, by decide, wa_m 83 (by decide +kernel) rfl⟩
theorem fp_X2_48 : mFp RX2 48 1 2 .int false := ⟨RX1, TX1, 4, tyX1, rfl, inX1, by decide, wa_m 83 (by decide +kernel) rfl, tyX1_ok, nmX1, rfl, by decide +kernel, fun h => by first | rfl | cases h⟩
theorem fd_X2_61 : mFd RX2 61 2 4 := ⟨RX2, TX2, 5, rfl, inX2, by decide, wa_m 106 (by decide +kernel) rfl⟩
theorem fp_X2_61 : mFp RX2 61 2 4 .int false := ⟨RX2, TX2, 5, tyX2, rfl, inX2, by decide, wa_m 106 (by decide +kernel) rfl, tyX2_ok, nmX2, rfl, by decide +kernel, fun h => by first | rfl | cases h⟩
theorem fd_X2_73 : mFd RX2 73 1 1 := ⟨RX1, TX1, 4, rfl, inX1, by decide, wa_m 81 (by decide +kernel) rfl⟩
theorem fp_X2_73 : mFp RX2 73 1 1 .int false := ⟨RX1, TX1, 4, tyX1, rfl, inX1, by decide, wa_m 81 (by decide +kernel) rfl, tyX1_ok, nmX1, rfl, by decide +kernel, fun h => by first | rfl | cases h⟩
def m_X0_init : mM := (yX0_init, cX0_init, 1, none, { frames := 1, cells := 8, slots := 12800, locals := 12 }, [], true, some 2, none)
theorem ok_X0_init : mOk m_X0_init := wa_m 39 (by decide +kernel) rfl
def m_X0_isCell : mM := (yX0_isCell, cX0_isCell, 2, (some .boolean), { frames := 0, cells := 0, slots := 0, locals := 0 }, [], false, none, none)
theorem ok_X0_isCell : mOk m_X0_isCell := wa_m 416 (by decide +kernel) rfl
def m_X0_isVacant : mM := (yX0_isVacant, cX0_isVacant, 2, (some .boolean), { frames := 0, cells := 0, slots := 0, locals := 0 }, [], false, none, none)
theorem ok_X0_isVacant : mOk m_X0_isVacant := wa_m 271 (by decide +kernel) rfl
def m_X0_leastVacant : mM := (yX0_leastVacant, cX0_leastVacant, 2, (some .int), { frames := 0, cells := 0, slots := 0, locals := 0 }, [], false, none, none)
theorem ok_X0_leastVacant : mOk m_X0_leastVacant := wa_m 169 (by decide +kernel) rfl
def m_X0_countOf : mM := (yX0_countOf, cX0_countOf, 2, (some .int), { frames := 0, cells := 0, slots := 0, locals := 0 }, [], false, none, none)
theorem ok_X0_countOf : mOk m_X0_countOf := wa_m 134 (by decide +kernel) rfl
def m_X0_isLeaf : mM := (yX0_isLeaf, cX0_isLeaf, 2, (some .boolean), { frames := 0, cells := 0, slots := 0, locals := 0 }, [], false, none, none)
theorem ok_X0_isLeaf : mOk m_X0_isLeaf := wa_m 130 (by decide +kernel) rfl
def m_X0_wordOf : mM := (yX0_wordOf, cX0_wordOf, 4, (some .int), { frames := 0, cells := 0, slots := 0, locals := 0 }, [], false, none, none)
theorem ok_X0_wordOf : mOk m_X0_wordOf := wa_m 138 (by decide +kernel) rfl
def m_X0_setWord : mM := (yX0_setWord, cX0_setWord, 4, none, { frames := 1, cells := 0, slots := 0, locals := 21 }, [], false, none, none)
theorem ok_X0_setWord : mOk m_X0_setWord := wa_m 649 (by decide +kernel) rfl
def m_X0_keyOf : mM := (yX0_keyOf, cX0_keyOf, 6, (some .int), { frames := 1, cells := 0, slots := 0, locals := 23 }, [], false, none, none)
theorem ok_X0_keyOf : mOk m_X0_keyOf := wa_m 413 (by decide +kernel) rfl
def m_X0_placeOf : mM := (yX0_placeOf, cX0_placeOf, 4, (some .int), { frames := 2, cells := 0, slots := 0, locals := 48 }, [], false, none, none)
theorem ok_X0_placeOf : mOk m_X0_placeOf := wa_m 472 (by decide +kernel) rfl
def m_X0_holds : mM := (yX0_holds, cX0_holds, 4, (some .boolean), { frames := 2, cells := 0, slots := 0, locals := 48 }, [], false, none, none)
theorem ok_X0_holds : mOk m_X0_holds := wa_m 530 (by decide +kernel) rfl
def m_X0_entryFor : mM := (yX0_entryFor, cX0_entryFor, 4, (some .int), { frames := 2, cells := 0, slots := 0, locals := 48 }, [], false, none, none)
theorem ok_X0_entryFor : mOk m_X0_entryFor := wa_m 525 (by decide +kernel) rfl
def m_X0_leafFor : mM := (yX0_leafFor, cX0_leafFor, 5, (some .int), { frames := 3, cells := 0, slots := 0, locals := 71 }, [], false, none, none)
theorem ok_X0_leafFor : mOk m_X0_leafFor := wa_m 521 (by decide +kernel) rfl
def m_X0_levelsFrom : mM := (yX0_levelsFrom, cX0_levelsFrom, 4, (some .int), { frames := 1, cells := 0, slots := 0, locals := 23 }, [], false, none, none)
theorem ok_X0_levelsFrom : mOk m_X0_levelsFrom := wa_m 442 (by decide +kernel) rfl
def m_X0_listTree : mM := (yX0_listTree, cX0_listTree, 7, (some .int), { frames := 1, cells := 0, slots := 0, locals := 23 }, [], false, none, none)
theorem ok_X0_listTree : mOk m_X0_listTree := wa_m 126 (by decide +kernel) rfl
def m_X0_unmark : mM := (yX0_unmark, cX0_unmark, 2, none, { frames := 0, cells := 0, slots := 0, locals := 0 }, [], false, none, none)
theorem ok_X0_unmark : mOk m_X0_unmark := wa_m 278 (by decide +kernel) rfl
def m_X0_markTree : mM := (yX0_markTree, cX0_markTree, 6, none, { frames := 2, cells := 0, slots := 0, locals := 49 }, [], false, none, none)
theorem ok_X0_markTree : mOk m_X0_markTree := wa_m 122 (by decide +kernel) rfl
def m_X0_countMarked : mM := (yX0_countMarked, cX0_countMarked, 6, (some .int), { frames := 2, cells := 0, slots := 0, locals := 49 }, [], false, none, none)
theorem ok_X0_countMarked : mOk m_X0_countMarked := wa_m 568 (by decide +kernel) rfl
def m_X0_leastKeyFrom : mM := (yX0_leastKeyFrom, cX0_leastKeyFrom, 7, (some .int), { frames := 3, cells := 0, slots := 0, locals := 71 }, [], false, none, none)
theorem ok_X0_leastKeyFrom : mOk m_X0_leastKeyFrom := wa_m 468 (by decide +kernel) rfl
def m_X0_keysBelow : mM := (yX0_keysBelow, cX0_keysBelow, 6, (some .int), { frames := 3, cells := 0, slots := 0, locals := 71 }, [], false, none, none)
theorem ok_X0_keysBelow : mOk m_X0_keysBelow := wa_m 484 (by decide +kernel) rfl
def m_X0_take : mM := (yX0_take, cX0_take, 3, (some .int), { frames := 1, cells := 0, slots := 0, locals := 21 }, [], false, none, none)
theorem ok_X0_take : mOk m_X0_take := wa_m 633 (by decide +kernel) rfl
def m_X0_leave : mM := (yX0_leave, cX0_leave, 2, none, { frames := 0, cells := 0, slots := 0, locals := 0 }, [], false, none, none)
theorem ok_X0_leave : mOk m_X0_leave := wa_m 712 (by decide +kernel) rfl
def m_X0_writeAnew : mM := (yX0_writeAnew, cX0_writeAnew, 3, (some .int), { frames := 2, cells := 0, slots := 0, locals := 46 }, [], false, none, none)
theorem ok_X0_writeAnew : mOk m_X0_writeAnew := wa_m 629 (by decide +kernel) rfl
def m_X0_insert : mM := (yX0_insert, cX0_insert, 8, none, { frames := 1, cells := 0, slots := 0, locals := 21 }, [], false, none, none)
theorem ok_X0_insert : mOk m_X0_insert := wa_m 655 (by decide +kernel) rfl
def m_X0_remove : mM := (yX0_remove, cX0_remove, 6, none, { frames := 1, cells := 0, slots := 0, locals := 21 }, [], false, none, none)
theorem ok_X0_remove : mOk m_X0_remove := wa_m 674 (by decide +kernel) rfl
def m_X0_append : mM := (yX0_append, cX0_append, 6, none, { frames := 1, cells := 0, slots := 0, locals := 21 }, [], false, none, none)
theorem ok_X0_append : mOk m_X0_append := wa_m 638 (by decide +kernel) rfl
def m_X0_move : mM := (yX0_move, cX0_move, 5, none, { frames := 2, cells := 0, slots := 0, locals := 48 }, [], false, none, none)
theorem ok_X0_move : mOk m_X0_move := wa_m 669 (by decide +kernel) rfl
def m_X1_init : mM := (yX1_init, cX1_init, 1, none, { frames := 1, cells := 0, slots := 0, locals := 12 }, [], true, none, none)
theorem ok_X1_init : mOk m_X1_init := wa_m 75 (by decide +kernel) rfl
def m_X1_become : mM := (yX1_become, cX1_become, 2, none, { frames := 0, cells := 0, slots := 0, locals := 0 }, [], false, none, none)
theorem ok_X1_become : mOk m_X1_become := wa_m 605 (by decide +kernel) rfl
def m_X2_init : mM := (yX2_init, cX2_init, 3, none, { frames := 1, cells := 2, slots := 16, locals := 12 }, [], true, some 13, none)
theorem ok_X2_init : mOk m_X2_init := wa_m 100 (by decide +kernel) rfl
def m_X2_store : mM := (yX2_store, cX2_store, 5, (some .boolean), { frames := 5, cells := 0, slots := 0, locals := 118 }, [], false, none, none)
theorem ok_X2_store : mOk m_X2_store := wa_m 621 (by decide +kernel) rfl
def m_X2_drop : mM := (yX2_drop, cX2_drop, 4, none, { frames := 5, cells := 0, slots := 0, locals := 121 }, [], false, none, none)
theorem ok_X2_drop : mOk m_X2_drop := wa_m 694 (by decide +kernel) rfl
def m_X2_writePath : mM := (yX2_writePath, cX2_writePath, 5, (some .int), { frames := 4, cells := 0, slots := 0, locals := 90 }, [], false, none, none)
theorem ok_X2_writePath : mOk m_X2_writePath := wa_m 625 (by decide +kernel) rfl
def m_X2_splitUpwards : mM := (yX2_splitUpwards, cX2_splitUpwards, 4, none, { frames := 4, cells := 0, slots := 0, locals := 95 }, [], false, none, none)
theorem ok_X2_splitUpwards : mOk m_X2_splitUpwards := wa_m 659 (by decide +kernel) rfl
def m_X2_splitOff : mM := (yX2_splitOff, cX2_splitOff, 4, (some .int), { frames := 3, cells := 0, slots := 0, locals := 72 }, [], false, none, none)
theorem ok_X2_splitOff : mOk m_X2_splitOff := wa_m 664 (by decide +kernel) rfl
def m_X2_growRoot : mM := (yX2_growRoot, cX2_growRoot, 4, none, { frames := 2, cells := 0, slots := 0, locals := 48 }, [], false, none, none)
theorem ok_X2_growRoot : mOk m_X2_growRoot := wa_m 678 (by decide +kernel) rfl
def m_X2_mend : mM := (yX2_mend, cX2_mend, 5, none, { frames := 4, cells := 0, slots := 0, locals := 97 }, [], false, none, none)
theorem ok_X2_mend : mOk m_X2_mend := wa_m 699 (by decide +kernel) rfl
def m_X2_writeBelow : mM := (yX2_writeBelow, cX2_writeBelow, 3, none, { frames := 3, cells := 0, slots := 0, locals := 68 }, [], false, none, none)
theorem ok_X2_writeBelow : mOk m_X2_writeBelow := wa_m 644 (by decide +kernel) rfl
def m_X2_lend : mM := (yX2_lend, cX2_lend, 6, none, { frames := 3, cells := 0, slots := 0, locals := 72 }, [], false, none, none)
theorem ok_X2_lend : mOk m_X2_lend := wa_m 703 (by decide +kernel) rfl
def m_X2_join : mM := (yX2_join, cX2_join, 4, none, { frames := 2, cells := 0, slots := 0, locals := 46 }, [], false, none, none)
theorem ok_X2_join : mOk m_X2_join := wa_m 707 (by decide +kernel) rfl
def m_X2_shrinkRoot : mM := (yX2_shrinkRoot, cX2_shrinkRoot, 2, none, { frames := 1, cells := 0, slots := 0, locals := 23 }, [], false, none, none)
theorem ok_X2_shrinkRoot : mOk m_X2_shrinkRoot := wa_m 716 (by decide +kernel) rfl
def m_X3_init : mM := (yX3_init, cX3_init, 2, none, { frames := 3, cells := 20, slots := 12865, locals := 74 }, [], true, some 1, none)
theorem ok_X3_init : mOk m_X3_init := wa_m 31 (by decide +kernel) rfl
def m_X3_beginBatch : mM := (yX3_beginBatch, cX3_beginBatch, 1, (some .int), { frames := 6, cells := 1, slots := 6, locals := 82 }, [], false, none, none)
theorem ok_X3_beginBatch : mOk m_X3_beginBatch := wa_m 600 (by decide +kernel) rfl
def m_X3_hasBatch : mM := (yX3_hasBatch, cX3_hasBatch, 1, (some .boolean), { frames := 0, cells := 0, slots := 0, locals := 0 }, [], false, none, none)
theorem ok_X3_hasBatch : mOk m_X3_hasBatch := wa_m 368 (by decide +kernel) rfl
def m_X3_put : mM := (yX3_put, cX3_put, 3, (some .boolean), { frames := 7, cells := 2, slots := 12, locals := 142 }, [], false, none, none)
theorem ok_X3_put : mOk m_X3_put := wa_m 612 (by decide +kernel) rfl
def m_X3_delete : mM := (yX3_delete, cX3_delete, 3, (some .int), { frames := 7, cells := 3, slots := 18, locals := 144 }, [], false, none, none)
theorem ok_X3_delete : mOk m_X3_delete := wa_m 690 (by decide +kernel) rfl
def m_X3_commit : mM := (yX3_commit, cX3_commit, 2, (some .int), { frames := 7, cells := 1, slots := 6, locals := 117 }, [], false, none, none)
theorem ok_X3_commit : mOk m_X3_commit := wa_m 780 (by decide +kernel) rfl
def m_X3_abandon : mM := (yX3_abandon, cX3_abandon, 2, (some .int), { frames := 7, cells := 1, slots := 6, locals := 117 }, [], false, none, none)
theorem ok_X3_abandon : mOk m_X3_abandon := wa_m 773 (by decide +kernel) rfl
def m_X3_openReader : mM := (yX3_openReader, cX3_openReader, 2, (some .int), { frames := 6, cells := 1, slots := 6, locals := 82 }, [], false, none, none)
theorem ok_X3_openReader : mOk m_X3_openReader := wa_m 726 (by decide +kernel) rfl
def m_X3_closeReader : mM := (yX3_closeReader, cX3_closeReader, 3, (some .int), { frames := 7, cells := 1, slots := 6, locals := 103 }, [], false, none, none)
theorem ok_X3_closeReader : mOk m_X3_closeReader := wa_m 186 (by decide +kernel) rfl
def m_X3_readers : mM := (yX3_readers, cX3_readers, 3, (some .int), { frames := 1, cells := 0, slots := 0, locals := 21 }, [], false, none, none)
theorem ok_X3_readers : mOk m_X3_readers := wa_m 372 (by decide +kernel) rfl
def m_X3_heldBy : mM := (yX3_heldBy, cX3_heldBy, 4, (some .int), { frames := 7, cells := 1, slots := 6, locals := 103 }, [], false, none, none)
theorem ok_X3_heldBy : mOk m_X3_heldBy := wa_m 575 (by decide +kernel) rfl
def m_X3_epochOf : mM := (yX3_epochOf, cX3_epochOf, 2, (some .int), { frames := 8, cells := 1, slots := 6, locals := 124 }, [], false, none, none)
theorem ok_X3_epochOf : mOk m_X3_epochOf := wa_m 390 (by decide +kernel) rfl
def m_X3_get : mM := (yX3_get, cX3_get, 4, (some .int), { frames := 8, cells := 3, slots := 18, locals := 124 }, [], false, none, none)
theorem ok_X3_get : mOk m_X3_get := wa_m 494 (by decide +kernel) rfl
def m_X3_next : mM := (yX3_next, cX3_next, 3, (some .int), { frames := 8, cells := 1, slots := 6, locals := 124 }, [], false, none, none)
theorem ok_X3_next : mOk m_X3_next := wa_m 464 (by decide +kernel) rfl
def m_X3_rank : mM := (yX3_rank, cX3_rank, 3, (some .int), { frames := 8, cells := 1, slots := 6, locals := 124 }, [], false, none, none)
theorem ok_X3_rank : mOk m_X3_rank := wa_m 480 (by decide +kernel) rfl
def m_X3_size : mM := (yX3_size, cX3_size, 2, (some .int), { frames := 8, cells := 1, slots := 6, locals := 124 }, [], false, none, none)
theorem ok_X3_size : mOk m_X3_size := wa_m 397 (by decide +kernel) rfl
def m_X3_depth : mM := (yX3_depth, cX3_depth, 2, (some .int), { frames := 8, cells := 1, slots := 6, locals := 124 }, [], false, none, none)
theorem ok_X3_depth : mOk m_X3_depth := wa_m 438 (by decide +kernel) rfl
def m_X3_rootOf : mM := (yX3_rootOf, cX3_rootOf, 2, (some .int), { frames := 8, cells := 1, slots := 6, locals := 124 }, [], false, none, none)
theorem ok_X3_rootOf : mOk m_X3_rootOf := wa_m 379 (by decide +kernel) rfl
def m_X3_sharedPages : mM := (yX3_sharedPages, cX3_sharedPages, 5, (some .int), { frames := 8, cells := 2, slots := 12, locals := 124 }, [], false, none, none)
theorem ok_X3_sharedPages : mOk m_X3_sharedPages := wa_m 564 (by decide +kernel) rfl
def m_X3_isFree : mM := (yX3_isFree, cX3_isFree, 2, (some .boolean), { frames := 6, cells := 1, slots := 6, locals := 82 }, [], false, none, none)
theorem ok_X3_isFree : mOk m_X3_isFree := wa_m 299 (by decide +kernel) rfl
def m_X3_pagesInUse : mM := (yX3_pagesInUse, cX3_pagesInUse, 3, (some .int), { frames := 1, cells := 0, slots := 0, locals := 21 }, [], false, none, none)
theorem ok_X3_pagesInUse : mOk m_X3_pagesInUse := wa_m 267 (by decide +kernel) rfl
def m_X3_leastFree : mM := (yX3_leastFree, cX3_leastFree, 1, (some .int), { frames := 1, cells := 0, slots := 0, locals := 21 }, [], false, none, none)
theorem ok_X3_leastFree : mOk m_X3_leastFree := wa_m 165 (by decide +kernel) rfl
def m_X3_entries : mM := (yX3_entries, cX3_entries, 2, (some .int), { frames := 7, cells := 1, slots := 6, locals := 103 }, [], false, none, none)
theorem ok_X3_entries : mOk m_X3_entries := wa_m 307 (by decide +kernel) rfl
def m_X3_keyAt : mM := (yX3_keyAt, cX3_keyAt, 3, (some .int), { frames := 8, cells := 2, slots := 12, locals := 125 }, [], false, none, none)
theorem ok_X3_keyAt : mOk m_X3_keyAt := wa_m 404 (by decide +kernel) rfl
def m_X3_pageAt : mM := (yX3_pageAt, cX3_pageAt, 3, (some .int), { frames := 8, cells := 2, slots := 12, locals := 125 }, [], false, none, none)
theorem ok_X3_pageAt : mOk m_X3_pageAt := wa_m 423 (by decide +kernel) rfl
def m_X3_currentSlot : mM := (yX3_currentSlot, cX3_currentSlot, 1, (some .int), { frames := 0, cells := 0, slots := 0, locals := 0 }, [], false, none, none)
theorem ok_X3_currentSlot : mOk m_X3_currentSlot := wa_m 364 (by decide +kernel) rfl
def m_X3_slotWord : mM := (yX3_slotWord, cX3_slotWord, 3, (some .long), { frames := 7, cells := 2, slots := 12, locals := 102 }, [], false, none, none)
theorem ok_X3_slotWord : mOk m_X3_slotWord := wa_m 320 (by decide +kernel) rfl
def m_X3_isWhole : mM := (yX3_isWhole, cX3_isWhole, 2, (some .boolean), { frames := 7, cells := 1, slots := 6, locals := 102 }, [], false, none, none)
theorem ok_X3_isWhole : mOk m_X3_isWhole := wa_m 587 (by decide +kernel) rfl
def m_X3_tear : mM := (yX3_tear, cX3_tear, 3, (some .int), { frames := 7, cells := 2, slots := 12, locals := 102 }, [], false, none, none)
theorem ok_X3_tear : mOk m_X3_tear := wa_m 334 (by decide +kernel) rfl
def m_X3_crash : mM := (yX3_crash, cX3_crash, 2, (some .int), { frames := 5, cells := 0, slots := 0, locals := 117 }, [], false, none, none)
theorem ok_X3_crash : mOk m_X3_crash := wa_m 737 (by decide +kernel) rfl
def m_X3_crashInCommit : mM := (yX3_crashInCommit, cX3_crashInCommit, 2, (some .int), { frames := 7, cells := 3, slots := 18, locals := 138 }, [], false, none, none)
theorem ok_X3_crashInCommit : mOk m_X3_crashInCommit := wa_m 755 (by decide +kernel) rfl
def m_X3_requireKey : mM := (yX3_requireKey, cX3_requireKey, 1, none, { frames := 6, cells := 1, slots := 6, locals := 82 }, [], false, none, none)
theorem ok_X3_requireKey : mOk m_X3_requireKey := wa_m 497 (by decide +kernel) rfl
def m_X3_requireBatch : mM := (yX3_requireBatch, cX3_requireBatch, 1, none, { frames := 6, cells := 1, slots := 6, locals := 82 }, [], false, none, none)
theorem ok_X3_requireBatch : mOk m_X3_requireBatch := wa_m 616 (by decide +kernel) rfl
def m_X3_requireReader : mM := (yX3_requireReader, cX3_requireReader, 2, none, { frames := 6, cells := 1, slots := 6, locals := 82 }, [], false, none, none)
theorem ok_X3_requireReader : mOk m_X3_requireReader := wa_m 190 (by decide +kernel) rfl
def m_X3_requirePage : mM := (yX3_requirePage, cX3_requirePage, 2, none, { frames := 6, cells := 1, slots := 6, locals := 82 }, [], false, none, none)
theorem ok_X3_requirePage : mOk m_X3_requirePage := wa_m 311 (by decide +kernel) rfl
def m_X3_requireEntry : mM := (yX3_requireEntry, cX3_requireEntry, 3, none, { frames := 7, cells := 2, slots := 12, locals := 103 }, [], false, none, none)
theorem ok_X3_requireEntry : mOk m_X3_requireEntry := wa_m 408 (by decide +kernel) rfl
def m_X3_requireSlot : mM := (yX3_requireSlot, cX3_requireSlot, 1, none, { frames := 6, cells := 1, slots := 6, locals := 82 }, [], false, none, none)
theorem ok_X3_requireSlot : mOk m_X3_requireSlot := wa_m 323 (by decide +kernel) rfl
def m_X3_viewed : mM := (yX3_viewed, cX3_viewed, 2, (some (.object "Copperleaf$State")), { frames := 7, cells := 1, slots := 6, locals := 103 }, [], false, none, none)
theorem ok_X3_viewed : mOk m_X3_viewed := wa_m 383 (by decide +kernel) rfl
def m_X3_valueIn : mM := (yX3_valueIn, cX3_valueIn, 5, (some .int), { frames := 6, cells := 1, slots := 6, locals := 95 }, [], false, none, none)
theorem ok_X3_valueIn : mOk m_X3_valueIn := wa_m 517 (by decide +kernel) rfl
def m_X3_isOpen : mM := (yX3_isOpen, cX3_isOpen, 2, (some .boolean), { frames := 0, cells := 0, slots := 0, locals := 0 }, [], false, none, none)
theorem ok_X3_isOpen : mOk m_X3_isOpen := wa_m 194 (by decide +kernel) rfl
def m_X3_endBatch : mM := (yX3_endBatch, cX3_endBatch, 1, none, { frames := 4, cells := 0, slots := 0, locals := 97 }, [], false, none, none)
theorem ok_X3_endBatch : mOk m_X3_endBatch := wa_m 745 (by decide +kernel) rfl
def m_X3_keepStates : mM := (yX3_keepStates, cX3_keepStates, 4, none, { frames := 3, cells := 0, slots := 0, locals := 74 }, [], false, none, none)
theorem ok_X3_keepStates : mOk m_X3_keepStates := wa_m 275 (by decide +kernel) rfl
def m_X3_otherSlot : mM := (yX3_otherSlot, cX3_otherSlot, 1, (some .int), { frames := 0, cells := 0, slots := 0, locals := 0 }, [], false, none, none)
theorem ok_X3_otherSlot : mOk m_X3_otherSlot := wa_m 337 (by decide +kernel) rfl
def m_X3_wordIn : mM := (yX3_wordIn, cX3_wordIn, 4, (some .long), { frames := 0, cells := 0, slots := 0, locals := 0 }, [], false, none, none)
theorem ok_X3_wordIn : mOk m_X3_wordIn := wa_m 286 (by decide +kernel) rfl
def m_X3_sumsUp : mM := (yX3_sumsUp, cX3_sumsUp, 4, (some .boolean), { frames := 1, cells := 0, slots := 0, locals := 25 }, [], false, none, none)
theorem ok_X3_sumsUp : mOk m_X3_sumsUp := wa_m 282 (by decide +kernel) rfl
def m_X3_sumOf : mM := (yX3_sumOf, cX3_sumOf, 6, (some .long), { frames := 0, cells := 0, slots := 0, locals := 0 }, [], false, none, none)
theorem ok_X3_sumOf : mOk m_X3_sumOf := wa_m 289 (by decide +kernel) rfl
def m_X3_writeSlot : mM := (yX3_writeSlot, cX3_writeSlot, 5, none, { frames := 2, cells := 0, slots := 0, locals := 46 }, [], false, none, none)
theorem ok_X3_writeSlot : mOk m_X3_writeSlot := wa_m 761 (by decide +kernel) rfl
def m_X3_wordOfBatch : mM := (yX3_wordOfBatch, cX3_wordOfBatch, 2, (some .long), { frames := 1, cells := 0, slots := 0, locals := 25 }, [], false, none, none)
theorem ok_X3_wordOfBatch : mOk m_X3_wordOfBatch := wa_m 765 (by decide +kernel) rfl
def m_X3_latestWholeSlot : mM := (yX3_latestWholeSlot, cX3_latestWholeSlot, 1, (some .int), { frames := 2, cells := 0, slots := 0, locals := 48 }, [], false, none, none)
theorem ok_X3_latestWholeSlot : mOk m_X3_latestWholeSlot := wa_m 741 (by decide +kernel) rfl
def m_L_at (q : Nat × (Nat → Int32)) : mM := (yL_at, cL_at, 2, (some .int), { frames := 0, cells := 0, slots := 0, locals := 0 }, [], false, none, some q)
theorem ok_L_at (q : Nat × (Nat → Int32)) : mOk (m_L_at q) := show Jvm.Cond.code yL_at cL_at 2 (some .int) ∈ WA from wa_m 172 (by decide +kernel) rfl
def m_L_low : mM := (yL_low, cL_low, 2, (some .int), { frames := 0, cells := 0, slots := 0, locals := 0 }, [], false, none, none)
theorem ok_L_low : mOk m_L_low := wa_m 177 (by decide +kernel) rfl
def m_L_key : mM := (yL_key, cL_key, 1, (some .int), { frames := 0, cells := 0, slots := 0, locals := 0 }, [], false, none, none)
theorem ok_L_key : mOk m_L_key := wa_m 457 (by decide +kernel) rfl
def m_L_turn : mM := (yL_turn, cL_turn, 3, (some .int), { frames := 0, cells := 0, slots := 0, locals := 0 }, [], false, none, none)
theorem ok_L_turn : mOk m_L_turn := wa_m 454 (by decide +kernel) rfl
def m_L_sets : mM := (yL_sets, cL_sets, 5, none, { frames := 0, cells := 0, slots := 0, locals := 0 }, [], false, none, none)
theorem ok_L_sets : mOk m_L_sets := wa_m 681 (by decide +kernel) rfl
def m_L_value : mM := (yL_value, cL_value, 2, (some .int), { frames := 0, cells := 0, slots := 0, locals := 0 }, [], false, none, none)
theorem ok_L_value : mOk m_L_value := wa_m 550 (by decide +kernel) rfl
def m_L_begin : mM := (yL_begin, cL_begin, 2, (some .int), { frames := 7, cells := 1, slots := 6, locals := 102 }, [(0, 4, 5, 21)], false, none, none)
theorem ok_L_begin : mOk m_L_begin := wa_m 596 (by decide +kernel) rfl
def m_L_put : mM := (yL_put, cL_put, 4, (some .int), { frames := 8, cells := 2, slots := 12, locals := 164 }, [(0, 14, 15, 28), (0, 14, 19, 21)], false, none, none)
theorem ok_L_put : mOk m_L_put := wa_m 608 (by decide +kernel) rfl
def m_L_delete : mM := (yL_delete, cL_delete, 3, (some .int), { frames := 8, cells := 3, slots := 18, locals := 166 }, [(0, 5, 6, 28), (0, 5, 10, 21), (0, 5, 14, 35)], false, none, none)
theorem ok_L_delete : mOk m_L_delete := wa_m 686 (by decide +kernel) rfl
def m_L_commit : mM := (yL_commit, cL_commit, 2, (some .int), { frames := 8, cells := 1, slots := 6, locals := 138 }, [(0, 4, 5, 21)], false, none, none)
theorem ok_L_commit : mOk m_L_commit := wa_m 776 (by decide +kernel) rfl
def m_L_abandon : mM := (yL_abandon, cL_abandon, 2, (some .int), { frames := 8, cells := 1, slots := 6, locals := 138 }, [(0, 4, 5, 21)], false, none, none)
theorem ok_L_abandon : mOk m_L_abandon := wa_m 769 (by decide +kernel) rfl
def m_L_open : mM := (yL_open, cL_open, 2, (some .int), { frames := 7, cells := 1, slots := 6, locals := 103 }, [(0, 4, 5, 21)], false, none, none)
theorem ok_L_open : mOk m_L_open := wa_m 722 (by decide +kernel) rfl
def m_L_close : mM := (yL_close, cL_close, 3, (some .int), { frames := 8, cells := 1, slots := 6, locals := 125 }, [(0, 5, 6, 50)], false, none, none)
theorem ok_L_close : mOk m_L_close := wa_m 181 (by decide +kernel) rfl
def m_L_heldBy : mM := (yL_heldBy, cL_heldBy, 3, (some .int), { frames := 8, cells := 1, slots := 6, locals := 126 }, [(0, 5, 6, 50)], false, none, none)
theorem ok_L_heldBy : mOk m_L_heldBy := wa_m 571 (by decide +kernel) rfl
def m_L_epochOf : mM := (yL_epochOf, cL_epochOf, 3, (some .int), { frames := 9, cells := 1, slots := 6, locals := 145 }, [(0, 5, 6, 50)], false, none, none)
theorem ok_L_epochOf : mOk m_L_epochOf := wa_m 386 (by decide +kernel) rfl
def m_L_get : mM := (yL_get, cL_get, 4, (some .int), { frames := 9, cells := 3, slots := 18, locals := 147 }, [(0, 6, 7, 50), (0, 6, 11, 28), (0, 6, 15, 35)], false, none, none)
theorem ok_L_get : mOk m_L_get := wa_m 488 (by decide +kernel) rfl
def m_L_next : mM := (yL_next, cL_next, 4, (some .int), { frames := 9, cells := 1, slots := 6, locals := 146 }, [(0, 6, 7, 50)], false, none, none)
theorem ok_L_next : mOk m_L_next := wa_m 460 (by decide +kernel) rfl
def m_L_rank : mM := (yL_rank, cL_rank, 4, (some .int), { frames := 9, cells := 1, slots := 6, locals := 146 }, [(0, 6, 7, 50)], false, none, none)
theorem ok_L_rank : mOk m_L_rank := wa_m 476 (by decide +kernel) rfl
def m_L_size : mM := (yL_size, cL_size, 3, (some .int), { frames := 9, cells := 1, slots := 6, locals := 145 }, [(0, 5, 6, 50)], false, none, none)
theorem ok_L_size : mOk m_L_size := wa_m 393 (by decide +kernel) rfl
def m_L_depth : mM := (yL_depth, cL_depth, 3, (some .int), { frames := 9, cells := 1, slots := 6, locals := 145 }, [(0, 5, 6, 50)], false, none, none)
theorem ok_L_depth : mOk m_L_depth := wa_m 434 (by decide +kernel) rfl
def m_L_rootOf : mM := (yL_rootOf, cL_rootOf, 3, (some .int), { frames := 9, cells := 1, slots := 6, locals := 145 }, [(0, 5, 6, 50)], false, none, none)
theorem ok_L_rootOf : mOk m_L_rootOf := wa_m 375 (by decide +kernel) rfl
def m_L_shared : mM := (yL_shared, cL_shared, 4, (some .int), { frames := 9, cells := 2, slots := 12, locals := 148 }, [(0, 6, 7, 50)], false, none, none)
theorem ok_L_shared : mOk m_L_shared := wa_m 560 (by decide +kernel) rfl
def m_L_isFree : mM := (yL_isFree, cL_isFree, 3, (some .int), { frames := 7, cells := 1, slots := 6, locals := 103 }, [(0, 13, 14, 50)], false, none, none)
theorem ok_L_isFree : mOk m_L_isFree := wa_m 295 (by decide +kernel) rfl
def m_L_entries : mM := (yL_entries, cL_entries, 3, (some .int), { frames := 8, cells := 1, slots := 6, locals := 124 }, [(0, 5, 6, 50)], false, none, none)
theorem ok_L_entries : mOk m_L_entries := wa_m 303 (by decide +kernel) rfl
def m_L_keyAt : mM := (yL_keyAt, cL_keyAt, 4, (some .int), { frames := 9, cells := 2, slots := 12, locals := 147 }, [(0, 6, 7, 50)], false, none, none)
theorem ok_L_keyAt : mOk m_L_keyAt := wa_m 400 (by decide +kernel) rfl
def m_L_pageAt : mM := (yL_pageAt, cL_pageAt, 4, (some .int), { frames := 9, cells := 2, slots := 12, locals := 147 }, [(0, 6, 7, 50)], false, none, none)
theorem ok_L_pageAt : mOk m_L_pageAt := wa_m 419 (by decide +kernel) rfl
def m_L_slotWord : mM := (yL_slotWord, cL_slotWord, 4, (some .long), { frames := 8, cells := 2, slots := 12, locals := 124 }, [(0, 6, 7, 50)], false, none, none)
theorem ok_L_slotWord : mOk m_L_slotWord := wa_m 316 (by decide +kernel) rfl
def m_L_isWhole : mM := (yL_isWhole, cL_isWhole, 3, (some .int), { frames := 8, cells := 1, slots := 6, locals := 123 }, [(0, 13, 14, 50)], false, none, none)
theorem ok_L_isWhole : mOk m_L_isWhole := wa_m 583 (by decide +kernel) rfl
def m_L_tear : mM := (yL_tear, cL_tear, 3, (some .int), { frames := 8, cells := 2, slots := 12, locals := 124 }, [(0, 5, 6, 50), (0, 5, 10, 21)], false, none, none)
theorem ok_L_tear : mOk m_L_tear := wa_m 329 (by decide +kernel) rfl
def m_L_crashInCommit : mM := (yL_crashInCommit, cL_crashInCommit, 3, (some .int), { frames := 8, cells := 3, slots := 18, locals := 159 }, [(0, 5, 6, 28), (0, 5, 10, 21)], false, none, none)
theorem ok_L_crashInCommit : mOk m_L_crashInCommit := wa_m 751 (by decide +kernel) rfl
def m_L_print : mM := (yL_print, cL_print, 6, (some .long), { frames := 10, cells := 1100, slots := 6600, locals := 170 }, [], false, none, none)
theorem ok_L_print : mOk m_L_print := wa_m 358 (by decide +kernel) rfl
def m_L_first : mM := (yL_first, cL_first, 4, (some .int), { frames := 10, cells := 20, slots := 120, locals := 170 }, [], false, none, none)
theorem ok_L_first : mOk m_L_first := wa_m 451 (by decide +kernel) rfl
def m_L_walks : mM := (yL_walks, cL_walks, 16, (some .int), { frames := 11, cells := 1100, slots := 6800, locals := 193 }, [], false, none, none)
theorem ok_L_walks : mOk m_L_walks := wa_m 448 (by decide +kernel) rfl
def m_L_holds : mM := (yL_holds, cL_holds, 10, (some .boolean), { frames := 12, cells := 1100, slots := 6800, locals := 228 }, [], false, none, none)
theorem ok_L_holds : mOk m_L_holds := wa_m 445 (by decide +kernel) rfl
def m_L_shows : mM := (yL_shows, cL_shows, 12, (some .boolean), { frames := 13, cells := 1400, slots := 8800, locals := 257 }, [], false, none, none)
theorem ok_L_shows : mOk m_L_shows := wa_m 431 (by decide +kernel) rfl
def m_L_bits : mM := (yL_bits, cL_bits, 4, (some .int), { frames := 0, cells := 0, slots := 0, locals := 0 }, [], false, none, none)
theorem ok_L_bits : mOk m_L_bits := wa_m 557 (by decide +kernel) rfl
def m_L_shares : mM := (yL_shares, cL_shares, 8, (some .boolean), { frames := 12, cells := 2300, slots := 14000, locals := 228 }, [], false, none, none)
theorem ok_L_shares : mOk m_L_shares := wa_m 554 (by decide +kernel) rfl
def m_L_slots : mM := (yL_slots, cL_slots, 9, (some .boolean), { frames := 13, cells := 2400, slots := 14800, locals := 257 }, [], false, none, none)
theorem ok_L_slots : mOk m_L_slots := wa_m 578 (by decide +kernel) rfl
def m_L_isSo : mM := (yL_isSo, cL_isSo, 14, (some .boolean), { frames := 14, cells := 13000, slots := 82000, locals := 288 }, [], false, none, none)
theorem ok_L_isSo : mOk m_L_isSo := wa_m 428 (by decide +kernel) rfl
def m_L_copies : mM := (yL_copies, cL_copies, 5, none, { frames := 0, cells := 0, slots := 0, locals := 0 }, [], false, none, none)
theorem ok_L_copies : mOk m_L_copies := wa_m 593 (by decide +kernel) rfl
def m_L_wakes : mM := (yL_wakes, cL_wakes, 7, (some .boolean), { frames := 1, cells := 0, slots := 0, locals := 24 }, [], false, none, none)
theorem ok_L_wakes : mOk m_L_wakes := wa_m 748 (by decide +kernel) rfl
def m_L_writes : mM := (yL_writes, cL_writes, 14, (some .boolean), { frames := 9, cells := 100, slots := 600, locals := 188 }, [], false, none, none)
theorem ok_L_writes : mOk m_L_writes := wa_m 590 (by decide +kernel) rfl
def m_L_reads : mM := (yL_reads, cL_reads, 11, (some .boolean), { frames := 9, cells := 3, slots := 18, locals := 148 }, [], false, none, none)
theorem ok_L_reads : mOk m_L_reads := wa_m 719 (by decide +kernel) rfl
def m_L_tears : mM := (yL_tears, cL_tears, 5, (some .boolean), { frames := 9, cells := 4, slots := 24, locals := 147 }, [], false, none, none)
theorem ok_L_tears : mOk m_L_tears := wa_m 730 (by decide +kernel) rfl
def m_L_ends : mM := (yL_ends, cL_ends, 11, (some .boolean), { frames := 9, cells := 7, slots := 42, locals := 181 }, [], false, none, none)
theorem ok_L_ends : mOk m_L_ends := wa_m 733 (by decide +kernel) rfl
def m_L_law (q : Nat × (Nat → Int32)) : mM := (yL_law, cL_law, 12, some .boolean, room_1, [], false, some 0, some q)
theorem ci_X3_28 : mCi RX3 28 yX2_init 2 := ⟨wa_m 98 (by decide +kernel) rfl, wa_m 99 (by decide +kernel) rfl, wa_m 19 (by decide +kernel) rfl, by decide +kernel, by decide +kernel, by decide +kernel, by decide +kernel⟩
theorem cv_X3_54 : mCv RX3 54 yX0_markTree 2 := ⟨wa_m 119 (by decide +kernel) rfl, wa_m 120 (by decide +kernel) rfl, wa_m 121 (by decide +kernel) rfl, wa_m 17 (by decide +kernel) rfl, by decide +kernel, by decide +kernel, by decide +kernel⟩
theorem cv_X3_69 : mCv RX3 69 yX1_become 1 := ⟨wa_m 602 (by decide +kernel) rfl, wa_m 603 (by decide +kernel) rfl, wa_m 604 (by decide +kernel) rfl, wa_m 18 (by decide +kernel) rfl, by decide +kernel, by decide +kernel, by decide +kernel⟩
theorem cs_X3_76 : mCs RX3 76 yX3_requireKey 1 := ⟨wa_m 495 (by decide +kernel) rfl, wa_m 496 (by decide +kernel) rfl, wa_m 16 (by decide +kernel) rfl, by decide +kernel, by decide +kernel, by decide +kernel⟩
theorem cv_X3_80 : mCv RX3 80 yX3_requireBatch 0 := ⟨wa_m 613 (by decide +kernel) rfl, wa_m 615 (by decide +kernel) rfl, wa_m 10 (by decide +kernel) rfl, wa_m 16 (by decide +kernel) rfl, by decide +kernel, by decide +kernel, by decide +kernel⟩
theorem cv_X3_83 : mCv RX3 83 yX2_store 2 := ⟨wa_m 618 (by decide +kernel) rfl, wa_m 619 (by decide +kernel) rfl, wa_m 620 (by decide +kernel) rfl, wa_m 19 (by decide +kernel) rfl, by decide +kernel, by decide +kernel, by decide +kernel⟩
theorem cv_X3_87 : mCv RX3 87 yX3_valueIn 2 := ⟨wa_m 514 (by decide +kernel) rfl, wa_m 516 (by decide +kernel) rfl, wa_m 9 (by decide +kernel) rfl, wa_m 16 (by decide +kernel) rfl, by decide +kernel, by decide +kernel, by decide +kernel⟩
theorem cv_X3_91 : mCv RX3 91 yX2_drop 1 := ⟨wa_m 691 (by decide +kernel) rfl, wa_m 692 (by decide +kernel) rfl, wa_m 693 (by decide +kernel) rfl, wa_m 19 (by decide +kernel) rfl, by decide +kernel, by decide +kernel, by decide +kernel⟩
theorem cs_X3_94 : mCs RX3 94 yX3_otherSlot 1 := ⟨wa_m 335 (by decide +kernel) rfl, wa_m 336 (by decide +kernel) rfl, wa_m 16 (by decide +kernel) rfl, by decide +kernel, by decide +kernel, by decide +kernel⟩
theorem cv_X3_98 : mCv RX3 98 yX3_writeSlot 2 := ⟨wa_m 758 (by decide +kernel) rfl, wa_m 760 (by decide +kernel) rfl, wa_m 13 (by decide +kernel) rfl, wa_m 16 (by decide +kernel) rfl, by decide +kernel, by decide +kernel, by decide +kernel⟩
theorem cv_X3_102 : mCv RX3 102 yX3_endBatch 0 := ⟨wa_m 742 (by decide +kernel) rfl, wa_m 744 (by decide +kernel) rfl, wa_m 12 (by decide +kernel) rfl, wa_m 16 (by decide +kernel) rfl, by decide +kernel, by decide +kernel, by decide +kernel⟩
theorem cv_X3_105 : mCv RX3 105 yX3_pagesInUse 0 := ⟨wa_m 264 (by decide +kernel) rfl, wa_m 265 (by decide +kernel) rfl, wa_m 266 (by decide +kernel) rfl, wa_m 16 (by decide +kernel) rfl, by decide +kernel, by decide +kernel, by decide +kernel⟩
theorem cv_X3_109 : mCv RX3 109 yX3_isOpen 1 := ⟨wa_m 191 (by decide +kernel) rfl, wa_m 193 (by decide +kernel) rfl, wa_m 1 (by decide +kernel) rfl, wa_m 16 (by decide +kernel) rfl, by decide +kernel, by decide +kernel, by decide +kernel⟩
theorem cv_X3_115 : mCv RX3 115 yX3_requireReader 1 := ⟨wa_m 187 (by decide +kernel) rfl, wa_m 189 (by decide +kernel) rfl, wa_m 0 (by decide +kernel) rfl, wa_m 16 (by decide +kernel) rfl, by decide +kernel, by decide +kernel, by decide +kernel⟩
theorem cv_X3_118 : mCv RX3 118 yX3_keepStates 2 := ⟨wa_m 272 (by decide +kernel) rfl, wa_m 274 (by decide +kernel) rfl, wa_m 3 (by decide +kernel) rfl, wa_m 16 (by decide +kernel) rfl, by decide +kernel, by decide +kernel, by decide +kernel⟩
theorem cv_X3_124 : mCv RX3 124 yX3_viewed 1 := ⟨wa_m 380 (by decide +kernel) rfl, wa_m 382 (by decide +kernel) rfl, wa_m 7 (by decide +kernel) rfl, wa_m 16 (by decide +kernel) rfl, by decide +kernel, by decide +kernel, by decide +kernel⟩
theorem cv_X3_128 : mCv RX3 128 yX0_leastKeyFrom 2 := ⟨wa_m 465 (by decide +kernel) rfl, wa_m 466 (by decide +kernel) rfl, wa_m 467 (by decide +kernel) rfl, wa_m 17 (by decide +kernel) rfl, by decide +kernel, by decide +kernel, by decide +kernel⟩
theorem cv_X3_132 : mCv RX3 132 yX0_keysBelow 2 := ⟨wa_m 481 (by decide +kernel) rfl, wa_m 482 (by decide +kernel) rfl, wa_m 483 (by decide +kernel) rfl, wa_m 17 (by decide +kernel) rfl, by decide +kernel, by decide +kernel, by decide +kernel⟩
theorem cv_X3_138 : mCv RX3 138 yX0_levelsFrom 1 := ⟨wa_m 439 (by decide +kernel) rfl, wa_m 440 (by decide +kernel) rfl, wa_m 441 (by decide +kernel) rfl, wa_m 17 (by decide +kernel) rfl, by decide +kernel, by decide +kernel, by decide +kernel⟩
theorem cs_X3_141 : mCs RX3 141 yX0_unmark 1 := ⟨wa_m 276 (by decide +kernel) rfl, wa_m 277 (by decide +kernel) rfl, wa_m 17 (by decide +kernel) rfl, by decide +kernel, by decide +kernel, by decide +kernel⟩
theorem cv_X3_145 : mCv RX3 145 yX0_countMarked 1 := ⟨wa_m 565 (by decide +kernel) rfl, wa_m 566 (by decide +kernel) rfl, wa_m 567 (by decide +kernel) rfl, wa_m 17 (by decide +kernel) rfl, by decide +kernel, by decide +kernel, by decide +kernel⟩
theorem cv_X3_153 : mCv RX3 153 yX0_isVacant 1 := ⟨wa_m 268 (by decide +kernel) rfl, wa_m 269 (by decide +kernel) rfl, wa_m 270 (by decide +kernel) rfl, wa_m 17 (by decide +kernel) rfl, by decide +kernel, by decide +kernel, by decide +kernel⟩
theorem cv_X3_156 : mCv RX3 156 yX0_leastVacant 0 := ⟨wa_m 166 (by decide +kernel) rfl, wa_m 167 (by decide +kernel) rfl, wa_m 168 (by decide +kernel) rfl, wa_m 17 (by decide +kernel) rfl, by decide +kernel, by decide +kernel, by decide +kernel⟩
theorem cv_X3_159 : mCv RX3 159 yX3_requirePage 1 := ⟨wa_m 308 (by decide +kernel) rfl, wa_m 310 (by decide +kernel) rfl, wa_m 6 (by decide +kernel) rfl, wa_m 16 (by decide +kernel) rfl, by decide +kernel, by decide +kernel, by decide +kernel⟩
theorem cv_X3_162 : mCv RX3 162 yX0_countOf 1 := ⟨wa_m 313 (by decide +kernel) rfl, wa_m 132 (by decide +kernel) rfl, wa_m 133 (by decide +kernel) rfl, wa_m 17 (by decide +kernel) rfl, by decide +kernel, by decide +kernel, by decide +kernel⟩
theorem cv_X3_165 : mCv RX3 165 yX3_requireEntry 2 := ⟨wa_m 405 (by decide +kernel) rfl, wa_m 407 (by decide +kernel) rfl, wa_m 8 (by decide +kernel) rfl, wa_m 16 (by decide +kernel) rfl, by decide +kernel, by decide +kernel, by decide +kernel⟩
theorem cv_X3_168 : mCv RX3 168 yX0_keyOf 2 := ⟨wa_m 410 (by decide +kernel) rfl, wa_m 411 (by decide +kernel) rfl, wa_m 412 (by decide +kernel) rfl, wa_m 17 (by decide +kernel) rfl, by decide +kernel, by decide +kernel, by decide +kernel⟩
theorem cv_X3_171 : mCv RX3 171 yX0_isLeaf 1 := ⟨wa_m 424 (by decide +kernel) rfl, wa_m 128 (by decide +kernel) rfl, wa_m 129 (by decide +kernel) rfl, wa_m 17 (by decide +kernel) rfl, by decide +kernel, by decide +kernel, by decide +kernel⟩
theorem cv_X3_174 : mCv RX3 174 yX0_wordOf 2 := ⟨wa_m 425 (by decide +kernel) rfl, wa_m 136 (by decide +kernel) rfl, wa_m 137 (by decide +kernel) rfl, wa_m 17 (by decide +kernel) rfl, by decide +kernel, by decide +kernel, by decide +kernel⟩
theorem cs_X3_177 : mCs RX3 177 yX3_requireSlot 1 := ⟨wa_m 321 (by decide +kernel) rfl, wa_m 322 (by decide +kernel) rfl, wa_m 16 (by decide +kernel) rfl, by decide +kernel, by decide +kernel, by decide +kernel⟩
theorem cv_X3_182 : mCv RX3 182 yX3_wordIn 2 := ⟨wa_m 283 (by decide +kernel) rfl, wa_m 285 (by decide +kernel) rfl, wa_m 5 (by decide +kernel) rfl, wa_m 16 (by decide +kernel) rfl, by decide +kernel, by decide +kernel, by decide +kernel⟩
theorem cv_X3_186 : mCv RX3 186 yX3_sumsUp 1 := ⟨wa_m 279 (by decide +kernel) rfl, wa_m 281 (by decide +kernel) rfl, wa_m 4 (by decide +kernel) rfl, wa_m 16 (by decide +kernel) rfl, by decide +kernel, by decide +kernel, by decide +kernel⟩
theorem cv_X3_193 : mCv RX3 193 yX3_latestWholeSlot 0 := ⟨wa_m 738 (by decide +kernel) rfl, wa_m 740 (by decide +kernel) rfl, wa_m 11 (by decide +kernel) rfl, wa_m 16 (by decide +kernel) rfl, by decide +kernel, by decide +kernel, by decide +kernel⟩
theorem cv_X3_203 : mCv RX3 203 yX3_crash 0 := ⟨wa_m 766 (by decide +kernel) rfl, wa_m 735 (by decide +kernel) rfl, wa_m 736 (by decide +kernel) rfl, wa_m 16 (by decide +kernel) rfl, by decide +kernel, by decide +kernel, by decide +kernel⟩
theorem cv_X3_218 : mCv RX3 218 yX0_leafFor 2 := ⟨wa_m 518 (by decide +kernel) rfl, wa_m 519 (by decide +kernel) rfl, wa_m 520 (by decide +kernel) rfl, wa_m 17 (by decide +kernel) rfl, by decide +kernel, by decide +kernel, by decide +kernel⟩
theorem cv_X3_221 : mCv RX3 221 yX0_placeOf 2 := ⟨wa_m 526 (by decide +kernel) rfl, wa_m 470 (by decide +kernel) rfl, wa_m 471 (by decide +kernel) rfl, wa_m 17 (by decide +kernel) rfl, by decide +kernel, by decide +kernel, by decide +kernel⟩
theorem cv_X3_224 : mCv RX3 224 yX0_holds 3 := ⟨wa_m 527 (by decide +kernel) rfl, wa_m 528 (by decide +kernel) rfl, wa_m 529 (by decide +kernel) rfl, wa_m 17 (by decide +kernel) rfl, by decide +kernel, by decide +kernel, by decide +kernel⟩
theorem cs_X3_236 : mCs RX3 236 yX3_sumOf 3 := ⟨wa_m 287 (by decide +kernel) rfl, wa_m 288 (by decide +kernel) rfl, wa_m 16 (by decide +kernel) rfl, by decide +kernel, by decide +kernel, by decide +kernel⟩
theorem cv_X3_244 : mCv RX3 244 yX3_wordOfBatch 1 := ⟨wa_m 762 (by decide +kernel) rfl, wa_m 764 (by decide +kernel) rfl, wa_m 14 (by decide +kernel) rfl, wa_m 16 (by decide +kernel) rfl, by decide +kernel, by decide +kernel, by decide +kernel⟩
theorem cs_X0_37 : mCs RX0 37 yX0_isCell 2 := ⟨wa_m 414 (by decide +kernel) rfl, wa_m 415 (by decide +kernel) rfl, wa_m 17 (by decide +kernel) rfl, by decide +kernel, by decide +kernel, by decide +kernel⟩
theorem cv_X0_41 : mCv RX0 41 yX0_isLeaf 1 := ⟨wa_m 127 (by decide +kernel) rfl, wa_m 128 (by decide +kernel) rfl, wa_m 129 (by decide +kernel) rfl, wa_m 17 (by decide +kernel) rfl, by decide +kernel, by decide +kernel, by decide +kernel⟩
theorem cv_X0_45 : mCv RX0 45 yX0_wordOf 2 := ⟨wa_m 135 (by decide +kernel) rfl, wa_m 136 (by decide +kernel) rfl, wa_m 137 (by decide +kernel) rfl, wa_m 17 (by decide +kernel) rfl, by decide +kernel, by decide +kernel, by decide +kernel⟩
theorem cv_X0_49 : mCv RX0 49 yX0_countOf 1 := ⟨wa_m 131 (by decide +kernel) rfl, wa_m 132 (by decide +kernel) rfl, wa_m 133 (by decide +kernel) rfl, wa_m 17 (by decide +kernel) rfl, by decide +kernel, by decide +kernel, by decide +kernel⟩
theorem cv_X0_53 : mCv RX0 53 yX0_keyOf 2 := ⟨wa_m 473 (by decide +kernel) rfl, wa_m 411 (by decide +kernel) rfl, wa_m 412 (by decide +kernel) rfl, wa_m 17 (by decide +kernel) rfl, by decide +kernel, by decide +kernel, by decide +kernel⟩
theorem cv_X0_56 : mCv RX0 56 yX0_entryFor 2 := ⟨wa_m 522 (by decide +kernel) rfl, wa_m 523 (by decide +kernel) rfl, wa_m 524 (by decide +kernel) rfl, wa_m 17 (by decide +kernel) rfl, by decide +kernel, by decide +kernel, by decide +kernel⟩
theorem cv_X0_59 : mCv RX0 59 yX0_listTree 1 := ⟨wa_m 123 (by decide +kernel) rfl, wa_m 124 (by decide +kernel) rfl, wa_m 125 (by decide +kernel) rfl, wa_m 17 (by decide +kernel) rfl, by decide +kernel, by decide +kernel, by decide +kernel⟩
theorem cv_X0_62 : mCv RX0 62 yX0_placeOf 2 := ⟨wa_m 469 (by decide +kernel) rfl, wa_m 470 (by decide +kernel) rfl, wa_m 471 (by decide +kernel) rfl, wa_m 17 (by decide +kernel) rfl, by decide +kernel, by decide +kernel, by decide +kernel⟩
theorem cv_X0_65 : mCv RX0 65 yX0_leastVacant 0 := ⟨wa_m 634 (by decide +kernel) rfl, wa_m 167 (by decide +kernel) rfl, wa_m 168 (by decide +kernel) rfl, wa_m 17 (by decide +kernel) rfl, by decide +kernel, by decide +kernel, by decide +kernel⟩
theorem cv_X0_69 : mCv RX0 69 yX0_take 1 := ⟨wa_m 630 (by decide +kernel) rfl, wa_m 631 (by decide +kernel) rfl, wa_m 632 (by decide +kernel) rfl, wa_m 17 (by decide +kernel) rfl, by decide +kernel, by decide +kernel, by decide +kernel⟩
theorem cv_X0_73 : mCv RX0 73 yX0_append 2 := ⟨wa_m 635 (by decide +kernel) rfl, wa_m 636 (by decide +kernel) rfl, wa_m 637 (by decide +kernel) rfl, wa_m 17 (by decide +kernel) rfl, by decide +kernel, by decide +kernel, by decide +kernel⟩
theorem cv_X0_77 : mCv RX0 77 yX0_insert 4 := ⟨wa_m 670 (by decide +kernel) rfl, wa_m 653 (by decide +kernel) rfl, wa_m 654 (by decide +kernel) rfl, wa_m 17 (by decide +kernel) rfl, by decide +kernel, by decide +kernel, by decide +kernel⟩
theorem cv_X0_81 : mCv RX0 81 yX0_remove 2 := ⟨wa_m 671 (by decide +kernel) rfl, wa_m 672 (by decide +kernel) rfl, wa_m 673 (by decide +kernel) rfl, wa_m 17 (by decide +kernel) rfl, by decide +kernel, by decide +kernel, by decide +kernel⟩
theorem cv_X2_26 : mCv RX2 26 yX2_writePath 1 := ⟨wa_m 622 (by decide +kernel) rfl, wa_m 623 (by decide +kernel) rfl, wa_m 624 (by decide +kernel) rfl, wa_m 19 (by decide +kernel) rfl, by decide +kernel, by decide +kernel, by decide +kernel⟩
theorem cv_X2_30 : mCv RX2 30 yX0_placeOf 2 := ⟨wa_m 650 (by decide +kernel) rfl, wa_m 470 (by decide +kernel) rfl, wa_m 471 (by decide +kernel) rfl, wa_m 17 (by decide +kernel) rfl, by decide +kernel, by decide +kernel, by decide +kernel⟩
theorem cv_X2_36 : mCv RX2 36 yX0_holds 3 := ⟨wa_m 651 (by decide +kernel) rfl, wa_m 528 (by decide +kernel) rfl, wa_m 529 (by decide +kernel) rfl, wa_m 17 (by decide +kernel) rfl, by decide +kernel, by decide +kernel, by decide +kernel⟩
theorem cv_X2_40 : mCv RX2 40 yX0_setWord 3 := ⟨wa_m 646 (by decide +kernel) rfl, wa_m 647 (by decide +kernel) rfl, wa_m 648 (by decide +kernel) rfl, wa_m 17 (by decide +kernel) rfl, by decide +kernel, by decide +kernel, by decide +kernel⟩
theorem cv_X2_44 : mCv RX2 44 yX0_insert 4 := ⟨wa_m 652 (by decide +kernel) rfl, wa_m 653 (by decide +kernel) rfl, wa_m 654 (by decide +kernel) rfl, wa_m 17 (by decide +kernel) rfl, by decide +kernel, by decide +kernel, by decide +kernel⟩
theorem cv_X2_54 : mCv RX2 54 yX2_splitUpwards 0 := ⟨wa_m 656 (by decide +kernel) rfl, wa_m 657 (by decide +kernel) rfl, wa_m 658 (by decide +kernel) rfl, wa_m 19 (by decide +kernel) rfl, by decide +kernel, by decide +kernel, by decide +kernel⟩
theorem cv_X2_57 : mCv RX2 57 yX0_remove 2 := ⟨wa_m 695 (by decide +kernel) rfl, wa_m 672 (by decide +kernel) rfl, wa_m 673 (by decide +kernel) rfl, wa_m 17 (by decide +kernel) rfl, by decide +kernel, by decide +kernel, by decide +kernel⟩
theorem cv_X2_64 : mCv RX2 64 yX0_countOf 1 := ⟨wa_m 660 (by decide +kernel) rfl, wa_m 132 (by decide +kernel) rfl, wa_m 133 (by decide +kernel) rfl, wa_m 17 (by decide +kernel) rfl, by decide +kernel, by decide +kernel, by decide +kernel⟩
theorem cv_X2_67 : mCv RX2 67 yX2_mend 2 := ⟨wa_m 696 (by decide +kernel) rfl, wa_m 697 (by decide +kernel) rfl, wa_m 698 (by decide +kernel) rfl, wa_m 19 (by decide +kernel) rfl, by decide +kernel, by decide +kernel, by decide +kernel⟩
theorem cv_X2_70 : mCv RX2 70 yX2_shrinkRoot 0 := ⟨wa_m 713 (by decide +kernel) rfl, wa_m 714 (by decide +kernel) rfl, wa_m 715 (by decide +kernel) rfl, wa_m 19 (by decide +kernel) rfl, by decide +kernel, by decide +kernel, by decide +kernel⟩
theorem cv_X2_76 : mCv RX2 76 yX0_writeAnew 1 := ⟨wa_m 626 (by decide +kernel) rfl, wa_m 627 (by decide +kernel) rfl, wa_m 628 (by decide +kernel) rfl, wa_m 17 (by decide +kernel) rfl, by decide +kernel, by decide +kernel, by decide +kernel⟩
theorem cv_X2_79 : mCv RX2 79 yX0_isLeaf 1 := ⟨wa_m 639 (by decide +kernel) rfl, wa_m 128 (by decide +kernel) rfl, wa_m 129 (by decide +kernel) rfl, wa_m 17 (by decide +kernel) rfl, by decide +kernel, by decide +kernel, by decide +kernel⟩
theorem cv_X2_83 : mCv RX2 83 yX0_entryFor 2 := ⟨wa_m 640 (by decide +kernel) rfl, wa_m 523 (by decide +kernel) rfl, wa_m 524 (by decide +kernel) rfl, wa_m 17 (by decide +kernel) rfl, by decide +kernel, by decide +kernel, by decide +kernel⟩
theorem cv_X2_86 : mCv RX2 86 yX2_writeBelow 2 := ⟨wa_m 641 (by decide +kernel) rfl, wa_m 642 (by decide +kernel) rfl, wa_m 643 (by decide +kernel) rfl, wa_m 19 (by decide +kernel) rfl, by decide +kernel, by decide +kernel, by decide +kernel⟩
theorem cv_X2_89 : mCv RX2 89 yX0_wordOf 2 := ⟨wa_m 645 (by decide +kernel) rfl, wa_m 136 (by decide +kernel) rfl, wa_m 137 (by decide +kernel) rfl, wa_m 17 (by decide +kernel) rfl, by decide +kernel, by decide +kernel, by decide +kernel⟩
theorem cv_X2_92 : mCv RX2 92 yX2_splitOff 1 := ⟨wa_m 661 (by decide +kernel) rfl, wa_m 662 (by decide +kernel) rfl, wa_m 663 (by decide +kernel) rfl, wa_m 19 (by decide +kernel) rfl, by decide +kernel, by decide +kernel, by decide +kernel⟩
theorem cv_X2_95 : mCv RX2 95 yX2_growRoot 2 := ⟨wa_m 675 (by decide +kernel) rfl, wa_m 676 (by decide +kernel) rfl, wa_m 677 (by decide +kernel) rfl, wa_m 19 (by decide +kernel) rfl, by decide +kernel, by decide +kernel, by decide +kernel⟩
theorem cv_X2_98 : mCv RX2 98 yX0_take 1 := ⟨wa_m 665 (by decide +kernel) rfl, wa_m 631 (by decide +kernel) rfl, wa_m 632 (by decide +kernel) rfl, wa_m 17 (by decide +kernel) rfl, by decide +kernel, by decide +kernel, by decide +kernel⟩
theorem cv_X2_102 : mCv RX2 102 yX0_move 4 := ⟨wa_m 666 (by decide +kernel) rfl, wa_m 667 (by decide +kernel) rfl, wa_m 668 (by decide +kernel) rfl, wa_m 17 (by decide +kernel) rfl, by decide +kernel, by decide +kernel, by decide +kernel⟩
theorem cv_X2_105 : mCv RX2 105 yX2_lend 3 := ⟨wa_m 700 (by decide +kernel) rfl, wa_m 701 (by decide +kernel) rfl, wa_m 702 (by decide +kernel) rfl, wa_m 19 (by decide +kernel) rfl, by decide +kernel, by decide +kernel, by decide +kernel⟩
theorem cv_X2_108 : mCv RX2 108 yX2_join 2 := ⟨wa_m 704 (by decide +kernel) rfl, wa_m 705 (by decide +kernel) rfl, wa_m 706 (by decide +kernel) rfl, wa_m 19 (by decide +kernel) rfl, by decide +kernel, by decide +kernel, by decide +kernel⟩
theorem cv_X2_111 : mCv RX2 111 yX0_append 2 := ⟨wa_m 708 (by decide +kernel) rfl, wa_m 636 (by decide +kernel) rfl, wa_m 637 (by decide +kernel) rfl, wa_m 17 (by decide +kernel) rfl, by decide +kernel, by decide +kernel, by decide +kernel⟩
theorem cv_X2_114 : mCv RX2 114 yX0_leave 1 := ⟨wa_m 709 (by decide +kernel) rfl, wa_m 710 (by decide +kernel) rfl, wa_m 711 (by decide +kernel) rfl, wa_m 17 (by decide +kernel) rfl, by decide +kernel, by decide +kernel, by decide +kernel⟩
theorem cv_L_15 : mCv RL 15 yX3_beginBatch 0 := ⟨wa_m 597 (by decide +kernel) rfl, wa_m 598 (by decide +kernel) rfl, wa_m 599 (by decide +kernel) rfl, wa_m 16 (by decide +kernel) rfl, by decide +kernel, by decide +kernel, by decide +kernel⟩
theorem cv_L_24 : mCv RL 24 yX3_put 2 := ⟨wa_m 609 (by decide +kernel) rfl, wa_m 610 (by decide +kernel) rfl, wa_m 611 (by decide +kernel) rfl, wa_m 16 (by decide +kernel) rfl, by decide +kernel, by decide +kernel, by decide +kernel⟩
theorem cv_L_31 : mCv RL 31 yX3_delete 1 := ⟨wa_m 687 (by decide +kernel) rfl, wa_m 688 (by decide +kernel) rfl, wa_m 689 (by decide +kernel) rfl, wa_m 16 (by decide +kernel) rfl, by decide +kernel, by decide +kernel, by decide +kernel⟩
theorem cv_L_38 : mCv RL 38 yX3_commit 0 := ⟨wa_m 777 (by decide +kernel) rfl, wa_m 778 (by decide +kernel) rfl, wa_m 779 (by decide +kernel) rfl, wa_m 16 (by decide +kernel) rfl, by decide +kernel, by decide +kernel, by decide +kernel⟩
theorem cv_L_41 : mCv RL 41 yX3_abandon 0 := ⟨wa_m 770 (by decide +kernel) rfl, wa_m 771 (by decide +kernel) rfl, wa_m 772 (by decide +kernel) rfl, wa_m 16 (by decide +kernel) rfl, by decide +kernel, by decide +kernel, by decide +kernel⟩
theorem cv_L_44 : mCv RL 44 yX3_openReader 0 := ⟨wa_m 723 (by decide +kernel) rfl, wa_m 724 (by decide +kernel) rfl, wa_m 725 (by decide +kernel) rfl, wa_m 16 (by decide +kernel) rfl, by decide +kernel, by decide +kernel, by decide +kernel⟩
theorem cv_L_47 : mCv RL 47 yX3_closeReader 1 := ⟨wa_m 183 (by decide +kernel) rfl, wa_m 184 (by decide +kernel) rfl, wa_m 185 (by decide +kernel) rfl, wa_m 16 (by decide +kernel) rfl, by decide +kernel, by decide +kernel, by decide +kernel⟩
theorem cv_L_52 : mCv RL 52 yX3_heldBy 1 := ⟨wa_m 572 (by decide +kernel) rfl, wa_m 573 (by decide +kernel) rfl, wa_m 574 (by decide +kernel) rfl, wa_m 16 (by decide +kernel) rfl, by decide +kernel, by decide +kernel, by decide +kernel⟩
theorem cv_L_55 : mCv RL 55 yX3_epochOf 1 := ⟨wa_m 387 (by decide +kernel) rfl, wa_m 388 (by decide +kernel) rfl, wa_m 389 (by decide +kernel) rfl, wa_m 16 (by decide +kernel) rfl, by decide +kernel, by decide +kernel, by decide +kernel⟩
theorem cv_L_58 : mCv RL 58 yX3_get 2 := ⟨wa_m 491 (by decide +kernel) rfl, wa_m 492 (by decide +kernel) rfl, wa_m 493 (by decide +kernel) rfl, wa_m 16 (by decide +kernel) rfl, by decide +kernel, by decide +kernel, by decide +kernel⟩
theorem cv_L_62 : mCv RL 62 yX3_next 2 := ⟨wa_m 461 (by decide +kernel) rfl, wa_m 462 (by decide +kernel) rfl, wa_m 463 (by decide +kernel) rfl, wa_m 16 (by decide +kernel) rfl, by decide +kernel, by decide +kernel, by decide +kernel⟩
theorem cv_L_65 : mCv RL 65 yX3_rank 2 := ⟨wa_m 477 (by decide +kernel) rfl, wa_m 478 (by decide +kernel) rfl, wa_m 479 (by decide +kernel) rfl, wa_m 16 (by decide +kernel) rfl, by decide +kernel, by decide +kernel, by decide +kernel⟩
theorem cv_L_68 : mCv RL 68 yX3_size 1 := ⟨wa_m 394 (by decide +kernel) rfl, wa_m 395 (by decide +kernel) rfl, wa_m 396 (by decide +kernel) rfl, wa_m 16 (by decide +kernel) rfl, by decide +kernel, by decide +kernel, by decide +kernel⟩
theorem cv_L_71 : mCv RL 71 yX3_depth 1 := ⟨wa_m 435 (by decide +kernel) rfl, wa_m 436 (by decide +kernel) rfl, wa_m 437 (by decide +kernel) rfl, wa_m 16 (by decide +kernel) rfl, by decide +kernel, by decide +kernel, by decide +kernel⟩
theorem cv_L_74 : mCv RL 74 yX3_rootOf 1 := ⟨wa_m 376 (by decide +kernel) rfl, wa_m 377 (by decide +kernel) rfl, wa_m 378 (by decide +kernel) rfl, wa_m 16 (by decide +kernel) rfl, by decide +kernel, by decide +kernel, by decide +kernel⟩
theorem cv_L_77 : mCv RL 77 yX3_sharedPages 2 := ⟨wa_m 561 (by decide +kernel) rfl, wa_m 562 (by decide +kernel) rfl, wa_m 563 (by decide +kernel) rfl, wa_m 16 (by decide +kernel) rfl, by decide +kernel, by decide +kernel, by decide +kernel⟩
theorem cv_L_80 : mCv RL 80 yX3_isFree 1 := ⟨wa_m 296 (by decide +kernel) rfl, wa_m 297 (by decide +kernel) rfl, wa_m 298 (by decide +kernel) rfl, wa_m 16 (by decide +kernel) rfl, by decide +kernel, by decide +kernel, by decide +kernel⟩
theorem cv_L_84 : mCv RL 84 yX3_entries 1 := ⟨wa_m 304 (by decide +kernel) rfl, wa_m 305 (by decide +kernel) rfl, wa_m 306 (by decide +kernel) rfl, wa_m 16 (by decide +kernel) rfl, by decide +kernel, by decide +kernel, by decide +kernel⟩
theorem cv_L_87 : mCv RL 87 yX3_keyAt 2 := ⟨wa_m 401 (by decide +kernel) rfl, wa_m 402 (by decide +kernel) rfl, wa_m 403 (by decide +kernel) rfl, wa_m 16 (by decide +kernel) rfl, by decide +kernel, by decide +kernel, by decide +kernel⟩
theorem cv_L_90 : mCv RL 90 yX3_pageAt 2 := ⟨wa_m 420 (by decide +kernel) rfl, wa_m 421 (by decide +kernel) rfl, wa_m 422 (by decide +kernel) rfl, wa_m 16 (by decide +kernel) rfl, by decide +kernel, by decide +kernel, by decide +kernel⟩
theorem cv_L_93 : mCv RL 93 yX3_slotWord 2 := ⟨wa_m 317 (by decide +kernel) rfl, wa_m 318 (by decide +kernel) rfl, wa_m 319 (by decide +kernel) rfl, wa_m 16 (by decide +kernel) rfl, by decide +kernel, by decide +kernel, by decide +kernel⟩
theorem cv_L_99 : mCv RL 99 yX3_isWhole 1 := ⟨wa_m 584 (by decide +kernel) rfl, wa_m 585 (by decide +kernel) rfl, wa_m 586 (by decide +kernel) rfl, wa_m 16 (by decide +kernel) rfl, by decide +kernel, by decide +kernel, by decide +kernel⟩
theorem cv_L_102 : mCv RL 102 yX3_tear 1 := ⟨wa_m 331 (by decide +kernel) rfl, wa_m 332 (by decide +kernel) rfl, wa_m 333 (by decide +kernel) rfl, wa_m 16 (by decide +kernel) rfl, by decide +kernel, by decide +kernel, by decide +kernel⟩
theorem cv_L_105 : mCv RL 105 yX3_crashInCommit 1 := ⟨wa_m 752 (by decide +kernel) rfl, wa_m 753 (by decide +kernel) rfl, wa_m 754 (by decide +kernel) rfl, wa_m 16 (by decide +kernel) rfl, by decide +kernel, by decide +kernel, by decide +kernel⟩
theorem cv_L_110 : mCv RL 110 yX3_pagesInUse 0 := ⟨wa_m 360 (by decide +kernel) rfl, wa_m 265 (by decide +kernel) rfl, wa_m 266 (by decide +kernel) rfl, wa_m 16 (by decide +kernel) rfl, by decide +kernel, by decide +kernel, by decide +kernel⟩
theorem cv_L_113 : mCv RL 113 yX3_leastFree 0 := ⟨wa_m 162 (by decide +kernel) rfl, wa_m 163 (by decide +kernel) rfl, wa_m 164 (by decide +kernel) rfl, wa_m 16 (by decide +kernel) rfl, by decide +kernel, by decide +kernel, by decide +kernel⟩
theorem cv_L_116 : mCv RL 116 yX3_currentSlot 0 := ⟨wa_m 361 (by decide +kernel) rfl, wa_m 362 (by decide +kernel) rfl, wa_m 363 (by decide +kernel) rfl, wa_m 16 (by decide +kernel) rfl, by decide +kernel, by decide +kernel, by decide +kernel⟩
theorem cv_L_119 : mCv RL 119 yX3_hasBatch 0 := ⟨wa_m 365 (by decide +kernel) rfl, wa_m 366 (by decide +kernel) rfl, wa_m 367 (by decide +kernel) rfl, wa_m 16 (by decide +kernel) rfl, by decide +kernel, by decide +kernel, by decide +kernel⟩
theorem cv_L_123 : mCv RL 123 yX3_readers 0 := ⟨wa_m 369 (by decide +kernel) rfl, wa_m 370 (by decide +kernel) rfl, wa_m 371 (by decide +kernel) rfl, wa_m 16 (by decide +kernel) rfl, by decide +kernel, by decide +kernel, by decide +kernel⟩
theorem cs_L_126 : mCs RL 126 yL_slotWord 3 := ⟨wa_m 314 (by decide +kernel) rfl, wa_m 315 (by decide +kernel) rfl, wa_m 15 (by decide +kernel) rfl, by decide +kernel, by decide +kernel, by decide +kernel⟩
theorem cs_L_131 : mCs RL 131 yL_rootOf 2 := ⟨wa_m 373 (by decide +kernel) rfl, wa_m 374 (by decide +kernel) rfl, wa_m 15 (by decide +kernel) rfl, by decide +kernel, by decide +kernel, by decide +kernel⟩
theorem cs_L_134 : mCs RL 134 yL_epochOf 2 := ⟨wa_m 384 (by decide +kernel) rfl, wa_m 385 (by decide +kernel) rfl, wa_m 15 (by decide +kernel) rfl, by decide +kernel, by decide +kernel, by decide +kernel⟩
theorem cs_L_136 : mCs RL 136 yL_size 2 := ⟨wa_m 391 (by decide +kernel) rfl, wa_m 392 (by decide +kernel) rfl, wa_m 15 (by decide +kernel) rfl, by decide +kernel, by decide +kernel, by decide +kernel⟩
theorem cs_L_138 : mCs RL 138 yL_entries 2 := ⟨wa_m 301 (by decide +kernel) rfl, wa_m 302 (by decide +kernel) rfl, wa_m 15 (by decide +kernel) rfl, by decide +kernel, by decide +kernel, by decide +kernel⟩
theorem cs_L_140 : mCs RL 140 yL_keyAt 3 := ⟨wa_m 398 (by decide +kernel) rfl, wa_m 399 (by decide +kernel) rfl, wa_m 15 (by decide +kernel) rfl, by decide +kernel, by decide +kernel, by decide +kernel⟩
theorem cs_L_143 : mCs RL 143 yL_pageAt 3 := ⟨wa_m 417 (by decide +kernel) rfl, wa_m 418 (by decide +kernel) rfl, wa_m 15 (by decide +kernel) rfl, by decide +kernel, by decide +kernel, by decide +kernel⟩
theorem cs_L_145 : mCs RL 145 yL_first 2 := ⟨wa_m 449 (by decide +kernel) rfl, wa_m 450 (by decide +kernel) rfl, wa_m 15 (by decide +kernel) rfl, by decide +kernel, by decide +kernel, by decide +kernel⟩
theorem cs_L_148 : mCs RL 148 yL_walks 4 := ⟨wa_m 446 (by decide +kernel) rfl, wa_m 447 (by decide +kernel) rfl, wa_m 15 (by decide +kernel) rfl, by decide +kernel, by decide +kernel, by decide +kernel⟩
theorem cs_L_152 : mCs RL 152 yL_turn 3 := ⟨wa_m 452 (by decide +kernel) rfl, wa_m 453 (by decide +kernel) rfl, wa_m 15 (by decide +kernel) rfl, by decide +kernel, by decide +kernel, by decide +kernel⟩
theorem cs_L_156 : mCs RL 156 yL_key 1 := ⟨wa_m 455 (by decide +kernel) rfl, wa_m 456 (by decide +kernel) rfl, wa_m 15 (by decide +kernel) rfl, by decide +kernel, by decide +kernel, by decide +kernel⟩
theorem cs_L_159 : mCs RL 159 yL_depth 2 := ⟨wa_m 432 (by decide +kernel) rfl, wa_m 433 (by decide +kernel) rfl, wa_m 15 (by decide +kernel) rfl, by decide +kernel, by decide +kernel, by decide +kernel⟩
theorem cs_L_161 : mCs RL 161 yL_holds 7 := ⟨wa_m 443 (by decide +kernel) rfl, wa_m 444 (by decide +kernel) rfl, wa_m 15 (by decide +kernel) rfl, by decide +kernel, by decide +kernel, by decide +kernel⟩
theorem cs_L_165 : mCs RL 165 yL_low 2 := ⟨wa_m 175 (by decide +kernel) rfl, wa_m 176 (by decide +kernel) rfl, wa_m 15 (by decide +kernel) rfl, by decide +kernel, by decide +kernel, by decide +kernel⟩
theorem cs_L_168 : mCs RL 168 yL_next 3 := ⟨wa_m 458 (by decide +kernel) rfl, wa_m 459 (by decide +kernel) rfl, wa_m 15 (by decide +kernel) rfl, by decide +kernel, by decide +kernel, by decide +kernel⟩
theorem cs_L_170 : mCs RL 170 yL_rank 3 := ⟨wa_m 474 (by decide +kernel) rfl, wa_m 475 (by decide +kernel) rfl, wa_m 15 (by decide +kernel) rfl, by decide +kernel, by decide +kernel, by decide +kernel⟩
theorem cs_L_173 : mCs RL 173 yL_get 3 := ⟨wa_m 486 (by decide +kernel) rfl, wa_m 487 (by decide +kernel) rfl, wa_m 15 (by decide +kernel) rfl, by decide +kernel, by decide +kernel, by decide +kernel⟩
theorem cs_L_175 : mCs RL 175 yL_value 2 := ⟨wa_m 548 (by decide +kernel) rfl, wa_m 549 (by decide +kernel) rfl, wa_m 15 (by decide +kernel) rfl, by decide +kernel, by decide +kernel, by decide +kernel⟩
theorem cs_L_178 : mCs RL 178 yL_bits 1 := ⟨wa_m 555 (by decide +kernel) rfl, wa_m 556 (by decide +kernel) rfl, wa_m 15 (by decide +kernel) rfl, by decide +kernel, by decide +kernel, by decide +kernel⟩
theorem cs_L_182 : mCs RL 182 yL_shared 3 := ⟨wa_m 558 (by decide +kernel) rfl, wa_m 559 (by decide +kernel) rfl, wa_m 15 (by decide +kernel) rfl, by decide +kernel, by decide +kernel, by decide +kernel⟩
theorem cs_L_189 : mCs RL 189 yL_isWhole 2 := ⟨wa_m 581 (by decide +kernel) rfl, wa_m 582 (by decide +kernel) rfl, wa_m 15 (by decide +kernel) rfl, by decide +kernel, by decide +kernel, by decide +kernel⟩
theorem cs_L_191 : mCs RL 191 yL_shows 7 := ⟨wa_m 429 (by decide +kernel) rfl, wa_m 430 (by decide +kernel) rfl, wa_m 15 (by decide +kernel) rfl, by decide +kernel, by decide +kernel, by decide +kernel⟩
theorem cs_L_195 : mCs RL 195 yL_shares 3 := ⟨wa_m 552 (by decide +kernel) rfl, wa_m 553 (by decide +kernel) rfl, wa_m 15 (by decide +kernel) rfl, by decide +kernel, by decide +kernel, by decide +kernel⟩
theorem cs_L_199 : mCs RL 199 yL_heldBy 2 := ⟨wa_m 569 (by decide +kernel) rfl, wa_m 570 (by decide +kernel) rfl, wa_m 15 (by decide +kernel) rfl, by decide +kernel, by decide +kernel, by decide +kernel⟩
theorem cs_L_201 : mCs RL 201 yL_slots 6 := ⟨wa_m 576 (by decide +kernel) rfl, wa_m 577 (by decide +kernel) rfl, wa_m 15 (by decide +kernel) rfl, by decide +kernel, by decide +kernel, by decide +kernel⟩
theorem cs_L_205 : mCs RL 205 yL_isFree 2 := ⟨wa_m 293 (by decide +kernel) rfl, wa_m 294 (by decide +kernel) rfl, wa_m 15 (by decide +kernel) rfl, by decide +kernel, by decide +kernel, by decide +kernel⟩
theorem cs_L_207 : mCs RL 207 yL_copies 4 := ⟨wa_m 591 (by decide +kernel) rfl, wa_m 592 (by decide +kernel) rfl, wa_m 15 (by decide +kernel) rfl, by decide +kernel, by decide +kernel, by decide +kernel⟩
theorem cs_L_211 : mCs RL 211 yL_begin 1 := ⟨wa_m 594 (by decide +kernel) rfl, wa_m 595 (by decide +kernel) rfl, wa_m 15 (by decide +kernel) rfl, by decide +kernel, by decide +kernel, by decide +kernel⟩
theorem cs_L_215 : mCs RL 215 yL_put 3 := ⟨wa_m 606 (by decide +kernel) rfl, wa_m 607 (by decide +kernel) rfl, wa_m 15 (by decide +kernel) rfl, by decide +kernel, by decide +kernel, by decide +kernel⟩
theorem cs_L_217 : mCs RL 217 yL_sets 4 := ⟨wa_m 679 (by decide +kernel) rfl, wa_m 680 (by decide +kernel) rfl, wa_m 15 (by decide +kernel) rfl, by decide +kernel, by decide +kernel, by decide +kernel⟩
theorem cs_L_221 : mCs RL 221 yL_delete 2 := ⟨wa_m 684 (by decide +kernel) rfl, wa_m 685 (by decide +kernel) rfl, wa_m 15 (by decide +kernel) rfl, by decide +kernel, by decide +kernel, by decide +kernel⟩
theorem cs_L_223 : mCs RL 223 yL_open 1 := ⟨wa_m 720 (by decide +kernel) rfl, wa_m 721 (by decide +kernel) rfl, wa_m 15 (by decide +kernel) rfl, by decide +kernel, by decide +kernel, by decide +kernel⟩
theorem cs_L_226 : mCs RL 226 yL_close 2 := ⟨wa_m 179 (by decide +kernel) rfl, wa_m 180 (by decide +kernel) rfl, wa_m 15 (by decide +kernel) rfl, by decide +kernel, by decide +kernel, by decide +kernel⟩
theorem cs_L_229 : mCs RL 229 yL_tear 2 := ⟨wa_m 327 (by decide +kernel) rfl, wa_m 328 (by decide +kernel) rfl, wa_m 15 (by decide +kernel) rfl, by decide +kernel, by decide +kernel, by decide +kernel⟩
theorem cv_L_231 : mCv RL 231 yX3_crash 0 := ⟨wa_m 734 (by decide +kernel) rfl, wa_m 735 (by decide +kernel) rfl, wa_m 736 (by decide +kernel) rfl, wa_m 16 (by decide +kernel) rfl, by decide +kernel, by decide +kernel, by decide +kernel⟩
theorem cs_L_234 : mCs RL 234 yL_wakes 5 := ⟨wa_m 746 (by decide +kernel) rfl, wa_m 747 (by decide +kernel) rfl, wa_m 15 (by decide +kernel) rfl, by decide +kernel, by decide +kernel, by decide +kernel⟩
theorem cs_L_238 : mCs RL 238 yL_crashInCommit 2 := ⟨wa_m 749 (by decide +kernel) rfl, wa_m 750 (by decide +kernel) rfl, wa_m 15 (by decide +kernel) rfl, by decide +kernel, by decide +kernel, by decide +kernel⟩
theorem cs_L_240 : mCs RL 240 yL_abandon 1 := ⟨wa_m 767 (by decide +kernel) rfl, wa_m 768 (by decide +kernel) rfl, wa_m 15 (by decide +kernel) rfl, by decide +kernel, by decide +kernel, by decide +kernel⟩
theorem cs_L_242 : mCs RL 242 yL_commit 1 := ⟨wa_m 774 (by decide +kernel) rfl, wa_m 775 (by decide +kernel) rfl, wa_m 15 (by decide +kernel) rfl, by decide +kernel, by decide +kernel, by decide +kernel⟩
theorem ci_L_244 : mCi RL 244 yX3_init 0 := ⟨wa_m 29 (by decide +kernel) rfl, wa_m 30 (by decide +kernel) rfl, wa_m 16 (by decide +kernel) rfl, by decide +kernel, by decide +kernel, by decide +kernel, by decide +kernel⟩
theorem cs_L_245 : mCs RL 245 yL_isSo 5 := ⟨wa_m 426 (by decide +kernel) rfl, wa_m 427 (by decide +kernel) rfl, wa_m 15 (by decide +kernel) rfl, by decide +kernel, by decide +kernel, by decide +kernel⟩
theorem cs_L_249 : mCs RL 249 yL_at 2 := ⟨wa_m 170 (by decide +kernel) rfl, wa_m 171 (by decide +kernel) rfl, wa_m 15 (by decide +kernel) rfl, by decide +kernel, by decide +kernel, by decide +kernel⟩
theorem cs_L_253 : mCs RL 253 yL_writes 7 := ⟨wa_m 588 (by decide +kernel) rfl, wa_m 589 (by decide +kernel) rfl, wa_m 15 (by decide +kernel) rfl, by decide +kernel, by decide +kernel, by decide +kernel⟩
theorem cs_L_257 : mCs RL 257 yL_reads 6 := ⟨wa_m 717 (by decide +kernel) rfl, wa_m 718 (by decide +kernel) rfl, wa_m 15 (by decide +kernel) rfl, by decide +kernel, by decide +kernel, by decide +kernel⟩
theorem cs_L_261 : mCs RL 261 yL_tears 3 := ⟨wa_m 728 (by decide +kernel) rfl, wa_m 729 (by decide +kernel) rfl, wa_m 15 (by decide +kernel) rfl, by decide +kernel, by decide +kernel, by decide +kernel⟩
theorem cs_L_265 : mCs RL 265 yL_ends 6 := ⟨wa_m 731 (by decide +kernel) rfl, wa_m 732 (by decide +kernel) rfl, wa_m 15 (by decide +kernel) rfl, by decide +kernel, by decide +kernel, by decide +kernel⟩
theorem cs_L_268 : mCs RL 268 yL_print 1 := ⟨wa_m 356 (by decide +kernel) rfl, wa_m 357 (by decide +kernel) rfl, wa_m 15 (by decide +kernel) rfl, by decide +kernel, by decide +kernel, by decide +kernel⟩
theorem ta_of {l : List Jvm.Cond} {u : Jvm.Cond} (h : l.all (fun w => (decide (w = u) || decide (w ∈ mDe)) || (decide (w ∈ lw_tbl) && goodWord w)) = true) : ∀ x ∈ l, x ∈ WA ∨ x = u ∨ x ∈ mDe := fun x hx => by
  have h1 := List.all_eq_true.mp h x hx
  simp only [Bool.or_eq_true, Bool.and_eq_true, decide_eq_true_eq] at h1
  rcases h1 with (h1 | h1) | h1
  · exact Or.inr (Or.inl h1)
  · exact Or.inr (Or.inr h1)
  · exact Or.inl (List.mem_filter.mpr h1)
theorem ta_66 : ∀ x ∈ vx_atS RX3 66 "java/lang/IllegalStateException" mNm, x ∈ WA ∨ x = .castable "java/lang/IllegalStateException" "java/lang/IllegalStateException" ∨ x ∈ mDe := ta_of (by decide +kernel)
theorem ta_152 : ∀ x ∈ vx_atS RX3 152 "java/lang/IndexOutOfBoundsException" mNm, x ∈ WA ∨ x = .castable "java/lang/IndexOutOfBoundsException" "java/lang/IndexOutOfBoundsException" ∨ x ∈ mDe := ta_of (by decide +kernel)
theorem ta_200 : ∀ x ∈ vx_atS RX3 200 "java/lang/IllegalArgumentException" mNm, x ∈ WA ∨ x = .castable "java/lang/IllegalArgumentException" "java/lang/IllegalArgumentException" ∨ x ∈ mDe := ta_of (by decide +kernel)
theorem ta_232 : ∀ x ∈ (nAll RX3 232).filter vx_no, x ∈ WA ∨ x = .castable nX nX ∨ x ∈ mDe := ta_of (by decide +kernel)
theorem th_X3_64 : mTh RX3 62 64 66 "java/lang/IllegalStateException" "there is a batch" := ⟨by decide +kernel, by decide +kernel, rfl, by decide +kernel, wa_m 338 (by decide +kernel) rfl, wa_m 26 (by decide +kernel) rfl, ta_66, by decide +kernel⟩
theorem th_X3_113 : mTh RX3 62 113 66 "java/lang/IllegalStateException" "all readers are open" := ⟨by decide +kernel, by decide +kernel, rfl, by decide +kernel, wa_m 338 (by decide +kernel) rfl, wa_m 26 (by decide +kernel) rfl, ta_66, by decide +kernel⟩
theorem th_X3_189 : mTh RX3 62 189 66 "java/lang/IllegalStateException" "the other slot is torn" := ⟨by decide +kernel, by decide +kernel, rfl, by decide +kernel, wa_m 338 (by decide +kernel) rfl, wa_m 26 (by decide +kernel) rfl, ta_66, by decide +kernel⟩
theorem th_X3_201 : mTh RX3 62 201 66 "java/lang/IllegalStateException" "no slot would be whole" := ⟨by decide +kernel, by decide +kernel, rfl, by decide +kernel, wa_m 338 (by decide +kernel) rfl, wa_m 26 (by decide +kernel) rfl, ta_66, by decide +kernel⟩
theorem th_X3_208 : mTh RX3 62 208 66 "java/lang/IllegalStateException" "there is no batch" := ⟨by decide +kernel, by decide +kernel, rfl, by decide +kernel, wa_m 338 (by decide +kernel) rfl, wa_m 26 (by decide +kernel) rfl, ta_66, by decide +kernel⟩
theorem th_X3_150 : mTh RX3 148 150 152 "java/lang/IndexOutOfBoundsException" "no such page" := ⟨by decide +kernel, by decide +kernel, rfl, by decide +kernel, wa_m 195 (by decide +kernel) rfl, wa_m 23 (by decide +kernel) rfl, ta_152, by decide +kernel⟩
theorem th_X3_180 : mTh RX3 148 180 152 "java/lang/IndexOutOfBoundsException" "no such word" := ⟨by decide +kernel, by decide +kernel, rfl, by decide +kernel, wa_m 195 (by decide +kernel) rfl, wa_m 23 (by decide +kernel) rfl, ta_152, by decide +kernel⟩
theorem th_X3_210 : mTh RX3 148 210 152 "java/lang/IndexOutOfBoundsException" "no open reader has this number" := ⟨by decide +kernel, by decide +kernel, rfl, by decide +kernel, wa_m 195 (by decide +kernel) rfl, wa_m 23 (by decide +kernel) rfl, ta_152, by decide +kernel⟩
theorem th_X3_212 : mTh RX3 148 212 152 "java/lang/IndexOutOfBoundsException" "no such page in use" := ⟨by decide +kernel, by decide +kernel, rfl, by decide +kernel, wa_m 195 (by decide +kernel) rfl, wa_m 23 (by decide +kernel) rfl, ta_152, by decide +kernel⟩
theorem th_X3_214 : mTh RX3 148 214 152 "java/lang/IndexOutOfBoundsException" "no such entry" := ⟨by decide +kernel, by decide +kernel, rfl, by decide +kernel, wa_m 195 (by decide +kernel) rfl, wa_m 23 (by decide +kernel) rfl, ta_152, by decide +kernel⟩
theorem th_X3_216 : mTh RX3 148 216 152 "java/lang/IndexOutOfBoundsException" "no such slot" := ⟨by decide +kernel, by decide +kernel, rfl, by decide +kernel, wa_m 195 (by decide +kernel) rfl, wa_m 23 (by decide +kernel) rfl, ta_152, by decide +kernel⟩
theorem th_X3_198 : mTh RX3 196 198 200 "java/lang/IllegalArgumentException" "words is out of range" := ⟨by decide +kernel, by decide +kernel, rfl, by decide +kernel, wa_m 498 (by decide +kernel) rfl, wa_m 24 (by decide +kernel) rfl, ta_200, by decide +kernel⟩
theorem th_X3_206 : mTh RX3 196 206 200 "java/lang/IllegalArgumentException" "key is not 0 to 99" := ⟨by decide +kernel, by decide +kernel, rfl, by decide +kernel, wa_m 498 (by decide +kernel) rfl, wa_m 24 (by decide +kernel) rfl, ta_200, by decide +kernel⟩
theorem tn_X3_230 : mTn RX3 228 230 232 "the tree does not have the key" := ⟨by decide +kernel, rfl, wa_m 531 (by decide +kernel) rfl, wa_m 25 (by decide +kernel) rfl, ta_232, by decide +kernel⟩
theorem ka_boolean : Jvm.Cond.arrayClass .boolean ∈ WA := wa_m 70 (by decide +kernel) rfl
theorem ka_byte : Jvm.Cond.arrayClass .byte ∈ WA := wa_m 263 (by decide +kernel) rfl
theorem ka_int : Jvm.Cond.arrayClass .int ∈ WA := wa_m 69 (by decide +kernel) rfl
theorem ka_long : Jvm.Cond.arrayClass .long ∈ WA := wa_m 161 (by decide +kernel) rfl
theorem kc_X3_148 : Jvm.Cond.classLink RX3 148 "java/lang/IndexOutOfBoundsException" ∈ WA := wa_m 195 (by decide +kernel) rfl
theorem kc_X3_16 : Jvm.Cond.classLink RX3 16 "Copperleaf$State" ∈ WA := wa_m 71 (by decide +kernel) rfl
theorem kc_X3_196 : Jvm.Cond.classLink RX3 196 "java/lang/IllegalArgumentException" ∈ WA := wa_m 498 (by decide +kernel) rfl
theorem kc_X3_228 : Jvm.Cond.classLink RX3 228 "java/util/NoSuchElementException" ∈ WA := wa_m 531 (by decide +kernel) rfl
theorem kc_X3_26 : Jvm.Cond.classLink RX3 26 "Copperleaf$Writer" ∈ WA := wa_m 96 (by decide +kernel) rfl
theorem kc_X3_62 : Jvm.Cond.classLink RX3 62 "java/lang/IllegalStateException" ∈ WA := wa_m 338 (by decide +kernel) rfl
theorem kc_X3_9 : Jvm.Cond.classLink RX3 9 "Copperleaf$Pages" ∈ WA := wa_m 35 (by decide +kernel) rfl
theorem kc_L_16 : Jvm.Cond.classLink RL 16 "Copperleaf" ∈ WA := wa_m 27 (by decide +kernel) rfl
theorem kc_L_21 : Jvm.Cond.classLink RL 21 "java/lang/IllegalStateException" ∈ WA := wa_m 330 (by decide +kernel) rfl
theorem kc_L_28 : Jvm.Cond.classLink RL 28 "java/lang/IllegalArgumentException" ∈ WA := wa_m 489 (by decide +kernel) rfl
theorem kc_L_35 : Jvm.Cond.classLink RL 35 "java/util/NoSuchElementException" ∈ WA := wa_m 490 (by decide +kernel) rfl
theorem kc_L_50 : Jvm.Cond.classLink RL 50 "java/lang/IndexOutOfBoundsException" ∈ WA := wa_m 182 (by decide +kernel) rfl
theorem ki_L_14 : Jvm.Cond.constant RL 14 (1000000007 : Int32) ∈ WA := wa_m 551 (by decide +kernel) rfl
theorem ki_L_172 : Jvm.Cond.constant RL 172 (-2147483648 : Int32) ∈ WA := wa_m 485 (by decide +kernel) rfl
theorem ki_L_23 : Jvm.Cond.constant RL 23 (-1000001 : Int32) ∈ WA := wa_m 292 (by decide +kernel) rfl
theorem ki_L_30 : Jvm.Cond.constant RL 30 (-1000002 : Int32) ∈ WA := wa_m 355 (by decide +kernel) rfl
theorem ki_L_37 : Jvm.Cond.constant RL 37 (-1000003 : Int32) ∈ WA := wa_m 547 (by decide +kernel) rfl
theorem ki_L_7 : Jvm.Cond.constant RL 7 (1033523655 : Int32) ∈ WA := wa_m 173 (by decide +kernel) rfl
theorem ki_L_8 : Jvm.Cond.constant RL 8 (1797581071 : Int32) ∈ WA := wa_m 174 (by decide +kernel) rfl
theorem ki_L_9 : Jvm.Cond.constant RL 9 (2147483647 : Int32) ∈ WA := wa_m 178 (by decide +kernel) rfl
theorem kl_X3_191 : Jvm.Cond.constantLong RX3 191 (-1 : Int64) ∈ WA := wa_m 354 (by decide +kernel) rfl
theorem kl_X3_240 : Jvm.Cond.constantLong RX3 240 (1000003 : Int64) ∈ WA := wa_m 290 (by decide +kernel) rfl
theorem kl_X3_242 : Jvm.Cond.constantLong RX3 242 (1009 : Int64) ∈ WA := wa_m 291 (by decide +kernel) rfl
theorem kl_L_10 : Jvm.Cond.constantLong RL 10 (31 : Int64) ∈ WA := wa_m 682 (by decide +kernel) rfl
theorem kl_L_108 : Jvm.Cond.constantLong RL 108 (37 : Int64) ∈ WA := wa_m 359 (by decide +kernel) rfl
theorem kl_L_12 : Jvm.Cond.constantLong RL 12 (-1 : Int64) ∈ WA := wa_m 683 (by decide +kernel) rfl
theorem kl_L_185 : Jvm.Cond.constantLong RL 185 (1000003 : Int64) ∈ WA := wa_m 579 (by decide +kernel) rfl
theorem kl_L_187 : Jvm.Cond.constantLong RL 187 (1009 : Int64) ∈ WA := wa_m 580 (by decide +kernel) rfl
theorem kl_L_97 : Jvm.Cond.constantLong RL 97 (-1000001 : Int64) ∈ WA := wa_m 326 (by decide +kernel) rfl
theorem kj_X0 : Jvm.Cond.initialized RX0 ∈ WA := wa_m 17 (by decide +kernel) rfl
theorem kj_X1 : Jvm.Cond.initialized RX1 ∈ WA := wa_m 18 (by decide +kernel) rfl
theorem kj_X2 : Jvm.Cond.initialized RX2 ∈ WA := wa_m 19 (by decide +kernel) rfl
theorem kj_X3 : Jvm.Cond.initialized RX3 ∈ WA := wa_m 16 (by decide +kernel) rfl
theorem kj_L : Jvm.Cond.initialized RL ∈ WA := wa_m 15 (by decide +kernel) rfl
theorem kn_X0 : Jvm.Cond.instantiable RX0 8 ∈ WA := wa_m 36 (by decide +kernel) rfl
theorem kn_X1 : Jvm.Cond.instantiable RX1 4 ∈ WA := wa_m 72 (by decide +kernel) rfl
theorem kn_X2 : Jvm.Cond.instantiable RX2 5 ∈ WA := wa_m 97 (by decide +kernel) rfl
theorem kn_X3 : Jvm.Cond.instantiable RX3 7 ∈ WA := wa_m 28 (by decide +kernel) rfl
theorem ko_X0 : Jvm.Cond.methodLink RX0 3 objectInit ∈ WA := wa_m 40 (by decide +kernel) rfl
theorem ko_X1 : Jvm.Cond.methodLink RX1 1 objectInit ∈ WA := wa_m 76 (by decide +kernel) rfl
theorem ko_X2 : Jvm.Cond.methodLink RX2 3 objectInit ∈ WA := wa_m 101 (by decide +kernel) rfl
theorem ko_X3 : Jvm.Cond.methodLink RX3 3 objectInit ∈ WA := wa_m 32 (by decide +kernel) rfl
theorem km_X0_init : Jvm.Cond.instanceMethod yX0_init ∈ WA := wa_m 38 (by decide +kernel) rfl
theorem km_X1_init : Jvm.Cond.instanceMethod yX1_init ∈ WA := wa_m 74 (by decide +kernel) rfl
theorem km_X2_init : Jvm.Cond.instanceMethod yX2_init ∈ WA := wa_m 99 (by decide +kernel) rfl
theorem ko_i : Jvm.Cond.instanceMethod objectInit ∈ WA := wa_m 33 (by decide +kernel) rfl
theorem ko_c : Jvm.Cond.code objectInit ⟨#[0xb1]⟩ 1 none ∈ WA := wa_m 34 (by decide +kernel) rfl
