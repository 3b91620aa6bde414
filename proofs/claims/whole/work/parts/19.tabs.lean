/-! Class tables by number (by program: wip/whole/gen4.py). -/
def fT : List (List (Nat × Int)) := [
  [(3, 1), (0, 0), (2, 0), (0, 0), (0, 0), (0, 0)],
  [(3, 1), (3, 2), (0, 0), (0, 0)],
  [(3, (-2)), (3, 1), (4, 0), (0, 0), (0, 0), (0, 0), (0, 0), (0, 0), (0, 0), (0, 0)],
  [(3, 1), (3, 8), (3, 11), (3, 12), (3, 13), (3, 14), (0, 0), (0, 0), (0, 0), (0, 0)],
  [(3, 1), (3, 2), (3, 3), (3, 4), (3, 5), (3, 6), (0, 0), (0, 0)],
  [(3, 1), (0, 0)],
  [(3, 1), (3, 2), (0, 0), (0, 0)],
  [(3, 5), (3, 4), (2, 0), (2, 0), (0, 0), (0, 0), (4, 0)],
  [(3, 1), (3, 3), (3, 7), (3, 22), (3, 53), (3, 54), (3, 176), (3, 183), (3, 190), (3, 197), (3, 198), (0, 0), (0, 0), (0, 0), (0, 0)],
  [(0, 0), (0, 0), (3, 1), (3, 2), (3, 3), (3, 4), (3, 5), (3, 6), (0, 0), (3, 7), (3, 8), (0, 0), (3, 9), (0, 0), (0, 0), (0, 0), (0, 0), (1, 0), (0, 0), (4, 0), (4, 0), (0, 0), (3, 10), (0, 0), (3, 11), (3, 12), (0, 0), (3, 13), (3, 14), (0, 0), (0, 0), (3, 15), (3, 16), (3, 17), (0, 0), (3, 18), (3, 19), (3, 20), (4, 0), (1, 0), (1, 0), (3, 21), (0, 0), (0, 0), (3, 22), (3, 23), (0, 0), (0, 0), (0, 0), (4, 0), (4, 0), (3, 24), (1, 0), (3, 25), (0, 0)]]
def tyC (ci : Nat) : Nat → FieldType := match ci with
  | 0 => tyX0
  | 1 => tyX1
  | 2 => tyX2
  | 3 => tyX3
  | 4 => tyX4
  | 5 => tyX5
  | 6 => tyX6
  | 7 => tyX7
  | 8 => tyX8
  | _ => tyX9
theorem goodIn_r {big : List Jvm.Cond} (ws : List Jvm.Cond) (ps : List Nat) (hp : ws = ps.filterMap (fun i => big[i]?)) : ∀ w ∈ ws, w ∈ big := by
  intro w hw
  rw [hp] at hw
  obtain ⟨i, -, hi⟩ := List.mem_filterMap.mp hw
  exact List.mem_of_getElem? hi
set_option maxRecDepth 100000 in
theorem inT0 : ∀ w ∈ u_ws RX0 TX0 6, w ∈ lw_tbl := goodIn_r _ [375, 377, 379, 381, 383, 385] (by decide +kernel)
set_option maxRecDepth 100000 in
theorem inT1 : ∀ w ∈ u_ws RX1 TX1 4, w ∈ lw_tbl := goodIn_r _ [338, 340, 342, 344] (by decide +kernel)
set_option maxRecDepth 100000 in
theorem inT2 : ∀ w ∈ u_ws RX2 TX2 10, w ∈ lw_tbl := goodIn_r _ [203, 205, 207, 209, 211, 213, 215, 217, 219, 221] (by decide +kernel)
set_option maxRecDepth 100000 in
theorem inT3 : ∀ w ∈ u_ws RX3 TX3 10, w ∈ lw_tbl := goodIn_r _ [302, 304, 306, 308, 310, 312, 314, 316, 318, 320] (by decide +kernel)
set_option maxRecDepth 100000 in
theorem inT4 : ∀ w ∈ u_ws RX4 TX4 8, w ∈ lw_tbl := goodIn_r _ [262, 264, 266, 268, 270, 272, 274, 276] (by decide +kernel)
set_option maxRecDepth 100000 in
theorem inT5 : ∀ w ∈ u_ws RX5 TX5 2, w ∈ lw_tbl := goodIn_r _ [154, 156] (by decide +kernel)
set_option maxRecDepth 100000 in
theorem inT6 : ∀ w ∈ u_ws RX6 TX6 4, w ∈ lw_tbl := goodIn_r _ [183, 185, 187, 189] (by decide +kernel)
set_option maxRecDepth 100000 in
theorem inT7 : ∀ w ∈ u_ws RX7 TX7 7, w ∈ lw_tbl := goodIn_r _ [399, 401, 403, 405, 407, 409, 411] (by decide +kernel)
set_option maxRecDepth 100000 in
theorem inT8 : ∀ w ∈ u_ws RX8 TX8 15, w ∈ lw_tbl := goodIn_r _ [429, 431, 433, 435, 437, 439, 441, 443, 445, 447, 449, 451, 453, 455, 457] (by decide +kernel)
set_option maxRecDepth 100000 in
theorem inT9 : ∀ w ∈ u_ws RX9 TX9 55, w ∈ lw_tbl := goodIn_r _ [1163, 1165, 1167, 1169, 1171, 1173, 1175, 1177, 1179, 1181, 1183, 1185, 1187, 1189, 1191, 1193, 1195, 1197, 1199, 1201, 1203, 1205, 1207, 1209, 1211, 1213, 1215, 1217, 1219, 1221, 1223, 1225, 1227, 1229, 1231, 1233, 1235, 1237, 1239, 1241, 1243, 1245, 1247, 1249, 1251, 1253, 1255, 1257, 1259, 1261, 1263, 1265, 1267, 1269, 1271] (by decide +kernel)
theorem tyC_ok : ∀ (ci : Nat) (q : vw_C), vwCl[ci]? = some q → ∀ k, k < q.2.2 → parseFieldDescriptor (q.2.1 k).2.2.1 = some (tyC ci k) := by
  intro ci q h
  match ci, h with
  | 0, h => cases h; exact tyX0_ok
  | 1, h => cases h; exact tyX1_ok
  | 2, h => cases h; exact tyX2_ok
  | 3, h => cases h; exact tyX3_ok
  | 4, h => cases h; exact tyX4_ok
  | 5, h => cases h; exact tyX5_ok
  | 6, h => cases h; exact tyX6_ok
  | 7, h => cases h; exact tyX7_ok
  | 8, h => cases h; exact tyX8_ok
  | 9, h => cases h; exact tyX9_ok
  | n + 10, h => simp [vwCl] at h
theorem nmC : ∀ (ci : Nat) (q : vw_C), vwCl[ci]? = some q → ∀ a, a < q.2.2 → ∀ b, b < q.2.2 → a ≠ b → (q.2.1 a).2.1 ≠ (q.2.1 b).2.1 := by
  intro ci q h
  match ci, h with
  | 0, h => cases h; exact nmX0
  | 1, h => cases h; exact nmX1
  | 2, h => cases h; exact nmX2
  | 3, h => cases h; exact nmX3
  | 4, h => cases h; exact nmX4
  | 5, h => cases h; exact nmX5
  | 6, h => cases h; exact nmX6
  | 7, h => cases h; exact nmX7
  | 8, h => cases h; exact nmX8
  | 9, h => cases h; exact nmX9
  | n + 10, h => simp [vwCl] at h
theorem inC : ∀ (ci : Nat) (q : vw_C), vwCl[ci]? = some q → ∀ w ∈ u_ws q.1 q.2.1 q.2.2, w ∈ lw_tbl := by
  intro ci q h
  match ci, h with
  | 0, h => cases h; exact inT0
  | 1, h => cases h; exact inT1
  | 2, h => cases h; exact inT2
  | 3, h => cases h; exact inT3
  | 4, h => cases h; exact inT4
  | 5, h => cases h; exact inT5
  | 6, h => cases h; exact inT6
  | 7, h => cases h; exact inT7
  | 8, h => cases h; exact inT8
  | 9, h => cases h; exact inT9
  | n + 10, h => simp [vwCl] at h
/-- the tag of a field by its type -/
def tagOf (f : FieldType) (fin : Bool) : Nat := match f with
  | .int => 0
  | .long => 1
  | .boolean => 4
  | .object _ => if fin then 3 else 2
  | .array _ => if fin then 3 else 2
  | _ => 9
def fTab (c : Int) : List (Nat × Int) := fT.getD c.toNat []
theorem fT_ok : ∀ (ci : Nat) (q : vw_C), vwCl[ci]? = some q → (fT.getD ci []).length = q.2.2 ∧ ∀ k, k < q.2.2 → ((fT.getD ci []).getD k (9, 0)).1 = tagOf (tyC ci k) (q.2.1 k).2.2.2 ∧ tagOf (tyC ci k) (q.2.1 k).2.2.2 ≠ 9 ∧ (q.2.1 k).1 = q.1 := by
  intro ci q h
  match ci, h with
  | 0, h => cases h; exact ⟨by decide, by decide⟩
  | 1, h => cases h; exact ⟨by decide, by decide⟩
  | 2, h => cases h; exact ⟨by decide, by decide⟩
  | 3, h => cases h; exact ⟨by decide, by decide⟩
  | 4, h => cases h; exact ⟨by decide, by decide⟩
  | 5, h => cases h; exact ⟨by decide, by decide⟩
  | 6, h => cases h; exact ⟨by decide, by decide⟩
  | 7, h => cases h; exact ⟨by decide, by decide⟩
  | 8, h => cases h; exact ⟨by decide, by decide⟩
  | 9, h => cases h; exact ⟨by decide, by decide⟩
  | n + 10, h => simp [vwCl] at h
theorem finC : ∀ (ci : Nat) (q : vw_C), vwCl[ci]? = some q → ∀ k, k < q.2.2 → (q.2.1 k).2.2.2 = decide (((fT.getD ci []).getD k (9, 0)).1 = 3) := by
  intro ci q h
  match ci, h with
  | 0, h => cases h; exact by decide
  | 1, h => cases h; exact by decide
  | 2, h => cases h; exact by decide
  | 3, h => cases h; exact by decide
  | 4, h => cases h; exact by decide
  | 5, h => cases h; exact by decide
  | 6, h => cases h; exact by decide
  | 7, h => cases h; exact by decide
  | 8, h => cases h; exact by decide
  | 9, h => cases h; exact by decide
  | n + 10, h => simp [vwCl] at h
/-- all the words are of the kind that a call may hand on -/
theorem lw_good : (lw_tbl.all (fun w => goodWord w || !goodWord w)) = true := by simp
/-- the methods' names, codes, kinds of answer -/
def NM : List (MethodName × ByteArray × Option FieldType) := [
  (yX0_init, cX0_init, none),
  (yX0_startText, cX0_startText, none),
  (yX0_ask, cX0_ask, some .int),
  (yX0_joins, cX0_joins, some .boolean),
  (yX0_valueOfCellar, cX0_valueOfCellar, some .int),
  (yX0_valueOfCask, cX0_valueOfCask, some .int),
  (yX0_put, cX0_put, none),
  (yX0_lift, cX0_lift, some .int),
  (yX1_init, cX1_init, none),
  (yX1_clear, cX1_clear, none),
  (yX1_note, cX1_note, none),
  (yX1_keep, cX1_keep, none),
  (yX1_takeBack, cX1_takeBack, some .int),
  (yX2_init, cX2_init, none),
  (yX2_read, cX2_read, some .int),
  (yX2_clause, cX2_clause, some .boolean),
  (yX2_lawVerb, cX2_lawVerb, some .int),
  (yX2_orderVerb, cX2_orderVerb, some .int),
  (yX2_sumsBehind, cX2_sumsBehind, some .int),
  (yX2_repeated, cX2_repeated, some .boolean),
  (yX2_test, cX2_test, some .boolean),
  (yX2_both, cX2_both, some .boolean),
  (yX2_plain, cX2_plain, some .boolean),
  (yX2_compared, cX2_compared, some .boolean),
  (yX2_sum, cX2_sum, some .boolean),
  (yX2_term, cX2_term, some .boolean),
  (yX2_part, cX2_part, some .boolean),
  (yX2_wordWritten, cX2_wordWritten, some .boolean),
  (yX2_lawWord, cX2_lawWord, some .int),
  (yX2_orderWord, cX2_orderWord, some .int),
  (yX2_enters, cX2_enters, some .boolean),
  (yX2_leaves, cX2_leaves, some .boolean),
  (yX2_wrong, cX2_wrong, some .boolean),
  (yX2_is, cX2_is, some .boolean),
  (yX2_next, cX2_next, none),
  (yX3_init, cX3_init, none),
  (yX3_hasLaw, cX3_hasLaw, some .boolean),
  (yX3_hasPlan, cX3_hasPlan, some .boolean),
  (yX3_lawOf, cX3_lawOf, some (.object "SoleraCellar$Text")),
  (yX3_lawInForce, cX3_lawInForce, some (.object "SoleraCellar$Text")),
  (yX3_copyFrom, cX3_copyFrom, none),
  (yX4_init, cX4_init, none),
  (yX4_has, cX4_has, some .boolean),
  (yX4_isLastYear, cX4_isLastYear, some .boolean),
  (yX4_add, cX4_add, some .int),
  (yX4_addNew, cX4_addNew, none),
  (yX4_measures, cX4_measures, some .int),
  (yX4_roomFor, cX4_roomFor, some .int),
  (yX4_mean, cX4_mean, some .int),
  (yX4_asOldAs, cX4_asOldAs, some .long),
  (yX4_label, cX4_label, some .int),
  (yX4_takeOut, cX4_takeOut, none),
  (yX4_putIn, cX4_putIn, none),
  (yX4_lossOf, cX4_lossOf, some .int),
  (yX4_growOlder, cX4_growOlder, some .int),
  (yX4_copyFrom, cX4_copyFrom, none),
  (yX5_init, cX5_init, none),
  (yX5_add, cX5_add, none),
  (yX6_init, cX6_init, none),
  (yX6_trimmed, cX6_trimmed, some (.object "SoleraCellar$Text")),
  (yX6_clear, cX6_clear, none),
  (yX6_open, cX6_open, none),
  (yX6_repeat, cX6_repeat, none),
  (yX6_endSection, cX6_endSection, none),
  (yX6_write, cX6_write, none),
  (yX6_aimHere, cX6_aimHere, none),
  (yX6_kindOf, cX6_kindOf, some .int),
  (yX6_timesOf, cX6_timesOf, some .int),
  (yX6_startOf, cX6_startOf, some .int),
  (yX7_init, cX7_init, none),
  (yX7_begin, cX7_begin, none),
  (yX7_tells, cX7_tells, some .int),
  (yX7_pourInto, cX7_pourInto, some .int),
  (yX7_rackOver, cX7_rackOver, some .int),
  (yX7_bottleFrom, cX7_bottleFrom, some .int),
  (yX7_passYear, cX7_passYear, some .int),
  (yX7_step, cX7_step, some .int),
  (yX7_runOrders, cX7_runOrders, some .int),
  (yX7_planYears, cX7_planYears, none),
  (yX7_harvestYear, cX7_harvestYear, some .int),
  (yX7_drawAfter, cX7_drawAfter, some .int),
  (yX8_init, cX8_init, none),
  (yX8_cask, cX8_cask, some .int),
  (yX8_of, cX8_of, some .int),
  (yX8_old, cX8_old, some .long),
  (yX8_terms, cX8_terms, some .int),
  (yX8_feed, cX8_feed, some .int),
  (yX8_end, cX8_end, some .int),
  (yX8_row, cX8_row, some .int),
  (yX8_leaks, cX8_leaks, some .int),
  (yX8_law, cX8_law, some .int),
  (yX8_plan, cX8_plan, some .int),
  (yX8_orders, cX8_orders, some .int),
  (yX8_fault, cX8_fault, some .int),
  (yX8_stopped, cX8_stopped, some .int),
  (yX8_force, cX8_force, some .int),
  (yX8_pour, cX8_pour, some .int),
  (yX8_rack, cX8_rack, some .int),
  (yX8_bottle, cX8_bottle, some .int),
  (yX8_pass, cX8_pass, some .int),
  (yX8_undo, cX8_undo, some .int),
  (yX8_byPlan, cX8_byPlan, some .int),
  (yX8_oldEnough, cX8_oldEnough, some .int),
  (yX8_settled, cX8_settled, some .int),
  (yX8_starves, cX8_starves, some .int),
  (yX8_yields, cX8_yields, some .int),
  (yX8_best, cX8_best, some .int),
  (yX8_tasted, cX8_tasted, some .int),
  (yX8_forget, cX8_forget, some .int),
  (yX8_canBe, cX8_canBe, some .int),
  (yX8_taste, cX8_taste, some .int),
  (yX8_few, cX8_few, some .long),
  (yX8_compare, cX8_compare, some .int),
  (yX8_harvests, cX8_harvests, some .int),
  (yX8_drawn, cX8_drawn, some .int),
  (yX8_image, cX8_image, some .int),
  (yX8_back, cX8_back, some .int),
  (yX8_count, cX8_count, some .int),
  (yX8_status, cX8_status, some .int),
  (yX8_isWithin, cX8_isWithin, some .boolean),
  (yX8_leastTerm, cX8_leastTerm, some .int),
  (yX8_mostTerm, cX8_mostTerm, some .int),
  (yX8_accept, cX8_accept, some .int),
  (yX8_refuse, cX8_refuse, some .int),
  (yX8_cameFromTape, cX8_cameFromTape, some .boolean),
  (yX8_startPaper, cX8_startPaper, none),
  (yX8_startWork, cX8_startWork, none),
  (yX8_finishWork, cX8_finishWork, some .int),
  (yX8_fitsAllTasted, cX8_fitsAllTasted, some .boolean),
  (yX8_factOf, cX8_factOf, some .int),
  (yX8_mostAlike, cX8_mostAlike, some .int),
  (yX9_init, cX9_init, none),
  (yX9_in, cX9_in, some .boolean),
  (yX9_is, cX9_is, some .boolean),
  (yX9_bounded, cX9_bounded, some .int),
  (yX9_tell, cX9_tell, some .int),
  (yX9_change, cX9_change, some .int),
  (yX9_lasting, cX9_lasting, some .int),
  (yX9_keepAll, cX9_keepAll, none),
  (yX9_putBack, cX9_putBack, none),
  (yX9_remember, cX9_remember, none),
  (yX9_undo, cX9_undo, some .int),
  (yX9_image, cX9_image, some .int),
  (yX9_back, cX9_back, some .int),
  (yX9_isCask, cX9_isCask, some .boolean),
  (yX9_dropsOf, cX9_dropsOf, some .int),
  (yX9_allOf, cX9_allOf, some .int),
  (yX9_meanOf, cX9_meanOf, some .int),
  (yX9_wholeMean, cX9_wholeMean, some .int),
  (yX9_olderThan, cX9_olderThan, some .int),
  (yX9_labelOf, cX9_labelOf, some .int),
  (yX9_roomOf, cX9_roomOf, some .int),
  (yX9_comes, cX9_comes, some .int),
  (yX9_cask, cX9_cask, some .int),
  (yX9_of, cX9_of, some .int),
  (yX9_old, cX9_old, some .long),
  (yX9_terms, cX9_terms, some .int),
  (yX9_row, cX9_row, some .int),
  (yX9_leaks, cX9_leaks, some .int),
  (yX9_four, cX9_four, none),
  (yX9_feed, cX9_feed, some .int),
  (yX9_end, cX9_end, some .int),
  (yX9_isSmall, cX9_isSmall, some .boolean),
  (yX9_isDigit, cX9_isDigit, some .boolean),
  (yX9_begin, cX9_begin, none),
  (yX9_next, cX9_next, none),
  (yX9_isWord, cX9_isWord, some .boolean),
  (yX9_isSign, cX9_isSign, some .boolean),
  (yX9_must, cX9_must, none),
  (yX9_number, cX9_number, some .int),
  (yX9_fault, cX9_fault, some .int),
  (yX9_emit, cX9_emit, none),
  (yX9_push, cX9_push, none),
  (yX9_binds, cX9_binds, some .int),
  (yX9_settle, cX9_settle, none),
  (yX9_inner, cX9_inner, some .int),
  (yX9_isCompared, cX9_isCompared, some .boolean),
  (yX9_partAt, cX9_partAt, some .int),
  (yX9_orderPartAt, cX9_orderPartAt, some .int),
  (yX9_openBracket, cX9_openBracket, none),
  (yX9_leaf, cX9_leaf, none),
  (yX9_readPart, cX9_readPart, some .int),
  (yX9_readPlain, cX9_readPlain, some .int),
  (yX9_behindSum, cX9_behindSum, some .int),
  (yX9_behindTest, cX9_behindTest, some .int),
  (yX9_readExpression, cX9_readExpression, none),
  (yX9_beginText, cX9_beginText, none),
  (yX9_endText, cX9_endText, none),
  (yX9_readLaw, cX9_readLaw, none),
  (yX9_law, cX9_law, some .int),
  (yX9_isLaw, cX9_isLaw, some .boolean),
  (yX9_force, cX9_force, some .int),
  (yX9_factOf, cX9_factOf, some .long),
  (yX9_reckon, cX9_reckon, some .long),
  (yX9_reckonAll, cX9_reckonAll, none),
  (yX9_isSo, cX9_isSo, some .boolean),
  (yX9_tells, cX9_tells, some .long),
  (yX9_losesOf, cX9_losesOf, some .int),
  (yX9_yieldsOf, cX9_yieldsOf, some .int),
  (yX9_isBarred, cX9_isBarred, some .boolean),
  (yX9_takeOut, cX9_takeOut, some .int),
  (yX9_whyNotPour, cX9_whyNotPour, some .int),
  (yX9_pourIt, cX9_pourIt, some .int),
  (yX9_pourNow, cX9_pourNow, some .int),
  (yX9_pour, cX9_pour, some .int),
  (yX9_whyNotRack, cX9_whyNotRack, some .int),
  (yX9_rackIt, cX9_rackIt, some .int),
  (yX9_rackNow, cX9_rackNow, some .int),
  (yX9_rack, cX9_rack, some .int),
  (yX9_whyNotBottle, cX9_whyNotBottle, some .int),
  (yX9_bottleIt, cX9_bottleIt, some .int),
  (yX9_bottleNow, cX9_bottleNow, some .int),
  (yX9_bottle, cX9_bottle, some .int),
  (yX9_lossOf, cX9_lossOf, some .int),
  (yX9_passIt, cX9_passIt, some .int),
  (yX9_passNow, cX9_passNow, some .int),
  (yX9_pass, cX9_pass, some .int),
  (yX9_readSum, cX9_readSum, none),
  (yX9_readBehind, cX9_readBehind, none),
  (yX9_readOrder, cX9_readOrder, none),
  (yX9_readOrders, cX9_readOrders, none),
  (yX9_plan, cX9_plan, some .int),
  (yX9_loadPlan, cX9_loadPlan, none),
  (yX9_isPlan, cX9_isPlan, some .boolean),
  (yX9_sumOf, cX9_sumOf, some .int),
  (yX9_setNow, cX9_setNow, none),
  (yX9_isAsked, cX9_isAsked, some .boolean),
  (yX9_act, cX9_act, some .int),
  (yX9_runOnce, cX9_runOnce, some .int),
  (yX9_orders, cX9_orders, some .int),
  (yX9_keepUndos, cX9_keepUndos, none),
  (yX9_giveBack, cX9_giveBack, none),
  (yX9_stopped, cX9_stopped, some .int),
  (yX9_planOnce, cX9_planOnce, some .int),
  (yX9_planYear, cX9_planYear, none),
  (yX9_beginPlan, cX9_beginPlan, none),
  (yX9_byPlan, cX9_byPlan, some .int),
  (yX9_oldEnough, cX9_oldEnough, some .int),
  (yX9_settled, cX9_settled, some .int),
  (yX9_starves, cX9_starves, some .int),
  (yX9_yieldOf, cX9_yieldOf, some .int),
  (yX9_yields, cX9_yields, some .int),
  (yX9_best, cX9_best, some .int),
  (yX9_tasted, cX9_tasted, some .int),
  (yX9_forget, cX9_forget, some .int),
  (yX9_tasteOf, cX9_tasteOf, some .int),
  (yX9_thatCanBe, cX9_thatCanBe, some .int),
  (yX9_canBe, cX9_canBe, some .int),
  (yX9_mostAlike, cX9_mostAlike, some .int),
  (yX9_taste, cX9_taste, some .int),
  (yX9_few, cX9_few, some .long),
  (yX9_compare, cX9_compare, some .int),
  (yX9_draw, cX9_draw, some .int),
  (yX9_drawnAct, cX9_drawnAct, none),
  (yX9_harvests, cX9_harvests, some .int),
  (yX9_drawn, cX9_drawn, some .int),
  (yX9_count, cX9_count, some .int),
  (yX9_status, cX9_status, some .int),
  (yL_law, cL_law, some .boolean)]
