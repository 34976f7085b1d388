theorem goodIn_mk {big ws : List Cond} (hm : ∀ w ∈ ws, w ∈ big) (hg : ws.all goodWord = true) : GoodIn big ws := fun w h => ⟨hm w h, good_of_word (List.all_eq_true.mp hg w h)⟩
def chkPl (big : List Cond) : List Cond → List Nat → Bool
  | [], [] => true
  | w :: ws, p :: ps => decide (big[p]? = some w) && chkPl big ws ps
  | _, _ => false
theorem chkPl_mem {big : List Cond} : ∀ {ws : List Cond} {ps : List Nat}, chkPl big ws ps = true → ∀ w ∈ ws, w ∈ big
  | [], _, _ => fun _ h => absurd h List.not_mem_nil
  | w :: ws, p :: ps, h => by
    have h : (decide (big[p]? = some w) && chkPl big ws ps) = true := h
    obtain ⟨h1, h2⟩ := (Bool.and_eq_true _ _).mp h
    exact List.forall_mem_cons.mpr ⟨List.mem_of_getElem? (of_decide_eq_true h1), chkPl_mem h2⟩
  | _ :: _, [], h => absurd h Bool.false_ne_true
theorem fc {P : Cond → Prop} {w : Cond} {ws : List Cond} (h1 : P w) (h2 : ∀ x ∈ ws, P x) : ∀ x ∈ w :: ws, P x := List.forall_mem_cons.mpr ⟨h1, h2⟩
theorem fn {P : Cond → Prop} : ∀ x ∈ ([] : List Cond), P x := fun _ h => absurd h List.not_mem_nil
theorem fa {P : Cond → Prop} {a b : List Cond} (h1 : ∀ x ∈ a, P x) (h2 : ∀ x ∈ b, P x) : ∀ x ∈ a ++ b, P x := List.forall_mem_append.mpr ⟨h1, h2⟩
set_option maxRecDepth 20000 in
theorem ga_X5_init : wsX5_init.all goodWord = true := by decide +kernel
set_option maxRecDepth 20000 in
theorem ga_X0_init : wsX0_init.all goodWord = true := by decide +kernel
set_option maxRecDepth 20000 in
theorem ga_X1_clear : wsX1_clear.all goodWord = true := by decide +kernel
set_option maxRecDepth 20000 in
theorem ga_X0_clear : wsX0_clear.all goodWord = true := by decide +kernel
set_option maxRecDepth 20000 in
theorem ga_X1_cellAt : wsX1_cellAt.all goodWord = true := by decide +kernel
set_option maxRecDepth 20000 in
theorem ga_X9_greatestDivisor : wsX9_greatestDivisor.all goodWord = true := by decide +kernel
set_option maxRecDepth 20000 in
theorem ga_X2_skipBlanks : wsX2_skipBlanks.all goodWord = true := by decide +kernel
set_option maxRecDepth 20000 in
theorem ga_X2_readClause : wsX2_readClause.all goodWord = true := by decide +kernel
set_option maxRecDepth 20000 in
theorem ga_X2_refuseIf : wsX2_refuseIf.all goodWord = true := by decide +kernel
set_option maxRecDepth 20000 in
theorem ga_X2_readGround : wsX2_readGround.all goodWord = true := by decide +kernel
set_option maxRecDepth 20000 in
theorem ga_X2_readCell : wsX2_readCell.all goodWord = true := by decide +kernel
set_option maxRecDepth 20000 in
theorem ga_X2_readMoon : wsX2_readMoon.all goodWord = true := by decide +kernel
set_option maxRecDepth 20000 in
theorem ga_X2_readHouse : wsX2_readHouse.all goodWord = true := by decide +kernel
set_option maxRecDepth 20000 in
theorem ga_X2_readCrack : wsX2_readCrack.all goodWord = true := by decide +kernel
set_option maxRecDepth 20000 in
theorem ga_X2_readWell : wsX2_readWell.all goodWord = true := by decide +kernel
set_option maxRecDepth 20000 in
theorem ga_X2_readDeed : wsX2_readDeed.all goodWord = true := by decide +kernel
set_option maxRecDepth 20000 in
theorem ga_X2_readNumber : wsX2_readNumber.all goodWord = true := by decide +kernel
set_option maxRecDepth 20000 in
theorem ga_X2_readSign : wsX2_readSign.all goodWord = true := by decide +kernel
set_option maxRecDepth 20000 in
theorem ga_X2_readPlace : wsX2_readPlace.all goodWord = true := by decide +kernel
set_option maxRecDepth 20000 in
theorem ga_X2_readRow : wsX2_readRow.all goodWord = true := by decide +kernel
set_option maxRecDepth 20000 in
theorem ga_X0_settle : wsX0_settle.all goodWord = true := by decide +kernel
set_option maxRecDepth 20000 in
theorem ga_X5_stands : wsX5_stands.all goodWord = true := by decide +kernel
set_option maxRecDepth 20000 in
theorem ga_X2_addTo : wsX2_addTo.all goodWord = true := by decide +kernel
set_option maxRecDepth 20000 in
theorem ga_X1_beside : wsX1_beside.all goodWord = true := by decide +kernel
set_option maxRecDepth 20000 in
theorem ga_X5_find : wsX5_find.all goodWord = true := by decide +kernel
set_option maxRecDepth 20000 in
theorem ga_X5_add : wsX5_add.all goodWord = true := by decide +kernel
set_option maxRecDepth 20000 in
theorem ga_X2_isFigure : wsX2_isFigure.all goodWord = true := by decide +kernel
set_option maxRecDepth 20000 in
theorem ga_X9_isOff : wsX9_isOff.all goodWord = true := by decide +kernel
set_option maxRecDepth 20000 in
theorem ga_X3_reachedNext : wsX3_reachedNext.all goodWord = true := by decide +kernel
set_option maxRecDepth 20000 in
theorem ga_X8_pushTo : wsX8_pushTo.all goodWord = true := by decide +kernel
set_option maxRecDepth 20000 in
theorem ga_X3_choose : wsX3_choose.all goodWord = true := by decide +kernel
set_option maxRecDepth 20000 in
theorem ga_X4_addIfFit : wsX4_addIfFit.all goodWord = true := by decide +kernel
set_option maxRecDepth 20000 in
theorem ga_X8_stiffOf : wsX8_stiffOf.all goodWord = true := by decide +kernel
set_option maxRecDepth 20000 in
theorem ga_X4_pullBy : wsX4_pullBy.all goodWord = true := by decide +kernel
set_option maxRecDepth 20000 in
theorem ga_X4_shiftOf : wsX4_shiftOf.all goodWord = true := by decide +kernel
set_option maxRecDepth 20000 in
theorem ga_X0_partAt : wsX0_partAt.all goodWord = true := by decide +kernel
set_option maxRecDepth 20000 in
theorem ga_X4_findFits : wsX4_findFits.all goodWord = true := by decide +kernel
set_option maxRecDepth 20000 in
theorem ga_X4_mostAlike : wsX4_mostAlike.all goodWord = true := by decide +kernel
set_option maxRecDepth 20000 in
theorem ga_X0_placeAt : wsX0_placeAt.all goodWord = true := by decide +kernel
set_option maxRecDepth 20000 in
theorem ga_X8_heightAt : wsX8_heightAt.all goodWord = true := by decide +kernel
set_option maxRecDepth 20000 in
theorem ga_X7_insert : wsX7_insert.all goodWord = true := by decide +kernel
set_option maxRecDepth 20000 in
theorem ga_X7_reduce : wsX7_reduce.all goodWord = true := by decide +kernel
set_option maxRecDepth 20000 in
theorem ga_X8_pullAt : wsX8_pullAt.all goodWord = true := by decide +kernel
set_option maxRecDepth 20000 in
theorem ga_X8_leanAt : wsX8_leanAt.all goodWord = true := by decide +kernel
set_option maxRecDepth 20000 in
theorem ga_X8_isBroken : wsX8_isBroken.all goodWord = true := by decide +kernel
set_option maxRecDepth 20000 in
theorem ga_X1_period : wsX1_period.all goodWord = true := by decide +kernel
set_option maxRecDepth 20000 in
theorem ga_X8_isLike : wsX8_isLike.all goodWord = true := by decide +kernel
set_option maxRecDepth 20000 in
theorem ga_X8_crackBetween : wsX8_crackBetween.all goodWord = true := by decide +kernel
set_option maxRecDepth 20000 in
theorem ga_X8_isOpen : wsX8_isOpen.all goodWord = true := by decide +kernel
set_option maxRecDepth 20000 in
theorem ga_X8_draw : wsX8_draw.all goodWord = true := by decide +kernel
set_option maxRecDepth 20000 in
theorem ga_X8_takeStep : wsX8_takeStep.all goodWord = true := by decide +kernel
set_option maxRecDepth 20000 in
theorem ga_X9_leftOver : wsX9_leftOver.all goodWord = true := by decide +kernel
set_option maxRecDepth 20000 in
theorem ga_X2_init : wsX2_init.all goodWord = true := by decide +kernel
set_option maxRecDepth 20000 in
theorem ga_X1_init : wsX1_init.all goodWord = true := by decide +kernel
set_option maxRecDepth 20000 in
theorem ga_X6_init : wsX6_init.all goodWord = true := by decide +kernel
set_option maxRecDepth 20000 in
theorem ga_X8_init : wsX8_init.all goodWord = true := by decide +kernel
set_option maxRecDepth 20000 in
theorem ga_X3_init : wsX3_init.all goodWord = true := by decide +kernel
set_option maxRecDepth 20000 in
theorem ga_X7_init : wsX7_init.all goodWord = true := by decide +kernel
set_option maxRecDepth 20000 in
theorem ga_X4_init : wsX4_init.all goodWord = true := by decide +kernel
set_option maxRecDepth 20000 in
theorem ga_X2_readText : wsX2_readText.all goodWord = true := by decide +kernel
set_option maxRecDepth 20000 in
theorem ga_X9_startAnew : wsX9_startAnew.all goodWord = true := by decide +kernel
set_option maxRecDepth 20000 in
theorem ga_X6_restart : wsX6_restart.all goodWord = true := by decide +kernel
set_option maxRecDepth 20000 in
theorem ga_X1_pairOf : wsX1_pairOf.all goodWord = true := by decide +kernel
set_option maxRecDepth 20000 in
theorem ga_X9_isNoMoon : wsX9_isNoMoon.all goodWord = true := by decide +kernel
set_option maxRecDepth 20000 in
theorem ga_X5_has : wsX5_has.all goodWord = true := by decide +kernel
set_option maxRecDepth 20000 in
theorem ga_X8_needOf : wsX8_needOf.all goodWord = true := by decide +kernel
set_option maxRecDepth 20000 in
theorem ga_X9_isNoWay : wsX9_isNoWay.all goodWord = true := by decide +kernel
set_option maxRecDepth 20000 in
theorem ga_X8_stepByDraws : wsX8_stepByDraws.all goodWord = true := by decide +kernel
set_option maxRecDepth 20000 in
theorem ga_X9_isNoStep : wsX9_isNoStep.all goodWord = true := by decide +kernel
set_option maxRecDepth 20000 in
theorem ga_X8_spreadOf : wsX8_spreadOf.all goodWord = true := by decide +kernel
set_option maxRecDepth 20000 in
theorem ga_X8_isAslant : wsX8_isAslant.all goodWord = true := by decide +kernel
set_option maxRecDepth 20000 in
theorem ga_X8_isTurn : wsX8_isTurn.all goodWord = true := by decide +kernel
set_option maxRecDepth 20000 in
theorem ga_X8_leastBroken : wsX8_leastBroken.all goodWord = true := by decide +kernel
set_option maxRecDepth 20000 in
theorem ga_X1_cellOfPair : wsX1_cellOfPair.all goodWord = true := by decide +kernel
set_option maxRecDepth 20000 in
theorem ga_X3_fewestSteps : wsX3_fewestSteps.all goodWord = true := by decide +kernel
set_option maxRecDepth 20000 in
theorem ga_X3_leastPushed : wsX3_leastPushed.all goodWord = true := by decide +kernel
set_option maxRecDepth 20000 in
theorem ga_X3_wayTaken : wsX3_wayTaken.all goodWord = true := by decide +kernel
set_option maxRecDepth 20000 in
theorem ga_X7_settle : wsX7_settle.all goodWord = true := by decide +kernel
set_option maxRecDepth 20000 in
theorem ga_X7_wetWells : wsX7_wetWells.all goodWord = true := by decide +kernel
set_option maxRecDepth 20000 in
theorem ga_X8_cellsWithin : wsX8_cellsWithin.all goodWord = true := by decide +kernel
set_option maxRecDepth 20000 in
theorem ga_X4_add : wsX4_add.all goodWord = true := by decide +kernel
set_option maxRecDepth 20000 in
theorem ga_X4_shiftIn : wsX4_shiftIn.all goodWord = true := by decide +kernel
set_option maxRecDepth 20000 in
theorem ga_X4_findBestLook : wsX4_findBestLook.all goodWord = true := by decide +kernel
set_option maxRecDepth 20000 in
theorem ga_X6_copyFrom : wsX6_copyFrom.all goodWord = true := by decide +kernel
set_option maxRecDepth 20000 in
theorem ga_X10_in : wsX10_in.all goodWord = true := by decide +kernel
set_option maxRecDepth 20000 in
theorem ga_X10_isCell : wsX10_isCell.all goodWord = true := by decide +kernel
set_option maxRecDepth 20000 in
theorem ga_X10_here : wsX10_here.all goodWord = true := by decide +kernel
set_option maxRecDepth 20000 in
theorem ga_X10_fails : wsX10_fails.all goodWord = true := by decide +kernel
set_option maxRecDepth 20000 in
theorem ga_X10_takeNumber : wsX10_takeNumber.all goodWord = true := by decide +kernel
set_option maxRecDepth 20000 in
theorem ga_X10_takeCell : wsX10_takeCell.all goodWord = true := by decide +kernel
set_option maxRecDepth 20000 in
theorem ga_X10_isAmong : wsX10_isAmong.all goodWord = true := by decide +kernel
set_option maxRecDepth 20000 in
theorem ga_X10_takeNewCell : wsX10_takeNewCell.all goodWord = true := by decide +kernel
set_option maxRecDepth 20000 in
theorem ga_X10_into : wsX10_into.all goodWord = true := by decide +kernel
set_option maxRecDepth 20000 in
theorem ga_X10_takeGround : wsX10_takeGround.all goodWord = true := by decide +kernel
set_option maxRecDepth 20000 in
theorem ga_X10_takeOne : wsX10_takeOne.all goodWord = true := by decide +kernel
set_option maxRecDepth 20000 in
theorem ga_X10_takeMoon : wsX10_takeMoon.all goodWord = true := by decide +kernel
set_option maxRecDepth 20000 in
theorem ga_X10_takeHouse : wsX10_takeHouse.all goodWord = true := by decide +kernel
set_option maxRecDepth 20000 in
theorem ga_X10_takeCrack : wsX10_takeCrack.all goodWord = true := by decide +kernel
set_option maxRecDepth 20000 in
theorem ga_X10_takeWell : wsX10_takeWell.all goodWord = true := by decide +kernel
set_option maxRecDepth 20000 in
theorem ga_X10_takeDeed : wsX10_takeDeed.all goodWord = true := by decide +kernel
set_option maxRecDepth 20000 in
theorem ga_X10_divisor : wsX10_divisor.all goodWord = true := by decide +kernel
set_option maxRecDepth 20000 in
theorem ga_X10_takeClause : wsX10_takeClause.all goodWord = true := by decide +kernel
set_option maxRecDepth 20000 in
theorem ga_X10_takeRead : wsX10_takeRead.all goodWord = true := by decide +kernel
set_option maxRecDepth 20000 in
theorem ga_X10_cells : wsX10_cells.all goodWord = true := by decide +kernel
set_option maxRecDepth 20000 in
theorem ga_X10_partOf : wsX10_partOf.all goodWord = true := by decide +kernel
set_option maxRecDepth 20000 in
theorem ga_X10_stiffOf : wsX10_stiffOf.all goodWord = true := by decide +kernel
set_option maxRecDepth 20000 in
theorem ga_X10_pullAt : wsX10_pullAt.all goodWord = true := by decide +kernel
set_option maxRecDepth 20000 in
theorem ga_X10_beside : wsX10_beside.all goodWord = true := by decide +kernel
set_option maxRecDepth 20000 in
theorem ga_X10_heightAt : wsX10_heightAt.all goodWord = true := by decide +kernel
set_option maxRecDepth 20000 in
theorem ga_X10_pairOf : wsX10_pairOf.all goodWord = true := by decide +kernel
set_option maxRecDepth 20000 in
theorem ga_X10_leanAt : wsX10_leanAt.all goodWord = true := by decide +kernel
set_option maxRecDepth 20000 in
theorem ga_X10_doesBreak : wsX10_doesBreak.all goodWord = true := by decide +kernel
set_option maxRecDepth 20000 in
theorem ga_X10_needOf : wsX10_needOf.all goodWord = true := by decide +kernel
set_option maxRecDepth 20000 in
theorem ga_X10_isOpen : wsX10_isOpen.all goodWord = true := by decide +kernel
set_option maxRecDepth 20000 in
theorem ga_X10_isBarred : wsX10_isBarred.all goodWord = true := by decide +kernel
set_option maxRecDepth 20000 in
theorem ga_X10_slopeAt : wsX10_slopeAt.all goodWord = true := by decide +kernel
set_option maxRecDepth 20000 in
theorem ga_X10_costOf : wsX10_costOf.all goodWord = true := by decide +kernel
set_option maxRecDepth 20000 in
theorem ga_X10_held : wsX10_held.all goodWord = true := by decide +kernel
set_option maxRecDepth 20000 in
theorem ga_X10_goes : wsX10_goes.all goodWord = true := by decide +kernel
set_option maxRecDepth 20000 in
theorem ga_X10_rollNow : wsX10_rollNow.all goodWord = true := by decide +kernel
set_option maxRecDepth 20000 in
theorem ga_X10_draw : wsX10_draw.all goodWord = true := by decide +kernel
set_option maxRecDepth 20000 in
theorem ga_X10_has : wsX10_has.all goodWord = true := by decide +kernel
set_option maxRecDepth 20000 in
theorem ga_X10_isStep : wsX10_isStep.all goodWord = true := by decide +kernel
set_option maxRecDepth 20000 in
theorem ga_X10_isLevel : wsX10_isLevel.all goodWord = true := by decide +kernel
set_option maxRecDepth 20000 in
theorem ga_X10_isAslant : wsX10_isAslant.all goodWord = true := by decide +kernel
set_option maxRecDepth 20000 in
theorem ga_X10_isTurn : wsX10_isTurn.all goodWord = true := by decide +kernel
set_option maxRecDepth 20000 in
theorem ga_X10_ofPair : wsX10_ofPair.all goodWord = true := by decide +kernel
set_option maxRecDepth 20000 in
theorem ga_X10_restBy : wsX10_restBy.all goodWord = true := by decide +kernel
set_option maxRecDepth 20000 in
theorem ga_X10_findRest : wsX10_findRest.all goodWord = true := by decide +kernel
set_option maxRecDepth 20000 in
theorem ga_X10_floorOf : wsX10_floorOf.all goodWord = true := by decide +kernel
set_option maxRecDepth 20000 in
theorem ga_X10_isLevelOf : wsX10_isLevelOf.all goodWord = true := by decide +kernel
set_option maxRecDepth 20000 in
theorem ga_X10_findWater : wsX10_findWater.all goodWord = true := by decide +kernel
set_option maxRecDepth 20000 in
theorem ga_X10_whoseAt : wsX10_whoseAt.all goodWord = true := by decide +kernel
set_option maxRecDepth 20000 in
theorem ga_X10_saveShifts : wsX10_saveShifts.all goodWord = true := by decide +kernel
set_option maxRecDepth 20000 in
theorem ga_X10_codes : wsX10_codes.all goodWord = true := by decide +kernel
set_option maxRecDepth 20000 in
theorem ga_X10_setShifts : wsX10_setShifts.all goodWord = true := by decide +kernel
set_option maxRecDepth 20000 in
theorem ga_X10_isAsSeen : wsX10_isAsSeen.all goodWord = true := by decide +kernel
set_option maxRecDepth 20000 in
theorem ga_X10_putBack : wsX10_putBack.all goodWord = true := by decide +kernel
set_option maxRecDepth 20000 in
theorem ga_X10_findFits : wsX10_findFits.all goodWord = true := by decide +kernel
set_option maxRecDepth 20000 in
theorem ga_X10_worstAt : wsX10_worstAt.all goodWord = true := by decide +kernel
set_option maxRecDepth 20000 in
theorem ggX1_init_X5_init : GoodIn wsX1_init wsX5_init := goodIn_mk (chkPl_mem (ps := [19, 20, 2, 3, 4, 21, 22, 23, 57, 58, 59, 60]) (by decide +kernel)) ga_X5_init
set_option maxRecDepth 20000 in
theorem ggX1_init_X0_init : GoodIn wsX1_init wsX0_init := goodIn_mk (chkPl_mem (ps := [25, 26, 2, 3, 4, 27, 28, 61, 62, 63, 64, 65]) (by decide +kernel)) ga_X0_init
set_option maxRecDepth 20000 in
theorem ggX1_init_X1_clear : GoodIn wsX1_init wsX1_clear := goodIn_mk (chkPl_mem (ps := [33, 34, 35, 36, 37, 8, 12, 38, 13, 14, 15, 39, 40, 41, 17, 42, 43, 44, 45, 27, 28, 46, 47, 48, 49, 50, 51, 52, 53, 54, 55, 56, 57, 58, 59, 60, 61, 62, 63, 64, 65]) (by decide +kernel)) ga_X1_clear
set_option maxRecDepth 20000 in
theorem ggX1_clear_X0_clear : GoodIn wsX1_clear wsX0_clear := goodIn_mk (chkPl_mem (ps := [15, 16, 17, 18, 19, 20, 36, 37, 38, 39, 40]) (by decide +kernel)) ga_X0_clear
set_option maxRecDepth 20000 in
theorem ggX1_cellOfPair_X1_cellAt : GoodIn wsX1_cellOfPair wsX1_cellAt := goodIn_mk (chkPl_mem (ps := [5, 6, 7, 8, 9, 10, 11, 12, 13, 14, 15, 16, 17, 18]) (by decide +kernel)) ga_X1_cellAt
set_option maxRecDepth 20000 in
theorem ggX1_beside_X1_cellAt : GoodIn wsX1_beside wsX1_cellAt := goodIn_mk (chkPl_mem (ps := [6, 1, 7, 8, 9, 10, 11, 12, 13, 14, 15, 16, 17, 18]) (by decide +kernel)) ga_X1_cellAt
set_option maxRecDepth 20000 in
theorem ggX1_period_X9_greatestDivisor : GoodIn wsX1_period wsX9_greatestDivisor := goodIn_mk (chkPl_mem (ps := [6, 7, 8, 9, 10]) (by decide +kernel)) ga_X9_greatestDivisor
set_option maxRecDepth 20000 in
theorem ggX2_readText_X1_clear : GoodIn wsX2_readText wsX1_clear := goodIn_mk (chkPl_mem (ps := [17, 18, 19, 20, 21, 22, 23, 24, 25, 26, 27, 28, 29, 30, 31, 32, 33, 34, 35, 36, 37, 160, 161, 162, 163, 164, 165, 166, 167, 168, 169, 170, 171, 172, 173, 174, 175, 176, 177, 178, 179]) (by decide +kernel)) ga_X1_clear
set_option maxRecDepth 20000 in
theorem ggX2_readText_X2_skipBlanks : GoodIn wsX2_readText wsX2_skipBlanks := goodIn_mk (chkPl_mem (ps := [42, 7, 6, 1, 151, 152, 153, 154, 155, 156, 157, 158, 159]) (by decide +kernel)) ga_X2_skipBlanks
set_option maxRecDepth 20000 in
theorem ggX2_readText_X2_readClause : GoodIn wsX2_readText wsX2_readClause := goodIn_mk (chkPl_mem (ps := [46, 7, 1, 8, 47, 48, 49, 50, 41, 51, 9, 10, 52, 53, 54, 55, 56, 57, 58, 59, 60, 61, 62, 63, 64, 6, 38, 39, 40, 42, 65, 66, 67, 68, 69, 70, 71, 72, 73, 74, 75, 76, 77, 78, 12, 11, 79, 80, 81, 82, 83, 84, 85, 16, 86, 18, 19, 87, 88, 89, 90, 91, 92, 93, 94, 95, 96, 97, 98, 99, 100, 101, 102, 31, 103, 33, 36, 37, 34, 35, 104, 105, 106, 107, 108, 109, 110, 111, 112, 113, 114, 115, 116, 117, 118, 119, 120, 121, 122, 123, 124, 125, 126, 127, 128, 129, 130, 131, 132, 133, 134, 135, 136, 137, 138, 139, 140, 141, 142, 143, 144, 145, 146, 147, 148, 149, 150, 151, 152, 153, 154, 155, 156, 157, 158, 159, 160, 161, 162, 163, 164, 165, 166, 167, 168, 169, 170, 175, 176, 177, 178, 179, 171, 172, 173, 174]) (by decide +kernel)) ga_X2_readClause
set_option maxRecDepth 20000 in
theorem ggX2_readClause_X2_refuseIf : GoodIn wsX2_readClause wsX2_refuseIf := goodIn_mk (chkPl_mem (ps := [9, 10, 11, 127, 128, 129, 130, 131, 132, 133, 134, 135]) (by decide +kernel)) ga_X2_refuseIf
set_option maxRecDepth 20000 in
theorem ggX2_readClause_X2_readGround : GoodIn wsX2_readClause wsX2_readGround := goodIn_mk (chkPl_mem (ps := [15, 3, 4, 16, 10, 17, 18, 19, 20, 5, 6, 7, 8, 9, 11, 21, 22, 23, 24, 1, 25, 2, 26, 27, 28, 29, 30, 31, 32, 33, 34, 35, 36, 37, 38, 39, 127, 128, 129, 130, 131, 132, 133, 134, 135, 136, 137, 138, 139, 140, 141, 142, 143, 144, 145, 146]) (by decide +kernel)) ga_X2_readGround
set_option maxRecDepth 20000 in
theorem ggX2_readClause_X2_readCell : GoodIn wsX2_readClause wsX2_readCell := goodIn_mk (chkPl_mem (ps := [43, 44, 45, 16, 10, 3, 19, 20, 5, 6, 7, 8, 9, 11, 46, 47, 48, 49, 17, 18, 21, 22, 23, 24, 1, 25, 2, 26, 27, 28, 29, 30, 31, 32, 33, 34, 35, 50, 51, 52, 53, 54, 55, 56, 36, 37, 38, 39, 127, 128, 129, 130, 131, 132, 133, 134, 135, 136, 137, 138, 139, 140, 141, 142, 143, 144, 145, 146]) (by decide +kernel)) ga_X2_readCell
set_option maxRecDepth 20000 in
theorem ggX2_readClause_X2_readMoon : GoodIn wsX2_readClause wsX2_readMoon := goodIn_mk (chkPl_mem (ps := [60, 3, 61, 10, 62, 63, 64, 65, 17, 4, 5, 6, 7, 8, 9, 11, 21, 22, 23, 24, 1, 25, 2, 16, 26, 27, 28, 29, 30, 31, 32, 33, 34, 35, 66, 67, 68, 69, 36, 37, 38, 39, 70, 71, 72, 73, 74, 75, 76, 77, 78, 79, 127, 128, 129, 130, 131, 132, 133, 134, 135, 136, 137, 138, 139, 140, 141, 142, 143, 144, 145, 146, 147, 148, 149, 150, 151]) (by decide +kernel)) ga_X2_readMoon
set_option maxRecDepth 20000 in
theorem ggX2_readClause_X2_readHouse : GoodIn wsX2_readClause wsX2_readHouse := goodIn_mk (chkPl_mem (ps := [83, 3, 84, 85, 16, 5, 6, 7, 8, 9, 10, 11, 46, 47, 48, 49, 17, 18, 21, 22, 23, 24, 1, 25, 2, 26, 27, 28, 29, 30, 31, 32, 33, 34, 35, 50, 51, 52, 53, 54, 55, 56, 86, 87, 88, 89, 90, 91, 92, 36, 37, 38, 39, 93, 94, 95, 96, 97, 98, 99, 100, 101, 102, 127, 128, 129, 130, 131, 132, 133, 134, 135, 136, 137, 138, 139, 140, 141, 142, 143, 144, 145, 146, 152, 153, 154, 155]) (by decide +kernel)) ga_X2_readHouse
set_option maxRecDepth 20000 in
theorem ggX2_readClause_X2_readCrack : GoodIn wsX2_readClause wsX2_readCrack := goodIn_mk (chkPl_mem (ps := [106, 3, 107, 85, 16, 5, 6, 7, 8, 9, 10, 11, 46, 47, 48, 49, 17, 18, 21, 22, 23, 24, 1, 25, 2, 26, 27, 28, 29, 30, 31, 32, 33, 34, 35, 50, 51, 52, 53, 54, 55, 56, 108, 109, 110, 111, 112, 113, 114, 115, 89, 116, 91, 92, 101, 36, 37, 38, 39, 93, 94, 95, 96, 97, 98, 99, 100, 102, 127, 128, 129, 130, 131, 132, 133, 134, 135, 136, 137, 138, 139, 140, 141, 142, 143, 144, 145, 146, 152, 153, 154, 155]) (by decide +kernel)) ga_X2_readCrack
set_option maxRecDepth 20000 in
theorem ggX2_readClause_X2_readWell : GoodIn wsX2_readClause wsX2_readWell := goodIn_mk (chkPl_mem (ps := [120, 3, 121, 85, 16, 5, 6, 7, 8, 9, 10, 11, 46, 47, 48, 49, 17, 18, 21, 22, 23, 24, 1, 25, 2, 26, 27, 28, 29, 30, 31, 32, 33, 34, 35, 50, 51, 52, 53, 54, 55, 56, 86, 87, 88, 89, 90, 91, 92, 36, 37, 38, 39, 93, 94, 95, 96, 97, 98, 99, 100, 101, 102, 127, 128, 129, 130, 131, 132, 133, 134, 135, 136, 137, 138, 139, 140, 141, 142, 143, 144, 145, 146, 152, 153, 154, 155]) (by decide +kernel)) ga_X2_readWell
set_option maxRecDepth 20000 in
theorem ggX2_readClause_X2_readDeed : GoodIn wsX2_readClause wsX2_readDeed := goodIn_mk (chkPl_mem (ps := [125, 3, 126, 85, 16, 5, 6, 7, 8, 9, 10, 11, 21, 22, 23, 24, 1, 25, 2, 26, 27, 28, 29, 30, 31, 32, 33, 34, 35, 36, 37, 38, 39, 93, 94, 95, 96, 97, 98, 99, 89, 100, 91, 92, 101, 102, 127, 128, 129, 130, 131, 132, 133, 134, 135, 136, 137, 138, 139, 140, 141, 142, 143, 144, 145, 146, 152, 153, 154, 155]) (by decide +kernel)) ga_X2_readDeed
set_option maxRecDepth 20000 in
theorem ggX2_readGround_X2_refuseIf : GoodIn wsX2_readGround wsX2_refuseIf := goodIn_mk (chkPl_mem (ps := [13, 4, 14, 36, 37, 38, 39, 40, 41, 42, 43, 44]) (by decide +kernel)) ga_X2_refuseIf
set_option maxRecDepth 20000 in
theorem ggX2_readGround_X2_readNumber : GoodIn wsX2_readGround wsX2_readNumber := goodIn_mk (chkPl_mem (ps := [18, 19, 20, 21, 4, 3, 22, 23, 24, 12, 25, 26, 27, 28, 9, 10, 11, 13, 14, 29, 30, 31, 36, 37, 38, 39, 40, 41, 42, 43, 44]) (by decide +kernel)) ga_X2_readNumber
set_option maxRecDepth 20000 in
theorem ggX2_readGround_X2_readSign : GoodIn wsX2_readGround wsX2_readSign := goodIn_mk (chkPl_mem (ps := [35, 19, 20, 21, 22, 23, 24, 12, 25, 9, 10, 11, 13, 4, 14, 36, 37, 38, 39, 40, 41, 42, 43, 44]) (by decide +kernel)) ga_X2_readSign
set_option maxRecDepth 20000 in
theorem ggX2_readCell_X2_refuseIf : GoodIn wsX2_readCell wsX2_refuseIf := goodIn_mk (chkPl_mem (ps := [12, 4, 13, 48, 49, 50, 51, 52, 53, 54, 55, 56]) (by decide +kernel)) ga_X2_refuseIf
set_option maxRecDepth 20000 in
theorem ggX2_readCell_X2_readPlace : GoodIn wsX2_readCell wsX2_readPlace := goodIn_mk (chkPl_mem (ps := [17, 5, 18, 19, 4, 20, 21, 22, 11, 23, 24, 25, 26, 3, 27, 28, 29, 30, 31, 32, 33, 8, 9, 10, 12, 13, 34, 35, 36, 37, 38, 39, 40, 41, 42, 43, 48, 49, 50, 51, 52, 53, 54, 55, 56, 57, 58, 59, 60, 61, 62, 63, 64, 65, 66, 67]) (by decide +kernel)) ga_X2_readPlace
set_option maxRecDepth 20000 in
theorem ggX2_readCell_X2_readNumber : GoodIn wsX2_readCell wsX2_readNumber := goodIn_mk (chkPl_mem (ps := [23, 24, 25, 26, 4, 3, 27, 28, 29, 11, 30, 31, 32, 33, 8, 9, 10, 12, 13, 34, 35, 36, 48, 49, 50, 51, 52, 53, 54, 55, 56]) (by decide +kernel)) ga_X2_readNumber
set_option maxRecDepth 20000 in
theorem ggX2_readCell_X2_readSign : GoodIn wsX2_readCell wsX2_readSign := goodIn_mk (chkPl_mem (ps := [47, 24, 25, 26, 27, 28, 29, 11, 30, 8, 9, 10, 12, 4, 13, 48, 49, 50, 51, 52, 53, 54, 55, 56]) (by decide +kernel)) ga_X2_readSign
set_option maxRecDepth 20000 in
theorem ggX2_readMoon_X2_refuseIf : GoodIn wsX2_readMoon wsX2_refuseIf := goodIn_mk (chkPl_mem (ps := [14, 3, 15, 52, 53, 54, 55, 56, 57, 58, 59, 60]) (by decide +kernel)) ga_X2_refuseIf
set_option maxRecDepth 20000 in
theorem ggX2_readMoon_X2_readNumber : GoodIn wsX2_readMoon wsX2_readNumber := goodIn_mk (chkPl_mem (ps := [19, 20, 21, 22, 3, 23, 24, 25, 26, 13, 27, 28, 29, 30, 10, 11, 12, 14, 15, 31, 32, 33, 52, 53, 54, 55, 56, 57, 58, 59, 60]) (by decide +kernel)) ga_X2_readNumber
set_option maxRecDepth 20000 in
theorem ggX2_readMoon_X2_readRow : GoodIn wsX2_readMoon wsX2_readRow := goodIn_mk (chkPl_mem (ps := [37, 3, 20, 21, 22, 16, 17, 18, 13, 19, 23, 24, 25, 26, 27, 28, 29, 30, 10, 11, 12, 14, 15, 31, 32, 33, 52, 53, 54, 55, 56, 57, 58, 59, 60]) (by decide +kernel)) ga_X2_readRow
set_option maxRecDepth 20000 in
theorem ggX2_readMoon_X2_readSign : GoodIn wsX2_readMoon wsX2_readSign := goodIn_mk (chkPl_mem (ps := [41, 20, 21, 22, 24, 25, 26, 13, 27, 10, 11, 12, 14, 3, 15, 52, 53, 54, 55, 56, 57, 58, 59, 60]) (by decide +kernel)) ga_X2_readSign
set_option maxRecDepth 20000 in
theorem ggX2_readMoon_X0_settle : GoodIn wsX2_readMoon wsX0_settle := goodIn_mk (chkPl_mem (ps := [46, 47, 48, 49, 50, 51, 72, 73, 74, 75, 76]) (by decide +kernel)) ga_X0_settle
set_option maxRecDepth 20000 in
theorem ggX2_readRow_X2_readNumber : GoodIn wsX2_readRow wsX2_readNumber := goodIn_mk (chkPl_mem (ps := [9, 2, 3, 4, 1, 10, 11, 12, 13, 8, 14, 15, 16, 17, 18, 19, 20, 21, 22, 23, 24, 25, 26, 27, 28, 29, 30, 31, 32, 33, 34]) (by decide +kernel)) ga_X2_readNumber
set_option maxRecDepth 20000 in
theorem ggX2_readRow_X2_skipBlanks : GoodIn wsX2_readRow wsX2_skipBlanks := goodIn_mk (chkPl_mem (ps := [14, 2, 3, 4, 26, 27, 28, 29, 30, 31, 32, 33, 34]) (by decide +kernel)) ga_X2_skipBlanks
set_option maxRecDepth 20000 in
theorem ggX2_readRow_X2_refuseIf : GoodIn wsX2_readRow wsX2_refuseIf := goodIn_mk (chkPl_mem (ps := [21, 1, 22, 26, 27, 28, 29, 30, 31, 32, 33, 34]) (by decide +kernel)) ga_X2_refuseIf
set_option maxRecDepth 20000 in
theorem ggX2_readHouse_X2_refuseIf : GoodIn wsX2_readHouse wsX2_refuseIf := goodIn_mk (chkPl_mem (ps := [9, 10, 11, 63, 64, 65, 66, 67, 68, 69, 70, 71]) (by decide +kernel)) ga_X2_refuseIf
set_option maxRecDepth 20000 in
theorem ggX2_readHouse_X2_readPlace : GoodIn wsX2_readHouse wsX2_readPlace := goodIn_mk (chkPl_mem (ps := [15, 1, 16, 17, 10, 18, 19, 20, 8, 21, 22, 23, 24, 4, 25, 26, 27, 28, 29, 30, 31, 5, 6, 7, 9, 11, 32, 33, 34, 35, 36, 37, 38, 39, 40, 41, 63, 64, 65, 66, 67, 68, 69, 70, 71, 72, 73, 74, 75, 76, 77, 78, 79, 80, 81, 82]) (by decide +kernel)) ga_X2_readPlace
set_option maxRecDepth 20000 in
theorem ggX2_readHouse_X5_stands : GoodIn wsX2_readHouse wsX5_stands := goodIn_mk (chkPl_mem (ps := [46, 47, 48, 83, 84, 85, 86]) (by decide +kernel)) ga_X5_stands
set_option maxRecDepth 20000 in
theorem ggX2_readHouse_X2_readNumber : GoodIn wsX2_readHouse wsX2_readNumber := goodIn_mk (chkPl_mem (ps := [21, 22, 23, 24, 10, 4, 25, 26, 27, 8, 28, 29, 30, 31, 5, 6, 7, 9, 11, 32, 33, 34, 63, 64, 65, 66, 67, 68, 69, 70, 71]) (by decide +kernel)) ga_X2_readNumber
set_option maxRecDepth 20000 in
theorem ggX2_readHouse_X2_readSign : GoodIn wsX2_readHouse wsX2_readSign := goodIn_mk (chkPl_mem (ps := [52, 22, 23, 24, 25, 26, 27, 8, 28, 5, 6, 7, 9, 10, 11, 63, 64, 65, 66, 67, 68, 69, 70, 71]) (by decide +kernel)) ga_X2_readSign
set_option maxRecDepth 20000 in
theorem ggX2_readHouse_X2_addTo : GoodIn wsX2_readHouse wsX2_addTo := goodIn_mk (chkPl_mem (ps := [56, 10, 57, 58, 59, 45, 60, 47, 48, 61, 62, 63, 64, 65, 66, 67, 68, 69, 70, 71, 83, 84, 85, 86]) (by decide +kernel)) ga_X2_addTo
set_option maxRecDepth 20000 in
theorem ggX2_readCrack_X2_refuseIf : GoodIn wsX2_readCrack wsX2_refuseIf := goodIn_mk (chkPl_mem (ps := [9, 10, 11, 68, 69, 70, 71, 72, 73, 74, 75, 76]) (by decide +kernel)) ga_X2_refuseIf
set_option maxRecDepth 20000 in
theorem ggX2_readCrack_X2_readPlace : GoodIn wsX2_readCrack wsX2_readPlace := goodIn_mk (chkPl_mem (ps := [15, 1, 16, 17, 10, 18, 19, 20, 8, 21, 22, 23, 24, 4, 25, 26, 27, 28, 29, 30, 31, 5, 6, 7, 9, 11, 32, 33, 34, 35, 36, 37, 38, 39, 40, 41, 68, 69, 70, 71, 72, 73, 74, 75, 76, 77, 78, 79, 80, 81, 82, 83, 84, 85, 86, 87]) (by decide +kernel)) ga_X2_readPlace
set_option maxRecDepth 20000 in
theorem ggX2_readCrack_X2_readNumber : GoodIn wsX2_readCrack wsX2_readNumber := goodIn_mk (chkPl_mem (ps := [21, 22, 23, 24, 10, 4, 25, 26, 27, 8, 28, 29, 30, 31, 5, 6, 7, 9, 11, 32, 33, 34, 68, 69, 70, 71, 72, 73, 74, 75, 76]) (by decide +kernel)) ga_X2_readNumber
set_option maxRecDepth 20000 in
theorem ggX2_readCrack_X1_beside : GoodIn wsX2_readCrack wsX1_beside := goodIn_mk (chkPl_mem (ps := [45, 40, 46, 36, 37, 38, 39, 41, 77, 78, 79, 80, 81, 82, 83, 84, 85, 86, 87]) (by decide +kernel)) ga_X1_beside
set_option maxRecDepth 20000 in
theorem ggX2_readCrack_X5_find : GoodIn wsX2_readCrack wsX5_find := goodIn_mk (chkPl_mem (ps := [51, 52, 53, 54, 88, 89, 90, 91]) (by decide +kernel)) ga_X5_find
set_option maxRecDepth 20000 in
theorem ggX2_readCrack_X2_readSign : GoodIn wsX2_readCrack wsX2_readSign := goodIn_mk (chkPl_mem (ps := [58, 22, 23, 24, 25, 26, 27, 8, 28, 5, 6, 7, 9, 10, 11, 68, 69, 70, 71, 72, 73, 74, 75, 76]) (by decide +kernel)) ga_X2_readSign
set_option maxRecDepth 20000 in
theorem ggX2_readCrack_X2_addTo : GoodIn wsX2_readCrack wsX2_addTo := goodIn_mk (chkPl_mem (ps := [62, 10, 63, 64, 65, 50, 66, 52, 53, 54, 67, 68, 69, 70, 71, 72, 73, 74, 75, 76, 88, 89, 90, 91]) (by decide +kernel)) ga_X2_addTo
set_option maxRecDepth 20000 in
theorem ggX2_readWell_X2_refuseIf : GoodIn wsX2_readWell wsX2_refuseIf := goodIn_mk (chkPl_mem (ps := [9, 10, 11, 63, 64, 65, 66, 67, 68, 69, 70, 71]) (by decide +kernel)) ga_X2_refuseIf
set_option maxRecDepth 20000 in
theorem ggX2_readWell_X2_readPlace : GoodIn wsX2_readWell wsX2_readPlace := goodIn_mk (chkPl_mem (ps := [15, 1, 16, 17, 10, 18, 19, 20, 8, 21, 22, 23, 24, 4, 25, 26, 27, 28, 29, 30, 31, 5, 6, 7, 9, 11, 32, 33, 34, 35, 36, 37, 38, 39, 40, 41, 63, 64, 65, 66, 67, 68, 69, 70, 71, 72, 73, 74, 75, 76, 77, 78, 79, 80, 81, 82]) (by decide +kernel)) ga_X2_readPlace
set_option maxRecDepth 20000 in
theorem ggX2_readWell_X5_stands : GoodIn wsX2_readWell wsX5_stands := goodIn_mk (chkPl_mem (ps := [46, 47, 48, 83, 84, 85, 86]) (by decide +kernel)) ga_X5_stands
set_option maxRecDepth 20000 in
theorem ggX2_readWell_X2_readNumber : GoodIn wsX2_readWell wsX2_readNumber := goodIn_mk (chkPl_mem (ps := [21, 22, 23, 24, 10, 4, 25, 26, 27, 8, 28, 29, 30, 31, 5, 6, 7, 9, 11, 32, 33, 34, 63, 64, 65, 66, 67, 68, 69, 70, 71]) (by decide +kernel)) ga_X2_readNumber
set_option maxRecDepth 20000 in
theorem ggX2_readWell_X2_readSign : GoodIn wsX2_readWell wsX2_readSign := goodIn_mk (chkPl_mem (ps := [52, 22, 23, 24, 25, 26, 27, 8, 28, 5, 6, 7, 9, 10, 11, 63, 64, 65, 66, 67, 68, 69, 70, 71]) (by decide +kernel)) ga_X2_readSign
set_option maxRecDepth 20000 in
theorem ggX2_readWell_X2_addTo : GoodIn wsX2_readWell wsX2_addTo := goodIn_mk (chkPl_mem (ps := [56, 10, 57, 58, 59, 45, 60, 47, 48, 61, 62, 63, 64, 65, 66, 67, 68, 69, 70, 71, 83, 84, 85, 86]) (by decide +kernel)) ga_X2_addTo
set_option maxRecDepth 20000 in
theorem ggX2_readDeed_X2_refuseIf : GoodIn wsX2_readDeed wsX2_refuseIf := goodIn_mk (chkPl_mem (ps := [9, 10, 11, 46, 47, 48, 49, 50, 51, 52, 53, 54]) (by decide +kernel)) ga_X2_refuseIf
set_option maxRecDepth 20000 in
theorem ggX2_readDeed_X2_readNumber : GoodIn wsX2_readDeed wsX2_readNumber := goodIn_mk (chkPl_mem (ps := [15, 16, 17, 18, 10, 4, 19, 20, 21, 8, 22, 23, 24, 25, 5, 6, 7, 9, 11, 26, 27, 28, 46, 47, 48, 49, 50, 51, 52, 53, 54]) (by decide +kernel)) ga_X2_readNumber
set_option maxRecDepth 20000 in
theorem ggX2_readDeed_X2_readSign : GoodIn wsX2_readDeed wsX2_readSign := goodIn_mk (chkPl_mem (ps := [32, 16, 17, 18, 19, 20, 21, 8, 22, 5, 6, 7, 9, 10, 11, 46, 47, 48, 49, 50, 51, 52, 53, 54]) (by decide +kernel)) ga_X2_readSign
set_option maxRecDepth 20000 in
theorem ggX2_readDeed_X2_addTo : GoodIn wsX2_readDeed wsX2_addTo := goodIn_mk (chkPl_mem (ps := [36, 10, 37, 38, 39, 40, 41, 42, 43, 44, 45, 46, 47, 48, 49, 50, 51, 52, 53, 54, 66, 67, 68, 69]) (by decide +kernel)) ga_X2_addTo
set_option maxRecDepth 20000 in
theorem ggX2_addTo_X5_add : GoodIn wsX2_addTo wsX5_add := goodIn_mk (chkPl_mem (ps := [6, 7, 8, 9, 10, 20, 21, 22, 23]) (by decide +kernel)) ga_X5_add
set_option maxRecDepth 20000 in
theorem ggX2_readPlace_X2_readNumber : GoodIn wsX2_readPlace wsX2_readNumber := goodIn_mk (chkPl_mem (ps := [9, 10, 11, 12, 4, 13, 14, 15, 16, 8, 17, 18, 19, 20, 21, 22, 23, 24, 25, 26, 27, 28, 36, 37, 38, 39, 40, 41, 42, 43, 44]) (by decide +kernel)) ga_X2_readNumber
set_option maxRecDepth 20000 in
theorem ggX2_readPlace_X1_cellAt : GoodIn wsX2_readPlace wsX1_cellAt := goodIn_mk (chkPl_mem (ps := [33, 34, 35, 45, 46, 47, 48, 49, 50, 51, 52, 53, 54, 55]) (by decide +kernel)) ga_X1_cellAt
set_option maxRecDepth 20000 in
theorem ggX2_readNumber_X2_skipBlanks : GoodIn wsX2_readNumber wsX2_skipBlanks := goodIn_mk (chkPl_mem (ps := [10, 1, 2, 3, 22, 23, 24, 25, 26, 27, 28, 29, 30]) (by decide +kernel)) ga_X2_skipBlanks
set_option maxRecDepth 20000 in
theorem ggX2_readNumber_X2_isFigure : GoodIn wsX2_readNumber wsX2_isFigure := goodIn_mk (chkPl_mem (ps := [13]) (by decide +kernel)) ga_X2_isFigure
set_option maxRecDepth 20000 in
theorem ggX2_readNumber_X2_refuseIf : GoodIn wsX2_readNumber wsX2_refuseIf := goodIn_mk (chkPl_mem (ps := [17, 4, 18, 22, 23, 24, 25, 26, 27, 28, 29, 30]) (by decide +kernel)) ga_X2_refuseIf
set_option maxRecDepth 20000 in
theorem ggX2_readNumber_X9_isOff : GoodIn wsX2_readNumber wsX9_isOff := goodIn_mk (chkPl_mem (ps := [21]) (by decide +kernel)) ga_X9_isOff
set_option maxRecDepth 20000 in
theorem ggX2_readSign_X2_skipBlanks : GoodIn wsX2_readSign wsX2_skipBlanks := goodIn_mk (chkPl_mem (ps := [8, 1, 2, 3, 15, 16, 17, 18, 19, 20, 21, 22, 23]) (by decide +kernel)) ga_X2_skipBlanks
set_option maxRecDepth 20000 in
theorem ggX2_readSign_X2_refuseIf : GoodIn wsX2_readSign wsX2_refuseIf := goodIn_mk (chkPl_mem (ps := [12, 13, 14, 15, 16, 17, 18, 19, 20, 21, 22, 23]) (by decide +kernel)) ga_X2_refuseIf
set_option maxRecDepth 20000 in
theorem ggX3_fewestSteps_X3_reachedNext : GoodIn wsX3_fewestSteps wsX3_reachedNext := goodIn_mk (chkPl_mem (ps := [5, 6, 7, 8, 9, 10, 11, 12, 13, 14, 15, 16, 17, 18, 19, 20, 21, 22, 23, 24, 25, 26, 27, 28, 29, 30, 31, 32, 33, 34, 35, 36, 37, 38, 39, 40, 41, 42, 43, 44, 45, 46, 47, 48, 49, 50, 51, 52, 53, 54, 55, 56, 57, 58, 59, 60, 61, 62, 63, 64, 65, 66, 67, 68, 69, 70, 71, 72, 73, 74, 75, 76, 77, 78, 79, 80, 81, 82, 83, 84, 85, 86, 87, 88, 89, 90, 91, 92, 93, 94, 95, 96, 97, 98, 99, 100, 101, 102, 103, 104, 105, 106, 107, 108, 109, 110, 111, 112, 113, 114, 115]) (by decide +kernel)) ga_X3_reachedNext
set_option maxRecDepth 20000 in
theorem ggX3_reachedNext_X1_beside : GoodIn wsX3_reachedNext wsX1_beside := goodIn_mk (chkPl_mem (ps := [8, 9, 10, 11, 12, 7, 13, 14, 82, 83, 84, 85, 86, 87, 88, 89, 90, 91, 92]) (by decide +kernel)) ga_X1_beside
set_option maxRecDepth 20000 in
theorem ggX3_reachedNext_X8_pushTo : GoodIn wsX3_reachedNext wsX8_pushTo := goodIn_mk (chkPl_mem (ps := [19, 20, 21, 22, 23, 24, 25, 26, 27, 28, 18, 29, 30, 31, 32, 33, 34, 35, 5, 6, 7, 8, 9, 10, 11, 12, 13, 14, 36, 37, 38, 39, 40, 41, 42, 43, 44, 45, 46, 47, 48, 49, 50, 51, 52, 53, 54, 55, 56, 57, 58, 59, 60, 61, 62, 63, 64, 65, 66, 67, 68, 69, 70, 71, 72, 73, 74, 75, 80, 81, 93, 94, 95, 96, 97, 98, 99, 100, 101, 82, 83, 84, 85, 86, 87, 88, 89, 90, 91, 92, 102, 103, 104, 105, 106, 107, 108, 109, 110]) (by decide +kernel)) ga_X8_pushTo
set_option maxRecDepth 20000 in
theorem ggX3_leastPushed_X3_choose : GoodIn wsX3_leastPushed wsX3_choose := goodIn_mk (chkPl_mem (ps := [11, 5, 1, 2, 6, 4, 12, 13, 14, 15, 16, 17, 18, 19, 20, 21, 22, 23, 24, 25, 26, 27, 28, 29, 30, 31, 32, 33, 34, 35, 36, 37, 38, 39, 40, 41, 42, 43, 44, 45, 46, 47, 48, 49, 50, 51, 52, 53, 54, 55, 56, 57, 58, 59, 60, 61, 62, 63, 64, 65, 66, 67, 68, 69, 70, 71, 72, 73, 74, 75, 76, 77, 78, 79, 80, 81, 82, 83, 84, 85, 86, 87, 88, 89, 90, 91, 92, 93, 94, 95, 96, 97, 98, 99, 100, 101, 102, 103, 104, 105, 106, 107, 108, 109, 110, 111, 112, 113, 114, 115, 116, 117, 118, 119]) (by decide +kernel)) ga_X3_choose
set_option maxRecDepth 20000 in
theorem ggX3_choose_X1_beside : GoodIn wsX3_choose wsX1_beside := goodIn_mk (chkPl_mem (ps := [11, 12, 13, 14, 15, 10, 16, 17, 85, 86, 87, 88, 89, 90, 91, 92, 93, 94, 95]) (by decide +kernel)) ga_X1_beside
set_option maxRecDepth 20000 in
theorem ggX3_choose_X8_pushTo : GoodIn wsX3_choose wsX8_pushTo := goodIn_mk (chkPl_mem (ps := [22, 23, 24, 25, 26, 27, 28, 29, 30, 31, 21, 32, 33, 34, 35, 36, 37, 38, 8, 9, 10, 11, 12, 13, 14, 15, 16, 17, 39, 40, 41, 42, 43, 44, 45, 46, 47, 48, 49, 50, 51, 52, 53, 54, 55, 56, 57, 58, 59, 60, 61, 62, 63, 64, 65, 66, 67, 68, 69, 70, 71, 72, 73, 74, 75, 76, 77, 78, 83, 84, 96, 97, 98, 99, 100, 101, 102, 103, 104, 85, 86, 87, 88, 89, 90, 91, 92, 93, 94, 95, 105, 106, 107, 108, 109, 110, 111, 112, 113]) (by decide +kernel)) ga_X8_pushTo
set_option maxRecDepth 20000 in
theorem ggX3_wayTaken_X1_beside : GoodIn wsX3_wayTaken wsX1_beside := goodIn_mk (chkPl_mem (ps := [8, 9, 10, 11, 12, 7, 13, 14, 21, 22, 23, 24, 25, 26, 27, 28, 29, 30, 31]) (by decide +kernel)) ga_X1_beside
set_option maxRecDepth 20000 in
theorem ggX4_findFits_X4_addIfFit : GoodIn wsX4_findFits wsX4_addIfFit := goodIn_mk (chkPl_mem (ps := [10, 11, 12, 1, 2, 13, 14, 15, 4, 16, 17, 18, 19, 20, 21, 22, 23, 24, 25, 26, 27, 28, 29, 30, 31, 32, 9, 33, 3, 34, 35, 36, 37, 38, 39, 40, 41, 42, 43, 44, 45, 46, 47, 48, 49, 50, 51, 52, 53, 54, 55, 56, 57, 58, 59, 60, 61, 62, 63, 64, 65, 66, 67, 68, 74, 75, 76, 77, 78, 79, 80, 81, 82, 69, 70, 71, 72, 73]) (by decide +kernel)) ga_X4_addIfFit
set_option maxRecDepth 20000 in
theorem ggX4_addIfFit_X8_stiffOf : GoodIn wsX4_addIfFit wsX8_stiffOf := goodIn_mk (chkPl_mem (ps := [14, 15, 16, 17, 18, 19, 20, 21, 22, 51, 52, 53, 54, 55, 56, 57, 58, 59, 60, 61, 62, 63, 64, 65, 66, 67, 68, 69, 70, 71, 72]) (by decide +kernel)) ga_X8_stiffOf
set_option maxRecDepth 20000 in
theorem ggX4_addIfFit_X4_pullBy : GoodIn wsX4_addIfFit wsX4_pullBy := goodIn_mk (chkPl_mem (ps := [27, 3, 4, 28, 29, 30, 26, 31, 32, 33, 34, 35, 36, 37, 38, 39, 40, 41, 42, 43, 44, 45, 46, 47, 48, 49, 50, 51, 52, 53, 54, 55, 56, 57, 58, 59, 60, 61, 62, 63, 73, 74, 75, 76, 77]) (by decide +kernel)) ga_X4_pullBy
set_option maxRecDepth 20000 in
theorem ggX4_pullBy_X4_shiftOf : GoodIn wsX4_pullBy wsX4_shiftOf := goodIn_mk (chkPl_mem (ps := [7]) (by decide +kernel)) ga_X4_shiftOf
set_option maxRecDepth 20000 in
theorem ggX4_pullBy_X0_partAt : GoodIn wsX4_pullBy wsX0_partAt := goodIn_mk (chkPl_mem (ps := [12, 13, 14, 15, 40, 41, 42, 43, 44]) (by decide +kernel)) ga_X0_partAt
set_option maxRecDepth 20000 in
theorem ggX4_shiftIn_X4_shiftOf : GoodIn wsX4_shiftIn wsX4_shiftOf := goodIn_mk (chkPl_mem (ps := [6]) (by decide +kernel)) ga_X4_shiftOf
set_option maxRecDepth 20000 in
theorem ggX4_findBestLook_X4_findFits : GoodIn wsX4_findBestLook wsX4_findFits := goodIn_mk (chkPl_mem (ps := [12, 2, 3, 13, 1, 14, 15, 16, 17, 11, 18, 19, 20, 21, 22, 23, 24, 25, 26, 27, 28, 29, 30, 31, 32, 33, 34, 35, 36, 37, 38, 39, 40, 41, 42, 43, 44, 45, 46, 47, 48, 49, 50, 51, 52, 64, 65, 66, 67, 68, 69, 70, 71, 72, 73, 74, 75, 76, 77, 78, 79, 80, 81, 82, 83, 84, 85, 86, 87, 88, 89, 90, 91, 92, 93, 94, 95, 96, 97, 98, 99, 100, 101]) (by decide +kernel)) ga_X4_findFits
set_option maxRecDepth 20000 in
theorem ggX4_findBestLook_X4_mostAlike : GoodIn wsX4_findBestLook wsX4_mostAlike := goodIn_mk (chkPl_mem (ps := [56, 2, 1, 57, 3, 13, 24, 58, 59, 35, 36, 37, 25, 26, 27, 28, 29, 30, 31, 32, 33, 34, 60, 61, 62, 48, 63, 50, 52, 64, 65, 66, 67, 68, 69, 70, 71, 72, 73, 74, 75, 76, 77, 78, 79, 80, 81, 82, 83, 84, 85, 86, 87, 88, 89, 90, 91, 92, 93, 94, 95, 96, 97, 98, 99, 100, 101]) (by decide +kernel)) ga_X4_mostAlike
set_option maxRecDepth 20000 in
theorem ggX4_mostAlike_X8_stiffOf : GoodIn wsX4_mostAlike wsX8_stiffOf := goodIn_mk (chkPl_mem (ps := [16, 17, 18, 19, 20, 21, 9, 10, 11, 40, 41, 42, 43, 44, 45, 46, 47, 48, 49, 50, 51, 52, 58, 59, 60, 61, 62, 63, 64, 65, 66]) (by decide +kernel)) ga_X8_stiffOf
set_option maxRecDepth 20000 in
theorem ggX4_mostAlike_X0_placeAt : GoodIn wsX4_mostAlike wsX0_placeAt := goodIn_mk (chkPl_mem (ps := [26, 27, 28, 53, 54, 55, 56, 57]) (by decide +kernel)) ga_X0_placeAt
set_option maxRecDepth 20000 in
theorem ggX7_settle_X8_heightAt : GoodIn wsX7_settle wsX8_heightAt := goodIn_mk (chkPl_mem (ps := [13, 14, 15, 16, 17, 18, 12, 19, 20, 21, 22, 23, 24, 25, 26, 27, 28, 29, 30, 31, 32, 33, 34, 35, 36, 37, 38, 39, 40, 41, 65, 66, 67, 68, 69, 70, 71, 72, 73, 74, 75, 76, 77, 82, 83, 84, 85, 86, 87, 88, 89, 90, 91, 92, 93, 94, 95]) (by decide +kernel)) ga_X8_heightAt
set_option maxRecDepth 20000 in
theorem ggX7_settle_X7_insert : GoodIn wsX7_settle wsX7_insert := goodIn_mk (chkPl_mem (ps := [46, 8, 60, 61, 62, 63, 64]) (by decide +kernel)) ga_X7_insert
set_option maxRecDepth 20000 in
theorem ggX7_settle_X7_reduce : GoodIn wsX7_settle wsX7_reduce := goodIn_mk (chkPl_mem (ps := [50, 51, 24, 25, 26, 52, 53, 54, 55, 56, 57, 58, 59, 60, 61, 62, 63, 64]) (by decide +kernel)) ga_X7_reduce
set_option maxRecDepth 20000 in
theorem ggX7_reduce_X9_greatestDivisor : GoodIn wsX7_reduce wsX9_greatestDivisor := goodIn_mk (chkPl_mem (ps := [9, 10, 11, 3, 12]) (by decide +kernel)) ga_X9_greatestDivisor
set_option maxRecDepth 20000 in
theorem ggX8_pullAt_X0_partAt : GoodIn wsX8_pullAt wsX0_partAt := goodIn_mk (chkPl_mem (ps := [10, 11, 12, 13, 36, 37, 38, 39, 40]) (by decide +kernel)) ga_X0_partAt
set_option maxRecDepth 20000 in
theorem ggX8_heightAt_X8_stiffOf : GoodIn wsX8_heightAt wsX8_stiffOf := goodIn_mk (chkPl_mem (ps := [7, 1, 8, 9, 10, 11, 12, 13, 14, 30, 31, 32, 33, 34, 35, 36, 37, 38, 39, 40, 41, 42, 43, 44, 45, 46, 47, 48, 49, 50, 51]) (by decide +kernel)) ga_X8_stiffOf
set_option maxRecDepth 20000 in
theorem ggX8_heightAt_X8_pullAt : GoodIn wsX8_heightAt wsX8_pullAt := goodIn_mk (chkPl_mem (ps := [18, 1, 19, 20, 9, 21, 22, 23, 24, 25, 26, 27, 28, 29, 30, 31, 32, 33, 34, 35, 36, 37, 38, 39, 40, 41, 42, 43, 44, 45, 46, 47, 48, 49, 50, 51, 52, 53, 54, 55, 56]) (by decide +kernel)) ga_X8_pullAt
set_option maxRecDepth 20000 in
theorem ggX8_leanAt_X8_heightAt : GoodIn wsX8_leanAt wsX8_heightAt := goodIn_mk (chkPl_mem (ps := [13, 1, 14, 15, 16, 17, 12, 18, 19, 20, 21, 6, 7, 4, 8, 22, 23, 24, 25, 26, 27, 28, 29, 30, 31, 32, 33, 34, 35, 36, 48, 49, 50, 51, 52, 53, 54, 55, 56, 57, 58, 59, 60, 61, 62, 63, 64, 65, 66, 67, 68, 69, 70, 71, 72, 73, 74]) (by decide +kernel)) ga_X8_heightAt
set_option maxRecDepth 20000 in
theorem ggX8_leanAt_X1_beside : GoodIn wsX8_leanAt wsX1_beside := goodIn_mk (chkPl_mem (ps := [41, 42, 43, 44, 45, 40, 46, 47, 50, 51, 52, 53, 54, 55, 56, 57, 58, 59, 60]) (by decide +kernel)) ga_X1_beside
set_option maxRecDepth 20000 in
theorem ggX8_isBroken_X8_leanAt : GoodIn wsX8_isBroken wsX8_leanAt := goodIn_mk (chkPl_mem (ps := [11, 1, 12, 13, 14, 15, 16, 17, 18, 19, 20, 21, 10, 22, 23, 24, 25, 26, 27, 28, 5, 29, 30, 31, 32, 33, 34, 35, 36, 37, 38, 39, 40, 41, 42, 43, 44, 45, 46, 47, 48, 49, 50, 51, 52, 53, 54, 55, 56, 57, 58, 59, 60, 61, 62, 63, 64, 65, 66, 67, 68, 73, 74, 75, 76, 77, 78, 79, 80, 81, 82, 83, 84, 85, 86]) (by decide +kernel)) ga_X8_leanAt
set_option maxRecDepth 20000 in
theorem ggX8_leastBroken_X8_isBroken : GoodIn wsX8_leastBroken wsX8_isBroken := goodIn_mk (chkPl_mem (ps := [8, 1, 2, 9, 10, 11, 12, 13, 14, 15, 7, 16, 17, 18, 19, 20, 21, 22, 23, 24, 25, 26, 27, 28, 29, 30, 31, 32, 33, 34, 35, 36, 37, 38, 39, 40, 41, 42, 43, 44, 45, 46, 47, 48, 49, 50, 51, 52, 53, 54, 55, 56, 57, 58, 59, 60, 61, 62, 63, 64, 65, 66, 67, 68, 69, 70, 71, 72, 73, 74, 75, 76, 77, 78, 79, 80, 81, 82, 83, 84, 85, 86, 87, 88, 89, 90, 91]) (by decide +kernel)) ga_X8_isBroken
set_option maxRecDepth 20000 in
theorem ggX8_needOf_X1_period : GoodIn wsX8_needOf wsX1_period := goodIn_mk (chkPl_mem (ps := [13, 14, 15, 16, 17, 18, 19, 20, 21, 6, 22, 68, 69, 70, 71, 72, 73, 74, 75, 76, 77, 78, 83, 84, 85, 86, 87]) (by decide +kernel)) ga_X1_period
set_option maxRecDepth 20000 in
theorem ggX8_needOf_X8_leanAt : GoodIn wsX8_needOf wsX8_leanAt := goodIn_mk (chkPl_mem (ps := [27, 1, 28, 21, 6, 22, 4, 5, 7, 29, 30, 31, 26, 32, 33, 34, 35, 36, 37, 38, 39, 40, 41, 42, 43, 44, 45, 46, 47, 48, 49, 50, 51, 52, 53, 54, 55, 56, 57, 58, 12, 59, 60, 61, 62, 63, 64, 65, 66, 67, 68, 69, 70, 71, 72, 73, 74, 75, 76, 77, 78, 88, 89, 90, 91, 92, 93, 94, 95, 96, 83, 84, 85, 86, 87]) (by decide +kernel)) ga_X8_leanAt
set_option maxRecDepth 20000 in
theorem ggX8_isOpen_X8_pullAt : GoodIn wsX8_isOpen wsX8_pullAt := goodIn_mk (chkPl_mem (ps := [9, 1, 10, 11, 12, 13, 14, 15, 16, 17, 18, 19, 20, 21, 22, 23, 24, 25, 26, 27, 28, 29, 30, 31, 32, 33, 34, 39, 40, 41, 42, 43, 44, 45, 46, 47, 48, 49, 50, 51, 52]) (by decide +kernel)) ga_X8_pullAt
set_option maxRecDepth 20000 in
theorem ggX8_spreadOf_X8_heightAt : GoodIn wsX8_spreadOf wsX8_heightAt := goodIn_mk (chkPl_mem (ps := [14, 1, 15, 16, 17, 18, 13, 19, 20, 21, 22, 7, 8, 5, 9, 23, 24, 25, 26, 27, 28, 29, 30, 31, 32, 33, 34, 35, 36, 37, 38, 39, 40, 41, 42, 43, 44, 45, 46, 47, 48, 49, 50, 51, 52, 53, 54, 55, 56, 57, 58, 59, 60, 61, 62, 63, 64]) (by decide +kernel)) ga_X8_heightAt
set_option maxRecDepth 20000 in
theorem ggX8_isAslant_X1_beside : GoodIn wsX8_isAslant wsX1_beside := goodIn_mk (chkPl_mem (ps := [7, 8, 9, 10, 11, 6, 12, 13, 52, 53, 54, 55, 56, 57, 58, 59, 60, 61, 62]) (by decide +kernel)) ga_X1_beside
set_option maxRecDepth 20000 in
theorem ggX8_isAslant_X8_isLike : GoodIn wsX8_isAslant wsX8_isLike := goodIn_mk (chkPl_mem (ps := [18, 19, 20, 21, 17, 22, 1, 23, 24, 25, 26, 27, 28, 29, 30, 31, 32, 33, 34, 35, 36, 37, 38, 39, 40, 41, 42, 43, 44, 45, 46, 47, 48, 49, 50, 51, 52, 53, 54, 55, 56, 57, 58, 59, 60, 61, 62, 63, 64, 65, 66, 67, 68, 69, 70, 71, 72, 73, 74, 75, 76]) (by decide +kernel)) ga_X8_isLike
set_option maxRecDepth 20000 in
theorem ggX8_isLike_X8_heightAt : GoodIn wsX8_isLike wsX8_heightAt := goodIn_mk (chkPl_mem (ps := [5, 6, 7, 8, 9, 10, 4, 11, 12, 13, 14, 15, 16, 17, 18, 19, 20, 21, 22, 23, 24, 25, 26, 27, 28, 29, 30, 31, 32, 33, 34, 35, 36, 37, 38, 39, 40, 41, 42, 43, 44, 45, 46, 47, 48, 49, 50, 51, 52, 53, 54, 55, 56, 57, 58, 59, 60]) (by decide +kernel)) ga_X8_heightAt
set_option maxRecDepth 20000 in
theorem ggX8_isTurn_X8_heightAt : GoodIn wsX8_isTurn wsX8_heightAt := goodIn_mk (chkPl_mem (ps := [5, 6, 7, 8, 9, 10, 4, 11, 12, 13, 14, 15, 16, 17, 18, 19, 20, 21, 22, 23, 24, 25, 26, 27, 28, 29, 30, 31, 32, 33, 34, 35, 36, 37, 38, 39, 40, 41, 42, 43, 44, 45, 46, 47, 48, 49, 50, 51, 52, 53, 54, 55, 56, 57, 58, 59, 60]) (by decide +kernel)) ga_X8_heightAt
set_option maxRecDepth 20000 in
theorem ggX8_cellsWithin_X8_heightAt : GoodIn wsX8_cellsWithin wsX8_heightAt := goodIn_mk (chkPl_mem (ps := [10, 1, 11, 12, 13, 14, 9, 15, 16, 17, 18, 19, 20, 21, 22, 23, 24, 25, 26, 27, 28, 29, 30, 31, 32, 33, 34, 35, 36, 37, 41, 42, 43, 44, 45, 46, 47, 48, 49, 50, 51, 52, 53, 58, 59, 60, 61, 62, 63, 64, 65, 66, 67, 68, 69, 70, 71]) (by decide +kernel)) ga_X8_heightAt
set_option maxRecDepth 20000 in
theorem ggX8_cellsWithin_X9_isOff : GoodIn wsX8_cellsWithin wsX9_isOff := goodIn_mk (chkPl_mem (ps := [40]) (by decide +kernel)) ga_X9_isOff
set_option maxRecDepth 20000 in
theorem ggX8_pushTo_X8_crackBetween : GoodIn wsX8_pushTo wsX8_crackBetween := goodIn_mk (chkPl_mem (ps := [11, 12, 13, 5, 14, 15, 3, 4, 6, 16, 17, 18, 19, 20, 21, 22, 23, 24, 25, 26, 27, 28, 29, 30, 31, 32, 33, 34, 35, 68, 69, 79, 80, 81, 82, 83, 84, 85, 86, 87, 88, 89, 90, 91, 92, 93]) (by decide +kernel)) ga_X8_crackBetween
set_option maxRecDepth 20000 in
theorem ggX8_pushTo_X8_isOpen : GoodIn wsX8_pushTo wsX8_isOpen := goodIn_mk (chkPl_mem (ps := [39, 15, 16, 40, 41, 42, 43, 44, 10, 45, 46, 47, 1, 48, 49, 50, 51, 52, 53, 54, 55, 56, 68, 69, 79, 80, 81, 82, 83, 84, 85, 86, 87, 88, 89, 90, 91, 92, 93, 70, 71, 72, 73, 74, 75, 76, 77, 78, 94, 95, 96, 97, 98]) (by decide +kernel)) ga_X8_isOpen
set_option maxRecDepth 20000 in
theorem ggX8_pushTo_X8_heightAt : GoodIn wsX8_pushTo wsX8_heightAt := goodIn_mk (chkPl_mem (ps := [60, 15, 61, 62, 63, 64, 10, 65, 66, 1, 67, 3, 4, 5, 6, 42, 43, 44, 45, 46, 47, 48, 49, 50, 51, 52, 53, 54, 55, 56, 68, 69, 79, 80, 81, 82, 83, 84, 85, 86, 87, 88, 89, 70, 71, 72, 73, 74, 75, 76, 77, 78, 94, 95, 96, 97, 98]) (by decide +kernel)) ga_X8_heightAt
set_option maxRecDepth 20000 in
theorem ggX8_crackBetween_X1_beside : GoodIn wsX8_crackBetween wsX1_beside := goodIn_mk (chkPl_mem (ps := [14, 15, 16, 17, 18, 13, 19, 20, 31, 32, 33, 34, 35, 36, 37, 38, 39, 40, 41]) (by decide +kernel)) ga_X1_beside
set_option maxRecDepth 20000 in
theorem ggX8_crackBetween_X5_find : GoodIn wsX8_crackBetween wsX5_find := goodIn_mk (chkPl_mem (ps := [25, 26, 27, 28, 42, 43, 44, 45]) (by decide +kernel)) ga_X5_find
set_option maxRecDepth 20000 in
theorem ggX8_stepByDraws_X8_draw : GoodIn wsX8_stepByDraws wsX8_draw := goodIn_mk (chkPl_mem (ps := [15, 2, 16, 17, 18, 19, 20, 21, 22, 92, 93, 94, 95, 96, 97, 98, 99, 100, 101, 102]) (by decide +kernel)) ga_X8_draw
set_option maxRecDepth 20000 in
theorem ggX8_stepByDraws_X1_beside : GoodIn wsX8_stepByDraws wsX1_beside := goodIn_mk (chkPl_mem (ps := [27, 28, 29, 30, 31, 26, 32, 33, 103, 104, 105, 106, 107, 108, 109, 110, 111, 112, 113]) (by decide +kernel)) ga_X1_beside
set_option maxRecDepth 20000 in
theorem ggX8_stepByDraws_X8_pushTo : GoodIn wsX8_stepByDraws wsX8_pushTo := goodIn_mk (chkPl_mem (ps := [37, 2, 38, 39, 40, 9, 41, 42, 43, 44, 14, 45, 7, 8, 10, 1, 46, 23, 24, 25, 26, 27, 28, 29, 30, 31, 32, 33, 47, 48, 49, 50, 51, 52, 53, 54, 55, 56, 57, 58, 59, 60, 61, 62, 63, 64, 65, 66, 67, 68, 69, 70, 71, 72, 73, 74, 75, 76, 77, 78, 79, 80, 81, 82, 83, 84, 85, 6, 92, 93, 94, 95, 96, 97, 98, 99, 100, 101, 102, 103, 104, 105, 106, 107, 108, 109, 110, 111, 112, 113, 114, 115, 116, 117, 118, 119, 120, 121, 122]) (by decide +kernel)) ga_X8_pushTo
set_option maxRecDepth 20000 in
theorem ggX8_stepByDraws_X8_takeStep : GoodIn wsX8_stepByDraws wsX8_takeStep := goodIn_mk (chkPl_mem (ps := [89, 2, 3, 4, 90, 91, 7, 8, 9, 10, 92, 93, 94, 95, 96, 97, 98, 99, 100, 101, 102]) (by decide +kernel)) ga_X8_takeStep
set_option maxRecDepth 20000 in
theorem ggX8_draw_X9_leftOver : GoodIn wsX8_draw wsX9_leftOver := goodIn_mk (chkPl_mem (ps := [8]) (by decide +kernel)) ga_X9_leftOver
set_option maxRecDepth 20000 in
theorem ggX9_init_X2_init : GoodIn wsX9_init wsX2_init := goodIn_mk (chkPl_mem (ps := [38, 39, 2, 3]) (by decide +kernel)) ga_X2_init
set_option maxRecDepth 20000 in
theorem ggX9_init_X1_init : GoodIn wsX9_init wsX1_init := goodIn_mk (chkPl_mem (ps := [42, 43, 2, 3, 4, 44, 45, 46, 47, 48, 49, 50, 51, 52, 53, 54, 55, 56, 57, 58, 59, 60, 61, 62, 63, 64, 65, 66, 67, 68, 69, 70, 13, 71, 72, 73, 74, 75, 76, 77, 78, 79, 80, 81, 82, 83, 145, 146, 147, 148, 149, 150, 151, 152, 153, 154, 155, 187, 188, 189, 190, 191, 192, 193, 194, 195]) (by decide +kernel)) ga_X1_init
set_option maxRecDepth 20000 in
theorem ggX9_init_X6_init : GoodIn wsX9_init wsX6_init := goodIn_mk (chkPl_mem (ps := [85, 86, 2, 3, 4, 87, 88, 89, 90, 156, 157, 158, 159, 160, 161, 162, 163, 164]) (by decide +kernel)) ga_X6_init
set_option maxRecDepth 20000 in
theorem ggX9_init_X8_init : GoodIn wsX9_init wsX8_init := goodIn_mk (chkPl_mem (ps := [93, 94, 2, 3, 95, 96, 165, 166]) (by decide +kernel)) ga_X8_init
set_option maxRecDepth 20000 in
theorem ggX9_init_X3_init : GoodIn wsX9_init wsX3_init := goodIn_mk (chkPl_mem (ps := [99, 100, 2, 3, 4, 101, 102, 103, 104, 167, 168, 169, 170]) (by decide +kernel)) ga_X3_init
set_option maxRecDepth 20000 in
theorem ggX9_init_X7_init : GoodIn wsX9_init wsX7_init := goodIn_mk (chkPl_mem (ps := [107, 108, 2, 3, 4, 109, 110, 111, 112, 171, 172, 173, 174, 175]) (by decide +kernel)) ga_X7_init
set_option maxRecDepth 20000 in
theorem ggX9_init_X4_init : GoodIn wsX9_init wsX4_init := goodIn_mk (chkPl_mem (ps := [115, 116, 2, 3, 4, 117, 118, 119, 120, 121, 122, 176, 177, 178, 179, 180, 181, 182, 183, 184, 185, 186]) (by decide +kernel)) ga_X4_init
set_option maxRecDepth 20000 in
theorem ggX9_feed_X9_isOff : GoodIn wsX9_feed wsX9_isOff := goodIn_mk (chkPl_mem (ps := [8]) (by decide +kernel)) ga_X9_isOff
set_option maxRecDepth 20000 in
theorem ggX9_ground_X2_readText : GoodIn wsX9_ground wsX2_readText := goodIn_mk (chkPl_mem (ps := [14, 15, 16, 17, 18, 19, 20, 21, 22, 23, 24, 25, 26, 27, 28, 29, 30, 31, 32, 33, 34, 35, 36, 37, 38, 39, 40, 41, 42, 43, 44, 45, 46, 47, 48, 49, 50, 51, 52, 53, 54, 13, 55, 56, 57, 58, 59, 60, 61, 62, 63, 64, 65, 66, 67, 68, 69, 70, 71, 72, 73, 74, 75, 76, 77, 78, 79, 80, 81, 82, 83, 84, 85, 86, 87, 88, 89, 90, 91, 92, 93, 94, 95, 96, 97, 98, 99, 100, 101, 102, 103, 104, 105, 106, 107, 108, 109, 110, 111, 112, 113, 114, 115, 116, 117, 118, 119, 120, 121, 122, 123, 124, 125, 126, 127, 128, 129, 130, 131, 132, 133, 134, 135, 136, 137, 138, 139, 140, 141, 142, 143, 144, 145, 146, 147, 148, 149, 150, 151, 152, 153, 154, 155, 156, 157, 158, 159, 160, 161, 162, 163, 199, 200, 201, 202, 203, 204, 205, 206, 207, 210, 211, 212, 213, 214, 215, 216, 217, 218, 219, 220, 221, 222, 223, 224, 225, 226, 227, 228, 229]) (by decide +kernel)) ga_X2_readText
set_option maxRecDepth 20000 in
theorem ggX9_ground_X9_startAnew : GoodIn wsX9_ground wsX9_startAnew := goodIn_mk (chkPl_mem (ps := [167, 168, 169, 170, 171, 172, 173, 174, 175, 176, 177, 178, 179, 180, 181, 182, 183, 184, 185, 186, 187, 188, 189, 190, 191, 192, 193, 194, 195, 196, 197, 198, 230, 231, 232, 233, 234, 235, 236, 237, 238, 239, 240, 241, 242, 243, 244, 245, 246, 247, 248, 249]) (by decide +kernel)) ga_X9_startAnew
set_option maxRecDepth 20000 in
theorem ggX9_startAnew_X6_restart : GoodIn wsX9_startAnew wsX6_restart := goodIn_mk (chkPl_mem (ps := [11, 12, 13, 14, 15, 16, 17, 18, 43, 44, 45, 46, 47, 48, 49, 50, 51]) (by decide +kernel)) ga_X6_restart
set_option maxRecDepth 20000 in
theorem ggX9_told_X1_period : GoodIn wsX9_told wsX1_period := goodIn_mk (chkPl_mem (ps := [25, 26, 27, 28, 29, 30, 31, 32, 33, 34, 35, 56, 57, 58, 59, 60, 61, 62, 63, 64, 65, 66, 91, 92, 93, 94, 95]) (by decide +kernel)) ga_X1_period
set_option maxRecDepth 20000 in
theorem ggX9_told_X1_pairOf : GoodIn wsX9_told wsX1_pairOf := goodIn_mk (chkPl_mem (ps := [39, 40, 56, 57, 58, 59, 60, 61, 62, 63, 64, 65, 66]) (by decide +kernel)) ga_X1_pairOf
set_option maxRecDepth 20000 in
theorem ggX9_cell_X1_cellAt : GoodIn wsX9_cell wsX1_cellAt := goodIn_mk (chkPl_mem (ps := [14, 15, 16, 80, 81, 82, 83, 84, 85, 86, 87, 88, 89, 90]) (by decide +kernel)) ga_X1_cellAt
set_option maxRecDepth 20000 in
theorem ggX9_cell_X8_stiffOf : GoodIn wsX9_cell wsX8_stiffOf := goodIn_mk (chkPl_mem (ps := [21, 22, 23, 24, 25, 26, 27, 28, 29, 78, 79, 80, 81, 82, 83, 84, 85, 86, 87, 88, 89, 90, 91, 92, 93, 94, 95, 96, 97, 98, 99]) (by decide +kernel)) ga_X8_stiffOf
set_option maxRecDepth 20000 in
theorem ggX9_cell_X8_pullAt : GoodIn wsX9_cell wsX8_pullAt := goodIn_mk (chkPl_mem (ps := [33, 22, 34, 35, 24, 36, 37, 38, 39, 40, 41, 42, 43, 44, 78, 79, 80, 81, 82, 83, 84, 85, 86, 87, 88, 89, 90, 91, 92, 93, 94, 95, 96, 97, 98, 99, 100, 101, 102, 103, 104]) (by decide +kernel)) ga_X8_pullAt
set_option maxRecDepth 20000 in
theorem ggX9_cell_X8_heightAt : GoodIn wsX9_cell wsX8_heightAt := goodIn_mk (chkPl_mem (ps := [48, 22, 49, 50, 18, 19, 20, 21, 23, 24, 25, 26, 27, 28, 29, 51, 31, 32, 33, 34, 35, 36, 37, 38, 39, 40, 41, 42, 43, 44, 78, 79, 80, 81, 82, 83, 84, 85, 86, 87, 88, 89, 90, 91, 92, 93, 94, 95, 96, 97, 98, 99, 100, 101, 102, 103, 104]) (by decide +kernel)) ga_X8_heightAt
set_option maxRecDepth 20000 in
theorem ggX9_cell_X8_leanAt : GoodIn wsX9_cell wsX8_leanAt := goodIn_mk (chkPl_mem (ps := [55, 22, 56, 57, 28, 58, 26, 27, 29, 59, 46, 47, 20, 48, 49, 50, 18, 19, 21, 23, 24, 25, 51, 31, 32, 33, 34, 35, 36, 37, 38, 39, 40, 41, 42, 43, 44, 60, 61, 62, 13, 63, 15, 64, 11, 12, 14, 16, 78, 79, 80, 81, 82, 83, 84, 85, 86, 87, 88, 89, 90, 91, 92, 93, 94, 95, 96, 97, 98, 99, 100, 101, 102, 103, 104]) (by decide +kernel)) ga_X8_leanAt
set_option maxRecDepth 20000 in
theorem ggX9_height_X1_cellAt : GoodIn wsX9_height wsX1_cellAt := goodIn_mk (chkPl_mem (ps := [10, 11, 12, 65, 66, 67, 68, 69, 70, 71, 72, 73, 74, 75]) (by decide +kernel)) ga_X1_cellAt
set_option maxRecDepth 20000 in
theorem ggX9_height_X9_isOff : GoodIn wsX9_height wsX9_isOff := goodIn_mk (chkPl_mem (ps := [16]) (by decide +kernel)) ga_X9_isOff
set_option maxRecDepth 20000 in
theorem ggX9_height_X8_heightAt : GoodIn wsX9_height wsX8_heightAt := goodIn_mk (chkPl_mem (ps := [21, 22, 23, 24, 25, 26, 20, 27, 28, 29, 30, 31, 32, 33, 34, 35, 36, 37, 38, 39, 40, 41, 42, 43, 44, 45, 46, 47, 48, 49, 63, 64, 65, 66, 67, 68, 69, 70, 71, 72, 73, 74, 75, 76, 77, 78, 79, 80, 81, 82, 83, 84, 85, 86, 87, 88, 89]) (by decide +kernel)) ga_X8_heightAt
set_option maxRecDepth 20000 in
theorem ggX9_moon_X9_isNoMoon : GoodIn wsX9_moon wsX9_isNoMoon := goodIn_mk (chkPl_mem (ps := [16, 2, 3, 17, 18, 19, 15, 20, 29, 30, 31, 32, 33, 34, 35, 36, 37, 38, 39, 40, 41, 42, 43, 44, 45, 46, 47, 48, 49, 50, 51, 52, 53, 54]) (by decide +kernel)) ga_X9_isNoMoon
set_option maxRecDepth 20000 in
theorem ggX9_moon_X0_partAt : GoodIn wsX9_moon wsX0_partAt := goodIn_mk (chkPl_mem (ps := [25, 26, 27, 28, 55, 56, 57, 58, 59]) (by decide +kernel)) ga_X0_partAt
set_option maxRecDepth 20000 in
theorem ggX9_house_X5_has : GoodIn wsX9_house wsX5_has := goodIn_mk (chkPl_mem (ps := [15, 16, 121, 122, 123, 124]) (by decide +kernel)) ga_X5_has
set_option maxRecDepth 20000 in
theorem ggX9_house_X1_pairOf : GoodIn wsX9_house wsX1_pairOf := goodIn_mk (chkPl_mem (ps := [21, 22, 110, 111, 112, 113, 114, 115, 116, 117, 118, 119, 120]) (by decide +kernel)) ga_X1_pairOf
set_option maxRecDepth 20000 in
theorem ggX9_house_X8_isBroken : GoodIn wsX9_house wsX8_isBroken := goodIn_mk (chkPl_mem (ps := [27, 28, 29, 30, 31, 32, 33, 34, 35, 36, 26, 37, 38, 39, 40, 41, 42, 43, 44, 45, 46, 47, 48, 49, 50, 51, 52, 53, 54, 55, 56, 57, 58, 59, 60, 61, 62, 63, 64, 65, 66, 67, 68, 69, 70, 71, 72, 73, 20, 74, 22, 75, 76, 77, 78, 79, 108, 109, 110, 111, 112, 113, 114, 115, 116, 117, 118, 119, 120, 121, 122, 123, 124, 125, 126, 127, 128, 129, 130, 131, 132, 133, 134, 135, 136, 137, 138]) (by decide +kernel)) ga_X8_isBroken
set_option maxRecDepth 20000 in
theorem ggX9_house_X8_needOf : GoodIn wsX9_house wsX8_needOf := goodIn_mk (chkPl_mem (ps := [83, 28, 29, 30, 42, 43, 40, 44, 31, 84, 85, 86, 20, 87, 88, 89, 90, 91, 92, 93, 94, 39, 41, 34, 35, 36, 26, 37, 38, 45, 46, 47, 48, 49, 50, 51, 52, 53, 54, 32, 55, 56, 57, 58, 59, 60, 61, 62, 63, 64, 65, 66, 67, 68, 69, 70, 71, 72, 73, 74, 22, 75, 76, 77, 78, 79, 108, 109, 110, 111, 112, 113, 114, 115, 116, 117, 118, 119, 120, 121, 122, 123, 124, 134, 135, 136, 137, 138, 125, 126, 127, 128, 129, 130, 131, 132, 133]) (by decide +kernel)) ga_X8_needOf
set_option maxRecDepth 20000 in
theorem ggX9_crack_X5_has : GoodIn wsX9_crack wsX5_has := goodIn_mk (chkPl_mem (ps := [11, 12, 68, 69, 70, 71]) (by decide +kernel)) ga_X5_has
set_option maxRecDepth 20000 in
theorem ggX9_crack_X9_isOff : GoodIn wsX9_crack wsX9_isOff := goodIn_mk (chkPl_mem (ps := [16]) (by decide +kernel)) ga_X9_isOff
set_option maxRecDepth 20000 in
theorem ggX9_crack_X8_isOpen : GoodIn wsX9_crack wsX8_isOpen := goodIn_mk (chkPl_mem (ps := [21, 22, 23, 24, 25, 26, 27, 28, 20, 29, 30, 31, 32, 33, 34, 35, 36, 37, 38, 39, 40, 41, 55, 56, 57, 58, 59, 60, 61, 62, 63, 64, 65, 66, 67, 68, 69, 70, 71, 72, 73, 74, 75, 76, 77, 78, 79, 80, 81, 82, 83, 84, 85]) (by decide +kernel)) ga_X8_isOpen
set_option maxRecDepth 20000 in
theorem ggX9_pass_X9_isOff : GoodIn wsX9_pass wsX9_isOff := goodIn_mk (chkPl_mem (ps := [9]) (by decide +kernel)) ga_X9_isOff
set_option maxRecDepth 20000 in
theorem ggX9_roll_X9_isNoWay : GoodIn wsX9_roll wsX9_isNoWay := goodIn_mk (chkPl_mem (ps := [14, 15, 16, 13, 17]) (by decide +kernel)) ga_X9_isNoWay
set_option maxRecDepth 20000 in
theorem ggX9_roll_X1_beside : GoodIn wsX9_roll wsX1_beside := goodIn_mk (chkPl_mem (ps := [22, 23, 24, 25, 26, 21, 27, 28, 113, 114, 115, 116, 117, 118, 119, 120, 121, 122, 123]) (by decide +kernel)) ga_X1_beside
set_option maxRecDepth 20000 in
theorem ggX9_roll_X8_pushTo : GoodIn wsX9_roll wsX8_pushTo := goodIn_mk (chkPl_mem (ps := [33, 34, 35, 36, 37, 38, 39, 40, 41, 42, 32, 43, 44, 45, 46, 47, 48, 49, 19, 20, 21, 22, 23, 24, 25, 26, 27, 28, 50, 51, 52, 53, 54, 55, 56, 57, 58, 59, 60, 61, 62, 63, 64, 65, 66, 67, 68, 69, 70, 71, 72, 73, 74, 75, 76, 77, 78, 79, 80, 81, 82, 83, 84, 85, 86, 87, 88, 89, 111, 112, 124, 125, 126, 127, 128, 129, 130, 131, 132, 113, 114, 115, 116, 117, 118, 119, 120, 121, 122, 123, 133, 134, 135, 136, 137, 138, 139, 140, 141]) (by decide +kernel)) ga_X8_pushTo
set_option maxRecDepth 20000 in
theorem ggX9_roll_X8_takeStep : GoodIn wsX9_roll wsX8_takeStep := goodIn_mk (chkPl_mem (ps := [93, 34, 94, 95, 96, 97, 44, 45, 38, 46, 111, 112, 124, 125, 126, 127, 128, 129, 130, 131, 132]) (by decide +kernel)) ga_X8_takeStep
set_option maxRecDepth 20000 in
theorem ggX9_steep_X9_isOff : GoodIn wsX9_steep wsX9_isOff := goodIn_mk (chkPl_mem (ps := [7]) (by decide +kernel)) ga_X9_isOff
set_option maxRecDepth 20000 in
theorem ggX9_load_X1_cellAt : GoodIn wsX9_load wsX1_cellAt := goodIn_mk (chkPl_mem (ps := [11, 12, 13, 42, 43, 44, 45, 46, 47, 48, 49, 50, 51, 52]) (by decide +kernel)) ga_X1_cellAt
set_option maxRecDepth 20000 in
theorem ggX9_load_X9_isOff : GoodIn wsX9_load wsX9_isOff := goodIn_mk (chkPl_mem (ps := [17]) (by decide +kernel)) ga_X9_isOff
set_option maxRecDepth 20000 in
theorem ggX9_prop_X5_has : GoodIn wsX9_prop wsX5_has := goodIn_mk (chkPl_mem (ps := [12, 13, 53, 54, 55, 56]) (by decide +kernel)) ga_X5_has
set_option maxRecDepth 20000 in
theorem ggX9_prop_X9_isOff : GoodIn wsX9_prop wsX9_isOff := goodIn_mk (chkPl_mem (ps := [17]) (by decide +kernel)) ga_X9_isOff
set_option maxRecDepth 20000 in
theorem ggX9_shift_X9_isNoMoon : GoodIn wsX9_shift wsX9_isNoMoon := goodIn_mk (chkPl_mem (ps := [13, 5, 6, 14, 15, 16, 12, 17, 21, 22, 23, 24, 25, 26, 27, 28, 29, 30, 31, 32, 33, 43, 44, 45, 46, 47, 48, 49, 50, 51, 52, 53, 54, 55]) (by decide +kernel)) ga_X9_isNoMoon
set_option maxRecDepth 20000 in
theorem ggX9_shift_X9_isOff : GoodIn wsX9_shift wsX9_isOff := goodIn_mk (chkPl_mem (ps := [17]) (by decide +kernel)) ga_X9_isOff
set_option maxRecDepth 20000 in
theorem ggX9_shift_X9_leftOver : GoodIn wsX9_shift wsX9_leftOver := goodIn_mk (chkPl_mem (ps := [20]) (by decide +kernel)) ga_X9_leftOver
set_option maxRecDepth 20000 in
theorem ggX9_drift_X9_isOff : GoodIn wsX9_drift wsX9_isOff := goodIn_mk (chkPl_mem (ps := [14]) (by decide +kernel)) ga_X9_isOff
set_option maxRecDepth 20000 in
theorem ggX9_drift_X8_stepByDraws : GoodIn wsX9_drift wsX8_stepByDraws := goodIn_mk (chkPl_mem (ps := [19, 20, 21, 22, 23, 24, 25, 26, 27, 28, 29, 30, 31, 32, 18, 33, 34, 35, 36, 37, 38, 13, 39, 40, 41, 42, 43, 44, 45, 46, 47, 48, 49, 50, 51, 52, 53, 54, 55, 56, 57, 58, 59, 60, 61, 62, 63, 64, 65, 66, 67, 68, 69, 70, 71, 72, 73, 74, 75, 76, 77, 78, 79, 80, 81, 82, 83, 84, 85, 86, 87, 88, 89, 90, 91, 92, 93, 94, 95, 96, 97, 98, 99, 100, 101, 102, 103, 104, 105, 106, 107, 108, 126, 127, 139, 140, 141, 142, 143, 144, 145, 146, 147, 128, 129, 130, 131, 132, 133, 134, 135, 136, 137, 138, 148, 149, 150, 151, 152, 153, 154, 155, 156]) (by decide +kernel)) ga_X8_stepByDraws
set_option maxRecDepth 20000 in
theorem ggX9_drift_X1_pairOf : GoodIn wsX9_drift wsX1_pairOf := goodIn_mk (chkPl_mem (ps := [112, 45, 128, 129, 130, 131, 132, 133, 134, 135, 136, 137, 138]) (by decide +kernel)) ga_X1_pairOf
set_option maxRecDepth 20000 in
theorem ggX9_level_X9_isOff : GoodIn wsX9_level wsX9_isOff := goodIn_mk (chkPl_mem (ps := [9]) (by decide +kernel)) ga_X9_isOff
set_option maxRecDepth 20000 in
theorem ggX9_level_X9_isNoStep : GoodIn wsX9_level wsX9_isNoStep := goodIn_mk (chkPl_mem (ps := [12, 13, 6, 7, 8, 9]) (by decide +kernel)) ga_X9_isNoStep
set_option maxRecDepth 20000 in
theorem ggX9_level_X1_period : GoodIn wsX9_level wsX1_period := goodIn_mk (chkPl_mem (ps := [18, 19, 20, 21, 22, 8, 23, 24, 25, 26, 27, 83, 84, 85, 86, 87, 88, 89, 90, 91, 92, 93, 94, 95, 96, 97, 98]) (by decide +kernel)) ga_X1_period
set_option maxRecDepth 20000 in
theorem ggX9_level_X8_spreadOf : GoodIn wsX9_level wsX8_spreadOf := goodIn_mk (chkPl_mem (ps := [32, 33, 34, 35, 36, 26, 37, 38, 39, 40, 41, 42, 43, 31, 44, 45, 46, 47, 48, 49, 50, 51, 52, 53, 54, 55, 56, 57, 58, 59, 60, 61, 62, 63, 64, 65, 66, 67, 81, 82, 83, 84, 85, 86, 87, 88, 89, 90, 91, 92, 93, 99, 100, 101, 102, 103, 104, 105, 106, 107, 94, 95, 96, 97, 98]) (by decide +kernel)) ga_X8_spreadOf
set_option maxRecDepth 20000 in
theorem ggX9_aslant_X9_isNoStep : GoodIn wsX9_aslant wsX9_isNoStep := goodIn_mk (chkPl_mem (ps := [9, 10, 11, 12, 8, 13]) (by decide +kernel)) ga_X9_isNoStep
set_option maxRecDepth 20000 in
theorem ggX9_aslant_X1_period : GoodIn wsX9_aslant wsX1_period := goodIn_mk (chkPl_mem (ps := [18, 19, 20, 21, 22, 8, 23, 24, 25, 26, 27, 94, 95, 96, 97, 98, 99, 100, 101, 102, 103, 104, 105, 106, 107, 108, 109]) (by decide +kernel)) ga_X1_period
set_option maxRecDepth 20000 in
theorem ggX9_aslant_X8_isAslant : GoodIn wsX9_aslant wsX8_isAslant := goodIn_mk (chkPl_mem (ps := [32, 33, 34, 35, 36, 37, 17, 38, 39, 40, 41, 42, 43, 44, 45, 46, 47, 31, 48, 49, 50, 51, 52, 53, 54, 55, 56, 57, 58, 59, 60, 61, 62, 26, 63, 64, 65, 66, 67, 68, 69, 70, 71, 72, 73, 74, 75, 76, 77, 78, 92, 93, 94, 95, 96, 97, 98, 99, 100, 101, 102, 103, 104, 110, 111, 112, 113, 114, 115, 116, 117, 118, 105, 106, 107, 108, 109]) (by decide +kernel)) ga_X8_isAslant
set_option maxRecDepth 20000 in
theorem ggX9_turn_X1_cellAt : GoodIn wsX9_turn wsX1_cellAt := goodIn_mk (chkPl_mem (ps := [10, 11, 12, 81, 82, 83, 84, 85, 86, 87, 88, 89, 90, 91]) (by decide +kernel)) ga_X1_cellAt
set_option maxRecDepth 20000 in
theorem ggX9_turn_X9_isOff : GoodIn wsX9_turn wsX9_isOff := goodIn_mk (chkPl_mem (ps := [16]) (by decide +kernel)) ga_X9_isOff
set_option maxRecDepth 20000 in
theorem ggX9_turn_X1_period : GoodIn wsX9_turn wsX1_period := goodIn_mk (chkPl_mem (ps := [20, 21, 22, 23, 24, 15, 25, 26, 27, 28, 29, 81, 82, 83, 84, 85, 86, 87, 88, 89, 90, 91, 92, 93, 94, 95, 96]) (by decide +kernel)) ga_X1_period
set_option maxRecDepth 20000 in
theorem ggX9_turn_X8_isTurn : GoodIn wsX9_turn wsX8_isTurn := goodIn_mk (chkPl_mem (ps := [34, 35, 36, 37, 33, 38, 39, 40, 41, 42, 43, 44, 45, 46, 47, 48, 49, 28, 50, 51, 52, 53, 54, 55, 56, 57, 58, 59, 60, 61, 62, 63, 64, 65, 79, 80, 81, 82, 83, 84, 85, 86, 87, 88, 89, 90, 91, 97, 98, 99, 100, 101, 102, 103, 104, 105, 92, 93, 94, 95, 96]) (by decide +kernel)) ga_X8_isTurn
set_option maxRecDepth 20000 in
theorem ggX9_most_X1_cellAt : GoodIn wsX9_most wsX1_cellAt := goodIn_mk (chkPl_mem (ps := [9, 10, 11, 66, 67, 68, 69, 70, 71, 72, 73, 74, 75, 76]) (by decide +kernel)) ga_X1_cellAt
set_option maxRecDepth 20000 in
theorem ggX9_most_X9_isNoStep : GoodIn wsX9_most wsX9_isNoStep := goodIn_mk (chkPl_mem (ps := [15, 16, 17, 18, 14, 19]) (by decide +kernel)) ga_X9_isNoStep
set_option maxRecDepth 20000 in
theorem ggX9_most_X9_isOff : GoodIn wsX9_most wsX9_isOff := goodIn_mk (chkPl_mem (ps := [19]) (by decide +kernel)) ga_X9_isOff
set_option maxRecDepth 20000 in
theorem ggX9_most_X1_period : GoodIn wsX9_most wsX1_period := goodIn_mk (chkPl_mem (ps := [23, 24, 25, 26, 27, 14, 28, 29, 30, 31, 32, 66, 67, 68, 69, 70, 71, 72, 73, 74, 75, 76, 77, 78, 79, 80, 81]) (by decide +kernel)) ga_X1_period
set_option maxRecDepth 20000 in
theorem ggX9_most_X8_pullAt : GoodIn wsX9_most wsX8_pullAt := goodIn_mk (chkPl_mem (ps := [37, 38, 39, 40, 41, 42, 43, 44, 45, 46, 47, 48, 49, 50, 64, 65, 66, 67, 68, 69, 70, 71, 72, 73, 74, 75, 76, 82, 83, 84, 85, 86, 87, 88, 89, 90, 77, 78, 79, 80, 81]) (by decide +kernel)) ga_X8_pullAt
set_option maxRecDepth 20000 in
theorem ggX9_bell_X1_cellAt : GoodIn wsX9_bell wsX1_cellAt := goodIn_mk (chkPl_mem (ps := [9, 10, 11, 90, 91, 92, 93, 94, 95, 96, 97, 98, 99, 100]) (by decide +kernel)) ga_X1_cellAt
set_option maxRecDepth 20000 in
theorem ggX9_bell_X9_isOff : GoodIn wsX9_bell wsX9_isOff := goodIn_mk (chkPl_mem (ps := [15]) (by decide +kernel)) ga_X9_isOff
set_option maxRecDepth 20000 in
theorem ggX9_bell_X9_isNoStep : GoodIn wsX9_bell wsX9_isNoStep := goodIn_mk (chkPl_mem (ps := [18, 19, 12, 13, 14, 15]) (by decide +kernel)) ga_X9_isNoStep
set_option maxRecDepth 20000 in
theorem ggX9_bell_X1_period : GoodIn wsX9_bell wsX1_period := goodIn_mk (chkPl_mem (ps := [23, 24, 25, 26, 27, 14, 28, 29, 30, 31, 32, 90, 91, 92, 93, 94, 95, 96, 97, 98, 99, 100, 101, 102, 103, 104, 105]) (by decide +kernel)) ga_X1_period
set_option maxRecDepth 20000 in
theorem ggX9_bell_X8_leanAt : GoodIn wsX9_bell wsX8_leanAt := goodIn_mk (chkPl_mem (ps := [37, 38, 39, 30, 31, 32, 40, 41, 42, 43, 44, 45, 36, 46, 47, 48, 49, 50, 51, 52, 53, 54, 55, 56, 57, 58, 59, 60, 61, 62, 63, 64, 65, 66, 67, 68, 69, 70, 71, 72, 8, 73, 10, 74, 6, 7, 9, 11, 88, 89, 90, 91, 92, 93, 94, 95, 96, 97, 98, 99, 100, 106, 107, 108, 109, 110, 111, 112, 113, 114, 101, 102, 103, 104, 105]) (by decide +kernel)) ga_X8_leanAt
set_option maxRecDepth 20000 in
theorem ggX9_breaks_X9_isNoStep : GoodIn wsX9_breaks wsX9_isNoStep := goodIn_mk (chkPl_mem (ps := [7, 8, 9, 10, 6, 11]) (by decide +kernel)) ga_X9_isNoStep
set_option maxRecDepth 20000 in
theorem ggX9_breaks_X9_isOff : GoodIn wsX9_breaks wsX9_isOff := goodIn_mk (chkPl_mem (ps := [11]) (by decide +kernel)) ga_X9_isOff
set_option maxRecDepth 20000 in
theorem ggX9_breaks_X1_period : GoodIn wsX9_breaks wsX1_period := goodIn_mk (chkPl_mem (ps := [16, 17, 18, 19, 20, 6, 21, 22, 23, 24, 25, 101, 102, 103, 104, 105, 106, 107, 108, 109, 110, 111, 112, 113, 114, 115, 116]) (by decide +kernel)) ga_X1_period
set_option maxRecDepth 20000 in
theorem ggX9_breaks_X8_leastBroken : GoodIn wsX9_breaks wsX8_leastBroken := goodIn_mk (chkPl_mem (ps := [30, 31, 32, 33, 34, 35, 36, 29, 37, 38, 39, 40, 41, 42, 43, 44, 45, 46, 23, 24, 25, 47, 48, 49, 50, 51, 52, 53, 54, 55, 56, 57, 58, 59, 60, 61, 62, 63, 64, 65, 66, 67, 68, 69, 70, 71, 72, 73, 74, 75, 76, 77, 78, 15, 79, 80, 81, 82, 83, 84, 85, 99, 100, 101, 102, 103, 104, 105, 106, 107, 108, 109, 110, 111, 117, 118, 119, 120, 121, 122, 123, 124, 125, 126, 127, 128, 129, 112, 113, 114, 115, 116]) (by decide +kernel)) ga_X8_leastBroken
set_option maxRecDepth 20000 in
theorem ggX9_props_X9_isOff : GoodIn wsX9_props wsX9_isOff := goodIn_mk (chkPl_mem (ps := [9]) (by decide +kernel)) ga_X9_isOff
set_option maxRecDepth 20000 in
theorem ggX9_props_X8_needOf : GoodIn wsX9_props wsX8_needOf := goodIn_mk (chkPl_mem (ps := [14, 15, 16, 17, 18, 19, 20, 21, 22, 23, 24, 25, 26, 27, 28, 29, 30, 31, 8, 32, 33, 34, 35, 36, 37, 38, 13, 39, 40, 41, 42, 43, 44, 45, 46, 47, 48, 49, 50, 51, 52, 53, 54, 55, 56, 57, 58, 59, 60, 61, 62, 63, 64, 65, 66, 67, 68, 69, 70, 71, 72, 73, 74, 75, 76, 77, 91, 92, 93, 94, 95, 96, 97, 98, 99, 100, 101, 102, 103, 104, 105, 106, 107, 108, 109, 110, 111, 112, 113, 114, 115, 116, 117, 118, 119, 120, 121]) (by decide +kernel)) ga_X8_needOf
set_option maxRecDepth 20000 in
theorem ggX9_soonest_X1_cellOfPair : GoodIn wsX9_soonest wsX1_cellOfPair := goodIn_mk (chkPl_mem (ps := [10, 11, 12, 13, 9, 14, 15, 16, 117, 118, 119, 120, 121, 122, 123, 124, 125, 126, 127]) (by decide +kernel)) ga_X1_cellOfPair
set_option maxRecDepth 20000 in
theorem ggX9_soonest_X9_isNoStep : GoodIn wsX9_soonest wsX9_isNoStep := goodIn_mk (chkPl_mem (ps := [20, 21, 22, 23, 19, 24]) (by decide +kernel)) ga_X9_isNoStep
set_option maxRecDepth 20000 in
theorem ggX9_soonest_X3_fewestSteps : GoodIn wsX9_soonest wsX3_fewestSteps := goodIn_mk (chkPl_mem (ps := [29, 30, 31, 32, 28, 33, 34, 35, 36, 37, 38, 39, 9, 40, 15, 11, 12, 13, 14, 16, 41, 42, 43, 44, 45, 46, 47, 48, 49, 50, 51, 52, 53, 54, 55, 56, 57, 58, 59, 60, 61, 62, 63, 64, 65, 66, 67, 68, 69, 70, 71, 72, 73, 74, 75, 76, 77, 78, 79, 80, 81, 82, 83, 84, 85, 86, 87, 88, 89, 90, 91, 92, 93, 94, 95, 96, 97, 98, 99, 100, 101, 128, 129, 130, 131, 115, 116, 117, 118, 119, 120, 121, 122, 123, 124, 125, 126, 127, 132, 133, 134, 135, 136, 137, 138, 139, 140, 141, 142, 143, 144, 145, 146, 147, 148, 149]) (by decide +kernel)) ga_X3_fewestSteps
set_option maxRecDepth 20000 in
theorem ggX9_least_X1_cellOfPair : GoodIn wsX9_least wsX1_cellOfPair := goodIn_mk (chkPl_mem (ps := [10, 11, 12, 13, 9, 14, 15, 16, 125, 126, 127, 128, 129, 130, 131, 132, 133, 134, 135]) (by decide +kernel)) ga_X1_cellOfPair
set_option maxRecDepth 20000 in
theorem ggX9_least_X9_isNoStep : GoodIn wsX9_least wsX9_isNoStep := goodIn_mk (chkPl_mem (ps := [20, 21, 22, 23, 19, 24]) (by decide +kernel)) ga_X9_isNoStep
set_option maxRecDepth 20000 in
theorem ggX9_least_X9_isOff : GoodIn wsX9_least wsX9_isOff := goodIn_mk (chkPl_mem (ps := [24]) (by decide +kernel)) ga_X9_isOff
set_option maxRecDepth 20000 in
theorem ggX9_least_X3_leastPushed : GoodIn wsX9_least wsX3_leastPushed := goodIn_mk (chkPl_mem (ps := [29, 30, 31, 32, 33, 34, 35, 36, 37, 38, 28, 39, 40, 41, 42, 43, 9, 44, 15, 11, 12, 13, 14, 16, 45, 46, 47, 48, 49, 50, 51, 52, 53, 54, 55, 56, 57, 58, 59, 60, 61, 62, 63, 64, 65, 66, 67, 68, 69, 70, 71, 72, 73, 74, 75, 76, 77, 78, 79, 80, 81, 82, 83, 84, 85, 86, 87, 88, 89, 90, 91, 92, 93, 94, 95, 96, 97, 98, 99, 100, 101, 102, 103, 104, 105, 136, 137, 138, 139, 123, 124, 125, 126, 127, 128, 129, 130, 131, 132, 133, 134, 135, 140, 141, 142, 143, 144, 145, 146, 147, 148, 149, 150, 151, 152, 153, 154, 155, 156, 157]) (by decide +kernel)) ga_X3_leastPushed
set_option maxRecDepth 20000 in
theorem ggX9_least_X3_wayTaken : GoodIn wsX9_least wsX3_wayTaken := goodIn_mk (chkPl_mem (ps := [109, 40, 30, 31, 41, 42, 43, 9, 44, 15, 11, 12, 13, 14, 16, 136, 137, 138, 139, 123, 124, 125, 126, 127, 128, 129, 130, 131, 132, 133, 134, 135]) (by decide +kernel)) ga_X3_wayTaken
set_option maxRecDepth 20000 in
theorem ggX9_water_X9_isOff : GoodIn wsX9_water wsX9_isOff := goodIn_mk (chkPl_mem (ps := [13]) (by decide +kernel)) ga_X9_isOff
set_option maxRecDepth 20000 in
theorem ggX9_water_X9_isNoStep : GoodIn wsX9_water wsX9_isNoStep := goodIn_mk (chkPl_mem (ps := [16, 17, 10, 11, 12, 13]) (by decide +kernel)) ga_X9_isNoStep
set_option maxRecDepth 20000 in
theorem ggX9_water_X7_settle : GoodIn wsX9_water wsX7_settle := goodIn_mk (chkPl_mem (ps := [22, 23, 24, 25, 26, 27, 28, 29, 30, 31, 32, 33, 34, 35, 36, 37, 38, 39, 40, 41, 42, 43, 44, 45, 46, 47, 48, 49, 50, 51, 52, 53, 54, 55, 56, 57, 58, 59, 60, 61, 62, 63, 64, 65, 66, 21, 67, 68, 69, 70, 71, 72, 73, 74, 75, 12, 76, 77, 78, 79, 114, 115, 116, 117, 118, 97, 98, 99, 100, 101, 102, 103, 104, 105, 106, 107, 108, 109, 110, 111, 112, 113, 119, 120, 121, 122, 123, 124, 125, 126, 127, 128, 129, 130, 131, 132]) (by decide +kernel)) ga_X7_settle
set_option maxRecDepth 20000 in
theorem ggX9_water_X7_wetWells : GoodIn wsX9_water wsX7_wetWells := goodIn_mk (chkPl_mem (ps := [83, 23, 24, 25, 26, 27, 74, 73, 114, 115, 116, 117, 118, 97, 98, 99, 100, 101, 102, 103, 104, 105, 106, 107, 108, 109, 110, 111, 112, 113]) (by decide +kernel)) ga_X7_wetWells
set_option maxRecDepth 20000 in
theorem ggX9_whose_X5_has : GoodIn wsX9_whose wsX5_has := goodIn_mk (chkPl_mem (ps := [10, 11, 87, 88, 89, 90]) (by decide +kernel)) ga_X5_has
set_option maxRecDepth 20000 in
theorem ggX9_whose_X9_isNoStep : GoodIn wsX9_whose wsX9_isNoStep := goodIn_mk (chkPl_mem (ps := [15, 16, 17, 18, 14, 19]) (by decide +kernel)) ga_X9_isNoStep
set_option maxRecDepth 20000 in
theorem ggX9_whose_X8_cellsWithin : GoodIn wsX9_whose wsX8_cellsWithin := goodIn_mk (chkPl_mem (ps := [24, 25, 26, 27, 28, 29, 30, 31, 32, 23, 33, 34, 35, 36, 37, 38, 39, 40, 41, 42, 43, 44, 45, 46, 47, 48, 49, 50, 51, 52, 53, 54, 55, 56, 57, 58, 59, 60, 18, 14, 19, 74, 75, 76, 77, 78, 79, 80, 81, 82, 83, 84, 85, 86, 87, 88, 89, 90, 91, 92, 93, 94, 95, 96, 97, 98, 99, 100, 101, 102, 103, 104]) (by decide +kernel)) ga_X8_cellsWithin
set_option maxRecDepth 20000 in
theorem ggX9_stays_X5_has : GoodIn wsX9_stays wsX5_has := goodIn_mk (chkPl_mem (ps := [9, 10, 94, 95, 96, 97]) (by decide +kernel)) ga_X5_has
set_option maxRecDepth 20000 in
theorem ggX9_stays_X1_period : GoodIn wsX9_stays wsX1_period := goodIn_mk (chkPl_mem (ps := [15, 16, 17, 18, 19, 20, 21, 22, 23, 24, 25, 83, 84, 85, 86, 87, 88, 89, 90, 91, 92, 93, 98, 99, 100, 101, 102]) (by decide +kernel)) ga_X1_period
set_option maxRecDepth 20000 in
theorem ggX9_stays_X8_cellsWithin : GoodIn wsX9_stays wsX8_cellsWithin := goodIn_mk (chkPl_mem (ps := [30, 31, 32, 33, 34, 35, 36, 37, 38, 29, 39, 40, 41, 42, 43, 44, 45, 46, 47, 48, 49, 24, 50, 51, 52, 53, 54, 55, 56, 57, 58, 59, 60, 61, 62, 63, 64, 65, 66, 20, 67, 81, 82, 83, 84, 85, 86, 87, 88, 89, 90, 91, 92, 93, 94, 95, 96, 97, 103, 104, 105, 106, 107, 108, 109, 110, 111, 98, 99, 100, 101, 102]) (by decide +kernel)) ga_X8_cellsWithin
set_option maxRecDepth 20000 in
theorem ggX9_see_X1_cellAt : GoodIn wsX9_see wsX1_cellAt := goodIn_mk (chkPl_mem (ps := [12, 13, 14, 54, 55, 56, 57, 58, 59, 60, 61, 62, 63, 64]) (by decide +kernel)) ga_X1_cellAt
set_option maxRecDepth 20000 in
theorem ggX9_see_X9_isOff : GoodIn wsX9_see wsX9_isOff := goodIn_mk (chkPl_mem (ps := [18]) (by decide +kernel)) ga_X9_isOff
set_option maxRecDepth 20000 in
theorem ggX9_see_X4_add : GoodIn wsX9_see wsX4_add := goodIn_mk (chkPl_mem (ps := [23, 24, 25, 26, 27, 43, 44, 45, 46, 47, 48, 49, 50, 51, 52, 53]) (by decide +kernel)) ga_X4_add
set_option maxRecDepth 20000 in
theorem ggX9_fits_X9_isNoMoon : GoodIn wsX9_fits wsX9_isNoMoon := goodIn_mk (chkPl_mem (ps := [7, 8, 9, 10, 11, 12, 6, 13, 66, 67, 68, 69, 70, 71, 72, 73, 74, 75, 76, 77, 78, 79, 80, 81, 82, 83, 84, 85, 86, 87, 88, 89, 90, 91]) (by decide +kernel)) ga_X9_isNoMoon
set_option maxRecDepth 20000 in
theorem ggX9_fits_X4_findFits : GoodIn wsX9_fits wsX4_findFits := goodIn_mk (chkPl_mem (ps := [18, 19, 20, 21, 22, 23, 24, 25, 26, 17, 27, 28, 29, 30, 31, 32, 33, 34, 35, 36, 37, 38, 39, 40, 41, 42, 43, 44, 45, 46, 47, 48, 49, 50, 51, 52, 53, 54, 55, 56, 57, 58, 59, 60, 61, 92, 93, 94, 95, 96, 97, 98, 99, 100, 101, 102, 79, 80, 81, 82, 83, 84, 85, 86, 87, 88, 89, 90, 91, 103, 104, 105, 106, 107, 108, 109, 110, 111, 112, 113, 114, 115, 116]) (by decide +kernel)) ga_X4_findFits
set_option maxRecDepth 20000 in
theorem ggX9_fits_X9_isOff : GoodIn wsX9_fits wsX9_isOff := goodIn_mk (chkPl_mem (ps := [13]) (by decide +kernel)) ga_X9_isOff
set_option maxRecDepth 20000 in
theorem ggX9_fits_X4_shiftIn : GoodIn wsX9_fits wsX4_shiftIn := goodIn_mk (chkPl_mem (ps := [65, 22, 33, 51, 52, 17, 53, 92, 93, 94, 95, 96, 97, 98, 99, 100, 101, 102]) (by decide +kernel)) ga_X4_shiftIn
set_option maxRecDepth 20000 in
theorem ggX9_look_X9_isOff : GoodIn wsX9_look wsX9_isOff := goodIn_mk (chkPl_mem (ps := [11]) (by decide +kernel)) ga_X9_isOff
set_option maxRecDepth 20000 in
theorem ggX9_look_X4_findBestLook : GoodIn wsX9_look wsX4_findBestLook := goodIn_mk (chkPl_mem (ps := [16, 17, 18, 19, 20, 21, 22, 23, 24, 25, 26, 15, 27, 28, 29, 30, 31, 32, 33, 34, 35, 36, 37, 38, 39, 40, 41, 42, 43, 44, 45, 46, 47, 48, 49, 50, 51, 52, 53, 54, 55, 56, 57, 58, 59, 60, 61, 62, 63, 64, 65, 66, 67, 68, 69, 70, 71, 72, 73, 74, 75, 76, 77, 78, 100, 101, 102, 103, 104, 105, 106, 107, 108, 109, 110, 98, 99, 111, 112, 113, 114, 115, 116, 117, 118, 119, 120, 121, 122, 123, 124, 125, 126, 127, 128, 129, 130, 131, 132, 133, 134, 135]) (by decide +kernel)) ga_X4_findBestLook
set_option maxRecDepth 20000 in
theorem ggX9_look_X1_pairOf : GoodIn wsX9_look wsX1_pairOf := goodIn_mk (chkPl_mem (ps := [83, 84, 111, 112, 113, 114, 115, 116, 117, 118, 119, 120, 121]) (by decide +kernel)) ga_X1_pairOf
set_option maxRecDepth 20000 in
theorem ggX9_odds_X1_cellAt : GoodIn wsX9_odds wsX1_cellAt := goodIn_mk (chkPl_mem (ps := [11, 12, 13, 87, 88, 89, 90, 91, 92, 93, 94, 95, 96, 97]) (by decide +kernel)) ga_X1_cellAt
set_option maxRecDepth 20000 in
theorem ggX9_odds_X9_isNoMoon : GoodIn wsX9_odds wsX9_isNoMoon := goodIn_mk (chkPl_mem (ps := [18, 1, 2, 19, 20, 21, 17, 22, 72, 73, 74, 75, 76, 77, 78, 79, 80, 81, 82, 83, 84, 85, 86, 87, 88, 89, 90, 91, 92, 93, 94, 95, 96, 97]) (by decide +kernel)) ga_X9_isNoMoon
set_option maxRecDepth 20000 in
theorem ggX9_odds_X9_isOff : GoodIn wsX9_odds wsX9_isOff := goodIn_mk (chkPl_mem (ps := [22]) (by decide +kernel)) ga_X9_isOff
set_option maxRecDepth 20000 in
theorem ggX9_odds_X9_isNoStep : GoodIn wsX9_odds wsX9_isNoStep := goodIn_mk (chkPl_mem (ps := [25, 26, 20, 21, 17, 22]) (by decide +kernel)) ga_X9_isNoStep
set_option maxRecDepth 20000 in
theorem ggX9_odds_X8_leanAt : GoodIn wsX9_odds wsX8_leanAt := goodIn_mk (chkPl_mem (ps := [31, 32, 33, 34, 35, 36, 37, 38, 39, 40, 41, 42, 30, 43, 44, 45, 46, 47, 48, 49, 50, 51, 52, 53, 54, 55, 56, 57, 58, 59, 60, 61, 62, 63, 64, 65, 66, 67, 68, 69, 10, 70, 12, 71, 8, 9, 11, 13, 85, 86, 87, 88, 89, 90, 91, 92, 93, 94, 95, 96, 97, 98, 99, 100, 101, 102, 103, 104, 105, 106, 107, 108, 109, 110, 111]) (by decide +kernel)) ga_X8_leanAt
set_option maxRecDepth 20000 in
theorem ggX9_write_X9_isNoWay : GoodIn wsX9_write wsX9_isNoWay := goodIn_mk (chkPl_mem (ps := [8, 9, 10, 7, 11]) (by decide +kernel)) ga_X9_isNoWay
set_option maxRecDepth 20000 in
theorem ggX9_judge_X9_isOff : GoodIn wsX9_judge wsX9_isOff := goodIn_mk (chkPl_mem (ps := [14]) (by decide +kernel)) ga_X9_isOff
set_option maxRecDepth 20000 in
theorem ggX9_judge_X1_beside : GoodIn wsX9_judge wsX1_beside := goodIn_mk (chkPl_mem (ps := [19, 20, 21, 22, 23, 18, 24, 25, 102, 103, 104, 105, 106, 107, 108, 109, 110, 111, 112]) (by decide +kernel)) ga_X1_beside
set_option maxRecDepth 20000 in
theorem ggX9_judge_X8_pushTo : GoodIn wsX9_judge wsX8_pushTo := goodIn_mk (chkPl_mem (ps := [30, 31, 32, 33, 34, 35, 36, 37, 38, 39, 29, 40, 41, 42, 43, 44, 45, 46, 16, 17, 18, 19, 20, 21, 22, 23, 24, 25, 47, 48, 49, 50, 51, 52, 53, 54, 55, 56, 57, 58, 59, 60, 61, 62, 63, 64, 65, 66, 67, 68, 69, 70, 71, 72, 73, 74, 75, 76, 77, 78, 79, 80, 81, 82, 83, 84, 85, 86, 100, 101, 113, 114, 115, 116, 117, 118, 119, 120, 121, 102, 103, 104, 105, 106, 107, 108, 109, 110, 111, 112, 122, 123, 124, 125, 126, 127, 128, 129, 130]) (by decide +kernel)) ga_X8_pushTo
set_option maxRecDepth 20000 in
theorem ggX9_keep_X9_isOff : GoodIn wsX9_keep wsX9_isOff := goodIn_mk (chkPl_mem (ps := [8]) (by decide +kernel)) ga_X9_isOff
set_option maxRecDepth 20000 in
theorem ggX9_keep_X6_copyFrom : GoodIn wsX9_keep wsX6_copyFrom := goodIn_mk (chkPl_mem (ps := [13, 14, 15, 16, 17, 18, 19, 20, 21, 35, 36, 37, 38, 39, 40, 41, 42, 43]) (by decide +kernel)) ga_X6_copyFrom
set_option maxRecDepth 20000 in
theorem ggX9_goBack_X9_isOff : GoodIn wsX9_goBack wsX9_isOff := goodIn_mk (chkPl_mem (ps := [9]) (by decide +kernel)) ga_X9_isOff
set_option maxRecDepth 20000 in
theorem ggX9_goBack_X6_copyFrom : GoodIn wsX9_goBack wsX6_copyFrom := goodIn_mk (chkPl_mem (ps := [14, 15, 16, 17, 18, 19, 20, 21, 22, 36, 37, 38, 39, 40, 41, 42, 43, 44]) (by decide +kernel)) ga_X6_copyFrom
set_option maxRecDepth 20000 in
theorem ggX9_isNoStep_X9_isOff : GoodIn wsX9_isNoStep wsX9_isOff := goodIn_mk (chkPl_mem (ps := [5]) (by decide +kernel)) ga_X9_isOff
set_option maxRecDepth 20000 in
theorem ggX9_isNoWay_X9_isOff : GoodIn wsX9_isNoWay wsX9_isOff := goodIn_mk (chkPl_mem (ps := [4]) (by decide +kernel)) ga_X9_isOff
set_option maxRecDepth 20000 in
theorem ggX9_isNoMoon_X9_isOff : GoodIn wsX9_isNoMoon wsX9_isOff := goodIn_mk (chkPl_mem (ps := [7]) (by decide +kernel)) ga_X9_isOff
set_option maxRecDepth 20000 in
theorem ggX10_isCell_X10_in : GoodIn wsX10_isCell wsX10_in := goodIn_mk (chkPl_mem (ps := [6]) (by decide +kernel)) ga_X10_in
set_option maxRecDepth 20000 in
theorem ggX10_ofPair_X10_isCell : GoodIn wsX10_ofPair wsX10_isCell := goodIn_mk (chkPl_mem (ps := [6, 1, 7, 8, 9, 5, 10, 11, 12, 13, 14, 15, 16, 17, 18, 19, 20, 21, 22, 23, 24, 25, 26, 27, 28, 29, 30, 31, 32, 33, 34, 35, 36, 37, 38, 39, 40, 41, 42, 43, 44, 45, 46, 47, 48, 49, 50, 51, 52, 53, 54, 55, 56, 57, 58, 59, 60, 61, 62, 63, 64, 65, 66, 67, 68, 69, 70, 71, 72, 73, 74, 75, 76, 77, 78, 79, 80, 81, 82, 83, 84, 85, 86, 87, 88, 89]) (by decide +kernel)) ga_X10_isCell
set_option maxRecDepth 20000 in
theorem ggX10_feed_X10_in : GoodIn wsX10_feed wsX10_in := goodIn_mk (chkPl_mem (ps := [9]) (by decide +kernel)) ga_X10_in
set_option maxRecDepth 20000 in
theorem ggX10_takeNumber_X10_here : GoodIn wsX10_takeNumber wsX10_here := goodIn_mk (chkPl_mem (ps := [12, 3, 6, 7, 21, 22, 23, 24, 25, 26, 27, 28, 29, 30, 31, 32, 33, 34, 35, 36, 37, 38, 39, 40, 41, 42, 43, 44, 45, 46, 47, 48, 49, 50, 51, 52, 53, 54, 55, 56, 57, 58, 59, 60, 61, 62, 63, 64, 65, 66, 67, 68, 69, 70, 71, 72, 73, 74, 75, 76, 77, 78, 79, 80, 81, 82, 83, 84, 85, 86, 87, 88, 89, 90, 91, 92, 93, 94, 95, 96, 97, 98, 99]) (by decide +kernel)) ga_X10_here
set_option maxRecDepth 20000 in
theorem ggX10_takeNumber_X10_in : GoodIn wsX10_takeNumber wsX10_in := goodIn_mk (chkPl_mem (ps := [15]) (by decide +kernel)) ga_X10_in
set_option maxRecDepth 20000 in
theorem ggX10_takeNumber_X10_fails : GoodIn wsX10_takeNumber wsX10_fails := goodIn_mk (chkPl_mem (ps := [19, 20, 21, 22, 23, 24, 25, 26, 27, 28, 29, 30, 31, 32, 33, 34, 35, 36, 37, 38, 39, 40, 41, 42, 43, 44, 45, 46, 47, 48, 49, 50, 51, 52, 53, 54, 55, 56, 57, 58, 59, 60, 61, 62, 63, 64, 65, 66, 67, 68, 69, 70, 71, 72, 73, 74, 75, 76, 77, 78, 79, 80, 81, 82, 83, 84, 85, 86, 87, 88, 89, 90, 91, 92, 93, 94, 95, 96, 97, 98, 99]) (by decide +kernel)) ga_X10_fails
set_option maxRecDepth 20000 in
theorem ggX10_into_X10_takeNumber : GoodIn wsX10_into wsX10_takeNumber := goodIn_mk (chkPl_mem (ps := [6, 7, 8, 9, 10, 1, 11, 12, 13, 14, 15, 5, 16, 17, 18, 19, 20, 21, 22, 23, 24, 25, 26, 27, 28, 29, 30, 31, 32, 33, 34, 35, 36, 37, 38, 39, 40, 41, 42, 43, 44, 45, 46, 47, 48, 49, 50, 51, 52, 53, 54, 55, 56, 57, 58, 59, 60, 61, 62, 63, 64, 65, 66, 67, 68, 69, 70, 71, 72, 73, 74, 75, 76, 77, 78, 79, 80, 81, 82, 83, 84, 85, 86, 87, 88, 89, 90, 91, 92, 93, 94, 95, 96, 97, 98, 99, 100, 101, 102, 103]) (by decide +kernel)) ga_X10_takeNumber
set_option maxRecDepth 20000 in
theorem ggX10_takeGround_X10_takeNumber : GoodIn wsX10_takeGround wsX10_takeNumber := goodIn_mk (chkPl_mem (ps := [11, 12, 13, 14, 2, 1, 15, 16, 17, 18, 19, 10, 20, 21, 22, 23, 24, 25, 26, 27, 28, 29, 30, 31, 32, 33, 34, 35, 36, 37, 38, 39, 40, 41, 42, 43, 44, 45, 46, 47, 48, 49, 50, 51, 52, 53, 54, 55, 56, 57, 58, 59, 60, 61, 62, 63, 64, 65, 66, 67, 68, 69, 70, 71, 72, 73, 74, 75, 76, 77, 78, 79, 80, 81, 82, 83, 84, 85, 86, 87, 88, 89, 90, 91, 92, 93, 94, 95, 96, 97, 98, 99, 100, 101, 102, 103, 104, 105, 106, 107]) (by decide +kernel)) ga_X10_takeNumber
set_option maxRecDepth 20000 in
theorem ggX10_takeGround_X10_fails : GoodIn wsX10_takeGround wsX10_fails := goodIn_mk (chkPl_mem (ps := [27, 28, 29, 30, 31, 32, 33, 34, 35, 36, 37, 38, 39, 40, 41, 42, 43, 44, 45, 46, 47, 48, 49, 50, 51, 52, 53, 54, 55, 56, 57, 58, 59, 60, 61, 62, 63, 64, 65, 66, 67, 68, 69, 70, 71, 72, 73, 74, 75, 76, 77, 78, 79, 80, 81, 82, 83, 84, 85, 86, 87, 88, 89, 90, 91, 92, 93, 94, 95, 96, 97, 98, 99, 100, 101, 102, 103, 104, 105, 106, 107]) (by decide +kernel)) ga_X10_fails
set_option maxRecDepth 20000 in
theorem ggX10_takeCell_X10_takeNumber : GoodIn wsX10_takeCell wsX10_takeNumber := goodIn_mk (chkPl_mem (ps := [9, 10, 11, 12, 13, 2, 14, 15, 16, 17, 18, 8, 19, 20, 21, 22, 23, 24, 25, 26, 27, 28, 29, 30, 31, 32, 33, 34, 35, 36, 37, 38, 39, 40, 41, 42, 43, 44, 45, 46, 47, 48, 49, 50, 51, 52, 53, 54, 55, 56, 57, 58, 59, 60, 61, 62, 63, 64, 65, 66, 67, 68, 69, 70, 71, 72, 73, 74, 75, 76, 77, 78, 79, 80, 81, 82, 83, 84, 85, 86, 87, 88, 89, 90, 91, 92, 93, 94, 95, 96, 97, 98, 99, 100, 101, 102, 103, 104, 105, 106]) (by decide +kernel)) ga_X10_takeNumber
set_option maxRecDepth 20000 in
theorem ggX10_takeNewCell_X10_takeCell : GoodIn wsX10_takeNewCell wsX10_takeCell := goodIn_mk (chkPl_mem (ps := [7, 8, 9, 10, 1, 11, 12, 13, 6, 14, 15, 16, 17, 2, 18, 19, 20, 21, 22, 23, 24, 25, 26, 27, 28, 29, 30, 31, 35, 36, 37, 38, 39, 40, 41, 42, 43, 44, 45, 46, 47, 48, 49, 50, 51, 52, 53, 54, 55, 56, 57, 58, 59, 60, 61, 62, 63, 64, 65, 66, 67, 68, 69, 70, 71, 72, 73, 74, 75, 76, 77, 78, 79, 80, 81, 82, 83, 84, 85, 86, 87, 88, 89, 90, 91, 92, 93, 94, 95, 96, 97, 98, 99, 100, 101, 102, 103, 104, 105, 106, 107, 108, 109, 110, 111, 112, 113]) (by decide +kernel)) ga_X10_takeCell
set_option maxRecDepth 20000 in
theorem ggX10_takeNewCell_X10_isAmong : GoodIn wsX10_takeNewCell wsX10_isAmong := goodIn_mk (chkPl_mem (ps := [34]) (by decide +kernel)) ga_X10_isAmong
set_option maxRecDepth 20000 in
theorem ggX10_takeNewCell_X10_fails : GoodIn wsX10_takeNewCell wsX10_fails := goodIn_mk (chkPl_mem (ps := [30, 31, 35, 36, 37, 38, 39, 40, 41, 42, 43, 44, 45, 46, 47, 48, 49, 50, 51, 52, 53, 54, 55, 56, 57, 58, 59, 60, 61, 62, 63, 64, 65, 66, 67, 68, 69, 70, 71, 72, 73, 74, 75, 76, 77, 78, 79, 80, 81, 82, 83, 84, 85, 86, 87, 88, 89, 90, 91, 92, 93, 94, 95, 96, 97, 98, 99, 100, 101, 102, 103, 104, 105, 106, 107, 108, 109, 110, 111, 112, 113]) (by decide +kernel)) ga_X10_fails
set_option maxRecDepth 20000 in
theorem ggX10_takeOne_X10_takeNewCell : GoodIn wsX10_takeOne wsX10_takeNewCell := goodIn_mk (chkPl_mem (ps := [10, 3, 11, 12, 13, 14, 9, 15, 16, 17, 18, 19, 20, 21, 22, 23, 24, 25, 26, 27, 28, 29, 30, 31, 32, 33, 34, 35, 36, 37, 38, 39, 40, 41, 42, 47, 48, 49, 50, 51, 52, 53, 54, 55, 56, 57, 58, 59, 60, 61, 62, 63, 64, 65, 66, 67, 68, 69, 70, 71, 72, 73, 74, 75, 76, 77, 78, 79, 80, 81, 82, 83, 84, 85, 86, 87, 88, 89, 90, 91, 92, 93, 94, 95, 96, 97, 98, 99, 100, 101, 102, 103, 104, 105, 106, 107, 108, 109, 110, 111, 112, 113, 114, 115, 116, 117, 118, 119, 120, 121, 122, 123, 124, 125]) (by decide +kernel)) ga_X10_takeNewCell
set_option maxRecDepth 20000 in
theorem ggX10_takeOne_X10_into : GoodIn wsX10_takeOne wsX10_into := goodIn_mk (chkPl_mem (ps := [46, 17, 19, 20, 21, 9, 22, 23, 24, 25, 11, 26, 27, 28, 29, 30, 31, 32, 33, 34, 35, 36, 37, 38, 39, 47, 48, 49, 50, 51, 52, 53, 54, 55, 56, 57, 58, 59, 60, 61, 62, 63, 64, 65, 66, 67, 68, 69, 70, 71, 72, 73, 74, 75, 76, 77, 78, 79, 80, 81, 82, 83, 84, 85, 86, 87, 88, 89, 90, 91, 92, 93, 94, 95, 96, 97, 98, 99, 100, 101, 102, 103, 104, 105, 106, 107, 108, 109, 110, 111, 112, 113, 114, 115, 116, 117, 118, 119, 120, 121, 122, 123, 124, 125]) (by decide +kernel)) ga_X10_into
set_option maxRecDepth 20000 in
theorem ggX10_takeMoon_X10_into : GoodIn wsX10_takeMoon wsX10_into := goodIn_mk (chkPl_mem (ps := [12, 6, 13, 14, 15, 11, 16, 17, 18, 7, 19, 20, 21, 22, 23, 24, 25, 26, 27, 28, 29, 30, 31, 32, 33, 34, 35, 36, 37, 38, 39, 40, 41, 42, 43, 44, 45, 46, 47, 48, 49, 50, 51, 52, 53, 54, 55, 56, 57, 58, 59, 60, 61, 62, 63, 64, 65, 66, 67, 68, 69, 70, 71, 72, 73, 74, 75, 76, 77, 78, 79, 80, 81, 82, 83, 84, 85, 86, 87, 88, 89, 90, 91, 92, 93, 94, 95, 96, 97, 98, 99, 100, 101, 102, 103, 104, 105, 106, 107, 108, 109, 110, 111, 112]) (by decide +kernel)) ga_X10_into
set_option maxRecDepth 20000 in
theorem ggX10_takeMoon_X10_takeNumber : GoodIn wsX10_takeMoon wsX10_takeNumber := goodIn_mk (chkPl_mem (ps := [16, 17, 18, 7, 19, 6, 20, 21, 22, 23, 24, 11, 25, 26, 27, 28, 29, 30, 31, 32, 33, 34, 35, 36, 37, 38, 39, 40, 41, 42, 43, 44, 45, 46, 47, 48, 49, 50, 51, 52, 53, 54, 55, 56, 57, 58, 59, 60, 61, 62, 63, 64, 65, 66, 67, 68, 69, 70, 71, 72, 73, 74, 75, 76, 77, 78, 79, 80, 81, 82, 83, 84, 85, 86, 87, 88, 89, 90, 91, 92, 93, 94, 95, 96, 97, 98, 99, 100, 101, 102, 103, 104, 105, 106, 107, 108, 109, 110, 111, 112]) (by decide +kernel)) ga_X10_takeNumber
set_option maxRecDepth 20000 in
theorem ggX10_takeMoon_X10_here : GoodIn wsX10_takeMoon wsX10_here := goodIn_mk (chkPl_mem (ps := [25, 7, 20, 21, 34, 35, 36, 37, 38, 39, 40, 41, 42, 43, 44, 45, 46, 47, 48, 49, 50, 51, 52, 53, 54, 55, 56, 57, 58, 59, 60, 61, 62, 63, 64, 65, 66, 67, 68, 69, 70, 71, 72, 73, 74, 75, 76, 77, 78, 79, 80, 81, 82, 83, 84, 85, 86, 87, 88, 89, 90, 91, 92, 93, 94, 95, 96, 97, 98, 99, 100, 101, 102, 103, 104, 105, 106, 107, 108, 109, 110, 111, 112]) (by decide +kernel)) ga_X10_here
set_option maxRecDepth 20000 in
theorem ggX10_takeMoon_X10_fails : GoodIn wsX10_takeMoon wsX10_fails := goodIn_mk (chkPl_mem (ps := [32, 33, 34, 35, 36, 37, 38, 39, 40, 41, 42, 43, 44, 45, 46, 47, 48, 49, 50, 51, 52, 53, 54, 55, 56, 57, 58, 59, 60, 61, 62, 63, 64, 65, 66, 67, 68, 69, 70, 71, 72, 73, 74, 75, 76, 77, 78, 79, 80, 81, 82, 83, 84, 85, 86, 87, 88, 89, 90, 91, 92, 93, 94, 95, 96, 97, 98, 99, 100, 101, 102, 103, 104, 105, 106, 107, 108, 109, 110, 111, 112]) (by decide +kernel)) ga_X10_fails
set_option maxRecDepth 20000 in
theorem ggX10_takeHouse_X10_takeNewCell : GoodIn wsX10_takeHouse wsX10_takeNewCell := goodIn_mk (chkPl_mem (ps := [8, 9, 10, 11, 12, 13, 7, 14, 15, 16, 17, 18, 19, 20, 21, 22, 23, 24, 25, 26, 27, 28, 29, 30, 31, 32, 33, 34, 35, 36, 37, 38, 39, 40, 41, 46, 47, 48, 49, 50, 51, 52, 53, 54, 55, 56, 57, 58, 59, 60, 61, 62, 63, 64, 65, 66, 67, 68, 69, 70, 71, 72, 73, 74, 75, 76, 77, 78, 79, 80, 81, 82, 83, 84, 85, 86, 87, 88, 89, 90, 91, 92, 93, 94, 95, 96, 97, 98, 99, 100, 101, 102, 103, 104, 105, 106, 107, 108, 109, 110, 111, 112, 113, 114, 115, 116, 117, 118, 119, 120, 121, 122, 123, 124]) (by decide +kernel)) ga_X10_takeNewCell
set_option maxRecDepth 20000 in
theorem ggX10_takeHouse_X10_into : GoodIn wsX10_takeHouse wsX10_into := goodIn_mk (chkPl_mem (ps := [45, 16, 18, 19, 20, 7, 21, 22, 23, 24, 10, 25, 26, 27, 28, 29, 30, 31, 32, 33, 34, 35, 36, 37, 38, 46, 47, 48, 49, 50, 51, 52, 53, 54, 55, 56, 57, 58, 59, 60, 61, 62, 63, 64, 65, 66, 67, 68, 69, 70, 71, 72, 73, 74, 75, 76, 77, 78, 79, 80, 81, 82, 83, 84, 85, 86, 87, 88, 89, 90, 91, 92, 93, 94, 95, 96, 97, 98, 99, 100, 101, 102, 103, 104, 105, 106, 107, 108, 109, 110, 111, 112, 113, 114, 115, 116, 117, 118, 119, 120, 121, 122, 123, 124]) (by decide +kernel)) ga_X10_into
set_option maxRecDepth 20000 in
theorem ggX10_takeCrack_X10_takeCell : GoodIn wsX10_takeCrack wsX10_takeCell := goodIn_mk (chkPl_mem (ps := [14, 4, 2, 5, 3, 15, 16, 17, 13, 18, 19, 20, 21, 6, 22, 23, 24, 25, 26, 27, 28, 29, 30, 31, 32, 33, 34, 35, 40, 41, 42, 43, 44, 45, 46, 47, 48, 49, 50, 51, 52, 53, 54, 55, 56, 57, 58, 59, 60, 61, 62, 63, 64, 65, 66, 67, 68, 69, 70, 71, 72, 73, 74, 75, 76, 77, 78, 79, 80, 81, 82, 83, 84, 85, 86, 87, 88, 89, 90, 91, 92, 93, 94, 95, 96, 97, 98, 99, 100, 101, 102, 103, 104, 105, 106, 107, 108, 109, 110, 111, 112, 113, 114, 115, 116, 117, 118]) (by decide +kernel)) ga_X10_takeCell
set_option maxRecDepth 20000 in
theorem ggX10_takeCrack_X10_takeNumber : GoodIn wsX10_takeCrack wsX10_takeNumber := goodIn_mk (chkPl_mem (ps := [18, 19, 20, 21, 6, 2, 22, 23, 24, 25, 26, 13, 27, 28, 29, 30, 31, 32, 33, 34, 35, 40, 41, 42, 43, 44, 45, 46, 47, 48, 49, 50, 51, 52, 53, 54, 55, 56, 57, 58, 59, 60, 61, 62, 63, 64, 65, 66, 67, 68, 69, 70, 71, 72, 73, 74, 75, 76, 77, 78, 79, 80, 81, 82, 83, 84, 85, 86, 87, 88, 89, 90, 91, 92, 93, 94, 95, 96, 97, 98, 99, 100, 101, 102, 103, 104, 105, 106, 107, 108, 109, 110, 111, 112, 113, 114, 115, 116, 117, 118]) (by decide +kernel)) ga_X10_takeNumber
set_option maxRecDepth 20000 in
theorem ggX10_takeCrack_X10_fails : GoodIn wsX10_takeCrack wsX10_fails := goodIn_mk (chkPl_mem (ps := [34, 35, 40, 41, 42, 43, 44, 45, 46, 47, 48, 49, 50, 51, 52, 53, 54, 55, 56, 57, 58, 59, 60, 61, 62, 63, 64, 65, 66, 67, 68, 69, 70, 71, 72, 73, 74, 75, 76, 77, 78, 79, 80, 81, 82, 83, 84, 85, 86, 87, 88, 89, 90, 91, 92, 93, 94, 95, 96, 97, 98, 99, 100, 101, 102, 103, 104, 105, 106, 107, 108, 109, 110, 111, 112, 113, 114, 115, 116, 117, 118]) (by decide +kernel)) ga_X10_fails
set_option maxRecDepth 20000 in
theorem ggX10_takeCrack_X10_into : GoodIn wsX10_takeCrack wsX10_into := goodIn_mk (chkPl_mem (ps := [39, 2, 15, 16, 17, 13, 18, 19, 20, 21, 6, 22, 23, 24, 25, 26, 27, 28, 29, 30, 31, 32, 33, 34, 35, 40, 41, 42, 43, 44, 45, 46, 47, 48, 49, 50, 51, 52, 53, 54, 55, 56, 57, 58, 59, 60, 61, 62, 63, 64, 65, 66, 67, 68, 69, 70, 71, 72, 73, 74, 75, 76, 77, 78, 79, 80, 81, 82, 83, 84, 85, 86, 87, 88, 89, 90, 91, 92, 93, 94, 95, 96, 97, 98, 99, 100, 101, 102, 103, 104, 105, 106, 107, 108, 109, 110, 111, 112, 113, 114, 115, 116, 117, 118]) (by decide +kernel)) ga_X10_into
set_option maxRecDepth 20000 in
theorem ggX10_takeWell_X10_takeNewCell : GoodIn wsX10_takeWell wsX10_takeNewCell := goodIn_mk (chkPl_mem (ps := [8, 9, 10, 11, 12, 13, 7, 14, 15, 16, 17, 18, 19, 20, 21, 22, 23, 24, 25, 26, 27, 28, 29, 30, 31, 32, 33, 34, 35, 36, 37, 38, 39, 40, 41, 46, 47, 48, 49, 50, 51, 52, 53, 54, 55, 56, 57, 58, 59, 60, 61, 62, 63, 64, 65, 66, 67, 68, 69, 70, 71, 72, 73, 74, 75, 76, 77, 78, 79, 80, 81, 82, 83, 84, 85, 86, 87, 88, 89, 90, 91, 92, 93, 94, 95, 96, 97, 98, 99, 100, 101, 102, 103, 104, 105, 106, 107, 108, 109, 110, 111, 112, 113, 114, 115, 116, 117, 118, 119, 120, 121, 122, 123, 124]) (by decide +kernel)) ga_X10_takeNewCell
set_option maxRecDepth 20000 in
theorem ggX10_takeWell_X10_into : GoodIn wsX10_takeWell wsX10_into := goodIn_mk (chkPl_mem (ps := [45, 16, 18, 19, 20, 7, 21, 22, 23, 24, 10, 25, 26, 27, 28, 29, 30, 31, 32, 33, 34, 35, 36, 37, 38, 46, 47, 48, 49, 50, 51, 52, 53, 54, 55, 56, 57, 58, 59, 60, 61, 62, 63, 64, 65, 66, 67, 68, 69, 70, 71, 72, 73, 74, 75, 76, 77, 78, 79, 80, 81, 82, 83, 84, 85, 86, 87, 88, 89, 90, 91, 92, 93, 94, 95, 96, 97, 98, 99, 100, 101, 102, 103, 104, 105, 106, 107, 108, 109, 110, 111, 112, 113, 114, 115, 116, 117, 118, 119, 120, 121, 122, 123, 124]) (by decide +kernel)) ga_X10_into
set_option maxRecDepth 20000 in
theorem ggX10_takeDeed_X10_into : GoodIn wsX10_takeDeed wsX10_into := goodIn_mk (chkPl_mem (ps := [9, 10, 11, 12, 13, 8, 14, 15, 16, 17, 4, 18, 19, 20, 21, 22, 23, 24, 25, 26, 27, 28, 29, 30, 31, 32, 33, 34, 35, 36, 37, 38, 39, 40, 41, 42, 43, 44, 45, 46, 47, 48, 49, 50, 51, 52, 53, 54, 55, 56, 57, 58, 59, 60, 61, 62, 63, 64, 65, 66, 67, 68, 69, 70, 71, 72, 73, 74, 75, 76, 77, 78, 79, 80, 81, 82, 83, 84, 85, 86, 87, 88, 89, 90, 91, 92, 93, 94, 95, 96, 97, 98, 99, 100, 101, 102, 103, 104, 105, 106, 107, 108, 109, 110]) (by decide +kernel)) ga_X10_into
set_option maxRecDepth 20000 in
theorem ggX10_takeDeed_X10_fails : GoodIn wsX10_takeDeed wsX10_fails := goodIn_mk (chkPl_mem (ps := [30, 31, 32, 33, 34, 35, 36, 37, 38, 39, 40, 41, 42, 43, 44, 45, 46, 47, 48, 49, 50, 51, 52, 53, 54, 55, 56, 57, 58, 59, 60, 61, 62, 63, 64, 65, 66, 67, 68, 69, 70, 71, 72, 73, 74, 75, 76, 77, 78, 79, 80, 81, 82, 83, 84, 85, 86, 87, 88, 89, 90, 91, 92, 93, 94, 95, 96, 97, 98, 99, 100, 101, 102, 103, 104, 105, 106, 107, 108, 109, 110]) (by decide +kernel)) ga_X10_fails
set_option maxRecDepth 20000 in
theorem ggX10_takeClause_X10_here : GoodIn wsX10_takeClause wsX10_here := goodIn_mk (chkPl_mem (ps := [13, 2, 14, 15, 93, 94, 95, 96, 97, 98, 99, 100, 101, 102, 103, 104, 105, 106, 107, 108, 109, 110, 111, 112, 113, 114, 115, 116, 117, 118, 119, 120, 121, 122, 123, 124, 125, 126, 127, 128, 129, 130, 131, 132, 133, 134, 135, 136, 137, 138, 139, 140, 141, 142, 143, 144, 145, 146, 147, 148, 149, 150, 151, 152, 153, 154, 155, 156, 157, 158, 159, 160, 161, 162, 163, 164, 165, 166, 167, 168, 169, 170, 171]) (by decide +kernel)) ga_X10_here
set_option maxRecDepth 20000 in
theorem ggX10_takeClause_X10_fails : GoodIn wsX10_takeClause wsX10_fails := goodIn_mk (chkPl_mem (ps := [19, 20, 93, 94, 95, 96, 97, 98, 99, 100, 101, 102, 103, 104, 105, 106, 107, 108, 109, 110, 111, 112, 113, 114, 115, 116, 117, 118, 119, 120, 121, 122, 123, 124, 125, 126, 127, 128, 129, 130, 131, 132, 133, 134, 135, 136, 137, 138, 139, 140, 141, 142, 143, 144, 145, 146, 147, 148, 149, 150, 151, 152, 153, 154, 155, 156, 157, 158, 159, 160, 161, 162, 163, 164, 165, 166, 167, 168, 169, 170, 171]) (by decide +kernel)) ga_X10_fails
set_option maxRecDepth 20000 in
theorem ggX10_takeClause_X10_takeGround : GoodIn wsX10_takeClause wsX10_takeGround := goodIn_mk (chkPl_mem (ps := [24, 25, 26, 1, 27, 28, 29, 30, 31, 32, 12, 33, 34, 35, 2, 14, 15, 9, 10, 11, 13, 36, 37, 38, 16, 17, 18, 19, 20, 93, 94, 95, 96, 97, 98, 99, 100, 101, 102, 103, 104, 105, 106, 107, 108, 109, 110, 111, 112, 113, 114, 115, 116, 117, 118, 119, 120, 121, 122, 123, 124, 125, 126, 127, 128, 129, 130, 131, 132, 133, 134, 135, 136, 137, 138, 139, 140, 141, 142, 143, 144, 145, 146, 147, 148, 149, 150, 151, 152, 153, 154, 155, 156, 157, 158, 159, 160, 161, 162, 163, 164, 165, 166, 167, 168, 169, 170, 171]) (by decide +kernel)) ga_X10_takeGround
set_option maxRecDepth 20000 in
theorem ggX10_takeClause_X10_takeOne : GoodIn wsX10_takeClause wsX10_takeOne := goodIn_mk (chkPl_mem (ps := [42, 3, 43, 44, 28, 29, 45, 46, 47, 12, 48, 26, 49, 50, 51, 52, 1, 25, 27, 30, 31, 32, 33, 34, 35, 2, 14, 15, 9, 10, 11, 13, 36, 37, 38, 16, 17, 18, 19, 20, 53, 54, 55, 56, 57, 58, 59, 93, 94, 95, 96, 97, 98, 99, 100, 101, 102, 103, 104, 105, 106, 107, 108, 109, 110, 111, 112, 113, 114, 115, 116, 117, 118, 119, 120, 121, 122, 123, 124, 125, 126, 127, 128, 129, 130, 131, 132, 133, 134, 135, 136, 137, 138, 139, 140, 141, 142, 143, 144, 145, 146, 147, 148, 149, 150, 151, 152, 153, 154, 155, 156, 157, 158, 159, 160, 161, 162, 163, 164, 165, 166, 167, 168, 169, 170, 171]) (by decide +kernel)) ga_X10_takeOne
set_option maxRecDepth 20000 in
theorem ggX10_takeClause_X10_takeMoon : GoodIn wsX10_takeClause wsX10_takeMoon := goodIn_mk (chkPl_mem (ps := [63, 4, 64, 65, 66, 67, 25, 2, 56, 57, 58, 12, 59, 30, 31, 32, 33, 34, 35, 26, 14, 15, 9, 10, 11, 13, 36, 37, 38, 16, 17, 18, 19, 20, 93, 94, 95, 96, 97, 98, 99, 100, 101, 102, 103, 104, 105, 106, 107, 108, 109, 110, 111, 112, 113, 114, 115, 116, 117, 118, 119, 120, 121, 122, 123, 124, 125, 126, 127, 128, 129, 130, 131, 132, 133, 134, 135, 136, 137, 138, 139, 140, 141, 142, 143, 144, 145, 146, 147, 148, 149, 150, 151, 152, 153, 154, 155, 156, 157, 158, 159, 160, 161, 162, 163, 164, 165, 166, 167, 168, 169, 170, 171]) (by decide +kernel)) ga_X10_takeMoon
set_option maxRecDepth 20000 in
theorem ggX10_takeClause_X10_takeHouse : GoodIn wsX10_takeClause wsX10_takeHouse := goodIn_mk (chkPl_mem (ps := [71, 5, 72, 73, 45, 46, 47, 12, 48, 44, 26, 49, 50, 51, 52, 1, 25, 27, 30, 31, 32, 33, 34, 35, 2, 14, 15, 9, 10, 11, 13, 36, 37, 38, 16, 17, 18, 19, 20, 53, 54, 55, 56, 57, 58, 59, 93, 94, 95, 96, 97, 98, 99, 100, 101, 102, 103, 104, 105, 106, 107, 108, 109, 110, 111, 112, 113, 114, 115, 116, 117, 118, 119, 120, 121, 122, 123, 124, 125, 126, 127, 128, 129, 130, 131, 132, 133, 134, 135, 136, 137, 138, 139, 140, 141, 142, 143, 144, 145, 146, 147, 148, 149, 150, 151, 152, 153, 154, 155, 156, 157, 158, 159, 160, 161, 162, 163, 164, 165, 166, 167, 168, 169, 170, 171]) (by decide +kernel)) ga_X10_takeHouse
set_option maxRecDepth 20000 in
theorem ggX10_takeClause_X10_takeCrack : GoodIn wsX10_takeClause wsX10_takeCrack := goodIn_mk (chkPl_mem (ps := [77, 6, 25, 44, 1, 27, 26, 78, 79, 80, 49, 50, 51, 12, 52, 30, 31, 32, 33, 34, 35, 2, 14, 15, 9, 10, 11, 13, 36, 37, 38, 16, 17, 18, 19, 20, 56, 57, 58, 59, 93, 94, 95, 96, 97, 98, 99, 100, 101, 102, 103, 104, 105, 106, 107, 108, 109, 110, 111, 112, 113, 114, 115, 116, 117, 118, 119, 120, 121, 122, 123, 124, 125, 126, 127, 128, 129, 130, 131, 132, 133, 134, 135, 136, 137, 138, 139, 140, 141, 142, 143, 144, 145, 146, 147, 148, 149, 150, 151, 152, 153, 154, 155, 156, 157, 158, 159, 160, 161, 162, 163, 164, 165, 166, 167, 168, 169, 170, 171]) (by decide +kernel)) ga_X10_takeCrack
set_option maxRecDepth 20000 in
theorem ggX10_takeClause_X10_takeWell : GoodIn wsX10_takeClause wsX10_takeWell := goodIn_mk (chkPl_mem (ps := [84, 7, 85, 86, 45, 46, 47, 12, 48, 44, 26, 49, 50, 51, 52, 1, 25, 27, 30, 31, 32, 33, 34, 35, 2, 14, 15, 9, 10, 11, 13, 36, 37, 38, 16, 17, 18, 19, 20, 53, 54, 55, 56, 57, 58, 59, 93, 94, 95, 96, 97, 98, 99, 100, 101, 102, 103, 104, 105, 106, 107, 108, 109, 110, 111, 112, 113, 114, 115, 116, 117, 118, 119, 120, 121, 122, 123, 124, 125, 126, 127, 128, 129, 130, 131, 132, 133, 134, 135, 136, 137, 138, 139, 140, 141, 142, 143, 144, 145, 146, 147, 148, 149, 150, 151, 152, 153, 154, 155, 156, 157, 158, 159, 160, 161, 162, 163, 164, 165, 166, 167, 168, 169, 170, 171]) (by decide +kernel)) ga_X10_takeWell
set_option maxRecDepth 20000 in
theorem ggX10_takeClause_X10_takeDeed : GoodIn wsX10_takeClause wsX10_takeDeed := goodIn_mk (chkPl_mem (ps := [90, 8, 91, 92, 26, 56, 57, 58, 12, 59, 25, 30, 31, 32, 33, 34, 35, 2, 14, 15, 9, 10, 11, 13, 36, 37, 38, 16, 17, 18, 19, 20, 93, 94, 95, 96, 97, 98, 99, 100, 101, 102, 103, 104, 105, 106, 107, 108, 109, 110, 111, 112, 113, 114, 115, 116, 117, 118, 119, 120, 121, 122, 123, 124, 125, 126, 127, 128, 129, 130, 131, 132, 133, 134, 135, 136, 137, 138, 139, 140, 141, 142, 143, 144, 145, 146, 147, 148, 149, 150, 151, 152, 153, 154, 155, 156, 157, 158, 159, 160, 161, 162, 163, 164, 165, 166, 167, 168, 169, 170, 171]) (by decide +kernel)) ga_X10_takeDeed
set_option maxRecDepth 20000 in
theorem ggX10_takeRead_X10_divisor : GoodIn wsX10_takeRead wsX10_divisor := goodIn_mk (chkPl_mem (ps := [52]) (by decide +kernel)) ga_X10_divisor
set_option maxRecDepth 20000 in
theorem ggX10_ground_X10_here : GoodIn wsX10_ground wsX10_here := goodIn_mk (chkPl_mem (ps := [23, 2, 11, 24, 141, 142, 143, 144, 145, 146, 147, 148, 149, 150, 151, 152, 153, 154, 155, 156, 157, 158, 159, 160, 161, 162, 163, 164, 165, 166, 167, 168, 169, 170, 171, 172, 173, 174, 175, 176, 177, 178, 179, 180, 181, 182, 183, 184, 185, 186, 187, 188, 189, 190, 191, 192, 193, 194, 195, 196, 197, 198, 199, 200, 201, 202, 203, 204, 205, 206, 207, 208, 209, 210, 211, 212, 213, 214, 215, 216, 217, 218, 219]) (by decide +kernel)) ga_X10_here
set_option maxRecDepth 20000 in
theorem ggX10_ground_X10_takeClause : GoodIn wsX10_ground wsX10_takeClause := goodIn_mk (chkPl_mem (ps := [28, 3, 2, 5, 6, 7, 8, 9, 10, 19, 20, 21, 22, 23, 11, 24, 29, 30, 31, 32, 1, 33, 34, 35, 36, 37, 38, 4, 39, 40, 41, 42, 43, 44, 45, 46, 47, 48, 49, 50, 51, 52, 53, 54, 55, 56, 57, 58, 59, 60, 61, 62, 63, 64, 65, 66, 67, 68, 69, 70, 71, 72, 73, 74, 75, 76, 77, 78, 79, 80, 81, 82, 83, 84, 85, 86, 87, 88, 89, 90, 91, 92, 93, 94, 95, 96, 97, 98, 99, 100, 101, 102, 103, 141, 142, 143, 144, 145, 146, 147, 148, 149, 150, 151, 152, 153, 154, 155, 156, 157, 158, 159, 160, 161, 162, 163, 164, 165, 166, 167, 168, 169, 170, 171, 172, 173, 174, 175, 176, 177, 178, 179, 180, 181, 182, 183, 184, 185, 186, 187, 188, 189, 190, 191, 192, 193, 194, 195, 196, 197, 198, 199, 200, 201, 202, 203, 204, 205, 206, 207, 208, 209, 210, 211, 212, 213, 214, 215, 216, 217, 218, 219]) (by decide +kernel)) ga_X10_takeClause
set_option maxRecDepth 20000 in
theorem ggX10_ground_X10_takeRead : GoodIn wsX10_ground wsX10_takeRead := goodIn_mk (chkPl_mem (ps := [107, 3, 108, 4, 109, 6, 110, 7, 111, 8, 112, 9, 113, 10, 114, 115, 116, 39, 117, 40, 118, 119, 77, 120, 75, 121, 76, 122, 123, 78, 124, 83, 125, 84, 126, 127, 89, 128, 90, 129, 91, 130, 96, 131, 97, 132, 102, 133, 103, 134, 135, 22, 136, 141, 142, 143, 144, 145, 146, 147, 148, 149, 150, 151, 152, 153, 154, 155, 156, 157, 158, 159, 160, 161, 162, 163, 164, 165, 166, 167, 168, 169, 170, 171, 172, 173, 174, 175, 176, 177, 178, 179, 180, 181, 182, 183, 184, 185, 186, 187, 188, 189, 190, 191, 192, 193, 194, 195, 196, 197, 198, 199, 200, 201, 202, 203, 204, 205, 206, 207, 208, 209, 210, 211, 212, 213, 214, 215, 216, 217, 218, 219]) (by decide +kernel)) ga_X10_takeRead
set_option maxRecDepth 20000 in
theorem ggX10_ground_X10_cells : GoodIn wsX10_ground wsX10_cells := goodIn_mk (chkPl_mem (ps := [140, 108, 109, 141, 142, 143, 144, 145, 146, 147, 148, 149, 150, 151, 152, 153, 154, 155, 156, 157, 158, 159, 160, 161, 162, 163, 164, 165, 166, 167, 168, 169, 170, 171, 172, 173, 174, 175, 176, 177, 178, 179, 180, 181, 182, 183, 184, 185, 186, 187, 188, 189, 190, 191, 192, 193, 194, 195, 196, 197, 198, 199, 200, 201, 202, 203, 204, 205, 206, 207, 208, 209, 210, 211, 212, 213, 214, 215, 216, 217, 218, 219]) (by decide +kernel)) ga_X10_cells
set_option maxRecDepth 20000 in
theorem ggX10_pullAt_X10_partOf : GoodIn wsX10_pullAt wsX10_partOf := goodIn_mk (chkPl_mem (ps := [6, 7, 8, 9, 10, 11, 12, 13, 14, 15, 16, 17, 18, 19, 20, 21, 22, 23, 24, 25, 26, 27, 28, 29, 30, 31, 32, 33, 34, 35, 36, 37, 38, 39, 40, 41, 42, 43, 44, 45, 46, 47, 48, 49, 50, 51, 52, 53, 54, 55, 56, 57, 58, 59, 60, 61, 62, 63, 64, 65, 66, 67, 68, 69, 70, 71, 72, 73, 74, 75, 76, 77, 78, 79, 80, 81, 82, 83, 84, 85, 86, 87, 88, 89, 90, 91, 92]) (by decide +kernel)) ga_X10_partOf
set_option maxRecDepth 20000 in
theorem ggX10_heightAt_X10_stiffOf : GoodIn wsX10_heightAt wsX10_stiffOf := goodIn_mk (chkPl_mem (ps := [6, 7, 8, 25, 26, 27, 28, 29, 30, 31, 32, 33, 34, 35, 36, 37, 38, 39, 40, 41, 42, 43, 44, 45, 46, 47, 48, 49, 50, 51, 52, 53, 54, 55, 56, 57, 58, 59, 60, 61, 62, 63, 64, 65, 66, 67, 68, 69, 70, 71, 72, 73, 74, 75, 76, 77, 78, 79, 80, 81, 82, 83, 84, 85, 86, 87, 88, 89, 90, 91, 92, 93, 94, 95, 96, 97, 98, 99, 100, 101, 102, 103]) (by decide +kernel)) ga_X10_stiffOf
set_option maxRecDepth 20000 in
theorem ggX10_heightAt_X10_pullAt : GoodIn wsX10_heightAt wsX10_pullAt := goodIn_mk (chkPl_mem (ps := [12, 13, 14, 15, 16, 5, 17, 18, 19, 20, 21, 22, 23, 24, 25, 26, 27, 28, 29, 30, 31, 32, 33, 34, 35, 36, 37, 38, 39, 40, 41, 42, 43, 44, 45, 46, 47, 48, 49, 50, 51, 52, 53, 54, 55, 56, 57, 58, 59, 60, 61, 62, 63, 64, 65, 66, 67, 68, 69, 70, 71, 72, 73, 74, 75, 76, 77, 78, 79, 80, 81, 82, 83, 84, 85, 86, 87, 88, 89, 90, 91, 92, 93, 94, 95, 96, 97, 98, 99, 100, 101, 102, 103]) (by decide +kernel)) ga_X10_pullAt
set_option maxRecDepth 20000 in
theorem ggX10_beside_X10_isCell : GoodIn wsX10_beside wsX10_isCell := goodIn_mk (chkPl_mem (ps := [6, 1, 7, 8, 9, 5, 10, 11, 12, 13, 14, 15, 16, 17, 18, 19, 20, 21, 22, 23, 24, 25, 26, 27, 28, 29, 30, 31, 32, 33, 34, 35, 36, 37, 38, 39, 40, 41, 42, 43, 44, 45, 46, 47, 48, 49, 50, 51, 52, 53, 54, 55, 56, 57, 58, 59, 60, 61, 62, 63, 64, 65, 66, 67, 68, 69, 70, 71, 72, 73, 74, 75, 76, 77, 78, 79, 80, 81, 82, 83, 84, 85, 86, 87, 88, 89]) (by decide +kernel)) ga_X10_isCell
set_option maxRecDepth 20000 in
theorem ggX10_leanAt_X10_beside : GoodIn wsX10_leanAt wsX10_beside := goodIn_mk (chkPl_mem (ps := [5, 6, 7, 8, 9, 4, 10, 11, 12, 13, 14, 41, 42, 43, 44, 45, 46, 47, 48, 49, 50, 51, 52, 53, 54, 55, 56, 57, 58, 59, 60, 61, 62, 63, 64, 65, 66, 67, 68, 69, 70, 71, 72, 73, 74, 75, 76, 77, 78, 79, 80, 81, 82, 83, 84, 85, 86, 87, 88, 89, 90, 91, 92, 93, 94, 95, 96, 97, 98, 99, 100, 101, 102, 103, 104, 105, 106, 107, 108, 109, 110, 111, 112, 113, 114, 115, 116, 117, 118, 119]) (by decide +kernel)) ga_X10_beside
set_option maxRecDepth 20000 in
theorem ggX10_leanAt_X10_heightAt : GoodIn wsX10_leanAt wsX10_heightAt := goodIn_mk (chkPl_mem (ps := [18, 19, 20, 21, 22, 4, 23, 24, 25, 26, 27, 28, 29, 30, 31, 32, 33, 34, 35, 36, 37, 38, 6, 39, 40, 41, 42, 43, 44, 45, 46, 47, 48, 49, 50, 51, 52, 53, 54, 55, 56, 57, 58, 59, 60, 61, 62, 63, 64, 65, 66, 67, 68, 69, 70, 71, 72, 73, 74, 75, 76, 77, 78, 79, 80, 81, 82, 83, 84, 85, 86, 87, 88, 89, 90, 91, 92, 93, 94, 95, 96, 97, 98, 99, 100, 101, 102, 103, 104, 105, 106, 107, 108, 109, 110, 111, 112, 113, 114, 115, 116, 117, 118, 119]) (by decide +kernel)) ga_X10_heightAt
set_option maxRecDepth 20000 in
theorem ggX10_told_X10_pairOf : GoodIn wsX10_told wsX10_pairOf := goodIn_mk (chkPl_mem (ps := [21, 1, 22, 23, 24, 25, 26, 27, 28, 29, 30, 31, 32, 33, 34, 35, 36, 37, 38, 39, 40, 41, 42, 43, 44, 45, 46, 47, 48, 49, 50, 51, 52, 53, 54, 55, 56, 57, 58, 59, 60, 61, 62, 63, 64, 65, 66, 67, 68, 69, 70, 71, 72, 73, 74, 75, 76, 77, 78, 79, 80, 81, 82, 83, 84, 85, 86, 87, 88, 89, 90, 91, 92, 93, 94, 95, 96, 97, 98, 99, 100]) (by decide +kernel)) ga_X10_pairOf
set_option maxRecDepth 20000 in
theorem ggX10_cell_X10_isCell : GoodIn wsX10_cell wsX10_isCell := goodIn_mk (chkPl_mem (ps := [12, 2, 13, 14, 15, 11, 16, 48, 49, 50, 51, 52, 53, 54, 55, 56, 57, 58, 59, 60, 61, 62, 63, 64, 65, 66, 67, 68, 69, 70, 71, 72, 73, 74, 75, 76, 77, 78, 79, 80, 81, 82, 83, 84, 85, 86, 87, 88, 89, 90, 91, 92, 93, 94, 95, 96, 97, 98, 99, 100, 101, 102, 103, 104, 105, 106, 107, 108, 109, 110, 111, 112, 113, 114, 115, 116, 117, 118, 119, 120, 121, 122, 123, 124, 125, 126]) (by decide +kernel)) ga_X10_isCell
set_option maxRecDepth 20000 in
theorem ggX10_cell_X10_stiffOf : GoodIn wsX10_cell wsX10_stiffOf := goodIn_mk (chkPl_mem (ps := [20, 4, 5, 48, 49, 50, 51, 52, 53, 54, 55, 56, 57, 58, 59, 60, 61, 62, 63, 64, 65, 66, 67, 68, 69, 70, 71, 72, 73, 74, 75, 76, 77, 78, 79, 80, 81, 82, 83, 84, 85, 86, 87, 88, 89, 90, 91, 92, 93, 94, 95, 96, 97, 98, 99, 100, 101, 102, 103, 104, 105, 106, 107, 108, 109, 110, 111, 112, 113, 114, 115, 116, 117, 118, 119, 120, 121, 122, 123, 124, 125, 126]) (by decide +kernel)) ga_X10_stiffOf
set_option maxRecDepth 20000 in
theorem ggX10_cell_X10_pullAt : GoodIn wsX10_cell wsX10_pullAt := goodIn_mk (chkPl_mem (ps := [24, 25, 26, 27, 28, 11, 29, 30, 31, 32, 33, 2, 34, 35, 48, 49, 50, 51, 52, 53, 54, 55, 56, 57, 58, 59, 60, 61, 62, 63, 64, 65, 66, 67, 68, 69, 70, 71, 72, 73, 74, 75, 76, 77, 78, 79, 80, 81, 82, 83, 84, 85, 86, 87, 88, 89, 90, 91, 92, 93, 94, 95, 96, 97, 98, 99, 100, 101, 102, 103, 104, 105, 106, 107, 108, 109, 110, 111, 112, 113, 114, 115, 116, 117, 118, 119, 120, 121, 122, 123, 124, 125, 126]) (by decide +kernel)) ga_X10_pullAt
set_option maxRecDepth 20000 in
theorem ggX10_cell_X10_heightAt : GoodIn wsX10_cell wsX10_heightAt := goodIn_mk (chkPl_mem (ps := [39, 3, 17, 18, 19, 11, 20, 4, 5, 21, 22, 23, 24, 25, 26, 27, 28, 29, 30, 31, 32, 33, 2, 34, 35, 48, 49, 50, 51, 52, 53, 54, 55, 56, 57, 58, 59, 60, 61, 62, 63, 64, 65, 66, 67, 68, 69, 70, 71, 72, 73, 74, 75, 76, 77, 78, 79, 80, 81, 82, 83, 84, 85, 86, 87, 88, 89, 90, 91, 92, 93, 94, 95, 96, 97, 98, 99, 100, 101, 102, 103, 104, 105, 106, 107, 108, 109, 110, 111, 112, 113, 114, 115, 116, 117, 118, 119, 120, 121, 122, 123, 124, 125, 126]) (by decide +kernel)) ga_X10_heightAt
set_option maxRecDepth 20000 in
theorem ggX10_cell_X10_leanAt : GoodIn wsX10_cell wsX10_leanAt := goodIn_mk (chkPl_mem (ps := [43, 44, 45, 46, 11, 47, 2, 8, 9, 10, 12, 13, 14, 15, 16, 36, 37, 38, 39, 3, 17, 18, 19, 20, 4, 5, 21, 22, 23, 24, 25, 26, 27, 28, 29, 30, 31, 32, 33, 34, 35, 48, 49, 50, 51, 52, 53, 54, 55, 56, 57, 58, 59, 60, 61, 62, 63, 64, 65, 66, 67, 68, 69, 70, 71, 72, 73, 74, 75, 76, 77, 78, 79, 80, 81, 82, 83, 84, 85, 86, 87, 88, 89, 90, 91, 92, 93, 94, 95, 96, 97, 98, 99, 100, 101, 102, 103, 104, 105, 106, 107, 108, 109, 110, 111, 112, 113, 114, 115, 116, 117, 118, 119, 120, 121, 122, 123, 124, 125, 126]) (by decide +kernel)) ga_X10_leanAt
set_option maxRecDepth 20000 in
theorem ggX10_height_X10_isCell : GoodIn wsX10_height wsX10_isCell := goodIn_mk (chkPl_mem (ps := [9, 3, 10, 11, 12, 8, 13, 40, 41, 42, 43, 44, 45, 46, 47, 48, 49, 50, 51, 52, 53, 54, 55, 56, 57, 58, 59, 60, 61, 62, 63, 64, 65, 66, 67, 68, 69, 70, 71, 72, 73, 74, 75, 76, 77, 78, 79, 80, 81, 82, 83, 84, 85, 86, 87, 88, 89, 90, 91, 92, 93, 94, 95, 96, 97, 98, 99, 100, 101, 102, 103, 104, 105, 106, 107, 108, 109, 110, 111, 112, 113, 114, 115, 116, 117, 118]) (by decide +kernel)) ga_X10_isCell
set_option maxRecDepth 20000 in
theorem ggX10_height_X10_in : GoodIn wsX10_height wsX10_in := goodIn_mk (chkPl_mem (ps := [13]) (by decide +kernel)) ga_X10_in
set_option maxRecDepth 20000 in
theorem ggX10_height_X10_heightAt : GoodIn wsX10_height wsX10_heightAt := goodIn_mk (chkPl_mem (ps := [17, 18, 19, 20, 21, 8, 22, 23, 24, 25, 26, 27, 28, 29, 30, 31, 32, 33, 34, 35, 36, 37, 3, 38, 39, 40, 41, 42, 43, 44, 45, 46, 47, 48, 49, 50, 51, 52, 53, 54, 55, 56, 57, 58, 59, 60, 61, 62, 63, 64, 65, 66, 67, 68, 69, 70, 71, 72, 73, 74, 75, 76, 77, 78, 79, 80, 81, 82, 83, 84, 85, 86, 87, 88, 89, 90, 91, 92, 93, 94, 95, 96, 97, 98, 99, 100, 101, 102, 103, 104, 105, 106, 107, 108, 109, 110, 111, 112, 113, 114, 115, 116, 117, 118]) (by decide +kernel)) ga_X10_heightAt
set_option maxRecDepth 20000 in
theorem ggX10_moon_X10_in : GoodIn wsX10_moon wsX10_in := goodIn_mk (chkPl_mem (ps := [12]) (by decide +kernel)) ga_X10_in
set_option maxRecDepth 20000 in
theorem ggX10_moon_X10_partOf : GoodIn wsX10_moon wsX10_partOf := goodIn_mk (chkPl_mem (ps := [16, 17, 18, 6, 4, 19, 5, 3, 20, 21, 22, 23, 24, 25, 26, 27, 28, 29, 30, 31, 32, 33, 34, 35, 36, 37, 38, 39, 40, 41, 42, 43, 44, 45, 46, 47, 48, 49, 50, 51, 52, 53, 54, 55, 56, 57, 58, 59, 60, 61, 62, 63, 64, 65, 66, 67, 68, 69, 70, 71, 72, 73, 74, 75, 76, 77, 78, 79, 80, 81, 82, 83, 84, 85, 86, 87, 88, 89, 90, 91, 92, 93, 94, 95, 96, 97, 98]) (by decide +kernel)) ga_X10_partOf
set_option maxRecDepth 20000 in
theorem ggX10_doesBreak_X10_leanAt : GoodIn wsX10_doesBreak wsX10_leanAt := goodIn_mk (chkPl_mem (ps := [8, 9, 10, 11, 7, 12, 13, 14, 15, 16, 17, 18, 19, 20, 21, 22, 23, 24, 25, 26, 27, 28, 29, 30, 31, 32, 33, 34, 35, 36, 37, 38, 39, 40, 41, 42, 43, 44, 45, 46, 47, 48, 49, 50, 51, 52, 53, 54, 55, 56, 57, 58, 59, 60, 61, 62, 63, 64, 65, 66, 67, 68, 69, 70, 71, 72, 73, 74, 75, 76, 77, 78, 79, 80, 81, 82, 83, 84, 85, 86, 87, 88, 89, 90, 91, 92, 93, 94, 95, 96, 97, 98, 99, 100, 101, 102, 103, 104, 105, 106, 107, 108, 109, 110, 111, 112, 113, 114, 115, 116, 117, 118, 119, 120, 121, 122, 123, 124, 125, 126]) (by decide +kernel)) ga_X10_leanAt
set_option maxRecDepth 20000 in
theorem ggX10_needOf_X10_leanAt : GoodIn wsX10_needOf wsX10_leanAt := goodIn_mk (chkPl_mem (ps := [8, 9, 10, 11, 7, 12, 13, 14, 15, 16, 17, 18, 19, 20, 21, 22, 23, 24, 25, 26, 27, 28, 29, 30, 31, 32, 33, 34, 35, 36, 37, 38, 39, 40, 41, 42, 43, 44, 45, 46, 47, 48, 49, 50, 51, 52, 53, 54, 55, 56, 57, 58, 59, 60, 61, 62, 63, 64, 65, 66, 67, 68, 69, 70, 71, 72, 73, 74, 75, 76, 77, 78, 79, 80, 81, 82, 83, 84, 85, 86, 87, 88, 89, 90, 91, 92, 93, 94, 95, 96, 97, 98, 99, 100, 101, 102, 103, 104, 105, 106, 107, 108, 109, 110, 111, 112, 113, 114, 115, 116, 117, 118, 119, 120, 121, 122, 123, 124, 125, 126]) (by decide +kernel)) ga_X10_leanAt
set_option maxRecDepth 20000 in
theorem ggX10_house_X10_in : GoodIn wsX10_house wsX10_in := goodIn_mk (chkPl_mem (ps := [11]) (by decide +kernel)) ga_X10_in
set_option maxRecDepth 20000 in
theorem ggX10_house_X10_pairOf : GoodIn wsX10_house wsX10_pairOf := goodIn_mk (chkPl_mem (ps := [15, 16, 65, 66, 67, 68, 69, 70, 71, 72, 73, 74, 75, 76, 77, 78, 79, 80, 81, 82, 83, 84, 85, 86, 87, 88, 89, 90, 91, 92, 93, 94, 95, 96, 97, 98, 99, 100, 101, 102, 103, 104, 105, 106, 107, 108, 109, 110, 111, 112, 113, 114, 115, 116, 117, 118, 119, 120, 121, 122, 123, 124, 125, 126, 127, 128, 129, 130, 131, 132, 133, 134, 135, 136, 137, 138, 139, 140, 141, 142, 143]) (by decide +kernel)) ga_X10_pairOf
set_option maxRecDepth 20000 in
theorem ggX10_house_X10_doesBreak : GoodIn wsX10_house wsX10_doesBreak := goodIn_mk (chkPl_mem (ps := [20, 3, 4, 5, 21, 22, 23, 10, 24, 25, 26, 27, 28, 16, 29, 30, 31, 32, 33, 8, 9, 11, 34, 35, 36, 37, 38, 39, 40, 41, 42, 43, 44, 45, 46, 47, 48, 49, 50, 51, 52, 53, 54, 55, 56, 57, 58, 59, 65, 66, 67, 68, 69, 70, 71, 72, 73, 74, 75, 76, 77, 78, 79, 80, 81, 82, 83, 84, 85, 86, 87, 88, 89, 90, 91, 92, 93, 94, 95, 96, 97, 98, 99, 100, 101, 102, 103, 104, 105, 106, 107, 108, 109, 110, 111, 112, 113, 114, 115, 116, 117, 118, 119, 120, 121, 122, 123, 124, 125, 126, 127, 128, 129, 130, 131, 132, 133, 134, 135, 136, 137, 138, 139, 140, 141, 142, 143]) (by decide +kernel)) ga_X10_doesBreak
set_option maxRecDepth 20000 in
theorem ggX10_house_X10_needOf : GoodIn wsX10_house wsX10_needOf := goodIn_mk (chkPl_mem (ps := [63, 64, 3, 4, 21, 22, 23, 10, 24, 25, 26, 27, 28, 16, 29, 30, 31, 32, 33, 8, 9, 11, 34, 35, 36, 37, 38, 39, 40, 41, 42, 43, 44, 45, 46, 47, 48, 49, 50, 51, 52, 53, 54, 55, 56, 57, 58, 59, 65, 66, 67, 68, 69, 70, 71, 72, 73, 74, 75, 76, 77, 78, 79, 80, 81, 82, 83, 84, 85, 86, 87, 88, 89, 90, 91, 92, 93, 94, 95, 96, 97, 98, 99, 100, 101, 102, 103, 104, 105, 106, 107, 108, 109, 110, 111, 112, 113, 114, 115, 116, 117, 118, 119, 120, 121, 122, 123, 124, 125, 126, 127, 128, 129, 130, 131, 132, 133, 134, 135, 136, 137, 138, 139, 140, 141, 142, 143]) (by decide +kernel)) ga_X10_needOf
set_option maxRecDepth 20000 in
theorem ggX10_isOpen_X10_pullAt : GoodIn wsX10_isOpen wsX10_pullAt := goodIn_mk (chkPl_mem (ps := [7, 8, 9, 10, 11, 6, 12, 13, 14, 15, 16, 17, 18, 19, 20, 21, 22, 23, 24, 25, 26, 27, 28, 29, 30, 31, 32, 33, 34, 35, 36, 37, 38, 39, 40, 41, 42, 43, 44, 45, 46, 47, 48, 49, 50, 51, 52, 53, 54, 55, 56, 57, 58, 59, 60, 61, 62, 63, 64, 65, 66, 67, 68, 69, 70, 71, 72, 73, 74, 75, 76, 77, 78, 79, 80, 81, 82, 83, 84, 85, 86, 87, 88, 89, 90, 91, 92, 93, 94, 95, 96, 97, 98]) (by decide +kernel)) ga_X10_pullAt
set_option maxRecDepth 20000 in
theorem ggX10_crack_X10_in : GoodIn wsX10_crack wsX10_in := goodIn_mk (chkPl_mem (ps := [8]) (by decide +kernel)) ga_X10_in
set_option maxRecDepth 20000 in
theorem ggX10_crack_X10_isOpen : GoodIn wsX10_crack wsX10_isOpen := goodIn_mk (chkPl_mem (ps := [12, 13, 14, 15, 16, 17, 7, 18, 19, 20, 21, 22, 23, 24, 25, 26, 27, 28, 29, 30, 31, 32, 33, 34, 35, 36, 37, 38, 39, 40, 41, 42, 43, 44, 45, 46, 47, 48, 49, 50, 51, 52, 53, 54, 55, 56, 57, 58, 59, 60, 61, 62, 63, 64, 65, 66, 67, 68, 69, 70, 71, 72, 73, 74, 75, 76, 77, 78, 79, 80, 81, 82, 83, 84, 85, 86, 87, 88, 89, 90, 91, 92, 93, 94, 95, 96, 97, 98, 99, 100, 101, 102, 103, 104, 105, 106, 107, 108, 109]) (by decide +kernel)) ga_X10_isOpen
set_option maxRecDepth 20000 in
theorem ggX10_isBarred_X10_beside : GoodIn wsX10_isBarred wsX10_beside := goodIn_mk (chkPl_mem (ps := [8, 9, 10, 11, 12, 7, 13, 14, 15, 16, 17, 38, 39, 40, 41, 42, 43, 44, 45, 46, 47, 48, 49, 50, 51, 52, 53, 54, 55, 56, 57, 58, 59, 60, 61, 62, 63, 64, 65, 66, 67, 68, 69, 70, 71, 72, 73, 74, 75, 76, 77, 78, 79, 80, 81, 82, 83, 84, 85, 86, 87, 88, 89, 90, 91, 92, 93, 94, 95, 96, 97, 98, 99, 100, 101, 102, 103, 104, 105, 106, 107, 108, 109, 110, 111, 112, 113, 114, 115, 116]) (by decide +kernel)) ga_X10_beside
set_option maxRecDepth 20000 in
theorem ggX10_isBarred_X10_isOpen : GoodIn wsX10_isBarred wsX10_isOpen := goodIn_mk (chkPl_mem (ps := [21, 2, 22, 23, 24, 25, 7, 26, 27, 28, 29, 30, 31, 32, 33, 34, 35, 9, 36, 37, 38, 39, 40, 41, 42, 43, 44, 45, 46, 47, 48, 49, 50, 51, 52, 53, 54, 55, 56, 57, 58, 59, 60, 61, 62, 63, 64, 65, 66, 67, 68, 69, 70, 71, 72, 73, 74, 75, 76, 77, 78, 79, 80, 81, 82, 83, 84, 85, 86, 87, 88, 89, 90, 91, 92, 93, 94, 95, 96, 97, 98, 99, 100, 101, 102, 103, 104, 105, 106, 107, 108, 109, 110, 111, 112, 113, 114, 115, 116]) (by decide +kernel)) ga_X10_isOpen
set_option maxRecDepth 20000 in
theorem ggX10_slopeAt_X10_heightAt : GoodIn wsX10_slopeAt wsX10_heightAt := goodIn_mk (chkPl_mem (ps := [5, 6, 7, 8, 9, 4, 10, 11, 12, 13, 14, 15, 16, 17, 18, 19, 20, 21, 22, 23, 24, 25, 26, 27, 28, 29, 30, 31, 32, 33, 34, 35, 36, 37, 38, 39, 40, 41, 42, 43, 44, 45, 46, 47, 48, 49, 50, 51, 52, 53, 54, 55, 56, 57, 58, 59, 60, 61, 62, 63, 64, 65, 66, 67, 68, 69, 70, 71, 72, 73, 74, 75, 76, 77, 78, 79, 80, 81, 82, 83, 84, 85, 86, 87, 88, 89, 90, 91, 92, 93, 94, 95, 96, 97, 98, 99, 100, 101, 102, 103, 104, 105, 106, 107]) (by decide +kernel)) ga_X10_heightAt
set_option maxRecDepth 20000 in
theorem ggX10_goes_X10_beside : GoodIn wsX10_goes wsX10_beside := goodIn_mk (chkPl_mem (ps := [6, 7, 8, 9, 10, 5, 11, 12, 13, 14, 15, 58, 59, 60, 61, 62, 63, 64, 65, 66, 67, 68, 69, 70, 71, 72, 73, 74, 75, 76, 77, 78, 79, 80, 81, 82, 83, 84, 85, 86, 87, 88, 89, 90, 91, 92, 93, 94, 95, 96, 97, 98, 99, 100, 101, 102, 103, 104, 105, 106, 107, 108, 109, 110, 111, 112, 113, 114, 115, 116, 117, 118, 119, 120, 121, 122, 123, 124, 125, 126, 127, 128, 129, 130, 131, 132, 133, 134, 135, 136]) (by decide +kernel)) ga_X10_beside
set_option maxRecDepth 20000 in
theorem ggX10_goes_X10_isBarred : GoodIn wsX10_goes wsX10_isBarred := goodIn_mk (chkPl_mem (ps := [19, 20, 21, 22, 2, 3, 4, 5, 6, 7, 8, 9, 10, 11, 12, 13, 14, 15, 23, 24, 25, 26, 27, 28, 29, 30, 31, 32, 33, 34, 35, 36, 37, 38, 39, 40, 41, 42, 58, 59, 60, 61, 62, 63, 64, 65, 66, 67, 68, 69, 70, 71, 72, 73, 74, 75, 76, 77, 78, 79, 80, 81, 82, 83, 84, 85, 86, 87, 88, 89, 90, 91, 92, 93, 94, 95, 96, 97, 98, 99, 100, 101, 102, 103, 104, 105, 106, 107, 108, 109, 110, 111, 112, 113, 114, 115, 116, 117, 118, 119, 120, 121, 122, 123, 124, 125, 126, 127, 128, 129, 130, 131, 132, 133, 134, 135, 136]) (by decide +kernel)) ga_X10_isBarred
set_option maxRecDepth 20000 in
theorem ggX10_goes_X10_slopeAt : GoodIn wsX10_goes wsX10_slopeAt := goodIn_mk (chkPl_mem (ps := [46, 47, 48, 49, 5, 50, 51, 52, 53, 54, 55, 56, 57, 28, 29, 30, 31, 32, 33, 34, 35, 36, 37, 38, 39, 40, 7, 41, 42, 58, 59, 60, 61, 62, 63, 64, 65, 66, 67, 68, 69, 70, 71, 72, 73, 74, 75, 76, 77, 78, 79, 80, 81, 82, 83, 84, 85, 86, 87, 88, 89, 90, 91, 92, 93, 94, 95, 96, 97, 98, 99, 100, 101, 102, 103, 104, 105, 106, 107, 108, 109, 110, 111, 112, 113, 114, 115, 116, 117, 118, 119, 120, 121, 122, 123, 124, 125, 126, 127, 128, 129, 130, 131, 132, 133, 134, 135, 136]) (by decide +kernel)) ga_X10_slopeAt
set_option maxRecDepth 20000 in
theorem ggX10_costOf_X10_slopeAt : GoodIn wsX10_costOf wsX10_slopeAt := goodIn_mk (chkPl_mem (ps := [5, 6, 7, 8, 4, 9, 10, 11, 12, 13, 14, 15, 16, 17, 18, 19, 20, 21, 22, 23, 24, 25, 26, 27, 28, 29, 30, 31, 32, 33, 34, 35, 36, 37, 38, 39, 40, 41, 42, 43, 44, 45, 46, 47, 48, 49, 50, 51, 52, 53, 54, 55, 56, 57, 58, 59, 60, 61, 62, 63, 64, 65, 66, 67, 68, 69, 70, 71, 72, 73, 74, 75, 76, 77, 78, 79, 80, 81, 82, 83, 84, 85, 86, 87, 88, 89, 90, 91, 92, 93, 94, 95, 96, 97, 98, 99, 100, 101, 102, 103, 104, 105, 106, 107, 108, 109, 110, 111]) (by decide +kernel)) ga_X10_slopeAt
set_option maxRecDepth 20000 in
theorem ggX10_pass_X10_in : GoodIn wsX10_pass wsX10_in := goodIn_mk (chkPl_mem (ps := [9]) (by decide +kernel)) ga_X10_in
set_option maxRecDepth 20000 in
theorem ggX10_rollNow_X10_costOf : GoodIn wsX10_rollNow wsX10_costOf := goodIn_mk (chkPl_mem (ps := [8, 9, 10, 11, 7, 12, 13, 14, 15, 16, 17, 18, 19, 20, 21, 22, 23, 24, 25, 26, 27, 28, 29, 30, 31, 32, 33, 34, 35, 36, 37, 38, 39, 44, 45, 46, 47, 48, 49, 50, 51, 52, 53, 54, 55, 56, 57, 58, 59, 60, 61, 62, 63, 64, 65, 66, 67, 68, 69, 70, 71, 72, 73, 74, 75, 76, 77, 78, 79, 80, 81, 82, 83, 84, 85, 86, 87, 88, 89, 90, 91, 92, 93, 94, 95, 96, 97, 98, 99, 100, 101, 102, 103, 104, 105, 106, 107, 108, 109, 110, 111, 112, 113, 114, 115, 116, 117, 118, 119, 120, 121, 122]) (by decide +kernel)) ga_X10_costOf
set_option maxRecDepth 20000 in
theorem ggX10_rollNow_X10_held : GoodIn wsX10_rollNow wsX10_held := goodIn_mk (chkPl_mem (ps := [42, 43]) (by decide +kernel)) ga_X10_held
set_option maxRecDepth 20000 in
theorem ggX10_roll_X10_in : GoodIn wsX10_roll wsX10_in := goodIn_mk (chkPl_mem (ps := [12]) (by decide +kernel)) ga_X10_in
set_option maxRecDepth 20000 in
theorem ggX10_roll_X10_goes : GoodIn wsX10_roll wsX10_goes := goodIn_mk (chkPl_mem (ps := [16, 17, 18, 19, 20, 11, 21, 3, 22, 23, 24, 25, 26, 9, 10, 12, 27, 28, 29, 30, 31, 32, 33, 34, 35, 36, 37, 38, 39, 40, 41, 42, 43, 44, 45, 46, 47, 48, 49, 50, 51, 52, 53, 54, 55, 56, 57, 58, 59, 60, 61, 62, 63, 64, 65, 66, 67, 68, 82, 83, 84, 85, 86, 87, 88, 89, 90, 91, 92, 93, 94, 95, 96, 97, 98, 99, 100, 101, 102, 103, 104, 105, 106, 107, 108, 109, 110, 111, 112, 113, 114, 115, 116, 117, 118, 119, 120, 121, 122, 123, 124, 125, 126, 127, 128, 129, 130, 131, 132, 133, 134, 135, 136, 137, 138, 139, 140, 141, 142, 143, 144, 145, 146, 147, 148, 149, 150, 151, 152, 153, 154, 155, 156, 157, 158, 159, 160]) (by decide +kernel)) ga_X10_goes
set_option maxRecDepth 20000 in
theorem ggX10_roll_X10_rollNow : GoodIn wsX10_roll wsX10_rollNow := goodIn_mk (chkPl_mem (ps := [72, 5, 4, 73, 74, 75, 76, 11, 77, 54, 55, 56, 57, 58, 59, 60, 61, 62, 63, 64, 65, 66, 67, 68, 39, 40, 41, 42, 43, 44, 45, 46, 47, 48, 49, 50, 51, 3, 52, 53, 78, 79, 80, 81, 82, 83, 84, 85, 86, 87, 88, 89, 90, 91, 92, 93, 94, 95, 96, 97, 98, 99, 100, 101, 102, 103, 104, 105, 106, 107, 108, 109, 110, 111, 112, 113, 114, 115, 116, 117, 118, 119, 120, 121, 122, 123, 124, 125, 126, 127, 128, 129, 130, 131, 132, 133, 134, 135, 136, 137, 138, 139, 140, 141, 142, 143, 144, 145, 146, 147, 148, 149, 150, 151, 152, 153, 154, 155, 156, 157, 158, 159, 160]) (by decide +kernel)) ga_X10_rollNow
set_option maxRecDepth 20000 in
theorem ggX10_steep_X10_in : GoodIn wsX10_steep wsX10_in := goodIn_mk (chkPl_mem (ps := [7]) (by decide +kernel)) ga_X10_in
set_option maxRecDepth 20000 in
theorem ggX10_load_X10_isCell : GoodIn wsX10_load wsX10_isCell := goodIn_mk (chkPl_mem (ps := [10, 5, 11, 12, 13, 9, 14, 15, 16, 17, 18, 19, 20, 21, 22, 23, 24, 25, 26, 27, 28, 29, 30, 31, 32, 33, 34, 35, 36, 37, 38, 39, 40, 41, 42, 43, 44, 45, 46, 47, 48, 49, 50, 51, 52, 53, 54, 55, 56, 57, 58, 59, 60, 61, 62, 63, 64, 65, 66, 67, 68, 69, 70, 71, 72, 73, 74, 75, 76, 77, 78, 79, 80, 81, 82, 83, 84, 85, 86, 87, 88, 89, 90, 91, 92, 93]) (by decide +kernel)) ga_X10_isCell
set_option maxRecDepth 20000 in
theorem ggX10_load_X10_in : GoodIn wsX10_load wsX10_in := goodIn_mk (chkPl_mem (ps := [14]) (by decide +kernel)) ga_X10_in
set_option maxRecDepth 20000 in
theorem ggX10_prop_X10_in : GoodIn wsX10_prop wsX10_in := goodIn_mk (chkPl_mem (ps := [9]) (by decide +kernel)) ga_X10_in
set_option maxRecDepth 20000 in
theorem ggX10_shift_X10_in : GoodIn wsX10_shift wsX10_in := goodIn_mk (chkPl_mem (ps := [10]) (by decide +kernel)) ga_X10_in
set_option maxRecDepth 20000 in
theorem ggX10_drift_X10_in : GoodIn wsX10_drift wsX10_in := goodIn_mk (chkPl_mem (ps := [13]) (by decide +kernel)) ga_X10_in
set_option maxRecDepth 20000 in
theorem ggX10_drift_X10_draw : GoodIn wsX10_drift wsX10_draw := goodIn_mk (chkPl_mem (ps := [17, 18, 19, 20, 21, 22, 99, 100, 101, 102, 103, 104, 105, 106, 107, 108, 109, 110, 111, 112, 113, 114, 115, 116, 117, 118, 119, 120, 121, 122, 123, 124, 125, 126, 127, 128, 129, 130, 131, 132, 133, 134, 135, 136, 137, 138, 139, 140, 141, 142, 143, 144, 145, 146, 147, 148, 149, 150, 151, 152, 153, 154, 155, 156, 157, 158, 159, 160, 161, 162, 163, 164, 165, 166, 167, 168, 169, 170, 171, 172, 173, 174, 175, 176, 177]) (by decide +kernel)) ga_X10_draw
set_option maxRecDepth 20000 in
theorem ggX10_drift_X10_goes : GoodIn wsX10_drift wsX10_goes := goodIn_mk (chkPl_mem (ps := [26, 27, 28, 29, 30, 12, 31, 3, 32, 33, 34, 35, 36, 10, 11, 13, 37, 38, 39, 40, 41, 42, 43, 44, 45, 46, 47, 48, 49, 50, 51, 52, 53, 54, 55, 56, 57, 58, 59, 60, 61, 62, 63, 64, 65, 66, 67, 68, 69, 70, 71, 72, 73, 74, 75, 76, 77, 9, 99, 100, 101, 102, 103, 104, 105, 106, 107, 108, 109, 110, 111, 112, 113, 114, 115, 116, 117, 118, 119, 120, 121, 122, 123, 124, 125, 126, 127, 128, 129, 130, 131, 132, 133, 134, 135, 136, 137, 138, 139, 140, 141, 142, 143, 144, 145, 146, 147, 148, 149, 150, 151, 152, 153, 154, 155, 156, 157, 158, 159, 160, 161, 162, 163, 164, 165, 166, 167, 168, 169, 170, 171, 172, 173, 174, 175, 176, 177]) (by decide +kernel)) ga_X10_goes
set_option maxRecDepth 20000 in
theorem ggX10_drift_X10_rollNow : GoodIn wsX10_drift wsX10_rollNow := goodIn_mk (chkPl_mem (ps := [81, 5, 8, 82, 83, 84, 85, 12, 86, 64, 65, 66, 67, 68, 69, 70, 71, 72, 73, 74, 75, 76, 77, 9, 49, 50, 51, 52, 53, 54, 55, 56, 57, 58, 59, 60, 61, 3, 62, 63, 87, 88, 89, 90, 99, 100, 101, 102, 103, 104, 105, 106, 107, 108, 109, 110, 111, 112, 113, 114, 115, 116, 117, 118, 119, 120, 121, 122, 123, 124, 125, 126, 127, 128, 129, 130, 131, 132, 133, 134, 135, 136, 137, 138, 139, 140, 141, 142, 143, 144, 145, 146, 147, 148, 149, 150, 151, 152, 153, 154, 155, 156, 157, 158, 159, 160, 161, 162, 163, 164, 165, 166, 167, 168, 169, 170, 171, 172, 173, 174, 175, 176, 177]) (by decide +kernel)) ga_X10_rollNow
set_option maxRecDepth 20000 in
theorem ggX10_drift_X10_cells : GoodIn wsX10_drift wsX10_cells := goodIn_mk (chkPl_mem (ps := [94, 3, 36, 99, 100, 101, 102, 103, 104, 105, 106, 107, 108, 109, 110, 111, 112, 113, 114, 115, 116, 117, 118, 119, 120, 121, 122, 123, 124, 125, 126, 127, 128, 129, 130, 131, 132, 133, 134, 135, 136, 137, 138, 139, 140, 141, 142, 143, 144, 145, 146, 147, 148, 149, 150, 151, 152, 153, 154, 155, 156, 157, 158, 159, 160, 161, 162, 163, 164, 165, 166, 167, 168, 169, 170, 171, 172, 173, 174, 175, 176, 177]) (by decide +kernel)) ga_X10_cells
set_option maxRecDepth 20000 in
theorem ggX10_drift_X10_pairOf : GoodIn wsX10_drift wsX10_pairOf := goodIn_mk (chkPl_mem (ps := [98, 3, 99, 100, 101, 102, 103, 104, 105, 106, 107, 108, 109, 110, 111, 112, 113, 114, 115, 116, 117, 118, 119, 120, 121, 122, 123, 124, 125, 126, 127, 128, 129, 130, 131, 132, 133, 134, 135, 136, 137, 138, 139, 140, 141, 142, 143, 144, 145, 146, 147, 148, 149, 150, 151, 152, 153, 154, 155, 156, 157, 158, 159, 160, 161, 162, 163, 164, 165, 166, 167, 168, 169, 170, 171, 172, 173, 174, 175, 176, 177]) (by decide +kernel)) ga_X10_pairOf
set_option maxRecDepth 20000 in
theorem ggX10_isStep_X10_in : GoodIn wsX10_isStep wsX10_in := goodIn_mk (chkPl_mem (ps := [5]) (by decide +kernel)) ga_X10_in
set_option maxRecDepth 20000 in
theorem ggX10_isLevel_X10_cells : GoodIn wsX10_isLevel wsX10_cells := goodIn_mk (chkPl_mem (ps := [7, 8, 9, 39, 40, 41, 42, 43, 44, 45, 46, 47, 48, 49, 50, 51, 52, 53, 54, 55, 56, 57, 58, 59, 60, 61, 62, 63, 64, 65, 66, 67, 68, 69, 70, 71, 72, 73, 74, 75, 76, 77, 78, 79, 80, 81, 82, 83, 84, 85, 86, 87, 88, 89, 90, 91, 92, 93, 94, 95, 96, 97, 98, 99, 100, 101, 102, 103, 104, 105, 106, 107, 108, 109, 110, 111, 112, 113, 114, 115, 116, 117]) (by decide +kernel)) ga_X10_cells
set_option maxRecDepth 20000 in
theorem ggX10_isLevel_X10_has : GoodIn wsX10_isLevel wsX10_has := goodIn_mk (chkPl_mem (ps := [12]) (by decide +kernel)) ga_X10_has
set_option maxRecDepth 20000 in
theorem ggX10_isLevel_X10_heightAt : GoodIn wsX10_isLevel wsX10_heightAt := goodIn_mk (chkPl_mem (ps := [16, 17, 18, 19, 20, 6, 21, 22, 23, 24, 25, 26, 27, 28, 29, 30, 31, 32, 33, 34, 35, 36, 8, 37, 38, 39, 40, 41, 42, 43, 44, 45, 46, 47, 48, 49, 50, 51, 52, 53, 54, 55, 56, 57, 58, 59, 60, 61, 62, 63, 64, 65, 66, 67, 68, 69, 70, 71, 72, 73, 74, 75, 76, 77, 78, 79, 80, 81, 82, 83, 84, 85, 86, 87, 88, 89, 90, 91, 92, 93, 94, 95, 96, 97, 98, 99, 100, 101, 102, 103, 104, 105, 106, 107, 108, 109, 110, 111, 112, 113, 114, 115, 116, 117]) (by decide +kernel)) ga_X10_heightAt
set_option maxRecDepth 20000 in
theorem ggX10_level_X10_cells : GoodIn wsX10_level wsX10_cells := goodIn_mk (chkPl_mem (ps := [9, 10, 11, 54, 55, 56, 57, 58, 59, 60, 61, 62, 63, 64, 65, 66, 67, 68, 69, 70, 71, 72, 73, 74, 75, 76, 77, 78, 79, 80, 81, 82, 83, 84, 85, 86, 87, 88, 89, 90, 91, 92, 93, 94, 95, 96, 97, 98, 99, 100, 101, 102, 103, 104, 105, 106, 107, 108, 109, 110, 111, 112, 113, 114, 115, 116, 117, 118, 119, 120, 121, 122, 123, 124, 125, 126, 127, 128, 129, 130, 131, 132]) (by decide +kernel)) ga_X10_cells
set_option maxRecDepth 20000 in
theorem ggX10_level_X10_in : GoodIn wsX10_level wsX10_in := goodIn_mk (chkPl_mem (ps := [14]) (by decide +kernel)) ga_X10_in
set_option maxRecDepth 20000 in
theorem ggX10_level_X10_isStep : GoodIn wsX10_level wsX10_isStep := goodIn_mk (chkPl_mem (ps := [17, 18, 12, 13, 8, 14]) (by decide +kernel)) ga_X10_isStep
set_option maxRecDepth 20000 in
theorem ggX10_level_X10_isLevel : GoodIn wsX10_level wsX10_isLevel := goodIn_mk (chkPl_mem (ps := [22, 23, 24, 5, 6, 7, 8, 9, 10, 11, 25, 26, 27, 28, 29, 30, 31, 32, 33, 34, 35, 36, 37, 38, 39, 40, 41, 42, 43, 44, 45, 46, 47, 48, 49, 50, 51, 52, 53, 54, 55, 56, 57, 58, 59, 60, 61, 62, 63, 64, 65, 66, 67, 68, 69, 70, 71, 72, 73, 74, 75, 76, 77, 78, 79, 80, 81, 82, 83, 84, 85, 86, 87, 88, 89, 90, 91, 92, 93, 94, 95, 96, 97, 98, 99, 100, 101, 102, 103, 104, 105, 106, 107, 108, 109, 110, 111, 112, 113, 114, 115, 116, 117, 118, 119, 120, 121, 122, 123, 124, 125, 126, 127, 128, 129, 130, 131, 132]) (by decide +kernel)) ga_X10_isLevel
set_option maxRecDepth 20000 in
theorem ggX10_isAslant_X10_cells : GoodIn wsX10_isAslant wsX10_cells := goodIn_mk (chkPl_mem (ps := [5, 6, 7, 45, 46, 47, 48, 49, 50, 51, 52, 53, 54, 55, 56, 57, 58, 59, 60, 61, 62, 63, 64, 65, 66, 67, 68, 69, 70, 71, 72, 73, 74, 75, 76, 77, 78, 79, 80, 81, 82, 83, 84, 85, 86, 87, 88, 89, 90, 91, 92, 93, 94, 95, 96, 97, 98, 99, 100, 101, 102, 103, 104, 105, 106, 107, 108, 109, 110, 111, 112, 113, 114, 115, 116, 117, 118, 119, 120, 121, 122, 123]) (by decide +kernel)) ga_X10_cells
set_option maxRecDepth 20000 in
theorem ggX10_isAslant_X10_beside : GoodIn wsX10_isAslant wsX10_beside := goodIn_mk (chkPl_mem (ps := [11, 6, 12, 13, 14, 4, 15, 7, 16, 17, 18, 45, 46, 47, 48, 49, 50, 51, 52, 53, 54, 55, 56, 57, 58, 59, 60, 61, 62, 63, 64, 65, 66, 67, 68, 69, 70, 71, 72, 73, 74, 75, 76, 77, 78, 79, 80, 81, 82, 83, 84, 85, 86, 87, 88, 89, 90, 91, 92, 93, 94, 95, 96, 97, 98, 99, 100, 101, 102, 103, 104, 105, 106, 107, 108, 109, 110, 111, 112, 113, 114, 115, 116, 117, 118, 119, 120, 121, 122, 123]) (by decide +kernel)) ga_X10_beside
set_option maxRecDepth 20000 in
theorem ggX10_isAslant_X10_heightAt : GoodIn wsX10_isAslant wsX10_heightAt := goodIn_mk (chkPl_mem (ps := [22, 23, 24, 25, 26, 4, 27, 28, 29, 30, 31, 32, 33, 34, 35, 36, 37, 38, 39, 40, 41, 42, 6, 43, 44, 45, 46, 47, 48, 49, 50, 51, 52, 53, 54, 55, 56, 57, 58, 59, 60, 61, 62, 63, 64, 65, 66, 67, 68, 69, 70, 71, 72, 73, 74, 75, 76, 77, 78, 79, 80, 81, 82, 83, 84, 85, 86, 87, 88, 89, 90, 91, 92, 93, 94, 95, 96, 97, 98, 99, 100, 101, 102, 103, 104, 105, 106, 107, 108, 109, 110, 111, 112, 113, 114, 115, 116, 117, 118, 119, 120, 121, 122, 123]) (by decide +kernel)) ga_X10_heightAt
set_option maxRecDepth 20000 in
theorem ggX10_aslant_X10_isStep : GoodIn wsX10_aslant wsX10_isStep := goodIn_mk (chkPl_mem (ps := [8, 9, 10, 11, 7, 12]) (by decide +kernel)) ga_X10_isStep
set_option maxRecDepth 20000 in
theorem ggX10_aslant_X10_isAslant : GoodIn wsX10_aslant wsX10_isAslant := goodIn_mk (chkPl_mem (ps := [16, 17, 18, 19, 7, 20, 2, 21, 22, 23, 24, 25, 26, 27, 28, 29, 10, 11, 12, 30, 31, 32, 33, 34, 35, 36, 37, 38, 39, 40, 41, 42, 43, 44, 45, 46, 47, 48, 49, 50, 51, 52, 53, 54, 55, 56, 57, 58, 59, 60, 61, 62, 63, 64, 65, 66, 67, 68, 69, 70, 71, 72, 73, 74, 75, 76, 77, 78, 79, 80, 81, 82, 83, 84, 85, 86, 87, 88, 89, 90, 91, 92, 93, 94, 95, 96, 97, 98, 99, 100, 101, 102, 103, 104, 105, 106, 107, 108, 109, 110, 111, 112, 113, 114, 115, 116, 117, 118, 119, 120, 121, 122, 123, 124, 125, 126, 127, 128, 129, 130, 131, 132, 133, 134]) (by decide +kernel)) ga_X10_isAslant
set_option maxRecDepth 20000 in
theorem ggX10_isTurn_X10_heightAt : GoodIn wsX10_isTurn wsX10_heightAt := goodIn_mk (chkPl_mem (ps := [5, 6, 7, 8, 9, 4, 10, 11, 12, 13, 14, 15, 16, 17, 18, 19, 20, 21, 22, 23, 24, 25, 26, 27, 28, 29, 30, 31, 32, 33, 34, 35, 36, 37, 38, 39, 40, 41, 42, 43, 44, 45, 46, 47, 48, 49, 50, 51, 52, 53, 54, 55, 56, 57, 58, 59, 60, 61, 62, 63, 64, 65, 66, 67, 68, 69, 70, 71, 72, 73, 74, 75, 76, 77, 78, 79, 80, 81, 82, 83, 84, 85, 86, 87, 88, 89, 90, 91, 92, 93, 94, 95, 96, 97, 98, 99, 100, 101, 102, 103, 104, 105, 106, 107]) (by decide +kernel)) ga_X10_heightAt
set_option maxRecDepth 20000 in
theorem ggX10_turn_X10_isCell : GoodIn wsX10_turn wsX10_isCell := goodIn_mk (chkPl_mem (ps := [10, 5, 11, 12, 13, 9, 14, 45, 46, 47, 48, 49, 50, 51, 52, 53, 54, 55, 56, 57, 58, 59, 60, 61, 62, 63, 64, 65, 66, 67, 68, 69, 70, 71, 72, 73, 74, 75, 76, 77, 78, 79, 80, 81, 82, 83, 84, 85, 86, 87, 88, 89, 90, 91, 92, 93, 94, 95, 96, 97, 98, 99, 100, 101, 102, 103, 104, 105, 106, 107, 108, 109, 110, 111, 112, 113, 114, 115, 116, 117, 118, 119, 120, 121, 122, 123]) (by decide +kernel)) ga_X10_isCell
set_option maxRecDepth 20000 in
theorem ggX10_turn_X10_in : GoodIn wsX10_turn wsX10_in := goodIn_mk (chkPl_mem (ps := [14]) (by decide +kernel)) ga_X10_in
set_option maxRecDepth 20000 in
theorem ggX10_turn_X10_isTurn : GoodIn wsX10_turn wsX10_isTurn := goodIn_mk (chkPl_mem (ps := [18, 19, 20, 21, 9, 22, 23, 24, 25, 26, 27, 28, 29, 30, 31, 32, 33, 34, 35, 36, 37, 38, 39, 40, 41, 42, 5, 43, 44, 45, 46, 47, 48, 49, 50, 51, 52, 53, 54, 55, 56, 57, 58, 59, 60, 61, 62, 63, 64, 65, 66, 67, 68, 69, 70, 71, 72, 73, 74, 75, 76, 77, 78, 79, 80, 81, 82, 83, 84, 85, 86, 87, 88, 89, 90, 91, 92, 93, 94, 95, 96, 97, 98, 99, 100, 101, 102, 103, 104, 105, 106, 107, 108, 109, 110, 111, 112, 113, 114, 115, 116, 117, 118, 119, 120, 121, 122, 123]) (by decide +kernel)) ga_X10_isTurn
set_option maxRecDepth 20000 in
theorem ggX10_most_X10_isCell : GoodIn wsX10_most wsX10_isCell := goodIn_mk (chkPl_mem (ps := [9, 3, 10, 11, 12, 8, 13, 33, 34, 35, 36, 37, 38, 39, 40, 41, 42, 43, 44, 45, 46, 47, 48, 49, 50, 51, 52, 53, 54, 55, 56, 57, 58, 59, 60, 61, 62, 63, 64, 65, 66, 67, 68, 69, 70, 71, 72, 73, 74, 75, 76, 77, 78, 79, 80, 81, 82, 83, 84, 85, 86, 87, 88, 89, 90, 91, 92, 93, 94, 95, 96, 97, 98, 99, 100, 101, 102, 103, 104, 105, 106, 107, 108, 109, 110, 111]) (by decide +kernel)) ga_X10_isCell
set_option maxRecDepth 20000 in
theorem ggX10_most_X10_isStep : GoodIn wsX10_most wsX10_isStep := goodIn_mk (chkPl_mem (ps := [16, 17, 11, 12, 8, 13]) (by decide +kernel)) ga_X10_isStep
set_option maxRecDepth 20000 in
theorem ggX10_most_X10_in : GoodIn wsX10_most wsX10_in := goodIn_mk (chkPl_mem (ps := [13]) (by decide +kernel)) ga_X10_in
set_option maxRecDepth 20000 in
theorem ggX10_most_X10_pullAt : GoodIn wsX10_most wsX10_pullAt := goodIn_mk (chkPl_mem (ps := [21, 22, 23, 24, 25, 8, 26, 27, 28, 29, 30, 3, 31, 32, 33, 34, 35, 36, 37, 38, 39, 40, 41, 42, 43, 44, 45, 46, 47, 48, 49, 50, 51, 52, 53, 54, 55, 56, 57, 58, 59, 60, 61, 62, 63, 64, 65, 66, 67, 68, 69, 70, 71, 72, 73, 74, 75, 76, 77, 78, 79, 80, 81, 82, 83, 84, 85, 86, 87, 88, 89, 90, 91, 92, 93, 94, 95, 96, 97, 98, 99, 100, 101, 102, 103, 104, 105, 106, 107, 108, 109, 110, 111]) (by decide +kernel)) ga_X10_pullAt
set_option maxRecDepth 20000 in
theorem ggX10_bell_X10_isCell : GoodIn wsX10_bell wsX10_isCell := goodIn_mk (chkPl_mem (ps := [10, 5, 11, 12, 13, 9, 14, 53, 54, 55, 56, 57, 58, 59, 60, 61, 62, 63, 64, 65, 66, 67, 68, 69, 70, 71, 72, 73, 74, 75, 76, 77, 78, 79, 80, 81, 82, 83, 84, 85, 86, 87, 88, 89, 90, 91, 92, 93, 94, 95, 96, 97, 98, 99, 100, 101, 102, 103, 104, 105, 106, 107, 108, 109, 110, 111, 112, 113, 114, 115, 116, 117, 118, 119, 120, 121, 122, 123, 124, 125, 126, 127, 128, 129, 130, 131]) (by decide +kernel)) ga_X10_isCell
set_option maxRecDepth 20000 in
theorem ggX10_bell_X10_in : GoodIn wsX10_bell wsX10_in := goodIn_mk (chkPl_mem (ps := [14]) (by decide +kernel)) ga_X10_in
set_option maxRecDepth 20000 in
theorem ggX10_bell_X10_isStep : GoodIn wsX10_bell wsX10_isStep := goodIn_mk (chkPl_mem (ps := [17, 18, 12, 13, 9, 14]) (by decide +kernel)) ga_X10_isStep
set_option maxRecDepth 20000 in
theorem ggX10_bell_X10_leanAt : GoodIn wsX10_bell wsX10_leanAt := goodIn_mk (chkPl_mem (ps := [22, 23, 24, 25, 9, 26, 5, 6, 7, 8, 10, 11, 12, 13, 14, 27, 28, 29, 30, 31, 32, 33, 34, 35, 36, 37, 38, 39, 40, 41, 42, 43, 44, 45, 46, 47, 48, 49, 50, 51, 52, 53, 54, 55, 56, 57, 58, 59, 60, 61, 62, 63, 64, 65, 66, 67, 68, 69, 70, 71, 72, 73, 74, 75, 76, 77, 78, 79, 80, 81, 82, 83, 84, 85, 86, 87, 88, 89, 90, 91, 92, 93, 94, 95, 96, 97, 98, 99, 100, 101, 102, 103, 104, 105, 106, 107, 108, 109, 110, 111, 112, 113, 114, 115, 116, 117, 118, 119, 120, 121, 122, 123, 124, 125, 126, 127, 128, 129, 130, 131]) (by decide +kernel)) ga_X10_leanAt
set_option maxRecDepth 20000 in
theorem ggX10_breaks_X10_isStep : GoodIn wsX10_breaks wsX10_isStep := goodIn_mk (chkPl_mem (ps := [7, 8, 9, 10, 6, 11]) (by decide +kernel)) ga_X10_isStep
set_option maxRecDepth 20000 in
theorem ggX10_breaks_X10_in : GoodIn wsX10_breaks wsX10_in := goodIn_mk (chkPl_mem (ps := [11]) (by decide +kernel)) ga_X10_in
set_option maxRecDepth 20000 in
theorem ggX10_breaks_X10_doesBreak : GoodIn wsX10_breaks wsX10_doesBreak := goodIn_mk (chkPl_mem (ps := [15, 16, 17, 18, 19, 20, 21, 6, 22, 23, 24, 25, 26, 27, 28, 29, 30, 31, 32, 9, 10, 11, 33, 34, 35, 36, 37, 38, 39, 40, 41, 42, 43, 44, 45, 46, 47, 48, 49, 50, 51, 52, 53, 54, 55, 56, 57, 58, 59, 60, 61, 62, 63, 64, 65, 66, 67, 68, 69, 70, 71, 72, 73, 74, 75, 76, 77, 78, 79, 80, 81, 82, 83, 84, 85, 86, 87, 88, 89, 90, 91, 92, 93, 94, 95, 96, 97, 98, 99, 100, 101, 102, 103, 104, 105, 106, 107, 108, 109, 110, 111, 112, 113, 114, 115, 116, 117, 118, 119, 120, 121, 122, 123, 124, 125, 126, 127, 128, 129, 130, 131, 132, 133, 134, 135, 136, 137]) (by decide +kernel)) ga_X10_doesBreak
set_option maxRecDepth 20000 in
theorem ggX10_props_X10_in : GoodIn wsX10_props wsX10_in := goodIn_mk (chkPl_mem (ps := [7]) (by decide +kernel)) ga_X10_in
set_option maxRecDepth 20000 in
theorem ggX10_props_X10_needOf : GoodIn wsX10_props wsX10_needOf := goodIn_mk (chkPl_mem (ps := [11, 12, 13, 14, 15, 16, 17, 6, 18, 19, 20, 21, 22, 23, 24, 25, 26, 27, 28, 4, 5, 7, 29, 30, 31, 32, 33, 34, 35, 36, 37, 38, 39, 40, 41, 42, 43, 44, 45, 46, 47, 48, 49, 50, 51, 52, 53, 54, 55, 56, 57, 58, 59, 60, 61, 62, 63, 64, 65, 66, 67, 68, 69, 70, 71, 72, 73, 74, 75, 76, 77, 78, 79, 80, 81, 82, 83, 84, 85, 86, 87, 88, 89, 90, 91, 92, 93, 94, 95, 96, 97, 98, 99, 100, 101, 102, 103, 104, 105, 106, 107, 108, 109, 110, 111, 112, 113, 114, 115, 116, 117, 118, 119, 120, 121, 122, 123, 124, 125, 126, 127, 128, 129, 130, 131, 132, 133]) (by decide +kernel)) ga_X10_needOf
set_option maxRecDepth 20000 in
theorem ggX10_soonest_X10_ofPair : GoodIn wsX10_soonest wsX10_ofPair := goodIn_mk (chkPl_mem (ps := [7, 8, 9, 10, 11, 6, 12, 13, 14, 15, 16, 79, 80, 81, 82, 83, 84, 85, 86, 87, 88, 89, 90, 91, 92, 93, 94, 95, 96, 97, 98, 99, 100, 101, 102, 103, 104, 105, 106, 107, 108, 109, 110, 111, 112, 113, 114, 115, 116, 117, 118, 119, 120, 121, 122, 123, 124, 125, 126, 127, 128, 129, 130, 131, 132, 133, 134, 135, 136, 137, 138, 139, 140, 141, 142, 143, 144, 145, 146, 147, 148, 149, 150, 151, 152, 153, 154, 155, 156, 157]) (by decide +kernel)) ga_X10_ofPair
set_option maxRecDepth 20000 in
theorem ggX10_soonest_X10_isStep : GoodIn wsX10_soonest wsX10_isStep := goodIn_mk (chkPl_mem (ps := [19, 20, 14, 15, 6, 16]) (by decide +kernel)) ga_X10_isStep
set_option maxRecDepth 20000 in
theorem ggX10_soonest_X10_has : GoodIn wsX10_soonest wsX10_has := goodIn_mk (chkPl_mem (ps := [23]) (by decide +kernel)) ga_X10_has
set_option maxRecDepth 20000 in
theorem ggX10_soonest_X10_cells : GoodIn wsX10_soonest wsX10_cells := goodIn_mk (chkPl_mem (ps := [27, 8, 13, 79, 80, 81, 82, 83, 84, 85, 86, 87, 88, 89, 90, 91, 92, 93, 94, 95, 96, 97, 98, 99, 100, 101, 102, 103, 104, 105, 106, 107, 108, 109, 110, 111, 112, 113, 114, 115, 116, 117, 118, 119, 120, 121, 122, 123, 124, 125, 126, 127, 128, 129, 130, 131, 132, 133, 134, 135, 136, 137, 138, 139, 140, 141, 142, 143, 144, 145, 146, 147, 148, 149, 150, 151, 152, 153, 154, 155, 156, 157]) (by decide +kernel)) ga_X10_cells
set_option maxRecDepth 20000 in
theorem ggX10_soonest_X10_goes : GoodIn wsX10_soonest wsX10_goes := goodIn_mk (chkPl_mem (ps := [31, 32, 33, 34, 35, 6, 36, 8, 9, 10, 11, 12, 13, 14, 15, 16, 37, 38, 39, 40, 41, 42, 43, 44, 45, 46, 47, 48, 49, 50, 51, 52, 53, 54, 55, 56, 57, 58, 59, 60, 61, 62, 63, 64, 65, 66, 67, 68, 69, 70, 71, 72, 73, 74, 75, 76, 77, 78, 79, 80, 81, 82, 83, 84, 85, 86, 87, 88, 89, 90, 91, 92, 93, 94, 95, 96, 97, 98, 99, 100, 101, 102, 103, 104, 105, 106, 107, 108, 109, 110, 111, 112, 113, 114, 115, 116, 117, 118, 119, 120, 121, 122, 123, 124, 125, 126, 127, 128, 129, 130, 131, 132, 133, 134, 135, 136, 137, 138, 139, 140, 141, 142, 143, 144, 145, 146, 147, 148, 149, 150, 151, 152, 153, 154, 155, 156, 157]) (by decide +kernel)) ga_X10_goes
set_option maxRecDepth 20000 in
theorem ggX10_restBy_X10_goes : GoodIn wsX10_restBy wsX10_goes := goodIn_mk (chkPl_mem (ps := [7, 8, 9, 10, 11, 6, 12, 13, 14, 15, 16, 17, 18, 19, 20, 21, 22, 23, 24, 25, 26, 27, 28, 29, 30, 31, 32, 33, 34, 35, 36, 37, 38, 39, 40, 41, 42, 43, 44, 45, 46, 47, 48, 49, 50, 51, 52, 53, 54, 55, 56, 57, 58, 59, 60, 61, 62, 63, 68, 69, 70, 71, 72, 73, 74, 75, 76, 77, 78, 79, 80, 81, 82, 83, 84, 85, 86, 87, 88, 89, 90, 91, 92, 93, 94, 95, 96, 97, 98, 99, 100, 101, 102, 103, 104, 105, 106, 107, 108, 109, 110, 111, 112, 113, 114, 115, 116, 117, 118, 119, 120, 121, 122, 123, 124, 125, 126, 127, 128, 129, 130, 131, 132, 133, 134, 135, 136, 137, 138, 139, 140, 141, 142, 143, 144, 145, 146]) (by decide +kernel)) ga_X10_goes
set_option maxRecDepth 20000 in
theorem ggX10_restBy_X10_costOf : GoodIn wsX10_restBy wsX10_costOf := goodIn_mk (chkPl_mem (ps := [67, 49, 50, 51, 6, 52, 53, 54, 55, 56, 57, 58, 59, 60, 61, 62, 63, 34, 35, 36, 37, 38, 39, 40, 41, 42, 43, 44, 45, 46, 13, 47, 48, 68, 69, 70, 71, 72, 73, 74, 75, 76, 77, 78, 79, 80, 81, 82, 83, 84, 85, 86, 87, 88, 89, 90, 91, 92, 93, 94, 95, 96, 97, 98, 99, 100, 101, 102, 103, 104, 105, 106, 107, 108, 109, 110, 111, 112, 113, 114, 115, 116, 117, 118, 119, 120, 121, 122, 123, 124, 125, 126, 127, 128, 129, 130, 131, 132, 133, 134, 135, 136, 137, 138, 139, 140, 141, 142, 143, 144, 145, 146]) (by decide +kernel)) ga_X10_costOf
set_option maxRecDepth 20000 in
theorem ggX10_findRest_X10_cells : GoodIn wsX10_findRest wsX10_cells := goodIn_mk (chkPl_mem (ps := [7, 8, 9, 76, 77, 78, 79, 80, 81, 82, 83, 84, 85, 86, 87, 88, 89, 90, 91, 92, 93, 94, 95, 96, 97, 98, 99, 100, 101, 102, 103, 104, 105, 106, 107, 108, 109, 110, 111, 112, 113, 114, 115, 116, 117, 118, 119, 120, 121, 122, 123, 124, 125, 126, 127, 128, 129, 130, 131, 132, 133, 134, 135, 136, 137, 138, 139, 140, 141, 142, 143, 144, 145, 146, 147, 148, 149, 150, 151, 152, 153, 154]) (by decide +kernel)) ga_X10_cells
set_option maxRecDepth 20000 in
theorem ggX10_findRest_X10_restBy : GoodIn wsX10_findRest wsX10_restBy := goodIn_mk (chkPl_mem (ps := [13, 2, 1, 14, 15, 16, 6, 17, 18, 19, 20, 21, 22, 8, 23, 24, 25, 26, 9, 27, 28, 29, 30, 31, 32, 33, 34, 35, 36, 37, 38, 39, 40, 41, 42, 43, 44, 45, 46, 47, 48, 49, 50, 51, 52, 53, 54, 55, 56, 57, 58, 59, 60, 61, 62, 63, 64, 65, 66, 67, 68, 69, 70, 71, 72, 73, 74, 75, 76, 77, 78, 79, 80, 81, 82, 83, 84, 85, 86, 87, 88, 89, 90, 91, 92, 93, 94, 95, 96, 97, 98, 99, 100, 101, 102, 103, 104, 105, 106, 107, 108, 109, 110, 111, 112, 113, 114, 115, 116, 117, 118, 119, 120, 121, 122, 123, 124, 125, 126, 127, 128, 129, 130, 131, 132, 133, 134, 135, 136, 137, 138, 139, 140, 141, 142, 143, 144, 145, 146, 147, 148, 149, 150, 151, 152, 153, 154]) (by decide +kernel)) ga_X10_restBy
set_option maxRecDepth 20000 in
theorem ggX10_least_X10_ofPair : GoodIn wsX10_least wsX10_ofPair := goodIn_mk (chkPl_mem (ps := [10, 11, 12, 13, 14, 9, 15, 16, 17, 18, 19, 91, 92, 93, 94, 95, 96, 97, 98, 99, 100, 101, 102, 103, 104, 105, 106, 107, 108, 109, 110, 111, 112, 113, 114, 115, 116, 117, 118, 119, 120, 121, 122, 123, 124, 125, 126, 127, 128, 129, 130, 131, 132, 133, 134, 135, 136, 137, 138, 139, 140, 141, 142, 143, 144, 145, 146, 147, 148, 149, 150, 151, 152, 153, 154, 155, 156, 157, 158, 159, 160, 161, 162, 163, 164, 165, 166, 167, 168, 169]) (by decide +kernel)) ga_X10_ofPair
set_option maxRecDepth 20000 in
theorem ggX10_least_X10_isStep : GoodIn wsX10_least wsX10_isStep := goodIn_mk (chkPl_mem (ps := [22, 23, 17, 18, 9, 19]) (by decide +kernel)) ga_X10_isStep
set_option maxRecDepth 20000 in
theorem ggX10_least_X10_in : GoodIn wsX10_least wsX10_in := goodIn_mk (chkPl_mem (ps := [19]) (by decide +kernel)) ga_X10_in
set_option maxRecDepth 20000 in
theorem ggX10_least_X10_findRest : GoodIn wsX10_least wsX10_findRest := goodIn_mk (chkPl_mem (ps := [27, 5, 4, 28, 29, 30, 9, 31, 11, 16, 32, 33, 34, 35, 36, 37, 38, 39, 40, 41, 42, 43, 44, 12, 13, 14, 15, 17, 18, 19, 45, 46, 47, 48, 49, 50, 51, 52, 53, 54, 55, 56, 57, 58, 59, 60, 61, 62, 63, 64, 65, 66, 67, 68, 69, 70, 71, 72, 73, 74, 75, 76, 77, 78, 79, 80, 81, 82, 83, 84, 85, 86, 87, 88, 89, 90, 91, 92, 93, 94, 95, 96, 97, 98, 99, 100, 101, 102, 103, 104, 105, 106, 107, 108, 109, 110, 111, 112, 113, 114, 115, 116, 117, 118, 119, 120, 121, 122, 123, 124, 125, 126, 127, 128, 129, 130, 131, 132, 133, 134, 135, 136, 137, 138, 139, 140, 141, 142, 143, 144, 145, 146, 147, 148, 149, 150, 151, 152, 153, 154, 155, 156, 157, 158, 159, 160, 161, 162, 163, 164, 165, 166, 167, 168, 169]) (by decide +kernel)) ga_X10_findRest
set_option maxRecDepth 20000 in
theorem ggX10_least_X10_restBy : GoodIn wsX10_least wsX10_restBy := goodIn_mk (chkPl_mem (ps := [35, 4, 5, 36, 37, 38, 9, 39, 40, 41, 42, 43, 44, 11, 12, 13, 14, 15, 16, 17, 18, 19, 45, 46, 47, 48, 49, 50, 51, 52, 53, 54, 55, 56, 57, 58, 59, 60, 61, 62, 63, 64, 65, 66, 67, 68, 69, 70, 71, 72, 73, 74, 75, 76, 77, 78, 79, 80, 81, 82, 83, 84, 85, 86, 87, 88, 89, 90, 91, 92, 93, 94, 95, 96, 97, 98, 99, 100, 101, 102, 103, 104, 105, 106, 107, 108, 109, 110, 111, 112, 113, 114, 115, 116, 117, 118, 119, 120, 121, 122, 123, 124, 125, 126, 127, 128, 129, 130, 131, 132, 133, 134, 135, 136, 137, 138, 139, 140, 141, 142, 143, 144, 145, 146, 147, 148, 149, 150, 151, 152, 153, 154, 155, 156, 157, 158, 159, 160, 161, 162, 163, 164, 165, 166, 167, 168, 169]) (by decide +kernel)) ga_X10_restBy
set_option maxRecDepth 20000 in
theorem ggX10_least_X10_goes : GoodIn wsX10_least wsX10_goes := goodIn_mk (chkPl_mem (ps := [39, 40, 41, 42, 43, 9, 44, 11, 12, 13, 14, 15, 16, 17, 18, 19, 45, 46, 47, 48, 49, 50, 51, 52, 53, 54, 55, 56, 57, 58, 59, 60, 61, 62, 63, 64, 65, 66, 67, 68, 69, 70, 71, 72, 73, 74, 75, 76, 77, 78, 79, 80, 81, 82, 83, 84, 85, 86, 91, 92, 93, 94, 95, 96, 97, 98, 99, 100, 101, 102, 103, 104, 105, 106, 107, 108, 109, 110, 111, 112, 113, 114, 115, 116, 117, 118, 119, 120, 121, 122, 123, 124, 125, 126, 127, 128, 129, 130, 131, 132, 133, 134, 135, 136, 137, 138, 139, 140, 141, 142, 143, 144, 145, 146, 147, 148, 149, 150, 151, 152, 153, 154, 155, 156, 157, 158, 159, 160, 161, 162, 163, 164, 165, 166, 167, 168, 169]) (by decide +kernel)) ga_X10_goes
set_option maxRecDepth 20000 in
theorem ggX10_floorOf_X10_heightAt : GoodIn wsX10_floorOf wsX10_heightAt := goodIn_mk (chkPl_mem (ps := [7, 8, 9, 10, 11, 6, 12, 13, 14, 15, 16, 17, 18, 19, 20, 21, 22, 23, 24, 25, 26, 27, 28, 29, 30, 31, 32, 33, 34, 35, 36, 37, 38, 39, 40, 41, 42, 43, 44, 45, 46, 47, 48, 49, 50, 51, 52, 53, 54, 55, 56, 57, 58, 59, 60, 61, 62, 63, 64, 65, 66, 67, 68, 69, 70, 71, 72, 73, 74, 75, 76, 77, 78, 79, 80, 81, 82, 83, 84, 85, 86, 87, 88, 89, 90, 91, 92, 93, 94, 95, 96, 97, 98, 99, 100, 101, 102, 103, 104, 105, 106, 107, 108, 109]) (by decide +kernel)) ga_X10_heightAt
set_option maxRecDepth 20000 in
theorem ggX10_isLevelOf_X10_has : GoodIn wsX10_isLevelOf wsX10_has := goodIn_mk (chkPl_mem (ps := [8]) (by decide +kernel)) ga_X10_has
set_option maxRecDepth 20000 in
theorem ggX10_isLevelOf_X10_floorOf : GoodIn wsX10_isLevelOf wsX10_floorOf := goodIn_mk (chkPl_mem (ps := [12, 13, 14, 15, 16, 17, 7, 18, 19, 20, 21, 22, 23, 24, 25, 26, 27, 28, 29, 30, 31, 32, 33, 34, 35, 36, 37, 38, 39, 40, 41, 42, 43, 44, 45, 46, 47, 48, 49, 50, 51, 52, 53, 54, 55, 56, 57, 58, 59, 60, 61, 62, 63, 64, 65, 66, 67, 68, 69, 70, 71, 72, 73, 74, 75, 76, 77, 78, 79, 80, 81, 82, 83, 84, 85, 86, 87, 88, 89, 90, 91, 92, 93, 94, 95, 96, 97, 98, 99, 100, 101, 102, 103, 104, 105, 106, 107, 108, 109, 110, 111, 112, 113, 114, 115, 116, 117, 118, 119, 120]) (by decide +kernel)) ga_X10_floorOf
set_option maxRecDepth 20000 in
theorem ggX10_findWater_X10_isLevelOf : GoodIn wsX10_findWater wsX10_isLevelOf := goodIn_mk (chkPl_mem (ps := [9, 2, 1, 3, 4, 10, 11, 8, 12, 13, 14, 15, 16, 17, 18, 19, 20, 21, 22, 23, 24, 25, 26, 27, 28, 29, 30, 31, 32, 33, 34, 35, 36, 37, 38, 39, 40, 41, 42, 43, 44, 45, 49, 50, 51, 52, 53, 54, 55, 56, 57, 58, 59, 60, 61, 62, 63, 64, 65, 66, 67, 68, 69, 70, 71, 72, 73, 74, 75, 76, 77, 78, 79, 80, 81, 82, 83, 84, 85, 86, 87, 88, 89, 90, 91, 92, 93, 94, 95, 96, 97, 98, 99, 100, 101, 102, 103, 104, 105, 106, 107, 108, 109, 110, 111, 112, 113, 114, 115, 116, 117, 118, 119, 120, 121, 122, 123, 124, 125, 126, 127]) (by decide +kernel)) ga_X10_isLevelOf
set_option maxRecDepth 20000 in
theorem ggX10_findWater_X10_floorOf : GoodIn wsX10_findWater wsX10_floorOf := goodIn_mk (chkPl_mem (ps := [16, 17, 18, 19, 20, 21, 8, 22, 23, 24, 25, 26, 27, 28, 29, 30, 31, 32, 33, 34, 35, 36, 37, 38, 39, 40, 41, 42, 43, 44, 45, 49, 50, 51, 52, 53, 54, 55, 56, 57, 58, 59, 60, 61, 62, 63, 64, 65, 66, 67, 68, 69, 70, 71, 72, 73, 74, 75, 76, 77, 78, 79, 80, 81, 82, 83, 84, 85, 86, 87, 88, 89, 90, 91, 92, 93, 94, 95, 96, 97, 98, 99, 100, 101, 102, 103, 104, 105, 106, 107, 108, 109, 110, 111, 112, 113, 114, 115, 116, 117, 118, 119, 120, 121, 122, 123, 124, 125, 126, 127]) (by decide +kernel)) ga_X10_floorOf
set_option maxRecDepth 20000 in
theorem ggX10_findWater_X10_divisor : GoodIn wsX10_findWater wsX10_divisor := goodIn_mk (chkPl_mem (ps := [48]) (by decide +kernel)) ga_X10_divisor
set_option maxRecDepth 20000 in
theorem ggX10_water_X10_in : GoodIn wsX10_water wsX10_in := goodIn_mk (chkPl_mem (ps := [12]) (by decide +kernel)) ga_X10_in
set_option maxRecDepth 20000 in
theorem ggX10_water_X10_isStep : GoodIn wsX10_water wsX10_isStep := goodIn_mk (chkPl_mem (ps := [15, 16, 9, 10, 11, 12]) (by decide +kernel)) ga_X10_isStep
set_option maxRecDepth 20000 in
theorem ggX10_water_X10_findWater : GoodIn wsX10_water wsX10_findWater := goodIn_mk (chkPl_mem (ps := [20, 6, 4, 7, 8, 21, 22, 23, 11, 24, 25, 26, 27, 28, 29, 30, 31, 32, 33, 34, 35, 36, 37, 38, 39, 40, 41, 42, 43, 44, 45, 46, 47, 48, 49, 50, 51, 52, 53, 54, 55, 56, 57, 58, 59, 60, 61, 62, 63, 64, 65, 66, 67, 68, 69, 70, 71, 72, 73, 74, 75, 76, 77, 78, 79, 80, 81, 82, 83, 84, 85, 86, 87, 88, 89, 90, 91, 92, 93, 94, 95, 96, 97, 98, 99, 100, 101, 102, 103, 104, 105, 106, 107, 108, 109, 110, 111, 112, 113, 114, 115, 116, 117, 118, 119, 120, 121, 122, 123, 124, 125, 126, 127, 128, 129, 130, 131, 132, 133, 134, 135, 136, 137, 138, 139, 140, 141, 142]) (by decide +kernel)) ga_X10_findWater
set_option maxRecDepth 20000 in
theorem ggX10_whoseAt_X10_cells : GoodIn wsX10_whoseAt wsX10_cells := goodIn_mk (chkPl_mem (ps := [7, 8, 9, 39, 40, 41, 42, 43, 44, 45, 46, 47, 48, 49, 50, 51, 52, 53, 54, 55, 56, 57, 58, 59, 60, 61, 62, 63, 64, 65, 66, 67, 68, 69, 70, 71, 72, 73, 74, 75, 76, 77, 78, 79, 80, 81, 82, 83, 84, 85, 86, 87, 88, 89, 90, 91, 92, 93, 94, 95, 96, 97, 98, 99, 100, 101, 102, 103, 104, 105, 106, 107, 108, 109, 110, 111, 112, 113, 114, 115, 116, 117]) (by decide +kernel)) ga_X10_cells
set_option maxRecDepth 20000 in
theorem ggX10_whoseAt_X10_heightAt : GoodIn wsX10_whoseAt wsX10_heightAt := goodIn_mk (chkPl_mem (ps := [13, 14, 15, 16, 17, 6, 18, 19, 20, 21, 22, 23, 24, 25, 26, 27, 28, 29, 30, 31, 32, 33, 8, 34, 35, 39, 40, 41, 42, 43, 44, 45, 46, 47, 48, 49, 50, 51, 52, 53, 54, 55, 56, 57, 58, 59, 60, 61, 62, 63, 64, 65, 66, 67, 68, 69, 70, 71, 72, 73, 74, 75, 76, 77, 78, 79, 80, 81, 82, 83, 84, 85, 86, 87, 88, 89, 90, 91, 92, 93, 94, 95, 96, 97, 98, 99, 100, 101, 102, 103, 104, 105, 106, 107, 108, 109, 110, 111, 112, 113, 114, 115, 116, 117]) (by decide +kernel)) ga_X10_heightAt
set_option maxRecDepth 20000 in
theorem ggX10_whoseAt_X10_in : GoodIn wsX10_whoseAt wsX10_in := goodIn_mk (chkPl_mem (ps := [38]) (by decide +kernel)) ga_X10_in
set_option maxRecDepth 20000 in
theorem ggX10_whose_X10_in : GoodIn wsX10_whose wsX10_in := goodIn_mk (chkPl_mem (ps := [7]) (by decide +kernel)) ga_X10_in
set_option maxRecDepth 20000 in
theorem ggX10_whose_X10_isStep : GoodIn wsX10_whose wsX10_isStep := goodIn_mk (chkPl_mem (ps := [10, 11, 4, 5, 6, 7]) (by decide +kernel)) ga_X10_isStep
set_option maxRecDepth 20000 in
theorem ggX10_whose_X10_whoseAt : GoodIn wsX10_whose wsX10_whoseAt := goodIn_mk (chkPl_mem (ps := [15, 16, 17, 18, 19, 20, 6, 21, 22, 23, 24, 25, 26, 27, 28, 29, 30, 31, 32, 33, 34, 35, 36, 37, 38, 39, 40, 41, 42, 43, 44, 45, 46, 47, 48, 49, 4, 5, 7, 50, 51, 52, 53, 54, 55, 56, 57, 58, 59, 60, 61, 62, 63, 64, 65, 66, 67, 68, 69, 70, 71, 72, 73, 74, 75, 76, 77, 78, 79, 80, 81, 82, 83, 84, 85, 86, 87, 88, 89, 90, 91, 92, 93, 94, 95, 96, 97, 98, 99, 100, 101, 102, 103, 104, 105, 106, 107, 108, 109, 110, 111, 112, 113, 114, 115, 116, 117, 118, 119, 120, 121, 122, 123, 124, 125, 126, 127, 128]) (by decide +kernel)) ga_X10_whoseAt
set_option maxRecDepth 20000 in
theorem ggX10_stays_X10_in : GoodIn wsX10_stays wsX10_in := goodIn_mk (chkPl_mem (ps := [7]) (by decide +kernel)) ga_X10_in
set_option maxRecDepth 20000 in
theorem ggX10_stays_X10_cells : GoodIn wsX10_stays wsX10_cells := goodIn_mk (chkPl_mem (ps := [11, 12, 13, 46, 47, 48, 49, 50, 51, 52, 53, 54, 55, 56, 57, 58, 59, 60, 61, 62, 63, 64, 65, 66, 67, 68, 69, 70, 71, 72, 73, 74, 75, 76, 77, 78, 79, 80, 81, 82, 83, 84, 85, 86, 87, 88, 89, 90, 91, 92, 93, 94, 95, 96, 97, 98, 99, 100, 101, 102, 103, 104, 105, 106, 107, 108, 109, 110, 111, 112, 113, 114, 115, 116, 117, 118, 119, 120, 121, 122, 123, 124]) (by decide +kernel)) ga_X10_cells
set_option maxRecDepth 20000 in
theorem ggX10_stays_X10_whoseAt : GoodIn wsX10_stays wsX10_whoseAt := goodIn_mk (chkPl_mem (ps := [17, 18, 19, 8, 9, 10, 6, 11, 12, 13, 20, 21, 22, 23, 24, 25, 26, 27, 28, 29, 30, 31, 32, 33, 34, 35, 36, 37, 38, 39, 40, 41, 42, 43, 44, 45, 4, 5, 7, 46, 47, 48, 49, 50, 51, 52, 53, 54, 55, 56, 57, 58, 59, 60, 61, 62, 63, 64, 65, 66, 67, 68, 69, 70, 71, 72, 73, 74, 75, 76, 77, 78, 79, 80, 81, 82, 83, 84, 85, 86, 87, 88, 89, 90, 91, 92, 93, 94, 95, 96, 97, 98, 99, 100, 101, 102, 103, 104, 105, 106, 107, 108, 109, 110, 111, 112, 113, 114, 115, 116, 117, 118, 119, 120, 121, 122, 123, 124]) (by decide +kernel)) ga_X10_whoseAt
set_option maxRecDepth 20000 in
theorem ggX10_see_X10_isCell : GoodIn wsX10_see wsX10_isCell := goodIn_mk (chkPl_mem (ps := [15, 8, 16, 17, 18, 14, 19, 20, 21, 22, 23, 24, 25, 26, 27, 28, 29, 30, 31, 32, 33, 34, 35, 36, 37, 38, 39, 40, 41, 42, 43, 44, 45, 46, 47, 48, 49, 50, 51, 52, 53, 54, 55, 56, 57, 58, 59, 60, 61, 62, 63, 64, 65, 66, 67, 68, 69, 70, 71, 72, 73, 74, 75, 76, 77, 78, 79, 80, 81, 82, 83, 84, 85, 86, 87, 88, 89, 90, 91, 92, 93, 94, 95, 96, 97, 98]) (by decide +kernel)) ga_X10_isCell
set_option maxRecDepth 20000 in
theorem ggX10_see_X10_in : GoodIn wsX10_see wsX10_in := goodIn_mk (chkPl_mem (ps := [19]) (by decide +kernel)) ga_X10_in
set_option maxRecDepth 20000 in
theorem ggX10_isAsSeen_X10_heightAt : GoodIn wsX10_isAsSeen wsX10_heightAt := goodIn_mk (chkPl_mem (ps := [9, 10, 11, 12, 13, 8, 14, 15, 16, 17, 18, 19, 20, 21, 22, 23, 24, 25, 26, 27, 28, 29, 30, 31, 32, 33, 34, 35, 36, 37, 38, 39, 40, 41, 42, 43, 44, 45, 46, 47, 48, 49, 50, 51, 52, 53, 54, 55, 56, 57, 58, 59, 60, 61, 62, 63, 64, 65, 66, 67, 68, 69, 70, 71, 72, 73, 74, 75, 76, 77, 78, 79, 80, 81, 82, 83, 84, 85, 86, 87, 88, 89, 90, 91, 92, 93, 94, 95, 96, 97, 98, 99, 100, 101, 102, 103, 104, 105, 106, 107, 108, 109, 110, 111]) (by decide +kernel)) ga_X10_heightAt
set_option maxRecDepth 20000 in
theorem ggX10_findFits_X10_saveShifts : GoodIn wsX10_findFits wsX10_saveShifts := goodIn_mk (chkPl_mem (ps := [8, 9, 10, 56, 57, 58, 59, 60, 61, 62, 63, 64, 65, 66, 67, 68, 69, 70, 71, 72, 73, 74, 75, 76, 77, 78, 79, 80, 81, 82, 83, 84, 85, 86, 87, 88, 89, 90, 91, 92, 93, 94, 95, 96, 97, 98, 99, 100, 101, 102, 103, 104, 105, 106, 107, 108, 109, 110, 111, 112, 113, 114, 115, 116, 117, 118, 119, 120, 121, 122, 123, 124, 125, 126, 127, 128, 129, 130, 131, 132, 133, 134]) (by decide +kernel)) ga_X10_saveShifts
set_option maxRecDepth 20000 in
theorem ggX10_findFits_X10_codes : GoodIn wsX10_findFits wsX10_codes := goodIn_mk (chkPl_mem (ps := [14, 15, 56, 57, 58, 59, 60, 61, 62, 63, 64, 65, 66, 67, 68, 69, 70, 71, 72, 73, 74, 75, 76, 77, 78, 79, 80, 81, 82, 83, 84, 85, 86, 87, 88, 89, 90, 91, 92, 93, 94, 95, 96, 97, 98, 99, 100, 101, 102, 103, 104, 105, 106, 107, 108, 109, 110, 111, 112, 113, 114, 115, 116, 117, 118, 119, 120, 121, 122, 123, 124, 125, 126, 127, 128, 129, 130, 131, 132, 133, 134]) (by decide +kernel)) ga_X10_codes
set_option maxRecDepth 20000 in
theorem ggX10_findFits_X10_setShifts : GoodIn wsX10_findFits wsX10_setShifts := goodIn_mk (chkPl_mem (ps := [19, 10, 15, 56, 57, 58, 59, 60, 61, 62, 63, 64, 65, 66, 67, 68, 69, 70, 71, 72, 73, 74, 75, 76, 77, 78, 79, 80, 81, 82, 83, 84, 85, 86, 87, 88, 89, 90, 91, 92, 93, 94, 95, 96, 97, 98, 99, 100, 101, 102, 103, 104, 105, 106, 107, 108, 109, 110, 111, 112, 113, 114, 115, 116, 117, 118, 119, 120, 121, 122, 123, 124, 125, 126, 127, 128, 129, 130, 131, 132, 133, 134]) (by decide +kernel)) ga_X10_setShifts
set_option maxRecDepth 20000 in
theorem ggX10_findFits_X10_isAsSeen : GoodIn wsX10_findFits wsX10_isAsSeen := goodIn_mk (chkPl_mem (ps := [23, 24, 25, 26, 27, 28, 29, 30, 7, 31, 32, 33, 34, 35, 36, 37, 38, 39, 40, 41, 42, 2, 43, 44, 45, 46, 47, 48, 10, 49, 50, 51, 15, 56, 57, 58, 59, 60, 61, 62, 63, 64, 65, 66, 67, 68, 69, 70, 71, 72, 73, 74, 75, 76, 77, 78, 79, 80, 81, 82, 83, 84, 85, 86, 87, 88, 89, 90, 91, 92, 93, 94, 95, 96, 97, 98, 99, 100, 101, 102, 103, 104, 105, 106, 107, 108, 109, 110, 111, 112, 113, 114, 115, 116, 117, 118, 119, 120, 121, 122, 123, 124, 125, 126, 127, 128, 129, 130, 131, 132, 133, 134]) (by decide +kernel)) ga_X10_isAsSeen
set_option maxRecDepth 20000 in
theorem ggX10_findFits_X10_putBack : GoodIn wsX10_findFits wsX10_putBack := goodIn_mk (chkPl_mem (ps := [55, 10, 9, 56, 57, 58, 59, 60, 61, 62, 63, 64, 65, 66, 67, 68, 69, 70, 71, 72, 73, 74, 75, 76, 77, 78, 79, 80, 81, 82, 83, 84, 85, 86, 87, 88, 89, 90, 91, 92, 93, 94, 95, 96, 97, 98, 99, 100, 101, 102, 103, 104, 105, 106, 107, 108, 109, 110, 111, 112, 113, 114, 115, 116, 117, 118, 119, 120, 121, 122, 123, 124, 125, 126, 127, 128, 129, 130, 131, 132, 133, 134]) (by decide +kernel)) ga_X10_putBack
set_option maxRecDepth 20000 in
theorem ggX10_fits_X10_in : GoodIn wsX10_fits wsX10_in := goodIn_mk (chkPl_mem (ps := [9]) (by decide +kernel)) ga_X10_in
set_option maxRecDepth 20000 in
theorem ggX10_fits_X10_findFits : GoodIn wsX10_fits wsX10_findFits := goodIn_mk (chkPl_mem (ps := [13, 3, 1, 4, 14, 15, 16, 8, 17, 18, 5, 19, 20, 21, 22, 23, 24, 25, 26, 27, 28, 29, 30, 31, 32, 33, 34, 35, 36, 37, 38, 39, 40, 41, 42, 43, 44, 45, 46, 47, 48, 49, 50, 51, 52, 53, 54, 55, 56, 57, 58, 59, 60, 61, 62, 63, 64, 65, 66, 67, 68, 69, 70, 71, 72, 73, 74, 75, 76, 77, 78, 79, 80, 81, 82, 83, 84, 85, 86, 87, 88, 89, 90, 91, 92, 93, 94, 95, 96, 97, 98, 99, 100, 101, 102, 103, 104, 105, 106, 107, 108, 109, 110, 111, 112, 113, 114, 115, 116, 117, 118, 119, 120, 121, 122, 123, 124, 125, 126, 127, 128, 129, 130, 131, 132, 133, 134, 135, 136, 137, 138, 139, 140, 141, 142]) (by decide +kernel)) ga_X10_findFits
set_option maxRecDepth 20000 in
theorem ggX10_fits_X10_saveShifts : GoodIn wsX10_fits wsX10_saveShifts := goodIn_mk (chkPl_mem (ps := [17, 18, 5, 64, 65, 66, 67, 68, 69, 70, 71, 72, 73, 74, 75, 76, 77, 78, 79, 80, 81, 82, 83, 84, 85, 86, 87, 88, 89, 90, 91, 92, 93, 94, 95, 96, 97, 98, 99, 100, 101, 102, 103, 104, 105, 106, 107, 108, 109, 110, 111, 112, 113, 114, 115, 116, 117, 118, 119, 120, 121, 122, 123, 124, 125, 126, 127, 128, 129, 130, 131, 132, 133, 134, 135, 136, 137, 138, 139, 140, 141, 142]) (by decide +kernel)) ga_X10_saveShifts
set_option maxRecDepth 20000 in
theorem ggX10_fits_X10_setShifts : GoodIn wsX10_fits wsX10_setShifts := goodIn_mk (chkPl_mem (ps := [27, 5, 23, 64, 65, 66, 67, 68, 69, 70, 71, 72, 73, 74, 75, 76, 77, 78, 79, 80, 81, 82, 83, 84, 85, 86, 87, 88, 89, 90, 91, 92, 93, 94, 95, 96, 97, 98, 99, 100, 101, 102, 103, 104, 105, 106, 107, 108, 109, 110, 111, 112, 113, 114, 115, 116, 117, 118, 119, 120, 121, 122, 123, 124, 125, 126, 127, 128, 129, 130, 131, 132, 133, 134, 135, 136, 137, 138, 139, 140, 141, 142]) (by decide +kernel)) ga_X10_setShifts
set_option maxRecDepth 20000 in
theorem ggX10_fits_X10_putBack : GoodIn wsX10_fits wsX10_putBack := goodIn_mk (chkPl_mem (ps := [63, 5, 18, 64, 65, 66, 67, 68, 69, 70, 71, 72, 73, 74, 75, 76, 77, 78, 79, 80, 81, 82, 83, 84, 85, 86, 87, 88, 89, 90, 91, 92, 93, 94, 95, 96, 97, 98, 99, 100, 101, 102, 103, 104, 105, 106, 107, 108, 109, 110, 111, 112, 113, 114, 115, 116, 117, 118, 119, 120, 121, 122, 123, 124, 125, 126, 127, 128, 129, 130, 131, 132, 133, 134, 135, 136, 137, 138, 139, 140, 141, 142]) (by decide +kernel)) ga_X10_putBack
set_option maxRecDepth 20000 in
theorem ggX10_worstAt_X10_stiffOf : GoodIn wsX10_worstAt wsX10_stiffOf := goodIn_mk (chkPl_mem (ps := [8, 9, 10, 31, 32, 33, 34, 35, 36, 37, 38, 39, 40, 41, 42, 43, 44, 45, 46, 47, 48, 49, 50, 51, 52, 53, 54, 55, 56, 57, 58, 59, 60, 61, 62, 63, 64, 65, 66, 67, 68, 69, 70, 71, 72, 73, 74, 75, 76, 77, 78, 79, 80, 81, 82, 83, 84, 85, 86, 87, 88, 89, 90, 91, 92, 93, 94, 95, 96, 97, 98, 99, 100, 101, 102, 103, 104, 105, 106, 107, 108, 109]) (by decide +kernel)) ga_X10_stiffOf
set_option maxRecDepth 20000 in
theorem ggX10_worstAt_X10_setShifts : GoodIn wsX10_worstAt wsX10_setShifts := goodIn_mk (chkPl_mem (ps := [14, 15, 16, 31, 32, 33, 34, 35, 36, 37, 38, 39, 40, 41, 42, 43, 44, 45, 46, 47, 48, 49, 50, 51, 52, 53, 54, 55, 56, 57, 58, 59, 60, 61, 62, 63, 64, 65, 66, 67, 68, 69, 70, 71, 72, 73, 74, 75, 76, 77, 78, 79, 80, 81, 82, 83, 84, 85, 86, 87, 88, 89, 90, 91, 92, 93, 94, 95, 96, 97, 98, 99, 100, 101, 102, 103, 104, 105, 106, 107, 108, 109]) (by decide +kernel)) ga_X10_setShifts
set_option maxRecDepth 20000 in
theorem ggX10_worstAt_X10_pullAt : GoodIn wsX10_worstAt wsX10_pullAt := goodIn_mk (chkPl_mem (ps := [20, 21, 22, 23, 24, 7, 25, 26, 27, 15, 28, 29, 30, 16, 31, 32, 33, 34, 35, 36, 37, 38, 39, 40, 41, 42, 43, 44, 45, 46, 47, 48, 49, 50, 51, 52, 53, 54, 55, 56, 57, 58, 59, 60, 61, 62, 63, 64, 65, 66, 67, 68, 69, 70, 71, 72, 73, 74, 75, 76, 77, 78, 79, 80, 81, 82, 83, 84, 85, 86, 87, 88, 89, 90, 91, 92, 93, 94, 95, 96, 97, 98, 99, 100, 101, 102, 103, 104, 105, 106, 107, 108, 109]) (by decide +kernel)) ga_X10_pullAt
set_option maxRecDepth 20000 in
theorem ggX10_look_X10_in : GoodIn wsX10_look wsX10_in := goodIn_mk (chkPl_mem (ps := [7]) (by decide +kernel)) ga_X10_in
set_option maxRecDepth 20000 in
theorem ggX10_look_X10_findFits : GoodIn wsX10_look wsX10_findFits := goodIn_mk (chkPl_mem (ps := [11, 3, 12, 13, 14, 15, 16, 6, 17, 18, 19, 20, 21, 22, 23, 24, 25, 26, 27, 28, 29, 30, 31, 32, 33, 34, 35, 36, 37, 38, 39, 40, 41, 42, 43, 44, 45, 46, 47, 48, 49, 50, 51, 52, 53, 54, 55, 56, 57, 58, 59, 60, 61, 62, 63, 64, 79, 80, 81, 82, 83, 84, 85, 86, 87, 88, 89, 90, 91, 92, 93, 94, 95, 96, 97, 98, 99, 100, 101, 102, 103, 104, 105, 106, 107, 108, 109, 110, 111, 112, 113, 114, 115, 116, 117, 118, 119, 120, 121, 122, 123, 124, 125, 126, 127, 128, 129, 130, 131, 132, 133, 134, 135, 136, 137, 138, 139, 140, 141, 142, 143, 144, 145, 146, 147, 148, 149, 150, 151, 152, 153, 154, 155, 156, 157]) (by decide +kernel)) ga_X10_findFits
set_option maxRecDepth 20000 in
theorem ggX10_look_X10_saveShifts : GoodIn wsX10_look wsX10_saveShifts := goodIn_mk (chkPl_mem (ps := [17, 18, 19, 79, 80, 81, 82, 83, 84, 85, 86, 87, 88, 89, 90, 91, 92, 93, 94, 95, 96, 97, 98, 99, 100, 101, 102, 103, 104, 105, 106, 107, 108, 109, 110, 111, 112, 113, 114, 115, 116, 117, 118, 119, 120, 121, 122, 123, 124, 125, 126, 127, 128, 129, 130, 131, 132, 133, 134, 135, 136, 137, 138, 139, 140, 141, 142, 143, 144, 145, 146, 147, 148, 149, 150, 151, 152, 153, 154, 155, 156, 157]) (by decide +kernel)) ga_X10_saveShifts
set_option maxRecDepth 20000 in
theorem ggX10_look_X10_cells : GoodIn wsX10_look wsX10_cells := goodIn_mk (chkPl_mem (ps := [68, 59, 69, 79, 80, 81, 82, 83, 84, 85, 86, 87, 88, 89, 90, 91, 92, 93, 94, 95, 96, 97, 98, 99, 100, 101, 102, 103, 104, 105, 106, 107, 108, 109, 110, 111, 112, 113, 114, 115, 116, 117, 118, 119, 120, 121, 122, 123, 124, 125, 126, 127, 128, 129, 130, 131, 132, 133, 134, 135, 136, 137, 138, 139, 140, 141, 142, 143, 144, 145, 146, 147, 148, 149, 150, 151, 152, 153, 154, 155, 156, 157]) (by decide +kernel)) ga_X10_cells
set_option maxRecDepth 20000 in
theorem ggX10_look_X10_worstAt : GoodIn wsX10_look wsX10_worstAt := goodIn_mk (chkPl_mem (ps := [73, 3, 74, 13, 42, 43, 44, 6, 45, 46, 47, 25, 26, 27, 28, 19, 24, 48, 49, 50, 51, 12, 52, 53, 54, 55, 56, 57, 58, 59, 60, 79, 80, 81, 82, 83, 84, 85, 86, 87, 88, 89, 90, 91, 92, 93, 94, 95, 96, 97, 98, 99, 100, 101, 102, 103, 104, 105, 106, 107, 108, 109, 110, 111, 112, 113, 114, 115, 116, 117, 118, 119, 120, 121, 122, 123, 124, 125, 126, 127, 128, 129, 130, 131, 132, 133, 134, 135, 136, 137, 138, 139, 140, 141, 142, 143, 144, 145, 146, 147, 148, 149, 150, 151, 152, 153, 154, 155, 156, 157]) (by decide +kernel)) ga_X10_worstAt
set_option maxRecDepth 20000 in
theorem ggX10_look_X10_putBack : GoodIn wsX10_look wsX10_putBack := goodIn_mk (chkPl_mem (ps := [64, 19, 18, 79, 80, 81, 82, 83, 84, 85, 86, 87, 88, 89, 90, 91, 92, 93, 94, 95, 96, 97, 98, 99, 100, 101, 102, 103, 104, 105, 106, 107, 108, 109, 110, 111, 112, 113, 114, 115, 116, 117, 118, 119, 120, 121, 122, 123, 124, 125, 126, 127, 128, 129, 130, 131, 132, 133, 134, 135, 136, 137, 138, 139, 140, 141, 142, 143, 144, 145, 146, 147, 148, 149, 150, 151, 152, 153, 154, 155, 156, 157]) (by decide +kernel)) ga_X10_putBack
set_option maxRecDepth 20000 in
theorem ggX10_look_X10_pairOf : GoodIn wsX10_look wsX10_pairOf := goodIn_mk (chkPl_mem (ps := [78, 59, 79, 80, 81, 82, 83, 84, 85, 86, 87, 88, 89, 90, 91, 92, 93, 94, 95, 96, 97, 98, 99, 100, 101, 102, 103, 104, 105, 106, 107, 108, 109, 110, 111, 112, 113, 114, 115, 116, 117, 118, 119, 120, 121, 122, 123, 124, 125, 126, 127, 128, 129, 130, 131, 132, 133, 134, 135, 136, 137, 138, 139, 140, 141, 142, 143, 144, 145, 146, 147, 148, 149, 150, 151, 152, 153, 154, 155, 156, 157]) (by decide +kernel)) ga_X10_pairOf
set_option maxRecDepth 20000 in
theorem ggX10_odds_X10_in : GoodIn wsX10_odds wsX10_in := goodIn_mk (chkPl_mem (ps := [13]) (by decide +kernel)) ga_X10_in
set_option maxRecDepth 20000 in
theorem ggX10_odds_X10_isCell : GoodIn wsX10_odds wsX10_isCell := goodIn_mk (chkPl_mem (ps := [17, 6, 18, 10, 11, 12, 13, 55, 56, 57, 58, 59, 60, 61, 62, 63, 64, 65, 66, 67, 68, 69, 70, 71, 72, 73, 74, 75, 76, 77, 78, 79, 80, 81, 82, 83, 84, 85, 86, 87, 88, 89, 90, 91, 92, 93, 94, 95, 96, 97, 98, 99, 100, 101, 102, 103, 104, 105, 106, 107, 108, 109, 110, 111, 112, 113, 114, 115, 116, 117, 118, 119, 120, 121, 122, 123, 124, 125, 126, 127, 128, 129, 130, 131, 132, 133]) (by decide +kernel)) ga_X10_isCell
set_option maxRecDepth 20000 in
theorem ggX10_odds_X10_isStep : GoodIn wsX10_odds wsX10_isStep := goodIn_mk (chkPl_mem (ps := [21, 22, 10, 11, 12, 13]) (by decide +kernel)) ga_X10_isStep
set_option maxRecDepth 20000 in
theorem ggX10_odds_X10_leanAt : GoodIn wsX10_odds wsX10_leanAt := goodIn_mk (chkPl_mem (ps := [26, 27, 28, 29, 12, 30, 6, 14, 15, 16, 17, 18, 10, 11, 13, 31, 32, 33, 34, 35, 36, 37, 38, 39, 40, 41, 42, 43, 44, 45, 1, 46, 47, 48, 49, 7, 50, 51, 52, 53, 54, 55, 56, 57, 58, 59, 60, 61, 62, 63, 64, 65, 66, 67, 68, 69, 70, 71, 72, 73, 74, 75, 76, 77, 78, 79, 80, 81, 82, 83, 84, 85, 86, 87, 88, 89, 90, 91, 92, 93, 94, 95, 96, 97, 98, 99, 100, 101, 102, 103, 104, 105, 106, 107, 108, 109, 110, 111, 112, 113, 114, 115, 116, 117, 118, 119, 120, 121, 122, 123, 124, 125, 126, 127, 128, 129, 130, 131, 132, 133]) (by decide +kernel)) ga_X10_leanAt
set_option maxRecDepth 20000 in
theorem ggX10_write_X10_in : GoodIn wsX10_write wsX10_in := goodIn_mk (chkPl_mem (ps := [9]) (by decide +kernel)) ga_X10_in
set_option maxRecDepth 20000 in
theorem ggX10_judge_X10_in : GoodIn wsX10_judge wsX10_in := goodIn_mk (chkPl_mem (ps := [11]) (by decide +kernel)) ga_X10_in
set_option maxRecDepth 20000 in
theorem ggX10_judge_X10_goes : GoodIn wsX10_judge wsX10_goes := goodIn_mk (chkPl_mem (ps := [15, 16, 17, 18, 19, 10, 20, 2, 21, 22, 23, 24, 25, 8, 9, 11, 26, 27, 28, 29, 30, 31, 32, 33, 34, 35, 36, 37, 38, 39, 40, 41, 42, 43, 44, 45, 46, 47, 48, 49, 50, 51, 52, 53, 54, 55, 56, 57, 58, 59, 60, 61, 62, 63, 64, 65, 66, 67, 72, 73, 74, 75, 76, 77, 78, 79, 80, 81, 82, 83, 84, 85, 86, 87, 88, 89, 90, 91, 92, 93, 94, 95, 96, 97, 98, 99, 100, 101, 102, 103, 104, 105, 106, 107, 108, 109, 110, 111, 112, 113, 114, 115, 116, 117, 118, 119, 120, 121, 122, 123, 124, 125, 126, 127, 128, 129, 130, 131, 132, 133, 134, 135, 136, 137, 138, 139, 140, 141, 142, 143, 144, 145, 146, 147, 148, 149, 150]) (by decide +kernel)) ga_X10_goes
set_option maxRecDepth 20000 in
theorem ggX10_judge_X10_costOf : GoodIn wsX10_judge wsX10_costOf := goodIn_mk (chkPl_mem (ps := [71, 53, 54, 55, 10, 56, 57, 58, 59, 60, 61, 62, 63, 64, 65, 66, 67, 38, 39, 40, 41, 42, 43, 44, 45, 46, 47, 48, 49, 50, 2, 51, 52, 72, 73, 74, 75, 76, 77, 78, 79, 80, 81, 82, 83, 84, 85, 86, 87, 88, 89, 90, 91, 92, 93, 94, 95, 96, 97, 98, 99, 100, 101, 102, 103, 104, 105, 106, 107, 108, 109, 110, 111, 112, 113, 114, 115, 116, 117, 118, 119, 120, 121, 122, 123, 124, 125, 126, 127, 128, 129, 130, 131, 132, 133, 134, 135, 136, 137, 138, 139, 140, 141, 142, 143, 144, 145, 146, 147, 148, 149, 150]) (by decide +kernel)) ga_X10_costOf
set_option maxRecDepth 20000 in
theorem ggX10_keep_X10_in : GoodIn wsX10_keep wsX10_in := goodIn_mk (chkPl_mem (ps := [15]) (by decide +kernel)) ga_X10_in
set_option maxRecDepth 20000 in
theorem ggX10_goBack_X10_in : GoodIn wsX10_goBack wsX10_in := goodIn_mk (chkPl_mem (ps := [16]) (by decide +kernel)) ga_X10_in
theorem gX1_init_X5_init_n26 : GoodIn wsX1_init (wsX5_init) := ggX1_init_X5_init
theorem gX1_init_X0_init_n40 : GoodIn wsX1_init (wsX0_init) := ggX1_init_X0_init
theorem gX1_init_X1_clear : GoodIn wsX1_init (wsV RX1 41 RX1 yX1_clear wsX1_clear) := goodIn_app (goodIn_mk (chkPl_mem (ps := [29, 30, 31, 32]) (by decide +kernel)) (by decide +kernel)) ggX1_init_X1_clear
theorem gX1_clear_X0_clear : GoodIn wsX1_clear (wsV RX1 57 RX0 yX0_clear wsX0_clear) := goodIn_app (goodIn_mk (chkPl_mem (ps := [11, 12, 13, 14]) (by decide +kernel)) (by decide +kernel)) ggX1_clear_X0_clear
theorem gX1_cellOfPair_X1_cellAt : GoodIn wsX1_cellOfPair (wsV RX1 61 RX1 yX1_cellAt wsX1_cellAt) := goodIn_app (goodIn_mk (chkPl_mem (ps := [1, 2, 3, 4]) (by decide +kernel)) (by decide +kernel)) ggX1_cellOfPair_X1_cellAt
theorem gX1_beside_X1_cellAt : GoodIn wsX1_beside (wsV RX1 61 RX1 yX1_cellAt wsX1_cellAt) := goodIn_app (goodIn_mk (chkPl_mem (ps := [2, 3, 4, 5]) (by decide +kernel)) (by decide +kernel)) ggX1_beside_X1_cellAt
theorem gX1_period_X9_greatestDivisor_n74 : GoodIn wsX1_period (wsX9_greatestDivisor) := ggX1_period_X9_greatestDivisor
theorem gX2_readText_X1_clear : GoodIn wsX2_readText (wsV RX2 32 RX1 yX1_clear wsX1_clear) := goodIn_app (goodIn_mk (chkPl_mem (ps := [13, 14, 15, 16]) (by decide +kernel)) (by decide +kernel)) ggX2_readText_X1_clear
theorem gX2_readText_X2_skipBlanks : GoodIn wsX2_readText (wsV RX2 49 RX2 yX2_skipBlanks wsX2_skipBlanks) := goodIn_app (goodIn_mk (chkPl_mem (ps := [38, 39, 40, 41]) (by decide +kernel)) (by decide +kernel)) ggX2_readText_X2_skipBlanks
theorem gX2_readText_X2_readClause : GoodIn wsX2_readText (wsV RX2 52 RX2 yX2_readClause wsX2_readClause) := goodIn_app (goodIn_mk (chkPl_mem (ps := [43, 44, 45, 41]) (by decide +kernel)) (by decide +kernel)) ggX2_readText_X2_readClause
theorem gX2_readClause_X2_refuseIf : GoodIn wsX2_readClause (wsV RX2 58 RX2 yX2_refuseIf wsX2_refuseIf) := goodIn_app (goodIn_mk (chkPl_mem (ps := [5, 6, 7, 8]) (by decide +kernel)) (by decide +kernel)) ggX2_readClause_X2_refuseIf
theorem gX2_readClause_X2_readGround : GoodIn wsX2_readClause (wsV RX2 62 RX2 yX2_readGround wsX2_readGround) := goodIn_app (goodIn_mk (chkPl_mem (ps := [12, 13, 14, 8]) (by decide +kernel)) (by decide +kernel)) ggX2_readClause_X2_readGround
theorem gX2_readClause_X2_readCell : GoodIn wsX2_readClause (wsV RX2 66 RX2 yX2_readCell wsX2_readCell) := goodIn_app (goodIn_mk (chkPl_mem (ps := [40, 41, 42, 8]) (by decide +kernel)) (by decide +kernel)) ggX2_readClause_X2_readCell
theorem gX2_readClause_X2_readMoon : GoodIn wsX2_readClause (wsV RX2 69 RX2 yX2_readMoon wsX2_readMoon) := goodIn_app (goodIn_mk (chkPl_mem (ps := [57, 58, 59, 8]) (by decide +kernel)) (by decide +kernel)) ggX2_readClause_X2_readMoon
theorem gX2_readClause_X2_readHouse : GoodIn wsX2_readClause (wsV RX2 72 RX2 yX2_readHouse wsX2_readHouse) := goodIn_app (goodIn_mk (chkPl_mem (ps := [80, 81, 82, 8]) (by decide +kernel)) (by decide +kernel)) ggX2_readClause_X2_readHouse
theorem gX2_readClause_X2_readCrack : GoodIn wsX2_readClause (wsV RX2 75 RX2 yX2_readCrack wsX2_readCrack) := goodIn_app (goodIn_mk (chkPl_mem (ps := [103, 104, 105, 8]) (by decide +kernel)) (by decide +kernel)) ggX2_readClause_X2_readCrack
theorem gX2_readClause_X2_readWell : GoodIn wsX2_readClause (wsV RX2 78 RX2 yX2_readWell wsX2_readWell) := goodIn_app (goodIn_mk (chkPl_mem (ps := [117, 118, 119, 8]) (by decide +kernel)) (by decide +kernel)) ggX2_readClause_X2_readWell
theorem gX2_readClause_X2_readDeed : GoodIn wsX2_readClause (wsV RX2 81 RX2 yX2_readDeed wsX2_readDeed) := goodIn_app (goodIn_mk (chkPl_mem (ps := [122, 123, 124, 8]) (by decide +kernel)) (by decide +kernel)) ggX2_readClause_X2_readDeed
theorem gX2_readGround_X2_refuseIf : GoodIn wsX2_readGround (wsV RX2 58 RX2 yX2_refuseIf wsX2_refuseIf) := goodIn_app (goodIn_mk (chkPl_mem (ps := [9, 10, 11, 12]) (by decide +kernel)) (by decide +kernel)) ggX2_readGround_X2_refuseIf
theorem gX2_readGround_X2_readNumber : GoodIn wsX2_readGround (wsV RX2 84 RX2 yX2_readNumber wsX2_readNumber) := goodIn_app (goodIn_mk (chkPl_mem (ps := [15, 16, 17, 12]) (by decide +kernel)) (by decide +kernel)) ggX2_readGround_X2_readNumber
theorem gX2_readGround_X2_readSign : GoodIn wsX2_readGround (wsV RX2 90 RX2 yX2_readSign wsX2_readSign) := goodIn_app (goodIn_mk (chkPl_mem (ps := [32, 33, 34, 12]) (by decide +kernel)) (by decide +kernel)) ggX2_readGround_X2_readSign
theorem gX2_readCell_X2_refuseIf : GoodIn wsX2_readCell (wsV RX2 58 RX2 yX2_refuseIf wsX2_refuseIf) := goodIn_app (goodIn_mk (chkPl_mem (ps := [8, 9, 10, 11]) (by decide +kernel)) (by decide +kernel)) ggX2_readCell_X2_refuseIf
theorem gX2_readCell_X2_readPlace : GoodIn wsX2_readCell (wsV RX2 105 RX2 yX2_readPlace wsX2_readPlace) := goodIn_app (goodIn_mk (chkPl_mem (ps := [14, 15, 16, 11]) (by decide +kernel)) (by decide +kernel)) ggX2_readCell_X2_readPlace
theorem gX2_readCell_X2_readNumber : GoodIn wsX2_readCell (wsV RX2 84 RX2 yX2_readNumber wsX2_readNumber) := goodIn_app (goodIn_mk (chkPl_mem (ps := [20, 21, 22, 11]) (by decide +kernel)) (by decide +kernel)) ggX2_readCell_X2_readNumber
theorem gX2_readCell_X2_readSign : GoodIn wsX2_readCell (wsV RX2 90 RX2 yX2_readSign wsX2_readSign) := goodIn_app (goodIn_mk (chkPl_mem (ps := [44, 45, 46, 11]) (by decide +kernel)) (by decide +kernel)) ggX2_readCell_X2_readSign
theorem gX2_readMoon_X2_refuseIf : GoodIn wsX2_readMoon (wsV RX2 58 RX2 yX2_refuseIf wsX2_refuseIf) := goodIn_app (goodIn_mk (chkPl_mem (ps := [10, 11, 12, 13]) (by decide +kernel)) (by decide +kernel)) ggX2_readMoon_X2_refuseIf
theorem gX2_readMoon_X2_readNumber : GoodIn wsX2_readMoon (wsV RX2 84 RX2 yX2_readNumber wsX2_readNumber) := goodIn_app (goodIn_mk (chkPl_mem (ps := [16, 17, 18, 13]) (by decide +kernel)) (by decide +kernel)) ggX2_readMoon_X2_readNumber
theorem gX2_readMoon_X2_readRow : GoodIn wsX2_readMoon (wsV RX2 127 RX2 yX2_readRow wsX2_readRow) := goodIn_app (goodIn_mk (chkPl_mem (ps := [34, 35, 36, 13]) (by decide +kernel)) (by decide +kernel)) ggX2_readMoon_X2_readRow
theorem gX2_readMoon_X2_readSign : GoodIn wsX2_readMoon (wsV RX2 90 RX2 yX2_readSign wsX2_readSign) := goodIn_app (goodIn_mk (chkPl_mem (ps := [38, 39, 40, 13]) (by decide +kernel)) (by decide +kernel)) ggX2_readMoon_X2_readSign
theorem gX2_readMoon_X0_settle : GoodIn wsX2_readMoon (wsV RX2 131 RX0 yX0_settle wsX0_settle) := goodIn_app (goodIn_mk (chkPl_mem (ps := [42, 43, 44, 45]) (by decide +kernel)) (by decide +kernel)) ggX2_readMoon_X0_settle
theorem gX2_readRow_X2_readNumber : GoodIn wsX2_readRow (wsV RX2 84 RX2 yX2_readNumber wsX2_readNumber) := goodIn_app (goodIn_mk (chkPl_mem (ps := [5, 6, 7, 8]) (by decide +kernel)) (by decide +kernel)) ggX2_readRow_X2_readNumber
theorem gX2_readRow_X2_skipBlanks : GoodIn wsX2_readRow (wsV RX2 49 RX2 yX2_skipBlanks wsX2_skipBlanks) := goodIn_app (goodIn_mk (chkPl_mem (ps := [11, 12, 13, 8]) (by decide +kernel)) (by decide +kernel)) ggX2_readRow_X2_skipBlanks
theorem gX2_readRow_X2_refuseIf : GoodIn wsX2_readRow (wsV RX2 58 RX2 yX2_refuseIf wsX2_refuseIf) := goodIn_app (goodIn_mk (chkPl_mem (ps := [18, 19, 20, 8]) (by decide +kernel)) (by decide +kernel)) ggX2_readRow_X2_refuseIf
theorem gX2_readHouse_X2_refuseIf : GoodIn wsX2_readHouse (wsV RX2 58 RX2 yX2_refuseIf wsX2_refuseIf) := goodIn_app (goodIn_mk (chkPl_mem (ps := [5, 6, 7, 8]) (by decide +kernel)) (by decide +kernel)) ggX2_readHouse_X2_refuseIf
theorem gX2_readHouse_X2_readPlace : GoodIn wsX2_readHouse (wsV RX2 105 RX2 yX2_readPlace wsX2_readPlace) := goodIn_app (goodIn_mk (chkPl_mem (ps := [12, 13, 14, 8]) (by decide +kernel)) (by decide +kernel)) ggX2_readHouse_X2_readPlace
theorem gX2_readHouse_X5_stands : GoodIn wsX2_readHouse (wsV RX2 144 RX5 yX5_stands wsX5_stands) := goodIn_app (goodIn_mk (chkPl_mem (ps := [42, 43, 44, 45]) (by decide +kernel)) (by decide +kernel)) ggX2_readHouse_X5_stands
theorem gX2_readHouse_X2_readNumber : GoodIn wsX2_readHouse (wsV RX2 84 RX2 yX2_readNumber wsX2_readNumber) := goodIn_app (goodIn_mk (chkPl_mem (ps := [18, 19, 20, 8]) (by decide +kernel)) (by decide +kernel)) ggX2_readHouse_X2_readNumber
theorem gX2_readHouse_X2_readSign : GoodIn wsX2_readHouse (wsV RX2 90 RX2 yX2_readSign wsX2_readSign) := goodIn_app (goodIn_mk (chkPl_mem (ps := [49, 50, 51, 8]) (by decide +kernel)) (by decide +kernel)) ggX2_readHouse_X2_readSign
theorem gX2_readHouse_X2_addTo : GoodIn wsX2_readHouse (wsV RX2 148 RX2 yX2_addTo wsX2_addTo) := goodIn_app (goodIn_mk (chkPl_mem (ps := [53, 54, 55, 8]) (by decide +kernel)) (by decide +kernel)) ggX2_readHouse_X2_addTo
theorem gX2_readCrack_X2_refuseIf : GoodIn wsX2_readCrack (wsV RX2 58 RX2 yX2_refuseIf wsX2_refuseIf) := goodIn_app (goodIn_mk (chkPl_mem (ps := [5, 6, 7, 8]) (by decide +kernel)) (by decide +kernel)) ggX2_readCrack_X2_refuseIf
theorem gX2_readCrack_X2_readPlace : GoodIn wsX2_readCrack (wsV RX2 105 RX2 yX2_readPlace wsX2_readPlace) := goodIn_app (goodIn_mk (chkPl_mem (ps := [12, 13, 14, 8]) (by decide +kernel)) (by decide +kernel)) ggX2_readCrack_X2_readPlace
theorem gX2_readCrack_X2_readNumber : GoodIn wsX2_readCrack (wsV RX2 84 RX2 yX2_readNumber wsX2_readNumber) := goodIn_app (goodIn_mk (chkPl_mem (ps := [18, 19, 20, 8]) (by decide +kernel)) (by decide +kernel)) ggX2_readCrack_X2_readNumber
theorem gX2_readCrack_X1_beside : GoodIn wsX2_readCrack (wsV RX2 155 RX1 yX1_beside wsX1_beside) := goodIn_app (goodIn_mk (chkPl_mem (ps := [42, 43, 44, 38]) (by decide +kernel)) (by decide +kernel)) ggX2_readCrack_X1_beside
theorem gX2_readCrack_X5_find : GoodIn wsX2_readCrack (wsV RX2 158 RX5 yX5_find wsX5_find) := goodIn_app (goodIn_mk (chkPl_mem (ps := [47, 48, 49, 50]) (by decide +kernel)) (by decide +kernel)) ggX2_readCrack_X5_find
theorem gX2_readCrack_X2_readSign : GoodIn wsX2_readCrack (wsV RX2 90 RX2 yX2_readSign wsX2_readSign) := goodIn_app (goodIn_mk (chkPl_mem (ps := [55, 56, 57, 8]) (by decide +kernel)) (by decide +kernel)) ggX2_readCrack_X2_readSign
theorem gX2_readCrack_X2_addTo : GoodIn wsX2_readCrack (wsV RX2 148 RX2 yX2_addTo wsX2_addTo) := goodIn_app (goodIn_mk (chkPl_mem (ps := [59, 60, 61, 8]) (by decide +kernel)) (by decide +kernel)) ggX2_readCrack_X2_addTo
theorem gX2_readWell_X2_refuseIf : GoodIn wsX2_readWell (wsV RX2 58 RX2 yX2_refuseIf wsX2_refuseIf) := goodIn_app (goodIn_mk (chkPl_mem (ps := [5, 6, 7, 8]) (by decide +kernel)) (by decide +kernel)) ggX2_readWell_X2_refuseIf
theorem gX2_readWell_X2_readPlace : GoodIn wsX2_readWell (wsV RX2 105 RX2 yX2_readPlace wsX2_readPlace) := goodIn_app (goodIn_mk (chkPl_mem (ps := [12, 13, 14, 8]) (by decide +kernel)) (by decide +kernel)) ggX2_readWell_X2_readPlace
theorem gX2_readWell_X5_stands : GoodIn wsX2_readWell (wsV RX2 144 RX5 yX5_stands wsX5_stands) := goodIn_app (goodIn_mk (chkPl_mem (ps := [42, 43, 44, 45]) (by decide +kernel)) (by decide +kernel)) ggX2_readWell_X5_stands
theorem gX2_readWell_X2_readNumber : GoodIn wsX2_readWell (wsV RX2 84 RX2 yX2_readNumber wsX2_readNumber) := goodIn_app (goodIn_mk (chkPl_mem (ps := [18, 19, 20, 8]) (by decide +kernel)) (by decide +kernel)) ggX2_readWell_X2_readNumber
theorem gX2_readWell_X2_readSign : GoodIn wsX2_readWell (wsV RX2 90 RX2 yX2_readSign wsX2_readSign) := goodIn_app (goodIn_mk (chkPl_mem (ps := [49, 50, 51, 8]) (by decide +kernel)) (by decide +kernel)) ggX2_readWell_X2_readSign
theorem gX2_readWell_X2_addTo : GoodIn wsX2_readWell (wsV RX2 148 RX2 yX2_addTo wsX2_addTo) := goodIn_app (goodIn_mk (chkPl_mem (ps := [53, 54, 55, 8]) (by decide +kernel)) (by decide +kernel)) ggX2_readWell_X2_addTo
theorem gX2_readDeed_X2_refuseIf : GoodIn wsX2_readDeed (wsV RX2 58 RX2 yX2_refuseIf wsX2_refuseIf) := goodIn_app (goodIn_mk (chkPl_mem (ps := [5, 6, 7, 8]) (by decide +kernel)) (by decide +kernel)) ggX2_readDeed_X2_refuseIf
theorem gX2_readDeed_X2_readNumber : GoodIn wsX2_readDeed (wsV RX2 84 RX2 yX2_readNumber wsX2_readNumber) := goodIn_app (goodIn_mk (chkPl_mem (ps := [12, 13, 14, 8]) (by decide +kernel)) (by decide +kernel)) ggX2_readDeed_X2_readNumber
theorem gX2_readDeed_X2_readSign : GoodIn wsX2_readDeed (wsV RX2 90 RX2 yX2_readSign wsX2_readSign) := goodIn_app (goodIn_mk (chkPl_mem (ps := [29, 30, 31, 8]) (by decide +kernel)) (by decide +kernel)) ggX2_readDeed_X2_readSign
theorem gX2_readDeed_X2_addTo : GoodIn wsX2_readDeed (wsV RX2 148 RX2 yX2_addTo wsX2_addTo) := goodIn_app (goodIn_mk (chkPl_mem (ps := [33, 34, 35, 8]) (by decide +kernel)) (by decide +kernel)) ggX2_readDeed_X2_addTo
theorem gX2_addTo_X5_add : GoodIn wsX2_addTo (wsV RX2 167 RX5 yX5_add wsX5_add) := goodIn_app (goodIn_mk (chkPl_mem (ps := [2, 3, 4, 5]) (by decide +kernel)) (by decide +kernel)) ggX2_addTo_X5_add
theorem gX2_readPlace_X2_readNumber : GoodIn wsX2_readPlace (wsV RX2 84 RX2 yX2_readNumber wsX2_readNumber) := goodIn_app (goodIn_mk (chkPl_mem (ps := [5, 6, 7, 8]) (by decide +kernel)) (by decide +kernel)) ggX2_readPlace_X2_readNumber
theorem gX2_readPlace_X1_cellAt : GoodIn wsX2_readPlace (wsV RX2 170 RX1 yX1_cellAt wsX1_cellAt) := goodIn_app (goodIn_mk (chkPl_mem (ps := [29, 30, 31, 32]) (by decide +kernel)) (by decide +kernel)) ggX2_readPlace_X1_cellAt
theorem gX2_readNumber_X2_skipBlanks : GoodIn wsX2_readNumber (wsV RX2 49 RX2 yX2_skipBlanks wsX2_skipBlanks) := goodIn_app (goodIn_mk (chkPl_mem (ps := [6, 7, 8, 9]) (by decide +kernel)) (by decide +kernel)) ggX2_readNumber_X2_skipBlanks
theorem gX2_readNumber_X2_isFigure : GoodIn wsX2_readNumber (va_wsS RX2 173 yX2_isFigure wsX2_isFigure) := goodIn_app (goodIn_mk (chkPl_mem (ps := [11, 12, 9]) (by decide +kernel)) (by decide +kernel)) ggX2_readNumber_X2_isFigure
theorem gX2_readNumber_X2_refuseIf : GoodIn wsX2_readNumber (wsV RX2 58 RX2 yX2_refuseIf wsX2_refuseIf) := goodIn_app (goodIn_mk (chkPl_mem (ps := [14, 15, 16, 9]) (by decide +kernel)) (by decide +kernel)) ggX2_readNumber_X2_refuseIf
theorem gX2_readNumber_X9_isOff_n176 : GoodIn wsX2_readNumber (wsX9_isOff) := ggX2_readNumber_X9_isOff
theorem gX2_readSign_X2_skipBlanks : GoodIn wsX2_readSign (wsV RX2 49 RX2 yX2_skipBlanks wsX2_skipBlanks) := goodIn_app (goodIn_mk (chkPl_mem (ps := [4, 5, 6, 7]) (by decide +kernel)) (by decide +kernel)) ggX2_readSign_X2_skipBlanks
theorem gX2_readSign_X2_refuseIf : GoodIn wsX2_readSign (wsV RX2 58 RX2 yX2_refuseIf wsX2_refuseIf) := goodIn_app (goodIn_mk (chkPl_mem (ps := [9, 10, 11, 7]) (by decide +kernel)) (by decide +kernel)) ggX2_readSign_X2_refuseIf
theorem gX3_fewestSteps_X3_reachedNext : GoodIn wsX3_fewestSteps (wsV RX3 25 RX3 yX3_reachedNext wsX3_reachedNext) := goodIn_app (goodIn_mk (chkPl_mem (ps := [1, 2, 3, 4]) (by decide +kernel)) (by decide +kernel)) ggX3_fewestSteps_X3_reachedNext
theorem gX3_reachedNext_X1_beside : GoodIn wsX3_reachedNext (wsV RX3 41 RX1 yX1_beside wsX1_beside) := goodIn_app (goodIn_mk (chkPl_mem (ps := [4, 5, 6, 7]) (by decide +kernel)) (by decide +kernel)) ggX3_reachedNext_X1_beside
theorem gX3_reachedNext_X8_pushTo : GoodIn wsX3_reachedNext (wsV RX3 44 RX8 yX8_pushTo wsX8_pushTo) := goodIn_app (goodIn_mk (chkPl_mem (ps := [15, 16, 17, 18]) (by decide +kernel)) (by decide +kernel)) ggX3_reachedNext_X8_pushTo
theorem gX3_leastPushed_X3_choose : GoodIn wsX3_leastPushed (wsV RX3 49 RX3 yX3_choose wsX3_choose) := goodIn_app (goodIn_mk (chkPl_mem (ps := [7, 8, 9, 10]) (by decide +kernel)) (by decide +kernel)) ggX3_leastPushed_X3_choose
theorem gX3_choose_X1_beside : GoodIn wsX3_choose (wsV RX3 41 RX1 yX1_beside wsX1_beside) := goodIn_app (goodIn_mk (chkPl_mem (ps := [7, 8, 9, 10]) (by decide +kernel)) (by decide +kernel)) ggX3_choose_X1_beside
theorem gX3_choose_X8_pushTo : GoodIn wsX3_choose (wsV RX3 44 RX8 yX8_pushTo wsX8_pushTo) := goodIn_app (goodIn_mk (chkPl_mem (ps := [18, 19, 20, 21]) (by decide +kernel)) (by decide +kernel)) ggX3_choose_X8_pushTo
theorem gX3_wayTaken_X1_beside : GoodIn wsX3_wayTaken (wsV RX3 41 RX1 yX1_beside wsX1_beside) := goodIn_app (goodIn_mk (chkPl_mem (ps := [4, 5, 6, 7]) (by decide +kernel)) (by decide +kernel)) ggX3_wayTaken_X1_beside
theorem gX4_findFits_X4_addIfFit : GoodIn wsX4_findFits (wsV RX4 55 RX4 yX4_addIfFit wsX4_addIfFit) := goodIn_app (goodIn_mk (chkPl_mem (ps := [6, 7, 8, 9]) (by decide +kernel)) (by decide +kernel)) ggX4_findFits_X4_addIfFit
theorem gX4_addIfFit_X8_stiffOf : GoodIn wsX4_addIfFit (wsV RX4 62 RX8 yX8_stiffOf wsX8_stiffOf) := goodIn_app (goodIn_mk (chkPl_mem (ps := [10, 11, 12, 13]) (by decide +kernel)) (by decide +kernel)) ggX4_addIfFit_X8_stiffOf
theorem gX4_addIfFit_X4_pullBy : GoodIn wsX4_addIfFit (wsV RX4 66 RX4 yX4_pullBy wsX4_pullBy) := goodIn_app (goodIn_mk (chkPl_mem (ps := [23, 24, 25, 26]) (by decide +kernel)) (by decide +kernel)) ggX4_addIfFit_X4_pullBy
theorem gX4_pullBy_X4_shiftOf : GoodIn wsX4_pullBy (va_wsS RX4 70 yX4_shiftOf wsX4_shiftOf) := goodIn_app (goodIn_mk (chkPl_mem (ps := [4, 5, 6]) (by decide +kernel)) (by decide +kernel)) ggX4_pullBy_X4_shiftOf
theorem gX4_pullBy_X0_partAt : GoodIn wsX4_pullBy (wsV RX4 74 RX0 yX0_partAt wsX0_partAt) := goodIn_app (goodIn_mk (chkPl_mem (ps := [8, 9, 10, 11]) (by decide +kernel)) (by decide +kernel)) ggX4_pullBy_X0_partAt
theorem gX4_shiftIn_X4_shiftOf : GoodIn wsX4_shiftIn (va_wsS RX4 70 yX4_shiftOf wsX4_shiftOf) := goodIn_app (goodIn_mk (chkPl_mem (ps := [3, 4, 5]) (by decide +kernel)) (by decide +kernel)) ggX4_shiftIn_X4_shiftOf
theorem gX4_findBestLook_X4_findFits : GoodIn wsX4_findBestLook (wsV RX4 77 RX4 yX4_findFits wsX4_findFits) := goodIn_app (goodIn_mk (chkPl_mem (ps := [8, 9, 10, 11]) (by decide +kernel)) (by decide +kernel)) ggX4_findBestLook_X4_findFits
theorem gX4_findBestLook_X4_mostAlike : GoodIn wsX4_findBestLook (wsV RX4 83 RX4 yX4_mostAlike wsX4_mostAlike) := goodIn_app (goodIn_mk (chkPl_mem (ps := [53, 54, 55, 11]) (by decide +kernel)) (by decide +kernel)) ggX4_findBestLook_X4_mostAlike
theorem gX4_mostAlike_X8_stiffOf : GoodIn wsX4_mostAlike (wsV RX4 62 RX8 yX8_stiffOf wsX8_stiffOf) := goodIn_app (goodIn_mk (chkPl_mem (ps := [12, 13, 14, 15]) (by decide +kernel)) (by decide +kernel)) ggX4_mostAlike_X8_stiffOf
theorem gX4_mostAlike_X0_placeAt : GoodIn wsX4_mostAlike (wsV RX4 95 RX0 yX0_placeAt wsX0_placeAt) := goodIn_app (goodIn_mk (chkPl_mem (ps := [22, 23, 24, 25]) (by decide +kernel)) (by decide +kernel)) ggX4_mostAlike_X0_placeAt
theorem gX7_settle_X8_heightAt : GoodIn wsX7_settle (wsV RX7 46 RX8 yX8_heightAt wsX8_heightAt) := goodIn_app (goodIn_mk (chkPl_mem (ps := [9, 10, 11, 12]) (by decide +kernel)) (by decide +kernel)) ggX7_settle_X8_heightAt
theorem gX7_settle_X7_insert : GoodIn wsX7_settle (wsV RX7 53 RX7 yX7_insert wsX7_insert) := goodIn_app (goodIn_mk (chkPl_mem (ps := [42, 43, 44, 45]) (by decide +kernel)) (by decide +kernel)) ggX7_settle_X7_insert
theorem gX7_settle_X7_reduce : GoodIn wsX7_settle (wsV RX7 57 RX7 yX7_reduce wsX7_reduce) := goodIn_app (goodIn_mk (chkPl_mem (ps := [47, 48, 49, 45]) (by decide +kernel)) (by decide +kernel)) ggX7_settle_X7_reduce
theorem gX7_reduce_X9_greatestDivisor_n60 : GoodIn wsX7_reduce (wsX9_greatestDivisor) := ggX7_reduce_X9_greatestDivisor
theorem gX8_pullAt_X0_partAt : GoodIn wsX8_pullAt (wsV RX8 35 RX0 yX0_partAt wsX0_partAt) := goodIn_app (goodIn_mk (chkPl_mem (ps := [6, 7, 8, 9]) (by decide +kernel)) (by decide +kernel)) ggX8_pullAt_X0_partAt
theorem gX8_heightAt_X8_stiffOf : GoodIn wsX8_heightAt (wsV RX8 56 RX8 yX8_stiffOf wsX8_stiffOf) := goodIn_app (goodIn_mk (chkPl_mem (ps := [3, 4, 5, 6]) (by decide +kernel)) (by decide +kernel)) ggX8_heightAt_X8_stiffOf
theorem gX8_heightAt_X8_pullAt : GoodIn wsX8_heightAt (wsV RX8 60 RX8 yX8_pullAt wsX8_pullAt) := goodIn_app (goodIn_mk (chkPl_mem (ps := [15, 16, 17, 6]) (by decide +kernel)) (by decide +kernel)) ggX8_heightAt_X8_pullAt
theorem gX8_leanAt_X8_heightAt : GoodIn wsX8_leanAt (wsV RX8 63 RX8 yX8_heightAt wsX8_heightAt) := goodIn_app (goodIn_mk (chkPl_mem (ps := [9, 10, 11, 12]) (by decide +kernel)) (by decide +kernel)) ggX8_leanAt_X8_heightAt
theorem gX8_leanAt_X1_beside : GoodIn wsX8_leanAt (wsV RX8 66 RX1 yX1_beside wsX1_beside) := goodIn_app (goodIn_mk (chkPl_mem (ps := [37, 38, 39, 40]) (by decide +kernel)) (by decide +kernel)) ggX8_leanAt_X1_beside
theorem gX8_isBroken_X8_leanAt : GoodIn wsX8_isBroken (wsV RX8 81 RX8 yX8_leanAt wsX8_leanAt) := goodIn_app (goodIn_mk (chkPl_mem (ps := [7, 8, 9, 10]) (by decide +kernel)) (by decide +kernel)) ggX8_isBroken_X8_leanAt
theorem gX8_leastBroken_X8_isBroken : GoodIn wsX8_leastBroken (wsV RX8 93 RX8 yX8_isBroken wsX8_isBroken) := goodIn_app (goodIn_mk (chkPl_mem (ps := [4, 5, 6, 7]) (by decide +kernel)) (by decide +kernel)) ggX8_leastBroken_X8_isBroken
theorem gX8_needOf_X1_period : GoodIn wsX8_needOf (wsV RX8 97 RX1 yX1_period wsX1_period) := goodIn_app (goodIn_mk (chkPl_mem (ps := [9, 10, 11, 12]) (by decide +kernel)) (by decide +kernel)) ggX8_needOf_X1_period
theorem gX8_needOf_X8_leanAt : GoodIn wsX8_needOf (wsV RX8 81 RX8 yX8_leanAt wsX8_leanAt) := goodIn_app (goodIn_mk (chkPl_mem (ps := [23, 24, 25, 26]) (by decide +kernel)) (by decide +kernel)) ggX8_needOf_X8_leanAt
theorem gX8_isOpen_X8_pullAt : GoodIn wsX8_isOpen (wsV RX8 60 RX8 yX8_pullAt wsX8_pullAt) := goodIn_app (goodIn_mk (chkPl_mem (ps := [5, 6, 7, 8]) (by decide +kernel)) (by decide +kernel)) ggX8_isOpen_X8_pullAt
theorem gX8_spreadOf_X8_heightAt : GoodIn wsX8_spreadOf (wsV RX8 63 RX8 yX8_heightAt wsX8_heightAt) := goodIn_app (goodIn_mk (chkPl_mem (ps := [10, 11, 12, 13]) (by decide +kernel)) (by decide +kernel)) ggX8_spreadOf_X8_heightAt
theorem gX8_isAslant_X1_beside : GoodIn wsX8_isAslant (wsV RX8 66 RX1 yX1_beside wsX1_beside) := goodIn_app (goodIn_mk (chkPl_mem (ps := [3, 4, 5, 6]) (by decide +kernel)) (by decide +kernel)) ggX8_isAslant_X1_beside
theorem gX8_isAslant_X8_isLike : GoodIn wsX8_isAslant (wsV RX8 113 RX8 yX8_isLike wsX8_isLike) := goodIn_app (goodIn_mk (chkPl_mem (ps := [14, 15, 16, 17]) (by decide +kernel)) (by decide +kernel)) ggX8_isAslant_X8_isLike
theorem gX8_isLike_X8_heightAt : GoodIn wsX8_isLike (wsV RX8 63 RX8 yX8_heightAt wsX8_heightAt) := goodIn_app (goodIn_mk (chkPl_mem (ps := [1, 2, 3, 4]) (by decide +kernel)) (by decide +kernel)) ggX8_isLike_X8_heightAt
theorem gX8_isTurn_X8_heightAt : GoodIn wsX8_isTurn (wsV RX8 63 RX8 yX8_heightAt wsX8_heightAt) := goodIn_app (goodIn_mk (chkPl_mem (ps := [1, 2, 3, 4]) (by decide +kernel)) (by decide +kernel)) ggX8_isTurn_X8_heightAt
theorem gX8_cellsWithin_X8_heightAt : GoodIn wsX8_cellsWithin (wsV RX8 63 RX8 yX8_heightAt wsX8_heightAt) := goodIn_app (goodIn_mk (chkPl_mem (ps := [6, 7, 8, 9]) (by decide +kernel)) (by decide +kernel)) ggX8_cellsWithin_X8_heightAt
theorem gX8_cellsWithin_X9_isOff_n120 : GoodIn wsX8_cellsWithin (wsX9_isOff) := ggX8_cellsWithin_X9_isOff
theorem gX8_pushTo_X8_crackBetween : GoodIn wsX8_pushTo (wsV RX8 123 RX8 yX8_crackBetween wsX8_crackBetween) := goodIn_app (goodIn_mk (chkPl_mem (ps := [7, 8, 9, 10]) (by decide +kernel)) (by decide +kernel)) ggX8_pushTo_X8_crackBetween
theorem gX8_pushTo_X8_isOpen : GoodIn wsX8_pushTo (wsV RX8 126 RX8 yX8_isOpen wsX8_isOpen) := goodIn_app (goodIn_mk (chkPl_mem (ps := [36, 37, 38, 10]) (by decide +kernel)) (by decide +kernel)) ggX8_pushTo_X8_isOpen
theorem gX8_pushTo_X8_heightAt : GoodIn wsX8_pushTo (wsV RX8 63 RX8 yX8_heightAt wsX8_heightAt) := goodIn_app (goodIn_mk (chkPl_mem (ps := [57, 58, 59, 10]) (by decide +kernel)) (by decide +kernel)) ggX8_pushTo_X8_heightAt
theorem gX8_crackBetween_X1_beside : GoodIn wsX8_crackBetween (wsV RX8 66 RX1 yX1_beside wsX1_beside) := goodIn_app (goodIn_mk (chkPl_mem (ps := [10, 11, 12, 13]) (by decide +kernel)) (by decide +kernel)) ggX8_crackBetween_X1_beside
theorem gX8_crackBetween_X5_find : GoodIn wsX8_crackBetween (wsV RX8 132 RX5 yX5_find wsX5_find) := goodIn_app (goodIn_mk (chkPl_mem (ps := [21, 22, 23, 24]) (by decide +kernel)) (by decide +kernel)) ggX8_crackBetween_X5_find
theorem gX8_stepByDraws_X8_draw : GoodIn wsX8_stepByDraws (wsV RX8 145 RX8 yX8_draw wsX8_draw) := goodIn_app (goodIn_mk (chkPl_mem (ps := [11, 12, 13, 14]) (by decide +kernel)) (by decide +kernel)) ggX8_stepByDraws_X8_draw
theorem gX8_stepByDraws_X1_beside : GoodIn wsX8_stepByDraws (wsV RX8 66 RX1 yX1_beside wsX1_beside) := goodIn_app (goodIn_mk (chkPl_mem (ps := [23, 24, 25, 26]) (by decide +kernel)) (by decide +kernel)) ggX8_stepByDraws_X1_beside
theorem gX8_stepByDraws_X8_pushTo : GoodIn wsX8_stepByDraws (wsV RX8 148 RX8 yX8_pushTo wsX8_pushTo) := goodIn_app (goodIn_mk (chkPl_mem (ps := [34, 35, 36, 14]) (by decide +kernel)) (by decide +kernel)) ggX8_stepByDraws_X8_pushTo
theorem gX8_stepByDraws_X8_takeStep : GoodIn wsX8_stepByDraws (wsV RX8 151 RX8 yX8_takeStep wsX8_takeStep) := goodIn_app (goodIn_mk (chkPl_mem (ps := [86, 87, 88, 14]) (by decide +kernel)) (by decide +kernel)) ggX8_stepByDraws_X8_takeStep
theorem gX8_draw_X9_leftOver_n161 : GoodIn wsX8_draw (wsX9_leftOver) := ggX8_draw_X9_leftOver
theorem gX9_init_X2_init_n19 : GoodIn wsX9_init (wsX2_init) := ggX9_init_X2_init
theorem gX9_init_X1_init : GoodIn wsX9_init (wsX1_init) := ggX9_init_X1_init
theorem gX9_init_X6_init_n33 : GoodIn wsX9_init (wsX6_init) := ggX9_init_X6_init
theorem gX9_init_X8_init : GoodIn wsX9_init (wsX8_init) := ggX9_init_X8_init
theorem gX9_init_X3_init : GoodIn wsX9_init (wsX3_init) := ggX9_init_X3_init
theorem gX9_init_X7_init : GoodIn wsX9_init (wsX7_init) := ggX9_init_X7_init
theorem gX9_init_X4_init : GoodIn wsX9_init (wsX4_init) := ggX9_init_X4_init
theorem gX9_feed_X9_isOff : GoodIn wsX9_feed (va_wsS RX9 77 yX9_isOff wsX9_isOff) := goodIn_app (goodIn_mk (chkPl_mem (ps := [5, 6, 7]) (by decide +kernel)) (by decide +kernel)) ggX9_feed_X9_isOff
theorem gX9_ground_X2_readText : GoodIn wsX9_ground (wsV RX9 86 RX2 yX2_readText wsX2_readText) := goodIn_app (goodIn_mk (chkPl_mem (ps := [10, 11, 12, 13]) (by decide +kernel)) (by decide +kernel)) ggX9_ground_X2_readText
theorem gX9_ground_X9_startAnew : GoodIn wsX9_ground (wsV RX9 94 RX9 yX9_startAnew wsX9_startAnew) := goodIn_app (goodIn_mk (chkPl_mem (ps := [164, 165, 166, 82]) (by decide +kernel)) (by decide +kernel)) ggX9_ground_X9_startAnew
theorem gX9_startAnew_X6_restart : GoodIn wsX9_startAnew (wsV RX9 100 RX6 yX6_restart wsX6_restart) := goodIn_app (goodIn_mk (chkPl_mem (ps := [7, 8, 9, 10]) (by decide +kernel)) (by decide +kernel)) ggX9_startAnew_X6_restart
theorem gX9_told_X1_period : GoodIn wsX9_told (wsV RX9 140 RX1 yX1_period wsX1_period) := goodIn_app (goodIn_mk (chkPl_mem (ps := [21, 22, 23, 24]) (by decide +kernel)) (by decide +kernel)) ggX9_told_X1_period
theorem gX9_told_X1_pairOf : GoodIn wsX9_told (wsV RX9 147 RX1 yX1_pairOf wsX1_pairOf) := goodIn_app (goodIn_mk (chkPl_mem (ps := [36, 37, 38, 24]) (by decide +kernel)) (by decide +kernel)) ggX9_told_X1_pairOf
theorem gX9_cell_X1_cellAt : GoodIn wsX9_cell (wsV RX9 157 RX1 yX1_cellAt wsX1_cellAt) := goodIn_app (goodIn_mk (chkPl_mem (ps := [10, 11, 12, 13]) (by decide +kernel)) (by decide +kernel)) ggX9_cell_X1_cellAt
theorem gX9_cell_X8_stiffOf : GoodIn wsX9_cell (wsV RX9 171 RX8 yX8_stiffOf wsX8_stiffOf) := goodIn_app (goodIn_mk (chkPl_mem (ps := [17, 18, 19, 20]) (by decide +kernel)) (by decide +kernel)) ggX9_cell_X8_stiffOf
theorem gX9_cell_X8_pullAt : GoodIn wsX9_cell (wsV RX9 174 RX8 yX8_pullAt wsX8_pullAt) := goodIn_app (goodIn_mk (chkPl_mem (ps := [30, 31, 32, 20]) (by decide +kernel)) (by decide +kernel)) ggX9_cell_X8_pullAt
theorem gX9_cell_X8_heightAt : GoodIn wsX9_cell (wsV RX9 178 RX8 yX8_heightAt wsX8_heightAt) := goodIn_app (goodIn_mk (chkPl_mem (ps := [45, 46, 47, 20]) (by decide +kernel)) (by decide +kernel)) ggX9_cell_X8_heightAt
theorem gX9_cell_X8_leanAt : GoodIn wsX9_cell (wsV RX9 181 RX8 yX8_leanAt wsX8_leanAt) := goodIn_app (goodIn_mk (chkPl_mem (ps := [52, 53, 54, 20]) (by decide +kernel)) (by decide +kernel)) ggX9_cell_X8_leanAt
theorem gX9_height_X1_cellAt : GoodIn wsX9_height (wsV RX9 157 RX1 yX1_cellAt wsX1_cellAt) := goodIn_app (goodIn_mk (chkPl_mem (ps := [6, 7, 8, 9]) (by decide +kernel)) (by decide +kernel)) ggX9_height_X1_cellAt
theorem gX9_height_X9_isOff : GoodIn wsX9_height (va_wsS RX9 77 yX9_isOff wsX9_isOff) := goodIn_app (goodIn_mk (chkPl_mem (ps := [13, 14, 15]) (by decide +kernel)) (by decide +kernel)) ggX9_height_X9_isOff
theorem gX9_height_X8_heightAt : GoodIn wsX9_height (wsV RX9 178 RX8 yX8_heightAt wsX8_heightAt) := goodIn_app (goodIn_mk (chkPl_mem (ps := [17, 18, 19, 20]) (by decide +kernel)) (by decide +kernel)) ggX9_height_X8_heightAt
theorem gX9_moon_X9_isNoMoon : GoodIn wsX9_moon (wsV RX9 185 RX9 yX9_isNoMoon wsX9_isNoMoon) := goodIn_app (goodIn_mk (chkPl_mem (ps := [12, 13, 14, 15]) (by decide +kernel)) (by decide +kernel)) ggX9_moon_X9_isNoMoon
theorem gX9_moon_X0_partAt : GoodIn wsX9_moon (wsV RX9 207 RX0 yX0_partAt wsX0_partAt) := goodIn_app (goodIn_mk (chkPl_mem (ps := [21, 22, 23, 24]) (by decide +kernel)) (by decide +kernel)) ggX9_moon_X0_partAt
theorem gX9_house_X5_has : GoodIn wsX9_house (wsV RX9 210 RX5 yX5_has wsX5_has) := goodIn_app (goodIn_mk (chkPl_mem (ps := [11, 12, 13, 14]) (by decide +kernel)) (by decide +kernel)) ggX9_house_X5_has
theorem gX9_house_X1_pairOf : GoodIn wsX9_house (wsV RX9 147 RX1 yX1_pairOf wsX1_pairOf) := goodIn_app (goodIn_mk (chkPl_mem (ps := [17, 18, 19, 20]) (by decide +kernel)) (by decide +kernel)) ggX9_house_X1_pairOf
theorem gX9_house_X8_isBroken : GoodIn wsX9_house (wsV RX9 222 RX8 yX8_isBroken wsX8_isBroken) := goodIn_app (goodIn_mk (chkPl_mem (ps := [23, 24, 25, 26]) (by decide +kernel)) (by decide +kernel)) ggX9_house_X8_isBroken
theorem gX9_house_X8_needOf : GoodIn wsX9_house (wsV RX9 226 RX8 yX8_needOf wsX8_needOf) := goodIn_app (goodIn_mk (chkPl_mem (ps := [80, 81, 82, 26]) (by decide +kernel)) (by decide +kernel)) ggX9_house_X8_needOf
theorem gX9_crack_X5_has : GoodIn wsX9_crack (wsV RX9 210 RX5 yX5_has wsX5_has) := goodIn_app (goodIn_mk (chkPl_mem (ps := [7, 8, 9, 10]) (by decide +kernel)) (by decide +kernel)) ggX9_crack_X5_has
theorem gX9_crack_X9_isOff : GoodIn wsX9_crack (va_wsS RX9 77 yX9_isOff wsX9_isOff) := goodIn_app (goodIn_mk (chkPl_mem (ps := [13, 14, 15]) (by decide +kernel)) (by decide +kernel)) ggX9_crack_X9_isOff
theorem gX9_crack_X8_isOpen : GoodIn wsX9_crack (wsV RX9 229 RX8 yX8_isOpen wsX8_isOpen) := goodIn_app (goodIn_mk (chkPl_mem (ps := [17, 18, 19, 20]) (by decide +kernel)) (by decide +kernel)) ggX9_crack_X8_isOpen
theorem gX9_pass_X9_isOff : GoodIn wsX9_pass (va_wsS RX9 77 yX9_isOff wsX9_isOff) := goodIn_app (goodIn_mk (chkPl_mem (ps := [6, 7, 8]) (by decide +kernel)) (by decide +kernel)) ggX9_pass_X9_isOff
theorem gX9_roll_X9_isNoWay : GoodIn wsX9_roll (va_wsS RX9 233 yX9_isNoWay wsX9_isNoWay) := goodIn_app (goodIn_mk (chkPl_mem (ps := [11, 12, 13]) (by decide +kernel)) (by decide +kernel)) ggX9_roll_X9_isNoWay
theorem gX9_roll_X1_beside : GoodIn wsX9_roll (wsV RX9 237 RX1 yX1_beside wsX1_beside) := goodIn_app (goodIn_mk (chkPl_mem (ps := [18, 19, 20, 21]) (by decide +kernel)) (by decide +kernel)) ggX9_roll_X1_beside
theorem gX9_roll_X8_pushTo : GoodIn wsX9_roll (wsV RX9 240 RX8 yX8_pushTo wsX8_pushTo) := goodIn_app (goodIn_mk (chkPl_mem (ps := [29, 30, 31, 32]) (by decide +kernel)) (by decide +kernel)) ggX9_roll_X8_pushTo
theorem gX9_roll_X8_takeStep : GoodIn wsX9_roll (wsV RX9 243 RX8 yX8_takeStep wsX8_takeStep) := goodIn_app (goodIn_mk (chkPl_mem (ps := [90, 91, 92, 32]) (by decide +kernel)) (by decide +kernel)) ggX9_roll_X8_takeStep
theorem gX9_steep_X9_isOff : GoodIn wsX9_steep (va_wsS RX9 77 yX9_isOff wsX9_isOff) := goodIn_app (goodIn_mk (chkPl_mem (ps := [4, 5, 6]) (by decide +kernel)) (by decide +kernel)) ggX9_steep_X9_isOff
theorem gX9_load_X1_cellAt : GoodIn wsX9_load (wsV RX9 157 RX1 yX1_cellAt wsX1_cellAt) := goodIn_app (goodIn_mk (chkPl_mem (ps := [7, 8, 9, 10]) (by decide +kernel)) (by decide +kernel)) ggX9_load_X1_cellAt
theorem gX9_load_X9_isOff : GoodIn wsX9_load (va_wsS RX9 77 yX9_isOff wsX9_isOff) := goodIn_app (goodIn_mk (chkPl_mem (ps := [14, 15, 16]) (by decide +kernel)) (by decide +kernel)) ggX9_load_X9_isOff
theorem gX9_prop_X5_has : GoodIn wsX9_prop (wsV RX9 210 RX5 yX5_has wsX5_has) := goodIn_app (goodIn_mk (chkPl_mem (ps := [8, 9, 10, 11]) (by decide +kernel)) (by decide +kernel)) ggX9_prop_X5_has
theorem gX9_prop_X9_isOff : GoodIn wsX9_prop (va_wsS RX9 77 yX9_isOff wsX9_isOff) := goodIn_app (goodIn_mk (chkPl_mem (ps := [14, 15, 16]) (by decide +kernel)) (by decide +kernel)) ggX9_prop_X9_isOff
theorem gX9_shift_X9_isNoMoon : GoodIn wsX9_shift (wsV RX9 185 RX9 yX9_isNoMoon wsX9_isNoMoon) := goodIn_app (goodIn_mk (chkPl_mem (ps := [9, 10, 11, 12]) (by decide +kernel)) (by decide +kernel)) ggX9_shift_X9_isNoMoon
theorem gX9_shift_X9_isOff : GoodIn wsX9_shift (va_wsS RX9 77 yX9_isOff wsX9_isOff) := goodIn_app (goodIn_mk (chkPl_mem (ps := [15, 16, 12]) (by decide +kernel)) (by decide +kernel)) ggX9_shift_X9_isOff
theorem gX9_shift_X9_leftOver : GoodIn wsX9_shift (va_wsS RX9 247 yX9_leftOver wsX9_leftOver) := goodIn_app (goodIn_mk (chkPl_mem (ps := [18, 19, 12]) (by decide +kernel)) (by decide +kernel)) ggX9_shift_X9_leftOver
theorem gX9_drift_X9_isOff : GoodIn wsX9_drift (va_wsS RX9 77 yX9_isOff wsX9_isOff) := goodIn_app (goodIn_mk (chkPl_mem (ps := [11, 12, 13]) (by decide +kernel)) (by decide +kernel)) ggX9_drift_X9_isOff
theorem gX9_drift_X8_stepByDraws : GoodIn wsX9_drift (wsV RX9 251 RX8 yX8_stepByDraws wsX8_stepByDraws) := goodIn_app (goodIn_mk (chkPl_mem (ps := [15, 16, 17, 18]) (by decide +kernel)) (by decide +kernel)) ggX9_drift_X8_stepByDraws
theorem gX9_drift_X1_pairOf : GoodIn wsX9_drift (wsV RX9 147 RX1 yX1_pairOf wsX1_pairOf) := goodIn_app (goodIn_mk (chkPl_mem (ps := [109, 110, 111, 43]) (by decide +kernel)) (by decide +kernel)) ggX9_drift_X1_pairOf
theorem gX9_level_X9_isOff : GoodIn wsX9_level (va_wsS RX9 77 yX9_isOff wsX9_isOff) := goodIn_app (goodIn_mk (chkPl_mem (ps := [6, 7, 8]) (by decide +kernel)) (by decide +kernel)) ggX9_level_X9_isOff
theorem gX9_level_X9_isNoStep : GoodIn wsX9_level (va_wsS RX9 254 yX9_isNoStep wsX9_isNoStep) := goodIn_app (goodIn_mk (chkPl_mem (ps := [10, 11, 8]) (by decide +kernel)) (by decide +kernel)) ggX9_level_X9_isNoStep
theorem gX9_level_X1_period : GoodIn wsX9_level (wsV RX9 140 RX1 yX1_period wsX1_period) := goodIn_app (goodIn_mk (chkPl_mem (ps := [14, 15, 16, 17]) (by decide +kernel)) (by decide +kernel)) ggX9_level_X1_period
theorem gX9_level_X8_spreadOf : GoodIn wsX9_level (wsV RX9 257 RX8 yX8_spreadOf wsX8_spreadOf) := goodIn_app (goodIn_mk (chkPl_mem (ps := [28, 29, 30, 31]) (by decide +kernel)) (by decide +kernel)) ggX9_level_X8_spreadOf
theorem gX9_aslant_X9_isNoStep : GoodIn wsX9_aslant (va_wsS RX9 254 yX9_isNoStep wsX9_isNoStep) := goodIn_app (goodIn_mk (chkPl_mem (ps := [6, 7, 8]) (by decide +kernel)) (by decide +kernel)) ggX9_aslant_X9_isNoStep
theorem gX9_aslant_X1_period : GoodIn wsX9_aslant (wsV RX9 140 RX1 yX1_period wsX1_period) := goodIn_app (goodIn_mk (chkPl_mem (ps := [14, 15, 16, 17]) (by decide +kernel)) (by decide +kernel)) ggX9_aslant_X1_period
theorem gX9_aslant_X8_isAslant : GoodIn wsX9_aslant (wsV RX9 260 RX8 yX8_isAslant wsX8_isAslant) := goodIn_app (goodIn_mk (chkPl_mem (ps := [28, 29, 30, 31]) (by decide +kernel)) (by decide +kernel)) ggX9_aslant_X8_isAslant
theorem gX9_turn_X1_cellAt : GoodIn wsX9_turn (wsV RX9 157 RX1 yX1_cellAt wsX1_cellAt) := goodIn_app (goodIn_mk (chkPl_mem (ps := [6, 7, 8, 9]) (by decide +kernel)) (by decide +kernel)) ggX9_turn_X1_cellAt
theorem gX9_turn_X9_isOff : GoodIn wsX9_turn (va_wsS RX9 77 yX9_isOff wsX9_isOff) := goodIn_app (goodIn_mk (chkPl_mem (ps := [13, 14, 15]) (by decide +kernel)) (by decide +kernel)) ggX9_turn_X9_isOff
theorem gX9_turn_X1_period : GoodIn wsX9_turn (wsV RX9 140 RX1 yX1_period wsX1_period) := goodIn_app (goodIn_mk (chkPl_mem (ps := [17, 18, 19, 9]) (by decide +kernel)) (by decide +kernel)) ggX9_turn_X1_period
theorem gX9_turn_X8_isTurn : GoodIn wsX9_turn (wsV RX9 263 RX8 yX8_isTurn wsX8_isTurn) := goodIn_app (goodIn_mk (chkPl_mem (ps := [30, 31, 32, 33]) (by decide +kernel)) (by decide +kernel)) ggX9_turn_X8_isTurn
theorem gX9_most_X1_cellAt : GoodIn wsX9_most (wsV RX9 157 RX1 yX1_cellAt wsX1_cellAt) := goodIn_app (goodIn_mk (chkPl_mem (ps := [5, 6, 7, 8]) (by decide +kernel)) (by decide +kernel)) ggX9_most_X1_cellAt
theorem gX9_most_X9_isNoStep : GoodIn wsX9_most (va_wsS RX9 254 yX9_isNoStep wsX9_isNoStep) := goodIn_app (goodIn_mk (chkPl_mem (ps := [12, 13, 14]) (by decide +kernel)) (by decide +kernel)) ggX9_most_X9_isNoStep
theorem gX9_most_X9_isOff : GoodIn wsX9_most (va_wsS RX9 77 yX9_isOff wsX9_isOff) := goodIn_app (goodIn_mk (chkPl_mem (ps := [17, 18, 14]) (by decide +kernel)) (by decide +kernel)) ggX9_most_X9_isOff
theorem gX9_most_X1_period : GoodIn wsX9_most (wsV RX9 140 RX1 yX1_period wsX1_period) := goodIn_app (goodIn_mk (chkPl_mem (ps := [20, 21, 22, 8]) (by decide +kernel)) (by decide +kernel)) ggX9_most_X1_period
theorem gX9_most_X8_pullAt : GoodIn wsX9_most (wsV RX9 174 RX8 yX8_pullAt wsX8_pullAt) := goodIn_app (goodIn_mk (chkPl_mem (ps := [33, 34, 35, 36]) (by decide +kernel)) (by decide +kernel)) ggX9_most_X8_pullAt
theorem gX9_bell_X1_cellAt : GoodIn wsX9_bell (wsV RX9 157 RX1 yX1_cellAt wsX1_cellAt) := goodIn_app (goodIn_mk (chkPl_mem (ps := [5, 6, 7, 8]) (by decide +kernel)) (by decide +kernel)) ggX9_bell_X1_cellAt
theorem gX9_bell_X9_isOff : GoodIn wsX9_bell (va_wsS RX9 77 yX9_isOff wsX9_isOff) := goodIn_app (goodIn_mk (chkPl_mem (ps := [12, 13, 14]) (by decide +kernel)) (by decide +kernel)) ggX9_bell_X9_isOff
theorem gX9_bell_X9_isNoStep : GoodIn wsX9_bell (va_wsS RX9 254 yX9_isNoStep wsX9_isNoStep) := goodIn_app (goodIn_mk (chkPl_mem (ps := [16, 17, 14]) (by decide +kernel)) (by decide +kernel)) ggX9_bell_X9_isNoStep
theorem gX9_bell_X1_period : GoodIn wsX9_bell (wsV RX9 140 RX1 yX1_period wsX1_period) := goodIn_app (goodIn_mk (chkPl_mem (ps := [20, 21, 22, 8]) (by decide +kernel)) (by decide +kernel)) ggX9_bell_X1_period
theorem gX9_bell_X8_leanAt : GoodIn wsX9_bell (wsV RX9 181 RX8 yX8_leanAt wsX8_leanAt) := goodIn_app (goodIn_mk (chkPl_mem (ps := [33, 34, 35, 36]) (by decide +kernel)) (by decide +kernel)) ggX9_bell_X8_leanAt
theorem gX9_breaks_X9_isNoStep : GoodIn wsX9_breaks (va_wsS RX9 254 yX9_isNoStep wsX9_isNoStep) := goodIn_app (goodIn_mk (chkPl_mem (ps := [4, 5, 6]) (by decide +kernel)) (by decide +kernel)) ggX9_breaks_X9_isNoStep
theorem gX9_breaks_X9_isOff : GoodIn wsX9_breaks (va_wsS RX9 77 yX9_isOff wsX9_isOff) := goodIn_app (goodIn_mk (chkPl_mem (ps := [9, 10, 6]) (by decide +kernel)) (by decide +kernel)) ggX9_breaks_X9_isOff
theorem gX9_breaks_X1_period : GoodIn wsX9_breaks (wsV RX9 140 RX1 yX1_period wsX1_period) := goodIn_app (goodIn_mk (chkPl_mem (ps := [12, 13, 14, 15]) (by decide +kernel)) (by decide +kernel)) ggX9_breaks_X1_period
theorem gX9_breaks_X8_leastBroken : GoodIn wsX9_breaks (wsV RX9 266 RX8 yX8_leastBroken wsX8_leastBroken) := goodIn_app (goodIn_mk (chkPl_mem (ps := [26, 27, 28, 29]) (by decide +kernel)) (by decide +kernel)) ggX9_breaks_X8_leastBroken
theorem gX9_props_X9_isOff : GoodIn wsX9_props (va_wsS RX9 77 yX9_isOff wsX9_isOff) := goodIn_app (goodIn_mk (chkPl_mem (ps := [6, 7, 8]) (by decide +kernel)) (by decide +kernel)) ggX9_props_X9_isOff
theorem gX9_props_X8_needOf : GoodIn wsX9_props (wsV RX9 226 RX8 yX8_needOf wsX8_needOf) := goodIn_app (goodIn_mk (chkPl_mem (ps := [10, 11, 12, 13]) (by decide +kernel)) (by decide +kernel)) ggX9_props_X8_needOf
theorem gX9_soonest_X1_cellOfPair : GoodIn wsX9_soonest (wsV RX9 269 RX1 yX1_cellOfPair wsX1_cellOfPair) := goodIn_app (goodIn_mk (chkPl_mem (ps := [6, 7, 8, 9]) (by decide +kernel)) (by decide +kernel)) ggX9_soonest_X1_cellOfPair
theorem gX9_soonest_X9_isNoStep : GoodIn wsX9_soonest (va_wsS RX9 254 yX9_isNoStep wsX9_isNoStep) := goodIn_app (goodIn_mk (chkPl_mem (ps := [17, 18, 19]) (by decide +kernel)) (by decide +kernel)) ggX9_soonest_X9_isNoStep
theorem gX9_soonest_X3_fewestSteps : GoodIn wsX9_soonest (wsV RX9 272 RX3 yX3_fewestSteps wsX3_fewestSteps) := goodIn_app (goodIn_mk (chkPl_mem (ps := [25, 26, 27, 28]) (by decide +kernel)) (by decide +kernel)) ggX9_soonest_X3_fewestSteps
theorem gX9_least_X1_cellOfPair : GoodIn wsX9_least (wsV RX9 269 RX1 yX1_cellOfPair wsX1_cellOfPair) := goodIn_app (goodIn_mk (chkPl_mem (ps := [6, 7, 8, 9]) (by decide +kernel)) (by decide +kernel)) ggX9_least_X1_cellOfPair
theorem gX9_least_X9_isNoStep : GoodIn wsX9_least (va_wsS RX9 254 yX9_isNoStep wsX9_isNoStep) := goodIn_app (goodIn_mk (chkPl_mem (ps := [17, 18, 19]) (by decide +kernel)) (by decide +kernel)) ggX9_least_X9_isNoStep
theorem gX9_least_X9_isOff : GoodIn wsX9_least (va_wsS RX9 77 yX9_isOff wsX9_isOff) := goodIn_app (goodIn_mk (chkPl_mem (ps := [22, 23, 19]) (by decide +kernel)) (by decide +kernel)) ggX9_least_X9_isOff
theorem gX9_least_X3_leastPushed : GoodIn wsX9_least (wsV RX9 275 RX3 yX3_leastPushed wsX3_leastPushed) := goodIn_app (goodIn_mk (chkPl_mem (ps := [25, 26, 27, 28]) (by decide +kernel)) (by decide +kernel)) ggX9_least_X3_leastPushed
theorem gX9_least_X3_wayTaken : GoodIn wsX9_least (wsV RX9 279 RX3 yX3_wayTaken wsX3_wayTaken) := goodIn_app (goodIn_mk (chkPl_mem (ps := [106, 107, 108, 28]) (by decide +kernel)) (by decide +kernel)) ggX9_least_X3_wayTaken
theorem gX9_water_X9_isOff : GoodIn wsX9_water (va_wsS RX9 77 yX9_isOff wsX9_isOff) := goodIn_app (goodIn_mk (chkPl_mem (ps := [10, 11, 12]) (by decide +kernel)) (by decide +kernel)) ggX9_water_X9_isOff
theorem gX9_water_X9_isNoStep : GoodIn wsX9_water (va_wsS RX9 254 yX9_isNoStep wsX9_isNoStep) := goodIn_app (goodIn_mk (chkPl_mem (ps := [14, 15, 12]) (by decide +kernel)) (by decide +kernel)) ggX9_water_X9_isNoStep
theorem gX9_water_X7_settle : GoodIn wsX9_water (wsV RX9 282 RX7 yX7_settle wsX7_settle) := goodIn_app (goodIn_mk (chkPl_mem (ps := [18, 19, 20, 21]) (by decide +kernel)) (by decide +kernel)) ggX9_water_X7_settle
theorem gX9_water_X7_wetWells : GoodIn wsX9_water (wsV RX9 291 RX7 yX7_wetWells wsX7_wetWells) := goodIn_app (goodIn_mk (chkPl_mem (ps := [80, 81, 82, 21]) (by decide +kernel)) (by decide +kernel)) ggX9_water_X7_wetWells
theorem gX9_whose_X5_has : GoodIn wsX9_whose (wsV RX9 210 RX5 yX5_has wsX5_has) := goodIn_app (goodIn_mk (chkPl_mem (ps := [6, 7, 8, 9]) (by decide +kernel)) (by decide +kernel)) ggX9_whose_X5_has
theorem gX9_whose_X9_isNoStep : GoodIn wsX9_whose (va_wsS RX9 254 yX9_isNoStep wsX9_isNoStep) := goodIn_app (goodIn_mk (chkPl_mem (ps := [12, 13, 14]) (by decide +kernel)) (by decide +kernel)) ggX9_whose_X9_isNoStep
theorem gX9_whose_X8_cellsWithin : GoodIn wsX9_whose (wsV RX9 294 RX8 yX8_cellsWithin wsX8_cellsWithin) := goodIn_app (goodIn_mk (chkPl_mem (ps := [20, 21, 22, 23]) (by decide +kernel)) (by decide +kernel)) ggX9_whose_X8_cellsWithin
theorem gX9_stays_X5_has : GoodIn wsX9_stays (wsV RX9 210 RX5 yX5_has wsX5_has) := goodIn_app (goodIn_mk (chkPl_mem (ps := [5, 6, 7, 8]) (by decide +kernel)) (by decide +kernel)) ggX9_stays_X5_has
theorem gX9_stays_X1_period : GoodIn wsX9_stays (wsV RX9 140 RX1 yX1_period wsX1_period) := goodIn_app (goodIn_mk (chkPl_mem (ps := [11, 12, 13, 14]) (by decide +kernel)) (by decide +kernel)) ggX9_stays_X1_period
theorem gX9_stays_X8_cellsWithin : GoodIn wsX9_stays (wsV RX9 294 RX8 yX8_cellsWithin wsX8_cellsWithin) := goodIn_app (goodIn_mk (chkPl_mem (ps := [26, 27, 28, 29]) (by decide +kernel)) (by decide +kernel)) ggX9_stays_X8_cellsWithin
theorem gX9_see_X1_cellAt : GoodIn wsX9_see (wsV RX9 157 RX1 yX1_cellAt wsX1_cellAt) := goodIn_app (goodIn_mk (chkPl_mem (ps := [8, 9, 10, 11]) (by decide +kernel)) (by decide +kernel)) ggX9_see_X1_cellAt
theorem gX9_see_X9_isOff : GoodIn wsX9_see (va_wsS RX9 77 yX9_isOff wsX9_isOff) := goodIn_app (goodIn_mk (chkPl_mem (ps := [15, 16, 17]) (by decide +kernel)) (by decide +kernel)) ggX9_see_X9_isOff
theorem gX9_see_X4_add : GoodIn wsX9_see (wsV RX9 297 RX4 yX4_add wsX4_add) := goodIn_app (goodIn_mk (chkPl_mem (ps := [19, 20, 21, 22]) (by decide +kernel)) (by decide +kernel)) ggX9_see_X4_add
theorem gX9_fits_X9_isNoMoon : GoodIn wsX9_fits (wsV RX9 185 RX9 yX9_isNoMoon wsX9_isNoMoon) := goodIn_app (goodIn_mk (chkPl_mem (ps := [3, 4, 5, 6]) (by decide +kernel)) (by decide +kernel)) ggX9_fits_X9_isNoMoon
theorem gX9_fits_X4_findFits : GoodIn wsX9_fits (wsV RX9 301 RX4 yX4_findFits wsX4_findFits) := goodIn_app (goodIn_mk (chkPl_mem (ps := [14, 15, 16, 17]) (by decide +kernel)) (by decide +kernel)) ggX9_fits_X4_findFits
theorem gX9_fits_X9_isOff : GoodIn wsX9_fits (va_wsS RX9 77 yX9_isOff wsX9_isOff) := goodIn_app (goodIn_mk (chkPl_mem (ps := [11, 12, 6]) (by decide +kernel)) (by decide +kernel)) ggX9_fits_X9_isOff
theorem gX9_fits_X4_shiftIn : GoodIn wsX9_fits (wsV RX9 304 RX4 yX4_shiftIn wsX4_shiftIn) := goodIn_app (goodIn_mk (chkPl_mem (ps := [62, 63, 64, 17]) (by decide +kernel)) (by decide +kernel)) ggX9_fits_X4_shiftIn
theorem gX9_look_X9_isOff : GoodIn wsX9_look (va_wsS RX9 77 yX9_isOff wsX9_isOff) := goodIn_app (goodIn_mk (chkPl_mem (ps := [8, 9, 10]) (by decide +kernel)) (by decide +kernel)) ggX9_look_X9_isOff
theorem gX9_look_X4_findBestLook : GoodIn wsX9_look (wsV RX9 307 RX4 yX4_findBestLook wsX4_findBestLook) := goodIn_app (goodIn_mk (chkPl_mem (ps := [12, 13, 14, 15]) (by decide +kernel)) (by decide +kernel)) ggX9_look_X4_findBestLook
theorem gX9_look_X1_pairOf : GoodIn wsX9_look (wsV RX9 147 RX1 yX1_pairOf wsX1_pairOf) := goodIn_app (goodIn_mk (chkPl_mem (ps := [79, 80, 81, 82]) (by decide +kernel)) (by decide +kernel)) ggX9_look_X1_pairOf
theorem gX9_odds_X1_cellAt : GoodIn wsX9_odds (wsV RX9 157 RX1 yX1_cellAt wsX1_cellAt) := goodIn_app (goodIn_mk (chkPl_mem (ps := [7, 8, 9, 10]) (by decide +kernel)) (by decide +kernel)) ggX9_odds_X1_cellAt
theorem gX9_odds_X9_isNoMoon : GoodIn wsX9_odds (wsV RX9 185 RX9 yX9_isNoMoon wsX9_isNoMoon) := goodIn_app (goodIn_mk (chkPl_mem (ps := [14, 15, 16, 17]) (by decide +kernel)) (by decide +kernel)) ggX9_odds_X9_isNoMoon
theorem gX9_odds_X9_isOff : GoodIn wsX9_odds (va_wsS RX9 77 yX9_isOff wsX9_isOff) := goodIn_app (goodIn_mk (chkPl_mem (ps := [20, 21, 17]) (by decide +kernel)) (by decide +kernel)) ggX9_odds_X9_isOff
theorem gX9_odds_X9_isNoStep : GoodIn wsX9_odds (va_wsS RX9 254 yX9_isNoStep wsX9_isNoStep) := goodIn_app (goodIn_mk (chkPl_mem (ps := [23, 24, 17]) (by decide +kernel)) (by decide +kernel)) ggX9_odds_X9_isNoStep
theorem gX9_odds_X8_leanAt : GoodIn wsX9_odds (wsV RX9 181 RX8 yX8_leanAt wsX8_leanAt) := goodIn_app (goodIn_mk (chkPl_mem (ps := [27, 28, 29, 30]) (by decide +kernel)) (by decide +kernel)) ggX9_odds_X8_leanAt
theorem gX9_write_X9_isNoWay : GoodIn wsX9_write (va_wsS RX9 233 yX9_isNoWay wsX9_isNoWay) := goodIn_app (goodIn_mk (chkPl_mem (ps := [5, 6, 7]) (by decide +kernel)) (by decide +kernel)) ggX9_write_X9_isNoWay
theorem gX9_judge_X9_isOff : GoodIn wsX9_judge (va_wsS RX9 77 yX9_isOff wsX9_isOff) := goodIn_app (goodIn_mk (chkPl_mem (ps := [11, 12, 13]) (by decide +kernel)) (by decide +kernel)) ggX9_judge_X9_isOff
theorem gX9_judge_X1_beside : GoodIn wsX9_judge (wsV RX9 237 RX1 yX1_beside wsX1_beside) := goodIn_app (goodIn_mk (chkPl_mem (ps := [15, 16, 17, 18]) (by decide +kernel)) (by decide +kernel)) ggX9_judge_X1_beside
theorem gX9_judge_X8_pushTo : GoodIn wsX9_judge (wsV RX9 240 RX8 yX8_pushTo wsX8_pushTo) := goodIn_app (goodIn_mk (chkPl_mem (ps := [26, 27, 28, 29]) (by decide +kernel)) (by decide +kernel)) ggX9_judge_X8_pushTo
theorem gX9_keep_X9_isOff : GoodIn wsX9_keep (va_wsS RX9 77 yX9_isOff wsX9_isOff) := goodIn_app (goodIn_mk (chkPl_mem (ps := [5, 6, 7]) (by decide +kernel)) (by decide +kernel)) ggX9_keep_X9_isOff
theorem gX9_keep_X6_copyFrom : GoodIn wsX9_keep (wsV RX9 325 RX6 yX6_copyFrom wsX6_copyFrom) := goodIn_app (goodIn_mk (chkPl_mem (ps := [9, 10, 11, 12]) (by decide +kernel)) (by decide +kernel)) ggX9_keep_X6_copyFrom
theorem gX9_goBack_X9_isOff : GoodIn wsX9_goBack (va_wsS RX9 77 yX9_isOff wsX9_isOff) := goodIn_app (goodIn_mk (chkPl_mem (ps := [6, 7, 8]) (by decide +kernel)) (by decide +kernel)) ggX9_goBack_X9_isOff
theorem gX9_goBack_X6_copyFrom : GoodIn wsX9_goBack (wsV RX9 325 RX6 yX6_copyFrom wsX6_copyFrom) := goodIn_app (goodIn_mk (chkPl_mem (ps := [10, 11, 12, 13]) (by decide +kernel)) (by decide +kernel)) ggX9_goBack_X6_copyFrom
theorem gX9_isNoStep_X9_isOff : GoodIn wsX9_isNoStep (va_wsS RX9 77 yX9_isOff wsX9_isOff) := goodIn_app (goodIn_mk (chkPl_mem (ps := [2, 3, 4]) (by decide +kernel)) (by decide +kernel)) ggX9_isNoStep_X9_isOff
theorem gX9_isNoWay_X9_isOff : GoodIn wsX9_isNoWay (va_wsS RX9 77 yX9_isOff wsX9_isOff) := goodIn_app (goodIn_mk (chkPl_mem (ps := [1, 2, 3]) (by decide +kernel)) (by decide +kernel)) ggX9_isNoWay_X9_isOff
theorem gX9_isNoMoon_X9_isOff : GoodIn wsX9_isNoMoon (va_wsS RX9 77 yX9_isOff wsX9_isOff) := goodIn_app (goodIn_mk (chkPl_mem (ps := [4, 5, 6]) (by decide +kernel)) (by decide +kernel)) ggX9_isNoMoon_X9_isOff
theorem gX10_isCell_X10_in : GoodIn wsX10_isCell (va_wsS RX10 165 yX10_in wsX10_in) := goodIn_app (goodIn_mk (chkPl_mem (ps := [3, 4, 5]) (by decide +kernel)) (by decide +kernel)) ggX10_isCell_X10_in
theorem gX10_ofPair_X10_isCell : GoodIn wsX10_ofPair (wsV RX10 169 RX10 yX10_isCell wsX10_isCell) := goodIn_app (goodIn_mk (chkPl_mem (ps := [2, 3, 4, 5]) (by decide +kernel)) (by decide +kernel)) ggX10_ofPair_X10_isCell
theorem gX10_feed_X10_in : GoodIn wsX10_feed (va_wsS RX10 165 yX10_in wsX10_in) := goodIn_app (goodIn_mk (chkPl_mem (ps := [6, 7, 8]) (by decide +kernel)) (by decide +kernel)) ggX10_feed_X10_in
theorem gX10_takeNumber_X10_here : GoodIn wsX10_takeNumber (wsV RX10 183 RX10 yX10_here wsX10_here) := goodIn_app (goodIn_mk (chkPl_mem (ps := [8, 9, 10, 11]) (by decide +kernel)) (by decide +kernel)) ggX10_takeNumber_X10_here
theorem gX10_takeNumber_X10_in : GoodIn wsX10_takeNumber (va_wsS RX10 165 yX10_in wsX10_in) := goodIn_app (goodIn_mk (chkPl_mem (ps := [13, 14, 11]) (by decide +kernel)) (by decide +kernel)) ggX10_takeNumber_X10_in
theorem gX10_takeNumber_X10_fails : GoodIn wsX10_takeNumber (wsV RX10 191 RX10 yX10_fails wsX10_fails) := goodIn_app (goodIn_mk (chkPl_mem (ps := [16, 17, 18, 11]) (by decide +kernel)) (by decide +kernel)) ggX10_takeNumber_X10_fails
theorem gX10_into_X10_takeNumber : GoodIn wsX10_into (wsV RX10 201 RX10 yX10_takeNumber wsX10_takeNumber) := goodIn_app (goodIn_mk (chkPl_mem (ps := [2, 3, 4, 5]) (by decide +kernel)) (by decide +kernel)) ggX10_into_X10_takeNumber
theorem gX10_takeGround_X10_takeNumber : GoodIn wsX10_takeGround (wsV RX10 201 RX10 yX10_takeNumber wsX10_takeNumber) := goodIn_app (goodIn_mk (chkPl_mem (ps := [7, 8, 9, 10]) (by decide +kernel)) (by decide +kernel)) ggX10_takeGround_X10_takeNumber
theorem gX10_takeGround_X10_fails : GoodIn wsX10_takeGround (wsV RX10 191 RX10 yX10_fails wsX10_fails) := goodIn_app (goodIn_mk (chkPl_mem (ps := [24, 25, 26, 10]) (by decide +kernel)) (by decide +kernel)) ggX10_takeGround_X10_fails
theorem gX10_takeCell_X10_takeNumber : GoodIn wsX10_takeCell (wsV RX10 201 RX10 yX10_takeNumber wsX10_takeNumber) := goodIn_app (goodIn_mk (chkPl_mem (ps := [5, 6, 7, 8]) (by decide +kernel)) (by decide +kernel)) ggX10_takeCell_X10_takeNumber
theorem gX10_takeNewCell_X10_takeCell : GoodIn wsX10_takeNewCell (wsV RX10 213 RX10 yX10_takeCell wsX10_takeCell) := goodIn_app (goodIn_mk (chkPl_mem (ps := [3, 4, 5, 6]) (by decide +kernel)) (by decide +kernel)) ggX10_takeNewCell_X10_takeCell
theorem gX10_takeNewCell_X10_isAmong : GoodIn wsX10_takeNewCell (va_wsS RX10 216 yX10_isAmong wsX10_isAmong) := goodIn_app (goodIn_mk (chkPl_mem (ps := [32, 33, 6]) (by decide +kernel)) (by decide +kernel)) ggX10_takeNewCell_X10_isAmong
theorem gX10_takeNewCell_X10_fails : GoodIn wsX10_takeNewCell (wsV RX10 191 RX10 yX10_fails wsX10_fails) := goodIn_app (goodIn_mk (chkPl_mem (ps := [27, 28, 29, 6]) (by decide +kernel)) (by decide +kernel)) ggX10_takeNewCell_X10_fails
theorem gX10_takeOne_X10_takeNewCell : GoodIn wsX10_takeOne (wsV RX10 223 RX10 yX10_takeNewCell wsX10_takeNewCell) := goodIn_app (goodIn_mk (chkPl_mem (ps := [6, 7, 8, 9]) (by decide +kernel)) (by decide +kernel)) ggX10_takeOne_X10_takeNewCell
theorem gX10_takeOne_X10_into : GoodIn wsX10_takeOne (wsV RX10 227 RX10 yX10_into wsX10_into) := goodIn_app (goodIn_mk (chkPl_mem (ps := [43, 44, 45, 9]) (by decide +kernel)) (by decide +kernel)) ggX10_takeOne_X10_into
theorem gX10_takeMoon_X10_into : GoodIn wsX10_takeMoon (wsV RX10 227 RX10 yX10_into wsX10_into) := goodIn_app (goodIn_mk (chkPl_mem (ps := [8, 9, 10, 11]) (by decide +kernel)) (by decide +kernel)) ggX10_takeMoon_X10_into
theorem gX10_takeMoon_X10_takeNumber : GoodIn wsX10_takeMoon (wsV RX10 201 RX10 yX10_takeNumber wsX10_takeNumber) := goodIn_app (goodIn_mk (chkPl_mem (ps := [13, 14, 15, 11]) (by decide +kernel)) (by decide +kernel)) ggX10_takeMoon_X10_takeNumber
theorem gX10_takeMoon_X10_here : GoodIn wsX10_takeMoon (wsV RX10 183 RX10 yX10_here wsX10_here) := goodIn_app (goodIn_mk (chkPl_mem (ps := [22, 23, 24, 11]) (by decide +kernel)) (by decide +kernel)) ggX10_takeMoon_X10_here
theorem gX10_takeMoon_X10_fails : GoodIn wsX10_takeMoon (wsV RX10 191 RX10 yX10_fails wsX10_fails) := goodIn_app (goodIn_mk (chkPl_mem (ps := [29, 30, 31, 11]) (by decide +kernel)) (by decide +kernel)) ggX10_takeMoon_X10_fails
theorem gX10_takeHouse_X10_takeNewCell : GoodIn wsX10_takeHouse (wsV RX10 223 RX10 yX10_takeNewCell wsX10_takeNewCell) := goodIn_app (goodIn_mk (chkPl_mem (ps := [4, 5, 6, 7]) (by decide +kernel)) (by decide +kernel)) ggX10_takeHouse_X10_takeNewCell
theorem gX10_takeHouse_X10_into : GoodIn wsX10_takeHouse (wsV RX10 227 RX10 yX10_into wsX10_into) := goodIn_app (goodIn_mk (chkPl_mem (ps := [42, 43, 44, 7]) (by decide +kernel)) (by decide +kernel)) ggX10_takeHouse_X10_into
theorem gX10_takeCrack_X10_takeCell : GoodIn wsX10_takeCrack (wsV RX10 213 RX10 yX10_takeCell wsX10_takeCell) := goodIn_app (goodIn_mk (chkPl_mem (ps := [10, 11, 12, 13]) (by decide +kernel)) (by decide +kernel)) ggX10_takeCrack_X10_takeCell
theorem gX10_takeCrack_X10_takeNumber : GoodIn wsX10_takeCrack (wsV RX10 201 RX10 yX10_takeNumber wsX10_takeNumber) := goodIn_app (goodIn_mk (chkPl_mem (ps := [15, 16, 17, 13]) (by decide +kernel)) (by decide +kernel)) ggX10_takeCrack_X10_takeNumber
theorem gX10_takeCrack_X10_fails : GoodIn wsX10_takeCrack (wsV RX10 191 RX10 yX10_fails wsX10_fails) := goodIn_app (goodIn_mk (chkPl_mem (ps := [31, 32, 33, 13]) (by decide +kernel)) (by decide +kernel)) ggX10_takeCrack_X10_fails
theorem gX10_takeCrack_X10_into : GoodIn wsX10_takeCrack (wsV RX10 227 RX10 yX10_into wsX10_into) := goodIn_app (goodIn_mk (chkPl_mem (ps := [36, 37, 38, 13]) (by decide +kernel)) (by decide +kernel)) ggX10_takeCrack_X10_into
theorem gX10_takeWell_X10_takeNewCell : GoodIn wsX10_takeWell (wsV RX10 223 RX10 yX10_takeNewCell wsX10_takeNewCell) := goodIn_app (goodIn_mk (chkPl_mem (ps := [4, 5, 6, 7]) (by decide +kernel)) (by decide +kernel)) ggX10_takeWell_X10_takeNewCell
theorem gX10_takeWell_X10_into : GoodIn wsX10_takeWell (wsV RX10 227 RX10 yX10_into wsX10_into) := goodIn_app (goodIn_mk (chkPl_mem (ps := [42, 43, 44, 7]) (by decide +kernel)) (by decide +kernel)) ggX10_takeWell_X10_into
theorem gX10_takeDeed_X10_into : GoodIn wsX10_takeDeed (wsV RX10 227 RX10 yX10_into wsX10_into) := goodIn_app (goodIn_mk (chkPl_mem (ps := [5, 6, 7, 8]) (by decide +kernel)) (by decide +kernel)) ggX10_takeDeed_X10_into
theorem gX10_takeDeed_X10_fails : GoodIn wsX10_takeDeed (wsV RX10 191 RX10 yX10_fails wsX10_fails) := goodIn_app (goodIn_mk (chkPl_mem (ps := [27, 28, 29, 8]) (by decide +kernel)) (by decide +kernel)) ggX10_takeDeed_X10_fails
theorem gX10_takeClause_X10_here : GoodIn wsX10_takeClause (wsV RX10 183 RX10 yX10_here wsX10_here) := goodIn_app (goodIn_mk (chkPl_mem (ps := [9, 10, 11, 12]) (by decide +kernel)) (by decide +kernel)) ggX10_takeClause_X10_here
theorem gX10_takeClause_X10_fails : GoodIn wsX10_takeClause (wsV RX10 191 RX10 yX10_fails wsX10_fails) := goodIn_app (goodIn_mk (chkPl_mem (ps := [16, 17, 18, 12]) (by decide +kernel)) (by decide +kernel)) ggX10_takeClause_X10_fails
theorem gX10_takeClause_X10_takeGround : GoodIn wsX10_takeClause (wsV RX10 246 RX10 yX10_takeGround wsX10_takeGround) := goodIn_app (goodIn_mk (chkPl_mem (ps := [21, 22, 23, 12]) (by decide +kernel)) (by decide +kernel)) ggX10_takeClause_X10_takeGround
theorem gX10_takeClause_X10_takeOne : GoodIn wsX10_takeClause (wsV RX10 249 RX10 yX10_takeOne wsX10_takeOne) := goodIn_app (goodIn_mk (chkPl_mem (ps := [39, 40, 41, 12]) (by decide +kernel)) (by decide +kernel)) ggX10_takeClause_X10_takeOne
theorem gX10_takeClause_X10_takeMoon : GoodIn wsX10_takeClause (wsV RX10 252 RX10 yX10_takeMoon wsX10_takeMoon) := goodIn_app (goodIn_mk (chkPl_mem (ps := [60, 61, 62, 12]) (by decide +kernel)) (by decide +kernel)) ggX10_takeClause_X10_takeMoon
theorem gX10_takeClause_X10_takeHouse : GoodIn wsX10_takeClause (wsV RX10 255 RX10 yX10_takeHouse wsX10_takeHouse) := goodIn_app (goodIn_mk (chkPl_mem (ps := [68, 69, 70, 12]) (by decide +kernel)) (by decide +kernel)) ggX10_takeClause_X10_takeHouse
theorem gX10_takeClause_X10_takeCrack : GoodIn wsX10_takeClause (wsV RX10 258 RX10 yX10_takeCrack wsX10_takeCrack) := goodIn_app (goodIn_mk (chkPl_mem (ps := [74, 75, 76, 12]) (by decide +kernel)) (by decide +kernel)) ggX10_takeClause_X10_takeCrack
theorem gX10_takeClause_X10_takeWell : GoodIn wsX10_takeClause (wsV RX10 261 RX10 yX10_takeWell wsX10_takeWell) := goodIn_app (goodIn_mk (chkPl_mem (ps := [81, 82, 83, 12]) (by decide +kernel)) (by decide +kernel)) ggX10_takeClause_X10_takeWell
theorem gX10_takeClause_X10_takeDeed : GoodIn wsX10_takeClause (wsV RX10 264 RX10 yX10_takeDeed wsX10_takeDeed) := goodIn_app (goodIn_mk (chkPl_mem (ps := [87, 88, 89, 12]) (by decide +kernel)) (by decide +kernel)) ggX10_takeClause_X10_takeDeed
theorem gX10_takeRead_X10_divisor : GoodIn wsX10_takeRead (va_wsS RX10 282 yX10_divisor wsX10_divisor) := goodIn_app (goodIn_mk (chkPl_mem (ps := [49, 50, 51]) (by decide +kernel)) (by decide +kernel)) ggX10_takeRead_X10_divisor
theorem gX10_ground_X10_here : GoodIn wsX10_ground (wsV RX10 183 RX10 yX10_here wsX10_here) := goodIn_app (goodIn_mk (chkPl_mem (ps := [19, 20, 21, 22]) (by decide +kernel)) (by decide +kernel)) ggX10_ground_X10_here
theorem gX10_ground_X10_takeClause : GoodIn wsX10_ground (wsV RX10 285 RX10 yX10_takeClause wsX10_takeClause) := goodIn_app (goodIn_mk (chkPl_mem (ps := [25, 26, 27, 22]) (by decide +kernel)) (by decide +kernel)) ggX10_ground_X10_takeClause
theorem gX10_ground_X10_takeRead : GoodIn wsX10_ground (wsV RX10 288 RX10 yX10_takeRead wsX10_takeRead) := goodIn_app (goodIn_mk (chkPl_mem (ps := [104, 105, 106, 22]) (by decide +kernel)) (by decide +kernel)) ggX10_ground_X10_takeRead
theorem gX10_ground_X10_cells : GoodIn wsX10_ground (wsV RX10 306 RX10 yX10_cells wsX10_cells) := goodIn_app (goodIn_mk (chkPl_mem (ps := [137, 138, 139, 22]) (by decide +kernel)) (by decide +kernel)) ggX10_ground_X10_cells
theorem gX10_pullAt_X10_partOf : GoodIn wsX10_pullAt (wsV RX10 309 RX10 yX10_partOf wsX10_partOf) := goodIn_app (goodIn_mk (chkPl_mem (ps := [2, 3, 4, 5]) (by decide +kernel)) (by decide +kernel)) ggX10_pullAt_X10_partOf
theorem gX10_heightAt_X10_stiffOf : GoodIn wsX10_heightAt (wsV RX10 313 RX10 yX10_stiffOf wsX10_stiffOf) := goodIn_app (goodIn_mk (chkPl_mem (ps := [2, 3, 4, 5]) (by decide +kernel)) (by decide +kernel)) ggX10_heightAt_X10_stiffOf
theorem gX10_heightAt_X10_pullAt : GoodIn wsX10_heightAt (wsV RX10 317 RX10 yX10_pullAt wsX10_pullAt) := goodIn_app (goodIn_mk (chkPl_mem (ps := [9, 10, 11, 5]) (by decide +kernel)) (by decide +kernel)) ggX10_heightAt_X10_pullAt
theorem gX10_beside_X10_isCell : GoodIn wsX10_beside (wsV RX10 169 RX10 yX10_isCell wsX10_isCell) := goodIn_app (goodIn_mk (chkPl_mem (ps := [2, 3, 4, 5]) (by decide +kernel)) (by decide +kernel)) ggX10_beside_X10_isCell
theorem gX10_leanAt_X10_beside : GoodIn wsX10_leanAt (wsV RX10 320 RX10 yX10_beside wsX10_beside) := goodIn_app (goodIn_mk (chkPl_mem (ps := [1, 2, 3, 4]) (by decide +kernel)) (by decide +kernel)) ggX10_leanAt_X10_beside
theorem gX10_leanAt_X10_heightAt : GoodIn wsX10_leanAt (wsV RX10 323 RX10 yX10_heightAt wsX10_heightAt) := goodIn_app (goodIn_mk (chkPl_mem (ps := [15, 16, 17, 4]) (by decide +kernel)) (by decide +kernel)) ggX10_leanAt_X10_heightAt
theorem gX10_told_X10_pairOf : GoodIn wsX10_told (wsV RX10 326 RX10 yX10_pairOf wsX10_pairOf) := goodIn_app (goodIn_mk (chkPl_mem (ps := [17, 18, 19, 20]) (by decide +kernel)) (by decide +kernel)) ggX10_told_X10_pairOf
theorem gX10_cell_X10_isCell : GoodIn wsX10_cell (wsV RX10 169 RX10 yX10_isCell wsX10_isCell) := goodIn_app (goodIn_mk (chkPl_mem (ps := [8, 9, 10, 11]) (by decide +kernel)) (by decide +kernel)) ggX10_cell_X10_isCell
theorem gX10_cell_X10_stiffOf : GoodIn wsX10_cell (wsV RX10 313 RX10 yX10_stiffOf wsX10_stiffOf) := goodIn_app (goodIn_mk (chkPl_mem (ps := [17, 18, 19, 11]) (by decide +kernel)) (by decide +kernel)) ggX10_cell_X10_stiffOf
theorem gX10_cell_X10_pullAt : GoodIn wsX10_cell (wsV RX10 317 RX10 yX10_pullAt wsX10_pullAt) := goodIn_app (goodIn_mk (chkPl_mem (ps := [21, 22, 23, 11]) (by decide +kernel)) (by decide +kernel)) ggX10_cell_X10_pullAt
theorem gX10_cell_X10_heightAt : GoodIn wsX10_cell (wsV RX10 323 RX10 yX10_heightAt wsX10_heightAt) := goodIn_app (goodIn_mk (chkPl_mem (ps := [36, 37, 38, 11]) (by decide +kernel)) (by decide +kernel)) ggX10_cell_X10_heightAt
theorem gX10_cell_X10_leanAt : GoodIn wsX10_cell (wsV RX10 330 RX10 yX10_leanAt wsX10_leanAt) := goodIn_app (goodIn_mk (chkPl_mem (ps := [40, 41, 42, 11]) (by decide +kernel)) (by decide +kernel)) ggX10_cell_X10_leanAt
theorem gX10_height_X10_isCell : GoodIn wsX10_height (wsV RX10 169 RX10 yX10_isCell wsX10_isCell) := goodIn_app (goodIn_mk (chkPl_mem (ps := [5, 6, 7, 8]) (by decide +kernel)) (by decide +kernel)) ggX10_height_X10_isCell
theorem gX10_height_X10_in : GoodIn wsX10_height (va_wsS RX10 165 yX10_in wsX10_in) := goodIn_app (goodIn_mk (chkPl_mem (ps := [11, 12, 8]) (by decide +kernel)) (by decide +kernel)) ggX10_height_X10_in
theorem gX10_height_X10_heightAt : GoodIn wsX10_height (wsV RX10 323 RX10 yX10_heightAt wsX10_heightAt) := goodIn_app (goodIn_mk (chkPl_mem (ps := [14, 15, 16, 8]) (by decide +kernel)) (by decide +kernel)) ggX10_height_X10_heightAt
theorem gX10_moon_X10_in : GoodIn wsX10_moon (va_wsS RX10 165 yX10_in wsX10_in) := goodIn_app (goodIn_mk (chkPl_mem (ps := [9, 10, 11]) (by decide +kernel)) (by decide +kernel)) ggX10_moon_X10_in
theorem gX10_moon_X10_partOf : GoodIn wsX10_moon (wsV RX10 309 RX10 yX10_partOf wsX10_partOf) := goodIn_app (goodIn_mk (chkPl_mem (ps := [13, 14, 15, 11]) (by decide +kernel)) (by decide +kernel)) ggX10_moon_X10_partOf
theorem gX10_doesBreak_X10_leanAt : GoodIn wsX10_doesBreak (wsV RX10 330 RX10 yX10_leanAt wsX10_leanAt) := goodIn_app (goodIn_mk (chkPl_mem (ps := [4, 5, 6, 7]) (by decide +kernel)) (by decide +kernel)) ggX10_doesBreak_X10_leanAt
theorem gX10_needOf_X10_leanAt : GoodIn wsX10_needOf (wsV RX10 330 RX10 yX10_leanAt wsX10_leanAt) := goodIn_app (goodIn_mk (chkPl_mem (ps := [4, 5, 6, 7]) (by decide +kernel)) (by decide +kernel)) ggX10_needOf_X10_leanAt
theorem gX10_house_X10_in : GoodIn wsX10_house (va_wsS RX10 165 yX10_in wsX10_in) := goodIn_app (goodIn_mk (chkPl_mem (ps := [8, 9, 10]) (by decide +kernel)) (by decide +kernel)) ggX10_house_X10_in
theorem gX10_house_X10_pairOf : GoodIn wsX10_house (wsV RX10 326 RX10 yX10_pairOf wsX10_pairOf) := goodIn_app (goodIn_mk (chkPl_mem (ps := [12, 13, 14, 10]) (by decide +kernel)) (by decide +kernel)) ggX10_house_X10_pairOf
theorem gX10_house_X10_doesBreak : GoodIn wsX10_house (wsV RX10 335 RX10 yX10_doesBreak wsX10_doesBreak) := goodIn_app (goodIn_mk (chkPl_mem (ps := [17, 18, 19, 10]) (by decide +kernel)) (by decide +kernel)) ggX10_house_X10_doesBreak
theorem gX10_house_X10_needOf : GoodIn wsX10_house (wsV RX10 338 RX10 yX10_needOf wsX10_needOf) := goodIn_app (goodIn_mk (chkPl_mem (ps := [60, 61, 62, 10]) (by decide +kernel)) (by decide +kernel)) ggX10_house_X10_needOf
theorem gX10_isOpen_X10_pullAt : GoodIn wsX10_isOpen (wsV RX10 317 RX10 yX10_pullAt wsX10_pullAt) := goodIn_app (goodIn_mk (chkPl_mem (ps := [3, 4, 5, 6]) (by decide +kernel)) (by decide +kernel)) ggX10_isOpen_X10_pullAt
theorem gX10_crack_X10_in : GoodIn wsX10_crack (va_wsS RX10 165 yX10_in wsX10_in) := goodIn_app (goodIn_mk (chkPl_mem (ps := [5, 6, 7]) (by decide +kernel)) (by decide +kernel)) ggX10_crack_X10_in
theorem gX10_crack_X10_isOpen : GoodIn wsX10_crack (wsV RX10 341 RX10 yX10_isOpen wsX10_isOpen) := goodIn_app (goodIn_mk (chkPl_mem (ps := [9, 10, 11, 7]) (by decide +kernel)) (by decide +kernel)) ggX10_crack_X10_isOpen
theorem gX10_isBarred_X10_beside : GoodIn wsX10_isBarred (wsV RX10 320 RX10 yX10_beside wsX10_beside) := goodIn_app (goodIn_mk (chkPl_mem (ps := [4, 5, 6, 7]) (by decide +kernel)) (by decide +kernel)) ggX10_isBarred_X10_beside
theorem gX10_isBarred_X10_isOpen : GoodIn wsX10_isBarred (wsV RX10 341 RX10 yX10_isOpen wsX10_isOpen) := goodIn_app (goodIn_mk (chkPl_mem (ps := [18, 19, 20, 7]) (by decide +kernel)) (by decide +kernel)) ggX10_isBarred_X10_isOpen
theorem gX10_slopeAt_X10_heightAt : GoodIn wsX10_slopeAt (wsV RX10 323 RX10 yX10_heightAt wsX10_heightAt) := goodIn_app (goodIn_mk (chkPl_mem (ps := [1, 2, 3, 4]) (by decide +kernel)) (by decide +kernel)) ggX10_slopeAt_X10_heightAt
theorem gX10_goes_X10_beside : GoodIn wsX10_goes (wsV RX10 320 RX10 yX10_beside wsX10_beside) := goodIn_app (goodIn_mk (chkPl_mem (ps := [2, 3, 4, 5]) (by decide +kernel)) (by decide +kernel)) ggX10_goes_X10_beside
theorem gX10_goes_X10_isBarred : GoodIn wsX10_goes (wsV RX10 344 RX10 yX10_isBarred wsX10_isBarred) := goodIn_app (goodIn_mk (chkPl_mem (ps := [16, 17, 18, 5]) (by decide +kernel)) (by decide +kernel)) ggX10_goes_X10_isBarred
theorem gX10_goes_X10_slopeAt : GoodIn wsX10_goes (wsV RX10 348 RX10 yX10_slopeAt wsX10_slopeAt) := goodIn_app (goodIn_mk (chkPl_mem (ps := [43, 44, 45, 5]) (by decide +kernel)) (by decide +kernel)) ggX10_goes_X10_slopeAt
theorem gX10_costOf_X10_slopeAt : GoodIn wsX10_costOf (wsV RX10 348 RX10 yX10_slopeAt wsX10_slopeAt) := goodIn_app (goodIn_mk (chkPl_mem (ps := [1, 2, 3, 4]) (by decide +kernel)) (by decide +kernel)) ggX10_costOf_X10_slopeAt
theorem gX10_pass_X10_in : GoodIn wsX10_pass (va_wsS RX10 165 yX10_in wsX10_in) := goodIn_app (goodIn_mk (chkPl_mem (ps := [6, 7, 8]) (by decide +kernel)) (by decide +kernel)) ggX10_pass_X10_in
theorem gX10_rollNow_X10_costOf : GoodIn wsX10_rollNow (wsV RX10 355 RX10 yX10_costOf wsX10_costOf) := goodIn_app (goodIn_mk (chkPl_mem (ps := [4, 5, 6, 7]) (by decide +kernel)) (by decide +kernel)) ggX10_rollNow_X10_costOf
theorem gX10_rollNow_X10_held : GoodIn wsX10_rollNow (va_wsS RX10 358 yX10_held wsX10_held) := goodIn_app (goodIn_mk (chkPl_mem (ps := [40, 41, 7]) (by decide +kernel)) (by decide +kernel)) ggX10_rollNow_X10_held
theorem gX10_roll_X10_in : GoodIn wsX10_roll (va_wsS RX10 165 yX10_in wsX10_in) := goodIn_app (goodIn_mk (chkPl_mem (ps := [9, 10, 11]) (by decide +kernel)) (by decide +kernel)) ggX10_roll_X10_in
theorem gX10_roll_X10_goes : GoodIn wsX10_roll (wsV RX10 363 RX10 yX10_goes wsX10_goes) := goodIn_app (goodIn_mk (chkPl_mem (ps := [13, 14, 15, 11]) (by decide +kernel)) (by decide +kernel)) ggX10_roll_X10_goes
theorem gX10_roll_X10_rollNow : GoodIn wsX10_roll (wsV RX10 367 RX10 yX10_rollNow wsX10_rollNow) := goodIn_app (goodIn_mk (chkPl_mem (ps := [69, 70, 71, 11]) (by decide +kernel)) (by decide +kernel)) ggX10_roll_X10_rollNow
theorem gX10_steep_X10_in : GoodIn wsX10_steep (va_wsS RX10 165 yX10_in wsX10_in) := goodIn_app (goodIn_mk (chkPl_mem (ps := [4, 5, 6]) (by decide +kernel)) (by decide +kernel)) ggX10_steep_X10_in
theorem gX10_load_X10_isCell : GoodIn wsX10_load (wsV RX10 169 RX10 yX10_isCell wsX10_isCell) := goodIn_app (goodIn_mk (chkPl_mem (ps := [6, 7, 8, 9]) (by decide +kernel)) (by decide +kernel)) ggX10_load_X10_isCell
theorem gX10_load_X10_in : GoodIn wsX10_load (va_wsS RX10 165 yX10_in wsX10_in) := goodIn_app (goodIn_mk (chkPl_mem (ps := [12, 13, 9]) (by decide +kernel)) (by decide +kernel)) ggX10_load_X10_in
theorem gX10_prop_X10_in : GoodIn wsX10_prop (va_wsS RX10 165 yX10_in wsX10_in) := goodIn_app (goodIn_mk (chkPl_mem (ps := [6, 7, 8]) (by decide +kernel)) (by decide +kernel)) ggX10_prop_X10_in
theorem gX10_shift_X10_in : GoodIn wsX10_shift (va_wsS RX10 165 yX10_in wsX10_in) := goodIn_app (goodIn_mk (chkPl_mem (ps := [7, 8, 9]) (by decide +kernel)) (by decide +kernel)) ggX10_shift_X10_in
theorem gX10_drift_X10_in : GoodIn wsX10_drift (va_wsS RX10 165 yX10_in wsX10_in) := goodIn_app (goodIn_mk (chkPl_mem (ps := [10, 11, 12]) (by decide +kernel)) (by decide +kernel)) ggX10_drift_X10_in
theorem gX10_drift_X10_draw : GoodIn wsX10_drift (wsV RX10 387 RX10 yX10_draw wsX10_draw) := goodIn_app (goodIn_mk (chkPl_mem (ps := [14, 15, 16, 12]) (by decide +kernel)) (by decide +kernel)) ggX10_drift_X10_draw
theorem gX10_drift_X10_goes : GoodIn wsX10_drift (wsV RX10 363 RX10 yX10_goes wsX10_goes) := goodIn_app (goodIn_mk (chkPl_mem (ps := [23, 24, 25, 12]) (by decide +kernel)) (by decide +kernel)) ggX10_drift_X10_goes
theorem gX10_drift_X10_rollNow : GoodIn wsX10_drift (wsV RX10 367 RX10 yX10_rollNow wsX10_rollNow) := goodIn_app (goodIn_mk (chkPl_mem (ps := [78, 79, 80, 12]) (by decide +kernel)) (by decide +kernel)) ggX10_drift_X10_rollNow
theorem gX10_drift_X10_cells : GoodIn wsX10_drift (wsV RX10 306 RX10 yX10_cells wsX10_cells) := goodIn_app (goodIn_mk (chkPl_mem (ps := [91, 92, 93, 12]) (by decide +kernel)) (by decide +kernel)) ggX10_drift_X10_cells
theorem gX10_drift_X10_pairOf : GoodIn wsX10_drift (wsV RX10 326 RX10 yX10_pairOf wsX10_pairOf) := goodIn_app (goodIn_mk (chkPl_mem (ps := [95, 96, 97, 12]) (by decide +kernel)) (by decide +kernel)) ggX10_drift_X10_pairOf
theorem gX10_isStep_X10_in : GoodIn wsX10_isStep (va_wsS RX10 165 yX10_in wsX10_in) := goodIn_app (goodIn_mk (chkPl_mem (ps := [2, 3, 4]) (by decide +kernel)) (by decide +kernel)) ggX10_isStep_X10_in
theorem gX10_isLevel_X10_cells : GoodIn wsX10_isLevel (wsV RX10 306 RX10 yX10_cells wsX10_cells) := goodIn_app (goodIn_mk (chkPl_mem (ps := [3, 4, 5, 6]) (by decide +kernel)) (by decide +kernel)) ggX10_isLevel_X10_cells
theorem gX10_isLevel_X10_has : GoodIn wsX10_isLevel (va_wsS RX10 394 yX10_has wsX10_has) := goodIn_app (goodIn_mk (chkPl_mem (ps := [10, 11, 6]) (by decide +kernel)) (by decide +kernel)) ggX10_isLevel_X10_has
theorem gX10_isLevel_X10_heightAt : GoodIn wsX10_isLevel (wsV RX10 323 RX10 yX10_heightAt wsX10_heightAt) := goodIn_app (goodIn_mk (chkPl_mem (ps := [13, 14, 15, 6]) (by decide +kernel)) (by decide +kernel)) ggX10_isLevel_X10_heightAt
theorem gX10_level_X10_cells : GoodIn wsX10_level (wsV RX10 306 RX10 yX10_cells wsX10_cells) := goodIn_app (goodIn_mk (chkPl_mem (ps := [5, 6, 7, 8]) (by decide +kernel)) (by decide +kernel)) ggX10_level_X10_cells
theorem gX10_level_X10_in : GoodIn wsX10_level (va_wsS RX10 165 yX10_in wsX10_in) := goodIn_app (goodIn_mk (chkPl_mem (ps := [12, 13, 8]) (by decide +kernel)) (by decide +kernel)) ggX10_level_X10_in
theorem gX10_level_X10_isStep : GoodIn wsX10_level (va_wsS RX10 397 yX10_isStep wsX10_isStep) := goodIn_app (goodIn_mk (chkPl_mem (ps := [15, 16, 8]) (by decide +kernel)) (by decide +kernel)) ggX10_level_X10_isStep
theorem gX10_level_X10_isLevel : GoodIn wsX10_level (wsV RX10 401 RX10 yX10_isLevel wsX10_isLevel) := goodIn_app (goodIn_mk (chkPl_mem (ps := [19, 20, 21, 8]) (by decide +kernel)) (by decide +kernel)) ggX10_level_X10_isLevel
theorem gX10_isAslant_X10_cells : GoodIn wsX10_isAslant (wsV RX10 306 RX10 yX10_cells wsX10_cells) := goodIn_app (goodIn_mk (chkPl_mem (ps := [1, 2, 3, 4]) (by decide +kernel)) (by decide +kernel)) ggX10_isAslant_X10_cells
theorem gX10_isAslant_X10_beside : GoodIn wsX10_isAslant (wsV RX10 320 RX10 yX10_beside wsX10_beside) := goodIn_app (goodIn_mk (chkPl_mem (ps := [8, 9, 10, 4]) (by decide +kernel)) (by decide +kernel)) ggX10_isAslant_X10_beside
theorem gX10_isAslant_X10_heightAt : GoodIn wsX10_isAslant (wsV RX10 323 RX10 yX10_heightAt wsX10_heightAt) := goodIn_app (goodIn_mk (chkPl_mem (ps := [19, 20, 21, 4]) (by decide +kernel)) (by decide +kernel)) ggX10_isAslant_X10_heightAt
theorem gX10_aslant_X10_isStep : GoodIn wsX10_aslant (va_wsS RX10 397 yX10_isStep wsX10_isStep) := goodIn_app (goodIn_mk (chkPl_mem (ps := [5, 6, 7]) (by decide +kernel)) (by decide +kernel)) ggX10_aslant_X10_isStep
theorem gX10_aslant_X10_isAslant : GoodIn wsX10_aslant (wsV RX10 404 RX10 yX10_isAslant wsX10_isAslant) := goodIn_app (goodIn_mk (chkPl_mem (ps := [13, 14, 15, 7]) (by decide +kernel)) (by decide +kernel)) ggX10_aslant_X10_isAslant
theorem gX10_isTurn_X10_heightAt : GoodIn wsX10_isTurn (wsV RX10 323 RX10 yX10_heightAt wsX10_heightAt) := goodIn_app (goodIn_mk (chkPl_mem (ps := [1, 2, 3, 4]) (by decide +kernel)) (by decide +kernel)) ggX10_isTurn_X10_heightAt
theorem gX10_turn_X10_isCell : GoodIn wsX10_turn (wsV RX10 169 RX10 yX10_isCell wsX10_isCell) := goodIn_app (goodIn_mk (chkPl_mem (ps := [6, 7, 8, 9]) (by decide +kernel)) (by decide +kernel)) ggX10_turn_X10_isCell
theorem gX10_turn_X10_in : GoodIn wsX10_turn (va_wsS RX10 165 yX10_in wsX10_in) := goodIn_app (goodIn_mk (chkPl_mem (ps := [12, 13, 9]) (by decide +kernel)) (by decide +kernel)) ggX10_turn_X10_in
theorem gX10_turn_X10_isTurn : GoodIn wsX10_turn (wsV RX10 407 RX10 yX10_isTurn wsX10_isTurn) := goodIn_app (goodIn_mk (chkPl_mem (ps := [15, 16, 17, 9]) (by decide +kernel)) (by decide +kernel)) ggX10_turn_X10_isTurn
theorem gX10_most_X10_isCell : GoodIn wsX10_most (wsV RX10 169 RX10 yX10_isCell wsX10_isCell) := goodIn_app (goodIn_mk (chkPl_mem (ps := [5, 6, 7, 8]) (by decide +kernel)) (by decide +kernel)) ggX10_most_X10_isCell
theorem gX10_most_X10_isStep : GoodIn wsX10_most (va_wsS RX10 397 yX10_isStep wsX10_isStep) := goodIn_app (goodIn_mk (chkPl_mem (ps := [14, 15, 8]) (by decide +kernel)) (by decide +kernel)) ggX10_most_X10_isStep
theorem gX10_most_X10_in : GoodIn wsX10_most (va_wsS RX10 165 yX10_in wsX10_in) := goodIn_app (goodIn_mk (chkPl_mem (ps := [11, 12, 8]) (by decide +kernel)) (by decide +kernel)) ggX10_most_X10_in
theorem gX10_most_X10_pullAt : GoodIn wsX10_most (wsV RX10 317 RX10 yX10_pullAt wsX10_pullAt) := goodIn_app (goodIn_mk (chkPl_mem (ps := [18, 19, 20, 8]) (by decide +kernel)) (by decide +kernel)) ggX10_most_X10_pullAt
theorem gX10_bell_X10_isCell : GoodIn wsX10_bell (wsV RX10 169 RX10 yX10_isCell wsX10_isCell) := goodIn_app (goodIn_mk (chkPl_mem (ps := [6, 7, 8, 9]) (by decide +kernel)) (by decide +kernel)) ggX10_bell_X10_isCell
theorem gX10_bell_X10_in : GoodIn wsX10_bell (va_wsS RX10 165 yX10_in wsX10_in) := goodIn_app (goodIn_mk (chkPl_mem (ps := [12, 13, 9]) (by decide +kernel)) (by decide +kernel)) ggX10_bell_X10_in
theorem gX10_bell_X10_isStep : GoodIn wsX10_bell (va_wsS RX10 397 yX10_isStep wsX10_isStep) := goodIn_app (goodIn_mk (chkPl_mem (ps := [15, 16, 9]) (by decide +kernel)) (by decide +kernel)) ggX10_bell_X10_isStep
theorem gX10_bell_X10_leanAt : GoodIn wsX10_bell (wsV RX10 330 RX10 yX10_leanAt wsX10_leanAt) := goodIn_app (goodIn_mk (chkPl_mem (ps := [19, 20, 21, 9]) (by decide +kernel)) (by decide +kernel)) ggX10_bell_X10_leanAt
theorem gX10_breaks_X10_isStep : GoodIn wsX10_breaks (va_wsS RX10 397 yX10_isStep wsX10_isStep) := goodIn_app (goodIn_mk (chkPl_mem (ps := [4, 5, 6]) (by decide +kernel)) (by decide +kernel)) ggX10_breaks_X10_isStep
theorem gX10_breaks_X10_in : GoodIn wsX10_breaks (va_wsS RX10 165 yX10_in wsX10_in) := goodIn_app (goodIn_mk (chkPl_mem (ps := [9, 10, 6]) (by decide +kernel)) (by decide +kernel)) ggX10_breaks_X10_in
theorem gX10_breaks_X10_doesBreak : GoodIn wsX10_breaks (wsV RX10 335 RX10 yX10_doesBreak wsX10_doesBreak) := goodIn_app (goodIn_mk (chkPl_mem (ps := [12, 13, 14, 6]) (by decide +kernel)) (by decide +kernel)) ggX10_breaks_X10_doesBreak
theorem gX10_props_X10_in : GoodIn wsX10_props (va_wsS RX10 165 yX10_in wsX10_in) := goodIn_app (goodIn_mk (chkPl_mem (ps := [4, 5, 6]) (by decide +kernel)) (by decide +kernel)) ggX10_props_X10_in
theorem gX10_props_X10_needOf : GoodIn wsX10_props (wsV RX10 338 RX10 yX10_needOf wsX10_needOf) := goodIn_app (goodIn_mk (chkPl_mem (ps := [8, 9, 10, 6]) (by decide +kernel)) (by decide +kernel)) ggX10_props_X10_needOf
theorem gX10_soonest_X10_ofPair : GoodIn wsX10_soonest (wsV RX10 412 RX10 yX10_ofPair wsX10_ofPair) := goodIn_app (goodIn_mk (chkPl_mem (ps := [3, 4, 5, 6]) (by decide +kernel)) (by decide +kernel)) ggX10_soonest_X10_ofPair
theorem gX10_soonest_X10_isStep : GoodIn wsX10_soonest (va_wsS RX10 397 yX10_isStep wsX10_isStep) := goodIn_app (goodIn_mk (chkPl_mem (ps := [17, 18, 6]) (by decide +kernel)) (by decide +kernel)) ggX10_soonest_X10_isStep
theorem gX10_soonest_X10_has : GoodIn wsX10_soonest (va_wsS RX10 394 yX10_has wsX10_has) := goodIn_app (goodIn_mk (chkPl_mem (ps := [21, 22, 6]) (by decide +kernel)) (by decide +kernel)) ggX10_soonest_X10_has
theorem gX10_soonest_X10_cells : GoodIn wsX10_soonest (wsV RX10 306 RX10 yX10_cells wsX10_cells) := goodIn_app (goodIn_mk (chkPl_mem (ps := [24, 25, 26, 6]) (by decide +kernel)) (by decide +kernel)) ggX10_soonest_X10_cells
theorem gX10_soonest_X10_goes : GoodIn wsX10_soonest (wsV RX10 363 RX10 yX10_goes wsX10_goes) := goodIn_app (goodIn_mk (chkPl_mem (ps := [28, 29, 30, 6]) (by decide +kernel)) (by decide +kernel)) ggX10_soonest_X10_goes
theorem gX10_restBy_X10_goes : GoodIn wsX10_restBy (wsV RX10 363 RX10 yX10_goes wsX10_goes) := goodIn_app (goodIn_mk (chkPl_mem (ps := [3, 4, 5, 6]) (by decide +kernel)) (by decide +kernel)) ggX10_restBy_X10_goes
theorem gX10_restBy_X10_costOf : GoodIn wsX10_restBy (wsV RX10 355 RX10 yX10_costOf wsX10_costOf) := goodIn_app (goodIn_mk (chkPl_mem (ps := [64, 65, 66, 6]) (by decide +kernel)) (by decide +kernel)) ggX10_restBy_X10_costOf
theorem gX10_findRest_X10_cells : GoodIn wsX10_findRest (wsV RX10 306 RX10 yX10_cells wsX10_cells) := goodIn_app (goodIn_mk (chkPl_mem (ps := [3, 4, 5, 6]) (by decide +kernel)) (by decide +kernel)) ggX10_findRest_X10_cells
theorem gX10_findRest_X10_restBy : GoodIn wsX10_findRest (wsV RX10 415 RX10 yX10_restBy wsX10_restBy) := goodIn_app (goodIn_mk (chkPl_mem (ps := [10, 11, 12, 6]) (by decide +kernel)) (by decide +kernel)) ggX10_findRest_X10_restBy
theorem gX10_least_X10_ofPair : GoodIn wsX10_least (wsV RX10 412 RX10 yX10_ofPair wsX10_ofPair) := goodIn_app (goodIn_mk (chkPl_mem (ps := [6, 7, 8, 9]) (by decide +kernel)) (by decide +kernel)) ggX10_least_X10_ofPair
theorem gX10_least_X10_isStep : GoodIn wsX10_least (va_wsS RX10 397 yX10_isStep wsX10_isStep) := goodIn_app (goodIn_mk (chkPl_mem (ps := [20, 21, 9]) (by decide +kernel)) (by decide +kernel)) ggX10_least_X10_isStep
theorem gX10_least_X10_in : GoodIn wsX10_least (va_wsS RX10 165 yX10_in wsX10_in) := goodIn_app (goodIn_mk (chkPl_mem (ps := [17, 18, 9]) (by decide +kernel)) (by decide +kernel)) ggX10_least_X10_in
theorem gX10_least_X10_findRest : GoodIn wsX10_least (wsV RX10 421 RX10 yX10_findRest wsX10_findRest) := goodIn_app (goodIn_mk (chkPl_mem (ps := [24, 25, 26, 9]) (by decide +kernel)) (by decide +kernel)) ggX10_least_X10_findRest
theorem gX10_least_X10_restBy : GoodIn wsX10_least (wsV RX10 415 RX10 yX10_restBy wsX10_restBy) := goodIn_app (goodIn_mk (chkPl_mem (ps := [32, 33, 34, 9]) (by decide +kernel)) (by decide +kernel)) ggX10_least_X10_restBy
theorem gX10_least_X10_goes : GoodIn wsX10_least (wsV RX10 363 RX10 yX10_goes wsX10_goes) := goodIn_app (goodIn_mk (chkPl_mem (ps := [36, 37, 38, 9]) (by decide +kernel)) (by decide +kernel)) ggX10_least_X10_goes
theorem gX10_floorOf_X10_heightAt : GoodIn wsX10_floorOf (wsV RX10 323 RX10 yX10_heightAt wsX10_heightAt) := goodIn_app (goodIn_mk (chkPl_mem (ps := [3, 4, 5, 6]) (by decide +kernel)) (by decide +kernel)) ggX10_floorOf_X10_heightAt
theorem gX10_isLevelOf_X10_has : GoodIn wsX10_isLevelOf (va_wsS RX10 394 yX10_has wsX10_has) := goodIn_app (goodIn_mk (chkPl_mem (ps := [5, 6, 7]) (by decide +kernel)) (by decide +kernel)) ggX10_isLevelOf_X10_has
theorem gX10_isLevelOf_X10_floorOf : GoodIn wsX10_isLevelOf (wsV RX10 425 RX10 yX10_floorOf wsX10_floorOf) := goodIn_app (goodIn_mk (chkPl_mem (ps := [9, 10, 11, 7]) (by decide +kernel)) (by decide +kernel)) ggX10_isLevelOf_X10_floorOf
theorem gX10_findWater_X10_isLevelOf : GoodIn wsX10_findWater (wsV RX10 437 RX10 yX10_isLevelOf wsX10_isLevelOf) := goodIn_app (goodIn_mk (chkPl_mem (ps := [5, 6, 7, 8]) (by decide +kernel)) (by decide +kernel)) ggX10_findWater_X10_isLevelOf
theorem gX10_findWater_X10_floorOf : GoodIn wsX10_findWater (wsV RX10 425 RX10 yX10_floorOf wsX10_floorOf) := goodIn_app (goodIn_mk (chkPl_mem (ps := [13, 14, 15, 8]) (by decide +kernel)) (by decide +kernel)) ggX10_findWater_X10_floorOf
theorem gX10_findWater_X10_divisor : GoodIn wsX10_findWater (va_wsS RX10 282 yX10_divisor wsX10_divisor) := goodIn_app (goodIn_mk (chkPl_mem (ps := [46, 47, 8]) (by decide +kernel)) (by decide +kernel)) ggX10_findWater_X10_divisor
theorem gX10_water_X10_in : GoodIn wsX10_water (va_wsS RX10 165 yX10_in wsX10_in) := goodIn_app (goodIn_mk (chkPl_mem (ps := [9, 10, 11]) (by decide +kernel)) (by decide +kernel)) ggX10_water_X10_in
theorem gX10_water_X10_isStep : GoodIn wsX10_water (va_wsS RX10 397 yX10_isStep wsX10_isStep) := goodIn_app (goodIn_mk (chkPl_mem (ps := [13, 14, 11]) (by decide +kernel)) (by decide +kernel)) ggX10_water_X10_isStep
theorem gX10_water_X10_findWater : GoodIn wsX10_water (wsV RX10 442 RX10 yX10_findWater wsX10_findWater) := goodIn_app (goodIn_mk (chkPl_mem (ps := [17, 18, 19, 11]) (by decide +kernel)) (by decide +kernel)) ggX10_water_X10_findWater
theorem gX10_whoseAt_X10_cells : GoodIn wsX10_whoseAt (wsV RX10 306 RX10 yX10_cells wsX10_cells) := goodIn_app (goodIn_mk (chkPl_mem (ps := [3, 4, 5, 6]) (by decide +kernel)) (by decide +kernel)) ggX10_whoseAt_X10_cells
theorem gX10_whoseAt_X10_heightAt : GoodIn wsX10_whoseAt (wsV RX10 323 RX10 yX10_heightAt wsX10_heightAt) := goodIn_app (goodIn_mk (chkPl_mem (ps := [10, 11, 12, 6]) (by decide +kernel)) (by decide +kernel)) ggX10_whoseAt_X10_heightAt
theorem gX10_whoseAt_X10_in : GoodIn wsX10_whoseAt (va_wsS RX10 165 yX10_in wsX10_in) := goodIn_app (goodIn_mk (chkPl_mem (ps := [36, 37, 6]) (by decide +kernel)) (by decide +kernel)) ggX10_whoseAt_X10_in
theorem gX10_whose_X10_in : GoodIn wsX10_whose (va_wsS RX10 165 yX10_in wsX10_in) := goodIn_app (goodIn_mk (chkPl_mem (ps := [4, 5, 6]) (by decide +kernel)) (by decide +kernel)) ggX10_whose_X10_in
theorem gX10_whose_X10_isStep : GoodIn wsX10_whose (va_wsS RX10 397 yX10_isStep wsX10_isStep) := goodIn_app (goodIn_mk (chkPl_mem (ps := [8, 9, 6]) (by decide +kernel)) (by decide +kernel)) ggX10_whose_X10_isStep
theorem gX10_whose_X10_whoseAt : GoodIn wsX10_whose (wsV RX10 446 RX10 yX10_whoseAt wsX10_whoseAt) := goodIn_app (goodIn_mk (chkPl_mem (ps := [12, 13, 14, 6]) (by decide +kernel)) (by decide +kernel)) ggX10_whose_X10_whoseAt
theorem gX10_stays_X10_in : GoodIn wsX10_stays (va_wsS RX10 165 yX10_in wsX10_in) := goodIn_app (goodIn_mk (chkPl_mem (ps := [4, 5, 6]) (by decide +kernel)) (by decide +kernel)) ggX10_stays_X10_in
theorem gX10_stays_X10_cells : GoodIn wsX10_stays (wsV RX10 306 RX10 yX10_cells wsX10_cells) := goodIn_app (goodIn_mk (chkPl_mem (ps := [8, 9, 10, 6]) (by decide +kernel)) (by decide +kernel)) ggX10_stays_X10_cells
theorem gX10_stays_X10_whoseAt : GoodIn wsX10_stays (wsV RX10 446 RX10 yX10_whoseAt wsX10_whoseAt) := goodIn_app (goodIn_mk (chkPl_mem (ps := [14, 15, 16, 6]) (by decide +kernel)) (by decide +kernel)) ggX10_stays_X10_whoseAt
theorem gX10_see_X10_isCell : GoodIn wsX10_see (wsV RX10 169 RX10 yX10_isCell wsX10_isCell) := goodIn_app (goodIn_mk (chkPl_mem (ps := [11, 12, 13, 14]) (by decide +kernel)) (by decide +kernel)) ggX10_see_X10_isCell
theorem gX10_see_X10_in : GoodIn wsX10_see (va_wsS RX10 165 yX10_in wsX10_in) := goodIn_app (goodIn_mk (chkPl_mem (ps := [17, 18, 14]) (by decide +kernel)) (by decide +kernel)) ggX10_see_X10_in
theorem gX10_isAsSeen_X10_heightAt : GoodIn wsX10_isAsSeen (wsV RX10 323 RX10 yX10_heightAt wsX10_heightAt) := goodIn_app (goodIn_mk (chkPl_mem (ps := [5, 6, 7, 8]) (by decide +kernel)) (by decide +kernel)) ggX10_isAsSeen_X10_heightAt
theorem gX10_findFits_X10_saveShifts : GoodIn wsX10_findFits (wsV RX10 451 RX10 yX10_saveShifts wsX10_saveShifts) := goodIn_app (goodIn_mk (chkPl_mem (ps := [4, 5, 6, 7]) (by decide +kernel)) (by decide +kernel)) ggX10_findFits_X10_saveShifts
theorem gX10_findFits_X10_codes : GoodIn wsX10_findFits (wsV RX10 457 RX10 yX10_codes wsX10_codes) := goodIn_app (goodIn_mk (chkPl_mem (ps := [11, 12, 13, 7]) (by decide +kernel)) (by decide +kernel)) ggX10_findFits_X10_codes
theorem gX10_findFits_X10_setShifts : GoodIn wsX10_findFits (wsV RX10 460 RX10 yX10_setShifts wsX10_setShifts) := goodIn_app (goodIn_mk (chkPl_mem (ps := [16, 17, 18, 7]) (by decide +kernel)) (by decide +kernel)) ggX10_findFits_X10_setShifts
theorem gX10_findFits_X10_isAsSeen : GoodIn wsX10_findFits (wsV RX10 464 RX10 yX10_isAsSeen wsX10_isAsSeen) := goodIn_app (goodIn_mk (chkPl_mem (ps := [20, 21, 22, 7]) (by decide +kernel)) (by decide +kernel)) ggX10_findFits_X10_isAsSeen
theorem gX10_findFits_X10_putBack : GoodIn wsX10_findFits (wsV RX10 468 RX10 yX10_putBack wsX10_putBack) := goodIn_app (goodIn_mk (chkPl_mem (ps := [52, 53, 54, 7]) (by decide +kernel)) (by decide +kernel)) ggX10_findFits_X10_putBack
theorem gX10_fits_X10_in : GoodIn wsX10_fits (va_wsS RX10 165 yX10_in wsX10_in) := goodIn_app (goodIn_mk (chkPl_mem (ps := [6, 7, 8]) (by decide +kernel)) (by decide +kernel)) ggX10_fits_X10_in
theorem gX10_fits_X10_findFits : GoodIn wsX10_fits (wsV RX10 471 RX10 yX10_findFits wsX10_findFits) := goodIn_app (goodIn_mk (chkPl_mem (ps := [10, 11, 12, 8]) (by decide +kernel)) (by decide +kernel)) ggX10_fits_X10_findFits
theorem gX10_fits_X10_saveShifts : GoodIn wsX10_fits (wsV RX10 451 RX10 yX10_saveShifts wsX10_saveShifts) := goodIn_app (goodIn_mk (chkPl_mem (ps := [14, 15, 16, 8]) (by decide +kernel)) (by decide +kernel)) ggX10_fits_X10_saveShifts
theorem gX10_fits_X10_setShifts : GoodIn wsX10_fits (wsV RX10 460 RX10 yX10_setShifts wsX10_setShifts) := goodIn_app (goodIn_mk (chkPl_mem (ps := [24, 25, 26, 8]) (by decide +kernel)) (by decide +kernel)) ggX10_fits_X10_setShifts
theorem gX10_fits_X10_putBack : GoodIn wsX10_fits (wsV RX10 468 RX10 yX10_putBack wsX10_putBack) := goodIn_app (goodIn_mk (chkPl_mem (ps := [60, 61, 62, 8]) (by decide +kernel)) (by decide +kernel)) ggX10_fits_X10_putBack
theorem gX10_worstAt_X10_stiffOf : GoodIn wsX10_worstAt (wsV RX10 313 RX10 yX10_stiffOf wsX10_stiffOf) := goodIn_app (goodIn_mk (chkPl_mem (ps := [4, 5, 6, 7]) (by decide +kernel)) (by decide +kernel)) ggX10_worstAt_X10_stiffOf
theorem gX10_worstAt_X10_setShifts : GoodIn wsX10_worstAt (wsV RX10 460 RX10 yX10_setShifts wsX10_setShifts) := goodIn_app (goodIn_mk (chkPl_mem (ps := [11, 12, 13, 7]) (by decide +kernel)) (by decide +kernel)) ggX10_worstAt_X10_setShifts
theorem gX10_worstAt_X10_pullAt : GoodIn wsX10_worstAt (wsV RX10 317 RX10 yX10_pullAt wsX10_pullAt) := goodIn_app (goodIn_mk (chkPl_mem (ps := [17, 18, 19, 7]) (by decide +kernel)) (by decide +kernel)) ggX10_worstAt_X10_pullAt
theorem gX10_look_X10_in : GoodIn wsX10_look (va_wsS RX10 165 yX10_in wsX10_in) := goodIn_app (goodIn_mk (chkPl_mem (ps := [4, 5, 6]) (by decide +kernel)) (by decide +kernel)) ggX10_look_X10_in
theorem gX10_look_X10_findFits : GoodIn wsX10_look (wsV RX10 471 RX10 yX10_findFits wsX10_findFits) := goodIn_app (goodIn_mk (chkPl_mem (ps := [8, 9, 10, 6]) (by decide +kernel)) (by decide +kernel)) ggX10_look_X10_findFits
theorem gX10_look_X10_saveShifts : GoodIn wsX10_look (wsV RX10 451 RX10 yX10_saveShifts wsX10_saveShifts) := goodIn_app (goodIn_mk (chkPl_mem (ps := [14, 15, 16, 6]) (by decide +kernel)) (by decide +kernel)) ggX10_look_X10_saveShifts
theorem gX10_look_X10_cells : GoodIn wsX10_look (wsV RX10 306 RX10 yX10_cells wsX10_cells) := goodIn_app (goodIn_mk (chkPl_mem (ps := [65, 66, 67, 6]) (by decide +kernel)) (by decide +kernel)) ggX10_look_X10_cells
theorem gX10_look_X10_worstAt : GoodIn wsX10_look (wsV RX10 474 RX10 yX10_worstAt wsX10_worstAt) := goodIn_app (goodIn_mk (chkPl_mem (ps := [70, 71, 72, 6]) (by decide +kernel)) (by decide +kernel)) ggX10_look_X10_worstAt
theorem gX10_look_X10_putBack : GoodIn wsX10_look (wsV RX10 468 RX10 yX10_putBack wsX10_putBack) := goodIn_app (goodIn_mk (chkPl_mem (ps := [61, 62, 63, 6]) (by decide +kernel)) (by decide +kernel)) ggX10_look_X10_putBack
theorem gX10_look_X10_pairOf : GoodIn wsX10_look (wsV RX10 326 RX10 yX10_pairOf wsX10_pairOf) := goodIn_app (goodIn_mk (chkPl_mem (ps := [75, 76, 77, 6]) (by decide +kernel)) (by decide +kernel)) ggX10_look_X10_pairOf
theorem gX10_odds_X10_in : GoodIn wsX10_odds (va_wsS RX10 165 yX10_in wsX10_in) := goodIn_app (goodIn_mk (chkPl_mem (ps := [10, 11, 12]) (by decide +kernel)) (by decide +kernel)) ggX10_odds_X10_in
theorem gX10_odds_X10_isCell : GoodIn wsX10_odds (wsV RX10 169 RX10 yX10_isCell wsX10_isCell) := goodIn_app (goodIn_mk (chkPl_mem (ps := [14, 15, 16, 12]) (by decide +kernel)) (by decide +kernel)) ggX10_odds_X10_isCell
theorem gX10_odds_X10_isStep : GoodIn wsX10_odds (va_wsS RX10 397 yX10_isStep wsX10_isStep) := goodIn_app (goodIn_mk (chkPl_mem (ps := [19, 20, 12]) (by decide +kernel)) (by decide +kernel)) ggX10_odds_X10_isStep
theorem gX10_odds_X10_leanAt : GoodIn wsX10_odds (wsV RX10 330 RX10 yX10_leanAt wsX10_leanAt) := goodIn_app (goodIn_mk (chkPl_mem (ps := [23, 24, 25, 12]) (by decide +kernel)) (by decide +kernel)) ggX10_odds_X10_leanAt
theorem gX10_write_X10_in : GoodIn wsX10_write (va_wsS RX10 165 yX10_in wsX10_in) := goodIn_app (goodIn_mk (chkPl_mem (ps := [6, 7, 8]) (by decide +kernel)) (by decide +kernel)) ggX10_write_X10_in
theorem gX10_judge_X10_in : GoodIn wsX10_judge (va_wsS RX10 165 yX10_in wsX10_in) := goodIn_app (goodIn_mk (chkPl_mem (ps := [8, 9, 10]) (by decide +kernel)) (by decide +kernel)) ggX10_judge_X10_in
theorem gX10_judge_X10_goes : GoodIn wsX10_judge (wsV RX10 363 RX10 yX10_goes wsX10_goes) := goodIn_app (goodIn_mk (chkPl_mem (ps := [12, 13, 14, 10]) (by decide +kernel)) (by decide +kernel)) ggX10_judge_X10_goes
theorem gX10_judge_X10_costOf : GoodIn wsX10_judge (wsV RX10 355 RX10 yX10_costOf wsX10_costOf) := goodIn_app (goodIn_mk (chkPl_mem (ps := [68, 69, 70, 10]) (by decide +kernel)) (by decide +kernel)) ggX10_judge_X10_costOf
theorem gX10_keep_X10_in : GoodIn wsX10_keep (va_wsS RX10 165 yX10_in wsX10_in) := goodIn_app (goodIn_mk (chkPl_mem (ps := [12, 13, 14]) (by decide +kernel)) (by decide +kernel)) ggX10_keep_X10_in
theorem gX10_goBack_X10_in : GoodIn wsX10_goBack (va_wsS RX10 165 yX10_in wsX10_in) := goodIn_app (goodIn_mk (chkPl_mem (ps := [13, 14, 15]) (by decide +kernel)) (by decide +kernel)) ggX10_goBack_X10_in
