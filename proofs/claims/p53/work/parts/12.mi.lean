/-! ===== methods with their room; words ===== -/
abbrev mi_X1_become : MI := (yX1_become, cX1_become, 2, none, 1, 60, 0, 0, [])
abbrev mi_X3_copy : MI := (yX3_copy, cX3_copy, 2, none, 2, 81, 0, 0, [])
abbrev mi_X0_together : MI := (yX0_together, cX0_together, 3, some .int, 0, 0, 0, 0, [])
abbrev mi_X3_cellsOf : MI := (yX3_cellsOf, cX3_cellsOf, 3, some .int, 0, 0, 0, 0, [])
abbrev mi_X0_addToTable : MI := (yX0_addToTable, cX0_addToTable, 7, none, 1, 40, 0, 0, [])
abbrev mi_X0_load : MI := (yX0_load, cX0_load, 5, none, 2, 66, 0, 0, [])
abbrev mi_X0_exists : MI := (yX0_exists, cX0_exists, 2, some .boolean, 0, 0, 0, 0, [])
abbrev mi_X0_isOutIn : MI := (yX0_isOutIn, cX0_isOutIn, 2, some .boolean, 0, 0, 0, 0, [])
abbrev mi_X0_allArrangements : MI := (yX0_allArrangements, cX0_allArrangements, 3, some .int, 1, 21, 0, 0, [])
abbrev mi_X0_behindStep : MI := (yX0_behindStep, cX0_behindStep, 6, some .int, 0, 0, 0, 0, [])
abbrev mi_X0_behindSlide : MI := (yX0_behindSlide, cX0_behindSlide, 7, some .int, 1, 40, 0, 0, [])
abbrev mi_X0_costOf : MI := (yX0_costOf, cX0_costOf, 2, some .int, 1, 21, 0, 0, [])
abbrev mi_X0_forget : MI := (yX0_forget, cX0_forget, 2, none, 0, 0, 0, 0, [])
abbrev mi_X0_find : MI := (yX0_find, cX0_find, 3, none, 0, 0, 0, 0, [])
abbrev mi_X0_spreadAlong : MI := (yX0_spreadAlong, cX0_spreadAlong, 8, none, 1, 25, 0, 0, [])
abbrev mi_X0_spread : MI := (yX0_spread, cX0_spread, 5, none, 2, 52, 0, 0, [])
abbrev mi_X0_spreadFromStart : MI := (yX0_spreadFromStart, cX0_spreadFromStart, 2, none, 3, 76, 0, 0, [])
abbrev mi_X0_leastCostOut : MI := (yX0_leastCostOut, cX0_leastCostOut, 4, some .int, 2, 42, 0, 0, [])
abbrev mi_X0_slidesFromStart : MI := (yX0_slidesFromStart, cX0_slidesFromStart, 1, some .int, 4, 97, 0, 0, [])
abbrev mi_X0_stepsFromStart : MI := (yX0_stepsFromStart, cX0_stepsFromStart, 1, some .int, 4, 97, 0, 0, [])
abbrev mi_X0_slidesFromEnds : MI := (yX0_slidesFromEnds, cX0_slidesFromEnds, 2, some .int, 3, 76, 0, 0, [])
abbrev mi_X0_foundOut : MI := (yX0_foundOut, cX0_foundOut, 3, some .int, 1, 21, 0, 0, [])
abbrev mi_X0_farthestFound : MI := (yX0_farthestFound, cX0_farthestFound, 2, some .int, 2, 42, 0, 0, [])
abbrev mi_X0_findNextSlide : MI := (yX0_findNextSlide, cX0_findNextSlide, 5, some .boolean, 2, 66, 0, 0, [])
abbrev mi_X0_isCheaper : MI := (yX0_isCheaper, cX0_isCheaper, 3, some .boolean, 1, 21, 0, 0, [])
abbrev mi_X0_cheapen : MI := (yX0_cheapen, cX0_cheapen, 4, none, 2, 43, 0, 0, [])
abbrev mi_X0_inBucket : MI := (yX0_inBucket, cX0_inBucket, 5, some .int, 2, 42, 0, 0, [])
abbrev mi_X0_emptyBucket : MI := (yX0_emptyBucket, cX0_emptyBucket, 6, none, 3, 66, 0, 0, [])
abbrev mi_X0_hasOutFor : MI := (yX0_hasOutFor, cX0_hasOutFor, 4, some .boolean, 3, 66, 0, 0, [])
abbrev mi_X0_isAnyFilled : MI := (yX0_isAnyFilled, cX0_isAnyFilled, 1, some .boolean, 0, 0, 0, 0, [])
abbrev mi_X0_fuelByBuckets : MI := (yX0_fuelByBuckets, cX0_fuelByBuckets, 2, some .int, 4, 91, 0, 0, [])
abbrev mi_X0_hasCheapenedAround : MI := (yX0_hasCheapenedAround, cX0_hasCheapenedAround, 7, some .boolean, 2, 43, 0, 0, [])
abbrev mi_X0_fuelByRounds : MI := (yX0_fuelByRounds, cX0_fuelByRounds, 4, some .int, 3, 69, 0, 0, [])
abbrev mi_X1_hasCar : MI := (yX1_hasCar, cX1_hasCar, 2, some .boolean, 0, 0, 0, 0, [])
abbrev mi_X1_hasSlide : MI := (yX1_hasSlide, cX1_hasSlide, 2, some .boolean, 0, 0, 0, 0, [])
abbrev mi_X1_hasWallAt : MI := (yX1_hasWallAt, cX1_hasWallAt, 2, some .boolean, 0, 0, 0, 0, [])
abbrev mi_X1_carAt : MI := (yX1_carAt, cX1_carAt, 3, some .int, 1, 22, 0, 0, [])
abbrev mi_X1_takenCells : MI := (yX1_takenCells, cX1_takenCells, 3, some .int, 1, 22, 0, 0, [])
abbrev mi_X1_isRedOut : MI := (yX1_isRedOut, cX1_isRedOut, 1, some .boolean, 0, 0, 0, 0, [])
abbrev mi_X3_bitOf : MI := (yX3_bitOf, cX3_bitOf, 2, some .int, 0, 0, 0, 0, [])
abbrev mi_X1_roomOf : MI := (yX1_roomOf, cX1_roomOf, 6, some .int, 2, 44, 0, 0, [])
abbrev mi_X1_troubleOfEntering : MI := (yX1_troubleOfEntering, cX1_troubleOfEntering, 6, some .int, 2, 44, 0, 0, [])
abbrev mi_X1_enter : MI := (yX1_enter, cX1_enter, 5, some .int, 0, 0, 0, 0, [])
abbrev mi_X1_leave : MI := (yX1_leave, cX1_leave, 1, some .int, 0, 0, 0, 0, [])
abbrev mi_J6_bitCount_0f7a4 : MI := (yJ6_bitCount_0f7a4, cJ6_bitCount_0f7a4, 1, some .int, 0, 0, 0, 0, [])
abbrev mi_X3_isCell : MI := (yX3_isCell, cX3_isCell, 1, some .boolean, 0, 0, 0, 0, [])
abbrev mi_X1_troubleOfWall : MI := (yX1_troubleOfWall, cX1_troubleOfWall, 3, some .int, 2, 44, 0, 0, [])
abbrev mi_X1_turnWall : MI := (yX1_turnWall, cX1_turnWall, 2, some .boolean, 1, 21, 0, 0, [])
abbrev mi_X1_troubleOfSliding : MI := (yX1_troubleOfSliding, cX1_troubleOfSliding, 4, some .int, 3, 69, 0, 0, [])
abbrev mi_X1_makeSlide : MI := (yX1_makeSlide, cX1_makeSlide, 3, some .int, 1, 21, 0, 0, [])
abbrev mi_X1_unmakeSlide : MI := (yX1_unmakeSlide, cX1_unmakeSlide, 2, some .int, 1, 21, 0, 0, [])
abbrev mi_X1_loggedSteps : MI := (yX1_loggedSteps, cX1_loggedSteps, 4, some .int, 1, 40, 0, 0, [])
abbrev mi_X1_fuelSlideBySlide : MI := (yX1_fuelSlideBySlide, cX1_fuelSlideBySlide, 4, some .int, 1, 40, 0, 0, [])
abbrev mi_X1_fuelCarByCar : MI := (yX1_fuelCarByCar, cX1_fuelCarByCar, 3, some .int, 2, 63, 0, 0, [])
abbrev mi_X2_add : MI := (yX2_add, cX2_add, 2, some .int, 0, 0, 0, 0, [])
abbrev mi_X2_clear : MI := (yX2_clear, cX2_clear, 2, some .int, 0, 0, 0, 0, [])
abbrev mi_X2_codeAt : MI := (yX2_codeAt, cX2_codeAt, 2, some .int, 0, 0, 0, 0, [])
abbrev mi_X2_digitAt : MI := (yX2_digitAt, cX2_digitAt, 2, some .int, 1, 21, 0, 0, [])
abbrev mi_X2_signAt : MI := (yX2_signAt, cX2_signAt, 2, some .int, 1, 21, 0, 0, [])
abbrev mi_X2_isAmong : MI := (yX2_isAmong, cX2_isAmong, 3, some .boolean, 0, 0, 0, 0, [])
abbrev mi_X2_cellAt : MI := (yX2_cellAt, cX2_cellAt, 3, some .int, 2, 42, 0, 0, [])
abbrev mi_X2_nextPart : MI := (yX2_nextPart, cX2_nextPart, 3, some .int, 1, 21, 0, 0, [])
abbrev mi_X2_behindBegin : MI := (yX2_behindBegin, cX2_behindBegin, 1, some .int, 1, 22, 0, 0, [])
abbrev mi_X2_behindEnd : MI := (yX2_behindEnd, cX2_behindEnd, 1, some .int, 0, 0, 0, 0, [])
abbrev mi_X2_behindWall : MI := (yX2_behindWall, cX2_behindWall, 1, some .int, 1, 22, 0, 0, [])
abbrev mi_X2_behind : MI := (yX2_behind, cX2_behind, 2, some .int, 2, 42, 0, 0, [])
abbrev mi_X2_isComplete : MI := (yX2_isComplete, cX2_isComplete, 3, some .boolean, 3, 63, 0, 0, [])
abbrev mi_X3_refuse : MI := (yX3_refuse, cX3_refuse, 1, none, 6, 90, 1, 6, [])
abbrev mi_X3_dropOldestSaved : MI := (yX3_dropOldestSaved, cX3_dropOldestSaved, 3, none, 0, 0, 0, 0, [])
abbrev mi_X3_save : MI := (yX3_save, cX3_save, 1, none, 3, 102, 0, 0, [])
abbrev mi_X3_addCar : MI := (yX3_addCar, cX3_addCar, 4, some .int, 7, 122, 1, 6, [])
abbrev mi_X3_dropLast : MI := (yX3_dropLast, cX3_dropLast, 1, some .int, 6, 122, 1, 6, [])
abbrev mi_X3_toggleWall : MI := (yX3_toggleWall, cX3_toggleWall, 2, some .boolean, 7, 122, 1, 6, [])
abbrev mi_X3_slide : MI := (yX3_slide, cX3_slide, 3, some .int, 7, 122, 2, 12, [])
abbrev mi_X3_takeBack : MI := (yX3_takeBack, cX3_takeBack, 1, some .int, 6, 122, 1, 6, [])
abbrev mi_X3_rewind : MI := (yX3_rewind, cX3_rewind, 2, some .int, 4, 122, 0, 0, [])
abbrev mi_X3_makePlan : MI := (yX3_makePlan, cX3_makePlan, 6, some .boolean, 3, 90, 0, 0, [])
abbrev mi_X3_exploreNow : MI := (yX3_exploreNow, cX3_exploreNow, 1, none, 3, 90, 0, 0, [])
abbrev mi_X3_slidesToDriveOut : MI := (yX3_slidesToDriveOut, cX3_slidesToDriveOut, 2, some .int, 4, 110, 0, 0, [])
abbrev mi_X3_driveOut : MI := (yX3_driveOut, cX3_driveOut, 2, some .int, 6, 131, 1, 6, [])
abbrev mi_X3_append : MI := (yX3_append, cX3_append, 2, some .int, 6, 90, 1, 6, [])
abbrev mi_X3_tryEntering : MI := (yX3_tryEntering, cX3_tryEntering, 5, some .boolean, 3, 69, 0, 0, [])
abbrev mi_X3_trySliding : MI := (yX3_trySliding, cX3_trySliding, 4, some .boolean, 4, 92, 0, 0, [])
abbrev mi_X3_tryTakingBack : MI := (yX3_tryTakingBack, cX3_tryTakingBack, 2, some .boolean, 2, 42, 0, 0, [])
abbrev mi_X3_tryWall : MI := (yX3_tryWall, cX3_tryWall, 3, some .boolean, 3, 66, 0, 0, [])
abbrev mi_X3_tryPart : MI := (yX3_tryPart, cX3_tryPart, 2, some .boolean, 5, 131, 0, 0, [])
abbrev mi_X3_work : MI := (yX3_work, cX3_work, 5, some .int, 6, 152, 1, 6, [])
abbrev mi_X3_stoppedPart : MI := (yX3_stoppedPart, cX3_stoppedPart, 1, some .int, 6, 90, 1, 6, [])
abbrev mi_X3_undo : MI := (yX3_undo, cX3_undo, 1, some .int, 6, 102, 1, 6, [])
abbrev mi_X3_undo_n : MI := (yX3_undo, cX3_undo, 1, some .int, 3, 102, 0, 0, [])
abbrev mi_X3_keep : MI := (yX3_keep, cX3_keep, 1, some .int, 3, 102, 0, 0, [])
abbrev mi_X3_restore : MI := (yX3_restore, cX3_restore, 1, some .int, 6, 122, 1, 6, [])
abbrev mi_X3_savedStates : MI := (yX3_savedStates, cX3_savedStates, 1, some .int, 0, 0, 0, 0, [])
abbrev mi_X3_cars : MI := (yX3_cars, cX3_cars, 1, some .int, 0, 0, 0, 0, [])
abbrev mi_X3_walls : MI := (yX3_walls, cX3_walls, 1, some .int, 1, 20, 0, 0, [])
abbrev mi_X3_laneOf : MI := (yX3_laneOf, cX3_laneOf, 2, some .int, 6, 90, 1, 6, [])
abbrev mi_X3_laneOf_n : MI := (yX3_laneOf, cX3_laneOf, 2, some .int, 1, 21, 0, 0, [])
abbrev mi_X3_placeOf : MI := (yX3_placeOf, cX3_placeOf, 2, some .int, 6, 90, 1, 6, [])
abbrev mi_X3_placeOf_n : MI := (yX3_placeOf, cX3_placeOf, 2, some .int, 1, 21, 0, 0, [])
abbrev mi_X3_lengthOf : MI := (yX3_lengthOf, cX3_lengthOf, 2, some .int, 6, 90, 1, 6, [])
abbrev mi_X3_lengthOf_n : MI := (yX3_lengthOf, cX3_lengthOf, 2, some .int, 1, 21, 0, 0, [])
abbrev mi_X3_carOn : MI := (yX3_carOn, cX3_carOn, 2, some .int, 6, 90, 1, 6, [])
abbrev mi_X3_carOn_n : MI := (yX3_carOn, cX3_carOn, 2, some .int, 2, 44, 0, 0, [])
abbrev mi_X3_isWall : MI := (yX3_isWall, cX3_isWall, 2, some .boolean, 6, 90, 1, 6, [])
abbrev mi_X3_isWall_n : MI := (yX3_isWall, cX3_isWall, 2, some .boolean, 1, 21, 0, 0, [])
abbrev mi_X3_freeCells : MI := (yX3_freeCells, cX3_freeCells, 1, some .int, 2, 44, 0, 0, [])
abbrev mi_X3_isOut : MI := (yX3_isOut, cX3_isOut, 1, some .boolean, 1, 20, 0, 0, [])
abbrev mi_X3_room : MI := (yX3_room, cX3_room, 3, some .int, 6, 90, 1, 6, [])
abbrev mi_X3_room_n : MI := (yX3_room, cX3_room, 3, some .int, 3, 69, 0, 0, [])
abbrev mi_X3_possibleSlides : MI := (yX3_possibleSlides, cX3_possibleSlides, 3, some .int, 3, 69, 0, 0, [])
abbrev mi_X3_logged : MI := (yX3_logged, cX3_logged, 1, some .int, 0, 0, 0, 0, [])
abbrev mi_X3_carOfSlide : MI := (yX3_carOfSlide, cX3_carOfSlide, 2, some .int, 6, 90, 1, 6, [])
abbrev mi_X3_carOfSlide_n : MI := (yX3_carOfSlide, cX3_carOfSlide, 2, some .int, 1, 21, 0, 0, [])
abbrev mi_X3_changeBySlide : MI := (yX3_changeBySlide, cX3_changeBySlide, 2, some .int, 6, 90, 1, 6, [])
abbrev mi_X3_changeBySlide_n : MI := (yX3_changeBySlide, cX3_changeBySlide, 2, some .int, 1, 21, 0, 0, [])
abbrev mi_X3_stepsOf : MI := (yX3_stepsOf, cX3_stepsOf, 2, some .int, 6, 90, 1, 6, [])
abbrev mi_X3_stepsOf_n : MI := (yX3_stepsOf, cX3_stepsOf, 2, some .int, 2, 63, 0, 0, [])
abbrev mi_X3_fuel : MI := (yX3_fuel, cX3_fuel, 1, some .int, 2, 63, 0, 0, [])
abbrev mi_X3_fuelByCars : MI := (yX3_fuelByCars, cX3_fuelByCars, 1, some .int, 3, 85, 0, 0, [])
abbrev mi_X3_fewestSlides : MI := (yX3_fewestSlides, cX3_fewestSlides, 1, some .int, 5, 117, 0, 0, [])
abbrev mi_X3_fewestSlidesFromEnds : MI := (yX3_fewestSlidesFromEnds, cX3_fewestSlidesFromEnds, 1, some .int, 4, 110, 0, 0, [])
abbrev mi_X3_fewestSteps : MI := (yX3_fewestSteps, cX3_fewestSteps, 1, some .int, 5, 117, 0, 0, [])
abbrev mi_X3_leastFuel : MI := (yX3_leastFuel, cX3_leastFuel, 1, some .int, 5, 112, 0, 0, [])
abbrev mi_X3_leastFuelByRounds : MI := (yX3_leastFuelByRounds, cX3_leastFuelByRounds, 1, some .int, 4, 110, 0, 0, [])
abbrev mi_X3_hasNextSlide : MI := (yX3_hasNextSlide, cX3_hasNextSlide, 1, some .boolean, 4, 110, 0, 0, [])
abbrev mi_X3_nextCar : MI := (yX3_nextCar, cX3_nextCar, 1, some .int, 6, 130, 1, 6, [])
abbrev mi_X3_nextChange : MI := (yX3_nextChange, cX3_nextChange, 1, some .int, 6, 130, 1, 6, [])
abbrev mi_X3_reachable : MI := (yX3_reachable, cX3_reachable, 1, some .int, 4, 110, 0, 0, [])
abbrev mi_X3_reachableOut : MI := (yX3_reachableOut, cX3_reachableOut, 1, some .int, 4, 110, 0, 0, [])
abbrev mi_X3_farthest : MI := (yX3_farthest, cX3_farthest, 1, some .int, 4, 110, 0, 0, [])
abbrev mi_X3_arrangements : MI := (yX3_arrangements, cX3_arrangements, 1, some .int, 4, 110, 0, 0, [])
abbrev mi_X3_fewestBehind : MI := (yX3_fewestBehind, cX3_fewestBehind, 3, some .int, 7, 117, 1, 6, [])
abbrev mi_X3_fewestWithoutLast : MI := (yX3_fewestWithoutLast, cX3_fewestWithoutLast, 1, some .int, 6, 117, 1, 6, [])
abbrev mi_X3_fewestWithWall : MI := (yX3_fewestWithWall, cX3_fewestWithWall, 2, some .int, 6, 117, 1, 6, [])
abbrev mi_X3_bitsOf : MI := (yX3_bitsOf, cX3_bitsOf, 8, some .long, 0, 0, 0, 0, [])
abbrev mi_X3_mix : MI := (yX3_mix, cX3_mix, 4, some .long, 0, 0, 0, 0, [])
abbrev mi_X3_hashOfArrangements : MI := (yX3_hashOfArrangements, cX3_hashOfArrangements, 5, some .long, 3, 63, 0, 0, [])
abbrev mi_X3_hashOfCars : MI := (yX3_hashOfCars, cX3_hashOfCars, 6, some .long, 3, 69, 0, 0, [])
abbrev mi_X3_hashOfCells : MI := (yX3_hashOfCells, cX3_hashOfCells, 6, some .long, 2, 44, 0, 0, [])
abbrev mi_X3_hashOfLog : MI := (yX3_hashOfLog, cX3_hashOfLog, 6, some .long, 1, 23, 0, 0, [])
abbrev mi_X3_hashOfPark : MI := (yX3_hashOfPark, cX3_hashOfPark, 5, some .long, 4, 91, 0, 0, [])
abbrev mi_X3_hashOfPlans : MI := (yX3_hashOfPlans, cX3_hashOfPlans, 5, some .long, 5, 117, 0, 0, [])
abbrev mi_X3_hashOfText : MI := (yX3_hashOfText, cX3_hashOfText, 6, some .long, 1, 23, 0, 0, [])
abbrev mi_X3_share : MI := (yX3_share, cX3_share, 2, some .double, 0, 0, 0, 0, [])
abbrev mi_X3_digest : MI := (yX3_digest, cX3_digest, 3, some .long, 6, 141, 0, 0, [])
theorem w_0 : Cond.selects RX3 yX3_hashOfPark yX3_hashOfPark ∈ SWL := SWL_mem 0 (by decide +kernel) rfl
theorem w_1 : Cond.selects RX3 yX3_exploreNow yX3_exploreNow ∈ SWL := SWL_mem 1 (by decide +kernel) rfl
theorem w_2 : Cond.selects RX3 yX3_hashOfPlans yX3_hashOfPlans ∈ SWL := SWL_mem 2 (by decide +kernel) rfl
theorem w_3 : Cond.selects RX3 yX3_hashOfArrangements yX3_hashOfArrangements ∈ SWL := SWL_mem 3 (by decide +kernel) rfl
theorem w_4 : Cond.selects RX3 yX3_hashOfCells yX3_hashOfCells ∈ SWL := SWL_mem 4 (by decide +kernel) rfl
theorem w_5 : Cond.selects RX3 yX3_hashOfCars yX3_hashOfCars ∈ SWL := SWL_mem 5 (by decide +kernel) rfl
theorem w_6 : Cond.selects RX3 yX3_hashOfLog yX3_hashOfLog ∈ SWL := SWL_mem 6 (by decide +kernel) rfl
theorem w_7 : Cond.selects RX3 yX3_hashOfText yX3_hashOfText ∈ SWL := SWL_mem 7 (by decide +kernel) rfl
theorem w_9 : Cond.selects RX3 yX3_save yX3_save ∈ SWL := SWL_mem 9 (by decide +kernel) rfl
theorem w_10 : Cond.selects RX3 yX3_dropOldestSaved yX3_dropOldestSaved ∈ SWL := SWL_mem 10 (by decide +kernel) rfl
theorem w_11 : Cond.selects RX3 yX3_slidesToDriveOut yX3_slidesToDriveOut ∈ SWL := SWL_mem 11 (by decide +kernel) rfl
theorem w_12 : Cond.selects RX3 yX3_makePlan yX3_makePlan ∈ SWL := SWL_mem 12 (by decide +kernel) rfl
theorem w_13 : Cond.selects RX3 yX3_tryPart yX3_tryPart ∈ SWL := SWL_mem 13 (by decide +kernel) rfl
theorem w_14 : Cond.selects RX3 yX3_tryEntering yX3_tryEntering ∈ SWL := SWL_mem 14 (by decide +kernel) rfl
theorem w_15 : Cond.selects RX3 yX3_tryWall yX3_tryWall ∈ SWL := SWL_mem 15 (by decide +kernel) rfl
theorem w_16 : Cond.selects RX3 yX3_tryTakingBack yX3_tryTakingBack ∈ SWL := SWL_mem 16 (by decide +kernel) rfl
theorem w_17 : Cond.selects RX3 yX3_trySliding yX3_trySliding ∈ SWL := SWL_mem 17 (by decide +kernel) rfl
theorem w_18 : Cond.selects RX3 yX3_hasNextSlide yX3_hasNextSlide ∈ SWL := SWL_mem 18 (by decide +kernel) rfl
theorem w_20 : Cond.initialized "CarTangos" ∈ SWL := SWL_mem 20 (by decide +kernel) rfl
theorem w_21 : Cond.initialized "CarTangos$Park" ∈ SWL := SWL_mem 21 (by decide +kernel) rfl
theorem w_22 : Cond.initialized "CarTangos$Explorer" ∈ SWL := SWL_mem 22 (by decide +kernel) rfl
theorem w_23 : Cond.initialized "CarTangos$WorksText" ∈ SWL := SWL_mem 23 (by decide +kernel) rfl
theorem w_27 : Cond.initialized "java/lang/IndexOutOfBoundsException" ∈ SWL := SWL_mem 27 (by decide +kernel) rfl
theorem w_28 : Cond.initialized "java/lang/IllegalArgumentException" ∈ SWL := SWL_mem 28 (by decide +kernel) rfl
theorem w_29 : Cond.initialized "java/lang/IllegalStateException" ∈ SWL := SWL_mem 29 (by decide +kernel) rfl
theorem w_31 : Cond.initialized "java/lang/Math" ∈ SWL := SWL_mem 31 (by decide +kernel) rfl
theorem w_32 : Cond.initialized "java/lang/Integer" ∈ SWL := SWL_mem 32 (by decide +kernel) rfl
theorem w_47 : Cond.fieldLink RX1 9 "CarTangos$Park" "lanes" "[I" ∈ SWL := SWL_mem 47 (by decide +kernel) rfl
theorem w_48 : Cond.fieldLink RX0 55 "CarTangos$Park" "lanes" "[I" ∈ SWL := SWL_mem 48 (by decide +kernel) rfl
theorem w_49 : Cond.fieldLink RX3 169 "CarTangos$Park" "lanes" "[I" ∈ SWL := SWL_mem 49 (by decide +kernel) rfl
theorem w_50 : Cond.fieldLink RX1 15 "CarTangos$Park" "places" "[I" ∈ SWL := SWL_mem 50 (by decide +kernel) rfl
theorem w_51 : Cond.fieldLink RX0 52 "CarTangos$Park" "places" "[I" ∈ SWL := SWL_mem 51 (by decide +kernel) rfl
theorem w_52 : Cond.fieldLink RX3 173 "CarTangos$Park" "places" "[I" ∈ SWL := SWL_mem 52 (by decide +kernel) rfl
theorem w_53 : Cond.fieldLink RX1 18 "CarTangos$Park" "lengths" "[I" ∈ SWL := SWL_mem 53 (by decide +kernel) rfl
theorem w_54 : Cond.fieldLink RX0 49 "CarTangos$Park" "lengths" "[I" ∈ SWL := SWL_mem 54 (by decide +kernel) rfl
theorem w_55 : Cond.fieldLink RX3 176 "CarTangos$Park" "lengths" "[I" ∈ SWL := SWL_mem 55 (by decide +kernel) rfl
theorem w_56 : Cond.fieldLink RX1 21 "CarTangos$Park" "loggedCars" "[I" ∈ SWL := SWL_mem 56 (by decide +kernel) rfl
theorem w_57 : Cond.fieldLink RX3 204 "CarTangos$Park" "loggedCars" "[I" ∈ SWL := SWL_mem 57 (by decide +kernel) rfl
theorem w_58 : Cond.fieldLink RX1 24 "CarTangos$Park" "loggedChanges" "[I" ∈ SWL := SWL_mem 58 (by decide +kernel) rfl
theorem w_59 : Cond.fieldLink RX3 207 "CarTangos$Park" "loggedChanges" "[I" ∈ SWL := SWL_mem 59 (by decide +kernel) rfl
theorem w_60 : Cond.fieldLink RX1 33 "CarTangos$Park" "cars" "I" ∈ SWL := SWL_mem 60 (by decide +kernel) rfl
theorem w_61 : Cond.fieldLink RX3 59 "CarTangos$Park" "cars" "I" ∈ SWL := SWL_mem 61 (by decide +kernel) rfl
theorem w_62 : Cond.fieldLink RX1 37 "CarTangos$Park" "walls" "I" ∈ SWL := SWL_mem 62 (by decide +kernel) rfl
theorem w_63 : Cond.fieldLink RX3 153 "CarTangos$Park" "walls" "I" ∈ SWL := SWL_mem 63 (by decide +kernel) rfl
theorem w_64 : Cond.fieldLink RX1 40 "CarTangos$Park" "logged" "I" ∈ SWL := SWL_mem 64 (by decide +kernel) rfl
theorem w_65 : Cond.fieldLink RX3 85 "CarTangos$Park" "logged" "I" ∈ SWL := SWL_mem 65 (by decide +kernel) rfl
theorem w_67 : Cond.fieldLink RX3 137 "CarTangos$Park" "hasStop" "Z" ∈ SWL := SWL_mem 67 (by decide +kernel) rfl
theorem w_69 : Cond.fieldLink RX3 140 "CarTangos$Park" "stop" "I" ∈ SWL := SWL_mem 69 (by decide +kernel) rfl
theorem w_99 : Cond.fieldLink RX0 11 "CarTangos$Explorer" "lengths" "[I" ∈ SWL := SWL_mem 99 (by decide +kernel) rfl
theorem w_100 : Cond.fieldLink RX0 15 "CarTangos$Explorer" "taken" "[I" ∈ SWL := SWL_mem 100 (by decide +kernel) rfl
theorem w_101 : Cond.fieldLink RX0 18 "CarTangos$Explorer" "costs" "[I" ∈ SWL := SWL_mem 101 (by decide +kernel) rfl
theorem w_102 : Cond.fieldLink RX0 21 "CarTangos$Explorer" "found" "[I" ∈ SWL := SWL_mem 102 (by decide +kernel) rfl
theorem w_103 : Cond.fieldLink RX0 24 "CarTangos$Explorer" "buckets" "[I" ∈ SWL := SWL_mem 103 (by decide +kernel) rfl
theorem w_104 : Cond.fieldLink RX0 27 "CarTangos$Explorer" "filled" "[I" ∈ SWL := SWL_mem 104 (by decide +kernel) rfl
theorem w_105 : Cond.fieldLink RX0 39 "CarTangos$Explorer" "cars" "I" ∈ SWL := SWL_mem 105 (by decide +kernel) rfl
theorem w_106 : Cond.fieldLink RX0 43 "CarTangos$Explorer" "size" "I" ∈ SWL := SWL_mem 106 (by decide +kernel) rfl
theorem w_107 : Cond.fieldLink RX0 46 "CarTangos$Explorer" "start" "I" ∈ SWL := SWL_mem 107 (by decide +kernel) rfl
theorem w_108 : Cond.fieldLink RX3 263 "CarTangos$Explorer" "start" "I" ∈ SWL := SWL_mem 108 (by decide +kernel) rfl
theorem w_109 : Cond.fieldLink RX0 80 "CarTangos$Explorer" "foundCount" "I" ∈ SWL := SWL_mem 109 (by decide +kernel) rfl
theorem w_110 : Cond.fieldLink RX3 251 "CarTangos$Explorer" "foundCount" "I" ∈ SWL := SWL_mem 110 (by decide +kernel) rfl
theorem w_111 : Cond.fieldLink RX0 113 "CarTangos$Explorer" "nextCarOfPlan" "I" ∈ SWL := SWL_mem 111 (by decide +kernel) rfl
theorem w_112 : Cond.fieldLink RX3 242 "CarTangos$Explorer" "nextCarOfPlan" "I" ∈ SWL := SWL_mem 112 (by decide +kernel) rfl
theorem w_113 : Cond.fieldLink RX0 116 "CarTangos$Explorer" "nextChangeOfPlan" "I" ∈ SWL := SWL_mem 113 (by decide +kernel) rfl
theorem w_114 : Cond.fieldLink RX3 245 "CarTangos$Explorer" "nextChangeOfPlan" "I" ∈ SWL := SWL_mem 114 (by decide +kernel) rfl
theorem w_146 : Cond.fieldLink RX2 9 "CarTangos$WorksText" "codes" "[I" ∈ SWL := SWL_mem 146 (by decide +kernel) rfl
theorem w_147 : Cond.fieldLink RX2 15 "CarTangos$WorksText" "length" "I" ∈ SWL := SWL_mem 147 (by decide +kernel) rfl
theorem w_148 : Cond.fieldLink RX3 111 "CarTangos$WorksText" "length" "I" ∈ SWL := SWL_mem 148 (by decide +kernel) rfl
theorem w_154 : Cond.fieldLink RX3 10 "CarTangos" "now" "LCarTangos$Park;" ∈ SWL := SWL_mem 154 (by decide +kernel) rfl
theorem w_155 : Cond.fieldLink RX3 16 "CarTangos" "kept" "LCarTangos$Park;" ∈ SWL := SWL_mem 155 (by decide +kernel) rfl
theorem w_156 : Cond.fieldLink RX3 19 "CarTangos" "saved" "[LCarTangos$Park;" ∈ SWL := SWL_mem 156 (by decide +kernel) rfl
theorem w_157 : Cond.fieldLink RX3 26 "CarTangos" "explorer" "LCarTangos$Explorer;" ∈ SWL := SWL_mem 157 (by decide +kernel) rfl
theorem w_158 : Cond.fieldLink RX3 33 "CarTangos" "text" "LCarTangos$WorksText;" ∈ SWL := SWL_mem 158 (by decide +kernel) rfl
theorem w_159 : Cond.fieldLink RX3 37 "CarTangos" "savedCount" "I" ∈ SWL := SWL_mem 159 (by decide +kernel) rfl
theorem w_160 : Cond.fieldLink RX3 41 "CarTangos" "hasKept" "Z" ∈ SWL := SWL_mem 160 (by decide +kernel) rfl
theorem w_177 : Cond.instanceMethod yX3_digest ∈ SWL := SWL_mem 177 (by decide +kernel) rfl
theorem w_178 : Cond.selects RX3 yX3_digest yX3_digest ∈ SWL := SWL_mem 178 (by decide +kernel) rfl
theorem w_179 : Cond.code yX3_digest cX3_digest 3 (some .long) ∈ SWL := SWL_mem 179 (by decide +kernel) rfl
theorem w_180 : Cond.constantLong RX3 281 (4507 : Int64) ∈ SWL := SWL_mem 180 (by decide +kernel) rfl
theorem w_181 : Cond.methodLink RX3 283 yX3_hashOfPark ∈ SWL := SWL_mem 181 (by decide +kernel) rfl
theorem w_183 : Cond.instanceMethod yX3_hashOfPark ∈ SWL := SWL_mem 183 (by decide +kernel) rfl
theorem w_184 : Cond.code yX3_hashOfPark cX3_hashOfPark 5 (some .long) ∈ SWL := SWL_mem 184 (by decide +kernel) rfl
theorem w_185 : Cond.methodLink RX3 293 yX3_mix ∈ SWL := SWL_mem 185 (by decide +kernel) rfl
theorem w_186 : Cond.static yX3_mix ∈ SWL := SWL_mem 186 (by decide +kernel) rfl
theorem w_187 : Cond.code yX3_mix cX3_mix 4 (some .long) ∈ SWL := SWL_mem 187 (by decide +kernel) rfl
theorem w_188 : Cond.constantLong RX3 356 (31 : Int64) ∈ SWL := SWL_mem 188 (by decide +kernel) rfl
theorem w_189 : Cond.methodLink RX3 364 yX3_walls ∈ SWL := SWL_mem 189 (by decide +kernel) rfl
theorem w_190 : Cond.instanceMethod yX3_walls ∈ SWL := SWL_mem 190 (by decide +kernel) rfl
theorem w_191 : Cond.selects RX3 yX3_walls yX3_walls ∈ SWL := SWL_mem 191 (by decide +kernel) rfl
theorem w_192 : Cond.code yX3_walls cX3_walls 1 (some .int) ∈ SWL := SWL_mem 192 (by decide +kernel) rfl
theorem w_193 : Cond.methodLink RX3 156 yJ6_bitCount_0f7a4 ∈ SWL := SWL_mem 193 (by decide +kernel) rfl
theorem w_194 : Cond.static yJ6_bitCount_0f7a4 ∈ SWL := SWL_mem 194 (by decide +kernel) rfl
theorem w_195 : Cond.code yJ6_bitCount_0f7a4 cJ6_bitCount_0f7a4 1 (some .int) ∈ SWL := SWL_mem 195 (by decide +kernel) rfl
theorem w_196 : Cond.constant RJ6 265 (1431655765 : Int32) ∈ SWL := SWL_mem 196 (by decide +kernel) rfl
theorem w_197 : Cond.constant RJ6 266 (858993459 : Int32) ∈ SWL := SWL_mem 197 (by decide +kernel) rfl
theorem w_198 : Cond.constant RJ6 267 (252645135 : Int32) ∈ SWL := SWL_mem 198 (by decide +kernel) rfl
theorem w_199 : Cond.methodLink RX3 366 yX3_freeCells ∈ SWL := SWL_mem 199 (by decide +kernel) rfl
theorem w_200 : Cond.instanceMethod yX3_freeCells ∈ SWL := SWL_mem 200 (by decide +kernel) rfl
theorem w_201 : Cond.selects RX3 yX3_freeCells yX3_freeCells ∈ SWL := SWL_mem 201 (by decide +kernel) rfl
theorem w_202 : Cond.code yX3_freeCells cX3_freeCells 1 (some .int) ∈ SWL := SWL_mem 202 (by decide +kernel) rfl
theorem w_203 : Cond.methodLink RX3 190 yX1_takenCells ∈ SWL := SWL_mem 203 (by decide +kernel) rfl
theorem w_204 : Cond.instanceMethod yX1_takenCells ∈ SWL := SWL_mem 204 (by decide +kernel) rfl
theorem w_205 : Cond.selects RX1 yX1_takenCells yX1_takenCells ∈ SWL := SWL_mem 205 (by decide +kernel) rfl
theorem w_206 : Cond.code yX1_takenCells cX1_takenCells 3 (some .int) ∈ SWL := SWL_mem 206 (by decide +kernel) rfl
theorem w_207 : Cond.methodLinkNest RX1 50 yX3_cellsOf "CarTangos" ∈ SWL := SWL_mem 207 (by decide +kernel) rfl
theorem w_208 : Cond.static yX3_cellsOf ∈ SWL := SWL_mem 208 (by decide +kernel) rfl
theorem w_209 : Cond.code yX3_cellsOf cX3_cellsOf 3 (some .int) ∈ SWL := SWL_mem 209 (by decide +kernel) rfl
theorem w_210 : Cond.constant RX3 355 (1082401 : Int32) ∈ SWL := SWL_mem 210 (by decide +kernel) rfl
theorem w_211 : Cond.methodLink RX3 369 yX3_isOut ∈ SWL := SWL_mem 211 (by decide +kernel) rfl
theorem w_212 : Cond.instanceMethod yX3_isOut ∈ SWL := SWL_mem 212 (by decide +kernel) rfl
theorem w_213 : Cond.selects RX3 yX3_isOut yX3_isOut ∈ SWL := SWL_mem 213 (by decide +kernel) rfl
theorem w_214 : Cond.code yX3_isOut cX3_isOut 1 (some .boolean) ∈ SWL := SWL_mem 214 (by decide +kernel) rfl
theorem w_215 : Cond.methodLink RX3 193 yX1_isRedOut ∈ SWL := SWL_mem 215 (by decide +kernel) rfl
theorem w_216 : Cond.instanceMethod yX1_isRedOut ∈ SWL := SWL_mem 216 (by decide +kernel) rfl
theorem w_217 : Cond.selects RX1 yX1_isRedOut yX1_isRedOut ∈ SWL := SWL_mem 217 (by decide +kernel) rfl
theorem w_218 : Cond.code yX1_isRedOut cX1_isRedOut 1 (some .boolean) ∈ SWL := SWL_mem 218 (by decide +kernel) rfl
theorem w_219 : Cond.methodLink RX3 372 yX3_possibleSlides ∈ SWL := SWL_mem 219 (by decide +kernel) rfl
theorem w_220 : Cond.instanceMethod yX3_possibleSlides ∈ SWL := SWL_mem 220 (by decide +kernel) rfl
theorem w_221 : Cond.selects RX3 yX3_possibleSlides yX3_possibleSlides ∈ SWL := SWL_mem 221 (by decide +kernel) rfl
theorem w_222 : Cond.code yX3_possibleSlides cX3_possibleSlides 3 (some .int) ∈ SWL := SWL_mem 222 (by decide +kernel) rfl
theorem w_223 : Cond.methodLink RX3 196 yX1_roomOf ∈ SWL := SWL_mem 223 (by decide +kernel) rfl
theorem w_224 : Cond.instanceMethod yX1_roomOf ∈ SWL := SWL_mem 224 (by decide +kernel) rfl
theorem w_225 : Cond.selects RX1 yX1_roomOf yX1_roomOf ∈ SWL := SWL_mem 225 (by decide +kernel) rfl
theorem w_226 : Cond.code yX1_roomOf cX1_roomOf 6 (some .int) ∈ SWL := SWL_mem 226 (by decide +kernel) rfl
theorem w_227 : Cond.methodLink RX1 54 yX1_hasCar ∈ SWL := SWL_mem 227 (by decide +kernel) rfl
theorem w_228 : Cond.instanceMethod yX1_hasCar ∈ SWL := SWL_mem 228 (by decide +kernel) rfl
theorem w_229 : Cond.selects RX1 yX1_hasCar yX1_hasCar ∈ SWL := SWL_mem 229 (by decide +kernel) rfl
theorem w_230 : Cond.code yX1_hasCar cX1_hasCar 2 (some .boolean) ∈ SWL := SWL_mem 230 (by decide +kernel) rfl
theorem w_231 : Cond.methodLink RX1 58 yX1_takenCells ∈ SWL := SWL_mem 231 (by decide +kernel) rfl
theorem w_232 : Cond.methodLinkNest RX1 62 yX3_bitOf "CarTangos" ∈ SWL := SWL_mem 232 (by decide +kernel) rfl
theorem w_233 : Cond.static yX3_bitOf ∈ SWL := SWL_mem 233 (by decide +kernel) rfl
theorem w_234 : Cond.code yX3_bitOf cX3_bitOf 2 (some .int) ∈ SWL := SWL_mem 234 (by decide +kernel) rfl
theorem w_235 : Cond.methodLink RX3 213 yX1_fuelSlideBySlide ∈ SWL := SWL_mem 235 (by decide +kernel) rfl
theorem w_236 : Cond.instanceMethod yX1_fuelSlideBySlide ∈ SWL := SWL_mem 236 (by decide +kernel) rfl
theorem w_237 : Cond.selects RX1 yX1_fuelSlideBySlide yX1_fuelSlideBySlide ∈ SWL := SWL_mem 237 (by decide +kernel) rfl
theorem w_238 : Cond.code yX1_fuelSlideBySlide cX1_fuelSlideBySlide 4 (some .int) ∈ SWL := SWL_mem 238 (by decide +kernel) rfl
theorem w_239 : Cond.methodLink RX1 84 yJ9_abs_0f7a4 ∈ SWL := SWL_mem 239 (by decide +kernel) rfl
theorem w_240 : Cond.static yJ9_abs_0f7a4 ∈ SWL := SWL_mem 240 (by decide +kernel) rfl
theorem w_241 : Cond.code yJ9_abs_0f7a4 cJ9_abs_0f7a4 1 (some .int) ∈ SWL := SWL_mem 241 (by decide +kernel) rfl
theorem w_242 : Cond.methodLink RX3 216 yX1_fuelCarByCar ∈ SWL := SWL_mem 242 (by decide +kernel) rfl
theorem w_243 : Cond.instanceMethod yX1_fuelCarByCar ∈ SWL := SWL_mem 243 (by decide +kernel) rfl
theorem w_244 : Cond.selects RX1 yX1_fuelCarByCar yX1_fuelCarByCar ∈ SWL := SWL_mem 244 (by decide +kernel) rfl
theorem w_245 : Cond.code yX1_fuelCarByCar cX1_fuelCarByCar 3 (some .int) ∈ SWL := SWL_mem 245 (by decide +kernel) rfl
theorem w_246 : Cond.methodLink RX1 92 yX1_loggedSteps ∈ SWL := SWL_mem 246 (by decide +kernel) rfl
theorem w_247 : Cond.instanceMethod yX1_loggedSteps ∈ SWL := SWL_mem 247 (by decide +kernel) rfl
theorem w_248 : Cond.selects RX1 yX1_loggedSteps yX1_loggedSteps ∈ SWL := SWL_mem 248 (by decide +kernel) rfl
theorem w_249 : Cond.code yX1_loggedSteps cX1_loggedSteps 4 (some .int) ∈ SWL := SWL_mem 249 (by decide +kernel) rfl
theorem w_250 : Cond.methodLink RX3 219 yX3_exploreNow ∈ SWL := SWL_mem 250 (by decide +kernel) rfl
theorem w_252 : Cond.instanceMethod yX3_exploreNow ∈ SWL := SWL_mem 252 (by decide +kernel) rfl
theorem w_253 : Cond.code yX3_exploreNow cX3_exploreNow 1 (none) ∈ SWL := SWL_mem 253 (by decide +kernel) rfl
theorem w_254 : Cond.methodLink RX3 271 yX0_load ∈ SWL := SWL_mem 254 (by decide +kernel) rfl
theorem w_255 : Cond.instanceMethod yX0_load ∈ SWL := SWL_mem 255 (by decide +kernel) rfl
theorem w_256 : Cond.selects RX0 yX0_load yX0_load ∈ SWL := SWL_mem 256 (by decide +kernel) rfl
theorem w_257 : Cond.code yX0_load cX0_load 5 (none) ∈ SWL := SWL_mem 257 (by decide +kernel) rfl
theorem w_258 : Cond.methodLink RX0 30 yJ9_min_7cf53 ∈ SWL := SWL_mem 258 (by decide +kernel) rfl
theorem w_259 : Cond.static yJ9_min_7cf53 ∈ SWL := SWL_mem 259 (by decide +kernel) rfl
theorem w_260 : Cond.code yJ9_min_7cf53 cJ9_min_7cf53 2 (some .int) ∈ SWL := SWL_mem 260 (by decide +kernel) rfl
theorem w_261 : Cond.methodLink RX0 36 yJ9_max_7cf53 ∈ SWL := SWL_mem 261 (by decide +kernel) rfl
theorem w_262 : Cond.static yJ9_max_7cf53 ∈ SWL := SWL_mem 262 (by decide +kernel) rfl
theorem w_263 : Cond.code yJ9_max_7cf53 cJ9_max_7cf53 2 (some .int) ∈ SWL := SWL_mem 263 (by decide +kernel) rfl
theorem w_264 : Cond.methodLink RX0 58 yX0_addToTable ∈ SWL := SWL_mem 264 (by decide +kernel) rfl
theorem w_265 : Cond.instanceMethod yX0_addToTable ∈ SWL := SWL_mem 265 (by decide +kernel) rfl
theorem w_266 : Cond.selects RX0 yX0_addToTable yX0_addToTable ∈ SWL := SWL_mem 266 (by decide +kernel) rfl
theorem w_267 : Cond.code yX0_addToTable cX0_addToTable 7 (none) ∈ SWL := SWL_mem 267 (by decide +kernel) rfl
theorem w_268 : Cond.methodLinkNest RX0 62 yX3_cellsOf "CarTangos" ∈ SWL := SWL_mem 268 (by decide +kernel) rfl
theorem w_269 : Cond.methodLink RX0 66 yX0_together ∈ SWL := SWL_mem 269 (by decide +kernel) rfl
theorem w_270 : Cond.static yX0_together ∈ SWL := SWL_mem 270 (by decide +kernel) rfl
theorem w_271 : Cond.code yX0_together cX0_together 3 (some .int) ∈ SWL := SWL_mem 271 (by decide +kernel) rfl
theorem w_272 : Cond.methodLink RX3 287 yX3_hashOfPlans ∈ SWL := SWL_mem 272 (by decide +kernel) rfl
theorem w_274 : Cond.instanceMethod yX3_hashOfPlans ∈ SWL := SWL_mem 274 (by decide +kernel) rfl
theorem w_275 : Cond.code yX3_hashOfPlans cX3_hashOfPlans 5 (some .long) ∈ SWL := SWL_mem 275 (by decide +kernel) rfl
theorem w_276 : Cond.methodLink RX3 222 yX0_slidesFromStart ∈ SWL := SWL_mem 276 (by decide +kernel) rfl
theorem w_277 : Cond.instanceMethod yX0_slidesFromStart ∈ SWL := SWL_mem 277 (by decide +kernel) rfl
theorem w_278 : Cond.selects RX0 yX0_slidesFromStart yX0_slidesFromStart ∈ SWL := SWL_mem 278 (by decide +kernel) rfl
theorem w_279 : Cond.code yX0_slidesFromStart cX0_slidesFromStart 1 (some .int) ∈ SWL := SWL_mem 279 (by decide +kernel) rfl
theorem w_280 : Cond.methodLink RX0 100 yX0_spreadFromStart ∈ SWL := SWL_mem 280 (by decide +kernel) rfl
theorem w_281 : Cond.instanceMethod yX0_spreadFromStart ∈ SWL := SWL_mem 281 (by decide +kernel) rfl
theorem w_282 : Cond.selects RX0 yX0_spreadFromStart yX0_spreadFromStart ∈ SWL := SWL_mem 282 (by decide +kernel) rfl
theorem w_283 : Cond.code yX0_spreadFromStart cX0_spreadFromStart 2 (none) ∈ SWL := SWL_mem 283 (by decide +kernel) rfl
theorem w_284 : Cond.methodLink RX0 93 yX0_forget ∈ SWL := SWL_mem 284 (by decide +kernel) rfl
theorem w_285 : Cond.instanceMethod yX0_forget ∈ SWL := SWL_mem 285 (by decide +kernel) rfl
theorem w_286 : Cond.selects RX0 yX0_forget yX0_forget ∈ SWL := SWL_mem 286 (by decide +kernel) rfl
theorem w_287 : Cond.code yX0_forget cX0_forget 2 (none) ∈ SWL := SWL_mem 287 (by decide +kernel) rfl
theorem w_288 : Cond.methodLink RX0 90 yX0_find ∈ SWL := SWL_mem 288 (by decide +kernel) rfl
theorem w_289 : Cond.instanceMethod yX0_find ∈ SWL := SWL_mem 289 (by decide +kernel) rfl
theorem w_290 : Cond.selects RX0 yX0_find yX0_find ∈ SWL := SWL_mem 290 (by decide +kernel) rfl
theorem w_291 : Cond.code yX0_find cX0_find 3 (none) ∈ SWL := SWL_mem 291 (by decide +kernel) rfl
theorem w_292 : Cond.methodLink RX0 96 yX0_spread ∈ SWL := SWL_mem 292 (by decide +kernel) rfl
theorem w_293 : Cond.instanceMethod yX0_spread ∈ SWL := SWL_mem 293 (by decide +kernel) rfl
theorem w_294 : Cond.selects RX0 yX0_spread yX0_spread ∈ SWL := SWL_mem 294 (by decide +kernel) rfl
theorem w_295 : Cond.code yX0_spread cX0_spread 5 (none) ∈ SWL := SWL_mem 295 (by decide +kernel) rfl
theorem w_296 : Cond.methodLink RX0 83 yX0_costOf ∈ SWL := SWL_mem 296 (by decide +kernel) rfl
theorem w_297 : Cond.instanceMethod yX0_costOf ∈ SWL := SWL_mem 297 (by decide +kernel) rfl
theorem w_298 : Cond.selects RX0 yX0_costOf yX0_costOf ∈ SWL := SWL_mem 298 (by decide +kernel) rfl
theorem w_299 : Cond.code yX0_costOf cX0_costOf 2 (some .int) ∈ SWL := SWL_mem 299 (by decide +kernel) rfl
theorem w_300 : Cond.methodLink RX0 69 yX0_exists ∈ SWL := SWL_mem 300 (by decide +kernel) rfl
theorem w_301 : Cond.instanceMethod yX0_exists ∈ SWL := SWL_mem 301 (by decide +kernel) rfl
theorem w_302 : Cond.selects RX0 yX0_exists yX0_exists ∈ SWL := SWL_mem 302 (by decide +kernel) rfl
theorem w_303 : Cond.code yX0_exists cX0_exists 2 (some .boolean) ∈ SWL := SWL_mem 303 (by decide +kernel) rfl
theorem w_304 : Cond.methodLink RX0 86 yX0_spreadAlong ∈ SWL := SWL_mem 304 (by decide +kernel) rfl
theorem w_305 : Cond.instanceMethod yX0_spreadAlong ∈ SWL := SWL_mem 305 (by decide +kernel) rfl
theorem w_306 : Cond.selects RX0 yX0_spreadAlong yX0_spreadAlong ∈ SWL := SWL_mem 306 (by decide +kernel) rfl
theorem w_307 : Cond.code yX0_spreadAlong cX0_spreadAlong 8 (none) ∈ SWL := SWL_mem 307 (by decide +kernel) rfl
theorem w_308 : Cond.methodLink RX0 77 yX0_behindStep ∈ SWL := SWL_mem 308 (by decide +kernel) rfl
theorem w_309 : Cond.instanceMethod yX0_behindStep ∈ SWL := SWL_mem 309 (by decide +kernel) rfl
theorem w_310 : Cond.selects RX0 yX0_behindStep yX0_behindStep ∈ SWL := SWL_mem 310 (by decide +kernel) rfl
theorem w_311 : Cond.code yX0_behindStep cX0_behindStep 6 (some .int) ∈ SWL := SWL_mem 311 (by decide +kernel) rfl
theorem w_312 : Cond.methodLink RX0 103 yX0_leastCostOut ∈ SWL := SWL_mem 312 (by decide +kernel) rfl
theorem w_313 : Cond.instanceMethod yX0_leastCostOut ∈ SWL := SWL_mem 313 (by decide +kernel) rfl
theorem w_314 : Cond.selects RX0 yX0_leastCostOut yX0_leastCostOut ∈ SWL := SWL_mem 314 (by decide +kernel) rfl
theorem w_315 : Cond.code yX0_leastCostOut cX0_leastCostOut 4 (some .int) ∈ SWL := SWL_mem 315 (by decide +kernel) rfl
theorem w_316 : Cond.methodLink RX0 107 yX0_isOutIn ∈ SWL := SWL_mem 316 (by decide +kernel) rfl
theorem w_317 : Cond.instanceMethod yX0_isOutIn ∈ SWL := SWL_mem 317 (by decide +kernel) rfl
theorem w_318 : Cond.selects RX0 yX0_isOutIn yX0_isOutIn ∈ SWL := SWL_mem 318 (by decide +kernel) rfl
theorem w_319 : Cond.code yX0_isOutIn cX0_isOutIn 2 (some .boolean) ∈ SWL := SWL_mem 319 (by decide +kernel) rfl
theorem w_320 : Cond.methodLink RX3 225 yX0_slidesFromEnds ∈ SWL := SWL_mem 320 (by decide +kernel) rfl
theorem w_321 : Cond.instanceMethod yX0_slidesFromEnds ∈ SWL := SWL_mem 321 (by decide +kernel) rfl
theorem w_322 : Cond.selects RX0 yX0_slidesFromEnds yX0_slidesFromEnds ∈ SWL := SWL_mem 322 (by decide +kernel) rfl
theorem w_323 : Cond.code yX0_slidesFromEnds cX0_slidesFromEnds 2 (some .int) ∈ SWL := SWL_mem 323 (by decide +kernel) rfl
theorem w_324 : Cond.methodLink RX3 228 yX0_stepsFromStart ∈ SWL := SWL_mem 324 (by decide +kernel) rfl
theorem w_325 : Cond.instanceMethod yX0_stepsFromStart ∈ SWL := SWL_mem 325 (by decide +kernel) rfl
theorem w_326 : Cond.selects RX0 yX0_stepsFromStart yX0_stepsFromStart ∈ SWL := SWL_mem 326 (by decide +kernel) rfl
theorem w_327 : Cond.code yX0_stepsFromStart cX0_stepsFromStart 1 (some .int) ∈ SWL := SWL_mem 327 (by decide +kernel) rfl
theorem w_328 : Cond.methodLink RX3 231 yX0_fuelByBuckets ∈ SWL := SWL_mem 328 (by decide +kernel) rfl
theorem w_329 : Cond.instanceMethod yX0_fuelByBuckets ∈ SWL := SWL_mem 329 (by decide +kernel) rfl
theorem w_330 : Cond.selects RX0 yX0_fuelByBuckets yX0_fuelByBuckets ∈ SWL := SWL_mem 330 (by decide +kernel) rfl
theorem w_331 : Cond.code yX0_fuelByBuckets cX0_fuelByBuckets 2 (some .int) ∈ SWL := SWL_mem 331 (by decide +kernel) rfl
theorem w_332 : Cond.methodLink RX0 119 yX0_cheapen ∈ SWL := SWL_mem 332 (by decide +kernel) rfl
theorem w_333 : Cond.instanceMethod yX0_cheapen ∈ SWL := SWL_mem 333 (by decide +kernel) rfl
theorem w_334 : Cond.selects RX0 yX0_cheapen yX0_cheapen ∈ SWL := SWL_mem 334 (by decide +kernel) rfl
theorem w_335 : Cond.code yX0_cheapen cX0_cheapen 4 (none) ∈ SWL := SWL_mem 335 (by decide +kernel) rfl
theorem w_336 : Cond.methodLink RX0 135 yX0_isCheaper ∈ SWL := SWL_mem 336 (by decide +kernel) rfl
theorem w_337 : Cond.instanceMethod yX0_isCheaper ∈ SWL := SWL_mem 337 (by decide +kernel) rfl
theorem w_338 : Cond.selects RX0 yX0_isCheaper yX0_isCheaper ∈ SWL := SWL_mem 338 (by decide +kernel) rfl
theorem w_339 : Cond.code yX0_isCheaper cX0_isCheaper 3 (some .boolean) ∈ SWL := SWL_mem 339 (by decide +kernel) rfl
theorem w_340 : Cond.methodLink RX0 122 yX0_isAnyFilled ∈ SWL := SWL_mem 340 (by decide +kernel) rfl
theorem w_341 : Cond.instanceMethod yX0_isAnyFilled ∈ SWL := SWL_mem 341 (by decide +kernel) rfl
theorem w_342 : Cond.selects RX0 yX0_isAnyFilled yX0_isAnyFilled ∈ SWL := SWL_mem 342 (by decide +kernel) rfl
theorem w_343 : Cond.code yX0_isAnyFilled cX0_isAnyFilled 1 (some .boolean) ∈ SWL := SWL_mem 343 (by decide +kernel) rfl
theorem w_344 : Cond.methodLink RX0 126 yX0_hasOutFor ∈ SWL := SWL_mem 344 (by decide +kernel) rfl
theorem w_345 : Cond.instanceMethod yX0_hasOutFor ∈ SWL := SWL_mem 345 (by decide +kernel) rfl
theorem w_346 : Cond.selects RX0 yX0_hasOutFor yX0_hasOutFor ∈ SWL := SWL_mem 346 (by decide +kernel) rfl
theorem w_347 : Cond.code yX0_hasOutFor cX0_hasOutFor 4 (some .boolean) ∈ SWL := SWL_mem 347 (by decide +kernel) rfl
theorem w_348 : Cond.methodLink RX0 132 yX0_inBucket ∈ SWL := SWL_mem 348 (by decide +kernel) rfl
theorem w_349 : Cond.instanceMethod yX0_inBucket ∈ SWL := SWL_mem 349 (by decide +kernel) rfl
theorem w_350 : Cond.selects RX0 yX0_inBucket yX0_inBucket ∈ SWL := SWL_mem 350 (by decide +kernel) rfl
theorem w_351 : Cond.code yX0_inBucket cX0_inBucket 5 (some .int) ∈ SWL := SWL_mem 351 (by decide +kernel) rfl
theorem w_352 : Cond.methodLink RX0 129 yX0_emptyBucket ∈ SWL := SWL_mem 352 (by decide +kernel) rfl
theorem w_353 : Cond.instanceMethod yX0_emptyBucket ∈ SWL := SWL_mem 353 (by decide +kernel) rfl
theorem w_354 : Cond.selects RX0 yX0_emptyBucket yX0_emptyBucket ∈ SWL := SWL_mem 354 (by decide +kernel) rfl
theorem w_355 : Cond.code yX0_emptyBucket cX0_emptyBucket 6 (none) ∈ SWL := SWL_mem 355 (by decide +kernel) rfl
theorem w_356 : Cond.methodLink RX3 234 yX0_fuelByRounds ∈ SWL := SWL_mem 356 (by decide +kernel) rfl
theorem w_357 : Cond.instanceMethod yX0_fuelByRounds ∈ SWL := SWL_mem 357 (by decide +kernel) rfl
theorem w_358 : Cond.selects RX0 yX0_fuelByRounds yX0_fuelByRounds ∈ SWL := SWL_mem 358 (by decide +kernel) rfl
theorem w_359 : Cond.code yX0_fuelByRounds cX0_fuelByRounds 4 (some .int) ∈ SWL := SWL_mem 359 (by decide +kernel) rfl
theorem w_360 : Cond.methodLink RX0 139 yX0_hasCheapenedAround ∈ SWL := SWL_mem 360 (by decide +kernel) rfl
theorem w_361 : Cond.instanceMethod yX0_hasCheapenedAround ∈ SWL := SWL_mem 361 (by decide +kernel) rfl
theorem w_362 : Cond.selects RX0 yX0_hasCheapenedAround yX0_hasCheapenedAround ∈ SWL := SWL_mem 362 (by decide +kernel) rfl
theorem w_363 : Cond.code yX0_hasCheapenedAround cX0_hasCheapenedAround 7 (some .boolean) ∈ SWL := SWL_mem 363 (by decide +kernel) rfl
theorem w_364 : Cond.methodLink RX3 248 yX0_spreadFromStart ∈ SWL := SWL_mem 364 (by decide +kernel) rfl
theorem w_365 : Cond.methodLink RX3 290 yX3_hashOfArrangements ∈ SWL := SWL_mem 365 (by decide +kernel) rfl
theorem w_367 : Cond.instanceMethod yX3_hashOfArrangements ∈ SWL := SWL_mem 367 (by decide +kernel) rfl
theorem w_368 : Cond.code yX3_hashOfArrangements cX3_hashOfArrangements 5 (some .long) ∈ SWL := SWL_mem 368 (by decide +kernel) rfl
theorem w_369 : Cond.methodLink RX3 254 yX0_foundOut ∈ SWL := SWL_mem 369 (by decide +kernel) rfl
theorem w_370 : Cond.instanceMethod yX0_foundOut ∈ SWL := SWL_mem 370 (by decide +kernel) rfl
theorem w_371 : Cond.selects RX0 yX0_foundOut yX0_foundOut ∈ SWL := SWL_mem 371 (by decide +kernel) rfl
theorem w_372 : Cond.code yX0_foundOut cX0_foundOut 3 (some .int) ∈ SWL := SWL_mem 372 (by decide +kernel) rfl
theorem w_373 : Cond.methodLink RX3 257 yX0_farthestFound ∈ SWL := SWL_mem 373 (by decide +kernel) rfl
theorem w_374 : Cond.instanceMethod yX0_farthestFound ∈ SWL := SWL_mem 374 (by decide +kernel) rfl
theorem w_375 : Cond.selects RX0 yX0_farthestFound yX0_farthestFound ∈ SWL := SWL_mem 375 (by decide +kernel) rfl
theorem w_376 : Cond.code yX0_farthestFound cX0_farthestFound 2 (some .int) ∈ SWL := SWL_mem 376 (by decide +kernel) rfl
theorem w_377 : Cond.methodLink RX3 260 yX0_allArrangements ∈ SWL := SWL_mem 377 (by decide +kernel) rfl
theorem w_378 : Cond.instanceMethod yX0_allArrangements ∈ SWL := SWL_mem 378 (by decide +kernel) rfl
theorem w_379 : Cond.selects RX0 yX0_allArrangements yX0_allArrangements ∈ SWL := SWL_mem 379 (by decide +kernel) rfl
theorem w_380 : Cond.code yX0_allArrangements cX0_allArrangements 3 (some .int) ∈ SWL := SWL_mem 380 (by decide +kernel) rfl
theorem w_381 : Cond.methodLink RX3 297 yX3_hashOfCells ∈ SWL := SWL_mem 381 (by decide +kernel) rfl
theorem w_383 : Cond.instanceMethod yX3_hashOfCells ∈ SWL := SWL_mem 383 (by decide +kernel) rfl
theorem w_384 : Cond.code yX3_hashOfCells cX3_hashOfCells 6 (some .long) ∈ SWL := SWL_mem 384 (by decide +kernel) rfl
theorem w_385 : Cond.methodLink RX3 184 yX1_carAt ∈ SWL := SWL_mem 385 (by decide +kernel) rfl
theorem w_386 : Cond.instanceMethod yX1_carAt ∈ SWL := SWL_mem 386 (by decide +kernel) rfl
theorem w_387 : Cond.selects RX1 yX1_carAt yX1_carAt ∈ SWL := SWL_mem 387 (by decide +kernel) rfl
theorem w_388 : Cond.code yX1_carAt cX1_carAt 3 (some .int) ∈ SWL := SWL_mem 388 (by decide +kernel) rfl
theorem w_389 : Cond.methodLink RX3 187 yX1_hasWallAt ∈ SWL := SWL_mem 389 (by decide +kernel) rfl
theorem w_390 : Cond.instanceMethod yX1_hasWallAt ∈ SWL := SWL_mem 390 (by decide +kernel) rfl
theorem w_391 : Cond.selects RX1 yX1_hasWallAt yX1_hasWallAt ∈ SWL := SWL_mem 391 (by decide +kernel) rfl
theorem w_392 : Cond.code yX1_hasWallAt cX1_hasWallAt 2 (some .boolean) ∈ SWL := SWL_mem 392 (by decide +kernel) rfl
theorem w_393 : Cond.methodLink RX3 300 yX3_hashOfCars ∈ SWL := SWL_mem 393 (by decide +kernel) rfl
theorem w_395 : Cond.instanceMethod yX3_hashOfCars ∈ SWL := SWL_mem 395 (by decide +kernel) rfl
theorem w_396 : Cond.code yX3_hashOfCars cX3_hashOfCars 6 (some .long) ∈ SWL := SWL_mem 396 (by decide +kernel) rfl
theorem w_397 : Cond.methodLink RX3 210 yX1_loggedSteps ∈ SWL := SWL_mem 397 (by decide +kernel) rfl
theorem w_398 : Cond.methodLink RX3 303 yX3_hashOfLog ∈ SWL := SWL_mem 398 (by decide +kernel) rfl
theorem w_400 : Cond.instanceMethod yX3_hashOfLog ∈ SWL := SWL_mem 400 (by decide +kernel) rfl
theorem w_401 : Cond.code yX3_hashOfLog cX3_hashOfLog 6 (some .long) ∈ SWL := SWL_mem 401 (by decide +kernel) rfl
theorem w_402 : Cond.methodLink RX3 277 yX3_share ∈ SWL := SWL_mem 402 (by decide +kernel) rfl
theorem w_403 : Cond.static yX3_share ∈ SWL := SWL_mem 403 (by decide +kernel) rfl
theorem w_404 : Cond.code yX3_share cX3_share 2 (some .double) ∈ SWL := SWL_mem 404 (by decide +kernel) rfl
theorem w_405 : Cond.methodLink RX3 306 yX3_bitsOf ∈ SWL := SWL_mem 405 (by decide +kernel) rfl
theorem w_406 : Cond.static yX3_bitsOf ∈ SWL := SWL_mem 406 (by decide +kernel) rfl
theorem w_407 : Cond.code yX3_bitsOf cX3_bitsOf 8 (some .long) ∈ SWL := SWL_mem 407 (by decide +kernel) rfl
theorem w_408 : Cond.constantLong RX3 358 (1023 : Int64) ∈ SWL := SWL_mem 408 (by decide +kernel) rfl
theorem w_409 : Cond.constantDouble RX3 360 (4611686018427387904 : UInt64) ∈ SWL := SWL_mem 409 (by decide +kernel) rfl
theorem w_410 : Cond.constantDouble RX3 362 (4841369599423283200 : UInt64) ∈ SWL := SWL_mem 410 (by decide +kernel) rfl
theorem w_411 : Cond.methodLink RX3 310 yX3_hashOfText ∈ SWL := SWL_mem 411 (by decide +kernel) rfl
theorem w_413 : Cond.instanceMethod yX3_hashOfText ∈ SWL := SWL_mem 413 (by decide +kernel) rfl
theorem w_414 : Cond.code yX3_hashOfText cX3_hashOfText 6 (some .long) ∈ SWL := SWL_mem 414 (by decide +kernel) rfl
theorem w_415 : Cond.methodLink RX3 329 yX2_codeAt ∈ SWL := SWL_mem 415 (by decide +kernel) rfl
theorem w_416 : Cond.instanceMethod yX2_codeAt ∈ SWL := SWL_mem 416 (by decide +kernel) rfl
theorem w_417 : Cond.selects RX2 yX2_codeAt yX2_codeAt ∈ SWL := SWL_mem 417 (by decide +kernel) rfl
theorem w_418 : Cond.code yX2_codeAt cX2_codeAt 2 (some .int) ∈ SWL := SWL_mem 418 (by decide +kernel) rfl
theorem w_428 : Cond.instanceMethod yX3_cars ∈ SWL := SWL_mem 428 (by decide +kernel) rfl
theorem w_429 : Cond.selects RX3 yX3_cars yX3_cars ∈ SWL := SWL_mem 429 (by decide +kernel) rfl
theorem w_430 : Cond.code yX3_cars cX3_cars 1 (some .int) ∈ SWL := SWL_mem 430 (by decide +kernel) rfl
theorem w_441 : Cond.instanceMethod yX3_addCar ∈ SWL := SWL_mem 441 (by decide +kernel) rfl
theorem w_442 : Cond.selects RX3 yX3_addCar yX3_addCar ∈ SWL := SWL_mem 442 (by decide +kernel) rfl
theorem w_443 : Cond.code yX3_addCar cX3_addCar 4 (some .int) ∈ SWL := SWL_mem 443 (by decide +kernel) rfl
theorem w_444 : Cond.methodLink RX3 45 yX1_troubleOfEntering ∈ SWL := SWL_mem 444 (by decide +kernel) rfl
theorem w_445 : Cond.instanceMethod yX1_troubleOfEntering ∈ SWL := SWL_mem 445 (by decide +kernel) rfl
theorem w_446 : Cond.selects RX1 yX1_troubleOfEntering yX1_troubleOfEntering ∈ SWL := SWL_mem 446 (by decide +kernel) rfl
theorem w_447 : Cond.code yX1_troubleOfEntering cX1_troubleOfEntering 6 (some .int) ∈ SWL := SWL_mem 447 (by decide +kernel) rfl
theorem w_448 : Cond.methodLink RX3 49 yX3_refuse ∈ SWL := SWL_mem 448 (by decide +kernel) rfl
theorem w_449 : Cond.static yX3_refuse ∈ SWL := SWL_mem 449 (by decide +kernel) rfl
theorem w_450 : Cond.code yX3_refuse cX3_refuse 1 (none) ∈ SWL := SWL_mem 450 (by decide +kernel) rfl
theorem w_451 : Cond.classLink RX3 164 "java/lang/IndexOutOfBoundsException" ∈ SWL := SWL_mem 451 (by decide +kernel) rfl
theorem w_519 : Cond.classLink RX3 106 "java/lang/IllegalArgumentException" ∈ SWL := SWL_mem 519 (by decide +kernel) rfl
theorem w_535 : Cond.classLink RX3 62 "java/lang/IllegalStateException" ∈ SWL := SWL_mem 535 (by decide +kernel) rfl
theorem w_551 : Cond.methodLink RX3 53 yX3_save ∈ SWL := SWL_mem 551 (by decide +kernel) rfl
theorem w_553 : Cond.instanceMethod yX3_save ∈ SWL := SWL_mem 553 (by decide +kernel) rfl
theorem w_554 : Cond.code yX3_save cX3_save 1 (none) ∈ SWL := SWL_mem 554 (by decide +kernel) rfl
theorem w_555 : Cond.methodLink RX3 323 yX3_dropOldestSaved ∈ SWL := SWL_mem 555 (by decide +kernel) rfl
theorem w_557 : Cond.instanceMethod yX3_dropOldestSaved ∈ SWL := SWL_mem 557 (by decide +kernel) rfl
theorem w_558 : Cond.code yX3_dropOldestSaved cX3_dropOldestSaved 3 (none) ∈ SWL := SWL_mem 558 (by decide +kernel) rfl
theorem w_559 : Cond.methodLink RX3 147 yX3_copy ∈ SWL := SWL_mem 559 (by decide +kernel) rfl
theorem w_560 : Cond.static yX3_copy ∈ SWL := SWL_mem 560 (by decide +kernel) rfl
theorem w_561 : Cond.code yX3_copy cX3_copy 2 (none) ∈ SWL := SWL_mem 561 (by decide +kernel) rfl
theorem w_563 : Cond.instanceMethod yX1_become ∈ SWL := SWL_mem 563 (by decide +kernel) rfl
theorem w_564 : Cond.selects RX1 yX1_become yX1_become ∈ SWL := SWL_mem 564 (by decide +kernel) rfl
theorem w_565 : Cond.code yX1_become cX1_become 2 (none) ∈ SWL := SWL_mem 565 (by decide +kernel) rfl
theorem w_569 : Cond.methodLink RX3 56 yX1_enter ∈ SWL := SWL_mem 569 (by decide +kernel) rfl
theorem w_570 : Cond.instanceMethod yX1_enter ∈ SWL := SWL_mem 570 (by decide +kernel) rfl
theorem w_571 : Cond.selects RX1 yX1_enter yX1_enter ∈ SWL := SWL_mem 571 (by decide +kernel) rfl
theorem w_572 : Cond.code yX1_enter cX1_enter 5 (some .int) ∈ SWL := SWL_mem 572 (by decide +kernel) rfl
theorem w_580 : Cond.instanceMethod yX3_dropLast ∈ SWL := SWL_mem 580 (by decide +kernel) rfl
theorem w_581 : Cond.selects RX3 yX3_dropLast yX3_dropLast ∈ SWL := SWL_mem 581 (by decide +kernel) rfl
theorem w_582 : Cond.code yX3_dropLast cX3_dropLast 1 (some .int) ∈ SWL := SWL_mem 582 (by decide +kernel) rfl
theorem w_584 : Cond.methodLink RX3 69 yX1_leave ∈ SWL := SWL_mem 584 (by decide +kernel) rfl
theorem w_585 : Cond.instanceMethod yX1_leave ∈ SWL := SWL_mem 585 (by decide +kernel) rfl
theorem w_586 : Cond.selects RX1 yX1_leave yX1_leave ∈ SWL := SWL_mem 586 (by decide +kernel) rfl
theorem w_587 : Cond.code yX1_leave cX1_leave 1 (some .int) ∈ SWL := SWL_mem 587 (by decide +kernel) rfl
theorem w_592 : Cond.instanceMethod yX3_slide ∈ SWL := SWL_mem 592 (by decide +kernel) rfl
theorem w_593 : Cond.selects RX3 yX3_slide yX3_slide ∈ SWL := SWL_mem 593 (by decide +kernel) rfl
theorem w_594 : Cond.code yX3_slide cX3_slide 3 (some .int) ∈ SWL := SWL_mem 594 (by decide +kernel) rfl
theorem w_595 : Cond.methodLink RX3 81 yX1_troubleOfSliding ∈ SWL := SWL_mem 595 (by decide +kernel) rfl
theorem w_596 : Cond.instanceMethod yX1_troubleOfSliding ∈ SWL := SWL_mem 596 (by decide +kernel) rfl
theorem w_597 : Cond.selects RX1 yX1_troubleOfSliding yX1_troubleOfSliding ∈ SWL := SWL_mem 597 (by decide +kernel) rfl
theorem w_598 : Cond.code yX1_troubleOfSliding cX1_troubleOfSliding 4 (some .int) ∈ SWL := SWL_mem 598 (by decide +kernel) rfl
theorem w_599 : Cond.methodLink RX1 81 yX1_roomOf ∈ SWL := SWL_mem 599 (by decide +kernel) rfl
theorem w_601 : Cond.methodLink RX3 90 yX1_makeSlide ∈ SWL := SWL_mem 601 (by decide +kernel) rfl
theorem w_602 : Cond.instanceMethod yX1_makeSlide ∈ SWL := SWL_mem 602 (by decide +kernel) rfl
theorem w_603 : Cond.selects RX1 yX1_makeSlide yX1_makeSlide ∈ SWL := SWL_mem 603 (by decide +kernel) rfl
theorem w_604 : Cond.code yX1_makeSlide cX1_makeSlide 3 (some .int) ∈ SWL := SWL_mem 604 (by decide +kernel) rfl
theorem w_609 : Cond.instanceMethod yX3_takeBack ∈ SWL := SWL_mem 609 (by decide +kernel) rfl
theorem w_610 : Cond.selects RX3 yX3_takeBack yX3_takeBack ∈ SWL := SWL_mem 610 (by decide +kernel) rfl
theorem w_611 : Cond.code yX3_takeBack cX3_takeBack 1 (some .int) ∈ SWL := SWL_mem 611 (by decide +kernel) rfl
theorem w_613 : Cond.methodLink RX3 95 yX1_unmakeSlide ∈ SWL := SWL_mem 613 (by decide +kernel) rfl
theorem w_614 : Cond.instanceMethod yX1_unmakeSlide ∈ SWL := SWL_mem 614 (by decide +kernel) rfl
theorem w_615 : Cond.selects RX1 yX1_unmakeSlide yX1_unmakeSlide ∈ SWL := SWL_mem 615 (by decide +kernel) rfl
theorem w_616 : Cond.code yX1_unmakeSlide cX1_unmakeSlide 2 (some .int) ∈ SWL := SWL_mem 616 (by decide +kernel) rfl
theorem w_617 : Cond.methodLink RX1 89 yX1_hasSlide ∈ SWL := SWL_mem 617 (by decide +kernel) rfl
theorem w_618 : Cond.instanceMethod yX1_hasSlide ∈ SWL := SWL_mem 618 (by decide +kernel) rfl
theorem w_619 : Cond.selects RX1 yX1_hasSlide yX1_hasSlide ∈ SWL := SWL_mem 619 (by decide +kernel) rfl
theorem w_620 : Cond.code yX1_hasSlide cX1_hasSlide 2 (some .boolean) ∈ SWL := SWL_mem 620 (by decide +kernel) rfl
theorem w_625 : Cond.instanceMethod yX3_driveOut ∈ SWL := SWL_mem 625 (by decide +kernel) rfl
theorem w_626 : Cond.selects RX3 yX3_driveOut yX3_driveOut ∈ SWL := SWL_mem 626 (by decide +kernel) rfl
theorem w_627 : Cond.code yX3_driveOut cX3_driveOut 2 (some .int) ∈ SWL := SWL_mem 627 (by decide +kernel) rfl
theorem w_628 : Cond.methodLink RX3 98 yX3_slidesToDriveOut ∈ SWL := SWL_mem 628 (by decide +kernel) rfl
theorem w_630 : Cond.instanceMethod yX3_slidesToDriveOut ∈ SWL := SWL_mem 630 (by decide +kernel) rfl
theorem w_631 : Cond.code yX3_slidesToDriveOut cX3_slidesToDriveOut 2 (some .int) ∈ SWL := SWL_mem 631 (by decide +kernel) rfl
theorem w_633 : Cond.methodLink RX3 103 yX3_makePlan ∈ SWL := SWL_mem 633 (by decide +kernel) rfl
theorem w_635 : Cond.instanceMethod yX3_makePlan ∈ SWL := SWL_mem 635 (by decide +kernel) rfl
theorem w_636 : Cond.code yX3_makePlan cX3_makePlan 6 (some .boolean) ∈ SWL := SWL_mem 636 (by decide +kernel) rfl
theorem w_637 : Cond.methodLink RX3 326 yX0_findNextSlide ∈ SWL := SWL_mem 637 (by decide +kernel) rfl
theorem w_638 : Cond.instanceMethod yX0_findNextSlide ∈ SWL := SWL_mem 638 (by decide +kernel) rfl
theorem w_639 : Cond.selects RX0 yX0_findNextSlide yX0_findNextSlide ∈ SWL := SWL_mem 639 (by decide +kernel) rfl
theorem w_640 : Cond.code yX0_findNextSlide cX0_findNextSlide 5 (some .boolean) ∈ SWL := SWL_mem 640 (by decide +kernel) rfl
theorem w_641 : Cond.methodLink RX0 110 yX0_behindSlide ∈ SWL := SWL_mem 641 (by decide +kernel) rfl
theorem w_642 : Cond.instanceMethod yX0_behindSlide ∈ SWL := SWL_mem 642 (by decide +kernel) rfl
theorem w_643 : Cond.selects RX0 yX0_behindSlide yX0_behindSlide ∈ SWL := SWL_mem 643 (by decide +kernel) rfl
theorem w_644 : Cond.code yX0_behindSlide cX0_behindSlide 7 (some .int) ∈ SWL := SWL_mem 644 (by decide +kernel) rfl
theorem w_645 : Cond.methodLink RX0 73 yJ9_abs_0f7a4 ∈ SWL := SWL_mem 645 (by decide +kernel) rfl
theorem w_646 : Cond.methodLink RX3 266 yX0_behindSlide ∈ SWL := SWL_mem 646 (by decide +kernel) rfl
theorem w_651 : Cond.instanceMethod yX3_append ∈ SWL := SWL_mem 651 (by decide +kernel) rfl
theorem w_652 : Cond.selects RX3 yX3_append yX3_append ∈ SWL := SWL_mem 652 (by decide +kernel) rfl
theorem w_653 : Cond.code yX3_append cX3_append 2 (some .int) ∈ SWL := SWL_mem 653 (by decide +kernel) rfl
theorem w_656 : Cond.methodLink RX3 116 yX2_add ∈ SWL := SWL_mem 656 (by decide +kernel) rfl
theorem w_657 : Cond.instanceMethod yX2_add ∈ SWL := SWL_mem 657 (by decide +kernel) rfl
theorem w_658 : Cond.selects RX2 yX2_add yX2_add ∈ SWL := SWL_mem 658 (by decide +kernel) rfl
theorem w_659 : Cond.code yX2_add cX2_add 2 (some .int) ∈ SWL := SWL_mem 659 (by decide +kernel) rfl
theorem w_664 : Cond.instanceMethod yX3_work ∈ SWL := SWL_mem 664 (by decide +kernel) rfl
theorem w_665 : Cond.selects RX3 yX3_work yX3_work ∈ SWL := SWL_mem 665 (by decide +kernel) rfl
theorem w_666 : Cond.code yX3_work cX3_work 5 (some .int) ∈ SWL := SWL_mem 666 (by decide +kernel) rfl
theorem w_667 : Cond.methodLink RX3 125 yX2_isComplete ∈ SWL := SWL_mem 667 (by decide +kernel) rfl
theorem w_668 : Cond.instanceMethod yX2_isComplete ∈ SWL := SWL_mem 668 (by decide +kernel) rfl
theorem w_669 : Cond.selects RX2 yX2_isComplete yX2_isComplete ∈ SWL := SWL_mem 669 (by decide +kernel) rfl
theorem w_670 : Cond.code yX2_isComplete cX2_isComplete 3 (some .boolean) ∈ SWL := SWL_mem 670 (by decide +kernel) rfl
theorem w_671 : Cond.methodLink RX2 19 yX2_codeAt ∈ SWL := SWL_mem 671 (by decide +kernel) rfl
theorem w_672 : Cond.methodLink RX2 30 yX2_behind ∈ SWL := SWL_mem 672 (by decide +kernel) rfl
theorem w_673 : Cond.static yX2_behind ∈ SWL := SWL_mem 673 (by decide +kernel) rfl
theorem w_674 : Cond.code yX2_behind cX2_behind 2 (some .int) ∈ SWL := SWL_mem 674 (by decide +kernel) rfl
theorem w_675 : Cond.methodLink RX2 34 yX2_behindBegin ∈ SWL := SWL_mem 675 (by decide +kernel) rfl
theorem w_676 : Cond.static yX2_behindBegin ∈ SWL := SWL_mem 676 (by decide +kernel) rfl
theorem w_677 : Cond.code yX2_behindBegin cX2_behindBegin 1 (some .int) ∈ SWL := SWL_mem 677 (by decide +kernel) rfl
theorem w_678 : Cond.methodLink RX2 23 yX2_isAmong ∈ SWL := SWL_mem 678 (by decide +kernel) rfl
theorem w_679 : Cond.static yX2_isAmong ∈ SWL := SWL_mem 679 (by decide +kernel) rfl
theorem w_680 : Cond.code yX2_isAmong cX2_isAmong 3 (some .boolean) ∈ SWL := SWL_mem 680 (by decide +kernel) rfl
theorem w_681 : Cond.methodLink RX2 37 yX2_behindWall ∈ SWL := SWL_mem 681 (by decide +kernel) rfl
theorem w_682 : Cond.static yX2_behindWall ∈ SWL := SWL_mem 682 (by decide +kernel) rfl
theorem w_683 : Cond.code yX2_behindWall cX2_behindWall 1 (some .int) ∈ SWL := SWL_mem 683 (by decide +kernel) rfl
theorem w_684 : Cond.methodLink RX2 40 yX2_behindEnd ∈ SWL := SWL_mem 684 (by decide +kernel) rfl
theorem w_685 : Cond.static yX2_behindEnd ∈ SWL := SWL_mem 685 (by decide +kernel) rfl
theorem w_686 : Cond.code yX2_behindEnd cX2_behindEnd 1 (some .int) ∈ SWL := SWL_mem 686 (by decide +kernel) rfl
theorem w_688 : Cond.methodLink RX3 131 yX3_tryPart ∈ SWL := SWL_mem 688 (by decide +kernel) rfl
theorem w_690 : Cond.instanceMethod yX3_tryPart ∈ SWL := SWL_mem 690 (by decide +kernel) rfl
theorem w_691 : Cond.code yX3_tryPart cX3_tryPart 2 (some .boolean) ∈ SWL := SWL_mem 691 (by decide +kernel) rfl
theorem w_692 : Cond.methodLink RX3 332 yX2_digitAt ∈ SWL := SWL_mem 692 (by decide +kernel) rfl
theorem w_693 : Cond.instanceMethod yX2_digitAt ∈ SWL := SWL_mem 693 (by decide +kernel) rfl
theorem w_694 : Cond.selects RX2 yX2_digitAt yX2_digitAt ∈ SWL := SWL_mem 694 (by decide +kernel) rfl
theorem w_695 : Cond.code yX2_digitAt cX2_digitAt 2 (some .int) ∈ SWL := SWL_mem 695 (by decide +kernel) rfl
theorem w_696 : Cond.methodLink RX3 335 yX3_tryEntering ∈ SWL := SWL_mem 696 (by decide +kernel) rfl
theorem w_698 : Cond.instanceMethod yX3_tryEntering ∈ SWL := SWL_mem 698 (by decide +kernel) rfl
theorem w_699 : Cond.code yX3_tryEntering cX3_tryEntering 5 (some .boolean) ∈ SWL := SWL_mem 699 (by decide +kernel) rfl
theorem w_700 : Cond.methodLink RX3 339 yX2_cellAt ∈ SWL := SWL_mem 700 (by decide +kernel) rfl
theorem w_701 : Cond.instanceMethod yX2_cellAt ∈ SWL := SWL_mem 701 (by decide +kernel) rfl
theorem w_702 : Cond.selects RX2 yX2_cellAt yX2_cellAt ∈ SWL := SWL_mem 702 (by decide +kernel) rfl
theorem w_703 : Cond.code yX2_cellAt cX2_cellAt 3 (some .int) ∈ SWL := SWL_mem 703 (by decide +kernel) rfl
theorem w_704 : Cond.methodLink RX2 27 yX2_digitAt ∈ SWL := SWL_mem 704 (by decide +kernel) rfl
theorem w_705 : Cond.methodLink RX3 342 yX3_tryWall ∈ SWL := SWL_mem 705 (by decide +kernel) rfl
theorem w_707 : Cond.instanceMethod yX3_tryWall ∈ SWL := SWL_mem 707 (by decide +kernel) rfl
theorem w_708 : Cond.code yX3_tryWall cX3_tryWall 3 (some .boolean) ∈ SWL := SWL_mem 708 (by decide +kernel) rfl
theorem w_709 : Cond.methodLink RX3 73 yX1_troubleOfWall ∈ SWL := SWL_mem 709 (by decide +kernel) rfl
theorem w_710 : Cond.instanceMethod yX1_troubleOfWall ∈ SWL := SWL_mem 710 (by decide +kernel) rfl
theorem w_711 : Cond.selects RX1 yX1_troubleOfWall yX1_troubleOfWall ∈ SWL := SWL_mem 711 (by decide +kernel) rfl
theorem w_712 : Cond.code yX1_troubleOfWall cX1_troubleOfWall 3 (some .int) ∈ SWL := SWL_mem 712 (by decide +kernel) rfl
theorem w_713 : Cond.methodLinkNest RX1 66 yX3_isCell "CarTangos" ∈ SWL := SWL_mem 713 (by decide +kernel) rfl
theorem w_714 : Cond.static yX3_isCell ∈ SWL := SWL_mem 714 (by decide +kernel) rfl
theorem w_715 : Cond.code yX3_isCell cX3_isCell 1 (some .boolean) ∈ SWL := SWL_mem 715 (by decide +kernel) rfl
theorem w_716 : Cond.methodLink RX1 69 yX1_hasWallAt ∈ SWL := SWL_mem 716 (by decide +kernel) rfl
theorem w_717 : Cond.methodLink RX1 72 yJ6_bitCount_0f7a4 ∈ SWL := SWL_mem 717 (by decide +kernel) rfl
theorem w_718 : Cond.methodLink RX1 78 yX1_carAt ∈ SWL := SWL_mem 718 (by decide +kernel) rfl
theorem w_719 : Cond.methodLink RX3 77 yX1_turnWall ∈ SWL := SWL_mem 719 (by decide +kernel) rfl
theorem w_720 : Cond.instanceMethod yX1_turnWall ∈ SWL := SWL_mem 720 (by decide +kernel) rfl
theorem w_721 : Cond.selects RX1 yX1_turnWall yX1_turnWall ∈ SWL := SWL_mem 721 (by decide +kernel) rfl
theorem w_722 : Cond.code yX1_turnWall cX1_turnWall 2 (some .boolean) ∈ SWL := SWL_mem 722 (by decide +kernel) rfl
theorem w_723 : Cond.methodLink RX3 345 yX3_tryTakingBack ∈ SWL := SWL_mem 723 (by decide +kernel) rfl
theorem w_725 : Cond.instanceMethod yX3_tryTakingBack ∈ SWL := SWL_mem 725 (by decide +kernel) rfl
theorem w_726 : Cond.code yX3_tryTakingBack cX3_tryTakingBack 2 (some .boolean) ∈ SWL := SWL_mem 726 (by decide +kernel) rfl
theorem w_727 : Cond.methodLink RX3 348 yX2_signAt ∈ SWL := SWL_mem 727 (by decide +kernel) rfl
theorem w_728 : Cond.instanceMethod yX2_signAt ∈ SWL := SWL_mem 728 (by decide +kernel) rfl
theorem w_729 : Cond.selects RX2 yX2_signAt yX2_signAt ∈ SWL := SWL_mem 729 (by decide +kernel) rfl
theorem w_730 : Cond.code yX2_signAt cX2_signAt 2 (some .int) ∈ SWL := SWL_mem 730 (by decide +kernel) rfl
theorem w_731 : Cond.methodLink RX3 351 yX3_trySliding ∈ SWL := SWL_mem 731 (by decide +kernel) rfl
theorem w_733 : Cond.instanceMethod yX3_trySliding ∈ SWL := SWL_mem 733 (by decide +kernel) rfl
theorem w_734 : Cond.code yX3_trySliding cX3_trySliding 4 (some .boolean) ∈ SWL := SWL_mem 734 (by decide +kernel) rfl
theorem w_735 : Cond.methodLink RX3 134 yX2_nextPart ∈ SWL := SWL_mem 735 (by decide +kernel) rfl
theorem w_736 : Cond.instanceMethod yX2_nextPart ∈ SWL := SWL_mem 736 (by decide +kernel) rfl
theorem w_737 : Cond.selects RX2 yX2_nextPart yX2_nextPart ∈ SWL := SWL_mem 737 (by decide +kernel) rfl
theorem w_738 : Cond.code yX2_nextPart cX2_nextPart 3 (some .int) ∈ SWL := SWL_mem 738 (by decide +kernel) rfl
theorem w_739 : Cond.methodLink RX3 119 yX2_clear ∈ SWL := SWL_mem 739 (by decide +kernel) rfl
theorem w_740 : Cond.instanceMethod yX2_clear ∈ SWL := SWL_mem 740 (by decide +kernel) rfl
theorem w_741 : Cond.selects RX2 yX2_clear yX2_clear ∈ SWL := SWL_mem 741 (by decide +kernel) rfl
theorem w_742 : Cond.code yX2_clear cX2_clear 2 (some .int) ∈ SWL := SWL_mem 742 (by decide +kernel) rfl
theorem w_747 : Cond.instanceMethod yX3_stoppedPart ∈ SWL := SWL_mem 747 (by decide +kernel) rfl
theorem w_748 : Cond.selects RX3 yX3_stoppedPart yX3_stoppedPart ∈ SWL := SWL_mem 748 (by decide +kernel) rfl
theorem w_749 : Cond.code yX3_stoppedPart cX3_stoppedPart 1 (some .int) ∈ SWL := SWL_mem 749 (by decide +kernel) rfl
theorem w_755 : Cond.instanceMethod yX3_undo ∈ SWL := SWL_mem 755 (by decide +kernel) rfl
theorem w_756 : Cond.selects RX3 yX3_undo yX3_undo ∈ SWL := SWL_mem 756 (by decide +kernel) rfl
theorem w_757 : Cond.code yX3_undo cX3_undo 1 (some .int) ∈ SWL := SWL_mem 757 (by decide +kernel) rfl
theorem w_763 : Cond.instanceMethod yX3_restore ∈ SWL := SWL_mem 763 (by decide +kernel) rfl
theorem w_764 : Cond.selects RX3 yX3_restore yX3_restore ∈ SWL := SWL_mem 764 (by decide +kernel) rfl
theorem w_765 : Cond.code yX3_restore cX3_restore 1 (some .int) ∈ SWL := SWL_mem 765 (by decide +kernel) rfl
theorem w_771 : Cond.instanceMethod yX3_laneOf ∈ SWL := SWL_mem 771 (by decide +kernel) rfl
theorem w_772 : Cond.selects RX3 yX3_laneOf yX3_laneOf ∈ SWL := SWL_mem 772 (by decide +kernel) rfl
theorem w_773 : Cond.code yX3_laneOf cX3_laneOf 2 (some .int) ∈ SWL := SWL_mem 773 (by decide +kernel) rfl
theorem w_774 : Cond.methodLink RX3 161 yX1_hasCar ∈ SWL := SWL_mem 774 (by decide +kernel) rfl
theorem w_780 : Cond.instanceMethod yX3_placeOf ∈ SWL := SWL_mem 780 (by decide +kernel) rfl
theorem w_781 : Cond.selects RX3 yX3_placeOf yX3_placeOf ∈ SWL := SWL_mem 781 (by decide +kernel) rfl
theorem w_782 : Cond.code yX3_placeOf cX3_placeOf 2 (some .int) ∈ SWL := SWL_mem 782 (by decide +kernel) rfl
theorem w_787 : Cond.instanceMethod yX3_lengthOf ∈ SWL := SWL_mem 787 (by decide +kernel) rfl
theorem w_788 : Cond.selects RX3 yX3_lengthOf yX3_lengthOf ∈ SWL := SWL_mem 788 (by decide +kernel) rfl
theorem w_789 : Cond.code yX3_lengthOf cX3_lengthOf 2 (some .int) ∈ SWL := SWL_mem 789 (by decide +kernel) rfl
theorem w_794 : Cond.instanceMethod yX3_carOn ∈ SWL := SWL_mem 794 (by decide +kernel) rfl
theorem w_795 : Cond.selects RX3 yX3_carOn yX3_carOn ∈ SWL := SWL_mem 795 (by decide +kernel) rfl
theorem w_796 : Cond.code yX3_carOn cX3_carOn 2 (some .int) ∈ SWL := SWL_mem 796 (by decide +kernel) rfl
theorem w_797 : Cond.methodLink RX3 179 yX3_isCell ∈ SWL := SWL_mem 797 (by decide +kernel) rfl
theorem w_803 : Cond.instanceMethod yX3_carOfSlide ∈ SWL := SWL_mem 803 (by decide +kernel) rfl
theorem w_804 : Cond.selects RX3 yX3_carOfSlide yX3_carOfSlide ∈ SWL := SWL_mem 804 (by decide +kernel) rfl
theorem w_805 : Cond.code yX3_carOfSlide cX3_carOfSlide 2 (some .int) ∈ SWL := SWL_mem 805 (by decide +kernel) rfl
theorem w_806 : Cond.methodLink RX3 199 yX1_hasSlide ∈ SWL := SWL_mem 806 (by decide +kernel) rfl
theorem w_812 : Cond.instanceMethod yX3_changeBySlide ∈ SWL := SWL_mem 812 (by decide +kernel) rfl
theorem w_813 : Cond.selects RX3 yX3_changeBySlide yX3_changeBySlide ∈ SWL := SWL_mem 813 (by decide +kernel) rfl
theorem w_814 : Cond.code yX3_changeBySlide cX3_changeBySlide 2 (some .int) ∈ SWL := SWL_mem 814 (by decide +kernel) rfl
theorem w_819 : Cond.instanceMethod yX3_stepsOf ∈ SWL := SWL_mem 819 (by decide +kernel) rfl
theorem w_820 : Cond.selects RX3 yX3_stepsOf yX3_stepsOf ∈ SWL := SWL_mem 820 (by decide +kernel) rfl
theorem w_821 : Cond.code yX3_stepsOf cX3_stepsOf 2 (some .int) ∈ SWL := SWL_mem 821 (by decide +kernel) rfl
theorem w_826 : Cond.instanceMethod yX3_nextCar ∈ SWL := SWL_mem 826 (by decide +kernel) rfl
theorem w_827 : Cond.selects RX3 yX3_nextCar yX3_nextCar ∈ SWL := SWL_mem 827 (by decide +kernel) rfl
theorem w_828 : Cond.code yX3_nextCar cX3_nextCar 1 (some .int) ∈ SWL := SWL_mem 828 (by decide +kernel) rfl
theorem w_829 : Cond.methodLink RX3 237 yX3_hasNextSlide ∈ SWL := SWL_mem 829 (by decide +kernel) rfl
theorem w_831 : Cond.instanceMethod yX3_hasNextSlide ∈ SWL := SWL_mem 831 (by decide +kernel) rfl
theorem w_832 : Cond.code yX3_hasNextSlide cX3_hasNextSlide 1 (some .boolean) ∈ SWL := SWL_mem 832 (by decide +kernel) rfl
theorem w_838 : Cond.instanceMethod yX3_nextChange ∈ SWL := SWL_mem 838 (by decide +kernel) rfl
theorem w_839 : Cond.selects RX3 yX3_nextChange yX3_nextChange ∈ SWL := SWL_mem 839 (by decide +kernel) rfl
theorem w_840 : Cond.code yX3_nextChange cX3_nextChange 1 (some .int) ∈ SWL := SWL_mem 840 (by decide +kernel) rfl
theorem w_845 : Cond.instanceMethod yX3_fewestBehind ∈ SWL := SWL_mem 845 (by decide +kernel) rfl
theorem w_846 : Cond.selects RX3 yX3_fewestBehind yX3_fewestBehind ∈ SWL := SWL_mem 846 (by decide +kernel) rfl
theorem w_847 : Cond.code yX3_fewestBehind cX3_fewestBehind 3 (some .int) ∈ SWL := SWL_mem 847 (by decide +kernel) rfl
theorem w_852 : Cond.instanceMethod yX3_fewestWithoutLast ∈ SWL := SWL_mem 852 (by decide +kernel) rfl
theorem w_853 : Cond.selects RX3 yX3_fewestWithoutLast yX3_fewestWithoutLast ∈ SWL := SWL_mem 853 (by decide +kernel) rfl
theorem w_854 : Cond.code yX3_fewestWithoutLast cX3_fewestWithoutLast 1 (some .int) ∈ SWL := SWL_mem 854 (by decide +kernel) rfl
theorem w_860 : Cond.instanceMethod yX3_fewestWithWall ∈ SWL := SWL_mem 860 (by decide +kernel) rfl
theorem w_861 : Cond.selects RX3 yX3_fewestWithWall yX3_fewestWithWall ∈ SWL := SWL_mem 861 (by decide +kernel) rfl
theorem w_862 : Cond.code yX3_fewestWithWall cX3_fewestWithWall 2 (some .int) ∈ SWL := SWL_mem 862 (by decide +kernel) rfl
theorem w_868 : Cond.instanceMethod yX3_toggleWall ∈ SWL := SWL_mem 868 (by decide +kernel) rfl
theorem w_869 : Cond.selects RX3 yX3_toggleWall yX3_toggleWall ∈ SWL := SWL_mem 869 (by decide +kernel) rfl
theorem w_870 : Cond.code yX3_toggleWall cX3_toggleWall 2 (some .boolean) ∈ SWL := SWL_mem 870 (by decide +kernel) rfl
theorem w_875 : Cond.instanceMethod yX3_isWall ∈ SWL := SWL_mem 875 (by decide +kernel) rfl
theorem w_876 : Cond.selects RX3 yX3_isWall yX3_isWall ∈ SWL := SWL_mem 876 (by decide +kernel) rfl
theorem w_877 : Cond.code yX3_isWall cX3_isWall 2 (some .boolean) ∈ SWL := SWL_mem 877 (by decide +kernel) rfl
theorem w_882 : Cond.instanceMethod yX3_room ∈ SWL := SWL_mem 882 (by decide +kernel) rfl
theorem w_883 : Cond.selects RX3 yX3_room yX3_room ∈ SWL := SWL_mem 883 (by decide +kernel) rfl
theorem w_884 : Cond.code yX3_room cX3_room 3 (some .int) ∈ SWL := SWL_mem 884 (by decide +kernel) rfl
theorem w_886 : Cond.instanceMethod yX3_logged ∈ SWL := SWL_mem 886 (by decide +kernel) rfl
theorem w_887 : Cond.selects RX3 yX3_logged yX3_logged ∈ SWL := SWL_mem 887 (by decide +kernel) rfl
theorem w_888 : Cond.code yX3_logged cX3_logged 1 (some .int) ∈ SWL := SWL_mem 888 (by decide +kernel) rfl
theorem w_897 : Cond.instanceMethod yX3_fuel ∈ SWL := SWL_mem 897 (by decide +kernel) rfl
theorem w_898 : Cond.selects RX3 yX3_fuel yX3_fuel ∈ SWL := SWL_mem 898 (by decide +kernel) rfl
theorem w_899 : Cond.code yX3_fuel cX3_fuel 1 (some .int) ∈ SWL := SWL_mem 899 (by decide +kernel) rfl
theorem w_901 : Cond.instanceMethod yX3_fuelByCars ∈ SWL := SWL_mem 901 (by decide +kernel) rfl
theorem w_902 : Cond.selects RX3 yX3_fuelByCars yX3_fuelByCars ∈ SWL := SWL_mem 902 (by decide +kernel) rfl
theorem w_903 : Cond.code yX3_fuelByCars cX3_fuelByCars 1 (some .int) ∈ SWL := SWL_mem 903 (by decide +kernel) rfl
theorem w_908 : Cond.instanceMethod yX3_fewestSlides ∈ SWL := SWL_mem 908 (by decide +kernel) rfl
theorem w_909 : Cond.selects RX3 yX3_fewestSlides yX3_fewestSlides ∈ SWL := SWL_mem 909 (by decide +kernel) rfl
theorem w_910 : Cond.code yX3_fewestSlides cX3_fewestSlides 1 (some .int) ∈ SWL := SWL_mem 910 (by decide +kernel) rfl
theorem w_912 : Cond.instanceMethod yX3_fewestSteps ∈ SWL := SWL_mem 912 (by decide +kernel) rfl
theorem w_913 : Cond.selects RX3 yX3_fewestSteps yX3_fewestSteps ∈ SWL := SWL_mem 913 (by decide +kernel) rfl
theorem w_914 : Cond.code yX3_fewestSteps cX3_fewestSteps 1 (some .int) ∈ SWL := SWL_mem 914 (by decide +kernel) rfl
theorem w_916 : Cond.instanceMethod yX3_leastFuel ∈ SWL := SWL_mem 916 (by decide +kernel) rfl
theorem w_917 : Cond.selects RX3 yX3_leastFuel yX3_leastFuel ∈ SWL := SWL_mem 917 (by decide +kernel) rfl
theorem w_918 : Cond.code yX3_leastFuel cX3_leastFuel 1 (some .int) ∈ SWL := SWL_mem 918 (by decide +kernel) rfl
theorem w_920 : Cond.instanceMethod yX3_reachable ∈ SWL := SWL_mem 920 (by decide +kernel) rfl
theorem w_921 : Cond.selects RX3 yX3_reachable yX3_reachable ∈ SWL := SWL_mem 921 (by decide +kernel) rfl
theorem w_922 : Cond.code yX3_reachable cX3_reachable 1 (some .int) ∈ SWL := SWL_mem 922 (by decide +kernel) rfl
theorem w_924 : Cond.instanceMethod yX3_fewestSlidesFromEnds ∈ SWL := SWL_mem 924 (by decide +kernel) rfl
theorem w_925 : Cond.selects RX3 yX3_fewestSlidesFromEnds yX3_fewestSlidesFromEnds ∈ SWL := SWL_mem 925 (by decide +kernel) rfl
theorem w_926 : Cond.code yX3_fewestSlidesFromEnds cX3_fewestSlidesFromEnds 1 (some .int) ∈ SWL := SWL_mem 926 (by decide +kernel) rfl
theorem w_928 : Cond.instanceMethod yX3_leastFuelByRounds ∈ SWL := SWL_mem 928 (by decide +kernel) rfl
theorem w_929 : Cond.selects RX3 yX3_leastFuelByRounds yX3_leastFuelByRounds ∈ SWL := SWL_mem 929 (by decide +kernel) rfl
theorem w_930 : Cond.code yX3_leastFuelByRounds cX3_leastFuelByRounds 1 (some .int) ∈ SWL := SWL_mem 930 (by decide +kernel) rfl
theorem w_932 : Cond.instanceMethod yX3_reachableOut ∈ SWL := SWL_mem 932 (by decide +kernel) rfl
theorem w_933 : Cond.selects RX3 yX3_reachableOut yX3_reachableOut ∈ SWL := SWL_mem 933 (by decide +kernel) rfl
theorem w_934 : Cond.code yX3_reachableOut cX3_reachableOut 1 (some .int) ∈ SWL := SWL_mem 934 (by decide +kernel) rfl
theorem w_936 : Cond.instanceMethod yX3_arrangements ∈ SWL := SWL_mem 936 (by decide +kernel) rfl
theorem w_937 : Cond.selects RX3 yX3_arrangements yX3_arrangements ∈ SWL := SWL_mem 937 (by decide +kernel) rfl
theorem w_938 : Cond.code yX3_arrangements cX3_arrangements 1 (some .int) ∈ SWL := SWL_mem 938 (by decide +kernel) rfl
theorem w_940 : Cond.instanceMethod yX3_farthest ∈ SWL := SWL_mem 940 (by decide +kernel) rfl
theorem w_941 : Cond.selects RX3 yX3_farthest yX3_farthest ∈ SWL := SWL_mem 941 (by decide +kernel) rfl
theorem w_942 : Cond.code yX3_farthest cX3_farthest 1 (some .int) ∈ SWL := SWL_mem 942 (by decide +kernel) rfl
theorem w_947 : Cond.instanceMethod yX3_rewind ∈ SWL := SWL_mem 947 (by decide +kernel) rfl
theorem w_948 : Cond.selects RX3 yX3_rewind yX3_rewind ∈ SWL := SWL_mem 948 (by decide +kernel) rfl
theorem w_949 : Cond.code yX3_rewind cX3_rewind 2 (some .int) ∈ SWL := SWL_mem 949 (by decide +kernel) rfl
theorem w_951 : Cond.instanceMethod yX3_keep ∈ SWL := SWL_mem 951 (by decide +kernel) rfl
theorem w_952 : Cond.selects RX3 yX3_keep yX3_keep ∈ SWL := SWL_mem 952 (by decide +kernel) rfl
theorem w_953 : Cond.code yX3_keep cX3_keep 1 (some .int) ∈ SWL := SWL_mem 953 (by decide +kernel) rfl
theorem w_958 : Cond.instanceMethod yX3_savedStates ∈ SWL := SWL_mem 958 (by decide +kernel) rfl
theorem w_959 : Cond.selects RX3 yX3_savedStates yX3_savedStates ∈ SWL := SWL_mem 959 (by decide +kernel) rfl
theorem w_960 : Cond.code yX3_savedStates cX3_savedStates 1 (some .int) ∈ SWL := SWL_mem 960 (by decide +kernel) rfl
theorem lay_X0 : ∀ w ∈ u_ws RX0 TX0 12, w ∈ SWL := fun w h => of_decide_eq_true (List.all_eq_true.mp (show ((u_ws RX0 TX0 12).all fun w => decide (w ∈ SWL)) = true by decide +kernel) w h)
theorem lay_X1 : ∀ w ∈ u_ws RX1 TX1 10, w ∈ SWL := fun w h => of_decide_eq_true (List.all_eq_true.mp (show ((u_ws RX1 TX1 10).all fun w => decide (w ∈ SWL)) = true by decide +kernel) w h)
theorem lay_X2 : ∀ w ∈ u_ws RX2 TX2 2, w ∈ SWL := fun w h => of_decide_eq_true (List.all_eq_true.mp (show ((u_ws RX2 TX2 2).all fun w => decide (w ∈ SWL)) = true by decide +kernel) w h)
theorem lay_X3 : ∀ w ∈ u_ws RX3 TX3 7, w ∈ SWL := fun w h => of_decide_eq_true (List.all_eq_true.mp (show ((u_ws RX3 TX3 7).all fun w => decide (w ∈ SWL)) = true by decide +kernel) w h)
theorem ats_RX3_66 : ∀ w ∈ vx_atS RX3 66 "java/lang/IllegalStateException" ["java/lang/RuntimeException", "java/lang/Exception"], w ∈ SWL := fun w h => of_decide_eq_true (List.all_eq_true.mp (show ((vx_atS RX3 66 "java/lang/IllegalStateException" ["java/lang/RuntimeException", "java/lang/Exception"]).all fun w => decide (w ∈ SWL)) = true by decide +kernel) w h)
theorem ats_RX3_110 : ∀ w ∈ vx_atS RX3 110 "java/lang/IllegalArgumentException" ["java/lang/RuntimeException", "java/lang/Exception"], w ∈ SWL := fun w h => of_decide_eq_true (List.all_eq_true.mp (show ((vx_atS RX3 110 "java/lang/IllegalArgumentException" ["java/lang/RuntimeException", "java/lang/Exception"]).all fun w => decide (w ∈ SWL)) = true by decide +kernel) w h)
theorem ats_RX3_168 : ∀ w ∈ vx_atS RX3 168 "java/lang/IndexOutOfBoundsException" ["java/lang/RuntimeException", "java/lang/Exception"], w ∈ SWL := fun w h => of_decide_eq_true (List.all_eq_true.mp (show ((vx_atS RX3 168 "java/lang/IndexOutOfBoundsException" ["java/lang/RuntimeException", "java/lang/Exception"]).all fun w => decide (w ∈ SWL)) = true by decide +kernel) w h)
theorem tsw_gen (x : Int32) (n : Nat) (hn : n < 2 ^ 31) (h : ∀ a, a < n → ¬ x = nI a) : x.toInt < 0 ∨ ((n : Int) - 1) < x.toInt := by
  by_cases h0 : x.toInt < 0
  · exact Or.inl h0
  · right
    by_cases h1 : x.toInt.toNat < n
    · refine absurd (Int32.toInt_inj.mp ?_) (h _ h1)
      rw [nI_toInt (by omega)]
      omega
    · omega
theorem tsw_X2_behind_1 (x : Int32) (c0 : ¬ x = 0) (c1 : ¬ x = 1) (c2 : ¬ x = 2) (c3 : ¬ x = 3) (c4 : ¬ x = 4) (c5 : ¬ x = 5) (c6 : ¬ x = 6) (c7 : ¬ x = 7) (c8 : ¬ x = 8) (c9 : ¬ x = 9) (c10 : ¬ x = 10) (c11 : ¬ x = 11) : x.toInt < 0 ∨ 11 < x.toInt := tsw_gen x 12 (by decide) (lt_s (lt_s (lt_s (lt_s (lt_s (lt_s (lt_s (lt_s (lt_s (lt_s (lt_s (lt_s lt_0 c0) c1) c2) c3) c4) c5) c6) c7) c8) c9) c10) c11)
theorem lsw_X3_tryPart_8 (x : Int32) (c0 : ¬ x = 98) (c1 : ¬ x = 100) (c2 : ¬ x = 104) (c3 : ¬ x = 118) (c4 : ¬ x = 119) : Op.lookupswitch.offset (#[(98, 139), (100, 144), (104, 52), (118, 87), (119, 124)] : Array (Int × Int)).toList 153 x.toInt = 153 := by
  show Op.lookupswitch.offset [(98, 139), (100, 144), (104, 52), (118, 87), (119, 124)] 153 x.toInt = 153
  rw [lv_osw c0 (by decide), lv_osw c1 (by decide), lv_osw c2 (by decide), lv_osw c3 (by decide), lv_osw c4 (by decide)]
  rfl
set_option maxRecDepth 20000 in
theorem mv_X1_become : MV mi_X1_become 1 := ⟨rfl, w_565, w_21, ⟨by decide, by decide⟩, by decide +kernel, w_563, w_564⟩
set_option maxRecDepth 20000 in
theorem ms_X3_copy : MS mi_X3_copy 2 := ⟨rfl, w_561, w_20, ⟨by decide, by decide⟩, by decide +kernel, w_560⟩
set_option maxRecDepth 20000 in
theorem ms_X0_together : MS mi_X0_together 2 := ⟨rfl, w_271, w_22, ⟨by decide, by decide⟩, by decide +kernel, w_270⟩
set_option maxRecDepth 20000 in
theorem ms_X3_cellsOf : MS mi_X3_cellsOf 3 := ⟨rfl, w_209, w_20, ⟨by decide, by decide⟩, by decide +kernel, w_208⟩
set_option maxRecDepth 20000 in
theorem mv_X0_addToTable : MV mi_X0_addToTable 2 := ⟨rfl, w_267, w_22, ⟨by decide, by decide⟩, by decide +kernel, w_265, w_266⟩
set_option maxRecDepth 20000 in
theorem mv_X0_load : MV mi_X0_load 3 := ⟨rfl, w_257, w_22, ⟨by decide, by decide⟩, by decide +kernel, w_255, w_256⟩
set_option maxRecDepth 20000 in
theorem mv_X0_exists : MV mi_X0_exists 1 := ⟨rfl, w_303, w_22, ⟨by decide, by decide⟩, by decide +kernel, w_301, w_302⟩
set_option maxRecDepth 20000 in
theorem mv_X0_isOutIn : MV mi_X0_isOutIn 1 := ⟨rfl, w_319, w_22, ⟨by decide, by decide⟩, by decide +kernel, w_317, w_318⟩
set_option maxRecDepth 20000 in
theorem mv_X0_allArrangements : MV mi_X0_allArrangements 0 := ⟨rfl, w_380, w_22, ⟨by decide, by decide⟩, by decide +kernel, w_378, w_379⟩
set_option maxRecDepth 20000 in
theorem mv_X0_behindStep : MV mi_X0_behindStep 3 := ⟨rfl, w_311, w_22, ⟨by decide, by decide⟩, by decide +kernel, w_309, w_310⟩
set_option maxRecDepth 20000 in
theorem mv_X0_behindSlide : MV mi_X0_behindSlide 3 := ⟨rfl, w_644, w_22, ⟨by decide, by decide⟩, by decide +kernel, w_642, w_643⟩
set_option maxRecDepth 20000 in
theorem mv_X0_costOf : MV mi_X0_costOf 1 := ⟨rfl, w_299, w_22, ⟨by decide, by decide⟩, by decide +kernel, w_297, w_298⟩
set_option maxRecDepth 20000 in
theorem mv_X0_forget : MV mi_X0_forget 0 := ⟨rfl, w_287, w_22, ⟨by decide, by decide⟩, by decide +kernel, w_285, w_286⟩
set_option maxRecDepth 20000 in
theorem mv_X0_find : MV mi_X0_find 2 := ⟨rfl, w_291, w_22, ⟨by decide, by decide⟩, by decide +kernel, w_289, w_290⟩
set_option maxRecDepth 20000 in
theorem mv_X0_spreadAlong : MV mi_X0_spreadAlong 5 := ⟨rfl, w_307, w_22, ⟨by decide, by decide⟩, by decide +kernel, w_305, w_306⟩
set_option maxRecDepth 20000 in
theorem mv_X0_spread : MV mi_X0_spread 1 := ⟨rfl, w_295, w_22, ⟨by decide, by decide⟩, by decide +kernel, w_293, w_294⟩
set_option maxRecDepth 20000 in
theorem mv_X0_spreadFromStart : MV mi_X0_spreadFromStart 1 := ⟨rfl, w_283, w_22, ⟨by decide, by decide⟩, by decide +kernel, w_281, w_282⟩
set_option maxRecDepth 20000 in
theorem mv_X0_leastCostOut : MV mi_X0_leastCostOut 0 := ⟨rfl, w_315, w_22, ⟨by decide, by decide⟩, by decide +kernel, w_313, w_314⟩
set_option maxRecDepth 20000 in
theorem mv_X0_slidesFromStart : MV mi_X0_slidesFromStart 0 := ⟨rfl, w_279, w_22, ⟨by decide, by decide⟩, by decide +kernel, w_277, w_278⟩
set_option maxRecDepth 20000 in
theorem mv_X0_stepsFromStart : MV mi_X0_stepsFromStart 0 := ⟨rfl, w_327, w_22, ⟨by decide, by decide⟩, by decide +kernel, w_325, w_326⟩
set_option maxRecDepth 20000 in
theorem mv_X0_slidesFromEnds : MV mi_X0_slidesFromEnds 0 := ⟨rfl, w_323, w_22, ⟨by decide, by decide⟩, by decide +kernel, w_321, w_322⟩
set_option maxRecDepth 20000 in
theorem mv_X0_foundOut : MV mi_X0_foundOut 0 := ⟨rfl, w_372, w_22, ⟨by decide, by decide⟩, by decide +kernel, w_370, w_371⟩
set_option maxRecDepth 20000 in
theorem mv_X0_farthestFound : MV mi_X0_farthestFound 0 := ⟨rfl, w_376, w_22, ⟨by decide, by decide⟩, by decide +kernel, w_374, w_375⟩
set_option maxRecDepth 20000 in
theorem mv_X0_findNextSlide : MV mi_X0_findNextSlide 1 := ⟨rfl, w_640, w_22, ⟨by decide, by decide⟩, by decide +kernel, w_638, w_639⟩
set_option maxRecDepth 20000 in
theorem mv_X0_isCheaper : MV mi_X0_isCheaper 2 := ⟨rfl, w_339, w_22, ⟨by decide, by decide⟩, by decide +kernel, w_337, w_338⟩
set_option maxRecDepth 20000 in
theorem mv_X0_cheapen : MV mi_X0_cheapen 2 := ⟨rfl, w_335, w_22, ⟨by decide, by decide⟩, by decide +kernel, w_333, w_334⟩
set_option maxRecDepth 20000 in
theorem mv_X0_inBucket : MV mi_X0_inBucket 2 := ⟨rfl, w_351, w_22, ⟨by decide, by decide⟩, by decide +kernel, w_349, w_350⟩
set_option maxRecDepth 20000 in
theorem mv_X0_emptyBucket : MV mi_X0_emptyBucket 1 := ⟨rfl, w_355, w_22, ⟨by decide, by decide⟩, by decide +kernel, w_353, w_354⟩
set_option maxRecDepth 20000 in
theorem mv_X0_hasOutFor : MV mi_X0_hasOutFor 1 := ⟨rfl, w_347, w_22, ⟨by decide, by decide⟩, by decide +kernel, w_345, w_346⟩
set_option maxRecDepth 20000 in
theorem mv_X0_isAnyFilled : MV mi_X0_isAnyFilled 0 := ⟨rfl, w_343, w_22, ⟨by decide, by decide⟩, by decide +kernel, w_341, w_342⟩
set_option maxRecDepth 20000 in
theorem mv_X0_fuelByBuckets : MV mi_X0_fuelByBuckets 0 := ⟨rfl, w_331, w_22, ⟨by decide, by decide⟩, by decide +kernel, w_329, w_330⟩
set_option maxRecDepth 20000 in
theorem mv_X0_hasCheapenedAround : MV mi_X0_hasCheapenedAround 1 := ⟨rfl, w_363, w_22, ⟨by decide, by decide⟩, by decide +kernel, w_361, w_362⟩
set_option maxRecDepth 20000 in
theorem mv_X0_fuelByRounds : MV mi_X0_fuelByRounds 0 := ⟨rfl, w_359, w_22, ⟨by decide, by decide⟩, by decide +kernel, w_357, w_358⟩
set_option maxRecDepth 20000 in
theorem mv_X1_hasCar : MV mi_X1_hasCar 1 := ⟨rfl, w_230, w_21, ⟨by decide, by decide⟩, by decide +kernel, w_228, w_229⟩
set_option maxRecDepth 20000 in
theorem mv_X1_hasSlide : MV mi_X1_hasSlide 1 := ⟨rfl, w_620, w_21, ⟨by decide, by decide⟩, by decide +kernel, w_618, w_619⟩
set_option maxRecDepth 20000 in
theorem mv_X1_hasWallAt : MV mi_X1_hasWallAt 1 := ⟨rfl, w_392, w_21, ⟨by decide, by decide⟩, by decide +kernel, w_390, w_391⟩
set_option maxRecDepth 20000 in
theorem mv_X1_carAt : MV mi_X1_carAt 1 := ⟨rfl, w_388, w_21, ⟨by decide, by decide⟩, by decide +kernel, w_386, w_387⟩
set_option maxRecDepth 20000 in
theorem mv_X1_takenCells : MV mi_X1_takenCells 0 := ⟨rfl, w_206, w_21, ⟨by decide, by decide⟩, by decide +kernel, w_204, w_205⟩
set_option maxRecDepth 20000 in
theorem mv_X1_isRedOut : MV mi_X1_isRedOut 0 := ⟨rfl, w_218, w_21, ⟨by decide, by decide⟩, by decide +kernel, w_216, w_217⟩
set_option maxRecDepth 20000 in
theorem ms_X3_bitOf : MS mi_X3_bitOf 2 := ⟨rfl, w_234, w_20, ⟨by decide, by decide⟩, by decide +kernel, w_233⟩
set_option maxRecDepth 20000 in
theorem mv_X1_roomOf : MV mi_X1_roomOf 2 := ⟨rfl, w_226, w_21, ⟨by decide, by decide⟩, by decide +kernel, w_224, w_225⟩
set_option maxRecDepth 20000 in
theorem mv_X1_troubleOfEntering : MV mi_X1_troubleOfEntering 3 := ⟨rfl, w_447, w_21, ⟨by decide, by decide⟩, by decide +kernel, w_445, w_446⟩
set_option maxRecDepth 20000 in
theorem mv_X1_enter : MV mi_X1_enter 3 := ⟨rfl, w_572, w_21, ⟨by decide, by decide⟩, by decide +kernel, w_570, w_571⟩
set_option maxRecDepth 20000 in
theorem mv_X1_leave : MV mi_X1_leave 0 := ⟨rfl, w_587, w_21, ⟨by decide, by decide⟩, by decide +kernel, w_585, w_586⟩
set_option maxRecDepth 20000 in
theorem ms_J6_bitCount_0f7a4 : MS mi_J6_bitCount_0f7a4 1 := ⟨rfl, w_195, w_32, ⟨by decide, by decide⟩, by decide +kernel, w_194⟩
set_option maxRecDepth 20000 in
theorem ms_X3_isCell : MS mi_X3_isCell 1 := ⟨rfl, w_715, w_20, ⟨by decide, by decide⟩, by decide +kernel, w_714⟩
set_option maxRecDepth 20000 in
theorem mv_X1_troubleOfWall : MV mi_X1_troubleOfWall 1 := ⟨rfl, w_712, w_21, ⟨by decide, by decide⟩, by decide +kernel, w_710, w_711⟩
set_option maxRecDepth 20000 in
theorem mv_X1_turnWall : MV mi_X1_turnWall 1 := ⟨rfl, w_722, w_21, ⟨by decide, by decide⟩, by decide +kernel, w_720, w_721⟩
set_option maxRecDepth 20000 in
theorem mv_X1_troubleOfSliding : MV mi_X1_troubleOfSliding 2 := ⟨rfl, w_598, w_21, ⟨by decide, by decide⟩, by decide +kernel, w_596, w_597⟩
set_option maxRecDepth 20000 in
theorem mv_X1_makeSlide : MV mi_X1_makeSlide 2 := ⟨rfl, w_604, w_21, ⟨by decide, by decide⟩, by decide +kernel, w_602, w_603⟩
set_option maxRecDepth 20000 in
theorem mv_X1_unmakeSlide : MV mi_X1_unmakeSlide 0 := ⟨rfl, w_616, w_21, ⟨by decide, by decide⟩, by decide +kernel, w_614, w_615⟩
set_option maxRecDepth 20000 in
theorem mv_X1_loggedSteps : MV mi_X1_loggedSteps 1 := ⟨rfl, w_249, w_21, ⟨by decide, by decide⟩, by decide +kernel, w_247, w_248⟩
set_option maxRecDepth 20000 in
theorem mv_X1_fuelSlideBySlide : MV mi_X1_fuelSlideBySlide 0 := ⟨rfl, w_238, w_21, ⟨by decide, by decide⟩, by decide +kernel, w_236, w_237⟩
set_option maxRecDepth 20000 in
theorem mv_X1_fuelCarByCar : MV mi_X1_fuelCarByCar 0 := ⟨rfl, w_245, w_21, ⟨by decide, by decide⟩, by decide +kernel, w_243, w_244⟩
set_option maxRecDepth 20000 in
theorem mv_X2_add : MV mi_X2_add 1 := ⟨rfl, w_659, w_23, ⟨by decide, by decide⟩, by decide +kernel, w_657, w_658⟩
set_option maxRecDepth 20000 in
theorem mv_X2_clear : MV mi_X2_clear 0 := ⟨rfl, w_742, w_23, ⟨by decide, by decide⟩, by decide +kernel, w_740, w_741⟩
set_option maxRecDepth 20000 in
theorem mv_X2_codeAt : MV mi_X2_codeAt 1 := ⟨rfl, w_418, w_23, ⟨by decide, by decide⟩, by decide +kernel, w_416, w_417⟩
set_option maxRecDepth 20000 in
theorem mv_X2_digitAt : MV mi_X2_digitAt 1 := ⟨rfl, w_695, w_23, ⟨by decide, by decide⟩, by decide +kernel, w_693, w_694⟩
set_option maxRecDepth 20000 in
theorem mv_X2_signAt : MV mi_X2_signAt 1 := ⟨rfl, w_730, w_23, ⟨by decide, by decide⟩, by decide +kernel, w_728, w_729⟩
set_option maxRecDepth 20000 in
theorem ms_X2_isAmong : MS mi_X2_isAmong 3 := ⟨rfl, w_680, w_23, ⟨by decide, by decide⟩, by decide +kernel, w_679⟩
set_option maxRecDepth 20000 in
theorem mv_X2_cellAt : MV mi_X2_cellAt 1 := ⟨rfl, w_703, w_23, ⟨by decide, by decide⟩, by decide +kernel, w_701, w_702⟩
set_option maxRecDepth 20000 in
theorem mv_X2_nextPart : MV mi_X2_nextPart 1 := ⟨rfl, w_738, w_23, ⟨by decide, by decide⟩, by decide +kernel, w_736, w_737⟩
set_option maxRecDepth 20000 in
theorem ms_X2_behindBegin : MS mi_X2_behindBegin 1 := ⟨rfl, w_677, w_23, ⟨by decide, by decide⟩, by decide +kernel, w_676⟩
set_option maxRecDepth 20000 in
theorem ms_X2_behindEnd : MS mi_X2_behindEnd 1 := ⟨rfl, w_686, w_23, ⟨by decide, by decide⟩, by decide +kernel, w_685⟩
set_option maxRecDepth 20000 in
theorem ms_X2_behindWall : MS mi_X2_behindWall 1 := ⟨rfl, w_683, w_23, ⟨by decide, by decide⟩, by decide +kernel, w_682⟩
set_option maxRecDepth 20000 in
theorem ms_X2_behind : MS mi_X2_behind 2 := ⟨rfl, w_674, w_23, ⟨by decide, by decide⟩, by decide +kernel, w_673⟩
set_option maxRecDepth 20000 in
theorem mv_X2_isComplete : MV mi_X2_isComplete 0 := ⟨rfl, w_670, w_23, ⟨by decide, by decide⟩, by decide +kernel, w_668, w_669⟩
set_option maxRecDepth 20000 in
theorem ms_X3_refuse : MS mi_X3_refuse 1 := ⟨rfl, w_450, w_20, ⟨by decide, by decide⟩, by decide +kernel, w_449⟩
set_option maxRecDepth 20000 in
theorem mv_X3_dropOldestSaved : MV mi_X3_dropOldestSaved 0 := ⟨rfl, w_558, w_20, ⟨by decide, by decide⟩, by decide +kernel, w_557, w_10⟩
set_option maxRecDepth 20000 in
theorem mv_X3_save : MV mi_X3_save 0 := ⟨rfl, w_554, w_20, ⟨by decide, by decide⟩, by decide +kernel, w_553, w_9⟩
set_option maxRecDepth 20000 in
theorem mv_X3_addCar : MV mi_X3_addCar 3 := ⟨rfl, w_443, w_20, ⟨by decide, by decide⟩, by decide +kernel, w_441, w_442⟩
set_option maxRecDepth 20000 in
theorem mv_X3_dropLast : MV mi_X3_dropLast 0 := ⟨rfl, w_582, w_20, ⟨by decide, by decide⟩, by decide +kernel, w_580, w_581⟩
set_option maxRecDepth 20000 in
theorem mv_X3_toggleWall : MV mi_X3_toggleWall 1 := ⟨rfl, w_870, w_20, ⟨by decide, by decide⟩, by decide +kernel, w_868, w_869⟩
set_option maxRecDepth 20000 in
theorem mv_X3_slide : MV mi_X3_slide 2 := ⟨rfl, w_594, w_20, ⟨by decide, by decide⟩, by decide +kernel, w_592, w_593⟩
set_option maxRecDepth 20000 in
theorem mv_X3_takeBack : MV mi_X3_takeBack 0 := ⟨rfl, w_611, w_20, ⟨by decide, by decide⟩, by decide +kernel, w_609, w_610⟩
set_option maxRecDepth 20000 in
theorem mv_X3_rewind : MV mi_X3_rewind 0 := ⟨rfl, w_949, w_20, ⟨by decide, by decide⟩, by decide +kernel, w_947, w_948⟩
set_option maxRecDepth 20000 in
theorem mv_X3_makePlan : MV mi_X3_makePlan 1 := ⟨rfl, w_636, w_20, ⟨by decide, by decide⟩, by decide +kernel, w_635, w_12⟩
set_option maxRecDepth 20000 in
theorem mv_X3_exploreNow : MV mi_X3_exploreNow 0 := ⟨rfl, w_253, w_20, ⟨by decide, by decide⟩, by decide +kernel, w_252, w_1⟩
set_option maxRecDepth 20000 in
theorem mv_X3_slidesToDriveOut : MV mi_X3_slidesToDriveOut 0 := ⟨rfl, w_631, w_20, ⟨by decide, by decide⟩, by decide +kernel, w_630, w_11⟩
set_option maxRecDepth 20000 in
theorem mv_X3_driveOut : MV mi_X3_driveOut 0 := ⟨rfl, w_627, w_20, ⟨by decide, by decide⟩, by decide +kernel, w_625, w_626⟩
set_option maxRecDepth 20000 in
theorem mv_X3_append : MV mi_X3_append 1 := ⟨rfl, w_653, w_20, ⟨by decide, by decide⟩, by decide +kernel, w_651, w_652⟩
set_option maxRecDepth 20000 in
theorem mv_X3_tryEntering : MV mi_X3_tryEntering 3 := ⟨rfl, w_699, w_20, ⟨by decide, by decide⟩, by decide +kernel, w_698, w_14⟩
set_option maxRecDepth 20000 in
theorem mv_X3_trySliding : MV mi_X3_trySliding 2 := ⟨rfl, w_734, w_20, ⟨by decide, by decide⟩, by decide +kernel, w_733, w_17⟩
set_option maxRecDepth 20000 in
theorem mv_X3_tryTakingBack : MV mi_X3_tryTakingBack 0 := ⟨rfl, w_726, w_20, ⟨by decide, by decide⟩, by decide +kernel, w_725, w_16⟩
set_option maxRecDepth 20000 in
theorem mv_X3_tryWall : MV mi_X3_tryWall 1 := ⟨rfl, w_708, w_20, ⟨by decide, by decide⟩, by decide +kernel, w_707, w_15⟩
set_option maxRecDepth 20000 in
theorem mv_X3_tryPart : MV mi_X3_tryPart 1 := ⟨rfl, w_691, w_20, ⟨by decide, by decide⟩, by decide +kernel, w_690, w_13⟩
set_option maxRecDepth 20000 in
theorem mv_X3_work : MV mi_X3_work 0 := ⟨rfl, w_666, w_20, ⟨by decide, by decide⟩, by decide +kernel, w_664, w_665⟩
set_option maxRecDepth 20000 in
theorem mv_X3_stoppedPart : MV mi_X3_stoppedPart 0 := ⟨rfl, w_749, w_20, ⟨by decide, by decide⟩, by decide +kernel, w_747, w_748⟩
set_option maxRecDepth 20000 in
theorem mv_X3_undo : MV mi_X3_undo 0 := ⟨rfl, w_757, w_20, ⟨by decide, by decide⟩, by decide +kernel, w_755, w_756⟩
set_option maxRecDepth 20000 in
theorem mv_X3_undo_n : MV mi_X3_undo_n 0 := ⟨rfl, w_757, w_20, ⟨by decide, by decide⟩, by decide +kernel, w_755, w_756⟩
set_option maxRecDepth 20000 in
theorem mv_X3_keep : MV mi_X3_keep 0 := ⟨rfl, w_953, w_20, ⟨by decide, by decide⟩, by decide +kernel, w_951, w_952⟩
set_option maxRecDepth 20000 in
theorem mv_X3_restore : MV mi_X3_restore 0 := ⟨rfl, w_765, w_20, ⟨by decide, by decide⟩, by decide +kernel, w_763, w_764⟩
set_option maxRecDepth 20000 in
theorem mv_X3_savedStates : MV mi_X3_savedStates 0 := ⟨rfl, w_960, w_20, ⟨by decide, by decide⟩, by decide +kernel, w_958, w_959⟩
set_option maxRecDepth 20000 in
theorem mv_X3_cars : MV mi_X3_cars 0 := ⟨rfl, w_430, w_20, ⟨by decide, by decide⟩, by decide +kernel, w_428, w_429⟩
set_option maxRecDepth 20000 in
theorem mv_X3_walls : MV mi_X3_walls 0 := ⟨rfl, w_192, w_20, ⟨by decide, by decide⟩, by decide +kernel, w_190, w_191⟩
set_option maxRecDepth 20000 in
theorem mv_X3_laneOf : MV mi_X3_laneOf 1 := ⟨rfl, w_773, w_20, ⟨by decide, by decide⟩, by decide +kernel, w_771, w_772⟩
set_option maxRecDepth 20000 in
theorem mv_X3_laneOf_n : MV mi_X3_laneOf_n 1 := ⟨rfl, w_773, w_20, ⟨by decide, by decide⟩, by decide +kernel, w_771, w_772⟩
set_option maxRecDepth 20000 in
theorem mv_X3_placeOf : MV mi_X3_placeOf 1 := ⟨rfl, w_782, w_20, ⟨by decide, by decide⟩, by decide +kernel, w_780, w_781⟩
set_option maxRecDepth 20000 in
theorem mv_X3_placeOf_n : MV mi_X3_placeOf_n 1 := ⟨rfl, w_782, w_20, ⟨by decide, by decide⟩, by decide +kernel, w_780, w_781⟩
set_option maxRecDepth 20000 in
theorem mv_X3_lengthOf : MV mi_X3_lengthOf 1 := ⟨rfl, w_789, w_20, ⟨by decide, by decide⟩, by decide +kernel, w_787, w_788⟩
set_option maxRecDepth 20000 in
theorem mv_X3_lengthOf_n : MV mi_X3_lengthOf_n 1 := ⟨rfl, w_789, w_20, ⟨by decide, by decide⟩, by decide +kernel, w_787, w_788⟩
set_option maxRecDepth 20000 in
theorem mv_X3_carOn : MV mi_X3_carOn 1 := ⟨rfl, w_796, w_20, ⟨by decide, by decide⟩, by decide +kernel, w_794, w_795⟩
set_option maxRecDepth 20000 in
theorem mv_X3_carOn_n : MV mi_X3_carOn_n 1 := ⟨rfl, w_796, w_20, ⟨by decide, by decide⟩, by decide +kernel, w_794, w_795⟩
set_option maxRecDepth 20000 in
theorem mv_X3_isWall : MV mi_X3_isWall 1 := ⟨rfl, w_877, w_20, ⟨by decide, by decide⟩, by decide +kernel, w_875, w_876⟩
set_option maxRecDepth 20000 in
theorem mv_X3_isWall_n : MV mi_X3_isWall_n 1 := ⟨rfl, w_877, w_20, ⟨by decide, by decide⟩, by decide +kernel, w_875, w_876⟩
set_option maxRecDepth 20000 in
theorem mv_X3_freeCells : MV mi_X3_freeCells 0 := ⟨rfl, w_202, w_20, ⟨by decide, by decide⟩, by decide +kernel, w_200, w_201⟩
set_option maxRecDepth 20000 in
theorem mv_X3_isOut : MV mi_X3_isOut 0 := ⟨rfl, w_214, w_20, ⟨by decide, by decide⟩, by decide +kernel, w_212, w_213⟩
set_option maxRecDepth 20000 in
theorem mv_X3_room : MV mi_X3_room 2 := ⟨rfl, w_884, w_20, ⟨by decide, by decide⟩, by decide +kernel, w_882, w_883⟩
set_option maxRecDepth 20000 in
theorem mv_X3_room_n : MV mi_X3_room_n 2 := ⟨rfl, w_884, w_20, ⟨by decide, by decide⟩, by decide +kernel, w_882, w_883⟩
set_option maxRecDepth 20000 in
theorem mv_X3_possibleSlides : MV mi_X3_possibleSlides 0 := ⟨rfl, w_222, w_20, ⟨by decide, by decide⟩, by decide +kernel, w_220, w_221⟩
set_option maxRecDepth 20000 in
theorem mv_X3_logged : MV mi_X3_logged 0 := ⟨rfl, w_888, w_20, ⟨by decide, by decide⟩, by decide +kernel, w_886, w_887⟩
set_option maxRecDepth 20000 in
theorem mv_X3_carOfSlide : MV mi_X3_carOfSlide 1 := ⟨rfl, w_805, w_20, ⟨by decide, by decide⟩, by decide +kernel, w_803, w_804⟩
set_option maxRecDepth 20000 in
theorem mv_X3_carOfSlide_n : MV mi_X3_carOfSlide_n 1 := ⟨rfl, w_805, w_20, ⟨by decide, by decide⟩, by decide +kernel, w_803, w_804⟩
set_option maxRecDepth 20000 in
theorem mv_X3_changeBySlide : MV mi_X3_changeBySlide 1 := ⟨rfl, w_814, w_20, ⟨by decide, by decide⟩, by decide +kernel, w_812, w_813⟩
set_option maxRecDepth 20000 in
theorem mv_X3_changeBySlide_n : MV mi_X3_changeBySlide_n 1 := ⟨rfl, w_814, w_20, ⟨by decide, by decide⟩, by decide +kernel, w_812, w_813⟩
set_option maxRecDepth 20000 in
theorem mv_X3_stepsOf : MV mi_X3_stepsOf 1 := ⟨rfl, w_821, w_20, ⟨by decide, by decide⟩, by decide +kernel, w_819, w_820⟩
set_option maxRecDepth 20000 in
theorem mv_X3_stepsOf_n : MV mi_X3_stepsOf_n 1 := ⟨rfl, w_821, w_20, ⟨by decide, by decide⟩, by decide +kernel, w_819, w_820⟩
set_option maxRecDepth 20000 in
theorem mv_X3_fuel : MV mi_X3_fuel 0 := ⟨rfl, w_899, w_20, ⟨by decide, by decide⟩, by decide +kernel, w_897, w_898⟩
set_option maxRecDepth 20000 in
theorem mv_X3_fuelByCars : MV mi_X3_fuelByCars 0 := ⟨rfl, w_903, w_20, ⟨by decide, by decide⟩, by decide +kernel, w_901, w_902⟩
set_option maxRecDepth 20000 in
theorem mv_X3_fewestSlides : MV mi_X3_fewestSlides 0 := ⟨rfl, w_910, w_20, ⟨by decide, by decide⟩, by decide +kernel, w_908, w_909⟩
set_option maxRecDepth 20000 in
theorem mv_X3_fewestSlidesFromEnds : MV mi_X3_fewestSlidesFromEnds 0 := ⟨rfl, w_926, w_20, ⟨by decide, by decide⟩, by decide +kernel, w_924, w_925⟩
set_option maxRecDepth 20000 in
theorem mv_X3_fewestSteps : MV mi_X3_fewestSteps 0 := ⟨rfl, w_914, w_20, ⟨by decide, by decide⟩, by decide +kernel, w_912, w_913⟩
set_option maxRecDepth 20000 in
theorem mv_X3_leastFuel : MV mi_X3_leastFuel 0 := ⟨rfl, w_918, w_20, ⟨by decide, by decide⟩, by decide +kernel, w_916, w_917⟩
set_option maxRecDepth 20000 in
theorem mv_X3_leastFuelByRounds : MV mi_X3_leastFuelByRounds 0 := ⟨rfl, w_930, w_20, ⟨by decide, by decide⟩, by decide +kernel, w_928, w_929⟩
set_option maxRecDepth 20000 in
theorem mv_X3_hasNextSlide : MV mi_X3_hasNextSlide 0 := ⟨rfl, w_832, w_20, ⟨by decide, by decide⟩, by decide +kernel, w_831, w_18⟩
set_option maxRecDepth 20000 in
theorem mv_X3_nextCar : MV mi_X3_nextCar 0 := ⟨rfl, w_828, w_20, ⟨by decide, by decide⟩, by decide +kernel, w_826, w_827⟩
set_option maxRecDepth 20000 in
theorem mv_X3_nextChange : MV mi_X3_nextChange 0 := ⟨rfl, w_840, w_20, ⟨by decide, by decide⟩, by decide +kernel, w_838, w_839⟩
set_option maxRecDepth 20000 in
theorem mv_X3_reachable : MV mi_X3_reachable 0 := ⟨rfl, w_922, w_20, ⟨by decide, by decide⟩, by decide +kernel, w_920, w_921⟩
set_option maxRecDepth 20000 in
theorem mv_X3_reachableOut : MV mi_X3_reachableOut 0 := ⟨rfl, w_934, w_20, ⟨by decide, by decide⟩, by decide +kernel, w_932, w_933⟩
set_option maxRecDepth 20000 in
theorem mv_X3_farthest : MV mi_X3_farthest 0 := ⟨rfl, w_942, w_20, ⟨by decide, by decide⟩, by decide +kernel, w_940, w_941⟩
set_option maxRecDepth 20000 in
theorem mv_X3_arrangements : MV mi_X3_arrangements 0 := ⟨rfl, w_938, w_20, ⟨by decide, by decide⟩, by decide +kernel, w_936, w_937⟩
set_option maxRecDepth 20000 in
theorem mv_X3_fewestBehind : MV mi_X3_fewestBehind 2 := ⟨rfl, w_847, w_20, ⟨by decide, by decide⟩, by decide +kernel, w_845, w_846⟩
set_option maxRecDepth 20000 in
theorem mv_X3_fewestWithoutLast : MV mi_X3_fewestWithoutLast 0 := ⟨rfl, w_854, w_20, ⟨by decide, by decide⟩, by decide +kernel, w_852, w_853⟩
set_option maxRecDepth 20000 in
theorem mv_X3_fewestWithWall : MV mi_X3_fewestWithWall 1 := ⟨rfl, w_862, w_20, ⟨by decide, by decide⟩, by decide +kernel, w_860, w_861⟩
set_option maxRecDepth 20000 in
theorem ms_X3_bitsOf : MS mi_X3_bitsOf 1 := ⟨rfl, w_407, w_20, ⟨by decide, by decide⟩, by decide +kernel, w_406⟩
set_option maxRecDepth 20000 in
theorem ms_X3_mix : MS mi_X3_mix 2 := ⟨rfl, w_187, w_20, ⟨by decide, by decide⟩, by decide +kernel, w_186⟩
set_option maxRecDepth 20000 in
theorem mv_X3_hashOfArrangements : MV mi_X3_hashOfArrangements 1 := ⟨rfl, w_368, w_20, ⟨by decide, by decide⟩, by decide +kernel, w_367, w_3⟩
set_option maxRecDepth 20000 in
theorem mv_X3_hashOfCars : MV mi_X3_hashOfCars 1 := ⟨rfl, w_396, w_20, ⟨by decide, by decide⟩, by decide +kernel, w_395, w_5⟩
set_option maxRecDepth 20000 in
theorem mv_X3_hashOfCells : MV mi_X3_hashOfCells 1 := ⟨rfl, w_384, w_20, ⟨by decide, by decide⟩, by decide +kernel, w_383, w_4⟩
set_option maxRecDepth 20000 in
theorem mv_X3_hashOfLog : MV mi_X3_hashOfLog 1 := ⟨rfl, w_401, w_20, ⟨by decide, by decide⟩, by decide +kernel, w_400, w_6⟩
set_option maxRecDepth 20000 in
theorem mv_X3_hashOfPark : MV mi_X3_hashOfPark 1 := ⟨rfl, w_184, w_20, ⟨by decide, by decide⟩, by decide +kernel, w_183, w_0⟩
set_option maxRecDepth 20000 in
theorem mv_X3_hashOfPlans : MV mi_X3_hashOfPlans 1 := ⟨rfl, w_275, w_20, ⟨by decide, by decide⟩, by decide +kernel, w_274, w_2⟩
set_option maxRecDepth 20000 in
theorem mv_X3_hashOfText : MV mi_X3_hashOfText 1 := ⟨rfl, w_414, w_20, ⟨by decide, by decide⟩, by decide +kernel, w_413, w_7⟩
set_option maxRecDepth 20000 in
theorem ms_X3_share : MS mi_X3_share 2 := ⟨rfl, w_404, w_20, ⟨by decide, by decide⟩, by decide +kernel, w_403⟩
set_option maxRecDepth 20000 in
theorem mv_X3_digest : MV mi_X3_digest 0 := ⟨rfl, w_179, w_20, ⟨by decide, by decide⟩, by decide +kernel, w_177, w_178⟩
