/-! ===== methods with their room; words ===== -/
abbrev mi_X1_become : MI := (yX1_become, cX1_become, 2, none, 1, 60, 0, 0, [])
abbrev mi_X3_copy : MI := (yX3_copy, cX3_copy, 2, none, 2, 81, 0, 0, [])
abbrev mi_X0_together : MI := (yX0_together, cX0_together, 3, some .int, 0, 0, 0, 0, [])
abbrev mi_X3_cellsOf : MI := (yX3_cellsOf, cX3_cellsOf, 3, some .int, 0, 0, 0, 0, [])
abbrev mi_X0_addToTable : MI := (yX0_addToTable, cX0_addToTable, 7, none, 1, 40, 0, 0, [])
abbrev mi_X0_load : MI := (yX0_load, cX0_load, 5, none, 2, 66, 0, 0, [])
abbrev mi_X0_exists : MI := (yX0_exists, cX0_exists, 2, some .boolean, 0, 0, 0, 0, [])
abbrev mi_X0_isOutIn : MI := (yX0_isOutIn, cX0_isOutIn, 2, some .boolean, 0, 0, 0, 0, [])
abbrev mi_X0_allArrangements : MI := (yX0_allArrangements, cX0_allArrangements, 3, some .int, 1, 21, 0, 0, [])
abbrev mi_X0_behindStep : MI := (yX0_behindStep, cX0_behindStep, 6, some .int, 0, 0, 0, 0, [])
abbrev mi_X0_behindSlide : MI := (yX0_behindSlide, cX0_behindSlide, 7, some .int, 1, 40, 0, 0, [])
abbrev mi_X0_costOf : MI := (yX0_costOf, cX0_costOf, 2, some .int, 1, 21, 0, 0, [])
abbrev mi_X0_forget : MI := (yX0_forget, cX0_forget, 2, none, 0, 0, 0, 0, [])
abbrev mi_X0_find : MI := (yX0_find, cX0_find, 3, none, 0, 0, 0, 0, [])
abbrev mi_X0_spreadAlong : MI := (yX0_spreadAlong, cX0_spreadAlong, 8, none, 1, 25, 0, 0, [])
abbrev mi_X0_spread : MI := (yX0_spread, cX0_spread, 5, none, 2, 52, 0, 0, [])
abbrev mi_X0_spreadFromStart : MI := (yX0_spreadFromStart, cX0_spreadFromStart, 2, none, 3, 76, 0, 0, [])
abbrev mi_X0_leastCostOut : MI := (yX0_leastCostOut, cX0_leastCostOut, 4, some .int, 2, 42, 0, 0, [])
abbrev mi_X0_slidesFromStart : MI := (yX0_slidesFromStart, cX0_slidesFromStart, 1, some .int, 4, 97, 0, 0, [])
abbrev mi_X0_stepsFromStart : MI := (yX0_stepsFromStart, cX0_stepsFromStart, 1, some .int, 4, 97, 0, 0, [])
abbrev mi_X0_slidesFromEnds : MI := (yX0_slidesFromEnds, cX0_slidesFromEnds, 2, some .int, 3, 76, 0, 0, [])
abbrev mi_X0_foundOut : MI := (yX0_foundOut, cX0_foundOut, 3, some .int, 1, 21, 0, 0, [])
abbrev mi_X0_farthestFound : MI := (yX0_farthestFound, cX0_farthestFound, 2, some .int, 2, 42, 0, 0, [])
abbrev mi_X0_findNextSlide : MI := (yX0_findNextSlide, cX0_findNextSlide, 5, some .boolean, 2, 66, 0, 0, [])
abbrev mi_X0_isCheaper : MI := (yX0_isCheaper, cX0_isCheaper, 3, some .boolean, 1, 21, 0, 0, [])
abbrev mi_X0_cheapen : MI := (yX0_cheapen, cX0_cheapen, 4, none, 2, 43, 0, 0, [])
abbrev mi_X0_inBucket : MI := (yX0_inBucket, cX0_inBucket, 5, some .int, 2, 42, 0, 0, [])
abbrev mi_X0_emptyBucket : MI := (yX0_emptyBucket, cX0_emptyBucket, 6, none, 3, 66, 0, 0, [])
abbrev mi_X0_hasOutFor : MI := (yX0_hasOutFor, cX0_hasOutFor, 4, some .boolean, 3, 66, 0, 0, [])
abbrev mi_X0_isAnyFilled : MI := (yX0_isAnyFilled, cX0_isAnyFilled, 1, some .boolean, 0, 0, 0, 0, [])
abbrev mi_X0_fuelByBuckets : MI := (yX0_fuelByBuckets, cX0_fuelByBuckets, 2, some .int, 4, 91, 0, 0, [])
abbrev mi_X0_hasCheapenedAround : MI := (yX0_hasCheapenedAround, cX0_hasCheapenedAround, 7, some .boolean, 2, 43, 0, 0, [])
abbrev mi_X0_fuelByRounds : MI := (yX0_fuelByRounds, cX0_fuelByRounds, 4, some .int, 3, 69, 0, 0, [])
abbrev mi_X1_hasCar : MI := (yX1_hasCar, cX1_hasCar, 2, some .boolean, 0, 0, 0, 0, [])
abbrev mi_X1_hasSlide : MI := (yX1_hasSlide, cX1_hasSlide, 2, some .boolean, 0, 0, 0, 0, [])
abbrev mi_X1_hasWallAt : MI := (yX1_hasWallAt, cX1_hasWallAt, 2, some .boolean, 0, 0, 0, 0, [])
abbrev mi_X1_carAt : MI := (yX1_carAt, cX1_carAt, 3, some .int, 1, 22, 0, 0, [])
abbrev mi_X1_takenCells : MI := (yX1_takenCells, cX1_takenCells, 3, some .int, 1, 22, 0, 0, [])
abbrev mi_X1_isRedOut : MI := (yX1_isRedOut, cX1_isRedOut, 1, some .boolean, 0, 0, 0, 0, [])
abbrev mi_X3_bitOf : MI := (yX3_bitOf, cX3_bitOf, 2, some .int, 0, 0, 0, 0, [])
abbrev mi_X1_roomOf : MI := (yX1_roomOf, cX1_roomOf, 6, some .int, 2, 44, 0, 0, [])
abbrev mi_X1_troubleOfEntering : MI := (yX1_troubleOfEntering, cX1_troubleOfEntering, 6, some .int, 2, 44, 0, 0, [])
abbrev mi_X1_enter : MI := (yX1_enter, cX1_enter, 5, some .int, 0, 0, 0, 0, [])
abbrev mi_X1_leave : MI := (yX1_leave, cX1_leave, 1, some .int, 0, 0, 0, 0, [])
abbrev mi_J6_bitCount_0f7a4 : MI := (yJ6_bitCount_0f7a4, cJ6_bitCount_0f7a4, 1, some .int, 0, 0, 0, 0, [])
abbrev mi_X3_isCell : MI := (yX3_isCell, cX3_isCell, 1, some .boolean, 0, 0, 0, 0, [])
abbrev mi_X1_troubleOfWall : MI := (yX1_troubleOfWall, cX1_troubleOfWall, 3, some .int, 2, 44, 0, 0, [])
abbrev mi_X1_turnWall : MI := (yX1_turnWall, cX1_turnWall, 2, some .boolean, 1, 21, 0, 0, [])
abbrev mi_X1_troubleOfSliding : MI := (yX1_troubleOfSliding, cX1_troubleOfSliding, 4, some .int, 3, 69, 0, 0, [])
abbrev mi_X1_makeSlide : MI := (yX1_makeSlide, cX1_makeSlide, 3, some .int, 1, 21, 0, 0, [])
abbrev mi_X1_unmakeSlide : MI := (yX1_unmakeSlide, cX1_unmakeSlide, 2, some .int, 1, 21, 0, 0, [])
abbrev mi_X1_loggedSteps : MI := (yX1_loggedSteps, cX1_loggedSteps, 4, some .int, 1, 40, 0, 0, [])
abbrev mi_X1_fuelSlideBySlide : MI := (yX1_fuelSlideBySlide, cX1_fuelSlideBySlide, 4, some .int, 1, 40, 0, 0, [])
abbrev mi_X1_fuelCarByCar : MI := (yX1_fuelCarByCar, cX1_fuelCarByCar, 3, some .int, 2, 63, 0, 0, [])
abbrev mi_X2_add : MI := (yX2_add, cX2_add, 2, some .int, 0, 0, 0, 0, [])
abbrev mi_X2_clear : MI := (yX2_clear, cX2_clear, 2, some .int, 0, 0, 0, 0, [])
abbrev mi_X2_codeAt : MI := (yX2_codeAt, cX2_codeAt, 2, some .int, 0, 0, 0, 0, [])
abbrev mi_X2_digitAt : MI := (yX2_digitAt, cX2_digitAt, 2, some .int, 1, 21, 0, 0, [])
abbrev mi_X2_signAt : MI := (yX2_signAt, cX2_signAt, 2, some .int, 1, 21, 0, 0, [])
abbrev mi_X2_isAmong : MI := (yX2_isAmong, cX2_isAmong, 3, some .boolean, 0, 0, 0, 0, [])
abbrev mi_X2_cellAt : MI := (yX2_cellAt, cX2_cellAt, 3, some .int, 2, 42, 0, 0, [])
abbrev mi_X2_nextPart : MI := (yX2_nextPart, cX2_nextPart, 3, some .int, 1, 21, 0, 0, [])
abbrev mi_X2_behindBegin : MI := (yX2_behindBegin, cX2_behindBegin, 1, some .int, 1, 22, 0, 0, [])
abbrev mi_X2_behindEnd : MI := (yX2_behindEnd, cX2_behindEnd, 1, some .int, 0, 0, 0, 0, [])
abbrev mi_X2_behindWall : MI := (yX2_behindWall, cX2_behindWall, 1, some .int, 1, 22, 0, 0, [])
abbrev mi_X2_behind : MI := (yX2_behind, cX2_behind, 2, some .int, 2, 42, 0, 0, [])
abbrev mi_X2_errorAt : MI := (yX2_errorAt, cX2_errorAt, 3, some .int, 3, 63, 0, 0, [])
abbrev mi_X2_isComplete : MI := (yX2_isComplete, cX2_isComplete, 3, some .boolean, 3, 63, 0, 0, [])
abbrev mi_X3_refuse : MI := (yX3_refuse, cX3_refuse, 1, none, 6, 90, 1, 6, [])
abbrev mi_X3_dropOldestSaved : MI := (yX3_dropOldestSaved, cX3_dropOldestSaved, 3, none, 0, 0, 0, 0, [])
abbrev mi_X3_save : MI := (yX3_save, cX3_save, 1, none, 3, 102, 0, 0, [])
abbrev mi_X3_addCar : MI := (yX3_addCar, cX3_addCar, 4, some .int, 7, 122, 1, 6, [])
abbrev mi_X3_dropLast : MI := (yX3_dropLast, cX3_dropLast, 1, some .int, 6, 122, 1, 6, [])
abbrev mi_X3_toggleWall : MI := (yX3_toggleWall, cX3_toggleWall, 2, some .boolean, 7, 122, 1, 6, [])
abbrev mi_X3_slide : MI := (yX3_slide, cX3_slide, 3, some .int, 7, 122, 2, 12, [])
abbrev mi_X3_takeBack : MI := (yX3_takeBack, cX3_takeBack, 1, some .int, 6, 122, 1, 6, [])
abbrev mi_X3_rewind : MI := (yX3_rewind, cX3_rewind, 2, some .int, 4, 122, 0, 0, [])
abbrev mi_X3_makePlan : MI := (yX3_makePlan, cX3_makePlan, 6, some .boolean, 3, 90, 0, 0, [])
abbrev mi_X3_exploreNow : MI := (yX3_exploreNow, cX3_exploreNow, 1, none, 3, 90, 0, 0, [])
abbrev mi_X3_slidesToDriveOut : MI := (yX3_slidesToDriveOut, cX3_slidesToDriveOut, 2, some .int, 4, 110, 0, 0, [])
abbrev mi_X3_driveOut : MI := (yX3_driveOut, cX3_driveOut, 2, some .int, 6, 131, 1, 6, [])
abbrev mi_X3_append : MI := (yX3_append, cX3_append, 2, some .int, 6, 90, 1, 6, [])
abbrev mi_X3_clearBuffer : MI := (yX3_clearBuffer, cX3_clearBuffer, 1, some .int, 1, 21, 0, 0, [])
abbrev mi_X3_firstError : MI := (yX3_firstError, cX3_firstError, 1, some .int, 4, 85, 0, 0, [])
abbrev mi_X3_tryEntering : MI := (yX3_tryEntering, cX3_tryEntering, 5, some .boolean, 3, 69, 0, 0, [])
abbrev mi_X3_trySliding : MI := (yX3_trySliding, cX3_trySliding, 4, some .boolean, 4, 92, 0, 0, [])
abbrev mi_X3_tryTakingBack : MI := (yX3_tryTakingBack, cX3_tryTakingBack, 2, some .boolean, 2, 42, 0, 0, [])
abbrev mi_X3_tryWall : MI := (yX3_tryWall, cX3_tryWall, 3, some .boolean, 3, 66, 0, 0, [])
abbrev mi_X3_tryPart : MI := (yX3_tryPart, cX3_tryPart, 2, some .boolean, 5, 131, 0, 0, [])
abbrev mi_X3_work : MI := (yX3_work, cX3_work, 5, some .int, 6, 152, 1, 6, [])
abbrev mi_X3_hasStopped : MI := (yX3_hasStopped, cX3_hasStopped, 1, some .boolean, 0, 0, 0, 0, [])
abbrev mi_X3_stoppedPart : MI := (yX3_stoppedPart, cX3_stoppedPart, 1, some .int, 6, 90, 1, 6, [])
abbrev mi_X3_undo : MI := (yX3_undo, cX3_undo, 1, some .int, 6, 102, 1, 6, [])
abbrev mi_X3_keep : MI := (yX3_keep, cX3_keep, 1, some .int, 3, 102, 0, 0, [])
abbrev mi_X3_restore : MI := (yX3_restore, cX3_restore, 1, some .int, 6, 122, 1, 6, [])
abbrev mi_X3_savedStates : MI := (yX3_savedStates, cX3_savedStates, 1, some .int, 0, 0, 0, 0, [])
abbrev mi_X3_cars : MI := (yX3_cars, cX3_cars, 1, some .int, 0, 0, 0, 0, [])
abbrev mi_X3_walls : MI := (yX3_walls, cX3_walls, 1, some .int, 1, 20, 0, 0, [])
abbrev mi_X3_laneOf : MI := (yX3_laneOf, cX3_laneOf, 2, some .int, 6, 90, 1, 6, [])
abbrev mi_X3_placeOf : MI := (yX3_placeOf, cX3_placeOf, 2, some .int, 6, 90, 1, 6, [])
abbrev mi_X3_lengthOf : MI := (yX3_lengthOf, cX3_lengthOf, 2, some .int, 6, 90, 1, 6, [])
abbrev mi_X3_carOn : MI := (yX3_carOn, cX3_carOn, 2, some .int, 6, 90, 1, 6, [])
abbrev mi_X3_isWall : MI := (yX3_isWall, cX3_isWall, 2, some .boolean, 6, 90, 1, 6, [])
abbrev mi_X3_freeCells : MI := (yX3_freeCells, cX3_freeCells, 1, some .int, 2, 44, 0, 0, [])
abbrev mi_X3_isOut : MI := (yX3_isOut, cX3_isOut, 1, some .boolean, 1, 20, 0, 0, [])
abbrev mi_X3_room : MI := (yX3_room, cX3_room, 3, some .int, 6, 90, 1, 6, [])
abbrev mi_X3_possibleSlides : MI := (yX3_possibleSlides, cX3_possibleSlides, 3, some .int, 3, 69, 0, 0, [])
abbrev mi_X3_logged : MI := (yX3_logged, cX3_logged, 1, some .int, 0, 0, 0, 0, [])
abbrev mi_X3_carOfSlide : MI := (yX3_carOfSlide, cX3_carOfSlide, 2, some .int, 6, 90, 1, 6, [])
abbrev mi_X3_changeBySlide : MI := (yX3_changeBySlide, cX3_changeBySlide, 2, some .int, 6, 90, 1, 6, [])
abbrev mi_X3_stepsOf : MI := (yX3_stepsOf, cX3_stepsOf, 2, some .int, 6, 90, 1, 6, [])
abbrev mi_X3_fuel : MI := (yX3_fuel, cX3_fuel, 1, some .int, 2, 63, 0, 0, [])
abbrev mi_X3_fuelByCars : MI := (yX3_fuelByCars, cX3_fuelByCars, 1, some .int, 3, 85, 0, 0, [])
abbrev mi_X3_fewestSlides : MI := (yX3_fewestSlides, cX3_fewestSlides, 1, some .int, 5, 117, 0, 0, [])
abbrev mi_X3_fewestSlidesFromEnds : MI := (yX3_fewestSlidesFromEnds, cX3_fewestSlidesFromEnds, 1, some .int, 4, 110, 0, 0, [])
abbrev mi_X3_fewestSteps : MI := (yX3_fewestSteps, cX3_fewestSteps, 1, some .int, 5, 117, 0, 0, [])
abbrev mi_X3_leastFuel : MI := (yX3_leastFuel, cX3_leastFuel, 1, some .int, 5, 112, 0, 0, [])
abbrev mi_X3_leastFuelByRounds : MI := (yX3_leastFuelByRounds, cX3_leastFuelByRounds, 1, some .int, 4, 110, 0, 0, [])
abbrev mi_X3_hasNextSlide : MI := (yX3_hasNextSlide, cX3_hasNextSlide, 1, some .boolean, 4, 110, 0, 0, [])
abbrev mi_X3_nextCar : MI := (yX3_nextCar, cX3_nextCar, 1, some .int, 6, 130, 1, 6, [])
abbrev mi_X3_nextChange : MI := (yX3_nextChange, cX3_nextChange, 1, some .int, 6, 130, 1, 6, [])
abbrev mi_X3_reachable : MI := (yX3_reachable, cX3_reachable, 1, some .int, 4, 110, 0, 0, [])
abbrev mi_X3_reachableOut : MI := (yX3_reachableOut, cX3_reachableOut, 1, some .int, 4, 110, 0, 0, [])
abbrev mi_X3_farthest : MI := (yX3_farthest, cX3_farthest, 1, some .int, 4, 110, 0, 0, [])
abbrev mi_X3_arrangements : MI := (yX3_arrangements, cX3_arrangements, 1, some .int, 4, 110, 0, 0, [])
abbrev mi_X3_fewestBehind : MI := (yX3_fewestBehind, cX3_fewestBehind, 3, some .int, 7, 117, 1, 6, [])
abbrev mi_X3_fewestWithoutLast : MI := (yX3_fewestWithoutLast, cX3_fewestWithoutLast, 1, some .int, 6, 117, 1, 6, [])
abbrev mi_X3_fewestWithWall : MI := (yX3_fewestWithWall, cX3_fewestWithWall, 2, some .int, 6, 117, 1, 6, [])
abbrev mi_X3_share : MI := (yX3_share, cX3_share, 2, some .double, 0, 0, 0, 0, [])
abbrev mi_X3_reachedShare : MI := (yX3_reachedShare, cX3_reachedShare, 1, some .double, 4, 110, 0, 0, [])
abbrev mi_X3_bitsOf : MI := (yX3_bitsOf, cX3_bitsOf, 8, some .long, 0, 0, 0, 0, [])
abbrev mi_X3_mix : MI := (yX3_mix, cX3_mix, 4, some .long, 0, 0, 0, 0, [])
abbrev mi_X3_hashOfArrangements : MI := (yX3_hashOfArrangements, cX3_hashOfArrangements, 5, some .long, 3, 63, 0, 0, [])
abbrev mi_X3_hashOfCars : MI := (yX3_hashOfCars, cX3_hashOfCars, 6, some .long, 3, 69, 0, 0, [])
abbrev mi_X3_hashOfCells : MI := (yX3_hashOfCells, cX3_hashOfCells, 6, some .long, 2, 44, 0, 0, [])
abbrev mi_X3_hashOfLog : MI := (yX3_hashOfLog, cX3_hashOfLog, 6, some .long, 1, 23, 0, 0, [])
abbrev mi_X3_hashOfPark : MI := (yX3_hashOfPark, cX3_hashOfPark, 5, some .long, 4, 91, 0, 0, [])
abbrev mi_X3_hashOfPlans : MI := (yX3_hashOfPlans, cX3_hashOfPlans, 5, some .long, 5, 117, 0, 0, [])
abbrev mi_X3_hashOfText : MI := (yX3_hashOfText, cX3_hashOfText, 6, some .long, 1, 23, 0, 0, [])
abbrev mi_X3_digest : MI := (yX3_digest, cX3_digest, 3, some .long, 6, 141, 0, 0, [])
abbrev mi_X4_thrown : MI := (yX4_thrown, cX4_thrown, 1, some .int, 0, 0, 0, 0, [])
abbrev mi_X4_refused : MI := (yX4_refused, cX4_refused, 2, some .boolean, 0, 0, 0, 0, [])
abbrev mi_X4_in : MI := (yX4_in, cX4_in, 6, some .boolean, 0, 0, 0, 0, [])
abbrev mi_X4_copyState : MI := (yX4_copyState, cX4_copyState, 5, none, 0, 0, 0, 0, [])
abbrev mi_X4_bits : MI := (yX4_bits, cX4_bits, 3, some .int, 0, 0, 0, 0, [])
abbrev mi_X4_cells : MI := (yX4_cells, cX4_cells, 5, some .int, 0, 0, 0, 0, [])
abbrev mi_X4_cellsOf : MI := (yX4_cellsOf, cX4_cellsOf, 2, some .int, 1, 24, 0, 0, [])
abbrev mi_X4_occupied : MI := (yX4_occupied, cX4_occupied, 3, some .int, 2, 45, 0, 0, [])
abbrev mi_X4_isCar : MI := (yX4_isCar, cX4_isCar, 2, some .boolean, 1, 25, 0, 0, [])
abbrev mi_X4_isCell : MI := (yX4_isCell, cX4_isCell, 1, some .boolean, 1, 25, 0, 0, [])
abbrev mi_X4_space : MI := (yX4_space, cX4_space, 7, some .int, 3, 67, 0, 0, [])
abbrev mi_X4_canSlide : MI := (yX4_canSlide, cX4_canSlide, 3, some .boolean, 4, 93, 0, 0, [])
abbrev mi_X4_isFree : MI := (yX4_isFree, cX4_isFree, 1, some .boolean, 0, 0, 0, 0, [])
abbrev mi_X4_prepares : MI := (yX4_prepares, cX4_prepares, 6, none, 1, 24, 0, 0, [])
abbrev mi_X4_codeNow : MI := (yX4_codeNow, cX4_codeNow, 3, some .int, 0, 0, 0, 0, [])
abbrev mi_X4_setOf : MI := (yX4_setOf, cX4_setOf, 4, some .int, 0, 0, 0, 0, [])
abbrev mi_X4_isWhole : MI := (yX4_isWhole, cX4_isWhole, 5, some .boolean, 0, 0, 0, 0, [])
abbrev mi_X4_isEnd : MI := (yX4_isEnd, cX4_isEnd, 2, some .boolean, 0, 0, 0, 0, [])
abbrev mi_X4_reaches : MI := (yX4_reaches, cX4_reaches, 3, none, 0, 0, 0, 0, [])
abbrev mi_X4_goes : MI := (yX4_goes, cX4_goes, 9, none, 1, 25, 0, 0, [])
abbrev mi_X4_spreads : MI := (yX4_spreads, cX4_spreads, 4, none, 2, 53, 0, 0, [])
abbrev mi_X4_forgets : MI := (yX4_forgets, cX4_forgets, 2, none, 0, 0, 0, 0, [])
abbrev mi_X4_from : MI := (yX4_from, cX4_from, 3, none, 3, 76, 0, 0, [])
abbrev mi_X4_fromEnds : MI := (yX4_fromEnds, cX4_fromEnds, 2, none, 3, 76, 0, 0, [])
abbrev mi_X4_leastEnd : MI := (yX4_leastEnd, cX4_leastEnd, 3, some .int, 1, 21, 0, 0, [])
abbrev mi_X4_fewest : MI := (yX4_fewest, cX4_fewest, 2, some .int, 4, 98, 0, 0, [])
abbrev mi_X4_fewestEnds : MI := (yX4_fewestEnds, cX4_fewestEnds, 1, some .int, 4, 97, 0, 0, [])
abbrev mi_X4_cheapens : MI := (yX4_cheapens, cX4_cheapens, 3, none, 0, 0, 0, 0, [])
abbrev mi_X4_cheaper : MI := (yX4_cheaper, cX4_cheaper, 7, none, 1, 25, 0, 0, [])
abbrev mi_X4_cheapest : MI := (yX4_cheapest, cX4_cheapest, 4, some .int, 2, 51, 0, 0, [])
abbrev mi_X4_next : MI := (yX4_next, cX4_next, 6, some .int, 5, 115, 0, 0, [])
abbrev mi_X4_planned : MI := (yX4_planned, cX4_planned, 1, some .int, 4, 97, 0, 0, [])
abbrev mi_X4_saves : MI := (yX4_saves, cX4_saves, 2, none, 1, 24, 0, 0, [])
abbrev mi_X4_wrongCar : MI := (yX4_wrongCar, cX4_wrongCar, 4, some .int, 3, 67, 0, 0, [])
abbrev mi_X4_addOn : MI := (yX4_addOn, cX4_addOn, 5, some .int, 0, 0, 0, 0, [])
abbrev mi_X4_hasWall : MI := (yX4_hasWall, cX4_hasWall, 2, some .boolean, 0, 0, 0, 0, [])
abbrev mi_X4_canTurn : MI := (yX4_canTurn, cX4_canTurn, 2, some .boolean, 3, 67, 0, 0, [])
abbrev mi_X4_turnOn : MI := (yX4_turnOn, cX4_turnOn, 2, some .boolean, 1, 21, 0, 0, [])
abbrev mi_X4_slideOn : MI := (yX4_slideOn, cX4_slideOn, 3, some .int, 0, 0, 0, 0, [])
abbrev mi_X4_logCar : MI := (yX4_logCar, cX4_logCar, 2, some .int, 0, 0, 0, 0, [])
abbrev mi_X4_logBy : MI := (yX4_logBy, cX4_logBy, 2, some .int, 0, 0, 0, 0, [])
abbrev mi_X4_backOn : MI := (yX4_backOn, cX4_backOn, 2, some .int, 1, 21, 0, 0, [])
abbrev mi_X4_canDrive : MI := (yX4_canDrive, cX4_canDrive, 2, some .boolean, 5, 117, 0, 0, [])
abbrev mi_X4_driveOn : MI := (yX4_driveOn, cX4_driveOn, 4, some .int, 6, 140, 0, 0, [])
abbrev mi_X4_addCar : MI := (yX4_addCar, cX4_addCar, 4, some .int, 4, 90, 0, 0, [])
abbrev mi_X4_dropLast : MI := (yX4_dropLast, cX4_dropLast, 1, some .int, 2, 45, 0, 0, [])
abbrev mi_X4_toggleWall : MI := (yX4_toggleWall, cX4_toggleWall, 2, some .boolean, 4, 88, 0, 0, [])
abbrev mi_X4_isChange : MI := (yX4_isChange, cX4_isChange, 1, some .boolean, 1, 25, 0, 0, [])
abbrev mi_X4_slide : MI := (yX4_slide, cX4_slide, 3, some .int, 5, 115, 0, 0, [])
abbrev mi_X4_takeBack : MI := (yX4_takeBack, cX4_takeBack, 1, some .int, 2, 45, 0, 0, [])
abbrev mi_X4_rewind : MI := (yX4_rewind, cX4_rewind, 2, some .int, 2, 45, 0, 0, [])
abbrev mi_X4_driveOut : MI := (yX4_driveOut, cX4_driveOut, 1, some .int, 7, 163, 0, 0, [])
abbrev mi_X4_append : MI := (yX4_append, cX4_append, 2, some .int, 1, 25, 0, 0, [])
abbrev mi_X4_clearBuffer : MI := (yX4_clearBuffer, cX4_clearBuffer, 2, some .int, 0, 0, 0, 0, [])
abbrev mi_X4_goesOn : MI := (yX4_goesOn, cX4_goesOn, 3, some .boolean, 0, 0, 0, 0, [])
abbrev mi_X4_digit : MI := (yX4_digit, cX4_digit, 4, some .boolean, 1, 25, 0, 0, [])
abbrev mi_X4_car : MI := (yX4_car, cX4_car, 2, some .boolean, 2, 48, 0, 0, [])
abbrev mi_X4_cell : MI := (yX4_cell, cX4_cell, 1, some .boolean, 2, 48, 0, 0, [])
abbrev mi_X4_change : MI := (yX4_change, cX4_change, 1, some .boolean, 2, 48, 0, 0, [])
abbrev mi_X4_part : MI := (yX4_part, cX4_part, 2, some .boolean, 3, 69, 0, 0, [])
abbrev mi_X4_isSign : MI := (yX4_isSign, cX4_isSign, 1, some .boolean, 1, 25, 0, 0, [])
abbrev mi_X4_does : MI := (yX4_does, cX4_does, 2, some .boolean, 7, 163, 0, 0, [])
abbrev mi_X4_reads : MI := (yX4_reads, cX4_reads, 6, some .int, 8, 184, 0, 0, [])
abbrev mi_X4_firstError : MI := (yX4_firstError, cX4_firstError, 1, some .int, 9, 209, 0, 0, [])
abbrev mi_X4_work : MI := (yX4_work, cX4_work, 1, some .int, 9, 209, 0, 0, [])
abbrev mi_X4_hasStopped : MI := (yX4_hasStopped, cX4_hasStopped, 1, some .boolean, 0, 0, 0, 0, [])
abbrev mi_X4_stoppedPart : MI := (yX4_stoppedPart, cX4_stoppedPart, 1, some .int, 1, 21, 0, 0, [])
abbrev mi_X4_undo : MI := (yX4_undo, cX4_undo, 1, some .int, 1, 24, 0, 0, [])
abbrev mi_X4_keep : MI := (yX4_keep, cX4_keep, 1, some .int, 1, 24, 0, 0, [])
abbrev mi_X4_restore : MI := (yX4_restore, cX4_restore, 1, some .int, 2, 45, 0, 0, [])
abbrev mi_X4_savedStates : MI := (yX4_savedStates, cX4_savedStates, 1, some .int, 0, 0, 0, 0, [])
abbrev mi_X4_told : MI := (yX4_told, cX4_told, 2, some .int, 0, 0, 0, 0, [])
abbrev mi_X4_cars : MI := (yX4_cars, cX4_cars, 1, some .int, 1, 21, 0, 0, [])
abbrev mi_X4_walls : MI := (yX4_walls, cX4_walls, 1, some .int, 1, 22, 0, 0, [])
abbrev mi_X4_noCar : MI := (yX4_noCar, cX4_noCar, 2, some .boolean, 2, 46, 0, 0, [])
abbrev mi_X4_laneOf : MI := (yX4_laneOf, cX4_laneOf, 2, some .int, 3, 67, 0, 0, [])
abbrev mi_X4_placeOf : MI := (yX4_placeOf, cX4_placeOf, 2, some .int, 3, 67, 0, 0, [])
abbrev mi_X4_lengthOf : MI := (yX4_lengthOf, cX4_lengthOf, 2, some .int, 3, 67, 0, 0, [])
abbrev mi_X4_carAt : MI := (yX4_carAt, cX4_carAt, 3, some .int, 2, 45, 0, 0, [])
abbrev mi_X4_carOn : MI := (yX4_carOn, cX4_carOn, 2, some .int, 3, 67, 0, 0, [])
abbrev mi_X4_isWall : MI := (yX4_isWall, cX4_isWall, 2, some .boolean, 2, 45, 0, 0, [])
abbrev mi_X4_freeCells : MI := (yX4_freeCells, cX4_freeCells, 1, some .int, 3, 67, 0, 0, [])
abbrev mi_X4_isOut : MI := (yX4_isOut, cX4_isOut, 1, some .boolean, 1, 20, 0, 0, [])
abbrev mi_X4_room : MI := (yX4_room, cX4_room, 3, some .int, 4, 93, 0, 0, [])
abbrev mi_X4_slides : MI := (yX4_slides, cX4_slides, 3, some .int, 4, 93, 0, 0, [])
abbrev mi_X4_possibleSlides : MI := (yX4_possibleSlides, cX4_possibleSlides, 1, some .int, 5, 115, 0, 0, [])
abbrev mi_X4_logged : MI := (yX4_logged, cX4_logged, 1, some .int, 1, 21, 0, 0, [])
abbrev mi_X4_noSlide : MI := (yX4_noSlide, cX4_noSlide, 2, some .boolean, 1, 25, 0, 0, [])
abbrev mi_X4_carOfSlide : MI := (yX4_carOfSlide, cX4_carOfSlide, 2, some .int, 2, 46, 0, 0, [])
abbrev mi_X4_changeBySlide : MI := (yX4_changeBySlide, cX4_changeBySlide, 2, some .int, 2, 46, 0, 0, [])
abbrev mi_X4_stepsBy : MI := (yX4_stepsBy, cX4_stepsBy, 4, some .int, 1, 21, 0, 0, [])
abbrev mi_X4_stepsOf : MI := (yX4_stepsOf, cX4_stepsOf, 2, some .int, 3, 67, 0, 0, [])
abbrev mi_X4_burnt : MI := (yX4_burnt, cX4_burnt, 3, some .int, 2, 44, 0, 0, [])
abbrev mi_X4_fuel : MI := (yX4_fuel, cX4_fuel, 1, some .int, 3, 66, 0, 0, [])
abbrev mi_X4_fuelByCars : MI := (yX4_fuelByCars, cX4_fuelByCars, 1, some .int, 3, 66, 0, 0, [])
abbrev mi_X4_fewestSlides : MI := (yX4_fewestSlides, cX4_fewestSlides, 1, some .int, 5, 119, 0, 0, [])
abbrev mi_X4_fewestSlidesFromEnds : MI := (yX4_fewestSlidesFromEnds, cX4_fewestSlidesFromEnds, 1, some .int, 5, 117, 0, 0, [])
abbrev mi_X4_fewestSteps : MI := (yX4_fewestSteps, cX4_fewestSteps, 1, some .int, 5, 119, 0, 0, [])
abbrev mi_X4_leastFuel : MI := (yX4_leastFuel, cX4_leastFuel, 1, some .int, 3, 74, 0, 0, [])
abbrev mi_X4_leastFuelByRounds : MI := (yX4_leastFuelByRounds, cX4_leastFuelByRounds, 1, some .int, 3, 74, 0, 0, [])
abbrev mi_X4_nextSlide : MI := (yX4_nextSlide, cX4_nextSlide, 2, some .int, 6, 140, 0, 0, [])
abbrev mi_X4_nextCar : MI := (yX4_nextCar, cX4_nextCar, 1, some .int, 7, 161, 0, 0, [])
abbrev mi_X4_nextChange : MI := (yX4_nextChange, cX4_nextChange, 2, some .int, 7, 161, 0, 0, [])
abbrev mi_X4_reached : MI := (yX4_reached, cX4_reached, 4, some .int, 4, 98, 0, 0, [])
abbrev mi_X4_reachable : MI := (yX4_reachable, cX4_reachable, 1, some .int, 5, 121, 0, 0, [])
abbrev mi_X4_reachableOut : MI := (yX4_reachableOut, cX4_reachableOut, 1, some .int, 5, 121, 0, 0, [])
abbrev mi_X4_farthest : MI := (yX4_farthest, cX4_farthest, 1, some .int, 5, 121, 0, 0, [])
abbrev mi_X4_all : MI := (yX4_all, cX4_all, 3, some .int, 2, 49, 0, 0, [])
abbrev mi_X4_arrangements : MI := (yX4_arrangements, cX4_arrangements, 1, some .int, 3, 71, 0, 0, [])
abbrev mi_X4_fewestBehind : MI := (yX4_fewestBehind, cX4_fewestBehind, 3, some .int, 5, 115, 0, 0, [])
abbrev mi_X4_fewestWithoutLast : MI := (yX4_fewestWithoutLast, cX4_fewestWithoutLast, 1, some .int, 4, 98, 0, 0, [])
abbrev mi_X4_fewestWithWall : MI := (yX4_fewestWithWall, cX4_fewestWithWall, 2, some .int, 4, 98, 0, 0, [])
abbrev mi_X4_share : MI := (yX4_share, cX4_share, 2, some .double, 5, 121, 0, 0, [])
abbrev mi_X4_reachedShare : MI := (yX4_reachedShare, cX4_reachedShare, 1, some .double, 6, 142, 0, 0, [])
abbrev mi_X4_adds : MI := (yX4_adds, cX4_adds, 3, none, 0, 0, 0, 0, [])
abbrev mi_X4_addsCar : MI := (yX4_addsCar, cX4_addsCar, 2, none, 4, 93, 0, 0, [])
abbrev mi_X4_addsPlans : MI := (yX4_addsPlans, cX4_addsPlans, 2, none, 5, 121, 0, 0, [])
abbrev mi_Jxe99ae_isNaN_b9ae7 : MI := (yJxe99ae_isNaN_b9ae7, cJxe99ae_isNaN_b9ae7, 2, some .boolean, 0, 0, 0, 0, [])
abbrev mi_Jxe99ae_doubleToLongBits_ccdee : MI := (yJxe99ae_doubleToLongBits_ccdee, cJxe99ae_doubleToLongBits_ccdee, 2, some .long, 1, 40, 0, 0, [])
abbrev mi_X4_digest : MI := (yX4_digest, cX4_digest, 2, some .long, 6, 142, 0, 0, [])
theorem w_0 : Cond.selects RX3 yX3_save yX3_save ∈ SWL := SWL_mem 0 (by decide +kernel) rfl
theorem w_1 : Cond.selects RX3 yX3_dropOldestSaved yX3_dropOldestSaved ∈ SWL := SWL_mem 1 (by decide +kernel) rfl
theorem w_2 : Cond.selects RX3 yX3_exploreNow yX3_exploreNow ∈ SWL := SWL_mem 2 (by decide +kernel) rfl
theorem w_3 : Cond.selects RX3 yX3_hashOfPark yX3_hashOfPark ∈ SWL := SWL_mem 3 (by decide +kernel) rfl
theorem w_4 : Cond.selects RX3 yX3_hashOfPlans yX3_hashOfPlans ∈ SWL := SWL_mem 4 (by decide +kernel) rfl
theorem w_5 : Cond.selects RX3 yX3_hashOfArrangements yX3_hashOfArrangements ∈ SWL := SWL_mem 5 (by decide +kernel) rfl
theorem w_6 : Cond.selects RX3 yX3_hashOfCells yX3_hashOfCells ∈ SWL := SWL_mem 6 (by decide +kernel) rfl
theorem w_7 : Cond.selects RX3 yX3_hashOfCars yX3_hashOfCars ∈ SWL := SWL_mem 7 (by decide +kernel) rfl
theorem w_8 : Cond.selects RX3 yX3_hashOfLog yX3_hashOfLog ∈ SWL := SWL_mem 8 (by decide +kernel) rfl
theorem w_9 : Cond.selects RX3 yX3_hashOfText yX3_hashOfText ∈ SWL := SWL_mem 9 (by decide +kernel) rfl
theorem w_11 : Cond.selects RX3 yX3_slidesToDriveOut yX3_slidesToDriveOut ∈ SWL := SWL_mem 11 (by decide +kernel) rfl
theorem w_12 : Cond.selects RX3 yX3_makePlan yX3_makePlan ∈ SWL := SWL_mem 12 (by decide +kernel) rfl
theorem w_13 : Cond.selects RX3 yX3_tryPart yX3_tryPart ∈ SWL := SWL_mem 13 (by decide +kernel) rfl
theorem w_14 : Cond.selects RX3 yX3_tryEntering yX3_tryEntering ∈ SWL := SWL_mem 14 (by decide +kernel) rfl
theorem w_15 : Cond.selects RX3 yX3_tryWall yX3_tryWall ∈ SWL := SWL_mem 15 (by decide +kernel) rfl
theorem w_16 : Cond.selects RX3 yX3_tryTakingBack yX3_tryTakingBack ∈ SWL := SWL_mem 16 (by decide +kernel) rfl
theorem w_17 : Cond.selects RX3 yX3_trySliding yX3_trySliding ∈ SWL := SWL_mem 17 (by decide +kernel) rfl
theorem w_18 : Cond.selects RX3 yX3_hasNextSlide yX3_hasNextSlide ∈ SWL := SWL_mem 18 (by decide +kernel) rfl
theorem w_19 : Cond.selects RX4 yX4_wrongCar yX4_wrongCar ∈ SWL := SWL_mem 19 (by decide +kernel) rfl
theorem w_20 : Cond.selects RX4 yX4_occupied yX4_occupied ∈ SWL := SWL_mem 20 (by decide +kernel) rfl
theorem w_21 : Cond.selects RX4 yX4_cellsOf yX4_cellsOf ∈ SWL := SWL_mem 21 (by decide +kernel) rfl
theorem w_22 : Cond.selects RX4 yX4_refused yX4_refused ∈ SWL := SWL_mem 22 (by decide +kernel) rfl
theorem w_23 : Cond.selects RX4 yX4_saves yX4_saves ∈ SWL := SWL_mem 23 (by decide +kernel) rfl
theorem w_24 : Cond.selects RX4 yX4_addOn yX4_addOn ∈ SWL := SWL_mem 24 (by decide +kernel) rfl
theorem w_25 : Cond.selects RX4 yX4_canTurn yX4_canTurn ∈ SWL := SWL_mem 25 (by decide +kernel) rfl
theorem w_26 : Cond.selects RX4 yX4_hasWall yX4_hasWall ∈ SWL := SWL_mem 26 (by decide +kernel) rfl
theorem w_27 : Cond.selects RX4 yX4_turnOn yX4_turnOn ∈ SWL := SWL_mem 27 (by decide +kernel) rfl
theorem w_28 : Cond.selects RX4 yX4_isCar yX4_isCar ∈ SWL := SWL_mem 28 (by decide +kernel) rfl
theorem w_29 : Cond.selects RX4 yX4_canSlide yX4_canSlide ∈ SWL := SWL_mem 29 (by decide +kernel) rfl
theorem w_30 : Cond.selects RX4 yX4_space yX4_space ∈ SWL := SWL_mem 30 (by decide +kernel) rfl
theorem w_31 : Cond.selects RX4 yX4_slideOn yX4_slideOn ∈ SWL := SWL_mem 31 (by decide +kernel) rfl
theorem w_32 : Cond.selects RX4 yX4_backOn yX4_backOn ∈ SWL := SWL_mem 32 (by decide +kernel) rfl
theorem w_33 : Cond.selects RX4 yX4_logCar yX4_logCar ∈ SWL := SWL_mem 33 (by decide +kernel) rfl
theorem w_34 : Cond.selects RX4 yX4_logBy yX4_logBy ∈ SWL := SWL_mem 34 (by decide +kernel) rfl
theorem w_35 : Cond.selects RX4 yX4_canDrive yX4_canDrive ∈ SWL := SWL_mem 35 (by decide +kernel) rfl
theorem w_36 : Cond.selects RX4 yX4_planned yX4_planned ∈ SWL := SWL_mem 36 (by decide +kernel) rfl
theorem w_37 : Cond.selects RX4 yX4_prepares yX4_prepares ∈ SWL := SWL_mem 37 (by decide +kernel) rfl
theorem w_38 : Cond.selects RX4 yX4_fromEnds yX4_fromEnds ∈ SWL := SWL_mem 38 (by decide +kernel) rfl
theorem w_39 : Cond.selects RX4 yX4_forgets yX4_forgets ∈ SWL := SWL_mem 39 (by decide +kernel) rfl
theorem w_40 : Cond.selects RX4 yX4_isEnd yX4_isEnd ∈ SWL := SWL_mem 40 (by decide +kernel) rfl
theorem w_41 : Cond.selects RX4 yX4_isWhole yX4_isWhole ∈ SWL := SWL_mem 41 (by decide +kernel) rfl
theorem w_42 : Cond.selects RX4 yX4_reaches yX4_reaches ∈ SWL := SWL_mem 42 (by decide +kernel) rfl
theorem w_43 : Cond.selects RX4 yX4_spreads yX4_spreads ∈ SWL := SWL_mem 43 (by decide +kernel) rfl
theorem w_44 : Cond.selects RX4 yX4_goes yX4_goes ∈ SWL := SWL_mem 44 (by decide +kernel) rfl
theorem w_45 : Cond.selects RX4 yX4_setOf yX4_setOf ∈ SWL := SWL_mem 45 (by decide +kernel) rfl
theorem w_46 : Cond.selects RX4 yX4_codeNow yX4_codeNow ∈ SWL := SWL_mem 46 (by decide +kernel) rfl
theorem w_47 : Cond.selects RX4 yX4_driveOn yX4_driveOn ∈ SWL := SWL_mem 47 (by decide +kernel) rfl
theorem w_48 : Cond.selects RX4 yX4_next yX4_next ∈ SWL := SWL_mem 48 (by decide +kernel) rfl
theorem w_49 : Cond.selects RX4 yX4_reads yX4_reads ∈ SWL := SWL_mem 49 (by decide +kernel) rfl
theorem w_50 : Cond.selects RX4 yX4_part yX4_part ∈ SWL := SWL_mem 50 (by decide +kernel) rfl
theorem w_51 : Cond.selects RX4 yX4_car yX4_car ∈ SWL := SWL_mem 51 (by decide +kernel) rfl
theorem w_52 : Cond.selects RX4 yX4_digit yX4_digit ∈ SWL := SWL_mem 52 (by decide +kernel) rfl
theorem w_53 : Cond.selects RX4 yX4_goesOn yX4_goesOn ∈ SWL := SWL_mem 53 (by decide +kernel) rfl
theorem w_54 : Cond.selects RX4 yX4_cell yX4_cell ∈ SWL := SWL_mem 54 (by decide +kernel) rfl
theorem w_55 : Cond.selects RX4 yX4_change yX4_change ∈ SWL := SWL_mem 55 (by decide +kernel) rfl
theorem w_56 : Cond.selects RX4 yX4_does yX4_does ∈ SWL := SWL_mem 56 (by decide +kernel) rfl
theorem w_57 : Cond.selects RX4 yX4_told yX4_told ∈ SWL := SWL_mem 57 (by decide +kernel) rfl
theorem w_58 : Cond.selects RX4 yX4_noCar yX4_noCar ∈ SWL := SWL_mem 58 (by decide +kernel) rfl
theorem w_59 : Cond.selects RX4 yX4_carAt yX4_carAt ∈ SWL := SWL_mem 59 (by decide +kernel) rfl
theorem w_60 : Cond.selects RX4 yX4_isFree yX4_isFree ∈ SWL := SWL_mem 60 (by decide +kernel) rfl
theorem w_61 : Cond.selects RX4 yX4_slides yX4_slides ∈ SWL := SWL_mem 61 (by decide +kernel) rfl
theorem w_62 : Cond.selects RX4 yX4_noSlide yX4_noSlide ∈ SWL := SWL_mem 62 (by decide +kernel) rfl
theorem w_63 : Cond.selects RX4 yX4_stepsBy yX4_stepsBy ∈ SWL := SWL_mem 63 (by decide +kernel) rfl
theorem w_64 : Cond.selects RX4 yX4_burnt yX4_burnt ∈ SWL := SWL_mem 64 (by decide +kernel) rfl
theorem w_65 : Cond.selects RX4 yX4_fewest yX4_fewest ∈ SWL := SWL_mem 65 (by decide +kernel) rfl
theorem w_66 : Cond.selects RX4 yX4_from yX4_from ∈ SWL := SWL_mem 66 (by decide +kernel) rfl
theorem w_67 : Cond.selects RX4 yX4_leastEnd yX4_leastEnd ∈ SWL := SWL_mem 67 (by decide +kernel) rfl
theorem w_68 : Cond.selects RX4 yX4_fewestEnds yX4_fewestEnds ∈ SWL := SWL_mem 68 (by decide +kernel) rfl
theorem w_69 : Cond.selects RX4 yX4_cheapest yX4_cheapest ∈ SWL := SWL_mem 69 (by decide +kernel) rfl
theorem w_70 : Cond.selects RX4 yX4_cheapens yX4_cheapens ∈ SWL := SWL_mem 70 (by decide +kernel) rfl
theorem w_71 : Cond.selects RX4 yX4_cheaper yX4_cheaper ∈ SWL := SWL_mem 71 (by decide +kernel) rfl
theorem w_72 : Cond.selects RX4 yX4_nextSlide yX4_nextSlide ∈ SWL := SWL_mem 72 (by decide +kernel) rfl
theorem w_73 : Cond.selects RX4 yX4_reached yX4_reached ∈ SWL := SWL_mem 73 (by decide +kernel) rfl
theorem w_74 : Cond.selects RX4 yX4_all yX4_all ∈ SWL := SWL_mem 74 (by decide +kernel) rfl
theorem w_75 : Cond.selects RX4 yX4_share yX4_share ∈ SWL := SWL_mem 75 (by decide +kernel) rfl
theorem w_76 : Cond.selects RX4 yX4_adds yX4_adds ∈ SWL := SWL_mem 76 (by decide +kernel) rfl
theorem w_77 : Cond.selects RX4 yX4_addsPlans yX4_addsPlans ∈ SWL := SWL_mem 77 (by decide +kernel) rfl
theorem w_78 : Cond.selects RX4 yX4_addsCar yX4_addsCar ∈ SWL := SWL_mem 78 (by decide +kernel) rfl
theorem w_80 : Cond.initialized "CarTangos" ∈ SWL := SWL_mem 80 (by decide +kernel) rfl
theorem w_81 : Cond.initialized "CarTangos$Park" ∈ SWL := SWL_mem 81 (by decide +kernel) rfl
theorem w_82 : Cond.initialized "CarTangos$Explorer" ∈ SWL := SWL_mem 82 (by decide +kernel) rfl
theorem w_83 : Cond.initialized "CarTangos$WorksText" ∈ SWL := SWL_mem 83 (by decide +kernel) rfl
theorem w_84 : Cond.initialized "CarTangosModel" ∈ SWL := SWL_mem 84 (by decide +kernel) rfl
theorem w_88 : Cond.initialized "java/lang/IndexOutOfBoundsException" ∈ SWL := SWL_mem 88 (by decide +kernel) rfl
theorem w_89 : Cond.initialized "java/lang/IllegalArgumentException" ∈ SWL := SWL_mem 89 (by decide +kernel) rfl
theorem w_90 : Cond.initialized "java/lang/IllegalStateException" ∈ SWL := SWL_mem 90 (by decide +kernel) rfl
theorem w_92 : Cond.initialized "java/lang/Integer" ∈ SWL := SWL_mem 92 (by decide +kernel) rfl
theorem w_93 : Cond.initialized "java/lang/Math" ∈ SWL := SWL_mem 93 (by decide +kernel) rfl
theorem w_94 : Cond.initialized "java/lang/Double" ∈ SWL := SWL_mem 94 (by decide +kernel) rfl
theorem w_109 : Cond.fieldLink RX1 9 "CarTangos$Park" "lanes" "[I" ∈ SWL := SWL_mem 109 (by decide +kernel) rfl
theorem w_110 : Cond.fieldLink RX0 55 "CarTangos$Park" "lanes" "[I" ∈ SWL := SWL_mem 110 (by decide +kernel) rfl
theorem w_111 : Cond.fieldLink RX3 169 "CarTangos$Park" "lanes" "[I" ∈ SWL := SWL_mem 111 (by decide +kernel) rfl
theorem w_112 : Cond.fieldLink RX1 15 "CarTangos$Park" "places" "[I" ∈ SWL := SWL_mem 112 (by decide +kernel) rfl
theorem w_113 : Cond.fieldLink RX0 52 "CarTangos$Park" "places" "[I" ∈ SWL := SWL_mem 113 (by decide +kernel) rfl
theorem w_114 : Cond.fieldLink RX3 173 "CarTangos$Park" "places" "[I" ∈ SWL := SWL_mem 114 (by decide +kernel) rfl
theorem w_115 : Cond.fieldLink RX1 18 "CarTangos$Park" "lengths" "[I" ∈ SWL := SWL_mem 115 (by decide +kernel) rfl
theorem w_116 : Cond.fieldLink RX0 49 "CarTangos$Park" "lengths" "[I" ∈ SWL := SWL_mem 116 (by decide +kernel) rfl
theorem w_117 : Cond.fieldLink RX3 176 "CarTangos$Park" "lengths" "[I" ∈ SWL := SWL_mem 117 (by decide +kernel) rfl
theorem w_118 : Cond.fieldLink RX1 21 "CarTangos$Park" "loggedCars" "[I" ∈ SWL := SWL_mem 118 (by decide +kernel) rfl
theorem w_119 : Cond.fieldLink RX3 204 "CarTangos$Park" "loggedCars" "[I" ∈ SWL := SWL_mem 119 (by decide +kernel) rfl
theorem w_120 : Cond.fieldLink RX1 24 "CarTangos$Park" "loggedChanges" "[I" ∈ SWL := SWL_mem 120 (by decide +kernel) rfl
theorem w_121 : Cond.fieldLink RX3 207 "CarTangos$Park" "loggedChanges" "[I" ∈ SWL := SWL_mem 121 (by decide +kernel) rfl
theorem w_122 : Cond.fieldLink RX1 33 "CarTangos$Park" "cars" "I" ∈ SWL := SWL_mem 122 (by decide +kernel) rfl
theorem w_123 : Cond.fieldLink RX3 59 "CarTangos$Park" "cars" "I" ∈ SWL := SWL_mem 123 (by decide +kernel) rfl
theorem w_124 : Cond.fieldLink RX1 37 "CarTangos$Park" "walls" "I" ∈ SWL := SWL_mem 124 (by decide +kernel) rfl
theorem w_125 : Cond.fieldLink RX3 153 "CarTangos$Park" "walls" "I" ∈ SWL := SWL_mem 125 (by decide +kernel) rfl
theorem w_126 : Cond.fieldLink RX1 40 "CarTangos$Park" "logged" "I" ∈ SWL := SWL_mem 126 (by decide +kernel) rfl
theorem w_127 : Cond.fieldLink RX3 85 "CarTangos$Park" "logged" "I" ∈ SWL := SWL_mem 127 (by decide +kernel) rfl
theorem w_129 : Cond.fieldLink RX3 137 "CarTangos$Park" "hasStop" "Z" ∈ SWL := SWL_mem 129 (by decide +kernel) rfl
theorem w_131 : Cond.fieldLink RX3 140 "CarTangos$Park" "stop" "I" ∈ SWL := SWL_mem 131 (by decide +kernel) rfl
theorem w_161 : Cond.fieldLink RX0 11 "CarTangos$Explorer" "lengths" "[I" ∈ SWL := SWL_mem 161 (by decide +kernel) rfl
theorem w_162 : Cond.fieldLink RX0 15 "CarTangos$Explorer" "taken" "[I" ∈ SWL := SWL_mem 162 (by decide +kernel) rfl
theorem w_163 : Cond.fieldLink RX0 18 "CarTangos$Explorer" "costs" "[I" ∈ SWL := SWL_mem 163 (by decide +kernel) rfl
theorem w_164 : Cond.fieldLink RX0 21 "CarTangos$Explorer" "found" "[I" ∈ SWL := SWL_mem 164 (by decide +kernel) rfl
theorem w_165 : Cond.fieldLink RX0 24 "CarTangos$Explorer" "buckets" "[I" ∈ SWL := SWL_mem 165 (by decide +kernel) rfl
theorem w_166 : Cond.fieldLink RX0 27 "CarTangos$Explorer" "filled" "[I" ∈ SWL := SWL_mem 166 (by decide +kernel) rfl
theorem w_167 : Cond.fieldLink RX0 39 "CarTangos$Explorer" "cars" "I" ∈ SWL := SWL_mem 167 (by decide +kernel) rfl
theorem w_168 : Cond.fieldLink RX0 43 "CarTangos$Explorer" "size" "I" ∈ SWL := SWL_mem 168 (by decide +kernel) rfl
theorem w_169 : Cond.fieldLink RX0 46 "CarTangos$Explorer" "start" "I" ∈ SWL := SWL_mem 169 (by decide +kernel) rfl
theorem w_170 : Cond.fieldLink RX3 263 "CarTangos$Explorer" "start" "I" ∈ SWL := SWL_mem 170 (by decide +kernel) rfl
theorem w_171 : Cond.fieldLink RX0 80 "CarTangos$Explorer" "foundCount" "I" ∈ SWL := SWL_mem 171 (by decide +kernel) rfl
theorem w_172 : Cond.fieldLink RX3 251 "CarTangos$Explorer" "foundCount" "I" ∈ SWL := SWL_mem 172 (by decide +kernel) rfl
theorem w_173 : Cond.fieldLink RX0 113 "CarTangos$Explorer" "nextCarOfPlan" "I" ∈ SWL := SWL_mem 173 (by decide +kernel) rfl
theorem w_174 : Cond.fieldLink RX3 242 "CarTangos$Explorer" "nextCarOfPlan" "I" ∈ SWL := SWL_mem 174 (by decide +kernel) rfl
theorem w_175 : Cond.fieldLink RX0 116 "CarTangos$Explorer" "nextChangeOfPlan" "I" ∈ SWL := SWL_mem 175 (by decide +kernel) rfl
theorem w_176 : Cond.fieldLink RX3 245 "CarTangos$Explorer" "nextChangeOfPlan" "I" ∈ SWL := SWL_mem 176 (by decide +kernel) rfl
theorem w_208 : Cond.fieldLink RX2 9 "CarTangos$WorksText" "codes" "[I" ∈ SWL := SWL_mem 208 (by decide +kernel) rfl
theorem w_209 : Cond.fieldLink RX2 15 "CarTangos$WorksText" "length" "I" ∈ SWL := SWL_mem 209 (by decide +kernel) rfl
theorem w_210 : Cond.fieldLink RX3 111 "CarTangos$WorksText" "length" "I" ∈ SWL := SWL_mem 210 (by decide +kernel) rfl
theorem w_216 : Cond.fieldLink RX3 10 "CarTangos" "now" "LCarTangos$Park;" ∈ SWL := SWL_mem 216 (by decide +kernel) rfl
theorem w_217 : Cond.fieldLink RX3 16 "CarTangos" "kept" "LCarTangos$Park;" ∈ SWL := SWL_mem 217 (by decide +kernel) rfl
theorem w_218 : Cond.fieldLink RX3 19 "CarTangos" "saved" "[LCarTangos$Park;" ∈ SWL := SWL_mem 218 (by decide +kernel) rfl
theorem w_219 : Cond.fieldLink RX3 26 "CarTangos" "explorer" "LCarTangos$Explorer;" ∈ SWL := SWL_mem 219 (by decide +kernel) rfl
theorem w_220 : Cond.fieldLink RX3 33 "CarTangos" "text" "LCarTangos$WorksText;" ∈ SWL := SWL_mem 220 (by decide +kernel) rfl
theorem w_221 : Cond.fieldLink RX3 37 "CarTangos" "savedCount" "I" ∈ SWL := SWL_mem 221 (by decide +kernel) rfl
theorem w_222 : Cond.fieldLink RX3 41 "CarTangos" "hasKept" "Z" ∈ SWL := SWL_mem 222 (by decide +kernel) rfl
theorem w_239 : Cond.instanceMethod yX3_rewind ∈ SWL := SWL_mem 239 (by decide +kernel) rfl
theorem w_240 : Cond.selects RX3 yX3_rewind yX3_rewind ∈ SWL := SWL_mem 240 (by decide +kernel) rfl
theorem w_241 : Cond.code yX3_rewind cX3_rewind 2 (some .int) ∈ SWL := SWL_mem 241 (by decide +kernel) rfl
theorem w_242 : Cond.methodLink RX3 53 yX3_save ∈ SWL := SWL_mem 242 (by decide +kernel) rfl
theorem w_244 : Cond.instanceMethod yX3_save ∈ SWL := SWL_mem 244 (by decide +kernel) rfl
theorem w_245 : Cond.code yX3_save cX3_save 1 (none) ∈ SWL := SWL_mem 245 (by decide +kernel) rfl
theorem w_246 : Cond.methodLink RX3 323 yX3_dropOldestSaved ∈ SWL := SWL_mem 246 (by decide +kernel) rfl
theorem w_248 : Cond.instanceMethod yX3_dropOldestSaved ∈ SWL := SWL_mem 248 (by decide +kernel) rfl
theorem w_249 : Cond.code yX3_dropOldestSaved cX3_dropOldestSaved 3 (none) ∈ SWL := SWL_mem 249 (by decide +kernel) rfl
theorem w_250 : Cond.methodLink RX3 147 yX3_copy ∈ SWL := SWL_mem 250 (by decide +kernel) rfl
theorem w_251 : Cond.static yX3_copy ∈ SWL := SWL_mem 251 (by decide +kernel) rfl
theorem w_252 : Cond.code yX3_copy cX3_copy 2 (none) ∈ SWL := SWL_mem 252 (by decide +kernel) rfl
theorem w_254 : Cond.instanceMethod yX1_become ∈ SWL := SWL_mem 254 (by decide +kernel) rfl
theorem w_255 : Cond.selects RX1 yX1_become yX1_become ∈ SWL := SWL_mem 255 (by decide +kernel) rfl
theorem w_256 : Cond.code yX1_become cX1_become 2 (none) ∈ SWL := SWL_mem 256 (by decide +kernel) rfl
theorem w_260 : Cond.methodLink RX3 95 yX1_unmakeSlide ∈ SWL := SWL_mem 260 (by decide +kernel) rfl
theorem w_261 : Cond.instanceMethod yX1_unmakeSlide ∈ SWL := SWL_mem 261 (by decide +kernel) rfl
theorem w_262 : Cond.selects RX1 yX1_unmakeSlide yX1_unmakeSlide ∈ SWL := SWL_mem 262 (by decide +kernel) rfl
theorem w_263 : Cond.code yX1_unmakeSlide cX1_unmakeSlide 2 (some .int) ∈ SWL := SWL_mem 263 (by decide +kernel) rfl
theorem w_264 : Cond.methodLink RX1 89 yX1_hasSlide ∈ SWL := SWL_mem 264 (by decide +kernel) rfl
theorem w_265 : Cond.instanceMethod yX1_hasSlide ∈ SWL := SWL_mem 265 (by decide +kernel) rfl
theorem w_266 : Cond.selects RX1 yX1_hasSlide yX1_hasSlide ∈ SWL := SWL_mem 266 (by decide +kernel) rfl
theorem w_267 : Cond.code yX1_hasSlide cX1_hasSlide 2 (some .boolean) ∈ SWL := SWL_mem 267 (by decide +kernel) rfl
theorem w_268 : Cond.methodLink RX1 54 yX1_hasCar ∈ SWL := SWL_mem 268 (by decide +kernel) rfl
theorem w_269 : Cond.instanceMethod yX1_hasCar ∈ SWL := SWL_mem 269 (by decide +kernel) rfl
theorem w_270 : Cond.selects RX1 yX1_hasCar yX1_hasCar ∈ SWL := SWL_mem 270 (by decide +kernel) rfl
theorem w_271 : Cond.code yX1_hasCar cX1_hasCar 2 (some .boolean) ∈ SWL := SWL_mem 271 (by decide +kernel) rfl
theorem w_273 : Cond.instanceMethod yX3_clearBuffer ∈ SWL := SWL_mem 273 (by decide +kernel) rfl
theorem w_274 : Cond.selects RX3 yX3_clearBuffer yX3_clearBuffer ∈ SWL := SWL_mem 274 (by decide +kernel) rfl
theorem w_275 : Cond.code yX3_clearBuffer cX3_clearBuffer 1 (some .int) ∈ SWL := SWL_mem 275 (by decide +kernel) rfl
theorem w_276 : Cond.methodLink RX3 119 yX2_clear ∈ SWL := SWL_mem 276 (by decide +kernel) rfl
theorem w_277 : Cond.instanceMethod yX2_clear ∈ SWL := SWL_mem 277 (by decide +kernel) rfl
theorem w_278 : Cond.selects RX2 yX2_clear yX2_clear ∈ SWL := SWL_mem 278 (by decide +kernel) rfl
theorem w_279 : Cond.code yX2_clear cX2_clear 2 (some .int) ∈ SWL := SWL_mem 279 (by decide +kernel) rfl
theorem w_281 : Cond.instanceMethod yX3_firstError ∈ SWL := SWL_mem 281 (by decide +kernel) rfl
theorem w_282 : Cond.selects RX3 yX3_firstError yX3_firstError ∈ SWL := SWL_mem 282 (by decide +kernel) rfl
theorem w_283 : Cond.code yX3_firstError cX3_firstError 1 (some .int) ∈ SWL := SWL_mem 283 (by decide +kernel) rfl
theorem w_284 : Cond.methodLink RX3 122 yX2_errorAt ∈ SWL := SWL_mem 284 (by decide +kernel) rfl
theorem w_285 : Cond.instanceMethod yX2_errorAt ∈ SWL := SWL_mem 285 (by decide +kernel) rfl
theorem w_286 : Cond.selects RX2 yX2_errorAt yX2_errorAt ∈ SWL := SWL_mem 286 (by decide +kernel) rfl
theorem w_287 : Cond.code yX2_errorAt cX2_errorAt 3 (some .int) ∈ SWL := SWL_mem 287 (by decide +kernel) rfl
theorem w_288 : Cond.methodLink RX2 19 yX2_codeAt ∈ SWL := SWL_mem 288 (by decide +kernel) rfl
theorem w_289 : Cond.instanceMethod yX2_codeAt ∈ SWL := SWL_mem 289 (by decide +kernel) rfl
theorem w_290 : Cond.selects RX2 yX2_codeAt yX2_codeAt ∈ SWL := SWL_mem 290 (by decide +kernel) rfl
theorem w_291 : Cond.code yX2_codeAt cX2_codeAt 2 (some .int) ∈ SWL := SWL_mem 291 (by decide +kernel) rfl
theorem w_292 : Cond.methodLink RX2 30 yX2_behind ∈ SWL := SWL_mem 292 (by decide +kernel) rfl
theorem w_293 : Cond.static yX2_behind ∈ SWL := SWL_mem 293 (by decide +kernel) rfl
theorem w_294 : Cond.code yX2_behind cX2_behind 2 (some .int) ∈ SWL := SWL_mem 294 (by decide +kernel) rfl
theorem w_295 : Cond.methodLink RX2 34 yX2_behindBegin ∈ SWL := SWL_mem 295 (by decide +kernel) rfl
theorem w_296 : Cond.static yX2_behindBegin ∈ SWL := SWL_mem 296 (by decide +kernel) rfl
theorem w_297 : Cond.code yX2_behindBegin cX2_behindBegin 1 (some .int) ∈ SWL := SWL_mem 297 (by decide +kernel) rfl
theorem w_298 : Cond.methodLink RX2 23 yX2_isAmong ∈ SWL := SWL_mem 298 (by decide +kernel) rfl
theorem w_299 : Cond.static yX2_isAmong ∈ SWL := SWL_mem 299 (by decide +kernel) rfl
theorem w_300 : Cond.code yX2_isAmong cX2_isAmong 3 (some .boolean) ∈ SWL := SWL_mem 300 (by decide +kernel) rfl
theorem w_301 : Cond.methodLink RX2 37 yX2_behindWall ∈ SWL := SWL_mem 301 (by decide +kernel) rfl
theorem w_302 : Cond.static yX2_behindWall ∈ SWL := SWL_mem 302 (by decide +kernel) rfl
theorem w_303 : Cond.code yX2_behindWall cX2_behindWall 1 (some .int) ∈ SWL := SWL_mem 303 (by decide +kernel) rfl
theorem w_304 : Cond.methodLink RX2 40 yX2_behindEnd ∈ SWL := SWL_mem 304 (by decide +kernel) rfl
theorem w_305 : Cond.static yX2_behindEnd ∈ SWL := SWL_mem 305 (by decide +kernel) rfl
theorem w_306 : Cond.code yX2_behindEnd cX2_behindEnd 1 (some .int) ∈ SWL := SWL_mem 306 (by decide +kernel) rfl
theorem w_308 : Cond.instanceMethod yX3_hasStopped ∈ SWL := SWL_mem 308 (by decide +kernel) rfl
theorem w_309 : Cond.selects RX3 yX3_hasStopped yX3_hasStopped ∈ SWL := SWL_mem 309 (by decide +kernel) rfl
theorem w_310 : Cond.code yX3_hasStopped cX3_hasStopped 1 (some .boolean) ∈ SWL := SWL_mem 310 (by decide +kernel) rfl
theorem w_312 : Cond.instanceMethod yX3_keep ∈ SWL := SWL_mem 312 (by decide +kernel) rfl
theorem w_313 : Cond.selects RX3 yX3_keep yX3_keep ∈ SWL := SWL_mem 313 (by decide +kernel) rfl
theorem w_314 : Cond.code yX3_keep cX3_keep 1 (some .int) ∈ SWL := SWL_mem 314 (by decide +kernel) rfl
theorem w_316 : Cond.instanceMethod yX3_savedStates ∈ SWL := SWL_mem 316 (by decide +kernel) rfl
theorem w_317 : Cond.selects RX3 yX3_savedStates yX3_savedStates ∈ SWL := SWL_mem 317 (by decide +kernel) rfl
theorem w_318 : Cond.code yX3_savedStates cX3_savedStates 1 (some .int) ∈ SWL := SWL_mem 318 (by decide +kernel) rfl
theorem w_320 : Cond.instanceMethod yX3_cars ∈ SWL := SWL_mem 320 (by decide +kernel) rfl
theorem w_321 : Cond.selects RX3 yX3_cars yX3_cars ∈ SWL := SWL_mem 321 (by decide +kernel) rfl
theorem w_322 : Cond.code yX3_cars cX3_cars 1 (some .int) ∈ SWL := SWL_mem 322 (by decide +kernel) rfl
theorem w_324 : Cond.instanceMethod yX3_walls ∈ SWL := SWL_mem 324 (by decide +kernel) rfl
theorem w_325 : Cond.selects RX3 yX3_walls yX3_walls ∈ SWL := SWL_mem 325 (by decide +kernel) rfl
theorem w_326 : Cond.code yX3_walls cX3_walls 1 (some .int) ∈ SWL := SWL_mem 326 (by decide +kernel) rfl
theorem w_327 : Cond.methodLink RX3 156 yJ6_bitCount_0f7a4 ∈ SWL := SWL_mem 327 (by decide +kernel) rfl
theorem w_328 : Cond.static yJ6_bitCount_0f7a4 ∈ SWL := SWL_mem 328 (by decide +kernel) rfl
theorem w_329 : Cond.code yJ6_bitCount_0f7a4 cJ6_bitCount_0f7a4 1 (some .int) ∈ SWL := SWL_mem 329 (by decide +kernel) rfl
theorem w_330 : Cond.constant RJ6 265 (1431655765 : Int32) ∈ SWL := SWL_mem 330 (by decide +kernel) rfl
theorem w_331 : Cond.constant RJ6 266 (858993459 : Int32) ∈ SWL := SWL_mem 331 (by decide +kernel) rfl
theorem w_332 : Cond.constant RJ6 267 (252645135 : Int32) ∈ SWL := SWL_mem 332 (by decide +kernel) rfl
theorem w_334 : Cond.instanceMethod yX3_freeCells ∈ SWL := SWL_mem 334 (by decide +kernel) rfl
theorem w_335 : Cond.selects RX3 yX3_freeCells yX3_freeCells ∈ SWL := SWL_mem 335 (by decide +kernel) rfl
theorem w_336 : Cond.code yX3_freeCells cX3_freeCells 1 (some .int) ∈ SWL := SWL_mem 336 (by decide +kernel) rfl
theorem w_337 : Cond.methodLink RX3 190 yX1_takenCells ∈ SWL := SWL_mem 337 (by decide +kernel) rfl
theorem w_338 : Cond.instanceMethod yX1_takenCells ∈ SWL := SWL_mem 338 (by decide +kernel) rfl
theorem w_339 : Cond.selects RX1 yX1_takenCells yX1_takenCells ∈ SWL := SWL_mem 339 (by decide +kernel) rfl
theorem w_340 : Cond.code yX1_takenCells cX1_takenCells 3 (some .int) ∈ SWL := SWL_mem 340 (by decide +kernel) rfl
theorem w_341 : Cond.methodLinkNest RX1 50 yX3_cellsOf "CarTangos" ∈ SWL := SWL_mem 341 (by decide +kernel) rfl
theorem w_342 : Cond.static yX3_cellsOf ∈ SWL := SWL_mem 342 (by decide +kernel) rfl
theorem w_343 : Cond.code yX3_cellsOf cX3_cellsOf 3 (some .int) ∈ SWL := SWL_mem 343 (by decide +kernel) rfl
theorem w_344 : Cond.constant RX3 355 (1082401 : Int32) ∈ SWL := SWL_mem 344 (by decide +kernel) rfl
theorem w_346 : Cond.instanceMethod yX3_isOut ∈ SWL := SWL_mem 346 (by decide +kernel) rfl
theorem w_347 : Cond.selects RX3 yX3_isOut yX3_isOut ∈ SWL := SWL_mem 347 (by decide +kernel) rfl
theorem w_348 : Cond.code yX3_isOut cX3_isOut 1 (some .boolean) ∈ SWL := SWL_mem 348 (by decide +kernel) rfl
theorem w_349 : Cond.methodLink RX3 193 yX1_isRedOut ∈ SWL := SWL_mem 349 (by decide +kernel) rfl
theorem w_350 : Cond.instanceMethod yX1_isRedOut ∈ SWL := SWL_mem 350 (by decide +kernel) rfl
theorem w_351 : Cond.selects RX1 yX1_isRedOut yX1_isRedOut ∈ SWL := SWL_mem 351 (by decide +kernel) rfl
theorem w_352 : Cond.code yX1_isRedOut cX1_isRedOut 1 (some .boolean) ∈ SWL := SWL_mem 352 (by decide +kernel) rfl
theorem w_354 : Cond.instanceMethod yX3_possibleSlides ∈ SWL := SWL_mem 354 (by decide +kernel) rfl
theorem w_355 : Cond.selects RX3 yX3_possibleSlides yX3_possibleSlides ∈ SWL := SWL_mem 355 (by decide +kernel) rfl
theorem w_356 : Cond.code yX3_possibleSlides cX3_possibleSlides 3 (some .int) ∈ SWL := SWL_mem 356 (by decide +kernel) rfl
theorem w_357 : Cond.methodLink RX3 196 yX1_roomOf ∈ SWL := SWL_mem 357 (by decide +kernel) rfl
theorem w_358 : Cond.instanceMethod yX1_roomOf ∈ SWL := SWL_mem 358 (by decide +kernel) rfl
theorem w_359 : Cond.selects RX1 yX1_roomOf yX1_roomOf ∈ SWL := SWL_mem 359 (by decide +kernel) rfl
theorem w_360 : Cond.code yX1_roomOf cX1_roomOf 6 (some .int) ∈ SWL := SWL_mem 360 (by decide +kernel) rfl
theorem w_361 : Cond.methodLink RX1 58 yX1_takenCells ∈ SWL := SWL_mem 361 (by decide +kernel) rfl
theorem w_362 : Cond.methodLinkNest RX1 62 yX3_bitOf "CarTangos" ∈ SWL := SWL_mem 362 (by decide +kernel) rfl
theorem w_363 : Cond.static yX3_bitOf ∈ SWL := SWL_mem 363 (by decide +kernel) rfl
theorem w_364 : Cond.code yX3_bitOf cX3_bitOf 2 (some .int) ∈ SWL := SWL_mem 364 (by decide +kernel) rfl
theorem w_366 : Cond.instanceMethod yX3_logged ∈ SWL := SWL_mem 366 (by decide +kernel) rfl
theorem w_367 : Cond.selects RX3 yX3_logged yX3_logged ∈ SWL := SWL_mem 367 (by decide +kernel) rfl
theorem w_368 : Cond.code yX3_logged cX3_logged 1 (some .int) ∈ SWL := SWL_mem 368 (by decide +kernel) rfl
theorem w_370 : Cond.instanceMethod yX3_fuel ∈ SWL := SWL_mem 370 (by decide +kernel) rfl
theorem w_371 : Cond.selects RX3 yX3_fuel yX3_fuel ∈ SWL := SWL_mem 371 (by decide +kernel) rfl
theorem w_372 : Cond.code yX3_fuel cX3_fuel 1 (some .int) ∈ SWL := SWL_mem 372 (by decide +kernel) rfl
theorem w_373 : Cond.methodLink RX3 213 yX1_fuelSlideBySlide ∈ SWL := SWL_mem 373 (by decide +kernel) rfl
theorem w_374 : Cond.instanceMethod yX1_fuelSlideBySlide ∈ SWL := SWL_mem 374 (by decide +kernel) rfl
theorem w_375 : Cond.selects RX1 yX1_fuelSlideBySlide yX1_fuelSlideBySlide ∈ SWL := SWL_mem 375 (by decide +kernel) rfl
theorem w_376 : Cond.code yX1_fuelSlideBySlide cX1_fuelSlideBySlide 4 (some .int) ∈ SWL := SWL_mem 376 (by decide +kernel) rfl
theorem w_377 : Cond.methodLink RX1 84 yJ9_abs_0f7a4 ∈ SWL := SWL_mem 377 (by decide +kernel) rfl
theorem w_378 : Cond.static yJ9_abs_0f7a4 ∈ SWL := SWL_mem 378 (by decide +kernel) rfl
theorem w_379 : Cond.code yJ9_abs_0f7a4 cJ9_abs_0f7a4 1 (some .int) ∈ SWL := SWL_mem 379 (by decide +kernel) rfl
theorem w_381 : Cond.instanceMethod yX3_fuelByCars ∈ SWL := SWL_mem 381 (by decide +kernel) rfl
theorem w_382 : Cond.selects RX3 yX3_fuelByCars yX3_fuelByCars ∈ SWL := SWL_mem 382 (by decide +kernel) rfl
theorem w_383 : Cond.code yX3_fuelByCars cX3_fuelByCars 1 (some .int) ∈ SWL := SWL_mem 383 (by decide +kernel) rfl
theorem w_384 : Cond.methodLink RX3 216 yX1_fuelCarByCar ∈ SWL := SWL_mem 384 (by decide +kernel) rfl
theorem w_385 : Cond.instanceMethod yX1_fuelCarByCar ∈ SWL := SWL_mem 385 (by decide +kernel) rfl
theorem w_386 : Cond.selects RX1 yX1_fuelCarByCar yX1_fuelCarByCar ∈ SWL := SWL_mem 386 (by decide +kernel) rfl
theorem w_387 : Cond.code yX1_fuelCarByCar cX1_fuelCarByCar 3 (some .int) ∈ SWL := SWL_mem 387 (by decide +kernel) rfl
theorem w_388 : Cond.methodLink RX1 92 yX1_loggedSteps ∈ SWL := SWL_mem 388 (by decide +kernel) rfl
theorem w_389 : Cond.instanceMethod yX1_loggedSteps ∈ SWL := SWL_mem 389 (by decide +kernel) rfl
theorem w_390 : Cond.selects RX1 yX1_loggedSteps yX1_loggedSteps ∈ SWL := SWL_mem 390 (by decide +kernel) rfl
theorem w_391 : Cond.code yX1_loggedSteps cX1_loggedSteps 4 (some .int) ∈ SWL := SWL_mem 391 (by decide +kernel) rfl
theorem w_393 : Cond.instanceMethod yX3_fewestSlides ∈ SWL := SWL_mem 393 (by decide +kernel) rfl
theorem w_394 : Cond.selects RX3 yX3_fewestSlides yX3_fewestSlides ∈ SWL := SWL_mem 394 (by decide +kernel) rfl
theorem w_395 : Cond.code yX3_fewestSlides cX3_fewestSlides 1 (some .int) ∈ SWL := SWL_mem 395 (by decide +kernel) rfl
theorem w_396 : Cond.methodLink RX3 219 yX3_exploreNow ∈ SWL := SWL_mem 396 (by decide +kernel) rfl
theorem w_398 : Cond.instanceMethod yX3_exploreNow ∈ SWL := SWL_mem 398 (by decide +kernel) rfl
theorem w_399 : Cond.code yX3_exploreNow cX3_exploreNow 1 (none) ∈ SWL := SWL_mem 399 (by decide +kernel) rfl
theorem w_400 : Cond.methodLink RX3 271 yX0_load ∈ SWL := SWL_mem 400 (by decide +kernel) rfl
theorem w_401 : Cond.instanceMethod yX0_load ∈ SWL := SWL_mem 401 (by decide +kernel) rfl
theorem w_402 : Cond.selects RX0 yX0_load yX0_load ∈ SWL := SWL_mem 402 (by decide +kernel) rfl
theorem w_403 : Cond.code yX0_load cX0_load 5 (none) ∈ SWL := SWL_mem 403 (by decide +kernel) rfl
theorem w_404 : Cond.methodLink RX0 30 yJ9_min_7cf53 ∈ SWL := SWL_mem 404 (by decide +kernel) rfl
theorem w_405 : Cond.static yJ9_min_7cf53 ∈ SWL := SWL_mem 405 (by decide +kernel) rfl
theorem w_406 : Cond.code yJ9_min_7cf53 cJ9_min_7cf53 2 (some .int) ∈ SWL := SWL_mem 406 (by decide +kernel) rfl
theorem w_407 : Cond.methodLink RX0 36 yJ9_max_7cf53 ∈ SWL := SWL_mem 407 (by decide +kernel) rfl
theorem w_408 : Cond.static yJ9_max_7cf53 ∈ SWL := SWL_mem 408 (by decide +kernel) rfl
theorem w_409 : Cond.code yJ9_max_7cf53 cJ9_max_7cf53 2 (some .int) ∈ SWL := SWL_mem 409 (by decide +kernel) rfl
theorem w_410 : Cond.methodLink RX0 58 yX0_addToTable ∈ SWL := SWL_mem 410 (by decide +kernel) rfl
theorem w_411 : Cond.instanceMethod yX0_addToTable ∈ SWL := SWL_mem 411 (by decide +kernel) rfl
theorem w_412 : Cond.selects RX0 yX0_addToTable yX0_addToTable ∈ SWL := SWL_mem 412 (by decide +kernel) rfl
theorem w_413 : Cond.code yX0_addToTable cX0_addToTable 7 (none) ∈ SWL := SWL_mem 413 (by decide +kernel) rfl
theorem w_414 : Cond.methodLinkNest RX0 62 yX3_cellsOf "CarTangos" ∈ SWL := SWL_mem 414 (by decide +kernel) rfl
theorem w_415 : Cond.methodLink RX0 66 yX0_together ∈ SWL := SWL_mem 415 (by decide +kernel) rfl
theorem w_416 : Cond.static yX0_together ∈ SWL := SWL_mem 416 (by decide +kernel) rfl
theorem w_417 : Cond.code yX0_together cX0_together 3 (some .int) ∈ SWL := SWL_mem 417 (by decide +kernel) rfl
theorem w_418 : Cond.methodLink RX3 222 yX0_slidesFromStart ∈ SWL := SWL_mem 418 (by decide +kernel) rfl
theorem w_419 : Cond.instanceMethod yX0_slidesFromStart ∈ SWL := SWL_mem 419 (by decide +kernel) rfl
theorem w_420 : Cond.selects RX0 yX0_slidesFromStart yX0_slidesFromStart ∈ SWL := SWL_mem 420 (by decide +kernel) rfl
theorem w_421 : Cond.code yX0_slidesFromStart cX0_slidesFromStart 1 (some .int) ∈ SWL := SWL_mem 421 (by decide +kernel) rfl
theorem w_422 : Cond.methodLink RX0 100 yX0_spreadFromStart ∈ SWL := SWL_mem 422 (by decide +kernel) rfl
theorem w_423 : Cond.instanceMethod yX0_spreadFromStart ∈ SWL := SWL_mem 423 (by decide +kernel) rfl
theorem w_424 : Cond.selects RX0 yX0_spreadFromStart yX0_spreadFromStart ∈ SWL := SWL_mem 424 (by decide +kernel) rfl
theorem w_425 : Cond.code yX0_spreadFromStart cX0_spreadFromStart 2 (none) ∈ SWL := SWL_mem 425 (by decide +kernel) rfl
theorem w_426 : Cond.methodLink RX0 93 yX0_forget ∈ SWL := SWL_mem 426 (by decide +kernel) rfl
theorem w_427 : Cond.instanceMethod yX0_forget ∈ SWL := SWL_mem 427 (by decide +kernel) rfl
theorem w_428 : Cond.selects RX0 yX0_forget yX0_forget ∈ SWL := SWL_mem 428 (by decide +kernel) rfl
theorem w_429 : Cond.code yX0_forget cX0_forget 2 (none) ∈ SWL := SWL_mem 429 (by decide +kernel) rfl
theorem w_430 : Cond.methodLink RX0 90 yX0_find ∈ SWL := SWL_mem 430 (by decide +kernel) rfl
theorem w_431 : Cond.instanceMethod yX0_find ∈ SWL := SWL_mem 431 (by decide +kernel) rfl
theorem w_432 : Cond.selects RX0 yX0_find yX0_find ∈ SWL := SWL_mem 432 (by decide +kernel) rfl
theorem w_433 : Cond.code yX0_find cX0_find 3 (none) ∈ SWL := SWL_mem 433 (by decide +kernel) rfl
theorem w_434 : Cond.methodLink RX0 96 yX0_spread ∈ SWL := SWL_mem 434 (by decide +kernel) rfl
theorem w_435 : Cond.instanceMethod yX0_spread ∈ SWL := SWL_mem 435 (by decide +kernel) rfl
theorem w_436 : Cond.selects RX0 yX0_spread yX0_spread ∈ SWL := SWL_mem 436 (by decide +kernel) rfl
theorem w_437 : Cond.code yX0_spread cX0_spread 5 (none) ∈ SWL := SWL_mem 437 (by decide +kernel) rfl
theorem w_438 : Cond.methodLink RX0 83 yX0_costOf ∈ SWL := SWL_mem 438 (by decide +kernel) rfl
theorem w_439 : Cond.instanceMethod yX0_costOf ∈ SWL := SWL_mem 439 (by decide +kernel) rfl
theorem w_440 : Cond.selects RX0 yX0_costOf yX0_costOf ∈ SWL := SWL_mem 440 (by decide +kernel) rfl
theorem w_441 : Cond.code yX0_costOf cX0_costOf 2 (some .int) ∈ SWL := SWL_mem 441 (by decide +kernel) rfl
theorem w_442 : Cond.methodLink RX0 69 yX0_exists ∈ SWL := SWL_mem 442 (by decide +kernel) rfl
theorem w_443 : Cond.instanceMethod yX0_exists ∈ SWL := SWL_mem 443 (by decide +kernel) rfl
theorem w_444 : Cond.selects RX0 yX0_exists yX0_exists ∈ SWL := SWL_mem 444 (by decide +kernel) rfl
theorem w_445 : Cond.code yX0_exists cX0_exists 2 (some .boolean) ∈ SWL := SWL_mem 445 (by decide +kernel) rfl
theorem w_446 : Cond.methodLink RX0 86 yX0_spreadAlong ∈ SWL := SWL_mem 446 (by decide +kernel) rfl
theorem w_447 : Cond.instanceMethod yX0_spreadAlong ∈ SWL := SWL_mem 447 (by decide +kernel) rfl
theorem w_448 : Cond.selects RX0 yX0_spreadAlong yX0_spreadAlong ∈ SWL := SWL_mem 448 (by decide +kernel) rfl
theorem w_449 : Cond.code yX0_spreadAlong cX0_spreadAlong 8 (none) ∈ SWL := SWL_mem 449 (by decide +kernel) rfl
theorem w_450 : Cond.methodLink RX0 77 yX0_behindStep ∈ SWL := SWL_mem 450 (by decide +kernel) rfl
theorem w_451 : Cond.instanceMethod yX0_behindStep ∈ SWL := SWL_mem 451 (by decide +kernel) rfl
theorem w_452 : Cond.selects RX0 yX0_behindStep yX0_behindStep ∈ SWL := SWL_mem 452 (by decide +kernel) rfl
theorem w_453 : Cond.code yX0_behindStep cX0_behindStep 6 (some .int) ∈ SWL := SWL_mem 453 (by decide +kernel) rfl
theorem w_454 : Cond.methodLink RX0 103 yX0_leastCostOut ∈ SWL := SWL_mem 454 (by decide +kernel) rfl
theorem w_455 : Cond.instanceMethod yX0_leastCostOut ∈ SWL := SWL_mem 455 (by decide +kernel) rfl
theorem w_456 : Cond.selects RX0 yX0_leastCostOut yX0_leastCostOut ∈ SWL := SWL_mem 456 (by decide +kernel) rfl
theorem w_457 : Cond.code yX0_leastCostOut cX0_leastCostOut 4 (some .int) ∈ SWL := SWL_mem 457 (by decide +kernel) rfl
theorem w_458 : Cond.methodLink RX0 107 yX0_isOutIn ∈ SWL := SWL_mem 458 (by decide +kernel) rfl
theorem w_459 : Cond.instanceMethod yX0_isOutIn ∈ SWL := SWL_mem 459 (by decide +kernel) rfl
theorem w_460 : Cond.selects RX0 yX0_isOutIn yX0_isOutIn ∈ SWL := SWL_mem 460 (by decide +kernel) rfl
theorem w_461 : Cond.code yX0_isOutIn cX0_isOutIn 2 (some .boolean) ∈ SWL := SWL_mem 461 (by decide +kernel) rfl
theorem w_463 : Cond.instanceMethod yX3_fewestSlidesFromEnds ∈ SWL := SWL_mem 463 (by decide +kernel) rfl
theorem w_464 : Cond.selects RX3 yX3_fewestSlidesFromEnds yX3_fewestSlidesFromEnds ∈ SWL := SWL_mem 464 (by decide +kernel) rfl
theorem w_465 : Cond.code yX3_fewestSlidesFromEnds cX3_fewestSlidesFromEnds 1 (some .int) ∈ SWL := SWL_mem 465 (by decide +kernel) rfl
theorem w_466 : Cond.methodLink RX3 225 yX0_slidesFromEnds ∈ SWL := SWL_mem 466 (by decide +kernel) rfl
theorem w_467 : Cond.instanceMethod yX0_slidesFromEnds ∈ SWL := SWL_mem 467 (by decide +kernel) rfl
theorem w_468 : Cond.selects RX0 yX0_slidesFromEnds yX0_slidesFromEnds ∈ SWL := SWL_mem 468 (by decide +kernel) rfl
theorem w_469 : Cond.code yX0_slidesFromEnds cX0_slidesFromEnds 2 (some .int) ∈ SWL := SWL_mem 469 (by decide +kernel) rfl
theorem w_471 : Cond.instanceMethod yX3_fewestSteps ∈ SWL := SWL_mem 471 (by decide +kernel) rfl
theorem w_472 : Cond.selects RX3 yX3_fewestSteps yX3_fewestSteps ∈ SWL := SWL_mem 472 (by decide +kernel) rfl
theorem w_473 : Cond.code yX3_fewestSteps cX3_fewestSteps 1 (some .int) ∈ SWL := SWL_mem 473 (by decide +kernel) rfl
theorem w_474 : Cond.methodLink RX3 228 yX0_stepsFromStart ∈ SWL := SWL_mem 474 (by decide +kernel) rfl
theorem w_475 : Cond.instanceMethod yX0_stepsFromStart ∈ SWL := SWL_mem 475 (by decide +kernel) rfl
theorem w_476 : Cond.selects RX0 yX0_stepsFromStart yX0_stepsFromStart ∈ SWL := SWL_mem 476 (by decide +kernel) rfl
theorem w_477 : Cond.code yX0_stepsFromStart cX0_stepsFromStart 1 (some .int) ∈ SWL := SWL_mem 477 (by decide +kernel) rfl
theorem w_479 : Cond.instanceMethod yX3_leastFuel ∈ SWL := SWL_mem 479 (by decide +kernel) rfl
theorem w_480 : Cond.selects RX3 yX3_leastFuel yX3_leastFuel ∈ SWL := SWL_mem 480 (by decide +kernel) rfl
theorem w_481 : Cond.code yX3_leastFuel cX3_leastFuel 1 (some .int) ∈ SWL := SWL_mem 481 (by decide +kernel) rfl
theorem w_482 : Cond.methodLink RX3 231 yX0_fuelByBuckets ∈ SWL := SWL_mem 482 (by decide +kernel) rfl
theorem w_483 : Cond.instanceMethod yX0_fuelByBuckets ∈ SWL := SWL_mem 483 (by decide +kernel) rfl
theorem w_484 : Cond.selects RX0 yX0_fuelByBuckets yX0_fuelByBuckets ∈ SWL := SWL_mem 484 (by decide +kernel) rfl
theorem w_485 : Cond.code yX0_fuelByBuckets cX0_fuelByBuckets 2 (some .int) ∈ SWL := SWL_mem 485 (by decide +kernel) rfl
theorem w_486 : Cond.methodLink RX0 119 yX0_cheapen ∈ SWL := SWL_mem 486 (by decide +kernel) rfl
theorem w_487 : Cond.instanceMethod yX0_cheapen ∈ SWL := SWL_mem 487 (by decide +kernel) rfl
theorem w_488 : Cond.selects RX0 yX0_cheapen yX0_cheapen ∈ SWL := SWL_mem 488 (by decide +kernel) rfl
theorem w_489 : Cond.code yX0_cheapen cX0_cheapen 4 (none) ∈ SWL := SWL_mem 489 (by decide +kernel) rfl
theorem w_490 : Cond.methodLink RX0 135 yX0_isCheaper ∈ SWL := SWL_mem 490 (by decide +kernel) rfl
theorem w_491 : Cond.instanceMethod yX0_isCheaper ∈ SWL := SWL_mem 491 (by decide +kernel) rfl
theorem w_492 : Cond.selects RX0 yX0_isCheaper yX0_isCheaper ∈ SWL := SWL_mem 492 (by decide +kernel) rfl
theorem w_493 : Cond.code yX0_isCheaper cX0_isCheaper 3 (some .boolean) ∈ SWL := SWL_mem 493 (by decide +kernel) rfl
theorem w_494 : Cond.methodLink RX0 122 yX0_isAnyFilled ∈ SWL := SWL_mem 494 (by decide +kernel) rfl
theorem w_495 : Cond.instanceMethod yX0_isAnyFilled ∈ SWL := SWL_mem 495 (by decide +kernel) rfl
theorem w_496 : Cond.selects RX0 yX0_isAnyFilled yX0_isAnyFilled ∈ SWL := SWL_mem 496 (by decide +kernel) rfl
theorem w_497 : Cond.code yX0_isAnyFilled cX0_isAnyFilled 1 (some .boolean) ∈ SWL := SWL_mem 497 (by decide +kernel) rfl
theorem w_498 : Cond.methodLink RX0 126 yX0_hasOutFor ∈ SWL := SWL_mem 498 (by decide +kernel) rfl
theorem w_499 : Cond.instanceMethod yX0_hasOutFor ∈ SWL := SWL_mem 499 (by decide +kernel) rfl
theorem w_500 : Cond.selects RX0 yX0_hasOutFor yX0_hasOutFor ∈ SWL := SWL_mem 500 (by decide +kernel) rfl
theorem w_501 : Cond.code yX0_hasOutFor cX0_hasOutFor 4 (some .boolean) ∈ SWL := SWL_mem 501 (by decide +kernel) rfl
theorem w_502 : Cond.methodLink RX0 132 yX0_inBucket ∈ SWL := SWL_mem 502 (by decide +kernel) rfl
theorem w_503 : Cond.instanceMethod yX0_inBucket ∈ SWL := SWL_mem 503 (by decide +kernel) rfl
theorem w_504 : Cond.selects RX0 yX0_inBucket yX0_inBucket ∈ SWL := SWL_mem 504 (by decide +kernel) rfl
theorem w_505 : Cond.code yX0_inBucket cX0_inBucket 5 (some .int) ∈ SWL := SWL_mem 505 (by decide +kernel) rfl
theorem w_506 : Cond.methodLink RX0 129 yX0_emptyBucket ∈ SWL := SWL_mem 506 (by decide +kernel) rfl
theorem w_507 : Cond.instanceMethod yX0_emptyBucket ∈ SWL := SWL_mem 507 (by decide +kernel) rfl
theorem w_508 : Cond.selects RX0 yX0_emptyBucket yX0_emptyBucket ∈ SWL := SWL_mem 508 (by decide +kernel) rfl
theorem w_509 : Cond.code yX0_emptyBucket cX0_emptyBucket 6 (none) ∈ SWL := SWL_mem 509 (by decide +kernel) rfl
theorem w_511 : Cond.instanceMethod yX3_leastFuelByRounds ∈ SWL := SWL_mem 511 (by decide +kernel) rfl
theorem w_512 : Cond.selects RX3 yX3_leastFuelByRounds yX3_leastFuelByRounds ∈ SWL := SWL_mem 512 (by decide +kernel) rfl
theorem w_513 : Cond.code yX3_leastFuelByRounds cX3_leastFuelByRounds 1 (some .int) ∈ SWL := SWL_mem 513 (by decide +kernel) rfl
theorem w_514 : Cond.methodLink RX3 234 yX0_fuelByRounds ∈ SWL := SWL_mem 514 (by decide +kernel) rfl
theorem w_515 : Cond.instanceMethod yX0_fuelByRounds ∈ SWL := SWL_mem 515 (by decide +kernel) rfl
theorem w_516 : Cond.selects RX0 yX0_fuelByRounds yX0_fuelByRounds ∈ SWL := SWL_mem 516 (by decide +kernel) rfl
theorem w_517 : Cond.code yX0_fuelByRounds cX0_fuelByRounds 4 (some .int) ∈ SWL := SWL_mem 517 (by decide +kernel) rfl
theorem w_518 : Cond.methodLink RX0 139 yX0_hasCheapenedAround ∈ SWL := SWL_mem 518 (by decide +kernel) rfl
theorem w_519 : Cond.instanceMethod yX0_hasCheapenedAround ∈ SWL := SWL_mem 519 (by decide +kernel) rfl
theorem w_520 : Cond.selects RX0 yX0_hasCheapenedAround yX0_hasCheapenedAround ∈ SWL := SWL_mem 520 (by decide +kernel) rfl
theorem w_521 : Cond.code yX0_hasCheapenedAround cX0_hasCheapenedAround 7 (some .boolean) ∈ SWL := SWL_mem 521 (by decide +kernel) rfl
theorem w_523 : Cond.instanceMethod yX3_reachable ∈ SWL := SWL_mem 523 (by decide +kernel) rfl
theorem w_524 : Cond.selects RX3 yX3_reachable yX3_reachable ∈ SWL := SWL_mem 524 (by decide +kernel) rfl
theorem w_525 : Cond.code yX3_reachable cX3_reachable 1 (some .int) ∈ SWL := SWL_mem 525 (by decide +kernel) rfl
theorem w_526 : Cond.methodLink RX3 248 yX0_spreadFromStart ∈ SWL := SWL_mem 526 (by decide +kernel) rfl
theorem w_528 : Cond.instanceMethod yX3_reachableOut ∈ SWL := SWL_mem 528 (by decide +kernel) rfl
theorem w_529 : Cond.selects RX3 yX3_reachableOut yX3_reachableOut ∈ SWL := SWL_mem 529 (by decide +kernel) rfl
theorem w_530 : Cond.code yX3_reachableOut cX3_reachableOut 1 (some .int) ∈ SWL := SWL_mem 530 (by decide +kernel) rfl
theorem w_531 : Cond.methodLink RX3 254 yX0_foundOut ∈ SWL := SWL_mem 531 (by decide +kernel) rfl
theorem w_532 : Cond.instanceMethod yX0_foundOut ∈ SWL := SWL_mem 532 (by decide +kernel) rfl
theorem w_533 : Cond.selects RX0 yX0_foundOut yX0_foundOut ∈ SWL := SWL_mem 533 (by decide +kernel) rfl
theorem w_534 : Cond.code yX0_foundOut cX0_foundOut 3 (some .int) ∈ SWL := SWL_mem 534 (by decide +kernel) rfl
theorem w_536 : Cond.instanceMethod yX3_farthest ∈ SWL := SWL_mem 536 (by decide +kernel) rfl
theorem w_537 : Cond.selects RX3 yX3_farthest yX3_farthest ∈ SWL := SWL_mem 537 (by decide +kernel) rfl
theorem w_538 : Cond.code yX3_farthest cX3_farthest 1 (some .int) ∈ SWL := SWL_mem 538 (by decide +kernel) rfl
theorem w_539 : Cond.methodLink RX3 257 yX0_farthestFound ∈ SWL := SWL_mem 539 (by decide +kernel) rfl
theorem w_540 : Cond.instanceMethod yX0_farthestFound ∈ SWL := SWL_mem 540 (by decide +kernel) rfl
theorem w_541 : Cond.selects RX0 yX0_farthestFound yX0_farthestFound ∈ SWL := SWL_mem 541 (by decide +kernel) rfl
theorem w_542 : Cond.code yX0_farthestFound cX0_farthestFound 2 (some .int) ∈ SWL := SWL_mem 542 (by decide +kernel) rfl
theorem w_544 : Cond.instanceMethod yX3_arrangements ∈ SWL := SWL_mem 544 (by decide +kernel) rfl
theorem w_545 : Cond.selects RX3 yX3_arrangements yX3_arrangements ∈ SWL := SWL_mem 545 (by decide +kernel) rfl
theorem w_546 : Cond.code yX3_arrangements cX3_arrangements 1 (some .int) ∈ SWL := SWL_mem 546 (by decide +kernel) rfl
theorem w_547 : Cond.methodLink RX3 260 yX0_allArrangements ∈ SWL := SWL_mem 547 (by decide +kernel) rfl
theorem w_548 : Cond.instanceMethod yX0_allArrangements ∈ SWL := SWL_mem 548 (by decide +kernel) rfl
theorem w_549 : Cond.selects RX0 yX0_allArrangements yX0_allArrangements ∈ SWL := SWL_mem 549 (by decide +kernel) rfl
theorem w_550 : Cond.code yX0_allArrangements cX0_allArrangements 3 (some .int) ∈ SWL := SWL_mem 550 (by decide +kernel) rfl
theorem w_552 : Cond.instanceMethod yX3_reachedShare ∈ SWL := SWL_mem 552 (by decide +kernel) rfl
theorem w_553 : Cond.selects RX3 yX3_reachedShare yX3_reachedShare ∈ SWL := SWL_mem 553 (by decide +kernel) rfl
theorem w_554 : Cond.code yX3_reachedShare cX3_reachedShare 1 (some .double) ∈ SWL := SWL_mem 554 (by decide +kernel) rfl
theorem w_555 : Cond.methodLink RX3 277 yX3_share ∈ SWL := SWL_mem 555 (by decide +kernel) rfl
theorem w_556 : Cond.static yX3_share ∈ SWL := SWL_mem 556 (by decide +kernel) rfl
theorem w_557 : Cond.code yX3_share cX3_share 2 (some .double) ∈ SWL := SWL_mem 557 (by decide +kernel) rfl
theorem w_559 : Cond.instanceMethod yX3_digest ∈ SWL := SWL_mem 559 (by decide +kernel) rfl
theorem w_560 : Cond.selects RX3 yX3_digest yX3_digest ∈ SWL := SWL_mem 560 (by decide +kernel) rfl
theorem w_561 : Cond.code yX3_digest cX3_digest 3 (some .long) ∈ SWL := SWL_mem 561 (by decide +kernel) rfl
theorem w_562 : Cond.constantLong RX3 281 (4507 : Int64) ∈ SWL := SWL_mem 562 (by decide +kernel) rfl
theorem w_563 : Cond.methodLink RX3 283 yX3_hashOfPark ∈ SWL := SWL_mem 563 (by decide +kernel) rfl
theorem w_565 : Cond.instanceMethod yX3_hashOfPark ∈ SWL := SWL_mem 565 (by decide +kernel) rfl
theorem w_566 : Cond.code yX3_hashOfPark cX3_hashOfPark 5 (some .long) ∈ SWL := SWL_mem 566 (by decide +kernel) rfl
theorem w_567 : Cond.methodLink RX3 293 yX3_mix ∈ SWL := SWL_mem 567 (by decide +kernel) rfl
theorem w_568 : Cond.static yX3_mix ∈ SWL := SWL_mem 568 (by decide +kernel) rfl
theorem w_569 : Cond.code yX3_mix cX3_mix 4 (some .long) ∈ SWL := SWL_mem 569 (by decide +kernel) rfl
theorem w_570 : Cond.constantLong RX3 356 (31 : Int64) ∈ SWL := SWL_mem 570 (by decide +kernel) rfl
theorem w_571 : Cond.methodLink RX3 364 yX3_walls ∈ SWL := SWL_mem 571 (by decide +kernel) rfl
theorem w_572 : Cond.methodLink RX3 366 yX3_freeCells ∈ SWL := SWL_mem 572 (by decide +kernel) rfl
theorem w_573 : Cond.methodLink RX3 369 yX3_isOut ∈ SWL := SWL_mem 573 (by decide +kernel) rfl
theorem w_574 : Cond.methodLink RX3 372 yX3_possibleSlides ∈ SWL := SWL_mem 574 (by decide +kernel) rfl
theorem w_575 : Cond.methodLink RX3 287 yX3_hashOfPlans ∈ SWL := SWL_mem 575 (by decide +kernel) rfl
theorem w_577 : Cond.instanceMethod yX3_hashOfPlans ∈ SWL := SWL_mem 577 (by decide +kernel) rfl
theorem w_578 : Cond.code yX3_hashOfPlans cX3_hashOfPlans 5 (some .long) ∈ SWL := SWL_mem 578 (by decide +kernel) rfl
theorem w_579 : Cond.methodLink RX3 290 yX3_hashOfArrangements ∈ SWL := SWL_mem 579 (by decide +kernel) rfl
theorem w_581 : Cond.instanceMethod yX3_hashOfArrangements ∈ SWL := SWL_mem 581 (by decide +kernel) rfl
theorem w_582 : Cond.code yX3_hashOfArrangements cX3_hashOfArrangements 5 (some .long) ∈ SWL := SWL_mem 582 (by decide +kernel) rfl
theorem w_583 : Cond.methodLink RX3 297 yX3_hashOfCells ∈ SWL := SWL_mem 583 (by decide +kernel) rfl
theorem w_585 : Cond.instanceMethod yX3_hashOfCells ∈ SWL := SWL_mem 585 (by decide +kernel) rfl
theorem w_586 : Cond.code yX3_hashOfCells cX3_hashOfCells 6 (some .long) ∈ SWL := SWL_mem 586 (by decide +kernel) rfl
theorem w_587 : Cond.methodLink RX3 184 yX1_carAt ∈ SWL := SWL_mem 587 (by decide +kernel) rfl
theorem w_588 : Cond.instanceMethod yX1_carAt ∈ SWL := SWL_mem 588 (by decide +kernel) rfl
theorem w_589 : Cond.selects RX1 yX1_carAt yX1_carAt ∈ SWL := SWL_mem 589 (by decide +kernel) rfl
theorem w_590 : Cond.code yX1_carAt cX1_carAt 3 (some .int) ∈ SWL := SWL_mem 590 (by decide +kernel) rfl
theorem w_591 : Cond.methodLink RX3 187 yX1_hasWallAt ∈ SWL := SWL_mem 591 (by decide +kernel) rfl
theorem w_592 : Cond.instanceMethod yX1_hasWallAt ∈ SWL := SWL_mem 592 (by decide +kernel) rfl
theorem w_593 : Cond.selects RX1 yX1_hasWallAt yX1_hasWallAt ∈ SWL := SWL_mem 593 (by decide +kernel) rfl
theorem w_594 : Cond.code yX1_hasWallAt cX1_hasWallAt 2 (some .boolean) ∈ SWL := SWL_mem 594 (by decide +kernel) rfl
theorem w_595 : Cond.methodLink RX3 300 yX3_hashOfCars ∈ SWL := SWL_mem 595 (by decide +kernel) rfl
theorem w_597 : Cond.instanceMethod yX3_hashOfCars ∈ SWL := SWL_mem 597 (by decide +kernel) rfl
theorem w_598 : Cond.code yX3_hashOfCars cX3_hashOfCars 6 (some .long) ∈ SWL := SWL_mem 598 (by decide +kernel) rfl
theorem w_599 : Cond.methodLink RX3 210 yX1_loggedSteps ∈ SWL := SWL_mem 599 (by decide +kernel) rfl
theorem w_600 : Cond.methodLink RX3 303 yX3_hashOfLog ∈ SWL := SWL_mem 600 (by decide +kernel) rfl
theorem w_602 : Cond.instanceMethod yX3_hashOfLog ∈ SWL := SWL_mem 602 (by decide +kernel) rfl
theorem w_603 : Cond.code yX3_hashOfLog cX3_hashOfLog 6 (some .long) ∈ SWL := SWL_mem 603 (by decide +kernel) rfl
theorem w_604 : Cond.methodLink RX3 306 yX3_bitsOf ∈ SWL := SWL_mem 604 (by decide +kernel) rfl
theorem w_605 : Cond.static yX3_bitsOf ∈ SWL := SWL_mem 605 (by decide +kernel) rfl
theorem w_606 : Cond.code yX3_bitsOf cX3_bitsOf 8 (some .long) ∈ SWL := SWL_mem 606 (by decide +kernel) rfl
theorem w_607 : Cond.constantLong RX3 358 (1023 : Int64) ∈ SWL := SWL_mem 607 (by decide +kernel) rfl
theorem w_608 : Cond.constantDouble RX3 360 (4611686018427387904 : UInt64) ∈ SWL := SWL_mem 608 (by decide +kernel) rfl
theorem w_609 : Cond.constantDouble RX3 362 (4841369599423283200 : UInt64) ∈ SWL := SWL_mem 609 (by decide +kernel) rfl
theorem w_610 : Cond.methodLink RX3 310 yX3_hashOfText ∈ SWL := SWL_mem 610 (by decide +kernel) rfl
theorem w_612 : Cond.instanceMethod yX3_hashOfText ∈ SWL := SWL_mem 612 (by decide +kernel) rfl
theorem w_613 : Cond.code yX3_hashOfText cX3_hashOfText 6 (some .long) ∈ SWL := SWL_mem 613 (by decide +kernel) rfl
theorem w_614 : Cond.methodLink RX3 329 yX2_codeAt ∈ SWL := SWL_mem 614 (by decide +kernel) rfl
theorem w_622 : Cond.instanceMethod yX3_addCar ∈ SWL := SWL_mem 622 (by decide +kernel) rfl
theorem w_623 : Cond.selects RX3 yX3_addCar yX3_addCar ∈ SWL := SWL_mem 623 (by decide +kernel) rfl
theorem w_624 : Cond.code yX3_addCar cX3_addCar 4 (some .int) ∈ SWL := SWL_mem 624 (by decide +kernel) rfl
theorem w_625 : Cond.methodLink RX3 45 yX1_troubleOfEntering ∈ SWL := SWL_mem 625 (by decide +kernel) rfl
theorem w_626 : Cond.instanceMethod yX1_troubleOfEntering ∈ SWL := SWL_mem 626 (by decide +kernel) rfl
theorem w_627 : Cond.selects RX1 yX1_troubleOfEntering yX1_troubleOfEntering ∈ SWL := SWL_mem 627 (by decide +kernel) rfl
theorem w_628 : Cond.code yX1_troubleOfEntering cX1_troubleOfEntering 6 (some .int) ∈ SWL := SWL_mem 628 (by decide +kernel) rfl
theorem w_629 : Cond.methodLink RX3 49 yX3_refuse ∈ SWL := SWL_mem 629 (by decide +kernel) rfl
theorem w_630 : Cond.static yX3_refuse ∈ SWL := SWL_mem 630 (by decide +kernel) rfl
theorem w_631 : Cond.code yX3_refuse cX3_refuse 1 (none) ∈ SWL := SWL_mem 631 (by decide +kernel) rfl
theorem w_632 : Cond.classLink RX3 164 "java/lang/IndexOutOfBoundsException" ∈ SWL := SWL_mem 632 (by decide +kernel) rfl
theorem w_700 : Cond.classLink RX3 106 "java/lang/IllegalArgumentException" ∈ SWL := SWL_mem 700 (by decide +kernel) rfl
theorem w_716 : Cond.classLink RX3 62 "java/lang/IllegalStateException" ∈ SWL := SWL_mem 716 (by decide +kernel) rfl
theorem w_732 : Cond.methodLink RX3 56 yX1_enter ∈ SWL := SWL_mem 732 (by decide +kernel) rfl
theorem w_733 : Cond.instanceMethod yX1_enter ∈ SWL := SWL_mem 733 (by decide +kernel) rfl
theorem w_734 : Cond.selects RX1 yX1_enter yX1_enter ∈ SWL := SWL_mem 734 (by decide +kernel) rfl
theorem w_735 : Cond.code yX1_enter cX1_enter 5 (some .int) ∈ SWL := SWL_mem 735 (by decide +kernel) rfl
theorem w_740 : Cond.instanceMethod yX3_dropLast ∈ SWL := SWL_mem 740 (by decide +kernel) rfl
theorem w_741 : Cond.selects RX3 yX3_dropLast yX3_dropLast ∈ SWL := SWL_mem 741 (by decide +kernel) rfl
theorem w_742 : Cond.code yX3_dropLast cX3_dropLast 1 (some .int) ∈ SWL := SWL_mem 742 (by decide +kernel) rfl
theorem w_744 : Cond.methodLink RX3 69 yX1_leave ∈ SWL := SWL_mem 744 (by decide +kernel) rfl
theorem w_745 : Cond.instanceMethod yX1_leave ∈ SWL := SWL_mem 745 (by decide +kernel) rfl
theorem w_746 : Cond.selects RX1 yX1_leave yX1_leave ∈ SWL := SWL_mem 746 (by decide +kernel) rfl
theorem w_747 : Cond.code yX1_leave cX1_leave 1 (some .int) ∈ SWL := SWL_mem 747 (by decide +kernel) rfl
theorem w_752 : Cond.instanceMethod yX3_toggleWall ∈ SWL := SWL_mem 752 (by decide +kernel) rfl
theorem w_753 : Cond.selects RX3 yX3_toggleWall yX3_toggleWall ∈ SWL := SWL_mem 753 (by decide +kernel) rfl
theorem w_754 : Cond.code yX3_toggleWall cX3_toggleWall 2 (some .boolean) ∈ SWL := SWL_mem 754 (by decide +kernel) rfl
theorem w_755 : Cond.methodLink RX3 73 yX1_troubleOfWall ∈ SWL := SWL_mem 755 (by decide +kernel) rfl
theorem w_756 : Cond.instanceMethod yX1_troubleOfWall ∈ SWL := SWL_mem 756 (by decide +kernel) rfl
theorem w_757 : Cond.selects RX1 yX1_troubleOfWall yX1_troubleOfWall ∈ SWL := SWL_mem 757 (by decide +kernel) rfl
theorem w_758 : Cond.code yX1_troubleOfWall cX1_troubleOfWall 3 (some .int) ∈ SWL := SWL_mem 758 (by decide +kernel) rfl
theorem w_759 : Cond.methodLinkNest RX1 66 yX3_isCell "CarTangos" ∈ SWL := SWL_mem 759 (by decide +kernel) rfl
theorem w_760 : Cond.static yX3_isCell ∈ SWL := SWL_mem 760 (by decide +kernel) rfl
theorem w_761 : Cond.code yX3_isCell cX3_isCell 1 (some .boolean) ∈ SWL := SWL_mem 761 (by decide +kernel) rfl
theorem w_762 : Cond.methodLink RX1 69 yX1_hasWallAt ∈ SWL := SWL_mem 762 (by decide +kernel) rfl
theorem w_763 : Cond.methodLink RX1 72 yJ6_bitCount_0f7a4 ∈ SWL := SWL_mem 763 (by decide +kernel) rfl
theorem w_764 : Cond.methodLink RX1 78 yX1_carAt ∈ SWL := SWL_mem 764 (by decide +kernel) rfl
theorem w_765 : Cond.methodLink RX3 77 yX1_turnWall ∈ SWL := SWL_mem 765 (by decide +kernel) rfl
theorem w_766 : Cond.instanceMethod yX1_turnWall ∈ SWL := SWL_mem 766 (by decide +kernel) rfl
theorem w_767 : Cond.selects RX1 yX1_turnWall yX1_turnWall ∈ SWL := SWL_mem 767 (by decide +kernel) rfl
theorem w_768 : Cond.code yX1_turnWall cX1_turnWall 2 (some .boolean) ∈ SWL := SWL_mem 768 (by decide +kernel) rfl
theorem w_773 : Cond.instanceMethod yX3_slide ∈ SWL := SWL_mem 773 (by decide +kernel) rfl
theorem w_774 : Cond.selects RX3 yX3_slide yX3_slide ∈ SWL := SWL_mem 774 (by decide +kernel) rfl
theorem w_775 : Cond.code yX3_slide cX3_slide 3 (some .int) ∈ SWL := SWL_mem 775 (by decide +kernel) rfl
theorem w_776 : Cond.methodLink RX3 81 yX1_troubleOfSliding ∈ SWL := SWL_mem 776 (by decide +kernel) rfl
theorem w_777 : Cond.instanceMethod yX1_troubleOfSliding ∈ SWL := SWL_mem 777 (by decide +kernel) rfl
theorem w_778 : Cond.selects RX1 yX1_troubleOfSliding yX1_troubleOfSliding ∈ SWL := SWL_mem 778 (by decide +kernel) rfl
theorem w_779 : Cond.code yX1_troubleOfSliding cX1_troubleOfSliding 4 (some .int) ∈ SWL := SWL_mem 779 (by decide +kernel) rfl
theorem w_780 : Cond.methodLink RX1 81 yX1_roomOf ∈ SWL := SWL_mem 780 (by decide +kernel) rfl
theorem w_782 : Cond.methodLink RX3 90 yX1_makeSlide ∈ SWL := SWL_mem 782 (by decide +kernel) rfl
theorem w_783 : Cond.instanceMethod yX1_makeSlide ∈ SWL := SWL_mem 783 (by decide +kernel) rfl
theorem w_784 : Cond.selects RX1 yX1_makeSlide yX1_makeSlide ∈ SWL := SWL_mem 784 (by decide +kernel) rfl
theorem w_785 : Cond.code yX1_makeSlide cX1_makeSlide 3 (some .int) ∈ SWL := SWL_mem 785 (by decide +kernel) rfl
theorem w_790 : Cond.instanceMethod yX3_takeBack ∈ SWL := SWL_mem 790 (by decide +kernel) rfl
theorem w_791 : Cond.selects RX3 yX3_takeBack yX3_takeBack ∈ SWL := SWL_mem 791 (by decide +kernel) rfl
theorem w_792 : Cond.code yX3_takeBack cX3_takeBack 1 (some .int) ∈ SWL := SWL_mem 792 (by decide +kernel) rfl
theorem w_798 : Cond.instanceMethod yX3_driveOut ∈ SWL := SWL_mem 798 (by decide +kernel) rfl
theorem w_799 : Cond.selects RX3 yX3_driveOut yX3_driveOut ∈ SWL := SWL_mem 799 (by decide +kernel) rfl
theorem w_800 : Cond.code yX3_driveOut cX3_driveOut 2 (some .int) ∈ SWL := SWL_mem 800 (by decide +kernel) rfl
theorem w_801 : Cond.methodLink RX3 98 yX3_slidesToDriveOut ∈ SWL := SWL_mem 801 (by decide +kernel) rfl
theorem w_803 : Cond.instanceMethod yX3_slidesToDriveOut ∈ SWL := SWL_mem 803 (by decide +kernel) rfl
theorem w_804 : Cond.code yX3_slidesToDriveOut cX3_slidesToDriveOut 2 (some .int) ∈ SWL := SWL_mem 804 (by decide +kernel) rfl
theorem w_806 : Cond.methodLink RX3 103 yX3_makePlan ∈ SWL := SWL_mem 806 (by decide +kernel) rfl
theorem w_808 : Cond.instanceMethod yX3_makePlan ∈ SWL := SWL_mem 808 (by decide +kernel) rfl
theorem w_809 : Cond.code yX3_makePlan cX3_makePlan 6 (some .boolean) ∈ SWL := SWL_mem 809 (by decide +kernel) rfl
theorem w_810 : Cond.methodLink RX3 326 yX0_findNextSlide ∈ SWL := SWL_mem 810 (by decide +kernel) rfl
theorem w_811 : Cond.instanceMethod yX0_findNextSlide ∈ SWL := SWL_mem 811 (by decide +kernel) rfl
theorem w_812 : Cond.selects RX0 yX0_findNextSlide yX0_findNextSlide ∈ SWL := SWL_mem 812 (by decide +kernel) rfl
theorem w_813 : Cond.code yX0_findNextSlide cX0_findNextSlide 5 (some .boolean) ∈ SWL := SWL_mem 813 (by decide +kernel) rfl
theorem w_814 : Cond.methodLink RX0 110 yX0_behindSlide ∈ SWL := SWL_mem 814 (by decide +kernel) rfl
theorem w_815 : Cond.instanceMethod yX0_behindSlide ∈ SWL := SWL_mem 815 (by decide +kernel) rfl
theorem w_816 : Cond.selects RX0 yX0_behindSlide yX0_behindSlide ∈ SWL := SWL_mem 816 (by decide +kernel) rfl
theorem w_817 : Cond.code yX0_behindSlide cX0_behindSlide 7 (some .int) ∈ SWL := SWL_mem 817 (by decide +kernel) rfl
theorem w_818 : Cond.methodLink RX0 73 yJ9_abs_0f7a4 ∈ SWL := SWL_mem 818 (by decide +kernel) rfl
theorem w_819 : Cond.methodLink RX3 266 yX0_behindSlide ∈ SWL := SWL_mem 819 (by decide +kernel) rfl
theorem w_824 : Cond.instanceMethod yX3_append ∈ SWL := SWL_mem 824 (by decide +kernel) rfl
theorem w_825 : Cond.selects RX3 yX3_append yX3_append ∈ SWL := SWL_mem 825 (by decide +kernel) rfl
theorem w_826 : Cond.code yX3_append cX3_append 2 (some .int) ∈ SWL := SWL_mem 826 (by decide +kernel) rfl
theorem w_829 : Cond.methodLink RX3 116 yX2_add ∈ SWL := SWL_mem 829 (by decide +kernel) rfl
theorem w_830 : Cond.instanceMethod yX2_add ∈ SWL := SWL_mem 830 (by decide +kernel) rfl
theorem w_831 : Cond.selects RX2 yX2_add yX2_add ∈ SWL := SWL_mem 831 (by decide +kernel) rfl
theorem w_832 : Cond.code yX2_add cX2_add 2 (some .int) ∈ SWL := SWL_mem 832 (by decide +kernel) rfl
theorem w_837 : Cond.instanceMethod yX3_work ∈ SWL := SWL_mem 837 (by decide +kernel) rfl
theorem w_838 : Cond.selects RX3 yX3_work yX3_work ∈ SWL := SWL_mem 838 (by decide +kernel) rfl
theorem w_839 : Cond.code yX3_work cX3_work 5 (some .int) ∈ SWL := SWL_mem 839 (by decide +kernel) rfl
theorem w_840 : Cond.methodLink RX3 125 yX2_isComplete ∈ SWL := SWL_mem 840 (by decide +kernel) rfl
theorem w_841 : Cond.instanceMethod yX2_isComplete ∈ SWL := SWL_mem 841 (by decide +kernel) rfl
theorem w_842 : Cond.selects RX2 yX2_isComplete yX2_isComplete ∈ SWL := SWL_mem 842 (by decide +kernel) rfl
theorem w_843 : Cond.code yX2_isComplete cX2_isComplete 3 (some .boolean) ∈ SWL := SWL_mem 843 (by decide +kernel) rfl
theorem w_845 : Cond.methodLink RX3 131 yX3_tryPart ∈ SWL := SWL_mem 845 (by decide +kernel) rfl
theorem w_847 : Cond.instanceMethod yX3_tryPart ∈ SWL := SWL_mem 847 (by decide +kernel) rfl
theorem w_848 : Cond.code yX3_tryPart cX3_tryPart 2 (some .boolean) ∈ SWL := SWL_mem 848 (by decide +kernel) rfl
theorem w_849 : Cond.methodLink RX3 332 yX2_digitAt ∈ SWL := SWL_mem 849 (by decide +kernel) rfl
theorem w_850 : Cond.instanceMethod yX2_digitAt ∈ SWL := SWL_mem 850 (by decide +kernel) rfl
theorem w_851 : Cond.selects RX2 yX2_digitAt yX2_digitAt ∈ SWL := SWL_mem 851 (by decide +kernel) rfl
theorem w_852 : Cond.code yX2_digitAt cX2_digitAt 2 (some .int) ∈ SWL := SWL_mem 852 (by decide +kernel) rfl
theorem w_853 : Cond.methodLink RX3 335 yX3_tryEntering ∈ SWL := SWL_mem 853 (by decide +kernel) rfl
theorem w_855 : Cond.instanceMethod yX3_tryEntering ∈ SWL := SWL_mem 855 (by decide +kernel) rfl
theorem w_856 : Cond.code yX3_tryEntering cX3_tryEntering 5 (some .boolean) ∈ SWL := SWL_mem 856 (by decide +kernel) rfl
theorem w_857 : Cond.methodLink RX3 339 yX2_cellAt ∈ SWL := SWL_mem 857 (by decide +kernel) rfl
theorem w_858 : Cond.instanceMethod yX2_cellAt ∈ SWL := SWL_mem 858 (by decide +kernel) rfl
theorem w_859 : Cond.selects RX2 yX2_cellAt yX2_cellAt ∈ SWL := SWL_mem 859 (by decide +kernel) rfl
theorem w_860 : Cond.code yX2_cellAt cX2_cellAt 3 (some .int) ∈ SWL := SWL_mem 860 (by decide +kernel) rfl
theorem w_861 : Cond.methodLink RX2 27 yX2_digitAt ∈ SWL := SWL_mem 861 (by decide +kernel) rfl
theorem w_862 : Cond.methodLink RX3 342 yX3_tryWall ∈ SWL := SWL_mem 862 (by decide +kernel) rfl
theorem w_864 : Cond.instanceMethod yX3_tryWall ∈ SWL := SWL_mem 864 (by decide +kernel) rfl
theorem w_865 : Cond.code yX3_tryWall cX3_tryWall 3 (some .boolean) ∈ SWL := SWL_mem 865 (by decide +kernel) rfl
theorem w_866 : Cond.methodLink RX3 345 yX3_tryTakingBack ∈ SWL := SWL_mem 866 (by decide +kernel) rfl
theorem w_868 : Cond.instanceMethod yX3_tryTakingBack ∈ SWL := SWL_mem 868 (by decide +kernel) rfl
theorem w_869 : Cond.code yX3_tryTakingBack cX3_tryTakingBack 2 (some .boolean) ∈ SWL := SWL_mem 869 (by decide +kernel) rfl
theorem w_870 : Cond.methodLink RX3 348 yX2_signAt ∈ SWL := SWL_mem 870 (by decide +kernel) rfl
theorem w_871 : Cond.instanceMethod yX2_signAt ∈ SWL := SWL_mem 871 (by decide +kernel) rfl
theorem w_872 : Cond.selects RX2 yX2_signAt yX2_signAt ∈ SWL := SWL_mem 872 (by decide +kernel) rfl
theorem w_873 : Cond.code yX2_signAt cX2_signAt 2 (some .int) ∈ SWL := SWL_mem 873 (by decide +kernel) rfl
theorem w_874 : Cond.methodLink RX3 351 yX3_trySliding ∈ SWL := SWL_mem 874 (by decide +kernel) rfl
theorem w_876 : Cond.instanceMethod yX3_trySliding ∈ SWL := SWL_mem 876 (by decide +kernel) rfl
theorem w_877 : Cond.code yX3_trySliding cX3_trySliding 4 (some .boolean) ∈ SWL := SWL_mem 877 (by decide +kernel) rfl
theorem w_878 : Cond.methodLink RX3 134 yX2_nextPart ∈ SWL := SWL_mem 878 (by decide +kernel) rfl
theorem w_879 : Cond.instanceMethod yX2_nextPart ∈ SWL := SWL_mem 879 (by decide +kernel) rfl
theorem w_880 : Cond.selects RX2 yX2_nextPart yX2_nextPart ∈ SWL := SWL_mem 880 (by decide +kernel) rfl
theorem w_881 : Cond.code yX2_nextPart cX2_nextPart 3 (some .int) ∈ SWL := SWL_mem 881 (by decide +kernel) rfl
theorem w_886 : Cond.instanceMethod yX3_stoppedPart ∈ SWL := SWL_mem 886 (by decide +kernel) rfl
theorem w_887 : Cond.selects RX3 yX3_stoppedPart yX3_stoppedPart ∈ SWL := SWL_mem 887 (by decide +kernel) rfl
theorem w_888 : Cond.code yX3_stoppedPart cX3_stoppedPart 1 (some .int) ∈ SWL := SWL_mem 888 (by decide +kernel) rfl
theorem w_894 : Cond.instanceMethod yX3_undo ∈ SWL := SWL_mem 894 (by decide +kernel) rfl
theorem w_895 : Cond.selects RX3 yX3_undo yX3_undo ∈ SWL := SWL_mem 895 (by decide +kernel) rfl
theorem w_896 : Cond.code yX3_undo cX3_undo 1 (some .int) ∈ SWL := SWL_mem 896 (by decide +kernel) rfl
theorem w_902 : Cond.instanceMethod yX3_restore ∈ SWL := SWL_mem 902 (by decide +kernel) rfl
theorem w_903 : Cond.selects RX3 yX3_restore yX3_restore ∈ SWL := SWL_mem 903 (by decide +kernel) rfl
theorem w_904 : Cond.code yX3_restore cX3_restore 1 (some .int) ∈ SWL := SWL_mem 904 (by decide +kernel) rfl
theorem w_910 : Cond.instanceMethod yX3_laneOf ∈ SWL := SWL_mem 910 (by decide +kernel) rfl
theorem w_911 : Cond.selects RX3 yX3_laneOf yX3_laneOf ∈ SWL := SWL_mem 911 (by decide +kernel) rfl
theorem w_912 : Cond.code yX3_laneOf cX3_laneOf 2 (some .int) ∈ SWL := SWL_mem 912 (by decide +kernel) rfl
theorem w_913 : Cond.methodLink RX3 161 yX1_hasCar ∈ SWL := SWL_mem 913 (by decide +kernel) rfl
theorem w_919 : Cond.instanceMethod yX3_placeOf ∈ SWL := SWL_mem 919 (by decide +kernel) rfl
theorem w_920 : Cond.selects RX3 yX3_placeOf yX3_placeOf ∈ SWL := SWL_mem 920 (by decide +kernel) rfl
theorem w_921 : Cond.code yX3_placeOf cX3_placeOf 2 (some .int) ∈ SWL := SWL_mem 921 (by decide +kernel) rfl
theorem w_926 : Cond.instanceMethod yX3_lengthOf ∈ SWL := SWL_mem 926 (by decide +kernel) rfl
theorem w_927 : Cond.selects RX3 yX3_lengthOf yX3_lengthOf ∈ SWL := SWL_mem 927 (by decide +kernel) rfl
theorem w_928 : Cond.code yX3_lengthOf cX3_lengthOf 2 (some .int) ∈ SWL := SWL_mem 928 (by decide +kernel) rfl
theorem w_933 : Cond.instanceMethod yX3_carOn ∈ SWL := SWL_mem 933 (by decide +kernel) rfl
theorem w_934 : Cond.selects RX3 yX3_carOn yX3_carOn ∈ SWL := SWL_mem 934 (by decide +kernel) rfl
theorem w_935 : Cond.code yX3_carOn cX3_carOn 2 (some .int) ∈ SWL := SWL_mem 935 (by decide +kernel) rfl
theorem w_936 : Cond.methodLink RX3 179 yX3_isCell ∈ SWL := SWL_mem 936 (by decide +kernel) rfl
theorem w_942 : Cond.instanceMethod yX3_isWall ∈ SWL := SWL_mem 942 (by decide +kernel) rfl
theorem w_943 : Cond.selects RX3 yX3_isWall yX3_isWall ∈ SWL := SWL_mem 943 (by decide +kernel) rfl
theorem w_944 : Cond.code yX3_isWall cX3_isWall 2 (some .boolean) ∈ SWL := SWL_mem 944 (by decide +kernel) rfl
theorem w_949 : Cond.instanceMethod yX3_room ∈ SWL := SWL_mem 949 (by decide +kernel) rfl
theorem w_950 : Cond.selects RX3 yX3_room yX3_room ∈ SWL := SWL_mem 950 (by decide +kernel) rfl
theorem w_951 : Cond.code yX3_room cX3_room 3 (some .int) ∈ SWL := SWL_mem 951 (by decide +kernel) rfl
theorem w_956 : Cond.instanceMethod yX3_carOfSlide ∈ SWL := SWL_mem 956 (by decide +kernel) rfl
theorem w_957 : Cond.selects RX3 yX3_carOfSlide yX3_carOfSlide ∈ SWL := SWL_mem 957 (by decide +kernel) rfl
theorem w_958 : Cond.code yX3_carOfSlide cX3_carOfSlide 2 (some .int) ∈ SWL := SWL_mem 958 (by decide +kernel) rfl
theorem w_959 : Cond.methodLink RX3 199 yX1_hasSlide ∈ SWL := SWL_mem 959 (by decide +kernel) rfl
theorem w_965 : Cond.instanceMethod yX3_changeBySlide ∈ SWL := SWL_mem 965 (by decide +kernel) rfl
theorem w_966 : Cond.selects RX3 yX3_changeBySlide yX3_changeBySlide ∈ SWL := SWL_mem 966 (by decide +kernel) rfl
theorem w_967 : Cond.code yX3_changeBySlide cX3_changeBySlide 2 (some .int) ∈ SWL := SWL_mem 967 (by decide +kernel) rfl
theorem w_972 : Cond.instanceMethod yX3_stepsOf ∈ SWL := SWL_mem 972 (by decide +kernel) rfl
theorem w_973 : Cond.selects RX3 yX3_stepsOf yX3_stepsOf ∈ SWL := SWL_mem 973 (by decide +kernel) rfl
theorem w_974 : Cond.code yX3_stepsOf cX3_stepsOf 2 (some .int) ∈ SWL := SWL_mem 974 (by decide +kernel) rfl
theorem w_979 : Cond.instanceMethod yX3_nextCar ∈ SWL := SWL_mem 979 (by decide +kernel) rfl
theorem w_980 : Cond.selects RX3 yX3_nextCar yX3_nextCar ∈ SWL := SWL_mem 980 (by decide +kernel) rfl
theorem w_981 : Cond.code yX3_nextCar cX3_nextCar 1 (some .int) ∈ SWL := SWL_mem 981 (by decide +kernel) rfl
theorem w_982 : Cond.methodLink RX3 237 yX3_hasNextSlide ∈ SWL := SWL_mem 982 (by decide +kernel) rfl
theorem w_984 : Cond.instanceMethod yX3_hasNextSlide ∈ SWL := SWL_mem 984 (by decide +kernel) rfl
theorem w_985 : Cond.code yX3_hasNextSlide cX3_hasNextSlide 1 (some .boolean) ∈ SWL := SWL_mem 985 (by decide +kernel) rfl
theorem w_991 : Cond.instanceMethod yX3_nextChange ∈ SWL := SWL_mem 991 (by decide +kernel) rfl
theorem w_992 : Cond.selects RX3 yX3_nextChange yX3_nextChange ∈ SWL := SWL_mem 992 (by decide +kernel) rfl
theorem w_993 : Cond.code yX3_nextChange cX3_nextChange 1 (some .int) ∈ SWL := SWL_mem 993 (by decide +kernel) rfl
theorem w_998 : Cond.instanceMethod yX3_fewestBehind ∈ SWL := SWL_mem 998 (by decide +kernel) rfl
theorem w_999 : Cond.selects RX3 yX3_fewestBehind yX3_fewestBehind ∈ SWL := SWL_mem 999 (by decide +kernel) rfl
theorem w_1000 : Cond.code yX3_fewestBehind cX3_fewestBehind 3 (some .int) ∈ SWL := SWL_mem 1000 (by decide +kernel) rfl
theorem w_1005 : Cond.instanceMethod yX3_fewestWithoutLast ∈ SWL := SWL_mem 1005 (by decide +kernel) rfl
theorem w_1006 : Cond.selects RX3 yX3_fewestWithoutLast yX3_fewestWithoutLast ∈ SWL := SWL_mem 1006 (by decide +kernel) rfl
theorem w_1007 : Cond.code yX3_fewestWithoutLast cX3_fewestWithoutLast 1 (some .int) ∈ SWL := SWL_mem 1007 (by decide +kernel) rfl
theorem w_1013 : Cond.instanceMethod yX3_fewestWithWall ∈ SWL := SWL_mem 1013 (by decide +kernel) rfl
theorem w_1014 : Cond.selects RX3 yX3_fewestWithWall yX3_fewestWithWall ∈ SWL := SWL_mem 1014 (by decide +kernel) rfl
theorem w_1015 : Cond.code yX3_fewestWithWall cX3_fewestWithWall 2 (some .int) ∈ SWL := SWL_mem 1015 (by decide +kernel) rfl
theorem w_1023 : Cond.fieldLink RX4 35 "CarTangosModel" "refusal" "I" ∈ SWL := SWL_mem 1023 (by decide +kernel) rfl
theorem w_1024 : Cond.fieldLink RX4 7 "CarTangosModel" "buffer" "[I" ∈ SWL := SWL_mem 1024 (by decide +kernel) rfl
theorem w_1025 : Cond.fieldLink RX4 198 "CarTangosModel" "size" "I" ∈ SWL := SWL_mem 1025 (by decide +kernel) rfl
theorem w_1026 : Cond.fieldLink RX4 13 "CarTangosModel" "now" "[I" ∈ SWL := SWL_mem 1026 (by decide +kernel) rfl
theorem w_1027 : Cond.fieldLink RX4 16 "CarTangosModel" "saved" "[I" ∈ SWL := SWL_mem 1027 (by decide +kernel) rfl
theorem w_1028 : Cond.fieldLink RX4 123 "CarTangosModel" "states" "I" ∈ SWL := SWL_mem 1028 (by decide +kernel) rfl
theorem w_1029 : Cond.fieldLink RX4 19 "CarTangosModel" "kept" "[I" ∈ SWL := SWL_mem 1029 (by decide +kernel) rfl
theorem w_1030 : Cond.fieldLink RX4 252 "CarTangosModel" "isKept" "Z" ∈ SWL := SWL_mem 1030 (by decide +kernel) rfl
theorem w_1031 : Cond.fieldLink RX4 22 "CarTangosModel" "mask" "[I" ∈ SWL := SWL_mem 1031 (by decide +kernel) rfl
theorem w_1032 : Cond.fieldLink RX4 61 "CarTangosModel" "many" "I" ∈ SWL := SWL_mem 1032 (by decide +kernel) rfl
theorem w_1033 : Cond.fieldLink RX4 64 "CarTangosModel" "stones" "I" ∈ SWL := SWL_mem 1033 (by decide +kernel) rfl
theorem w_1034 : Cond.fieldLink RX4 25 "CarTangosModel" "far" "[I" ∈ SWL := SWL_mem 1034 (by decide +kernel) rfl
theorem w_1035 : Cond.fieldLink RX4 28 "CarTangosModel" "queue" "[I" ∈ SWL := SWL_mem 1035 (by decide +kernel) rfl
theorem w_1036 : Cond.fieldLink RX4 31 "CarTangosModel" "isQueued" "[Z" ∈ SWL := SWL_mem 1036 (by decide +kernel) rfl
theorem w_1037 : Cond.fieldLink RX4 67 "CarTangosModel" "tail" "I" ∈ SWL := SWL_mem 1037 (by decide +kernel) rfl
theorem w_1038 : Cond.fieldLink RX4 201 "CarTangosModel" "spot" "I" ∈ SWL := SWL_mem 1038 (by decide +kernel) rfl
theorem w_1039 : Cond.fieldLink RX4 210 "CarTangosModel" "one" "I" ∈ SWL := SWL_mem 1039 (by decide +kernel) rfl
theorem w_1040 : Cond.fieldLink RX4 216 "CarTangosModel" "two" "I" ∈ SWL := SWL_mem 1040 (by decide +kernel) rfl
theorem w_1041 : Cond.fieldLink RX4 204 "CarTangosModel" "three" "I" ∈ SWL := SWL_mem 1041 (by decide +kernel) rfl
theorem w_1042 : Cond.fieldLink RX4 235 "CarTangosModel" "isAll" "Z" ∈ SWL := SWL_mem 1042 (by decide +kernel) rfl
theorem w_1043 : Cond.fieldLink RX4 232 "CarTangosModel" "done" "I" ∈ SWL := SWL_mem 1043 (by decide +kernel) rfl
theorem w_1044 : Cond.fieldLink RX4 303 "CarTangosModel" "hash" "J" ∈ SWL := SWL_mem 1044 (by decide +kernel) rfl
theorem w_1092 : Cond.instanceMethod yX4_thrown ∈ SWL := SWL_mem 1092 (by decide +kernel) rfl
theorem w_1093 : Cond.selects RX4 yX4_thrown yX4_thrown ∈ SWL := SWL_mem 1093 (by decide +kernel) rfl
theorem w_1094 : Cond.code yX4_thrown cX4_thrown 1 (some .int) ∈ SWL := SWL_mem 1094 (by decide +kernel) rfl
theorem w_1096 : Cond.instanceMethod yX4_addCar ∈ SWL := SWL_mem 1096 (by decide +kernel) rfl
theorem w_1097 : Cond.selects RX4 yX4_addCar yX4_addCar ∈ SWL := SWL_mem 1097 (by decide +kernel) rfl
theorem w_1098 : Cond.code yX4_addCar cX4_addCar 4 (some .int) ∈ SWL := SWL_mem 1098 (by decide +kernel) rfl
theorem w_1099 : Cond.methodLink RX4 155 yX4_wrongCar ∈ SWL := SWL_mem 1099 (by decide +kernel) rfl
theorem w_1101 : Cond.instanceMethod yX4_wrongCar ∈ SWL := SWL_mem 1101 (by decide +kernel) rfl
theorem w_1102 : Cond.code yX4_wrongCar cX4_wrongCar 4 (some .int) ∈ SWL := SWL_mem 1102 (by decide +kernel) rfl
theorem w_1103 : Cond.constantLong RX4 130 (9 : Int64) ∈ SWL := SWL_mem 1103 (by decide +kernel) rfl
theorem w_1104 : Cond.methodLink RX4 47 yX4_in ∈ SWL := SWL_mem 1104 (by decide +kernel) rfl
theorem w_1105 : Cond.static yX4_in ∈ SWL := SWL_mem 1105 (by decide +kernel) rfl
theorem w_1106 : Cond.code yX4_in cX4_in 6 (some .boolean) ∈ SWL := SWL_mem 1106 (by decide +kernel) rfl
theorem w_1107 : Cond.constantLong RX4 132 (2 : Int64) ∈ SWL := SWL_mem 1107 (by decide +kernel) rfl
theorem w_1108 : Cond.constantLong RX4 73 (3 : Int64) ∈ SWL := SWL_mem 1108 (by decide +kernel) rfl
theorem w_1109 : Cond.methodLink RX4 39 yX4_cells ∈ SWL := SWL_mem 1109 (by decide +kernel) rfl
theorem w_1110 : Cond.static yX4_cells ∈ SWL := SWL_mem 1110 (by decide +kernel) rfl
theorem w_1111 : Cond.code yX4_cells cX4_cells 5 (some .int) ∈ SWL := SWL_mem 1111 (by decide +kernel) rfl
theorem w_1112 : Cond.methodLink RX4 53 yX4_occupied ∈ SWL := SWL_mem 1112 (by decide +kernel) rfl
theorem w_1114 : Cond.instanceMethod yX4_occupied ∈ SWL := SWL_mem 1114 (by decide +kernel) rfl
theorem w_1115 : Cond.code yX4_occupied cX4_occupied 3 (some .int) ∈ SWL := SWL_mem 1115 (by decide +kernel) rfl
theorem w_1116 : Cond.methodLink RX4 43 yX4_cellsOf ∈ SWL := SWL_mem 1116 (by decide +kernel) rfl
theorem w_1118 : Cond.instanceMethod yX4_cellsOf ∈ SWL := SWL_mem 1118 (by decide +kernel) rfl
theorem w_1119 : Cond.code yX4_cellsOf cX4_cellsOf 2 (some .int) ∈ SWL := SWL_mem 1119 (by decide +kernel) rfl
theorem w_1120 : Cond.methodLink RX4 158 yX4_refused ∈ SWL := SWL_mem 1120 (by decide +kernel) rfl
theorem w_1122 : Cond.instanceMethod yX4_refused ∈ SWL := SWL_mem 1122 (by decide +kernel) rfl
theorem w_1123 : Cond.code yX4_refused cX4_refused 2 (some .boolean) ∈ SWL := SWL_mem 1123 (by decide +kernel) rfl
theorem w_1124 : Cond.methodLink RX4 161 yX4_saves ∈ SWL := SWL_mem 1124 (by decide +kernel) rfl
theorem w_1126 : Cond.instanceMethod yX4_saves ∈ SWL := SWL_mem 1126 (by decide +kernel) rfl
theorem w_1127 : Cond.code yX4_saves cX4_saves 2 (none) ∈ SWL := SWL_mem 1127 (by decide +kernel) rfl
theorem w_1128 : Cond.methodLink RX4 126 yX4_copyState ∈ SWL := SWL_mem 1128 (by decide +kernel) rfl
theorem w_1129 : Cond.static yX4_copyState ∈ SWL := SWL_mem 1129 (by decide +kernel) rfl
theorem w_1130 : Cond.code yX4_copyState cX4_copyState 5 (none) ∈ SWL := SWL_mem 1130 (by decide +kernel) rfl
theorem w_1131 : Cond.methodLink RX4 164 yX4_addOn ∈ SWL := SWL_mem 1131 (by decide +kernel) rfl
theorem w_1133 : Cond.instanceMethod yX4_addOn ∈ SWL := SWL_mem 1133 (by decide +kernel) rfl
theorem w_1134 : Cond.code yX4_addOn cX4_addOn 5 (some .int) ∈ SWL := SWL_mem 1134 (by decide +kernel) rfl
theorem w_1136 : Cond.instanceMethod yX4_dropLast ∈ SWL := SWL_mem 1136 (by decide +kernel) rfl
theorem w_1137 : Cond.selects RX4 yX4_dropLast yX4_dropLast ∈ SWL := SWL_mem 1137 (by decide +kernel) rfl
theorem w_1138 : Cond.code yX4_dropLast cX4_dropLast 1 (some .int) ∈ SWL := SWL_mem 1138 (by decide +kernel) rfl
theorem w_1140 : Cond.instanceMethod yX4_toggleWall ∈ SWL := SWL_mem 1140 (by decide +kernel) rfl
theorem w_1141 : Cond.selects RX4 yX4_toggleWall yX4_toggleWall ∈ SWL := SWL_mem 1141 (by decide +kernel) rfl
theorem w_1142 : Cond.code yX4_toggleWall cX4_toggleWall 2 (some .boolean) ∈ SWL := SWL_mem 1142 (by decide +kernel) rfl
theorem w_1143 : Cond.methodLink RX4 167 yX4_isCell ∈ SWL := SWL_mem 1143 (by decide +kernel) rfl
theorem w_1144 : Cond.static yX4_isCell ∈ SWL := SWL_mem 1144 (by decide +kernel) rfl
theorem w_1145 : Cond.code yX4_isCell cX4_isCell 1 (some .boolean) ∈ SWL := SWL_mem 1145 (by decide +kernel) rfl
theorem w_1146 : Cond.constantLong RX4 51 (24 : Int64) ∈ SWL := SWL_mem 1146 (by decide +kernel) rfl
theorem w_1147 : Cond.methodLink RX4 170 yX4_canTurn ∈ SWL := SWL_mem 1147 (by decide +kernel) rfl
theorem w_1149 : Cond.instanceMethod yX4_canTurn ∈ SWL := SWL_mem 1149 (by decide +kernel) rfl
theorem w_1150 : Cond.code yX4_canTurn cX4_canTurn 2 (some .boolean) ∈ SWL := SWL_mem 1150 (by decide +kernel) rfl
theorem w_1151 : Cond.methodLink RX4 134 yX4_hasWall ∈ SWL := SWL_mem 1151 (by decide +kernel) rfl
theorem w_1153 : Cond.instanceMethod yX4_hasWall ∈ SWL := SWL_mem 1153 (by decide +kernel) rfl
theorem w_1154 : Cond.code yX4_hasWall cX4_hasWall 2 (some .boolean) ∈ SWL := SWL_mem 1154 (by decide +kernel) rfl
theorem w_1155 : Cond.methodLink RX4 137 yX4_bits ∈ SWL := SWL_mem 1155 (by decide +kernel) rfl
theorem w_1156 : Cond.static yX4_bits ∈ SWL := SWL_mem 1156 (by decide +kernel) rfl
theorem w_1157 : Cond.code yX4_bits cX4_bits 3 (some .int) ∈ SWL := SWL_mem 1157 (by decide +kernel) rfl
theorem w_1158 : Cond.methodLink RX4 173 yX4_turnOn ∈ SWL := SWL_mem 1158 (by decide +kernel) rfl
theorem w_1160 : Cond.instanceMethod yX4_turnOn ∈ SWL := SWL_mem 1160 (by decide +kernel) rfl
theorem w_1161 : Cond.code yX4_turnOn cX4_turnOn 2 (some .boolean) ∈ SWL := SWL_mem 1161 (by decide +kernel) rfl
theorem w_1163 : Cond.instanceMethod yX4_slide ∈ SWL := SWL_mem 1163 (by decide +kernel) rfl
theorem w_1164 : Cond.selects RX4 yX4_slide yX4_slide ∈ SWL := SWL_mem 1164 (by decide +kernel) rfl
theorem w_1165 : Cond.code yX4_slide cX4_slide 3 (some .int) ∈ SWL := SWL_mem 1165 (by decide +kernel) rfl
theorem w_1166 : Cond.methodLink RX4 178 yX4_isCar ∈ SWL := SWL_mem 1166 (by decide +kernel) rfl
theorem w_1168 : Cond.instanceMethod yX4_isCar ∈ SWL := SWL_mem 1168 (by decide +kernel) rfl
theorem w_1169 : Cond.code yX4_isCar cX4_isCar 2 (some .boolean) ∈ SWL := SWL_mem 1169 (by decide +kernel) rfl
theorem w_1170 : Cond.methodLink RX4 181 yX4_isChange ∈ SWL := SWL_mem 1170 (by decide +kernel) rfl
theorem w_1171 : Cond.static yX4_isChange ∈ SWL := SWL_mem 1171 (by decide +kernel) rfl
theorem w_1172 : Cond.code yX4_isChange cX4_isChange 1 (some .boolean) ∈ SWL := SWL_mem 1172 (by decide +kernel) rfl
theorem w_1173 : Cond.constantLong RX4 176 (-3 : Int64) ∈ SWL := SWL_mem 1173 (by decide +kernel) rfl
theorem w_1174 : Cond.methodLink RX4 119 yX4_canSlide ∈ SWL := SWL_mem 1174 (by decide +kernel) rfl
theorem w_1176 : Cond.instanceMethod yX4_canSlide ∈ SWL := SWL_mem 1176 (by decide +kernel) rfl
theorem w_1177 : Cond.code yX4_canSlide cX4_canSlide 3 (some .boolean) ∈ SWL := SWL_mem 1177 (by decide +kernel) rfl
theorem w_1178 : Cond.methodLink RX4 57 yX4_space ∈ SWL := SWL_mem 1178 (by decide +kernel) rfl
theorem w_1180 : Cond.instanceMethod yX4_space ∈ SWL := SWL_mem 1180 (by decide +kernel) rfl
theorem w_1181 : Cond.code yX4_space cX4_space 7 (some .int) ∈ SWL := SWL_mem 1181 (by decide +kernel) rfl
theorem w_1182 : Cond.methodLink RX4 152 yX4_slideOn ∈ SWL := SWL_mem 1182 (by decide +kernel) rfl
theorem w_1184 : Cond.instanceMethod yX4_slideOn ∈ SWL := SWL_mem 1184 (by decide +kernel) rfl
theorem w_1185 : Cond.code yX4_slideOn cX4_slideOn 3 (some .int) ∈ SWL := SWL_mem 1185 (by decide +kernel) rfl
theorem w_1187 : Cond.instanceMethod yX4_takeBack ∈ SWL := SWL_mem 1187 (by decide +kernel) rfl
theorem w_1188 : Cond.selects RX4 yX4_takeBack yX4_takeBack ∈ SWL := SWL_mem 1188 (by decide +kernel) rfl
theorem w_1189 : Cond.code yX4_takeBack cX4_takeBack 1 (some .int) ∈ SWL := SWL_mem 1189 (by decide +kernel) rfl
theorem w_1190 : Cond.methodLink RX4 184 yX4_backOn ∈ SWL := SWL_mem 1190 (by decide +kernel) rfl
theorem w_1192 : Cond.instanceMethod yX4_backOn ∈ SWL := SWL_mem 1192 (by decide +kernel) rfl
theorem w_1193 : Cond.code yX4_backOn cX4_backOn 2 (some .int) ∈ SWL := SWL_mem 1193 (by decide +kernel) rfl
theorem w_1194 : Cond.methodLink RX4 140 yX4_logCar ∈ SWL := SWL_mem 1194 (by decide +kernel) rfl
theorem w_1196 : Cond.instanceMethod yX4_logCar ∈ SWL := SWL_mem 1196 (by decide +kernel) rfl
theorem w_1197 : Cond.code yX4_logCar cX4_logCar 2 (some .int) ∈ SWL := SWL_mem 1197 (by decide +kernel) rfl
theorem w_1198 : Cond.methodLink RX4 143 yX4_logBy ∈ SWL := SWL_mem 1198 (by decide +kernel) rfl
theorem w_1200 : Cond.instanceMethod yX4_logBy ∈ SWL := SWL_mem 1200 (by decide +kernel) rfl
theorem w_1201 : Cond.code yX4_logBy cX4_logBy 2 (some .int) ∈ SWL := SWL_mem 1201 (by decide +kernel) rfl
theorem w_1203 : Cond.instanceMethod yX4_rewind ∈ SWL := SWL_mem 1203 (by decide +kernel) rfl
theorem w_1204 : Cond.selects RX4 yX4_rewind yX4_rewind ∈ SWL := SWL_mem 1204 (by decide +kernel) rfl
theorem w_1205 : Cond.code yX4_rewind cX4_rewind 2 (some .int) ∈ SWL := SWL_mem 1205 (by decide +kernel) rfl
theorem w_1207 : Cond.instanceMethod yX4_driveOut ∈ SWL := SWL_mem 1207 (by decide +kernel) rfl
theorem w_1208 : Cond.selects RX4 yX4_driveOut yX4_driveOut ∈ SWL := SWL_mem 1208 (by decide +kernel) rfl
theorem w_1209 : Cond.code yX4_driveOut cX4_driveOut 1 (some .int) ∈ SWL := SWL_mem 1209 (by decide +kernel) rfl
theorem w_1210 : Cond.methodLink RX4 187 yX4_canDrive ∈ SWL := SWL_mem 1210 (by decide +kernel) rfl
theorem w_1212 : Cond.instanceMethod yX4_canDrive ∈ SWL := SWL_mem 1212 (by decide +kernel) rfl
theorem w_1213 : Cond.code yX4_canDrive cX4_canDrive 2 (some .boolean) ∈ SWL := SWL_mem 1213 (by decide +kernel) rfl
theorem w_1214 : Cond.methodLink RX4 146 yX4_planned ∈ SWL := SWL_mem 1214 (by decide +kernel) rfl
theorem w_1216 : Cond.instanceMethod yX4_planned ∈ SWL := SWL_mem 1216 (by decide +kernel) rfl
theorem w_1217 : Cond.code yX4_planned cX4_planned 1 (some .int) ∈ SWL := SWL_mem 1217 (by decide +kernel) rfl
theorem w_1218 : Cond.methodLink RX4 97 yX4_prepares ∈ SWL := SWL_mem 1218 (by decide +kernel) rfl
theorem w_1220 : Cond.instanceMethod yX4_prepares ∈ SWL := SWL_mem 1220 (by decide +kernel) rfl
theorem w_1221 : Cond.code yX4_prepares cX4_prepares 6 (none) ∈ SWL := SWL_mem 1221 (by decide +kernel) rfl
theorem w_1222 : Cond.methodLink RX4 109 yX4_fromEnds ∈ SWL := SWL_mem 1222 (by decide +kernel) rfl
theorem w_1224 : Cond.instanceMethod yX4_fromEnds ∈ SWL := SWL_mem 1224 (by decide +kernel) rfl
theorem w_1225 : Cond.code yX4_fromEnds cX4_fromEnds 2 (none) ∈ SWL := SWL_mem 1225 (by decide +kernel) rfl
theorem w_1226 : Cond.methodLink RX4 83 yX4_forgets ∈ SWL := SWL_mem 1226 (by decide +kernel) rfl
theorem w_1228 : Cond.instanceMethod yX4_forgets ∈ SWL := SWL_mem 1228 (by decide +kernel) rfl
theorem w_1229 : Cond.code yX4_forgets cX4_forgets 2 (none) ∈ SWL := SWL_mem 1229 (by decide +kernel) rfl
theorem w_1230 : Cond.methodLink RX4 90 yX4_isEnd ∈ SWL := SWL_mem 1230 (by decide +kernel) rfl
theorem w_1232 : Cond.instanceMethod yX4_isEnd ∈ SWL := SWL_mem 1232 (by decide +kernel) rfl
theorem w_1233 : Cond.code yX4_isEnd cX4_isEnd 2 (some .boolean) ∈ SWL := SWL_mem 1233 (by decide +kernel) rfl
theorem w_1234 : Cond.methodLink RX4 94 yX4_isWhole ∈ SWL := SWL_mem 1234 (by decide +kernel) rfl
theorem w_1236 : Cond.instanceMethod yX4_isWhole ∈ SWL := SWL_mem 1236 (by decide +kernel) rfl
theorem w_1237 : Cond.code yX4_isWhole cX4_isWhole 5 (some .boolean) ∈ SWL := SWL_mem 1237 (by decide +kernel) rfl
theorem w_1238 : Cond.methodLink RX4 75 yX4_reaches ∈ SWL := SWL_mem 1238 (by decide +kernel) rfl
theorem w_1240 : Cond.instanceMethod yX4_reaches ∈ SWL := SWL_mem 1240 (by decide +kernel) rfl
theorem w_1241 : Cond.code yX4_reaches cX4_reaches 3 (none) ∈ SWL := SWL_mem 1241 (by decide +kernel) rfl
theorem w_1242 : Cond.methodLink RX4 86 yX4_spreads ∈ SWL := SWL_mem 1242 (by decide +kernel) rfl
theorem w_1244 : Cond.instanceMethod yX4_spreads ∈ SWL := SWL_mem 1244 (by decide +kernel) rfl
theorem w_1245 : Cond.code yX4_spreads cX4_spreads 4 (none) ∈ SWL := SWL_mem 1245 (by decide +kernel) rfl
theorem w_1246 : Cond.methodLink RX4 79 yX4_goes ∈ SWL := SWL_mem 1246 (by decide +kernel) rfl
theorem w_1248 : Cond.instanceMethod yX4_goes ∈ SWL := SWL_mem 1248 (by decide +kernel) rfl
theorem w_1249 : Cond.code yX4_goes cX4_goes 9 (none) ∈ SWL := SWL_mem 1249 (by decide +kernel) rfl
theorem w_1250 : Cond.methodLink RX4 70 yX4_setOf ∈ SWL := SWL_mem 1250 (by decide +kernel) rfl
theorem w_1252 : Cond.instanceMethod yX4_setOf ∈ SWL := SWL_mem 1252 (by decide +kernel) rfl
theorem w_1253 : Cond.code yX4_setOf cX4_setOf 4 (some .int) ∈ SWL := SWL_mem 1253 (by decide +kernel) rfl
theorem w_1254 : Cond.methodLink RX4 100 yX4_codeNow ∈ SWL := SWL_mem 1254 (by decide +kernel) rfl
theorem w_1256 : Cond.instanceMethod yX4_codeNow ∈ SWL := SWL_mem 1256 (by decide +kernel) rfl
theorem w_1257 : Cond.code yX4_codeNow cX4_codeNow 3 (some .int) ∈ SWL := SWL_mem 1257 (by decide +kernel) rfl
theorem w_1258 : Cond.methodLink RX4 191 yX4_driveOn ∈ SWL := SWL_mem 1258 (by decide +kernel) rfl
theorem w_1260 : Cond.instanceMethod yX4_driveOn ∈ SWL := SWL_mem 1260 (by decide +kernel) rfl
theorem w_1261 : Cond.code yX4_driveOn cX4_driveOn 4 (some .int) ∈ SWL := SWL_mem 1261 (by decide +kernel) rfl
theorem w_1262 : Cond.methodLink RX4 149 yX4_next ∈ SWL := SWL_mem 1262 (by decide +kernel) rfl
theorem w_1264 : Cond.instanceMethod yX4_next ∈ SWL := SWL_mem 1264 (by decide +kernel) rfl
theorem w_1265 : Cond.code yX4_next cX4_next 6 (some .int) ∈ SWL := SWL_mem 1265 (by decide +kernel) rfl
theorem w_1267 : Cond.instanceMethod yX4_append ∈ SWL := SWL_mem 1267 (by decide +kernel) rfl
theorem w_1268 : Cond.selects RX4 yX4_append yX4_append ∈ SWL := SWL_mem 1268 (by decide +kernel) rfl
theorem w_1269 : Cond.code yX4_append cX4_append 2 (some .int) ∈ SWL := SWL_mem 1269 (by decide +kernel) rfl
theorem w_1270 : Cond.constantLong RX4 194 (33 : Int64) ∈ SWL := SWL_mem 1270 (by decide +kernel) rfl
theorem w_1271 : Cond.constantLong RX4 196 (126 : Int64) ∈ SWL := SWL_mem 1271 (by decide +kernel) rfl
theorem w_1273 : Cond.instanceMethod yX4_clearBuffer ∈ SWL := SWL_mem 1273 (by decide +kernel) rfl
theorem w_1274 : Cond.selects RX4 yX4_clearBuffer yX4_clearBuffer ∈ SWL := SWL_mem 1274 (by decide +kernel) rfl
theorem w_1275 : Cond.code yX4_clearBuffer cX4_clearBuffer 2 (some .int) ∈ SWL := SWL_mem 1275 (by decide +kernel) rfl
theorem w_1277 : Cond.instanceMethod yX4_firstError ∈ SWL := SWL_mem 1277 (by decide +kernel) rfl
theorem w_1278 : Cond.selects RX4 yX4_firstError yX4_firstError ∈ SWL := SWL_mem 1278 (by decide +kernel) rfl
theorem w_1279 : Cond.code yX4_firstError cX4_firstError 1 (some .int) ∈ SWL := SWL_mem 1279 (by decide +kernel) rfl
theorem w_1280 : Cond.methodLink RX4 248 yX4_reads ∈ SWL := SWL_mem 1280 (by decide +kernel) rfl
theorem w_1282 : Cond.instanceMethod yX4_reads ∈ SWL := SWL_mem 1282 (by decide +kernel) rfl
theorem w_1283 : Cond.code yX4_reads cX4_reads 6 (some .int) ∈ SWL := SWL_mem 1283 (by decide +kernel) rfl
theorem w_1284 : Cond.methodLink RX4 239 yX4_isSign ∈ SWL := SWL_mem 1284 (by decide +kernel) rfl
theorem w_1285 : Cond.static yX4_isSign ∈ SWL := SWL_mem 1285 (by decide +kernel) rfl
theorem w_1286 : Cond.code yX4_isSign cX4_isSign 1 (some .boolean) ∈ SWL := SWL_mem 1286 (by decide +kernel) rfl
theorem w_1287 : Cond.constantLong RX4 228 (48 : Int64) ∈ SWL := SWL_mem 1287 (by decide +kernel) rfl
theorem w_1288 : Cond.constantLong RX4 230 (53 : Int64) ∈ SWL := SWL_mem 1288 (by decide +kernel) rfl
theorem w_1289 : Cond.methodLink RX4 242 yX4_part ∈ SWL := SWL_mem 1289 (by decide +kernel) rfl
theorem w_1291 : Cond.instanceMethod yX4_part ∈ SWL := SWL_mem 1291 (by decide +kernel) rfl
theorem w_1292 : Cond.code yX4_part cX4_part 2 (some .boolean) ∈ SWL := SWL_mem 1292 (by decide +kernel) rfl
theorem w_1293 : Cond.methodLink RX4 219 yX4_car ∈ SWL := SWL_mem 1293 (by decide +kernel) rfl
theorem w_1295 : Cond.instanceMethod yX4_car ∈ SWL := SWL_mem 1295 (by decide +kernel) rfl
theorem w_1296 : Cond.code yX4_car cX4_car 2 (some .boolean) ∈ SWL := SWL_mem 1296 (by decide +kernel) rfl
theorem w_1297 : Cond.methodLink RX4 207 yX4_digit ∈ SWL := SWL_mem 1297 (by decide +kernel) rfl
theorem w_1299 : Cond.instanceMethod yX4_digit ∈ SWL := SWL_mem 1299 (by decide +kernel) rfl
theorem w_1300 : Cond.code yX4_digit cX4_digit 4 (some .boolean) ∈ SWL := SWL_mem 1300 (by decide +kernel) rfl
theorem w_1301 : Cond.methodLink RX4 213 yX4_goesOn ∈ SWL := SWL_mem 1301 (by decide +kernel) rfl
theorem w_1303 : Cond.instanceMethod yX4_goesOn ∈ SWL := SWL_mem 1303 (by decide +kernel) rfl
theorem w_1304 : Cond.code yX4_goesOn cX4_goesOn 3 (some .boolean) ∈ SWL := SWL_mem 1304 (by decide +kernel) rfl
theorem w_1305 : Cond.methodLink RX4 222 yX4_cell ∈ SWL := SWL_mem 1305 (by decide +kernel) rfl
theorem w_1307 : Cond.instanceMethod yX4_cell ∈ SWL := SWL_mem 1307 (by decide +kernel) rfl
theorem w_1308 : Cond.code yX4_cell cX4_cell 1 (some .boolean) ∈ SWL := SWL_mem 1308 (by decide +kernel) rfl
theorem w_1309 : Cond.methodLink RX4 225 yX4_change ∈ SWL := SWL_mem 1309 (by decide +kernel) rfl
theorem w_1311 : Cond.instanceMethod yX4_change ∈ SWL := SWL_mem 1311 (by decide +kernel) rfl
theorem w_1312 : Cond.code yX4_change cX4_change 1 (some .boolean) ∈ SWL := SWL_mem 1312 (by decide +kernel) rfl
theorem w_1313 : Cond.methodLink RX4 245 yX4_does ∈ SWL := SWL_mem 1313 (by decide +kernel) rfl
theorem w_1315 : Cond.instanceMethod yX4_does ∈ SWL := SWL_mem 1315 (by decide +kernel) rfl
theorem w_1316 : Cond.code yX4_does cX4_does 2 (some .boolean) ∈ SWL := SWL_mem 1316 (by decide +kernel) rfl
theorem w_1318 : Cond.instanceMethod yX4_work ∈ SWL := SWL_mem 1318 (by decide +kernel) rfl
theorem w_1319 : Cond.selects RX4 yX4_work yX4_work ∈ SWL := SWL_mem 1319 (by decide +kernel) rfl
theorem w_1320 : Cond.code yX4_work cX4_work 1 (some .int) ∈ SWL := SWL_mem 1320 (by decide +kernel) rfl
theorem w_1322 : Cond.instanceMethod yX4_hasStopped ∈ SWL := SWL_mem 1322 (by decide +kernel) rfl
theorem w_1323 : Cond.selects RX4 yX4_hasStopped yX4_hasStopped ∈ SWL := SWL_mem 1323 (by decide +kernel) rfl
theorem w_1324 : Cond.code yX4_hasStopped cX4_hasStopped 1 (some .boolean) ∈ SWL := SWL_mem 1324 (by decide +kernel) rfl
theorem w_1326 : Cond.instanceMethod yX4_stoppedPart ∈ SWL := SWL_mem 1326 (by decide +kernel) rfl
theorem w_1327 : Cond.selects RX4 yX4_stoppedPart yX4_stoppedPart ∈ SWL := SWL_mem 1327 (by decide +kernel) rfl
theorem w_1328 : Cond.code yX4_stoppedPart cX4_stoppedPart 1 (some .int) ∈ SWL := SWL_mem 1328 (by decide +kernel) rfl
theorem w_1330 : Cond.instanceMethod yX4_undo ∈ SWL := SWL_mem 1330 (by decide +kernel) rfl
theorem w_1331 : Cond.selects RX4 yX4_undo yX4_undo ∈ SWL := SWL_mem 1331 (by decide +kernel) rfl
theorem w_1332 : Cond.code yX4_undo cX4_undo 1 (some .int) ∈ SWL := SWL_mem 1332 (by decide +kernel) rfl
theorem w_1334 : Cond.instanceMethod yX4_keep ∈ SWL := SWL_mem 1334 (by decide +kernel) rfl
theorem w_1335 : Cond.selects RX4 yX4_keep yX4_keep ∈ SWL := SWL_mem 1335 (by decide +kernel) rfl
theorem w_1336 : Cond.code yX4_keep cX4_keep 1 (some .int) ∈ SWL := SWL_mem 1336 (by decide +kernel) rfl
theorem w_1338 : Cond.instanceMethod yX4_restore ∈ SWL := SWL_mem 1338 (by decide +kernel) rfl
theorem w_1339 : Cond.selects RX4 yX4_restore yX4_restore ∈ SWL := SWL_mem 1339 (by decide +kernel) rfl
theorem w_1340 : Cond.code yX4_restore cX4_restore 1 (some .int) ∈ SWL := SWL_mem 1340 (by decide +kernel) rfl
theorem w_1342 : Cond.instanceMethod yX4_savedStates ∈ SWL := SWL_mem 1342 (by decide +kernel) rfl
theorem w_1343 : Cond.selects RX4 yX4_savedStates yX4_savedStates ∈ SWL := SWL_mem 1343 (by decide +kernel) rfl
theorem w_1344 : Cond.code yX4_savedStates cX4_savedStates 1 (some .int) ∈ SWL := SWL_mem 1344 (by decide +kernel) rfl
theorem w_1346 : Cond.instanceMethod yX4_cars ∈ SWL := SWL_mem 1346 (by decide +kernel) rfl
theorem w_1347 : Cond.selects RX4 yX4_cars yX4_cars ∈ SWL := SWL_mem 1347 (by decide +kernel) rfl
theorem w_1348 : Cond.code yX4_cars cX4_cars 1 (some .int) ∈ SWL := SWL_mem 1348 (by decide +kernel) rfl
theorem w_1349 : Cond.methodLink RX4 255 yX4_told ∈ SWL := SWL_mem 1349 (by decide +kernel) rfl
theorem w_1351 : Cond.instanceMethod yX4_told ∈ SWL := SWL_mem 1351 (by decide +kernel) rfl
theorem w_1352 : Cond.code yX4_told cX4_told 2 (some .int) ∈ SWL := SWL_mem 1352 (by decide +kernel) rfl
theorem w_1354 : Cond.instanceMethod yX4_walls ∈ SWL := SWL_mem 1354 (by decide +kernel) rfl
theorem w_1355 : Cond.selects RX4 yX4_walls yX4_walls ∈ SWL := SWL_mem 1355 (by decide +kernel) rfl
theorem w_1356 : Cond.code yX4_walls cX4_walls 1 (some .int) ∈ SWL := SWL_mem 1356 (by decide +kernel) rfl
theorem w_1358 : Cond.instanceMethod yX4_laneOf ∈ SWL := SWL_mem 1358 (by decide +kernel) rfl
theorem w_1359 : Cond.selects RX4 yX4_laneOf yX4_laneOf ∈ SWL := SWL_mem 1359 (by decide +kernel) rfl
theorem w_1360 : Cond.code yX4_laneOf cX4_laneOf 2 (some .int) ∈ SWL := SWL_mem 1360 (by decide +kernel) rfl
theorem w_1361 : Cond.methodLink RX4 258 yX4_noCar ∈ SWL := SWL_mem 1361 (by decide +kernel) rfl
theorem w_1363 : Cond.instanceMethod yX4_noCar ∈ SWL := SWL_mem 1363 (by decide +kernel) rfl
theorem w_1364 : Cond.code yX4_noCar cX4_noCar 2 (some .boolean) ∈ SWL := SWL_mem 1364 (by decide +kernel) rfl
theorem w_1366 : Cond.instanceMethod yX4_placeOf ∈ SWL := SWL_mem 1366 (by decide +kernel) rfl
theorem w_1367 : Cond.selects RX4 yX4_placeOf yX4_placeOf ∈ SWL := SWL_mem 1367 (by decide +kernel) rfl
theorem w_1368 : Cond.code yX4_placeOf cX4_placeOf 2 (some .int) ∈ SWL := SWL_mem 1368 (by decide +kernel) rfl
theorem w_1370 : Cond.instanceMethod yX4_lengthOf ∈ SWL := SWL_mem 1370 (by decide +kernel) rfl
theorem w_1371 : Cond.selects RX4 yX4_lengthOf yX4_lengthOf ∈ SWL := SWL_mem 1371 (by decide +kernel) rfl
theorem w_1372 : Cond.code yX4_lengthOf cX4_lengthOf 2 (some .int) ∈ SWL := SWL_mem 1372 (by decide +kernel) rfl
theorem w_1374 : Cond.instanceMethod yX4_carOn ∈ SWL := SWL_mem 1374 (by decide +kernel) rfl
theorem w_1375 : Cond.selects RX4 yX4_carOn yX4_carOn ∈ SWL := SWL_mem 1375 (by decide +kernel) rfl
theorem w_1376 : Cond.code yX4_carOn cX4_carOn 2 (some .int) ∈ SWL := SWL_mem 1376 (by decide +kernel) rfl
theorem w_1377 : Cond.methodLink RX4 261 yX4_carAt ∈ SWL := SWL_mem 1377 (by decide +kernel) rfl
theorem w_1379 : Cond.instanceMethod yX4_carAt ∈ SWL := SWL_mem 1379 (by decide +kernel) rfl
theorem w_1380 : Cond.code yX4_carAt cX4_carAt 3 (some .int) ∈ SWL := SWL_mem 1380 (by decide +kernel) rfl
theorem w_1382 : Cond.instanceMethod yX4_isWall ∈ SWL := SWL_mem 1382 (by decide +kernel) rfl
theorem w_1383 : Cond.selects RX4 yX4_isWall yX4_isWall ∈ SWL := SWL_mem 1383 (by decide +kernel) rfl
theorem w_1384 : Cond.code yX4_isWall cX4_isWall 2 (some .boolean) ∈ SWL := SWL_mem 1384 (by decide +kernel) rfl
theorem w_1386 : Cond.instanceMethod yX4_freeCells ∈ SWL := SWL_mem 1386 (by decide +kernel) rfl
theorem w_1387 : Cond.selects RX4 yX4_freeCells yX4_freeCells ∈ SWL := SWL_mem 1387 (by decide +kernel) rfl
theorem w_1388 : Cond.code yX4_freeCells cX4_freeCells 1 (some .int) ∈ SWL := SWL_mem 1388 (by decide +kernel) rfl
theorem w_1390 : Cond.instanceMethod yX4_isOut ∈ SWL := SWL_mem 1390 (by decide +kernel) rfl
theorem w_1391 : Cond.selects RX4 yX4_isOut yX4_isOut ∈ SWL := SWL_mem 1391 (by decide +kernel) rfl
theorem w_1392 : Cond.code yX4_isOut cX4_isOut 1 (some .boolean) ∈ SWL := SWL_mem 1392 (by decide +kernel) rfl
theorem w_1393 : Cond.methodLink RX4 264 yX4_isFree ∈ SWL := SWL_mem 1393 (by decide +kernel) rfl
theorem w_1395 : Cond.instanceMethod yX4_isFree ∈ SWL := SWL_mem 1395 (by decide +kernel) rfl
theorem w_1396 : Cond.code yX4_isFree cX4_isFree 1 (some .boolean) ∈ SWL := SWL_mem 1396 (by decide +kernel) rfl
theorem w_1398 : Cond.instanceMethod yX4_room ∈ SWL := SWL_mem 1398 (by decide +kernel) rfl
theorem w_1399 : Cond.selects RX4 yX4_room yX4_room ∈ SWL := SWL_mem 1399 (by decide +kernel) rfl
theorem w_1400 : Cond.code yX4_room cX4_room 3 (some .int) ∈ SWL := SWL_mem 1400 (by decide +kernel) rfl
theorem w_1402 : Cond.instanceMethod yX4_possibleSlides ∈ SWL := SWL_mem 1402 (by decide +kernel) rfl
theorem w_1403 : Cond.selects RX4 yX4_possibleSlides yX4_possibleSlides ∈ SWL := SWL_mem 1403 (by decide +kernel) rfl
theorem w_1404 : Cond.code yX4_possibleSlides cX4_possibleSlides 1 (some .int) ∈ SWL := SWL_mem 1404 (by decide +kernel) rfl
theorem w_1405 : Cond.methodLink RX4 267 yX4_slides ∈ SWL := SWL_mem 1405 (by decide +kernel) rfl
theorem w_1407 : Cond.instanceMethod yX4_slides ∈ SWL := SWL_mem 1407 (by decide +kernel) rfl
theorem w_1408 : Cond.code yX4_slides cX4_slides 3 (some .int) ∈ SWL := SWL_mem 1408 (by decide +kernel) rfl
theorem w_1410 : Cond.instanceMethod yX4_logged ∈ SWL := SWL_mem 1410 (by decide +kernel) rfl
theorem w_1411 : Cond.selects RX4 yX4_logged yX4_logged ∈ SWL := SWL_mem 1411 (by decide +kernel) rfl
theorem w_1412 : Cond.code yX4_logged cX4_logged 1 (some .int) ∈ SWL := SWL_mem 1412 (by decide +kernel) rfl
theorem w_1414 : Cond.instanceMethod yX4_carOfSlide ∈ SWL := SWL_mem 1414 (by decide +kernel) rfl
theorem w_1415 : Cond.selects RX4 yX4_carOfSlide yX4_carOfSlide ∈ SWL := SWL_mem 1415 (by decide +kernel) rfl
theorem w_1416 : Cond.code yX4_carOfSlide cX4_carOfSlide 2 (some .int) ∈ SWL := SWL_mem 1416 (by decide +kernel) rfl
theorem w_1417 : Cond.methodLink RX4 270 yX4_noSlide ∈ SWL := SWL_mem 1417 (by decide +kernel) rfl
theorem w_1419 : Cond.instanceMethod yX4_noSlide ∈ SWL := SWL_mem 1419 (by decide +kernel) rfl
theorem w_1420 : Cond.code yX4_noSlide cX4_noSlide 2 (some .boolean) ∈ SWL := SWL_mem 1420 (by decide +kernel) rfl
theorem w_1422 : Cond.instanceMethod yX4_changeBySlide ∈ SWL := SWL_mem 1422 (by decide +kernel) rfl
theorem w_1423 : Cond.selects RX4 yX4_changeBySlide yX4_changeBySlide ∈ SWL := SWL_mem 1423 (by decide +kernel) rfl
theorem w_1424 : Cond.code yX4_changeBySlide cX4_changeBySlide 2 (some .int) ∈ SWL := SWL_mem 1424 (by decide +kernel) rfl
theorem w_1426 : Cond.instanceMethod yX4_stepsOf ∈ SWL := SWL_mem 1426 (by decide +kernel) rfl
theorem w_1427 : Cond.selects RX4 yX4_stepsOf yX4_stepsOf ∈ SWL := SWL_mem 1427 (by decide +kernel) rfl
theorem w_1428 : Cond.code yX4_stepsOf cX4_stepsOf 2 (some .int) ∈ SWL := SWL_mem 1428 (by decide +kernel) rfl
theorem w_1429 : Cond.methodLink RX4 273 yX4_stepsBy ∈ SWL := SWL_mem 1429 (by decide +kernel) rfl
theorem w_1431 : Cond.instanceMethod yX4_stepsBy ∈ SWL := SWL_mem 1431 (by decide +kernel) rfl
theorem w_1432 : Cond.code yX4_stepsBy cX4_stepsBy 4 (some .int) ∈ SWL := SWL_mem 1432 (by decide +kernel) rfl
theorem w_1434 : Cond.instanceMethod yX4_fuel ∈ SWL := SWL_mem 1434 (by decide +kernel) rfl
theorem w_1435 : Cond.selects RX4 yX4_fuel yX4_fuel ∈ SWL := SWL_mem 1435 (by decide +kernel) rfl
theorem w_1436 : Cond.code yX4_fuel cX4_fuel 1 (some .int) ∈ SWL := SWL_mem 1436 (by decide +kernel) rfl
theorem w_1437 : Cond.methodLink RX4 276 yX4_burnt ∈ SWL := SWL_mem 1437 (by decide +kernel) rfl
theorem w_1439 : Cond.instanceMethod yX4_burnt ∈ SWL := SWL_mem 1439 (by decide +kernel) rfl
theorem w_1440 : Cond.code yX4_burnt cX4_burnt 3 (some .int) ∈ SWL := SWL_mem 1440 (by decide +kernel) rfl
theorem w_1442 : Cond.instanceMethod yX4_fuelByCars ∈ SWL := SWL_mem 1442 (by decide +kernel) rfl
theorem w_1443 : Cond.selects RX4 yX4_fuelByCars yX4_fuelByCars ∈ SWL := SWL_mem 1443 (by decide +kernel) rfl
theorem w_1444 : Cond.code yX4_fuelByCars cX4_fuelByCars 1 (some .int) ∈ SWL := SWL_mem 1444 (by decide +kernel) rfl
theorem w_1446 : Cond.instanceMethod yX4_fewestSlides ∈ SWL := SWL_mem 1446 (by decide +kernel) rfl
theorem w_1447 : Cond.selects RX4 yX4_fewestSlides yX4_fewestSlides ∈ SWL := SWL_mem 1447 (by decide +kernel) rfl
theorem w_1448 : Cond.code yX4_fewestSlides cX4_fewestSlides 1 (some .int) ∈ SWL := SWL_mem 1448 (by decide +kernel) rfl
theorem w_1449 : Cond.methodLink RX4 279 yX4_fewest ∈ SWL := SWL_mem 1449 (by decide +kernel) rfl
theorem w_1451 : Cond.instanceMethod yX4_fewest ∈ SWL := SWL_mem 1451 (by decide +kernel) rfl
theorem w_1452 : Cond.code yX4_fewest cX4_fewest 2 (some .int) ∈ SWL := SWL_mem 1452 (by decide +kernel) rfl
theorem w_1453 : Cond.methodLink RX4 103 yX4_from ∈ SWL := SWL_mem 1453 (by decide +kernel) rfl
theorem w_1455 : Cond.instanceMethod yX4_from ∈ SWL := SWL_mem 1455 (by decide +kernel) rfl
theorem w_1456 : Cond.code yX4_from cX4_from 3 (none) ∈ SWL := SWL_mem 1456 (by decide +kernel) rfl
theorem w_1457 : Cond.methodLink RX4 106 yX4_leastEnd ∈ SWL := SWL_mem 1457 (by decide +kernel) rfl
theorem w_1459 : Cond.instanceMethod yX4_leastEnd ∈ SWL := SWL_mem 1459 (by decide +kernel) rfl
theorem w_1460 : Cond.code yX4_leastEnd cX4_leastEnd 3 (some .int) ∈ SWL := SWL_mem 1460 (by decide +kernel) rfl
theorem w_1462 : Cond.instanceMethod yX4_fewestSlidesFromEnds ∈ SWL := SWL_mem 1462 (by decide +kernel) rfl
theorem w_1463 : Cond.selects RX4 yX4_fewestSlidesFromEnds yX4_fewestSlidesFromEnds ∈ SWL := SWL_mem 1463 (by decide +kernel) rfl
theorem w_1464 : Cond.code yX4_fewestSlidesFromEnds cX4_fewestSlidesFromEnds 1 (some .int) ∈ SWL := SWL_mem 1464 (by decide +kernel) rfl
theorem w_1465 : Cond.methodLink RX4 282 yX4_fewestEnds ∈ SWL := SWL_mem 1465 (by decide +kernel) rfl
theorem w_1467 : Cond.instanceMethod yX4_fewestEnds ∈ SWL := SWL_mem 1467 (by decide +kernel) rfl
theorem w_1468 : Cond.code yX4_fewestEnds cX4_fewestEnds 1 (some .int) ∈ SWL := SWL_mem 1468 (by decide +kernel) rfl
theorem w_1470 : Cond.instanceMethod yX4_fewestSteps ∈ SWL := SWL_mem 1470 (by decide +kernel) rfl
theorem w_1471 : Cond.selects RX4 yX4_fewestSteps yX4_fewestSteps ∈ SWL := SWL_mem 1471 (by decide +kernel) rfl
theorem w_1472 : Cond.code yX4_fewestSteps cX4_fewestSteps 1 (some .int) ∈ SWL := SWL_mem 1472 (by decide +kernel) rfl
theorem w_1474 : Cond.instanceMethod yX4_leastFuel ∈ SWL := SWL_mem 1474 (by decide +kernel) rfl
theorem w_1475 : Cond.selects RX4 yX4_leastFuel yX4_leastFuel ∈ SWL := SWL_mem 1475 (by decide +kernel) rfl
theorem w_1476 : Cond.code yX4_leastFuel cX4_leastFuel 1 (some .int) ∈ SWL := SWL_mem 1476 (by decide +kernel) rfl
theorem w_1477 : Cond.methodLink RX4 285 yX4_cheapest ∈ SWL := SWL_mem 1477 (by decide +kernel) rfl
theorem w_1479 : Cond.instanceMethod yX4_cheapest ∈ SWL := SWL_mem 1479 (by decide +kernel) rfl
theorem w_1480 : Cond.code yX4_cheapest cX4_cheapest 4 (some .int) ∈ SWL := SWL_mem 1480 (by decide +kernel) rfl
theorem w_1481 : Cond.methodLink RX4 112 yX4_cheapens ∈ SWL := SWL_mem 1481 (by decide +kernel) rfl
theorem w_1483 : Cond.instanceMethod yX4_cheapens ∈ SWL := SWL_mem 1483 (by decide +kernel) rfl
theorem w_1484 : Cond.code yX4_cheapens cX4_cheapens 3 (none) ∈ SWL := SWL_mem 1484 (by decide +kernel) rfl
theorem w_1485 : Cond.methodLink RX4 115 yX4_cheaper ∈ SWL := SWL_mem 1485 (by decide +kernel) rfl
theorem w_1487 : Cond.instanceMethod yX4_cheaper ∈ SWL := SWL_mem 1487 (by decide +kernel) rfl
theorem w_1488 : Cond.code yX4_cheaper cX4_cheaper 7 (none) ∈ SWL := SWL_mem 1488 (by decide +kernel) rfl
theorem w_1490 : Cond.instanceMethod yX4_leastFuelByRounds ∈ SWL := SWL_mem 1490 (by decide +kernel) rfl
theorem w_1491 : Cond.selects RX4 yX4_leastFuelByRounds yX4_leastFuelByRounds ∈ SWL := SWL_mem 1491 (by decide +kernel) rfl
theorem w_1492 : Cond.code yX4_leastFuelByRounds cX4_leastFuelByRounds 1 (some .int) ∈ SWL := SWL_mem 1492 (by decide +kernel) rfl
theorem w_1494 : Cond.instanceMethod yX4_nextCar ∈ SWL := SWL_mem 1494 (by decide +kernel) rfl
theorem w_1495 : Cond.selects RX4 yX4_nextCar yX4_nextCar ∈ SWL := SWL_mem 1495 (by decide +kernel) rfl
theorem w_1496 : Cond.code yX4_nextCar cX4_nextCar 1 (some .int) ∈ SWL := SWL_mem 1496 (by decide +kernel) rfl
theorem w_1497 : Cond.methodLink RX4 288 yX4_nextSlide ∈ SWL := SWL_mem 1497 (by decide +kernel) rfl
theorem w_1499 : Cond.instanceMethod yX4_nextSlide ∈ SWL := SWL_mem 1499 (by decide +kernel) rfl
theorem w_1500 : Cond.code yX4_nextSlide cX4_nextSlide 2 (some .int) ∈ SWL := SWL_mem 1500 (by decide +kernel) rfl
theorem w_1502 : Cond.instanceMethod yX4_nextChange ∈ SWL := SWL_mem 1502 (by decide +kernel) rfl
theorem w_1503 : Cond.selects RX4 yX4_nextChange yX4_nextChange ∈ SWL := SWL_mem 1503 (by decide +kernel) rfl
theorem w_1504 : Cond.code yX4_nextChange cX4_nextChange 2 (some .int) ∈ SWL := SWL_mem 1504 (by decide +kernel) rfl
theorem w_1506 : Cond.instanceMethod yX4_reachable ∈ SWL := SWL_mem 1506 (by decide +kernel) rfl
theorem w_1507 : Cond.selects RX4 yX4_reachable yX4_reachable ∈ SWL := SWL_mem 1507 (by decide +kernel) rfl
theorem w_1508 : Cond.code yX4_reachable cX4_reachable 1 (some .int) ∈ SWL := SWL_mem 1508 (by decide +kernel) rfl
theorem w_1509 : Cond.methodLink RX4 291 yX4_reached ∈ SWL := SWL_mem 1509 (by decide +kernel) rfl
theorem w_1511 : Cond.instanceMethod yX4_reached ∈ SWL := SWL_mem 1511 (by decide +kernel) rfl
theorem w_1512 : Cond.code yX4_reached cX4_reached 4 (some .int) ∈ SWL := SWL_mem 1512 (by decide +kernel) rfl
theorem w_1514 : Cond.instanceMethod yX4_reachableOut ∈ SWL := SWL_mem 1514 (by decide +kernel) rfl
theorem w_1515 : Cond.selects RX4 yX4_reachableOut yX4_reachableOut ∈ SWL := SWL_mem 1515 (by decide +kernel) rfl
theorem w_1516 : Cond.code yX4_reachableOut cX4_reachableOut 1 (some .int) ∈ SWL := SWL_mem 1516 (by decide +kernel) rfl
theorem w_1518 : Cond.instanceMethod yX4_farthest ∈ SWL := SWL_mem 1518 (by decide +kernel) rfl
theorem w_1519 : Cond.selects RX4 yX4_farthest yX4_farthest ∈ SWL := SWL_mem 1519 (by decide +kernel) rfl
theorem w_1520 : Cond.code yX4_farthest cX4_farthest 1 (some .int) ∈ SWL := SWL_mem 1520 (by decide +kernel) rfl
theorem w_1522 : Cond.instanceMethod yX4_arrangements ∈ SWL := SWL_mem 1522 (by decide +kernel) rfl
theorem w_1523 : Cond.selects RX4 yX4_arrangements yX4_arrangements ∈ SWL := SWL_mem 1523 (by decide +kernel) rfl
theorem w_1524 : Cond.code yX4_arrangements cX4_arrangements 1 (some .int) ∈ SWL := SWL_mem 1524 (by decide +kernel) rfl
theorem w_1525 : Cond.methodLink RX4 294 yX4_all ∈ SWL := SWL_mem 1525 (by decide +kernel) rfl
theorem w_1527 : Cond.instanceMethod yX4_all ∈ SWL := SWL_mem 1527 (by decide +kernel) rfl
theorem w_1528 : Cond.code yX4_all cX4_all 3 (some .int) ∈ SWL := SWL_mem 1528 (by decide +kernel) rfl
theorem w_1530 : Cond.instanceMethod yX4_fewestBehind ∈ SWL := SWL_mem 1530 (by decide +kernel) rfl
theorem w_1531 : Cond.selects RX4 yX4_fewestBehind yX4_fewestBehind ∈ SWL := SWL_mem 1531 (by decide +kernel) rfl
theorem w_1532 : Cond.code yX4_fewestBehind cX4_fewestBehind 3 (some .int) ∈ SWL := SWL_mem 1532 (by decide +kernel) rfl
theorem w_1534 : Cond.instanceMethod yX4_fewestWithoutLast ∈ SWL := SWL_mem 1534 (by decide +kernel) rfl
theorem w_1535 : Cond.selects RX4 yX4_fewestWithoutLast yX4_fewestWithoutLast ∈ SWL := SWL_mem 1535 (by decide +kernel) rfl
theorem w_1536 : Cond.code yX4_fewestWithoutLast cX4_fewestWithoutLast 1 (some .int) ∈ SWL := SWL_mem 1536 (by decide +kernel) rfl
theorem w_1538 : Cond.instanceMethod yX4_fewestWithWall ∈ SWL := SWL_mem 1538 (by decide +kernel) rfl
theorem w_1539 : Cond.selects RX4 yX4_fewestWithWall yX4_fewestWithWall ∈ SWL := SWL_mem 1539 (by decide +kernel) rfl
theorem w_1540 : Cond.code yX4_fewestWithWall cX4_fewestWithWall 2 (some .int) ∈ SWL := SWL_mem 1540 (by decide +kernel) rfl
theorem w_1542 : Cond.instanceMethod yX4_reachedShare ∈ SWL := SWL_mem 1542 (by decide +kernel) rfl
theorem w_1543 : Cond.selects RX4 yX4_reachedShare yX4_reachedShare ∈ SWL := SWL_mem 1543 (by decide +kernel) rfl
theorem w_1544 : Cond.code yX4_reachedShare cX4_reachedShare 1 (some .double) ∈ SWL := SWL_mem 1544 (by decide +kernel) rfl
theorem w_1545 : Cond.methodLink RX4 297 yX4_share ∈ SWL := SWL_mem 1545 (by decide +kernel) rfl
theorem w_1547 : Cond.instanceMethod yX4_share ∈ SWL := SWL_mem 1547 (by decide +kernel) rfl
theorem w_1548 : Cond.code yX4_share cX4_share 2 (some .double) ∈ SWL := SWL_mem 1548 (by decide +kernel) rfl
theorem w_1550 : Cond.instanceMethod yX4_digest ∈ SWL := SWL_mem 1550 (by decide +kernel) rfl
theorem w_1551 : Cond.selects RX4 yX4_digest yX4_digest ∈ SWL := SWL_mem 1551 (by decide +kernel) rfl
theorem w_1552 : Cond.code yX4_digest cX4_digest 2 (some .long) ∈ SWL := SWL_mem 1552 (by decide +kernel) rfl
theorem w_1553 : Cond.constantLong RX4 311 (4507 : Int64) ∈ SWL := SWL_mem 1553 (by decide +kernel) rfl
theorem w_1554 : Cond.methodLink RX4 307 yX4_adds ∈ SWL := SWL_mem 1554 (by decide +kernel) rfl
theorem w_1556 : Cond.instanceMethod yX4_adds ∈ SWL := SWL_mem 1556 (by decide +kernel) rfl
theorem w_1557 : Cond.code yX4_adds cX4_adds 3 (none) ∈ SWL := SWL_mem 1557 (by decide +kernel) rfl
theorem w_1558 : Cond.constantLong RX4 301 (31 : Int64) ∈ SWL := SWL_mem 1558 (by decide +kernel) rfl
theorem w_1559 : Cond.methodLink RX4 313 yX4_addsPlans ∈ SWL := SWL_mem 1559 (by decide +kernel) rfl
theorem w_1561 : Cond.instanceMethod yX4_addsPlans ∈ SWL := SWL_mem 1561 (by decide +kernel) rfl
theorem w_1562 : Cond.code yX4_addsPlans cX4_addsPlans 2 (none) ∈ SWL := SWL_mem 1562 (by decide +kernel) rfl
theorem w_1563 : Cond.methodLink RX4 316 yX4_addsCar ∈ SWL := SWL_mem 1563 (by decide +kernel) rfl
theorem w_1565 : Cond.instanceMethod yX4_addsCar ∈ SWL := SWL_mem 1565 (by decide +kernel) rfl
theorem w_1566 : Cond.code yX4_addsCar cX4_addsCar 2 (none) ∈ SWL := SWL_mem 1566 (by decide +kernel) rfl
theorem w_1567 : Cond.methodLink RX4 319 yJxe99ae_doubleToLongBits_ccdee ∈ SWL := SWL_mem 1567 (by decide +kernel) rfl
theorem w_1568 : Cond.static yJxe99ae_doubleToLongBits_ccdee ∈ SWL := SWL_mem 1568 (by decide +kernel) rfl
theorem w_1569 : Cond.code yJxe99ae_doubleToLongBits_ccdee cJxe99ae_doubleToLongBits_ccdee 2 (some .long) ∈ SWL := SWL_mem 1569 (by decide +kernel) rfl
theorem w_1570 : Cond.methodLink RJxe99ae 122 yJxe99ae_isNaN_b9ae7 ∈ SWL := SWL_mem 1570 (by decide +kernel) rfl
theorem w_1571 : Cond.static yJxe99ae_isNaN_b9ae7 ∈ SWL := SWL_mem 1571 (by decide +kernel) rfl
theorem w_1572 : Cond.code yJxe99ae_isNaN_b9ae7 cJxe99ae_isNaN_b9ae7 2 (some .boolean) ∈ SWL := SWL_mem 1572 (by decide +kernel) rfl
theorem w_1573 : Cond.methodLink RJxe99ae 134 (⟨RJxe99ae, "doubleToRawLongBits", "(D)J"⟩ : MethodName) ∈ SWL := SWL_mem 1573 (by decide +kernel) rfl
theorem w_1574 : Cond.static ⟨"java/lang/Double", "doubleToRawLongBits", "(D)J"⟩ ∈ SWL := SWL_mem 1574 (by decide +kernel) rfl
theorem w_1575 : Cond.native ⟨"java/lang/Double", "doubleToRawLongBits", "(D)J"⟩ ∈ SWL := SWL_mem 1575 (by decide +kernel) rfl
theorem w_1576 : Cond.constantLong RJxe99ae 137 (9221120237041090560 : Int64) ∈ SWL := SWL_mem 1576 (by decide +kernel) rfl
theorem lay_X0 : ∀ w ∈ u_ws RX0 TX0 12, w ∈ SWL := fun w h => of_decide_eq_true (List.all_eq_true.mp (show ((u_ws RX0 TX0 12).all fun w => decide (w ∈ SWL)) = true by decide +kernel) w h)
theorem lay_X1 : ∀ w ∈ u_ws RX1 TX1 10, w ∈ SWL := fun w h => of_decide_eq_true (List.all_eq_true.mp (show ((u_ws RX1 TX1 10).all fun w => decide (w ∈ SWL)) = true by decide +kernel) w h)
theorem lay_X2 : ∀ w ∈ u_ws RX2 TX2 2, w ∈ SWL := fun w h => of_decide_eq_true (List.all_eq_true.mp (show ((u_ws RX2 TX2 2).all fun w => decide (w ∈ SWL)) = true by decide +kernel) w h)
theorem lay_X3 : ∀ w ∈ u_ws RX3 TX3 7, w ∈ SWL := fun w h => of_decide_eq_true (List.all_eq_true.mp (show ((u_ws RX3 TX3 7).all fun w => decide (w ∈ SWL)) = true by decide +kernel) w h)
theorem lay_X4 : ∀ w ∈ u_ws RX4 TX4 22, w ∈ SWL := fun w h => of_decide_eq_true (List.all_eq_true.mp (show ((u_ws RX4 TX4 22).all fun w => decide (w ∈ SWL)) = true by decide +kernel) w h)
theorem ats_RX3_66 : ∀ w ∈ vx_atS RX3 66 "java/lang/IllegalStateException" ["java/lang/RuntimeException", "java/lang/Exception"], w ∈ SWL := fun w h => of_decide_eq_true (List.all_eq_true.mp (show ((vx_atS RX3 66 "java/lang/IllegalStateException" ["java/lang/RuntimeException", "java/lang/Exception"]).all fun w => decide (w ∈ SWL)) = true by decide +kernel) w h)
theorem ats_RX3_110 : ∀ w ∈ vx_atS RX3 110 "java/lang/IllegalArgumentException" ["java/lang/RuntimeException", "java/lang/Exception"], w ∈ SWL := fun w h => of_decide_eq_true (List.all_eq_true.mp (show ((vx_atS RX3 110 "java/lang/IllegalArgumentException" ["java/lang/RuntimeException", "java/lang/Exception"]).all fun w => decide (w ∈ SWL)) = true by decide +kernel) w h)
theorem ats_RX3_168 : ∀ w ∈ vx_atS RX3 168 "java/lang/IndexOutOfBoundsException" ["java/lang/RuntimeException", "java/lang/Exception"], w ∈ SWL := fun w h => of_decide_eq_true (List.all_eq_true.mp (show ((vx_atS RX3 168 "java/lang/IndexOutOfBoundsException" ["java/lang/RuntimeException", "java/lang/Exception"]).all fun w => decide (w ∈ SWL)) = true by decide +kernel) w h)
theorem tsw_gen (x : Int32) (n : Nat) (hn : n < 2 ^ 31) (h : ∀ a, a < n → ¬ x = nI a) : x.toInt < 0 ∨ ((n : Int) - 1) < x.toInt := by
  by_cases h0 : x.toInt < 0
  · exact Or.inl h0
  · right
    by_cases h1 : x.toInt.toNat < n
    · refine absurd (Int32.toInt_inj.mp ?_) (h _ h1)
      rw [nI_toInt (by omega)]
      omega
    · omega
theorem tsw_X2_behind_1 (x : Int32) (c0 : ¬ x = 0) (c1 : ¬ x = 1) (c2 : ¬ x = 2) (c3 : ¬ x = 3) (c4 : ¬ x = 4) (c5 : ¬ x = 5) (c6 : ¬ x = 6) (c7 : ¬ x = 7) (c8 : ¬ x = 8) (c9 : ¬ x = 9) (c10 : ¬ x = 10) (c11 : ¬ x = 11) : x.toInt < 0 ∨ 11 < x.toInt := tsw_gen x 12 (by decide) (lt_s (lt_s (lt_s (lt_s (lt_s (lt_s (lt_s (lt_s (lt_s (lt_s (lt_s (lt_s lt_0 c0) c1) c2) c3) c4) c5) c6) c7) c8) c9) c10) c11)
theorem lsw_X3_tryPart_8 (x : Int32) (c0 : ¬ x = 98) (c1 : ¬ x = 100) (c2 : ¬ x = 104) (c3 : ¬ x = 118) (c4 : ¬ x = 119) : Op.lookupswitch.offset (#[(98, 139), (100, 144), (104, 52), (118, 87), (119, 124)] : Array (Int × Int)).toList 153 x.toInt = 153 := by
  show Op.lookupswitch.offset [(98, 139), (100, 144), (104, 52), (118, 87), (119, 124)] 153 x.toInt = 153
  rw [lv_osw c0 (by decide), lv_osw c1 (by decide), lv_osw c2 (by decide), lv_osw c3 (by decide), lv_osw c4 (by decide)]
  rfl
theorem lsw_X4_part_1 (x : Int32) (c0 : ¬ x = 98) (c1 : ¬ x = 100) (c2 : ¬ x = 104) (c3 : ¬ x = 118) (c4 : ¬ x = 119) : Op.lookupswitch.offset (#[(98, 68), (100, 68), (104, 51), (118, 57), (119, 63)] : Array (Int × Int)).toList 70 x.toInt = 70 := by
  show Op.lookupswitch.offset [(98, 68), (100, 68), (104, 51), (118, 57), (119, 63)] 70 x.toInt = 70
  rw [lv_osw c0 (by decide), lv_osw c1 (by decide), lv_osw c2 (by decide), lv_osw c3 (by decide), lv_osw c4 (by decide)]
  rfl
theorem lsw_X4_does_1 (x : Int32) (c0 : ¬ x = 98) (c1 : ¬ x = 100) (c2 : ¬ x = 104) (c3 : ¬ x = 118) (c4 : ¬ x = 119) : Op.lookupswitch.offset (#[(98, 123), (100, 146), (104, 51), (118, 51), (119, 95)] : Array (Int × Int)).toList 166 x.toInt = 166 := by
  show Op.lookupswitch.offset [(98, 123), (100, 146), (104, 51), (118, 51), (119, 95)] 166 x.toInt = 166
  rw [lv_osw c0 (by decide), lv_osw c1 (by decide), lv_osw c2 (by decide), lv_osw c3 (by decide), lv_osw c4 (by decide)]
  rfl
set_option maxRecDepth 20000 in
theorem mv_X1_become : MV mi_X1_become 1 := ⟨rfl, w_256, w_81, ⟨by decide, by decide⟩, by decide +kernel, w_254, w_255⟩
set_option maxRecDepth 20000 in
theorem ms_X3_copy : MS mi_X3_copy 2 := ⟨rfl, w_252, w_80, ⟨by decide, by decide⟩, by decide +kernel, w_251⟩
set_option maxRecDepth 20000 in
theorem ms_X0_together : MS mi_X0_together 2 := ⟨rfl, w_417, w_82, ⟨by decide, by decide⟩, by decide +kernel, w_416⟩
set_option maxRecDepth 20000 in
theorem ms_X3_cellsOf : MS mi_X3_cellsOf 3 := ⟨rfl, w_343, w_80, ⟨by decide, by decide⟩, by decide +kernel, w_342⟩
set_option maxRecDepth 20000 in
theorem mv_X0_addToTable : MV mi_X0_addToTable 2 := ⟨rfl, w_413, w_82, ⟨by decide, by decide⟩, by decide +kernel, w_411, w_412⟩
set_option maxRecDepth 20000 in
theorem mv_X0_load : MV mi_X0_load 3 := ⟨rfl, w_403, w_82, ⟨by decide, by decide⟩, by decide +kernel, w_401, w_402⟩
set_option maxRecDepth 20000 in
theorem mv_X0_exists : MV mi_X0_exists 1 := ⟨rfl, w_445, w_82, ⟨by decide, by decide⟩, by decide +kernel, w_443, w_444⟩
set_option maxRecDepth 20000 in
theorem mv_X0_isOutIn : MV mi_X0_isOutIn 1 := ⟨rfl, w_461, w_82, ⟨by decide, by decide⟩, by decide +kernel, w_459, w_460⟩
set_option maxRecDepth 20000 in
theorem mv_X0_allArrangements : MV mi_X0_allArrangements 0 := ⟨rfl, w_550, w_82, ⟨by decide, by decide⟩, by decide +kernel, w_548, w_549⟩
set_option maxRecDepth 20000 in
theorem mv_X0_behindStep : MV mi_X0_behindStep 3 := ⟨rfl, w_453, w_82, ⟨by decide, by decide⟩, by decide +kernel, w_451, w_452⟩
set_option maxRecDepth 20000 in
theorem mv_X0_behindSlide : MV mi_X0_behindSlide 3 := ⟨rfl, w_817, w_82, ⟨by decide, by decide⟩, by decide +kernel, w_815, w_816⟩
set_option maxRecDepth 20000 in
theorem mv_X0_costOf : MV mi_X0_costOf 1 := ⟨rfl, w_441, w_82, ⟨by decide, by decide⟩, by decide +kernel, w_439, w_440⟩
set_option maxRecDepth 20000 in
theorem mv_X0_forget : MV mi_X0_forget 0 := ⟨rfl, w_429, w_82, ⟨by decide, by decide⟩, by decide +kernel, w_427, w_428⟩
set_option maxRecDepth 20000 in
theorem mv_X0_find : MV mi_X0_find 2 := ⟨rfl, w_433, w_82, ⟨by decide, by decide⟩, by decide +kernel, w_431, w_432⟩
set_option maxRecDepth 20000 in
theorem mv_X0_spreadAlong : MV mi_X0_spreadAlong 5 := ⟨rfl, w_449, w_82, ⟨by decide, by decide⟩, by decide +kernel, w_447, w_448⟩
set_option maxRecDepth 20000 in
theorem mv_X0_spread : MV mi_X0_spread 1 := ⟨rfl, w_437, w_82, ⟨by decide, by decide⟩, by decide +kernel, w_435, w_436⟩
set_option maxRecDepth 20000 in
theorem mv_X0_spreadFromStart : MV mi_X0_spreadFromStart 1 := ⟨rfl, w_425, w_82, ⟨by decide, by decide⟩, by decide +kernel, w_423, w_424⟩
set_option maxRecDepth 20000 in
theorem mv_X0_leastCostOut : MV mi_X0_leastCostOut 0 := ⟨rfl, w_457, w_82, ⟨by decide, by decide⟩, by decide +kernel, w_455, w_456⟩
set_option maxRecDepth 20000 in
theorem mv_X0_slidesFromStart : MV mi_X0_slidesFromStart 0 := ⟨rfl, w_421, w_82, ⟨by decide, by decide⟩, by decide +kernel, w_419, w_420⟩
set_option maxRecDepth 20000 in
theorem mv_X0_stepsFromStart : MV mi_X0_stepsFromStart 0 := ⟨rfl, w_477, w_82, ⟨by decide, by decide⟩, by decide +kernel, w_475, w_476⟩
set_option maxRecDepth 20000 in
theorem mv_X0_slidesFromEnds : MV mi_X0_slidesFromEnds 0 := ⟨rfl, w_469, w_82, ⟨by decide, by decide⟩, by decide +kernel, w_467, w_468⟩
set_option maxRecDepth 20000 in
theorem mv_X0_foundOut : MV mi_X0_foundOut 0 := ⟨rfl, w_534, w_82, ⟨by decide, by decide⟩, by decide +kernel, w_532, w_533⟩
set_option maxRecDepth 20000 in
theorem mv_X0_farthestFound : MV mi_X0_farthestFound 0 := ⟨rfl, w_542, w_82, ⟨by decide, by decide⟩, by decide +kernel, w_540, w_541⟩
set_option maxRecDepth 20000 in
theorem mv_X0_findNextSlide : MV mi_X0_findNextSlide 1 := ⟨rfl, w_813, w_82, ⟨by decide, by decide⟩, by decide +kernel, w_811, w_812⟩
set_option maxRecDepth 20000 in
theorem mv_X0_isCheaper : MV mi_X0_isCheaper 2 := ⟨rfl, w_493, w_82, ⟨by decide, by decide⟩, by decide +kernel, w_491, w_492⟩
set_option maxRecDepth 20000 in
theorem mv_X0_cheapen : MV mi_X0_cheapen 2 := ⟨rfl, w_489, w_82, ⟨by decide, by decide⟩, by decide +kernel, w_487, w_488⟩
set_option maxRecDepth 20000 in
theorem mv_X0_inBucket : MV mi_X0_inBucket 2 := ⟨rfl, w_505, w_82, ⟨by decide, by decide⟩, by decide +kernel, w_503, w_504⟩
set_option maxRecDepth 20000 in
theorem mv_X0_emptyBucket : MV mi_X0_emptyBucket 1 := ⟨rfl, w_509, w_82, ⟨by decide, by decide⟩, by decide +kernel, w_507, w_508⟩
set_option maxRecDepth 20000 in
theorem mv_X0_hasOutFor : MV mi_X0_hasOutFor 1 := ⟨rfl, w_501, w_82, ⟨by decide, by decide⟩, by decide +kernel, w_499, w_500⟩
set_option maxRecDepth 20000 in
theorem mv_X0_isAnyFilled : MV mi_X0_isAnyFilled 0 := ⟨rfl, w_497, w_82, ⟨by decide, by decide⟩, by decide +kernel, w_495, w_496⟩
set_option maxRecDepth 20000 in
theorem mv_X0_fuelByBuckets : MV mi_X0_fuelByBuckets 0 := ⟨rfl, w_485, w_82, ⟨by decide, by decide⟩, by decide +kernel, w_483, w_484⟩
set_option maxRecDepth 20000 in
theorem mv_X0_hasCheapenedAround : MV mi_X0_hasCheapenedAround 1 := ⟨rfl, w_521, w_82, ⟨by decide, by decide⟩, by decide +kernel, w_519, w_520⟩
set_option maxRecDepth 20000 in
theorem mv_X0_fuelByRounds : MV mi_X0_fuelByRounds 0 := ⟨rfl, w_517, w_82, ⟨by decide, by decide⟩, by decide +kernel, w_515, w_516⟩
set_option maxRecDepth 20000 in
theorem mv_X1_hasCar : MV mi_X1_hasCar 1 := ⟨rfl, w_271, w_81, ⟨by decide, by decide⟩, by decide +kernel, w_269, w_270⟩
set_option maxRecDepth 20000 in
theorem mv_X1_hasSlide : MV mi_X1_hasSlide 1 := ⟨rfl, w_267, w_81, ⟨by decide, by decide⟩, by decide +kernel, w_265, w_266⟩
set_option maxRecDepth 20000 in
theorem mv_X1_hasWallAt : MV mi_X1_hasWallAt 1 := ⟨rfl, w_594, w_81, ⟨by decide, by decide⟩, by decide +kernel, w_592, w_593⟩
set_option maxRecDepth 20000 in
theorem mv_X1_carAt : MV mi_X1_carAt 1 := ⟨rfl, w_590, w_81, ⟨by decide, by decide⟩, by decide +kernel, w_588, w_589⟩
set_option maxRecDepth 20000 in
theorem mv_X1_takenCells : MV mi_X1_takenCells 0 := ⟨rfl, w_340, w_81, ⟨by decide, by decide⟩, by decide +kernel, w_338, w_339⟩
set_option maxRecDepth 20000 in
theorem mv_X1_isRedOut : MV mi_X1_isRedOut 0 := ⟨rfl, w_352, w_81, ⟨by decide, by decide⟩, by decide +kernel, w_350, w_351⟩
set_option maxRecDepth 20000 in
theorem ms_X3_bitOf : MS mi_X3_bitOf 2 := ⟨rfl, w_364, w_80, ⟨by decide, by decide⟩, by decide +kernel, w_363⟩
set_option maxRecDepth 20000 in
theorem mv_X1_roomOf : MV mi_X1_roomOf 2 := ⟨rfl, w_360, w_81, ⟨by decide, by decide⟩, by decide +kernel, w_358, w_359⟩
set_option maxRecDepth 20000 in
theorem mv_X1_troubleOfEntering : MV mi_X1_troubleOfEntering 3 := ⟨rfl, w_628, w_81, ⟨by decide, by decide⟩, by decide +kernel, w_626, w_627⟩
set_option maxRecDepth 20000 in
theorem mv_X1_enter : MV mi_X1_enter 3 := ⟨rfl, w_735, w_81, ⟨by decide, by decide⟩, by decide +kernel, w_733, w_734⟩
set_option maxRecDepth 20000 in
theorem mv_X1_leave : MV mi_X1_leave 0 := ⟨rfl, w_747, w_81, ⟨by decide, by decide⟩, by decide +kernel, w_745, w_746⟩
set_option maxRecDepth 20000 in
theorem ms_J6_bitCount_0f7a4 : MS mi_J6_bitCount_0f7a4 1 := ⟨rfl, w_329, w_92, ⟨by decide, by decide⟩, by decide +kernel, w_328⟩
set_option maxRecDepth 20000 in
theorem ms_X3_isCell : MS mi_X3_isCell 1 := ⟨rfl, w_761, w_80, ⟨by decide, by decide⟩, by decide +kernel, w_760⟩
set_option maxRecDepth 20000 in
theorem mv_X1_troubleOfWall : MV mi_X1_troubleOfWall 1 := ⟨rfl, w_758, w_81, ⟨by decide, by decide⟩, by decide +kernel, w_756, w_757⟩
set_option maxRecDepth 20000 in
theorem mv_X1_turnWall : MV mi_X1_turnWall 1 := ⟨rfl, w_768, w_81, ⟨by decide, by decide⟩, by decide +kernel, w_766, w_767⟩
set_option maxRecDepth 20000 in
theorem mv_X1_troubleOfSliding : MV mi_X1_troubleOfSliding 2 := ⟨rfl, w_779, w_81, ⟨by decide, by decide⟩, by decide +kernel, w_777, w_778⟩
set_option maxRecDepth 20000 in
theorem mv_X1_makeSlide : MV mi_X1_makeSlide 2 := ⟨rfl, w_785, w_81, ⟨by decide, by decide⟩, by decide +kernel, w_783, w_784⟩
set_option maxRecDepth 20000 in
theorem mv_X1_unmakeSlide : MV mi_X1_unmakeSlide 0 := ⟨rfl, w_263, w_81, ⟨by decide, by decide⟩, by decide +kernel, w_261, w_262⟩
set_option maxRecDepth 20000 in
theorem mv_X1_loggedSteps : MV mi_X1_loggedSteps 1 := ⟨rfl, w_391, w_81, ⟨by decide, by decide⟩, by decide +kernel, w_389, w_390⟩
set_option maxRecDepth 20000 in
theorem mv_X1_fuelSlideBySlide : MV mi_X1_fuelSlideBySlide 0 := ⟨rfl, w_376, w_81, ⟨by decide, by decide⟩, by decide +kernel, w_374, w_375⟩
set_option maxRecDepth 20000 in
theorem mv_X1_fuelCarByCar : MV mi_X1_fuelCarByCar 0 := ⟨rfl, w_387, w_81, ⟨by decide, by decide⟩, by decide +kernel, w_385, w_386⟩
set_option maxRecDepth 20000 in
theorem mv_X2_add : MV mi_X2_add 1 := ⟨rfl, w_832, w_83, ⟨by decide, by decide⟩, by decide +kernel, w_830, w_831⟩
set_option maxRecDepth 20000 in
theorem mv_X2_clear : MV mi_X2_clear 0 := ⟨rfl, w_279, w_83, ⟨by decide, by decide⟩, by decide +kernel, w_277, w_278⟩
set_option maxRecDepth 20000 in
theorem mv_X2_codeAt : MV mi_X2_codeAt 1 := ⟨rfl, w_291, w_83, ⟨by decide, by decide⟩, by decide +kernel, w_289, w_290⟩
set_option maxRecDepth 20000 in
theorem mv_X2_digitAt : MV mi_X2_digitAt 1 := ⟨rfl, w_852, w_83, ⟨by decide, by decide⟩, by decide +kernel, w_850, w_851⟩
set_option maxRecDepth 20000 in
theorem mv_X2_signAt : MV mi_X2_signAt 1 := ⟨rfl, w_873, w_83, ⟨by decide, by decide⟩, by decide +kernel, w_871, w_872⟩
set_option maxRecDepth 20000 in
theorem ms_X2_isAmong : MS mi_X2_isAmong 3 := ⟨rfl, w_300, w_83, ⟨by decide, by decide⟩, by decide +kernel, w_299⟩
set_option maxRecDepth 20000 in
theorem mv_X2_cellAt : MV mi_X2_cellAt 1 := ⟨rfl, w_860, w_83, ⟨by decide, by decide⟩, by decide +kernel, w_858, w_859⟩
set_option maxRecDepth 20000 in
theorem mv_X2_nextPart : MV mi_X2_nextPart 1 := ⟨rfl, w_881, w_83, ⟨by decide, by decide⟩, by decide +kernel, w_879, w_880⟩
set_option maxRecDepth 20000 in
theorem ms_X2_behindBegin : MS mi_X2_behindBegin 1 := ⟨rfl, w_297, w_83, ⟨by decide, by decide⟩, by decide +kernel, w_296⟩
set_option maxRecDepth 20000 in
theorem ms_X2_behindEnd : MS mi_X2_behindEnd 1 := ⟨rfl, w_306, w_83, ⟨by decide, by decide⟩, by decide +kernel, w_305⟩
set_option maxRecDepth 20000 in
theorem ms_X2_behindWall : MS mi_X2_behindWall 1 := ⟨rfl, w_303, w_83, ⟨by decide, by decide⟩, by decide +kernel, w_302⟩
set_option maxRecDepth 20000 in
theorem ms_X2_behind : MS mi_X2_behind 2 := ⟨rfl, w_294, w_83, ⟨by decide, by decide⟩, by decide +kernel, w_293⟩
set_option maxRecDepth 20000 in
theorem mv_X2_errorAt : MV mi_X2_errorAt 0 := ⟨rfl, w_287, w_83, ⟨by decide, by decide⟩, by decide +kernel, w_285, w_286⟩
set_option maxRecDepth 20000 in
theorem mv_X2_isComplete : MV mi_X2_isComplete 0 := ⟨rfl, w_843, w_83, ⟨by decide, by decide⟩, by decide +kernel, w_841, w_842⟩
set_option maxRecDepth 20000 in
theorem ms_X3_refuse : MS mi_X3_refuse 1 := ⟨rfl, w_631, w_80, ⟨by decide, by decide⟩, by decide +kernel, w_630⟩
set_option maxRecDepth 20000 in
theorem mv_X3_dropOldestSaved : MV mi_X3_dropOldestSaved 0 := ⟨rfl, w_249, w_80, ⟨by decide, by decide⟩, by decide +kernel, w_248, w_1⟩
set_option maxRecDepth 20000 in
theorem mv_X3_save : MV mi_X3_save 0 := ⟨rfl, w_245, w_80, ⟨by decide, by decide⟩, by decide +kernel, w_244, w_0⟩
set_option maxRecDepth 20000 in
theorem mv_X3_addCar : MV mi_X3_addCar 3 := ⟨rfl, w_624, w_80, ⟨by decide, by decide⟩, by decide +kernel, w_622, w_623⟩
set_option maxRecDepth 20000 in
theorem mv_X3_dropLast : MV mi_X3_dropLast 0 := ⟨rfl, w_742, w_80, ⟨by decide, by decide⟩, by decide +kernel, w_740, w_741⟩
set_option maxRecDepth 20000 in
theorem mv_X3_toggleWall : MV mi_X3_toggleWall 1 := ⟨rfl, w_754, w_80, ⟨by decide, by decide⟩, by decide +kernel, w_752, w_753⟩
set_option maxRecDepth 20000 in
theorem mv_X3_slide : MV mi_X3_slide 2 := ⟨rfl, w_775, w_80, ⟨by decide, by decide⟩, by decide +kernel, w_773, w_774⟩
set_option maxRecDepth 20000 in
theorem mv_X3_takeBack : MV mi_X3_takeBack 0 := ⟨rfl, w_792, w_80, ⟨by decide, by decide⟩, by decide +kernel, w_790, w_791⟩
set_option maxRecDepth 20000 in
theorem mv_X3_rewind : MV mi_X3_rewind 0 := ⟨rfl, w_241, w_80, ⟨by decide, by decide⟩, by decide +kernel, w_239, w_240⟩
set_option maxRecDepth 20000 in
theorem mv_X3_makePlan : MV mi_X3_makePlan 1 := ⟨rfl, w_809, w_80, ⟨by decide, by decide⟩, by decide +kernel, w_808, w_12⟩
set_option maxRecDepth 20000 in
theorem mv_X3_exploreNow : MV mi_X3_exploreNow 0 := ⟨rfl, w_399, w_80, ⟨by decide, by decide⟩, by decide +kernel, w_398, w_2⟩
set_option maxRecDepth 20000 in
theorem mv_X3_slidesToDriveOut : MV mi_X3_slidesToDriveOut 0 := ⟨rfl, w_804, w_80, ⟨by decide, by decide⟩, by decide +kernel, w_803, w_11⟩
set_option maxRecDepth 20000 in
theorem mv_X3_driveOut : MV mi_X3_driveOut 0 := ⟨rfl, w_800, w_80, ⟨by decide, by decide⟩, by decide +kernel, w_798, w_799⟩
set_option maxRecDepth 20000 in
theorem mv_X3_append : MV mi_X3_append 1 := ⟨rfl, w_826, w_80, ⟨by decide, by decide⟩, by decide +kernel, w_824, w_825⟩
set_option maxRecDepth 20000 in
theorem mv_X3_clearBuffer : MV mi_X3_clearBuffer 0 := ⟨rfl, w_275, w_80, ⟨by decide, by decide⟩, by decide +kernel, w_273, w_274⟩
set_option maxRecDepth 20000 in
theorem mv_X3_firstError : MV mi_X3_firstError 0 := ⟨rfl, w_283, w_80, ⟨by decide, by decide⟩, by decide +kernel, w_281, w_282⟩
set_option maxRecDepth 20000 in
theorem mv_X3_tryEntering : MV mi_X3_tryEntering 3 := ⟨rfl, w_856, w_80, ⟨by decide, by decide⟩, by decide +kernel, w_855, w_14⟩
set_option maxRecDepth 20000 in
theorem mv_X3_trySliding : MV mi_X3_trySliding 2 := ⟨rfl, w_877, w_80, ⟨by decide, by decide⟩, by decide +kernel, w_876, w_17⟩
set_option maxRecDepth 20000 in
theorem mv_X3_tryTakingBack : MV mi_X3_tryTakingBack 0 := ⟨rfl, w_869, w_80, ⟨by decide, by decide⟩, by decide +kernel, w_868, w_16⟩
set_option maxRecDepth 20000 in
theorem mv_X3_tryWall : MV mi_X3_tryWall 1 := ⟨rfl, w_865, w_80, ⟨by decide, by decide⟩, by decide +kernel, w_864, w_15⟩
set_option maxRecDepth 20000 in
theorem mv_X3_tryPart : MV mi_X3_tryPart 1 := ⟨rfl, w_848, w_80, ⟨by decide, by decide⟩, by decide +kernel, w_847, w_13⟩
set_option maxRecDepth 20000 in
theorem mv_X3_work : MV mi_X3_work 0 := ⟨rfl, w_839, w_80, ⟨by decide, by decide⟩, by decide +kernel, w_837, w_838⟩
set_option maxRecDepth 20000 in
theorem mv_X3_hasStopped : MV mi_X3_hasStopped 0 := ⟨rfl, w_310, w_80, ⟨by decide, by decide⟩, by decide +kernel, w_308, w_309⟩
set_option maxRecDepth 20000 in
theorem mv_X3_stoppedPart : MV mi_X3_stoppedPart 0 := ⟨rfl, w_888, w_80, ⟨by decide, by decide⟩, by decide +kernel, w_886, w_887⟩
set_option maxRecDepth 20000 in
theorem mv_X3_undo : MV mi_X3_undo 0 := ⟨rfl, w_896, w_80, ⟨by decide, by decide⟩, by decide +kernel, w_894, w_895⟩
set_option maxRecDepth 20000 in
theorem mv_X3_keep : MV mi_X3_keep 0 := ⟨rfl, w_314, w_80, ⟨by decide, by decide⟩, by decide +kernel, w_312, w_313⟩
set_option maxRecDepth 20000 in
theorem mv_X3_restore : MV mi_X3_restore 0 := ⟨rfl, w_904, w_80, ⟨by decide, by decide⟩, by decide +kernel, w_902, w_903⟩
set_option maxRecDepth 20000 in
theorem mv_X3_savedStates : MV mi_X3_savedStates 0 := ⟨rfl, w_318, w_80, ⟨by decide, by decide⟩, by decide +kernel, w_316, w_317⟩
set_option maxRecDepth 20000 in
theorem mv_X3_cars : MV mi_X3_cars 0 := ⟨rfl, w_322, w_80, ⟨by decide, by decide⟩, by decide +kernel, w_320, w_321⟩
set_option maxRecDepth 20000 in
theorem mv_X3_walls : MV mi_X3_walls 0 := ⟨rfl, w_326, w_80, ⟨by decide, by decide⟩, by decide +kernel, w_324, w_325⟩
set_option maxRecDepth 20000 in
theorem mv_X3_laneOf : MV mi_X3_laneOf 1 := ⟨rfl, w_912, w_80, ⟨by decide, by decide⟩, by decide +kernel, w_910, w_911⟩
set_option maxRecDepth 20000 in
theorem mv_X3_placeOf : MV mi_X3_placeOf 1 := ⟨rfl, w_921, w_80, ⟨by decide, by decide⟩, by decide +kernel, w_919, w_920⟩
set_option maxRecDepth 20000 in
theorem mv_X3_lengthOf : MV mi_X3_lengthOf 1 := ⟨rfl, w_928, w_80, ⟨by decide, by decide⟩, by decide +kernel, w_926, w_927⟩
set_option maxRecDepth 20000 in
theorem mv_X3_carOn : MV mi_X3_carOn 1 := ⟨rfl, w_935, w_80, ⟨by decide, by decide⟩, by decide +kernel, w_933, w_934⟩
set_option maxRecDepth 20000 in
theorem mv_X3_isWall : MV mi_X3_isWall 1 := ⟨rfl, w_944, w_80, ⟨by decide, by decide⟩, by decide +kernel, w_942, w_943⟩
set_option maxRecDepth 20000 in
theorem mv_X3_freeCells : MV mi_X3_freeCells 0 := ⟨rfl, w_336, w_80, ⟨by decide, by decide⟩, by decide +kernel, w_334, w_335⟩
set_option maxRecDepth 20000 in
theorem mv_X3_isOut : MV mi_X3_isOut 0 := ⟨rfl, w_348, w_80, ⟨by decide, by decide⟩, by decide +kernel, w_346, w_347⟩
set_option maxRecDepth 20000 in
theorem mv_X3_room : MV mi_X3_room 2 := ⟨rfl, w_951, w_80, ⟨by decide, by decide⟩, by decide +kernel, w_949, w_950⟩
set_option maxRecDepth 20000 in
theorem mv_X3_possibleSlides : MV mi_X3_possibleSlides 0 := ⟨rfl, w_356, w_80, ⟨by decide, by decide⟩, by decide +kernel, w_354, w_355⟩
set_option maxRecDepth 20000 in
theorem mv_X3_logged : MV mi_X3_logged 0 := ⟨rfl, w_368, w_80, ⟨by decide, by decide⟩, by decide +kernel, w_366, w_367⟩
set_option maxRecDepth 20000 in
theorem mv_X3_carOfSlide : MV mi_X3_carOfSlide 1 := ⟨rfl, w_958, w_80, ⟨by decide, by decide⟩, by decide +kernel, w_956, w_957⟩
set_option maxRecDepth 20000 in
theorem mv_X3_changeBySlide : MV mi_X3_changeBySlide 1 := ⟨rfl, w_967, w_80, ⟨by decide, by decide⟩, by decide +kernel, w_965, w_966⟩
set_option maxRecDepth 20000 in
theorem mv_X3_stepsOf : MV mi_X3_stepsOf 1 := ⟨rfl, w_974, w_80, ⟨by decide, by decide⟩, by decide +kernel, w_972, w_973⟩
set_option maxRecDepth 20000 in
theorem mv_X3_fuel : MV mi_X3_fuel 0 := ⟨rfl, w_372, w_80, ⟨by decide, by decide⟩, by decide +kernel, w_370, w_371⟩
set_option maxRecDepth 20000 in
theorem mv_X3_fuelByCars : MV mi_X3_fuelByCars 0 := ⟨rfl, w_383, w_80, ⟨by decide, by decide⟩, by decide +kernel, w_381, w_382⟩
set_option maxRecDepth 20000 in
theorem mv_X3_fewestSlides : MV mi_X3_fewestSlides 0 := ⟨rfl, w_395, w_80, ⟨by decide, by decide⟩, by decide +kernel, w_393, w_394⟩
set_option maxRecDepth 20000 in
theorem mv_X3_fewestSlidesFromEnds : MV mi_X3_fewestSlidesFromEnds 0 := ⟨rfl, w_465, w_80, ⟨by decide, by decide⟩, by decide +kernel, w_463, w_464⟩
set_option maxRecDepth 20000 in
theorem mv_X3_fewestSteps : MV mi_X3_fewestSteps 0 := ⟨rfl, w_473, w_80, ⟨by decide, by decide⟩, by decide +kernel, w_471, w_472⟩
set_option maxRecDepth 20000 in
theorem mv_X3_leastFuel : MV mi_X3_leastFuel 0 := ⟨rfl, w_481, w_80, ⟨by decide, by decide⟩, by decide +kernel, w_479, w_480⟩
set_option maxRecDepth 20000 in
theorem mv_X3_leastFuelByRounds : MV mi_X3_leastFuelByRounds 0 := ⟨rfl, w_513, w_80, ⟨by decide, by decide⟩, by decide +kernel, w_511, w_512⟩
set_option maxRecDepth 20000 in
theorem mv_X3_hasNextSlide : MV mi_X3_hasNextSlide 0 := ⟨rfl, w_985, w_80, ⟨by decide, by decide⟩, by decide +kernel, w_984, w_18⟩
set_option maxRecDepth 20000 in
theorem mv_X3_nextCar : MV mi_X3_nextCar 0 := ⟨rfl, w_981, w_80, ⟨by decide, by decide⟩, by decide +kernel, w_979, w_980⟩
set_option maxRecDepth 20000 in
theorem mv_X3_nextChange : MV mi_X3_nextChange 0 := ⟨rfl, w_993, w_80, ⟨by decide, by decide⟩, by decide +kernel, w_991, w_992⟩
set_option maxRecDepth 20000 in
theorem mv_X3_reachable : MV mi_X3_reachable 0 := ⟨rfl, w_525, w_80, ⟨by decide, by decide⟩, by decide +kernel, w_523, w_524⟩
set_option maxRecDepth 20000 in
theorem mv_X3_reachableOut : MV mi_X3_reachableOut 0 := ⟨rfl, w_530, w_80, ⟨by decide, by decide⟩, by decide +kernel, w_528, w_529⟩
set_option maxRecDepth 20000 in
theorem mv_X3_farthest : MV mi_X3_farthest 0 := ⟨rfl, w_538, w_80, ⟨by decide, by decide⟩, by decide +kernel, w_536, w_537⟩
set_option maxRecDepth 20000 in
theorem mv_X3_arrangements : MV mi_X3_arrangements 0 := ⟨rfl, w_546, w_80, ⟨by decide, by decide⟩, by decide +kernel, w_544, w_545⟩
set_option maxRecDepth 20000 in
theorem mv_X3_fewestBehind : MV mi_X3_fewestBehind 2 := ⟨rfl, w_1000, w_80, ⟨by decide, by decide⟩, by decide +kernel, w_998, w_999⟩
set_option maxRecDepth 20000 in
theorem mv_X3_fewestWithoutLast : MV mi_X3_fewestWithoutLast 0 := ⟨rfl, w_1007, w_80, ⟨by decide, by decide⟩, by decide +kernel, w_1005, w_1006⟩
set_option maxRecDepth 20000 in
theorem mv_X3_fewestWithWall : MV mi_X3_fewestWithWall 1 := ⟨rfl, w_1015, w_80, ⟨by decide, by decide⟩, by decide +kernel, w_1013, w_1014⟩
set_option maxRecDepth 20000 in
theorem ms_X3_share : MS mi_X3_share 2 := ⟨rfl, w_557, w_80, ⟨by decide, by decide⟩, by decide +kernel, w_556⟩
set_option maxRecDepth 20000 in
theorem mv_X3_reachedShare : MV mi_X3_reachedShare 0 := ⟨rfl, w_554, w_80, ⟨by decide, by decide⟩, by decide +kernel, w_552, w_553⟩
set_option maxRecDepth 20000 in
theorem ms_X3_bitsOf : MS mi_X3_bitsOf 1 := ⟨rfl, w_606, w_80, ⟨by decide, by decide⟩, by decide +kernel, w_605⟩
set_option maxRecDepth 20000 in
theorem ms_X3_mix : MS mi_X3_mix 2 := ⟨rfl, w_569, w_80, ⟨by decide, by decide⟩, by decide +kernel, w_568⟩
set_option maxRecDepth 20000 in
theorem mv_X3_hashOfArrangements : MV mi_X3_hashOfArrangements 1 := ⟨rfl, w_582, w_80, ⟨by decide, by decide⟩, by decide +kernel, w_581, w_5⟩
set_option maxRecDepth 20000 in
theorem mv_X3_hashOfCars : MV mi_X3_hashOfCars 1 := ⟨rfl, w_598, w_80, ⟨by decide, by decide⟩, by decide +kernel, w_597, w_7⟩
set_option maxRecDepth 20000 in
theorem mv_X3_hashOfCells : MV mi_X3_hashOfCells 1 := ⟨rfl, w_586, w_80, ⟨by decide, by decide⟩, by decide +kernel, w_585, w_6⟩
set_option maxRecDepth 20000 in
theorem mv_X3_hashOfLog : MV mi_X3_hashOfLog 1 := ⟨rfl, w_603, w_80, ⟨by decide, by decide⟩, by decide +kernel, w_602, w_8⟩
set_option maxRecDepth 20000 in
theorem mv_X3_hashOfPark : MV mi_X3_hashOfPark 1 := ⟨rfl, w_566, w_80, ⟨by decide, by decide⟩, by decide +kernel, w_565, w_3⟩
set_option maxRecDepth 20000 in
theorem mv_X3_hashOfPlans : MV mi_X3_hashOfPlans 1 := ⟨rfl, w_578, w_80, ⟨by decide, by decide⟩, by decide +kernel, w_577, w_4⟩
set_option maxRecDepth 20000 in
theorem mv_X3_hashOfText : MV mi_X3_hashOfText 1 := ⟨rfl, w_613, w_80, ⟨by decide, by decide⟩, by decide +kernel, w_612, w_9⟩
set_option maxRecDepth 20000 in
theorem mv_X3_digest : MV mi_X3_digest 0 := ⟨rfl, w_561, w_80, ⟨by decide, by decide⟩, by decide +kernel, w_559, w_560⟩
set_option maxRecDepth 20000 in
theorem mv_X4_thrown : MV mi_X4_thrown 0 := ⟨rfl, w_1094, w_84, ⟨by decide, by decide⟩, by decide +kernel, w_1092, w_1093⟩
set_option maxRecDepth 20000 in
theorem mv_X4_refused : MV mi_X4_refused 1 := ⟨rfl, w_1123, w_84, ⟨by decide, by decide⟩, by decide +kernel, w_1122, w_22⟩
set_option maxRecDepth 20000 in
theorem ms_X4_in : MS mi_X4_in 3 := ⟨rfl, w_1106, w_84, ⟨by decide, by decide⟩, by decide +kernel, w_1105⟩
set_option maxRecDepth 20000 in
theorem ms_X4_copyState : MS mi_X4_copyState 4 := ⟨rfl, w_1130, w_84, ⟨by decide, by decide⟩, by decide +kernel, w_1129⟩
set_option maxRecDepth 20000 in
theorem ms_X4_bits : MS mi_X4_bits 1 := ⟨rfl, w_1157, w_84, ⟨by decide, by decide⟩, by decide +kernel, w_1156⟩
set_option maxRecDepth 20000 in
theorem ms_X4_cells : MS mi_X4_cells 3 := ⟨rfl, w_1111, w_84, ⟨by decide, by decide⟩, by decide +kernel, w_1110⟩
set_option maxRecDepth 20000 in
theorem mv_X4_cellsOf : MV mi_X4_cellsOf 1 := ⟨rfl, w_1119, w_84, ⟨by decide, by decide⟩, by decide +kernel, w_1118, w_21⟩
set_option maxRecDepth 20000 in
theorem mv_X4_occupied : MV mi_X4_occupied 0 := ⟨rfl, w_1115, w_84, ⟨by decide, by decide⟩, by decide +kernel, w_1114, w_20⟩
set_option maxRecDepth 20000 in
theorem mv_X4_isCar : MV mi_X4_isCar 1 := ⟨rfl, w_1169, w_84, ⟨by decide, by decide⟩, by decide +kernel, w_1168, w_28⟩
set_option maxRecDepth 20000 in
theorem ms_X4_isCell : MS mi_X4_isCell 1 := ⟨rfl, w_1145, w_84, ⟨by decide, by decide⟩, by decide +kernel, w_1144⟩
set_option maxRecDepth 20000 in
theorem mv_X4_space : MV mi_X4_space 2 := ⟨rfl, w_1181, w_84, ⟨by decide, by decide⟩, by decide +kernel, w_1180, w_30⟩
set_option maxRecDepth 20000 in
theorem mv_X4_canSlide : MV mi_X4_canSlide 2 := ⟨rfl, w_1177, w_84, ⟨by decide, by decide⟩, by decide +kernel, w_1176, w_29⟩
set_option maxRecDepth 20000 in
theorem mv_X4_isFree : MV mi_X4_isFree 0 := ⟨rfl, w_1396, w_84, ⟨by decide, by decide⟩, by decide +kernel, w_1395, w_60⟩
set_option maxRecDepth 20000 in
theorem mv_X4_prepares : MV mi_X4_prepares 2 := ⟨rfl, w_1221, w_84, ⟨by decide, by decide⟩, by decide +kernel, w_1220, w_37⟩
set_option maxRecDepth 20000 in
theorem mv_X4_codeNow : MV mi_X4_codeNow 0 := ⟨rfl, w_1257, w_84, ⟨by decide, by decide⟩, by decide +kernel, w_1256, w_46⟩
set_option maxRecDepth 20000 in
theorem mv_X4_setOf : MV mi_X4_setOf 1 := ⟨rfl, w_1253, w_84, ⟨by decide, by decide⟩, by decide +kernel, w_1252, w_45⟩
set_option maxRecDepth 20000 in
theorem mv_X4_isWhole : MV mi_X4_isWhole 1 := ⟨rfl, w_1237, w_84, ⟨by decide, by decide⟩, by decide +kernel, w_1236, w_41⟩
set_option maxRecDepth 20000 in
theorem mv_X4_isEnd : MV mi_X4_isEnd 1 := ⟨rfl, w_1233, w_84, ⟨by decide, by decide⟩, by decide +kernel, w_1232, w_40⟩
set_option maxRecDepth 20000 in
theorem mv_X4_reaches : MV mi_X4_reaches 2 := ⟨rfl, w_1241, w_84, ⟨by decide, by decide⟩, by decide +kernel, w_1240, w_42⟩
set_option maxRecDepth 20000 in
theorem mv_X4_goes : MV mi_X4_goes 4 := ⟨rfl, w_1249, w_84, ⟨by decide, by decide⟩, by decide +kernel, w_1248, w_44⟩
set_option maxRecDepth 20000 in
theorem mv_X4_spreads : MV mi_X4_spreads 1 := ⟨rfl, w_1245, w_84, ⟨by decide, by decide⟩, by decide +kernel, w_1244, w_43⟩
set_option maxRecDepth 20000 in
theorem mv_X4_forgets : MV mi_X4_forgets 0 := ⟨rfl, w_1229, w_84, ⟨by decide, by decide⟩, by decide +kernel, w_1228, w_39⟩
set_option maxRecDepth 20000 in
theorem mv_X4_from : MV mi_X4_from 2 := ⟨rfl, w_1456, w_84, ⟨by decide, by decide⟩, by decide +kernel, w_1455, w_66⟩
set_option maxRecDepth 20000 in
theorem mv_X4_fromEnds : MV mi_X4_fromEnds 0 := ⟨rfl, w_1225, w_84, ⟨by decide, by decide⟩, by decide +kernel, w_1224, w_38⟩
set_option maxRecDepth 20000 in
theorem mv_X4_leastEnd : MV mi_X4_leastEnd 0 := ⟨rfl, w_1460, w_84, ⟨by decide, by decide⟩, by decide +kernel, w_1459, w_67⟩
set_option maxRecDepth 20000 in
theorem mv_X4_fewest : MV mi_X4_fewest 1 := ⟨rfl, w_1452, w_84, ⟨by decide, by decide⟩, by decide +kernel, w_1451, w_65⟩
set_option maxRecDepth 20000 in
theorem mv_X4_fewestEnds : MV mi_X4_fewestEnds 0 := ⟨rfl, w_1468, w_84, ⟨by decide, by decide⟩, by decide +kernel, w_1467, w_68⟩
set_option maxRecDepth 20000 in
theorem mv_X4_cheapens : MV mi_X4_cheapens 2 := ⟨rfl, w_1484, w_84, ⟨by decide, by decide⟩, by decide +kernel, w_1483, w_70⟩
set_option maxRecDepth 20000 in
theorem mv_X4_cheaper : MV mi_X4_cheaper 3 := ⟨rfl, w_1488, w_84, ⟨by decide, by decide⟩, by decide +kernel, w_1487, w_71⟩
set_option maxRecDepth 20000 in
theorem mv_X4_cheapest : MV mi_X4_cheapest 0 := ⟨rfl, w_1480, w_84, ⟨by decide, by decide⟩, by decide +kernel, w_1479, w_69⟩
set_option maxRecDepth 20000 in
theorem mv_X4_next : MV mi_X4_next 0 := ⟨rfl, w_1265, w_84, ⟨by decide, by decide⟩, by decide +kernel, w_1264, w_48⟩
set_option maxRecDepth 20000 in
theorem mv_X4_planned : MV mi_X4_planned 0 := ⟨rfl, w_1217, w_84, ⟨by decide, by decide⟩, by decide +kernel, w_1216, w_36⟩
set_option maxRecDepth 20000 in
theorem mv_X4_saves : MV mi_X4_saves 0 := ⟨rfl, w_1127, w_84, ⟨by decide, by decide⟩, by decide +kernel, w_1126, w_23⟩
set_option maxRecDepth 20000 in
theorem mv_X4_wrongCar : MV mi_X4_wrongCar 3 := ⟨rfl, w_1102, w_84, ⟨by decide, by decide⟩, by decide +kernel, w_1101, w_19⟩
set_option maxRecDepth 20000 in
theorem mv_X4_addOn : MV mi_X4_addOn 3 := ⟨rfl, w_1134, w_84, ⟨by decide, by decide⟩, by decide +kernel, w_1133, w_24⟩
set_option maxRecDepth 20000 in
theorem mv_X4_hasWall : MV mi_X4_hasWall 1 := ⟨rfl, w_1154, w_84, ⟨by decide, by decide⟩, by decide +kernel, w_1153, w_26⟩
set_option maxRecDepth 20000 in
theorem mv_X4_canTurn : MV mi_X4_canTurn 1 := ⟨rfl, w_1150, w_84, ⟨by decide, by decide⟩, by decide +kernel, w_1149, w_25⟩
set_option maxRecDepth 20000 in
theorem mv_X4_turnOn : MV mi_X4_turnOn 1 := ⟨rfl, w_1161, w_84, ⟨by decide, by decide⟩, by decide +kernel, w_1160, w_27⟩
set_option maxRecDepth 20000 in
theorem mv_X4_slideOn : MV mi_X4_slideOn 2 := ⟨rfl, w_1185, w_84, ⟨by decide, by decide⟩, by decide +kernel, w_1184, w_31⟩
set_option maxRecDepth 20000 in
theorem mv_X4_logCar : MV mi_X4_logCar 1 := ⟨rfl, w_1197, w_84, ⟨by decide, by decide⟩, by decide +kernel, w_1196, w_33⟩
set_option maxRecDepth 20000 in
theorem mv_X4_logBy : MV mi_X4_logBy 1 := ⟨rfl, w_1201, w_84, ⟨by decide, by decide⟩, by decide +kernel, w_1200, w_34⟩
set_option maxRecDepth 20000 in
theorem mv_X4_backOn : MV mi_X4_backOn 0 := ⟨rfl, w_1193, w_84, ⟨by decide, by decide⟩, by decide +kernel, w_1192, w_32⟩
set_option maxRecDepth 20000 in
theorem mv_X4_canDrive : MV mi_X4_canDrive 0 := ⟨rfl, w_1213, w_84, ⟨by decide, by decide⟩, by decide +kernel, w_1212, w_35⟩
set_option maxRecDepth 20000 in
theorem mv_X4_driveOn : MV mi_X4_driveOn 0 := ⟨rfl, w_1261, w_84, ⟨by decide, by decide⟩, by decide +kernel, w_1260, w_47⟩
set_option maxRecDepth 20000 in
theorem mv_X4_addCar : MV mi_X4_addCar 3 := ⟨rfl, w_1098, w_84, ⟨by decide, by decide⟩, by decide +kernel, w_1096, w_1097⟩
set_option maxRecDepth 20000 in
theorem mv_X4_dropLast : MV mi_X4_dropLast 0 := ⟨rfl, w_1138, w_84, ⟨by decide, by decide⟩, by decide +kernel, w_1136, w_1137⟩
set_option maxRecDepth 20000 in
theorem mv_X4_toggleWall : MV mi_X4_toggleWall 1 := ⟨rfl, w_1142, w_84, ⟨by decide, by decide⟩, by decide +kernel, w_1140, w_1141⟩
set_option maxRecDepth 20000 in
theorem ms_X4_isChange : MS mi_X4_isChange 1 := ⟨rfl, w_1172, w_84, ⟨by decide, by decide⟩, by decide +kernel, w_1171⟩
set_option maxRecDepth 20000 in
theorem mv_X4_slide : MV mi_X4_slide 2 := ⟨rfl, w_1165, w_84, ⟨by decide, by decide⟩, by decide +kernel, w_1163, w_1164⟩
set_option maxRecDepth 20000 in
theorem mv_X4_takeBack : MV mi_X4_takeBack 0 := ⟨rfl, w_1189, w_84, ⟨by decide, by decide⟩, by decide +kernel, w_1187, w_1188⟩
set_option maxRecDepth 20000 in
theorem mv_X4_rewind : MV mi_X4_rewind 0 := ⟨rfl, w_1205, w_84, ⟨by decide, by decide⟩, by decide +kernel, w_1203, w_1204⟩
set_option maxRecDepth 20000 in
theorem mv_X4_driveOut : MV mi_X4_driveOut 0 := ⟨rfl, w_1209, w_84, ⟨by decide, by decide⟩, by decide +kernel, w_1207, w_1208⟩
set_option maxRecDepth 20000 in
theorem mv_X4_append : MV mi_X4_append 1 := ⟨rfl, w_1269, w_84, ⟨by decide, by decide⟩, by decide +kernel, w_1267, w_1268⟩
set_option maxRecDepth 20000 in
theorem mv_X4_clearBuffer : MV mi_X4_clearBuffer 0 := ⟨rfl, w_1275, w_84, ⟨by decide, by decide⟩, by decide +kernel, w_1273, w_1274⟩
set_option maxRecDepth 20000 in
theorem mv_X4_goesOn : MV mi_X4_goesOn 1 := ⟨rfl, w_1304, w_84, ⟨by decide, by decide⟩, by decide +kernel, w_1303, w_53⟩
set_option maxRecDepth 20000 in
theorem mv_X4_digit : MV mi_X4_digit 2 := ⟨rfl, w_1300, w_84, ⟨by decide, by decide⟩, by decide +kernel, w_1299, w_52⟩
set_option maxRecDepth 20000 in
theorem mv_X4_car : MV mi_X4_car 1 := ⟨rfl, w_1296, w_84, ⟨by decide, by decide⟩, by decide +kernel, w_1295, w_51⟩
set_option maxRecDepth 20000 in
theorem mv_X4_cell : MV mi_X4_cell 0 := ⟨rfl, w_1308, w_84, ⟨by decide, by decide⟩, by decide +kernel, w_1307, w_54⟩
set_option maxRecDepth 20000 in
theorem mv_X4_change : MV mi_X4_change 0 := ⟨rfl, w_1312, w_84, ⟨by decide, by decide⟩, by decide +kernel, w_1311, w_55⟩
set_option maxRecDepth 20000 in
theorem mv_X4_part : MV mi_X4_part 1 := ⟨rfl, w_1292, w_84, ⟨by decide, by decide⟩, by decide +kernel, w_1291, w_50⟩
set_option maxRecDepth 20000 in
theorem ms_X4_isSign : MS mi_X4_isSign 1 := ⟨rfl, w_1286, w_84, ⟨by decide, by decide⟩, by decide +kernel, w_1285⟩
set_option maxRecDepth 20000 in
theorem mv_X4_does : MV mi_X4_does 1 := ⟨rfl, w_1316, w_84, ⟨by decide, by decide⟩, by decide +kernel, w_1315, w_56⟩
set_option maxRecDepth 20000 in
theorem mv_X4_reads : MV mi_X4_reads 1 := ⟨rfl, w_1283, w_84, ⟨by decide, by decide⟩, by decide +kernel, w_1282, w_49⟩
set_option maxRecDepth 20000 in
theorem mv_X4_firstError : MV mi_X4_firstError 0 := ⟨rfl, w_1279, w_84, ⟨by decide, by decide⟩, by decide +kernel, w_1277, w_1278⟩
set_option maxRecDepth 20000 in
theorem mv_X4_work : MV mi_X4_work 0 := ⟨rfl, w_1320, w_84, ⟨by decide, by decide⟩, by decide +kernel, w_1318, w_1319⟩
set_option maxRecDepth 20000 in
theorem mv_X4_hasStopped : MV mi_X4_hasStopped 0 := ⟨rfl, w_1324, w_84, ⟨by decide, by decide⟩, by decide +kernel, w_1322, w_1323⟩
set_option maxRecDepth 20000 in
theorem mv_X4_stoppedPart : MV mi_X4_stoppedPart 0 := ⟨rfl, w_1328, w_84, ⟨by decide, by decide⟩, by decide +kernel, w_1326, w_1327⟩
set_option maxRecDepth 20000 in
theorem mv_X4_undo : MV mi_X4_undo 0 := ⟨rfl, w_1332, w_84, ⟨by decide, by decide⟩, by decide +kernel, w_1330, w_1331⟩
set_option maxRecDepth 20000 in
theorem mv_X4_keep : MV mi_X4_keep 0 := ⟨rfl, w_1336, w_84, ⟨by decide, by decide⟩, by decide +kernel, w_1334, w_1335⟩
set_option maxRecDepth 20000 in
theorem mv_X4_restore : MV mi_X4_restore 0 := ⟨rfl, w_1340, w_84, ⟨by decide, by decide⟩, by decide +kernel, w_1338, w_1339⟩
set_option maxRecDepth 20000 in
theorem mv_X4_savedStates : MV mi_X4_savedStates 0 := ⟨rfl, w_1344, w_84, ⟨by decide, by decide⟩, by decide +kernel, w_1342, w_1343⟩
set_option maxRecDepth 20000 in
theorem mv_X4_told : MV mi_X4_told 1 := ⟨rfl, w_1352, w_84, ⟨by decide, by decide⟩, by decide +kernel, w_1351, w_57⟩
set_option maxRecDepth 20000 in
theorem mv_X4_cars : MV mi_X4_cars 0 := ⟨rfl, w_1348, w_84, ⟨by decide, by decide⟩, by decide +kernel, w_1346, w_1347⟩
set_option maxRecDepth 20000 in
theorem mv_X4_walls : MV mi_X4_walls 0 := ⟨rfl, w_1356, w_84, ⟨by decide, by decide⟩, by decide +kernel, w_1354, w_1355⟩
set_option maxRecDepth 20000 in
theorem mv_X4_noCar : MV mi_X4_noCar 1 := ⟨rfl, w_1364, w_84, ⟨by decide, by decide⟩, by decide +kernel, w_1363, w_58⟩
set_option maxRecDepth 20000 in
theorem mv_X4_laneOf : MV mi_X4_laneOf 1 := ⟨rfl, w_1360, w_84, ⟨by decide, by decide⟩, by decide +kernel, w_1358, w_1359⟩
set_option maxRecDepth 20000 in
theorem mv_X4_placeOf : MV mi_X4_placeOf 1 := ⟨rfl, w_1368, w_84, ⟨by decide, by decide⟩, by decide +kernel, w_1366, w_1367⟩
set_option maxRecDepth 20000 in
theorem mv_X4_lengthOf : MV mi_X4_lengthOf 1 := ⟨rfl, w_1372, w_84, ⟨by decide, by decide⟩, by decide +kernel, w_1370, w_1371⟩
set_option maxRecDepth 20000 in
theorem mv_X4_carAt : MV mi_X4_carAt 1 := ⟨rfl, w_1380, w_84, ⟨by decide, by decide⟩, by decide +kernel, w_1379, w_59⟩
set_option maxRecDepth 20000 in
theorem mv_X4_carOn : MV mi_X4_carOn 1 := ⟨rfl, w_1376, w_84, ⟨by decide, by decide⟩, by decide +kernel, w_1374, w_1375⟩
set_option maxRecDepth 20000 in
theorem mv_X4_isWall : MV mi_X4_isWall 1 := ⟨rfl, w_1384, w_84, ⟨by decide, by decide⟩, by decide +kernel, w_1382, w_1383⟩
set_option maxRecDepth 20000 in
theorem mv_X4_freeCells : MV mi_X4_freeCells 0 := ⟨rfl, w_1388, w_84, ⟨by decide, by decide⟩, by decide +kernel, w_1386, w_1387⟩
set_option maxRecDepth 20000 in
theorem mv_X4_isOut : MV mi_X4_isOut 0 := ⟨rfl, w_1392, w_84, ⟨by decide, by decide⟩, by decide +kernel, w_1390, w_1391⟩
set_option maxRecDepth 20000 in
theorem mv_X4_room : MV mi_X4_room 2 := ⟨rfl, w_1400, w_84, ⟨by decide, by decide⟩, by decide +kernel, w_1398, w_1399⟩
set_option maxRecDepth 20000 in
theorem mv_X4_slides : MV mi_X4_slides 0 := ⟨rfl, w_1408, w_84, ⟨by decide, by decide⟩, by decide +kernel, w_1407, w_61⟩
set_option maxRecDepth 20000 in
theorem mv_X4_possibleSlides : MV mi_X4_possibleSlides 0 := ⟨rfl, w_1404, w_84, ⟨by decide, by decide⟩, by decide +kernel, w_1402, w_1403⟩
set_option maxRecDepth 20000 in
theorem mv_X4_logged : MV mi_X4_logged 0 := ⟨rfl, w_1412, w_84, ⟨by decide, by decide⟩, by decide +kernel, w_1410, w_1411⟩
set_option maxRecDepth 20000 in
theorem mv_X4_noSlide : MV mi_X4_noSlide 1 := ⟨rfl, w_1420, w_84, ⟨by decide, by decide⟩, by decide +kernel, w_1419, w_62⟩
set_option maxRecDepth 20000 in
theorem mv_X4_carOfSlide : MV mi_X4_carOfSlide 1 := ⟨rfl, w_1416, w_84, ⟨by decide, by decide⟩, by decide +kernel, w_1414, w_1415⟩
set_option maxRecDepth 20000 in
theorem mv_X4_changeBySlide : MV mi_X4_changeBySlide 1 := ⟨rfl, w_1424, w_84, ⟨by decide, by decide⟩, by decide +kernel, w_1422, w_1423⟩
set_option maxRecDepth 20000 in
theorem mv_X4_stepsBy : MV mi_X4_stepsBy 1 := ⟨rfl, w_1432, w_84, ⟨by decide, by decide⟩, by decide +kernel, w_1431, w_63⟩
set_option maxRecDepth 20000 in
theorem mv_X4_stepsOf : MV mi_X4_stepsOf 1 := ⟨rfl, w_1428, w_84, ⟨by decide, by decide⟩, by decide +kernel, w_1426, w_1427⟩
set_option maxRecDepth 20000 in
theorem mv_X4_burnt : MV mi_X4_burnt 0 := ⟨rfl, w_1440, w_84, ⟨by decide, by decide⟩, by decide +kernel, w_1439, w_64⟩
set_option maxRecDepth 20000 in
theorem mv_X4_fuel : MV mi_X4_fuel 0 := ⟨rfl, w_1436, w_84, ⟨by decide, by decide⟩, by decide +kernel, w_1434, w_1435⟩
set_option maxRecDepth 20000 in
theorem mv_X4_fuelByCars : MV mi_X4_fuelByCars 0 := ⟨rfl, w_1444, w_84, ⟨by decide, by decide⟩, by decide +kernel, w_1442, w_1443⟩
set_option maxRecDepth 20000 in
theorem mv_X4_fewestSlides : MV mi_X4_fewestSlides 0 := ⟨rfl, w_1448, w_84, ⟨by decide, by decide⟩, by decide +kernel, w_1446, w_1447⟩
set_option maxRecDepth 20000 in
theorem mv_X4_fewestSlidesFromEnds : MV mi_X4_fewestSlidesFromEnds 0 := ⟨rfl, w_1464, w_84, ⟨by decide, by decide⟩, by decide +kernel, w_1462, w_1463⟩
set_option maxRecDepth 20000 in
theorem mv_X4_fewestSteps : MV mi_X4_fewestSteps 0 := ⟨rfl, w_1472, w_84, ⟨by decide, by decide⟩, by decide +kernel, w_1470, w_1471⟩
set_option maxRecDepth 20000 in
theorem mv_X4_leastFuel : MV mi_X4_leastFuel 0 := ⟨rfl, w_1476, w_84, ⟨by decide, by decide⟩, by decide +kernel, w_1474, w_1475⟩
set_option maxRecDepth 20000 in
theorem mv_X4_leastFuelByRounds : MV mi_X4_leastFuelByRounds 0 := ⟨rfl, w_1492, w_84, ⟨by decide, by decide⟩, by decide +kernel, w_1490, w_1491⟩
set_option maxRecDepth 20000 in
theorem mv_X4_nextSlide : MV mi_X4_nextSlide 0 := ⟨rfl, w_1500, w_84, ⟨by decide, by decide⟩, by decide +kernel, w_1499, w_72⟩
set_option maxRecDepth 20000 in
theorem mv_X4_nextCar : MV mi_X4_nextCar 0 := ⟨rfl, w_1496, w_84, ⟨by decide, by decide⟩, by decide +kernel, w_1494, w_1495⟩
set_option maxRecDepth 20000 in
theorem mv_X4_nextChange : MV mi_X4_nextChange 0 := ⟨rfl, w_1504, w_84, ⟨by decide, by decide⟩, by decide +kernel, w_1502, w_1503⟩
set_option maxRecDepth 20000 in
theorem mv_X4_reached : MV mi_X4_reached 1 := ⟨rfl, w_1512, w_84, ⟨by decide, by decide⟩, by decide +kernel, w_1511, w_73⟩
set_option maxRecDepth 20000 in
theorem mv_X4_reachable : MV mi_X4_reachable 0 := ⟨rfl, w_1508, w_84, ⟨by decide, by decide⟩, by decide +kernel, w_1506, w_1507⟩
set_option maxRecDepth 20000 in
theorem mv_X4_reachableOut : MV mi_X4_reachableOut 0 := ⟨rfl, w_1516, w_84, ⟨by decide, by decide⟩, by decide +kernel, w_1514, w_1515⟩
set_option maxRecDepth 20000 in
theorem mv_X4_farthest : MV mi_X4_farthest 0 := ⟨rfl, w_1520, w_84, ⟨by decide, by decide⟩, by decide +kernel, w_1518, w_1519⟩
set_option maxRecDepth 20000 in
theorem mv_X4_all : MV mi_X4_all 0 := ⟨rfl, w_1528, w_84, ⟨by decide, by decide⟩, by decide +kernel, w_1527, w_74⟩
set_option maxRecDepth 20000 in
theorem mv_X4_arrangements : MV mi_X4_arrangements 0 := ⟨rfl, w_1524, w_84, ⟨by decide, by decide⟩, by decide +kernel, w_1522, w_1523⟩
set_option maxRecDepth 20000 in
theorem mv_X4_fewestBehind : MV mi_X4_fewestBehind 2 := ⟨rfl, w_1532, w_84, ⟨by decide, by decide⟩, by decide +kernel, w_1530, w_1531⟩
set_option maxRecDepth 20000 in
theorem mv_X4_fewestWithoutLast : MV mi_X4_fewestWithoutLast 0 := ⟨rfl, w_1536, w_84, ⟨by decide, by decide⟩, by decide +kernel, w_1534, w_1535⟩
set_option maxRecDepth 20000 in
theorem mv_X4_fewestWithWall : MV mi_X4_fewestWithWall 1 := ⟨rfl, w_1540, w_84, ⟨by decide, by decide⟩, by decide +kernel, w_1538, w_1539⟩
set_option maxRecDepth 20000 in
theorem mv_X4_share : MV mi_X4_share 0 := ⟨rfl, w_1548, w_84, ⟨by decide, by decide⟩, by decide +kernel, w_1547, w_75⟩
set_option maxRecDepth 20000 in
theorem mv_X4_reachedShare : MV mi_X4_reachedShare 0 := ⟨rfl, w_1544, w_84, ⟨by decide, by decide⟩, by decide +kernel, w_1542, w_1543⟩
set_option maxRecDepth 20000 in
theorem mv_X4_adds : MV mi_X4_adds 1 := ⟨rfl, w_1557, w_84, ⟨by decide, by decide⟩, by decide +kernel, w_1556, w_76⟩
set_option maxRecDepth 20000 in
theorem mv_X4_addsCar : MV mi_X4_addsCar 1 := ⟨rfl, w_1566, w_84, ⟨by decide, by decide⟩, by decide +kernel, w_1565, w_78⟩
set_option maxRecDepth 20000 in
theorem mv_X4_addsPlans : MV mi_X4_addsPlans 0 := ⟨rfl, w_1562, w_84, ⟨by decide, by decide⟩, by decide +kernel, w_1561, w_77⟩
set_option maxRecDepth 20000 in
theorem ms_Jxe99ae_isNaN_b9ae7 : MS mi_Jxe99ae_isNaN_b9ae7 1 := ⟨rfl, w_1572, w_94, ⟨by decide, by decide⟩, by decide +kernel, w_1571⟩
set_option maxRecDepth 20000 in
theorem ms_Jxe99ae_doubleToLongBits_ccdee : MS mi_Jxe99ae_doubleToLongBits_ccdee 1 := ⟨rfl, w_1569, w_94, ⟨by decide, by decide⟩, by decide +kernel, w_1568⟩
set_option maxRecDepth 20000 in
theorem mv_X4_digest : MV mi_X4_digest 0 := ⟨rfl, w_1552, w_84, ⟨by decide, by decide⟩, by decide +kernel, w_1550, w_1551⟩
