/-! ===== the law: its helpers ===== -/
abbrev mi_L_wall : MI := (yL_wall, cL_wall, 3, some .int, 8, 143, 1, 6, [(0, 13, 14, 13), (0, 13, 18, 16)])
abbrev mi_L_isWall : MI := (yL_isWall, cL_isWall, 3, some .int, 7, 111, 1, 6, [(0, 13, 14, 13)])
abbrev mi_L_isWall_n : MI := (yL_isWall, cL_isWall, 3, some .int, 2, 42, 0, 0, [(0, 13, 14, 13)])
abbrev mi_L_room : MI := (yL_room, cL_room, 4, some .int, 7, 112, 1, 6, [(0, 6, 7, 13)])
abbrev mi_L_room_n : MI := (yL_room, cL_room, 4, some .int, 4, 91, 0, 0, [(0, 6, 7, 13)])
abbrev mi_L_tryAdd : MI := (yL_tryAdd, cL_tryAdd, 5, some .int, 8, 145, 1, 6, [(0, 7, 8, 13), (0, 7, 13, 30), (0, 7, 18, 16)])
abbrev mi_L_tryDrop : MI := (yL_tryDrop, cL_tryDrop, 2, some .int, 7, 142, 1, 6, [(0, 4, 5, 16)])
abbrev mi_L_trySlide : MI := (yL_trySlide, cL_trySlide, 4, some .int, 8, 144, 2, 12, [(0, 6, 7, 13), (0, 6, 11, 30), (0, 6, 15, 16)])
abbrev mi_L_tryTake : MI := (yL_tryTake, cL_tryTake, 2, some .int, 7, 142, 1, 6, [(0, 4, 5, 16)])
abbrev mi_L_tryDrive : MI := (yL_tryDrive, cL_tryDrive, 2, some .int, 7, 152, 1, 6, [(0, 4, 5, 16)])
abbrev mi_L_tryAppend : MI := (yL_tryAppend, cL_tryAppend, 3, some .int, 7, 111, 1, 6, [(0, 5, 6, 30), (0, 5, 10, 16)])
abbrev mi_L_tryWork : MI := (yL_tryWork, cL_tryWork, 2, some .int, 7, 176, 1, 6, [(0, 4, 5, 30)])
abbrev mi_L_tryStop : MI := (yL_tryStop, cL_tryStop, 2, some .int, 7, 110, 1, 6, [(0, 4, 5, 16)])
abbrev mi_L_tryUndo : MI := (yL_tryUndo, cL_tryUndo, 2, some .int, 7, 122, 1, 6, [(0, 4, 5, 16)])
abbrev mi_L_tryUndo_n : MI := (yL_tryUndo, cL_tryUndo, 2, some .int, 4, 122, 0, 0, [(0, 4, 5, 16)])
abbrev mi_L_tryBack : MI := (yL_tryBack, cL_tryBack, 2, some .int, 7, 142, 1, 6, [(0, 4, 5, 16)])
abbrev mi_L_tryLane : MI := (yL_tryLane, cL_tryLane, 3, some .int, 7, 111, 1, 6, [(0, 5, 6, 13)])
abbrev mi_L_tryLane_n : MI := (yL_tryLane, cL_tryLane, 3, some .int, 2, 42, 0, 0, [(0, 5, 6, 13)])
abbrev mi_L_tryPlace : MI := (yL_tryPlace, cL_tryPlace, 3, some .int, 7, 111, 1, 6, [(0, 5, 6, 13)])
abbrev mi_L_tryPlace_n : MI := (yL_tryPlace, cL_tryPlace, 3, some .int, 2, 42, 0, 0, [(0, 5, 6, 13)])
abbrev mi_L_tryLength : MI := (yL_tryLength, cL_tryLength, 3, some .int, 7, 111, 1, 6, [(0, 5, 6, 13)])
abbrev mi_L_tryLength_n : MI := (yL_tryLength, cL_tryLength, 3, some .int, 2, 42, 0, 0, [(0, 5, 6, 13)])
abbrev mi_L_tryOn : MI := (yL_tryOn, cL_tryOn, 3, some .int, 7, 111, 1, 6, [(0, 5, 6, 13)])
abbrev mi_L_tryOn_n : MI := (yL_tryOn, cL_tryOn, 3, some .int, 3, 65, 0, 0, [(0, 5, 6, 13)])
abbrev mi_L_tryLogCar : MI := (yL_tryLogCar, cL_tryLogCar, 3, some .int, 7, 111, 1, 6, [(0, 5, 6, 13)])
abbrev mi_L_tryLogCar_n : MI := (yL_tryLogCar, cL_tryLogCar, 3, some .int, 2, 42, 0, 0, [(0, 5, 6, 13)])
abbrev mi_L_tryLogBy : MI := (yL_tryLogBy, cL_tryLogBy, 3, some .int, 7, 111, 1, 6, [(0, 5, 6, 13)])
abbrev mi_L_tryLogBy_n : MI := (yL_tryLogBy, cL_tryLogBy, 3, some .int, 2, 42, 0, 0, [(0, 5, 6, 13)])
abbrev mi_L_trySteps : MI := (yL_trySteps, cL_trySteps, 3, some .int, 7, 111, 1, 6, [(0, 5, 6, 13)])
abbrev mi_L_trySteps_n : MI := (yL_trySteps, cL_trySteps, 3, some .int, 3, 84, 0, 0, [(0, 5, 6, 13)])
abbrev mi_L_tryNext : MI := (yL_tryNext, cL_tryNext, 2, some .int, 7, 150, 1, 6, [(0, 4, 5, 16)])
abbrev mi_L_tryChange : MI := (yL_tryChange, cL_tryChange, 2, some .int, 7, 150, 1, 6, [(0, 4, 5, 16)])
abbrev mi_L_tryBehind : MI := (yL_tryBehind, cL_tryBehind, 4, some .int, 8, 139, 1, 6, [(0, 6, 7, 13), (0, 6, 11, 30), (0, 6, 15, 16)])
abbrev mi_L_tryWithout : MI := (yL_tryWithout, cL_tryWithout, 2, some .int, 7, 137, 1, 6, [(0, 4, 5, 16)])
abbrev mi_L_tryWithWall : MI := (yL_tryWithWall, cL_tryWithWall, 3, some .int, 7, 138, 1, 6, [(0, 5, 6, 13), (0, 5, 10, 16)])
abbrev mi_L_call : MI := (yL_call, cL_call, 5, some .int, 9, 197, 2, 12, [])
abbrev mi_L_call_n : MI := (yL_call, cL_call, 5, some .int, 5, 143, 0, 0, [])
abbrev mi_L_thrown : MI := (yL_thrown, cL_thrown, 1, some .boolean, 0, 0, 0, 0, [])
abbrev mi_L_refuses : MI := (yL_refuses, cL_refuses, 10, some .boolean, 10, 221, 83, 498, [])
abbrev mi_L_holds : MI := (yL_holds, cL_holds, 13, some .boolean, 6, 167, 0, 0, [])
abbrev mi_L_plans : MI := (yL_plans, cL_plans, 6, some .boolean, 6, 137, 0, 0, [])
abbrev mi_L_act : MI := (yL_act, cL_act, 3, some .int, 10, 221, 2, 12, [])
theorem w_19 : Cond.initialized "CarTangosLaw" ∈ SWL := SWL_mem 19 (by decide +kernel) rfl
theorem w_425 : Cond.static yL_refuses ∈ SWL := SWL_mem 425 (by decide +kernel) rfl
set_option maxRecDepth 100000 in
theorem w_426 : Cond.code yL_refuses cL_refuses 10 (some .boolean) ∈ SWL := SWL_mem 426 (by rfl) rfl
theorem w_427 : Cond.methodLink RL 173 yX3_cars ∈ SWL := SWL_mem 427 (by decide +kernel) rfl
theorem w_431 : Cond.methodLink RL 176 yL_call ∈ SWL := SWL_mem 431 (by decide +kernel) rfl
theorem w_432 : Cond.static yL_call ∈ SWL := SWL_mem 432 (by decide +kernel) rfl
set_option maxRecDepth 100000 in
theorem w_433 : Cond.code yL_call cL_call 5 (some .int) ∈ SWL := SWL_mem 433 (by rfl) rfl
theorem w_434 : Cond.methodLink RL 99 yL_tryAdd ∈ SWL := SWL_mem 434 (by decide +kernel) rfl
theorem w_435 : Cond.static yL_tryAdd ∈ SWL := SWL_mem 435 (by decide +kernel) rfl
set_option maxRecDepth 100000 in
theorem w_436 : Cond.codeWith yL_tryAdd cL_tryAdd 5 (some .int) [(0, 7, 8, 13), (0, 7, 13, 30), (0, 7, 18, 16)] ∈ SWL := SWL_mem 436 (by rfl) rfl
theorem w_437 : Cond.classLink RL 13 "java/lang/IndexOutOfBoundsException" ∈ SWL := SWL_mem 437 (by decide +kernel) rfl
theorem w_438 : Cond.classLink RL 30 "java/lang/IllegalArgumentException" ∈ SWL := SWL_mem 438 (by decide +kernel) rfl
theorem w_439 : Cond.classLink RL 16 "java/lang/IllegalStateException" ∈ SWL := SWL_mem 439 (by decide +kernel) rfl
theorem w_440 : Cond.methodLink RL 26 yX3_addCar ∈ SWL := SWL_mem 440 (by decide +kernel) rfl
theorem w_453 : Cond.castable "java/lang/IndexOutOfBoundsException" "java/lang/IndexOutOfBoundsException" ∈ SWL := SWL_mem 453 (by decide +kernel) rfl
theorem w_521 : Cond.castable "java/lang/IllegalArgumentException" "java/lang/IllegalArgumentException" ∈ SWL := SWL_mem 521 (by decide +kernel) rfl
theorem w_537 : Cond.castable "java/lang/IllegalStateException" "java/lang/IllegalStateException" ∈ SWL := SWL_mem 537 (by decide +kernel) rfl
theorem w_573 : Cond.constant RL 15 (-9999001 : Int32) ∈ SWL := SWL_mem 573 (by decide +kernel) rfl
theorem w_574 : Cond.constant RL 32 (-9999002 : Int32) ∈ SWL := SWL_mem 574 (by decide +kernel) rfl
theorem w_575 : Cond.constant RL 18 (-9999003 : Int32) ∈ SWL := SWL_mem 575 (by decide +kernel) rfl
theorem w_576 : Cond.methodLink RL 105 yL_tryDrop ∈ SWL := SWL_mem 576 (by decide +kernel) rfl
theorem w_577 : Cond.static yL_tryDrop ∈ SWL := SWL_mem 577 (by decide +kernel) rfl
set_option maxRecDepth 100000 in
theorem w_578 : Cond.codeWith yL_tryDrop cL_tryDrop 2 (some .int) [(0, 4, 5, 16)] ∈ SWL := SWL_mem 578 (by rfl) rfl
theorem w_579 : Cond.methodLink RL 33 yX3_dropLast ∈ SWL := SWL_mem 579 (by decide +kernel) rfl
theorem w_588 : Cond.methodLink RL 109 yL_trySlide ∈ SWL := SWL_mem 588 (by decide +kernel) rfl
theorem w_589 : Cond.static yL_trySlide ∈ SWL := SWL_mem 589 (by decide +kernel) rfl
set_option maxRecDepth 100000 in
theorem w_590 : Cond.codeWith yL_trySlide cL_trySlide 4 (some .int) [(0, 6, 7, 13), (0, 6, 11, 30), (0, 6, 15, 16)] ∈ SWL := SWL_mem 590 (by rfl) rfl
theorem w_591 : Cond.methodLink RL 37 yX3_slide ∈ SWL := SWL_mem 591 (by decide +kernel) rfl
theorem w_605 : Cond.methodLink RL 113 yL_tryTake ∈ SWL := SWL_mem 605 (by decide +kernel) rfl
theorem w_606 : Cond.static yL_tryTake ∈ SWL := SWL_mem 606 (by decide +kernel) rfl
set_option maxRecDepth 100000 in
theorem w_607 : Cond.codeWith yL_tryTake cL_tryTake 2 (some .int) [(0, 4, 5, 16)] ∈ SWL := SWL_mem 607 (by rfl) rfl
theorem w_608 : Cond.methodLink RL 41 yX3_takeBack ∈ SWL := SWL_mem 608 (by decide +kernel) rfl
theorem w_621 : Cond.methodLink RL 116 yL_tryDrive ∈ SWL := SWL_mem 621 (by decide +kernel) rfl
theorem w_622 : Cond.static yL_tryDrive ∈ SWL := SWL_mem 622 (by decide +kernel) rfl
set_option maxRecDepth 100000 in
theorem w_623 : Cond.codeWith yL_tryDrive cL_tryDrive 2 (some .int) [(0, 4, 5, 16)] ∈ SWL := SWL_mem 623 (by rfl) rfl
theorem w_624 : Cond.methodLink RL 44 yX3_driveOut ∈ SWL := SWL_mem 624 (by decide +kernel) rfl
theorem w_647 : Cond.methodLink RL 119 yL_tryAppend ∈ SWL := SWL_mem 647 (by decide +kernel) rfl
theorem w_648 : Cond.static yL_tryAppend ∈ SWL := SWL_mem 648 (by decide +kernel) rfl
set_option maxRecDepth 100000 in
theorem w_649 : Cond.codeWith yL_tryAppend cL_tryAppend 3 (some .int) [(0, 5, 6, 30), (0, 5, 10, 16)] ∈ SWL := SWL_mem 649 (by rfl) rfl
theorem w_650 : Cond.methodLink RL 47 yX3_append ∈ SWL := SWL_mem 650 (by decide +kernel) rfl
theorem w_660 : Cond.methodLink RL 123 yL_tryWork ∈ SWL := SWL_mem 660 (by decide +kernel) rfl
theorem w_661 : Cond.static yL_tryWork ∈ SWL := SWL_mem 661 (by decide +kernel) rfl
set_option maxRecDepth 100000 in
theorem w_662 : Cond.codeWith yL_tryWork cL_tryWork 2 (some .int) [(0, 4, 5, 30)] ∈ SWL := SWL_mem 662 (by rfl) rfl
theorem w_663 : Cond.methodLink RL 51 yX3_work ∈ SWL := SWL_mem 663 (by decide +kernel) rfl
theorem w_743 : Cond.methodLink RL 126 yL_tryStop ∈ SWL := SWL_mem 743 (by decide +kernel) rfl
theorem w_744 : Cond.static yL_tryStop ∈ SWL := SWL_mem 744 (by decide +kernel) rfl
set_option maxRecDepth 100000 in
theorem w_745 : Cond.codeWith yL_tryStop cL_tryStop 2 (some .int) [(0, 4, 5, 16)] ∈ SWL := SWL_mem 745 (by rfl) rfl
theorem w_746 : Cond.methodLink RL 54 yX3_stoppedPart ∈ SWL := SWL_mem 746 (by decide +kernel) rfl
theorem w_751 : Cond.methodLink RL 129 yL_tryUndo ∈ SWL := SWL_mem 751 (by decide +kernel) rfl
theorem w_752 : Cond.static yL_tryUndo ∈ SWL := SWL_mem 752 (by decide +kernel) rfl
set_option maxRecDepth 100000 in
theorem w_753 : Cond.codeWith yL_tryUndo cL_tryUndo 2 (some .int) [(0, 4, 5, 16)] ∈ SWL := SWL_mem 753 (by rfl) rfl
theorem w_754 : Cond.methodLink RL 57 yX3_undo ∈ SWL := SWL_mem 754 (by decide +kernel) rfl
theorem w_759 : Cond.methodLink RL 132 yL_tryBack ∈ SWL := SWL_mem 759 (by decide +kernel) rfl
theorem w_760 : Cond.static yL_tryBack ∈ SWL := SWL_mem 760 (by decide +kernel) rfl
set_option maxRecDepth 100000 in
theorem w_761 : Cond.codeWith yL_tryBack cL_tryBack 2 (some .int) [(0, 4, 5, 16)] ∈ SWL := SWL_mem 761 (by rfl) rfl
theorem w_762 : Cond.methodLink RL 60 yX3_restore ∈ SWL := SWL_mem 762 (by decide +kernel) rfl
theorem w_767 : Cond.methodLink RL 135 yL_tryLane ∈ SWL := SWL_mem 767 (by decide +kernel) rfl
theorem w_768 : Cond.static yL_tryLane ∈ SWL := SWL_mem 768 (by decide +kernel) rfl
set_option maxRecDepth 100000 in
theorem w_769 : Cond.codeWith yL_tryLane cL_tryLane 3 (some .int) [(0, 5, 6, 13)] ∈ SWL := SWL_mem 769 (by rfl) rfl
theorem w_770 : Cond.methodLink RL 63 yX3_laneOf ∈ SWL := SWL_mem 770 (by decide +kernel) rfl
theorem w_776 : Cond.methodLink RL 138 yL_tryPlace ∈ SWL := SWL_mem 776 (by decide +kernel) rfl
theorem w_777 : Cond.static yL_tryPlace ∈ SWL := SWL_mem 777 (by decide +kernel) rfl
set_option maxRecDepth 100000 in
theorem w_778 : Cond.codeWith yL_tryPlace cL_tryPlace 3 (some .int) [(0, 5, 6, 13)] ∈ SWL := SWL_mem 778 (by rfl) rfl
theorem w_779 : Cond.methodLink RL 66 yX3_placeOf ∈ SWL := SWL_mem 779 (by decide +kernel) rfl
theorem w_783 : Cond.methodLink RL 141 yL_tryLength ∈ SWL := SWL_mem 783 (by decide +kernel) rfl
theorem w_784 : Cond.static yL_tryLength ∈ SWL := SWL_mem 784 (by decide +kernel) rfl
set_option maxRecDepth 100000 in
theorem w_785 : Cond.codeWith yL_tryLength cL_tryLength 3 (some .int) [(0, 5, 6, 13)] ∈ SWL := SWL_mem 785 (by rfl) rfl
theorem w_786 : Cond.methodLink RL 69 yX3_lengthOf ∈ SWL := SWL_mem 786 (by decide +kernel) rfl
theorem w_790 : Cond.methodLink RL 144 yL_tryOn ∈ SWL := SWL_mem 790 (by decide +kernel) rfl
theorem w_791 : Cond.static yL_tryOn ∈ SWL := SWL_mem 791 (by decide +kernel) rfl
set_option maxRecDepth 100000 in
theorem w_792 : Cond.codeWith yL_tryOn cL_tryOn 3 (some .int) [(0, 5, 6, 13)] ∈ SWL := SWL_mem 792 (by rfl) rfl
theorem w_793 : Cond.methodLink RL 72 yX3_carOn ∈ SWL := SWL_mem 793 (by decide +kernel) rfl
theorem w_799 : Cond.methodLink RL 147 yL_tryLogCar ∈ SWL := SWL_mem 799 (by decide +kernel) rfl
theorem w_800 : Cond.static yL_tryLogCar ∈ SWL := SWL_mem 800 (by decide +kernel) rfl
set_option maxRecDepth 100000 in
theorem w_801 : Cond.codeWith yL_tryLogCar cL_tryLogCar 3 (some .int) [(0, 5, 6, 13)] ∈ SWL := SWL_mem 801 (by rfl) rfl
theorem w_802 : Cond.methodLink RL 75 yX3_carOfSlide ∈ SWL := SWL_mem 802 (by decide +kernel) rfl
theorem w_808 : Cond.methodLink RL 150 yL_tryLogBy ∈ SWL := SWL_mem 808 (by decide +kernel) rfl
theorem w_809 : Cond.static yL_tryLogBy ∈ SWL := SWL_mem 809 (by decide +kernel) rfl
set_option maxRecDepth 100000 in
theorem w_810 : Cond.codeWith yL_tryLogBy cL_tryLogBy 3 (some .int) [(0, 5, 6, 13)] ∈ SWL := SWL_mem 810 (by rfl) rfl
theorem w_811 : Cond.methodLink RL 78 yX3_changeBySlide ∈ SWL := SWL_mem 811 (by decide +kernel) rfl
theorem w_815 : Cond.methodLink RL 153 yL_trySteps ∈ SWL := SWL_mem 815 (by decide +kernel) rfl
theorem w_816 : Cond.static yL_trySteps ∈ SWL := SWL_mem 816 (by decide +kernel) rfl
set_option maxRecDepth 100000 in
theorem w_817 : Cond.codeWith yL_trySteps cL_trySteps 3 (some .int) [(0, 5, 6, 13)] ∈ SWL := SWL_mem 817 (by rfl) rfl
theorem w_818 : Cond.methodLink RL 81 yX3_stepsOf ∈ SWL := SWL_mem 818 (by decide +kernel) rfl
theorem w_822 : Cond.methodLink RL 156 yL_tryNext ∈ SWL := SWL_mem 822 (by decide +kernel) rfl
theorem w_823 : Cond.static yL_tryNext ∈ SWL := SWL_mem 823 (by decide +kernel) rfl
set_option maxRecDepth 100000 in
theorem w_824 : Cond.codeWith yL_tryNext cL_tryNext 2 (some .int) [(0, 4, 5, 16)] ∈ SWL := SWL_mem 824 (by rfl) rfl
theorem w_825 : Cond.methodLink RL 84 yX3_nextCar ∈ SWL := SWL_mem 825 (by decide +kernel) rfl
theorem w_834 : Cond.methodLink RL 159 yL_tryChange ∈ SWL := SWL_mem 834 (by decide +kernel) rfl
theorem w_835 : Cond.static yL_tryChange ∈ SWL := SWL_mem 835 (by decide +kernel) rfl
set_option maxRecDepth 100000 in
theorem w_836 : Cond.codeWith yL_tryChange cL_tryChange 2 (some .int) [(0, 4, 5, 16)] ∈ SWL := SWL_mem 836 (by rfl) rfl
theorem w_837 : Cond.methodLink RL 87 yX3_nextChange ∈ SWL := SWL_mem 837 (by decide +kernel) rfl
theorem w_841 : Cond.methodLink RL 162 yL_tryBehind ∈ SWL := SWL_mem 841 (by decide +kernel) rfl
theorem w_842 : Cond.static yL_tryBehind ∈ SWL := SWL_mem 842 (by decide +kernel) rfl
set_option maxRecDepth 100000 in
theorem w_843 : Cond.codeWith yL_tryBehind cL_tryBehind 4 (some .int) [(0, 6, 7, 13), (0, 6, 11, 30), (0, 6, 15, 16)] ∈ SWL := SWL_mem 843 (by rfl) rfl
theorem w_844 : Cond.methodLink RL 90 yX3_fewestBehind ∈ SWL := SWL_mem 844 (by decide +kernel) rfl
theorem w_848 : Cond.methodLink RL 165 yL_tryWithout ∈ SWL := SWL_mem 848 (by decide +kernel) rfl
theorem w_849 : Cond.static yL_tryWithout ∈ SWL := SWL_mem 849 (by decide +kernel) rfl
set_option maxRecDepth 100000 in
theorem w_850 : Cond.codeWith yL_tryWithout cL_tryWithout 2 (some .int) [(0, 4, 5, 16)] ∈ SWL := SWL_mem 850 (by rfl) rfl
theorem w_851 : Cond.methodLink RL 93 yX3_fewestWithoutLast ∈ SWL := SWL_mem 851 (by decide +kernel) rfl
theorem w_856 : Cond.methodLink RL 168 yL_tryWithWall ∈ SWL := SWL_mem 856 (by decide +kernel) rfl
theorem w_857 : Cond.static yL_tryWithWall ∈ SWL := SWL_mem 857 (by decide +kernel) rfl
set_option maxRecDepth 100000 in
theorem w_858 : Cond.codeWith yL_tryWithWall cL_tryWithWall 3 (some .int) [(0, 5, 6, 13), (0, 5, 10, 16)] ∈ SWL := SWL_mem 858 (by rfl) rfl
theorem w_859 : Cond.methodLink RL 96 yX3_fewestWithWall ∈ SWL := SWL_mem 859 (by decide +kernel) rfl
theorem w_864 : Cond.methodLink RL 180 yL_wall ∈ SWL := SWL_mem 864 (by decide +kernel) rfl
theorem w_865 : Cond.static yL_wall ∈ SWL := SWL_mem 865 (by decide +kernel) rfl
set_option maxRecDepth 100000 in
theorem w_866 : Cond.codeWith yL_wall cL_wall 3 (some .int) [(0, 13, 14, 13), (0, 13, 18, 16)] ∈ SWL := SWL_mem 866 (by rfl) rfl
theorem w_867 : Cond.methodLink RL 7 yX3_toggleWall ∈ SWL := SWL_mem 867 (by decide +kernel) rfl
theorem w_871 : Cond.methodLink RL 183 yL_isWall ∈ SWL := SWL_mem 871 (by decide +kernel) rfl
theorem w_872 : Cond.static yL_isWall ∈ SWL := SWL_mem 872 (by decide +kernel) rfl
set_option maxRecDepth 100000 in
theorem w_873 : Cond.codeWith yL_isWall cL_isWall 3 (some .int) [(0, 13, 14, 13)] ∈ SWL := SWL_mem 873 (by rfl) rfl
theorem w_874 : Cond.methodLink RL 19 yX3_isWall ∈ SWL := SWL_mem 874 (by decide +kernel) rfl
theorem w_878 : Cond.methodLink RL 185 yL_room ∈ SWL := SWL_mem 878 (by decide +kernel) rfl
theorem w_879 : Cond.static yL_room ∈ SWL := SWL_mem 879 (by decide +kernel) rfl
set_option maxRecDepth 100000 in
theorem w_880 : Cond.codeWith yL_room cL_room 4 (some .int) [(0, 6, 7, 13)] ∈ SWL := SWL_mem 880 (by rfl) rfl
theorem w_881 : Cond.methodLink RL 22 yX3_room ∈ SWL := SWL_mem 881 (by decide +kernel) rfl
theorem w_885 : Cond.methodLink RL 188 yX3_logged ∈ SWL := SWL_mem 885 (by decide +kernel) rfl
theorem w_889 : Cond.methodLink RL 191 yX3_walls ∈ SWL := SWL_mem 889 (by decide +kernel) rfl
theorem w_890 : Cond.methodLink RL 194 yX3_isOut ∈ SWL := SWL_mem 890 (by decide +kernel) rfl
theorem w_892 : Cond.static yL_holds ∈ SWL := SWL_mem 892 (by decide +kernel) rfl
set_option maxRecDepth 100000 in
theorem w_893 : Cond.code yL_holds cL_holds 13 (some .boolean) ∈ SWL := SWL_mem 893 (by rfl) rfl
theorem w_894 : Cond.methodLink RL 198 yX3_freeCells ∈ SWL := SWL_mem 894 (by decide +kernel) rfl
theorem w_895 : Cond.methodLink RL 201 yX3_possibleSlides ∈ SWL := SWL_mem 895 (by decide +kernel) rfl
theorem w_896 : Cond.methodLink RL 204 yX3_fuel ∈ SWL := SWL_mem 896 (by decide +kernel) rfl
theorem w_900 : Cond.methodLink RL 207 yX3_fuelByCars ∈ SWL := SWL_mem 900 (by decide +kernel) rfl
theorem w_905 : Cond.static yL_plans ∈ SWL := SWL_mem 905 (by decide +kernel) rfl
set_option maxRecDepth 100000 in
theorem w_906 : Cond.code yL_plans cL_plans 6 (some .boolean) ∈ SWL := SWL_mem 906 (by rfl) rfl
theorem w_907 : Cond.methodLink RL 210 yX3_fewestSlides ∈ SWL := SWL_mem 907 (by decide +kernel) rfl
theorem w_911 : Cond.methodLink RL 213 yX3_fewestSteps ∈ SWL := SWL_mem 911 (by decide +kernel) rfl
theorem w_915 : Cond.methodLink RL 216 yX3_leastFuel ∈ SWL := SWL_mem 915 (by decide +kernel) rfl
theorem w_919 : Cond.methodLink RL 219 yX3_reachable ∈ SWL := SWL_mem 919 (by decide +kernel) rfl
theorem w_923 : Cond.methodLink RL 222 yX3_fewestSlidesFromEnds ∈ SWL := SWL_mem 923 (by decide +kernel) rfl
theorem w_927 : Cond.methodLink RL 225 yX3_leastFuelByRounds ∈ SWL := SWL_mem 927 (by decide +kernel) rfl
theorem w_931 : Cond.methodLink RL 228 yX3_reachableOut ∈ SWL := SWL_mem 931 (by decide +kernel) rfl
theorem w_935 : Cond.methodLink RL 231 yX3_arrangements ∈ SWL := SWL_mem 935 (by decide +kernel) rfl
theorem w_939 : Cond.methodLink RL 234 yX3_farthest ∈ SWL := SWL_mem 939 (by decide +kernel) rfl
theorem w_944 : Cond.static yL_act ∈ SWL := SWL_mem 944 (by decide +kernel) rfl
set_option maxRecDepth 100000 in
theorem w_945 : Cond.code yL_act cL_act 3 (some .int) ∈ SWL := SWL_mem 945 (by rfl) rfl
theorem w_946 : Cond.methodLink RL 237 yX3_rewind ∈ SWL := SWL_mem 946 (by decide +kernel) rfl
theorem w_950 : Cond.methodLink RL 240 yX3_keep ∈ SWL := SWL_mem 950 (by decide +kernel) rfl
theorem w_968 : Cond.static yL_thrown ∈ SWL := SWL_mem 968 (by decide +kernel) rfl
set_option maxRecDepth 100000 in
theorem w_969 : Cond.code yL_thrown cL_thrown 1 (some .boolean) ∈ SWL := SWL_mem 969 (by rfl) rfl
set_option maxRecDepth 20000 in
theorem ms_L_wall : MSH mi_L_wall 2 := ⟨rfl, w_866, w_19, ⟨by decide, by decide⟩, by decide +kernel, w_865⟩
set_option maxRecDepth 20000 in
theorem ms_L_isWall : MSH mi_L_isWall 2 := ⟨rfl, w_873, w_19, ⟨by decide, by decide⟩, by decide +kernel, w_872⟩
set_option maxRecDepth 20000 in
theorem ms_L_isWall_n : MSH mi_L_isWall_n 2 := ⟨rfl, w_873, w_19, ⟨by decide, by decide⟩, by decide +kernel, w_872⟩
set_option maxRecDepth 20000 in
theorem ms_L_room : MSH mi_L_room 3 := ⟨rfl, w_880, w_19, ⟨by decide, by decide⟩, by decide +kernel, w_879⟩
set_option maxRecDepth 20000 in
theorem ms_L_room_n : MSH mi_L_room_n 3 := ⟨rfl, w_880, w_19, ⟨by decide, by decide⟩, by decide +kernel, w_879⟩
set_option maxRecDepth 20000 in
theorem ms_L_tryAdd : MSH mi_L_tryAdd 4 := ⟨rfl, w_436, w_19, ⟨by decide, by decide⟩, by decide +kernel, w_435⟩
set_option maxRecDepth 20000 in
theorem ms_L_tryDrop : MSH mi_L_tryDrop 1 := ⟨rfl, w_578, w_19, ⟨by decide, by decide⟩, by decide +kernel, w_577⟩
set_option maxRecDepth 20000 in
theorem ms_L_trySlide : MSH mi_L_trySlide 3 := ⟨rfl, w_590, w_19, ⟨by decide, by decide⟩, by decide +kernel, w_589⟩
set_option maxRecDepth 20000 in
theorem ms_L_tryTake : MSH mi_L_tryTake 1 := ⟨rfl, w_607, w_19, ⟨by decide, by decide⟩, by decide +kernel, w_606⟩
set_option maxRecDepth 20000 in
theorem ms_L_tryDrive : MSH mi_L_tryDrive 1 := ⟨rfl, w_623, w_19, ⟨by decide, by decide⟩, by decide +kernel, w_622⟩
set_option maxRecDepth 20000 in
theorem ms_L_tryAppend : MSH mi_L_tryAppend 2 := ⟨rfl, w_649, w_19, ⟨by decide, by decide⟩, by decide +kernel, w_648⟩
set_option maxRecDepth 20000 in
theorem ms_L_tryWork : MSH mi_L_tryWork 1 := ⟨rfl, w_662, w_19, ⟨by decide, by decide⟩, by decide +kernel, w_661⟩
set_option maxRecDepth 20000 in
theorem ms_L_tryStop : MSH mi_L_tryStop 1 := ⟨rfl, w_745, w_19, ⟨by decide, by decide⟩, by decide +kernel, w_744⟩
set_option maxRecDepth 20000 in
theorem ms_L_tryUndo : MSH mi_L_tryUndo 1 := ⟨rfl, w_753, w_19, ⟨by decide, by decide⟩, by decide +kernel, w_752⟩
set_option maxRecDepth 20000 in
theorem ms_L_tryUndo_n : MSH mi_L_tryUndo_n 1 := ⟨rfl, w_753, w_19, ⟨by decide, by decide⟩, by decide +kernel, w_752⟩
set_option maxRecDepth 20000 in
theorem ms_L_tryBack : MSH mi_L_tryBack 1 := ⟨rfl, w_761, w_19, ⟨by decide, by decide⟩, by decide +kernel, w_760⟩
set_option maxRecDepth 20000 in
theorem ms_L_tryLane : MSH mi_L_tryLane 2 := ⟨rfl, w_769, w_19, ⟨by decide, by decide⟩, by decide +kernel, w_768⟩
set_option maxRecDepth 20000 in
theorem ms_L_tryLane_n : MSH mi_L_tryLane_n 2 := ⟨rfl, w_769, w_19, ⟨by decide, by decide⟩, by decide +kernel, w_768⟩
set_option maxRecDepth 20000 in
theorem ms_L_tryPlace : MSH mi_L_tryPlace 2 := ⟨rfl, w_778, w_19, ⟨by decide, by decide⟩, by decide +kernel, w_777⟩
set_option maxRecDepth 20000 in
theorem ms_L_tryPlace_n : MSH mi_L_tryPlace_n 2 := ⟨rfl, w_778, w_19, ⟨by decide, by decide⟩, by decide +kernel, w_777⟩
set_option maxRecDepth 20000 in
theorem ms_L_tryLength : MSH mi_L_tryLength 2 := ⟨rfl, w_785, w_19, ⟨by decide, by decide⟩, by decide +kernel, w_784⟩
set_option maxRecDepth 20000 in
theorem ms_L_tryLength_n : MSH mi_L_tryLength_n 2 := ⟨rfl, w_785, w_19, ⟨by decide, by decide⟩, by decide +kernel, w_784⟩
set_option maxRecDepth 20000 in
theorem ms_L_tryOn : MSH mi_L_tryOn 2 := ⟨rfl, w_792, w_19, ⟨by decide, by decide⟩, by decide +kernel, w_791⟩
set_option maxRecDepth 20000 in
theorem ms_L_tryOn_n : MSH mi_L_tryOn_n 2 := ⟨rfl, w_792, w_19, ⟨by decide, by decide⟩, by decide +kernel, w_791⟩
set_option maxRecDepth 20000 in
theorem ms_L_tryLogCar : MSH mi_L_tryLogCar 2 := ⟨rfl, w_801, w_19, ⟨by decide, by decide⟩, by decide +kernel, w_800⟩
set_option maxRecDepth 20000 in
theorem ms_L_tryLogCar_n : MSH mi_L_tryLogCar_n 2 := ⟨rfl, w_801, w_19, ⟨by decide, by decide⟩, by decide +kernel, w_800⟩
set_option maxRecDepth 20000 in
theorem ms_L_tryLogBy : MSH mi_L_tryLogBy 2 := ⟨rfl, w_810, w_19, ⟨by decide, by decide⟩, by decide +kernel, w_809⟩
set_option maxRecDepth 20000 in
theorem ms_L_tryLogBy_n : MSH mi_L_tryLogBy_n 2 := ⟨rfl, w_810, w_19, ⟨by decide, by decide⟩, by decide +kernel, w_809⟩
set_option maxRecDepth 20000 in
theorem ms_L_trySteps : MSH mi_L_trySteps 2 := ⟨rfl, w_817, w_19, ⟨by decide, by decide⟩, by decide +kernel, w_816⟩
set_option maxRecDepth 20000 in
theorem ms_L_trySteps_n : MSH mi_L_trySteps_n 2 := ⟨rfl, w_817, w_19, ⟨by decide, by decide⟩, by decide +kernel, w_816⟩
set_option maxRecDepth 20000 in
theorem ms_L_tryNext : MSH mi_L_tryNext 1 := ⟨rfl, w_824, w_19, ⟨by decide, by decide⟩, by decide +kernel, w_823⟩
set_option maxRecDepth 20000 in
theorem ms_L_tryChange : MSH mi_L_tryChange 1 := ⟨rfl, w_836, w_19, ⟨by decide, by decide⟩, by decide +kernel, w_835⟩
set_option maxRecDepth 20000 in
theorem ms_L_tryBehind : MSH mi_L_tryBehind 3 := ⟨rfl, w_843, w_19, ⟨by decide, by decide⟩, by decide +kernel, w_842⟩
set_option maxRecDepth 20000 in
theorem ms_L_tryWithout : MSH mi_L_tryWithout 1 := ⟨rfl, w_850, w_19, ⟨by decide, by decide⟩, by decide +kernel, w_849⟩
set_option maxRecDepth 20000 in
theorem ms_L_tryWithWall : MSH mi_L_tryWithWall 2 := ⟨rfl, w_858, w_19, ⟨by decide, by decide⟩, by decide +kernel, w_857⟩
set_option maxRecDepth 20000 in
theorem ms_L_call : MS mi_L_call 5 := ⟨rfl, w_433, w_19, ⟨by decide, by decide⟩, by decide +kernel, w_432⟩
set_option maxRecDepth 20000 in
theorem ms_L_call_n : MS mi_L_call_n 5 := ⟨rfl, w_433, w_19, ⟨by decide, by decide⟩, by decide +kernel, w_432⟩
set_option maxRecDepth 20000 in
theorem ms_L_thrown : MS mi_L_thrown 1 := ⟨rfl, w_969, w_19, ⟨by decide, by decide⟩, by decide +kernel, w_968⟩
set_option maxRecDepth 20000 in
theorem ms_L_refuses : MS mi_L_refuses 2 := ⟨rfl, w_426, w_19, ⟨by decide, by decide⟩, by decide +kernel, w_425⟩
set_option maxRecDepth 20000 in
theorem ms_L_holds : MS mi_L_holds 1 := ⟨rfl, w_893, w_19, ⟨by decide, by decide⟩, by decide +kernel, w_892⟩
set_option maxRecDepth 20000 in
theorem ms_L_plans : MS mi_L_plans 1 := ⟨rfl, w_906, w_19, ⟨by decide, by decide⟩, by decide +kernel, w_905⟩
set_option maxRecDepth 20000 in
theorem ms_L_act : MS mi_L_act 2 := ⟨rfl, w_945, w_19, ⟨by decide, by decide⟩, by decide +kernel, w_944⟩
theorem tsw_L_call_1 (x : Int32) (c0 : ¬ x = 0) (c1 : ¬ x = 1) (c2 : ¬ x = 2) (c3 : ¬ x = 3) (c4 : ¬ x = 4) (c5 : ¬ x = 5) (c6 : ¬ x = 6) (c7 : ¬ x = 7) (c8 : ¬ x = 8) (c9 : ¬ x = 9) (c10 : ¬ x = 10) (c11 : ¬ x = 11) (c12 : ¬ x = 12) (c13 : ¬ x = 13) (c14 : ¬ x = 14) (c15 : ¬ x = 15) (c16 : ¬ x = 16) (c17 : ¬ x = 17) (c18 : ¬ x = 18) (c19 : ¬ x = 19) (c20 : ¬ x = 20) : x.toInt < 0 ∨ 20 < x.toInt := tsw_gen x 21 (by decide) (lt_s (lt_s (lt_s (lt_s (lt_s (lt_s (lt_s (lt_s (lt_s (lt_s (lt_s (lt_s (lt_s (lt_s (lt_s (lt_s (lt_s (lt_s (lt_s (lt_s (lt_s lt_0 c0) c1) c2) c3) c4) c5) c6) c7) c8) c9) c10) c11) c12) c13) c14) c15) c16) c17) c18) c19) c20)
theorem tsw_L_act_9 (x : Int32) (c0 : ¬ x = 0) (c1 : ¬ x = 1) (c2 : ¬ x = 2) (c3 : ¬ x = 3) (c4 : ¬ x = 4) (c5 : ¬ x = 5) (c6 : ¬ x = 6) : x.toInt < 0 ∨ 6 < x.toInt := tsw_gen x 7 (by decide) (lt_s (lt_s (lt_s (lt_s (lt_s (lt_s (lt_s lt_0 c0) c1) c2) c3) c4) c5) c6)
def F_L_wall (a1 : Int32) (M : Wd) : Option (Int32 × Wd) := obindX (F_X3_toggleWall a1 M) (fun v1 M2 => if v1 = 0 then some ((0 : Int32), M2) else some ((1 : Int32), M2)) (fun x5 M2 => if x5 = 1 then some ((-9999001 : Int32), M2) else if x5 = 3 then some ((-9999003 : Int32), M2) else none)
def F_L_isWall (a1 : Int32) (M : Wd) : Option (Int32 × Wd) := obindX (F_X3_isWall a1 M) (fun v1 M2 => if v1 = 0 then some ((0 : Int32), M2) else some ((1 : Int32), M2)) (fun x5 M2 => if x5 = 1 then some ((-9999001 : Int32), M2) else none)
def F_L_isWall_n (a1 : Int32) (M : Wd) : Option Int32 := obind (F_X3_isWall_n a1 M) fun v1 => if v1 = 0 then some (0 : Int32) else some (1 : Int32)
def F_L_room (a1 : Int32) (a2 : Int32) (M : Wd) : Option (Int32 × Wd) := obindX (F_X3_room a1 a2 M) (fun v1 M2 => some (v1, M2)) (fun x5 M2 => if x5 = 1 then some ((-9999001 : Int32), M2) else none)
def F_L_room_n (a1 : Int32) (a2 : Int32) (M : Wd) : Option Int32 := obind (F_X3_room_n a1 a2 M) fun v1 => some v1
def F_L_tryAdd (a1 : Int32) (a2 : Int32) (a3 : Int32) (M : Wd) : Option (Int32 × Wd) := obindX (F_X3_addCar a1 a2 a3 M) (fun v1 M2 => some (v1, M2)) (fun x5 M2 => if x5 = 1 then some ((-9999001 : Int32), M2) else if x5 = 2 then some ((-9999002 : Int32), M2) else if x5 = 3 then some ((-9999003 : Int32), M2) else none)
def F_L_tryDrop (M : Wd) : Option (Int32 × Wd) := obindX (F_X3_dropLast M) (fun v1 M2 => some (v1, M2)) (fun x5 M2 => if x5 = 3 then some ((-9999003 : Int32), M2) else none)
def F_L_trySlide (a1 : Int32) (a2 : Int32) (M : Wd) : Option (Int32 × Wd) := obindX (F_X3_slide a1 a2 M) (fun v1 M2 => some (v1, M2)) (fun x5 M2 => if x5 = 1 then some ((-9999001 : Int32), M2) else if x5 = 2 then some ((-9999002 : Int32), M2) else if x5 = 3 then some ((-9999003 : Int32), M2) else none)
def F_L_tryTake (M : Wd) : Option (Int32 × Wd) := obindX (F_X3_takeBack M) (fun v1 M2 => some (v1, M2)) (fun x5 M2 => if x5 = 3 then some ((-9999003 : Int32), M2) else none)
def F_L_tryDrive (M : Wd) : Option (Int32 × Wd) := obindX (F_X3_driveOut M) (fun v1 M2 => some (v1, M2)) (fun x5 M2 => if x5 = 3 then some ((-9999003 : Int32), M2) else none)
def F_L_tryAppend (a1 : Int32) (M : Wd) : Option (Int32 × Wd) := obindX (F_X3_append a1 M) (fun v1 M2 => some (v1, M2)) (fun x5 M2 => if x5 = 2 then some ((-9999002 : Int32), M2) else if x5 = 3 then some ((-9999003 : Int32), M2) else none)
def F_L_tryWork (M : Wd) : Option (Int32 × Wd) := obindX (F_X3_work M) (fun v1 M2 => some (v1, M2)) (fun x5 M2 => if x5 = 2 then some ((-9999002 : Int32), M2) else none)
def F_L_tryStop (M : Wd) : Option (Int32 × Wd) := obindX (F_X3_stoppedPart M) (fun v1 M2 => some (v1, M2)) (fun x5 M2 => if x5 = 3 then some ((-9999003 : Int32), M2) else none)
def F_L_tryUndo (M : Wd) : Option (Int32 × Wd) := obindX (F_X3_undo M) (fun v1 M2 => some (v1, M2)) (fun x5 M2 => if x5 = 3 then some ((-9999003 : Int32), M2) else none)
def F_L_tryUndo_n (M : Wd) : Option (Int32 × Wd) := obind2 (F_X3_undo_n M) fun v1 M2 => some (v1, M2)
def F_L_tryBack (M : Wd) : Option (Int32 × Wd) := obindX (F_X3_restore M) (fun v1 M2 => some (v1, M2)) (fun x5 M2 => if x5 = 3 then some ((-9999003 : Int32), M2) else none)
def F_L_tryLane (a1 : Int32) (M : Wd) : Option (Int32 × Wd) := obindX (F_X3_laneOf a1 M) (fun v1 M2 => some (v1, M2)) (fun x5 M2 => if x5 = 1 then some ((-9999001 : Int32), M2) else none)
def F_L_tryLane_n (a1 : Int32) (M : Wd) : Option Int32 := obind (F_X3_laneOf_n a1 M) fun v1 => some v1
def F_L_tryPlace (a1 : Int32) (M : Wd) : Option (Int32 × Wd) := obindX (F_X3_placeOf a1 M) (fun v1 M2 => some (v1, M2)) (fun x5 M2 => if x5 = 1 then some ((-9999001 : Int32), M2) else none)
def F_L_tryPlace_n (a1 : Int32) (M : Wd) : Option Int32 := obind (F_X3_placeOf_n a1 M) fun v1 => some v1
def F_L_tryLength (a1 : Int32) (M : Wd) : Option (Int32 × Wd) := obindX (F_X3_lengthOf a1 M) (fun v1 M2 => some (v1, M2)) (fun x5 M2 => if x5 = 1 then some ((-9999001 : Int32), M2) else none)
def F_L_tryLength_n (a1 : Int32) (M : Wd) : Option Int32 := obind (F_X3_lengthOf_n a1 M) fun v1 => some v1
def F_L_tryOn (a1 : Int32) (M : Wd) : Option (Int32 × Wd) := obindX (F_X3_carOn a1 M) (fun v1 M2 => some (v1, M2)) (fun x5 M2 => if x5 = 1 then some ((-9999001 : Int32), M2) else none)
def F_L_tryOn_n (a1 : Int32) (M : Wd) : Option Int32 := obind (F_X3_carOn_n a1 M) fun v1 => some v1
def F_L_tryLogCar (a1 : Int32) (M : Wd) : Option (Int32 × Wd) := obindX (F_X3_carOfSlide a1 M) (fun v1 M2 => some (v1, M2)) (fun x5 M2 => if x5 = 1 then some ((-9999001 : Int32), M2) else none)
def F_L_tryLogCar_n (a1 : Int32) (M : Wd) : Option Int32 := obind (F_X3_carOfSlide_n a1 M) fun v1 => some v1
def F_L_tryLogBy (a1 : Int32) (M : Wd) : Option (Int32 × Wd) := obindX (F_X3_changeBySlide a1 M) (fun v1 M2 => some (v1, M2)) (fun x5 M2 => if x5 = 1 then some ((-9999001 : Int32), M2) else none)
def F_L_tryLogBy_n (a1 : Int32) (M : Wd) : Option Int32 := obind (F_X3_changeBySlide_n a1 M) fun v1 => some v1
def F_L_trySteps (a1 : Int32) (M : Wd) : Option (Int32 × Wd) := obindX (F_X3_stepsOf a1 M) (fun v1 M2 => some (v1, M2)) (fun x5 M2 => if x5 = 1 then some ((-9999001 : Int32), M2) else none)
def F_L_trySteps_n (a1 : Int32) (M : Wd) : Option Int32 := obind (F_X3_stepsOf_n a1 M) fun v1 => some v1
def F_L_tryNext (M : Wd) : Option (Int32 × Wd) := obindX (F_X3_nextCar M) (fun v1 M2 => some (v1, M2)) (fun x5 M2 => if x5 = 3 then some ((-9999003 : Int32), M2) else none)
def F_L_tryChange (M : Wd) : Option (Int32 × Wd) := obindX (F_X3_nextChange M) (fun v1 M2 => some (v1, M2)) (fun x5 M2 => if x5 = 3 then some ((-9999003 : Int32), M2) else none)
def F_L_tryBehind (a1 : Int32) (a2 : Int32) (M : Wd) : Option (Int32 × Wd) := obindX (F_X3_fewestBehind a1 a2 M) (fun v1 M2 => some (v1, M2)) (fun x5 M2 => if x5 = 1 then some ((-9999001 : Int32), M2) else if x5 = 2 then some ((-9999002 : Int32), M2) else if x5 = 3 then some ((-9999003 : Int32), M2) else none)
def F_L_tryWithout (M : Wd) : Option (Int32 × Wd) := obindX (F_X3_fewestWithoutLast M) (fun v1 M2 => some (v1, M2)) (fun x5 M2 => if x5 = 3 then some ((-9999003 : Int32), M2) else none)
def F_L_tryWithWall (a1 : Int32) (M : Wd) : Option (Int32 × Wd) := obindX (F_X3_fewestWithWall a1 M) (fun v1 M2 => some (v1, M2)) (fun x5 M2 => if x5 = 1 then some ((-9999001 : Int32), M2) else if x5 = 3 then some ((-9999003 : Int32), M2) else none)
def F_L_call (a1 : Int32) (a2 : Int32) (a3 : Int32) (a4 : Int32) (M : Wd) : Option (Int32 × Wd) := if a1 = 0 then obind2 (F_L_tryAdd a2 a3 a4 M) fun v1 M2 => some (v1, M2) else if a1 = 1 then obind2 (F_L_tryDrop M) fun v5 M6 => some (v5, M6) else if a1 = 2 then obind2 (F_L_trySlide a2 a3 M) fun v9 M10 => some (v9, M10) else if a1 = 3 then obind2 (F_L_tryTake M) fun v13 M14 => some (v13, M14) else if a1 = 4 then obind2 (F_L_tryDrive M) fun v17 M18 => some (v17, M18) else if a1 = 5 then obind2 (F_L_tryAppend a2 M) fun v21 M22 => some (v21, M22) else if a1 = 6 then obind2 (F_L_tryWork M) fun v25 M26 => some (v25, M26) else if a1 = 7 then obind2 (F_L_tryStop M) fun v29 M30 => some (v29, M30) else if a1 = 8 then obind2 (F_L_tryUndo M) fun v33 M34 => some (v33, M34) else if a1 = 9 then obind2 (F_L_tryBack M) fun v37 M38 => some (v37, M38) else if a1 = 10 then obind2 (F_L_tryLane a2 M) fun v41 M42 => some (v41, M42) else if a1 = 11 then obind2 (F_L_tryPlace a2 M) fun v45 M46 => some (v45, M46) else if a1 = 12 then obind2 (F_L_tryLength a2 M) fun v49 M50 => some (v49, M50) else if a1 = 13 then obind2 (F_L_tryOn a2 M) fun v53 M54 => some (v53, M54) else if a1 = 14 then obind2 (F_L_tryLogCar a2 M) fun v57 M58 => some (v57, M58) else if a1 = 15 then obind2 (F_L_tryLogBy a2 M) fun v61 M62 => some (v61, M62) else if a1 = 16 then obind2 (F_L_trySteps a2 M) fun v65 M66 => some (v65, M66) else if a1 = 17 then obind2 (F_L_tryNext M) fun v69 M70 => some (v69, M70) else if a1 = 18 then obind2 (F_L_tryChange M) fun v73 M74 => some (v73, M74) else if a1 = 19 then obind2 (F_L_tryBehind a2 a3 M) fun v77 M78 => some (v77, M78) else if a1 = 20 then obind2 (F_L_tryWithout M) fun v81 M82 => some (v81, M82) else obind2 (F_L_tryWithWall a2 M) fun v85 M86 => some (v85, M86)
def F_L_call_n (a1 : Int32) (a2 : Int32) (a3 : Int32) (a4 : Int32) (M : Wd) : Option (Int32 × Wd) := if a1 = 0 then none else if a1 = 1 then none else if a1 = 2 then none else if a1 = 3 then none else if a1 = 4 then none else if a1 = 5 then none else if a1 = 6 then none else if a1 = 7 then none else if a1 = 8 then obind2 (F_L_tryUndo_n M) fun v1 M2 => some (v1, M2) else if a1 = 9 then none else if a1 = 10 then obind (F_L_tryLane_n a2 M) fun v5 => some (v5, M) else if a1 = 11 then obind (F_L_tryPlace_n a2 M) fun v8 => some (v8, M) else if a1 = 12 then obind (F_L_tryLength_n a2 M) fun v11 => some (v11, M) else if a1 = 13 then obind (F_L_tryOn_n a2 M) fun v14 => some (v14, M) else if a1 = 14 then obind (F_L_tryLogCar_n a2 M) fun v17 => some (v17, M) else if a1 = 15 then obind (F_L_tryLogBy_n a2 M) fun v20 => some (v20, M) else if a1 = 16 then obind (F_L_trySteps_n a2 M) fun v23 => some (v23, M) else if a1 = 17 then none else if a1 = 18 then none else if a1 = 19 then none else if a1 = 20 then none else none
def F_L_thrown (a0 : Int32) : Int32 := if a0 = (-9999001 : Int32) then (1 : Int32) else if a0 = (-9999002 : Int32) then (1 : Int32) else if a0 = (-9999003 : Int32) then (1 : Int32) else (0 : Int32)
def F_L_refuses (a1 : Int32) (M : Wd) : Option (Int32 × Wd) := bnd (if (a1 - a1 / (2 : Int32) * (2 : Int32)) = 0 then ((-1 : Int32) - (a1 - a1 / (99 : Int32) * (99 : Int32))) else ((F_X3_cars M) + (a1 - a1 / (9 : Int32) * (9 : Int32)))) fun v1 => bnd (if (a1 - a1 / (2 : Int32) * (2 : Int32)) = 0 then ((-1 : Int32) - (a1 - a1 / (99 : Int32) * (99 : Int32))) else ((25 : Int32) + (a1 - a1 / (99 : Int32) * (99 : Int32)))) fun v5 => bnd (a1 - a1 / (10 : Int32) * (10 : Int32)) fun v8 => bnd (if (a1 - a1 / (2 : Int32) * (2 : Int32)) = 0 then ((-1 : Int32) - (a1 - a1 / (9 : Int32) * (9 : Int32))) else ((10 : Int32) + (a1 - a1 / (9 : Int32) * (9 : Int32)))) fun v10 => obind2 (F_L_call (0 : Int32) v10 (9 : Int32) (9 : Int32) M) fun v13 M14 => obind2 (if v13 = (-9999001 : Int32) then bnd (if (a1 - a1 / (2 : Int32) * (2 : Int32)) = 0 then (1 : Int32) else (4 : Int32)) fun v20 => obind2 (F_L_call (0 : Int32) v8 (0 : Int32) v20 M14) fun v23 M24 => if v23 = (-9999002 : Int32) then obind2 (F_L_call (0 : Int32) v8 ((-1 : Int32) - (a1 - a1 / (9 : Int32) * (9 : Int32))) (2 : Int32) M24) fun v28 M29 => if v28 = (-9999002 : Int32) then obind2 (F_L_call (0 : Int32) v8 ((3 : Int32) + (a1 - a1 / (9 : Int32) * (9 : Int32))) (3 : Int32) M29) fun v33 M34 => if v33 = (-9999002 : Int32) then obind2 (F_L_wall v5 M34) fun v38 M39 => if v38 = (-9999001 : Int32) then obind2 (F_L_call (2 : Int32) v1 (0 : Int32) (0 : Int32) M39) fun v43 M44 => if v43 = (-9999001 : Int32) then obind2 (F_L_call (6 : Int32) (0 : Int32) (0 : Int32) (0 : Int32) M44) fun v48 M49 => if v48 = (-9999002 : Int32) then obind2 (F_L_call (7 : Int32) (0 : Int32) (0 : Int32) (0 : Int32) M49) fun v53 M54 => if v53 = (-9999003 : Int32) then bnd (if (a1 - a1 / (2 : Int32) * (2 : Int32)) = 0 then (32 : Int32) else (127 : Int32)) fun v58 => obind2 (F_L_call (5 : Int32) v58 (0 : Int32) (0 : Int32) M54) fun v61 M62 => if v61 = (-9999002 : Int32) then obind2 (F_L_call (10 : Int32) v1 (0 : Int32) (0 : Int32) M62) fun v66 M67 => if v66 = (-9999001 : Int32) then obind2 (F_L_call (11 : Int32) v1 (0 : Int32) (0 : Int32) M67) fun v71 M72 => if v71 = (-9999001 : Int32) then obind2 (F_L_call (12 : Int32) v1 (0 : Int32) (0 : Int32) M72) fun v76 M77 => if v76 = (-9999001 : Int32) then obind2 (F_L_call (13 : Int32) v5 (0 : Int32) (0 : Int32) M77) fun v81 M82 => if v81 = (-9999001 : Int32) then obind2 (F_L_isWall v5 M82) fun v86 M87 => if v86 = (-9999001 : Int32) then bnd (if (a1 - a1 / (2 : Int32) * (2 : Int32)) = 0 then (1 : Int32) else (0 : Int32)) fun v91 => obind2 (F_L_room v1 v91 M87) fun v95 M96 => if v95 = (-9999001 : Int32) then bnd (if (a1 - a1 / (2 : Int32) * (2 : Int32)) = 0 then (-1 : Int32) else (F_X3_logged M96)) fun v100 => obind2 (F_L_call (14 : Int32) v100 (0 : Int32) (0 : Int32) M96) fun v104 M105 => if v104 = (-9999001 : Int32) then obind2 (F_L_call (15 : Int32) ((F_X3_logged M105) + (a1 - a1 / (9 : Int32) * (9 : Int32))) (0 : Int32) (0 : Int32) M105) fun v110 M111 => if v110 = (-9999001 : Int32) then obind2 (F_L_call (16 : Int32) v1 (0 : Int32) (0 : Int32) M111) fun v115 M116 => if v115 = (-9999001 : Int32) then obind2 (F_L_call (19 : Int32) v1 (0 : Int32) (0 : Int32) M116) fun v120 M121 => if v120 = (-9999001 : Int32) then obind2 (F_L_call (21 : Int32) v5 (0 : Int32) (0 : Int32) M121) fun v125 M126 => if v125 = (-9999001 : Int32) then some ((1 : Int32), M126) else some ((0 : Int32), M126) else some ((0 : Int32), M121) else some ((0 : Int32), M116) else some ((0 : Int32), M111) else some ((0 : Int32), M105) else some ((0 : Int32), M96) else some ((0 : Int32), M87) else some ((0 : Int32), M82) else some ((0 : Int32), M77) else some ((0 : Int32), M72) else some ((0 : Int32), M67) else some ((0 : Int32), M62) else some ((0 : Int32), M54) else some ((0 : Int32), M49) else some ((0 : Int32), M44) else some ((0 : Int32), M39) else some ((0 : Int32), M34) else some ((0 : Int32), M29) else some ((0 : Int32), M24) else some ((0 : Int32), M14)) fun v17 M18 => bnd (a1 - a1 / (25 : Int32) * (25 : Int32)) fun v131 => obind2 (F_L_call (13 : Int32) v131 (0 : Int32) (0 : Int32) M18) fun v133 M134 => bnd (if v133 = (-1 : Int32) then (0 : Int32) else (1 : Int32)) fun v137 => obind2 (if v17 = 0 then some ((0 : Int32), M134) else bnd (fun M145 : Wd => obind2 (F_L_isWall v131 M145) fun v146 M147 => bnd (fun M151 : Wd => bnd (fun M154 : Wd => bnd (fun M157 : Wd => bnd (fun M160 : Wd => bnd (fun M163 : Wd => bnd (fun M166 : Wd => obind2 (F_L_call (17 : Int32) (0 : Int32) (0 : Int32) (0 : Int32) M166) fun v167 M168 => if v167 = (-9999003 : Int32) then obind2 (F_L_call (18 : Int32) (0 : Int32) (0 : Int32) (0 : Int32) M168) fun v172 M173 => if v172 = (-9999003 : Int32) then some ((1 : Int32), M173) else some ((0 : Int32), M173) else some ((0 : Int32), M168)) fun K165 => if (F_X3_cars M163) ≤ 0 then K165 M163 else if (F_X3_isOut M163) = 0 then some ((1 : Int32), M163) else K165 M163) fun K162 => if 0 < (F_X3_cars M160) then K162 M160 else obind2 (F_L_call (1 : Int32) (0 : Int32) (0 : Int32) (0 : Int32) M160) fun v181 M182 => if v181 = (-9999003 : Int32) then obind2 (F_L_call (4 : Int32) (0 : Int32) (0 : Int32) (0 : Int32) M182) fun v186 M187 => if v186 = (-9999003 : Int32) then obind2 (F_L_call (0 : Int32) ((5 : Int32) + (a1 - a1 / (5 : Int32) * (5 : Int32))) (0 : Int32) (2 : Int32) M187) fun v191 M192 => if v191 = (-9999003 : Int32) then K162 M192 else some ((0 : Int32), M192) else some ((0 : Int32), M187) else some ((0 : Int32), M182)) fun K159 => if (1 : Int32) < (F_X3_cars M157) then K159 M157 else obind2 (F_L_call (20 : Int32) (0 : Int32) (0 : Int32) (0 : Int32) M157) fun v197 M198 => if v197 = (-9999003 : Int32) then K159 M198 else some ((0 : Int32), M198)) fun K156 => if 0 < (F_X3_logged M154) then K156 M154 else obind2 (F_L_call (3 : Int32) (0 : Int32) (0 : Int32) (0 : Int32) M154) fun v203 M204 => if v203 = (-9999003 : Int32) then K156 M204 else some ((0 : Int32), M204)) fun K153 => if (F_X3_walls M151) < (4 : Int32) then K153 M151 else if v137 = 0 then obind2 (F_L_isWall v131 M151) fun v210 M211 => if v210 = (1 : Int32) then K153 M211 else obind2 (F_L_wall v131 M211) fun v215 M216 => if v215 = (-9999003 : Int32) then K153 M216 else some ((0 : Int32), M216) else K153 M151) fun K150 => if v146 = 0 then K150 M147 else obind2 (F_L_call (21 : Int32) v131 (0 : Int32) (0 : Int32) M147) fun v221 M222 => if v221 = (-9999003 : Int32) then K150 M222 else some ((0 : Int32), M222)) fun K144 => if v137 = 0 then K144 M134 else obind2 (F_L_wall v131 M134) fun v227 M228 => if v227 = (-9999003 : Int32) then obind2 (F_L_call (21 : Int32) v131 (0 : Int32) (0 : Int32) M228) fun v232 M233 => if v232 = (-9999003 : Int32) then K144 M233 else some ((0 : Int32), M233) else some ((0 : Int32), M228)) fun v141 M142 => bnd (fun M240 : Wd => chB v141 <| some (v141, M240)) fun K239 => if (F_X3_cars M142) = 0 then K239 M142 else if v141 = 0 then K239 M142 else grd (¬ (F_X3_cars M142) = 0) <| bnd ((a1 / (8 : Int32)) - (a1 / (8 : Int32)) / (F_X3_cars M142) * (F_X3_cars M142)) fun v246 => bnd ((1 : Int32) + (a1 - a1 / (3 : Int32) * (3 : Int32))) fun v248 => obind2 (F_L_call (2 : Int32) v246 (0 : Int32) (0 : Int32) M142) fun v250 M251 => if v250 = (-9999002 : Int32) then obind2 (F_L_call (2 : Int32) v246 ((4 : Int32) + (a1 - a1 / (9 : Int32) * (9 : Int32))) (0 : Int32) M251) fun v255 M256 => if v255 = (-9999002 : Int32) then obind2 (F_L_call (19 : Int32) v246 (-4 : Int32) (0 : Int32) M256) fun v260 M261 => if v260 = (-9999002 : Int32) then obind2 (F_L_room v246 (1 : Int32) M261) fun v265 M266 => bnd (fun M270 : Wd => obind2 (F_L_room v246 (0 : Int32) M270) fun v271 M272 => bnd (fun M276 : Wd => bnd (fun M279 : Wd => obind2 (F_L_call (10 : Int32) v246 (0 : Int32) (0 : Int32) M279) fun v280 M281 => obind2 (F_L_call (11 : Int32) v246 (0 : Int32) (0 : Int32) M281) fun v284 M285 => obind2 (F_L_call (0 : Int32) v280 v284 (2 : Int32) M285) fun v288 M289 => if v288 = (-9999003 : Int32) then some ((1 : Int32), M289) else some ((0 : Int32), M289)) fun K278 => if (F_X3_cars M276) < (6 : Int32) then K278 M276 else obind2 (F_L_call (0 : Int32) v8 (0 : Int32) (2 : Int32) M276) fun v294 M295 => if v294 = (-9999003 : Int32) then K278 M295 else some ((0 : Int32), M295)) fun K275 => if v248 ≤ v271 then K275 M272 else obind2 (F_L_call (2 : Int32) v246 (-v248) (0 : Int32) M272) fun v300 M301 => if v300 = (-9999003 : Int32) then K275 M301 else some ((0 : Int32), M301)) fun K269 => if v248 ≤ v265 then K269 M266 else obind2 (F_L_call (2 : Int32) v246 v248 (0 : Int32) M266) fun v306 M307 => if v306 = (-9999003 : Int32) then obind2 (F_L_call (19 : Int32) v246 v248 (0 : Int32) M307) fun v311 M312 => if v311 = (-9999003 : Int32) then K269 M312 else some ((0 : Int32), M312) else some ((0 : Int32), M307) else some ((0 : Int32), M261) else some ((0 : Int32), M256) else some ((0 : Int32), M251)
def F_L_holds_L98 {ρ : Type} (a1 : Int32) (a2 : Int32) (a3 : Int32) (a4 : Int32) (a5 : Int32) (a6 : Int32) (a7 : Int32) (a8 : Int32) (a9 : Int32) (K162 : Int32 → Wd → Option ρ) : Nat → Int32 → Int32 → Wd → Option ρ
  | 0, _, _, _ => none
  | m + 1, x10, x11, M => if (F_X3_logged M) ≤ x11 then K162 x10 M else obind2 (F_L_call_n (15 : Int32) x11 (0 : Int32) (0 : Int32) M) fun v28 M29 => obind2 (F_L_call_n (14 : Int32) x11 (0 : Int32) (0 : Int32) M29) fun v32 M33 => bnd (if v32 = a6 then if 0 ≤ v28 then v28 else (-v28) else (0 : Int32)) fun v36 => bnd (x10 + v36) fun v40 => bnd (x11 + (1 : Int32)) fun v42 => F_L_holds_L98 a1 a2 a3 a4 a5 a6 a7 a8 a9 K162 m v40 v42 M33
def F_L_holds_L165 {ρ : Type} (a1 : Int32) (a2 : Int32) (a3 : Int32) (a4 : Int32) (a6 : Int32) (a7 : Int32) (a8 : Int32) (a9 : Int32) (a10 : Int32) (K234 : Int32 → Wd → Option ρ) : Nat → Int32 → Int32 → Wd → Option ρ
  | 0, _, _, _ => none
  | m + 1, x5, x11, M => if a9 ≤ x11 then K234 x5 M else if x5 = 0 then K234 x5 M else bnd (if (5 : Int32) ≤ a7 then ((((5 : Int32) * (a8 + x11)) + a7) - (5 : Int32)) else ((((5 : Int32) * a7) + a8) + x11)) fun v48 => obind2 (F_L_call_n (13 : Int32) v48 (0 : Int32) (0 : Int32) M) fun v51 M52 => bnd (if v51 = a6 then (1 : Int32) else (0 : Int32)) fun v55 => bnd (x11 + (1 : Int32)) fun v59 => F_L_holds_L165 a1 a2 a3 a4 a6 a7 a8 a9 a10 K234 m v55 v59 M52
def F_L_holds_L45 {ρ : Type} (a1 : Int32) (K354 : Int32 → Int32 → Int32 → Int32 → Wd → Option ρ) : Nat → Int32 → Int32 → Int32 → Int32 → Int32 → Wd → Option ρ
  | 0, _, _, _, _, _, _ => none
  | m + 1, x2, x3, x4, x5, x6, M => if a1 ≤ x6 then K354 x2 x3 x4 x5 M else if x5 = 0 then K354 x2 x3 x4 x5 M else obind2 (F_L_call_n (10 : Int32) x6 (0 : Int32) (0 : Int32) M) fun v14 M15 => obind2 (F_L_call_n (11 : Int32) x6 (0 : Int32) (0 : Int32) M15) fun v18 M19 => obind2 (F_L_call_n (12 : Int32) x6 (0 : Int32) (0 : Int32) M19) fun v22 M23 => F_L_holds_L98 a1 x2 x3 x4 x5 x6 v14 v18 v22 (fun v44 M45 => F_L_holds_L165 a1 x2 x3 x4 x6 v14 v18 v22 v44 (fun v61 M62 => bnd (x2 + v22) fun v63 => bnd (x4 + (v44 * v22)) fun v65 => obind (F_L_room_n x6 (1 : Int32) M62) fun v67 => obind (F_L_room_n x6 (0 : Int32) M62) fun v70 => bnd (x3 + (v67 + v70)) fun v73 => obind2 (if v61 = 0 then some ((0 : Int32), M62) else if v18 < 0 then some ((0 : Int32), M62) else if (5 : Int32) < (v18 + v22) then some ((0 : Int32), M62) else if 0 < x6 then obind2 (F_L_call_n (16 : Int32) x6 (0 : Int32) (0 : Int32) M62) fun v81 M82 => if v44 = v81 then obind (F_L_room_n x6 (1 : Int32) M82) fun v86 => if (((5 : Int32) - v22) - v18) < v86 then some ((0 : Int32), M82) else obind (F_L_room_n x6 (0 : Int32) M82) fun v90 => if v18 < v90 then some ((0 : Int32), M82) else some ((1 : Int32), M82) else some ((0 : Int32), M82) else if (5 : Int32) ≤ v14 then some ((0 : Int32), M62) else obind2 (F_L_call_n (16 : Int32) x6 (0 : Int32) (0 : Int32) M62) fun v95 M96 => if v44 = v95 then obind (F_L_room_n x6 (1 : Int32) M96) fun v100 => if (((5 : Int32) - v22) - v18) < v100 then some ((0 : Int32), M96) else obind (F_L_room_n x6 (0 : Int32) M96) fun v104 => if v18 < v104 then some ((0 : Int32), M96) else some ((1 : Int32), M96) else some ((0 : Int32), M96)) fun v75 M76 => bnd (x6 + (1 : Int32)) fun v109 => F_L_holds_L45 a1 K354 m v63 v73 v65 v75 v109 M76) fuelN x5 (0 : Int32) M45) fuelN (0 : Int32) (0 : Int32) M23
def F_L_holds (M : Wd) : Option (Int32 × Wd) := bnd (F_X3_cars M) fun v2 => bnd (if (6 : Int32) < v2 then (0 : Int32) else if (4 : Int32) < (F_X3_walls M) then (0 : Int32) else if (60 : Int32) < (F_X3_logged M) then (0 : Int32) else (1 : Int32)) fun v4 => F_L_holds_L45 v2 (fun v111 v112 v113 v114 M115 => if v114 = 0 then some ((0 : Int32), M115) else obind (F_X3_freeCells M115) fun v117 => if v117 = (((25 : Int32) - v111) - (F_X3_walls M115)) then obind (F_X3_possibleSlides M115) fun v122 => if v122 = v112 then obind (F_X3_fuel M115) fun v126 => if v126 = v113 then obind (F_X3_fuelByCars M115) fun v130 => if v130 = v113 then some ((1 : Int32), M115) else some ((0 : Int32), M115) else some ((0 : Int32), M115) else some ((0 : Int32), M115) else some ((0 : Int32), M115)) fuelN (0 : Int32) (0 : Int32) (0 : Int32) v4 (0 : Int32) M
def F_L_plans (M : Wd) : Option (Int32 × Wd) := obind2 (F_X3_fewestSlides M) fun v1 M2 => obind2 (F_X3_fewestSteps M2) fun v5 M6 => obind2 (F_X3_leastFuel M6) fun v9 M10 => obind2 (F_X3_reachable M10) fun v13 M14 => obind2 (F_X3_fewestSlidesFromEnds M14) fun v17 M18 => obind2 (if v1 = v17 then obind2 (F_X3_leastFuelByRounds M18) fun v24 M25 => if v9 = v24 then bnd (if 0 ≤ v1 then (0 : Int32) else (1 : Int32)) fun v29 => bnd (if 0 ≤ v5 then (0 : Int32) else (1 : Int32)) fun v33 => if v29 = v33 then bnd (if 0 ≤ v1 then (0 : Int32) else (1 : Int32)) fun v38 => bnd (if 0 ≤ v9 then (0 : Int32) else (1 : Int32)) fun v42 => if v38 = v42 then obind2 (F_X3_reachableOut M25) fun v47 M48 => bnd (if v47 = 0 then (1 : Int32) else (0 : Int32)) fun v51 => bnd (if 0 ≤ v1 then (0 : Int32) else (1 : Int32)) fun v55 => if v51 = v55 then if v13 < (1 : Int32) then some ((0 : Int32), M48) else obind2 (F_X3_arrangements M48) fun v61 M62 => if v61 < v13 then some ((0 : Int32), M62) else obind2 (F_X3_farthest M62) fun v66 M67 => if v13 ≤ v66 then some ((0 : Int32), M67) else obind (F_X3_possibleSlides M67) fun v71 => if v13 ≤ v71 then some ((0 : Int32), M67) else some ((1 : Int32), M67) else some ((0 : Int32), M48) else some ((0 : Int32), M25) else some ((0 : Int32), M25) else some ((0 : Int32), M25) else some ((0 : Int32), M18)) fun v21 M22 => if v21 = 0 then some ((0 : Int32), M22) else if v1 < 0 then some ((1 : Int32), M22) else if v5 < v1 then some ((0 : Int32), M22) else if ((3 : Int32) * v1) < v5 then some ((0 : Int32), M22) else if v9 < ((2 : Int32) * v5) then some ((0 : Int32), M22) else if ((3 : Int32) * v5) < v9 then some ((0 : Int32), M22) else obind2 (F_X3_farthest M22) fun v82 M83 => if v82 < v1 then some ((0 : Int32), M83) else bnd (if v1 = 0 then (1 : Int32) else (0 : Int32)) fun v87 => if v87 = (F_X3_isOut M83) then some ((1 : Int32), M83) else some ((0 : Int32), M83)
def F_L_act (a1 : Int32) (M : Wd) : Option (Int32 × Wd) := bnd (a1 / (16 : Int32)) fun v1 => bnd (a1 - a1 / (16 : Int32) * (16 : Int32)) fun v3 => if v3 = 0 then bnd (if (F_X3_cars M) = 0 then (v1 - v1 / (5 : Int32) * (5 : Int32)) else (v1 - v1 / (10 : Int32) * (10 : Int32))) fun v6 => obind2 (F_L_call (0 : Int32) v6 ((v1 / (20 : Int32)) - (v1 / (20 : Int32)) / (4 : Int32) * (4 : Int32)) ((2 : Int32) + ((v1 / (10 : Int32)) - (v1 / (10 : Int32)) / (2 : Int32) * (2 : Int32))) M) fun v9 M10 => some (v9, M10) else if v3 = 1 then bnd (if (F_X3_cars M) = 0 then (v1 - v1 / (5 : Int32) * (5 : Int32)) else (v1 - v1 / (10 : Int32) * (10 : Int32))) fun v14 => obind2 (F_L_call (0 : Int32) v14 ((v1 / (20 : Int32)) - (v1 / (20 : Int32)) / (4 : Int32) * (4 : Int32)) ((2 : Int32) + ((v1 / (10 : Int32)) - (v1 / (10 : Int32)) / (2 : Int32) * (2 : Int32))) M) fun v17 M18 => some (v17, M18) else if v3 = 2 then bnd (if (F_X3_cars M) = 0 then (v1 - v1 / (5 : Int32) * (5 : Int32)) else (v1 - v1 / (10 : Int32) * (10 : Int32))) fun v22 => obind2 (F_L_call (0 : Int32) v22 ((v1 / (20 : Int32)) - (v1 / (20 : Int32)) / (4 : Int32) * (4 : Int32)) ((2 : Int32) + ((v1 / (10 : Int32)) - (v1 / (10 : Int32)) / (2 : Int32) * (2 : Int32))) M) fun v25 M26 => some (v25, M26) else if v3 = 3 then if (v1 - v1 / (3 : Int32) * (3 : Int32)) = 0 then obind2 (F_L_call (1 : Int32) (0 : Int32) (0 : Int32) (0 : Int32) M) fun v34 M35 => some (v34, M35) else obind2 (F_L_wall (v1 - v1 / (25 : Int32) * (25 : Int32)) M) fun v30 M31 => some (v30, M31) else if v3 = 4 then if (v1 - v1 / (2 : Int32) * (2 : Int32)) = 0 then obind2 (F_L_call (3 : Int32) (0 : Int32) (0 : Int32) (0 : Int32) M) fun v43 M44 => some (v43, M44) else obind2 (F_X3_rewind M) fun v39 M40 => some (v39, M40) else if v3 = 5 then obind2 (F_L_call (8 : Int32) (0 : Int32) (0 : Int32) (0 : Int32) M) fun v47 M48 => some (v47, M48) else if v3 = 6 then if (v1 - v1 / (2 : Int32) * (2 : Int32)) = 0 then obind2 (F_X3_keep M) fun v56 M57 => some (v56, M57) else obind2 (F_L_call (9 : Int32) (0 : Int32) (0 : Int32) (0 : Int32) M) fun v52 M53 => some (v52, M53) else if (F_X3_cars M) = 0 then some ((-1 : Int32), M) else grd (¬ (F_X3_cars M) = 0) <| bnd (if ((v1 / (8 : Int32)) - (v1 / (8 : Int32)) / (2 : Int32) * (2 : Int32)) = 0 then ((1 : Int32) + ((v1 / (16 : Int32)) - (v1 / (16 : Int32)) / (3 : Int32) * (3 : Int32))) else ((-1 : Int32) - ((v1 / (16 : Int32)) - (v1 / (16 : Int32)) / (3 : Int32) * (3 : Int32)))) fun v64 => obind2 (F_L_call (2 : Int32) (v1 - v1 / (F_X3_cars M) * (F_X3_cars M)) v64 (0 : Int32) M) fun v67 M68 => some (v67, M68)
