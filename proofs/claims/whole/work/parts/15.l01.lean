/-! ===== the law: its helpers ===== -/
abbrev mi_L_addCar : MI := (yL_addCar, cL_addCar, 6, some .int, 8, 145, 1, 6, [(0, 12, 15, 13), (0, 12, 19, 15), (0, 12, 23, 17)])
abbrev mi_L_dropLast : MI := (yL_dropLast, cL_dropLast, 3, some .int, 7, 142, 1, 6, [(0, 8, 11, 17)])
abbrev mi_L_toggleWall : MI := (yL_toggleWall, cL_toggleWall, 4, some .int, 8, 143, 1, 6, [(0, 16, 19, 13), (0, 16, 22, 17)])
abbrev mi_L_slide : MI := (yL_slide, cL_slide, 5, some .int, 8, 144, 2, 12, [(0, 10, 13, 13), (0, 10, 17, 15), (0, 10, 21, 17)])
abbrev mi_L_takeBack : MI := (yL_takeBack, cL_takeBack, 3, some .int, 7, 142, 1, 6, [(0, 8, 11, 17)])
abbrev mi_L_driveOut : MI := (yL_driveOut, cL_driveOut, 3, some .int, 7, 152, 1, 6, [(0, 8, 11, 17)])
abbrev mi_L_append : MI := (yL_append, cL_append, 4, some .int, 7, 111, 1, 6, [(0, 9, 12, 15), (0, 9, 15, 17)])
abbrev mi_L_work : MI := (yL_work, cL_work, 3, some .int, 7, 176, 1, 6, [(0, 8, 11, 15)])
abbrev mi_L_stoppedPart : MI := (yL_stoppedPart, cL_stoppedPart, 3, some .int, 7, 110, 1, 6, [(0, 8, 11, 17)])
abbrev mi_L_undo : MI := (yL_undo, cL_undo, 3, some .int, 7, 122, 1, 6, [(0, 8, 11, 17)])
abbrev mi_L_restore : MI := (yL_restore, cL_restore, 3, some .int, 7, 142, 1, 6, [(0, 8, 11, 17)])
abbrev mi_L_laneOf : MI := (yL_laneOf, cL_laneOf, 4, some .int, 7, 111, 1, 6, [(0, 9, 12, 13)])
abbrev mi_L_placeOf : MI := (yL_placeOf, cL_placeOf, 4, some .int, 7, 111, 1, 6, [(0, 9, 12, 13)])
abbrev mi_L_lengthOf : MI := (yL_lengthOf, cL_lengthOf, 4, some .int, 7, 111, 1, 6, [(0, 9, 12, 13)])
abbrev mi_L_carOn : MI := (yL_carOn, cL_carOn, 4, some .int, 7, 111, 1, 6, [(0, 9, 12, 13)])
abbrev mi_L_isWall : MI := (yL_isWall, cL_isWall, 4, some .int, 7, 111, 1, 6, [(0, 16, 19, 13)])
abbrev mi_L_room : MI := (yL_room, cL_room, 5, some .int, 7, 112, 1, 6, [(0, 10, 13, 13)])
abbrev mi_L_carOfSlide : MI := (yL_carOfSlide, cL_carOfSlide, 4, some .int, 7, 111, 1, 6, [(0, 9, 12, 13)])
abbrev mi_L_changeBySlide : MI := (yL_changeBySlide, cL_changeBySlide, 4, some .int, 7, 111, 1, 6, [(0, 9, 12, 13)])
abbrev mi_L_stepsOf : MI := (yL_stepsOf, cL_stepsOf, 4, some .int, 7, 111, 1, 6, [(0, 9, 12, 13)])
abbrev mi_L_nextCar : MI := (yL_nextCar, cL_nextCar, 3, some .int, 7, 150, 1, 6, [(0, 8, 11, 17)])
abbrev mi_L_nextChange : MI := (yL_nextChange, cL_nextChange, 3, some .int, 7, 150, 1, 6, [(0, 8, 11, 17)])
abbrev mi_L_fewestBehind : MI := (yL_fewestBehind, cL_fewestBehind, 5, some .int, 8, 139, 1, 6, [(0, 10, 13, 13), (0, 10, 17, 15), (0, 10, 21, 17)])
abbrev mi_L_fewestWithoutLast : MI := (yL_fewestWithoutLast, cL_fewestWithoutLast, 3, some .int, 7, 137, 1, 6, [(0, 8, 11, 17)])
abbrev mi_L_fewestWithWall : MI := (yL_fewestWithWall, cL_fewestWithWall, 4, some .int, 7, 138, 1, 6, [(0, 9, 12, 13), (0, 9, 15, 17)])
theorem w_79 : Cond.initialized "CarTangosLaw" ∈ SWL := SWL_mem 79 (by decide +kernel) rfl
theorem w_616 : Cond.static yL_addCar ∈ SWL := SWL_mem 616 (by decide +kernel) rfl
theorem w_617 : Cond.codeWith yL_addCar cL_addCar 6 (some .int) [(0, 12, 15, 13), (0, 12, 19, 15), (0, 12, 23, 17)] ∈ SWL := SWL_mem 617 (by decide +kernel) rfl
theorem w_618 : Cond.classLink RL 13 "java/lang/IndexOutOfBoundsException" ∈ SWL := SWL_mem 618 (by decide +kernel) rfl
theorem w_619 : Cond.classLink RL 15 "java/lang/IllegalArgumentException" ∈ SWL := SWL_mem 619 (by decide +kernel) rfl
theorem w_620 : Cond.classLink RL 17 "java/lang/IllegalStateException" ∈ SWL := SWL_mem 620 (by decide +kernel) rfl
theorem w_621 : Cond.methodLink RL 7 yX3_addCar ∈ SWL := SWL_mem 621 (by decide +kernel) rfl
theorem w_634 : Cond.castable "java/lang/IndexOutOfBoundsException" "java/lang/IndexOutOfBoundsException" ∈ SWL := SWL_mem 634 (by decide +kernel) rfl
theorem w_702 : Cond.castable "java/lang/IllegalArgumentException" "java/lang/IllegalArgumentException" ∈ SWL := SWL_mem 702 (by decide +kernel) rfl
theorem w_718 : Cond.castable "java/lang/IllegalStateException" "java/lang/IllegalStateException" ∈ SWL := SWL_mem 718 (by decide +kernel) rfl
theorem w_737 : Cond.static yL_dropLast ∈ SWL := SWL_mem 737 (by decide +kernel) rfl
theorem w_738 : Cond.codeWith yL_dropLast cL_dropLast 3 (some .int) [(0, 8, 11, 17)] ∈ SWL := SWL_mem 738 (by decide +kernel) rfl
theorem w_739 : Cond.methodLink RL 19 yX3_dropLast ∈ SWL := SWL_mem 739 (by decide +kernel) rfl
theorem w_749 : Cond.static yL_toggleWall ∈ SWL := SWL_mem 749 (by decide +kernel) rfl
theorem w_750 : Cond.codeWith yL_toggleWall cL_toggleWall 4 (some .int) [(0, 16, 19, 13), (0, 16, 22, 17)] ∈ SWL := SWL_mem 750 (by decide +kernel) rfl
theorem w_751 : Cond.methodLink RL 23 yX3_toggleWall ∈ SWL := SWL_mem 751 (by decide +kernel) rfl
theorem w_770 : Cond.static yL_slide ∈ SWL := SWL_mem 770 (by decide +kernel) rfl
theorem w_771 : Cond.codeWith yL_slide cL_slide 5 (some .int) [(0, 10, 13, 13), (0, 10, 17, 15), (0, 10, 21, 17)] ∈ SWL := SWL_mem 771 (by decide +kernel) rfl
theorem w_772 : Cond.methodLink RL 27 yX3_slide ∈ SWL := SWL_mem 772 (by decide +kernel) rfl
theorem w_787 : Cond.static yL_takeBack ∈ SWL := SWL_mem 787 (by decide +kernel) rfl
theorem w_788 : Cond.codeWith yL_takeBack cL_takeBack 3 (some .int) [(0, 8, 11, 17)] ∈ SWL := SWL_mem 788 (by decide +kernel) rfl
theorem w_789 : Cond.methodLink RL 31 yX3_takeBack ∈ SWL := SWL_mem 789 (by decide +kernel) rfl
theorem w_795 : Cond.static yL_driveOut ∈ SWL := SWL_mem 795 (by decide +kernel) rfl
theorem w_796 : Cond.codeWith yL_driveOut cL_driveOut 3 (some .int) [(0, 8, 11, 17)] ∈ SWL := SWL_mem 796 (by decide +kernel) rfl
theorem w_797 : Cond.methodLink RL 34 yX3_driveOut ∈ SWL := SWL_mem 797 (by decide +kernel) rfl
theorem w_821 : Cond.static yL_append ∈ SWL := SWL_mem 821 (by decide +kernel) rfl
theorem w_822 : Cond.codeWith yL_append cL_append 4 (some .int) [(0, 9, 12, 15), (0, 9, 15, 17)] ∈ SWL := SWL_mem 822 (by decide +kernel) rfl
theorem w_823 : Cond.methodLink RL 37 yX3_append ∈ SWL := SWL_mem 823 (by decide +kernel) rfl
theorem w_834 : Cond.static yL_work ∈ SWL := SWL_mem 834 (by decide +kernel) rfl
theorem w_835 : Cond.codeWith yL_work cL_work 3 (some .int) [(0, 8, 11, 15)] ∈ SWL := SWL_mem 835 (by decide +kernel) rfl
theorem w_836 : Cond.methodLink RL 41 yX3_work ∈ SWL := SWL_mem 836 (by decide +kernel) rfl
theorem w_883 : Cond.static yL_stoppedPart ∈ SWL := SWL_mem 883 (by decide +kernel) rfl
theorem w_884 : Cond.codeWith yL_stoppedPart cL_stoppedPart 3 (some .int) [(0, 8, 11, 17)] ∈ SWL := SWL_mem 884 (by decide +kernel) rfl
theorem w_885 : Cond.methodLink RL 44 yX3_stoppedPart ∈ SWL := SWL_mem 885 (by decide +kernel) rfl
theorem w_891 : Cond.static yL_undo ∈ SWL := SWL_mem 891 (by decide +kernel) rfl
theorem w_892 : Cond.codeWith yL_undo cL_undo 3 (some .int) [(0, 8, 11, 17)] ∈ SWL := SWL_mem 892 (by decide +kernel) rfl
theorem w_893 : Cond.methodLink RL 47 yX3_undo ∈ SWL := SWL_mem 893 (by decide +kernel) rfl
theorem w_899 : Cond.static yL_restore ∈ SWL := SWL_mem 899 (by decide +kernel) rfl
theorem w_900 : Cond.codeWith yL_restore cL_restore 3 (some .int) [(0, 8, 11, 17)] ∈ SWL := SWL_mem 900 (by decide +kernel) rfl
theorem w_901 : Cond.methodLink RL 50 yX3_restore ∈ SWL := SWL_mem 901 (by decide +kernel) rfl
theorem w_907 : Cond.static yL_laneOf ∈ SWL := SWL_mem 907 (by decide +kernel) rfl
theorem w_908 : Cond.codeWith yL_laneOf cL_laneOf 4 (some .int) [(0, 9, 12, 13)] ∈ SWL := SWL_mem 908 (by decide +kernel) rfl
theorem w_909 : Cond.methodLink RL 53 yX3_laneOf ∈ SWL := SWL_mem 909 (by decide +kernel) rfl
theorem w_916 : Cond.static yL_placeOf ∈ SWL := SWL_mem 916 (by decide +kernel) rfl
theorem w_917 : Cond.codeWith yL_placeOf cL_placeOf 4 (some .int) [(0, 9, 12, 13)] ∈ SWL := SWL_mem 917 (by decide +kernel) rfl
theorem w_918 : Cond.methodLink RL 56 yX3_placeOf ∈ SWL := SWL_mem 918 (by decide +kernel) rfl
theorem w_923 : Cond.static yL_lengthOf ∈ SWL := SWL_mem 923 (by decide +kernel) rfl
theorem w_924 : Cond.codeWith yL_lengthOf cL_lengthOf 4 (some .int) [(0, 9, 12, 13)] ∈ SWL := SWL_mem 924 (by decide +kernel) rfl
theorem w_925 : Cond.methodLink RL 59 yX3_lengthOf ∈ SWL := SWL_mem 925 (by decide +kernel) rfl
theorem w_930 : Cond.static yL_carOn ∈ SWL := SWL_mem 930 (by decide +kernel) rfl
theorem w_931 : Cond.codeWith yL_carOn cL_carOn 4 (some .int) [(0, 9, 12, 13)] ∈ SWL := SWL_mem 931 (by decide +kernel) rfl
theorem w_932 : Cond.methodLink RL 62 yX3_carOn ∈ SWL := SWL_mem 932 (by decide +kernel) rfl
theorem w_939 : Cond.static yL_isWall ∈ SWL := SWL_mem 939 (by decide +kernel) rfl
theorem w_940 : Cond.codeWith yL_isWall cL_isWall 4 (some .int) [(0, 16, 19, 13)] ∈ SWL := SWL_mem 940 (by decide +kernel) rfl
theorem w_941 : Cond.methodLink RL 65 yX3_isWall ∈ SWL := SWL_mem 941 (by decide +kernel) rfl
theorem w_946 : Cond.static yL_room ∈ SWL := SWL_mem 946 (by decide +kernel) rfl
theorem w_947 : Cond.codeWith yL_room cL_room 5 (some .int) [(0, 10, 13, 13)] ∈ SWL := SWL_mem 947 (by decide +kernel) rfl
theorem w_948 : Cond.methodLink RL 68 yX3_room ∈ SWL := SWL_mem 948 (by decide +kernel) rfl
theorem w_953 : Cond.static yL_carOfSlide ∈ SWL := SWL_mem 953 (by decide +kernel) rfl
theorem w_954 : Cond.codeWith yL_carOfSlide cL_carOfSlide 4 (some .int) [(0, 9, 12, 13)] ∈ SWL := SWL_mem 954 (by decide +kernel) rfl
theorem w_955 : Cond.methodLink RL 72 yX3_carOfSlide ∈ SWL := SWL_mem 955 (by decide +kernel) rfl
theorem w_962 : Cond.static yL_changeBySlide ∈ SWL := SWL_mem 962 (by decide +kernel) rfl
theorem w_963 : Cond.codeWith yL_changeBySlide cL_changeBySlide 4 (some .int) [(0, 9, 12, 13)] ∈ SWL := SWL_mem 963 (by decide +kernel) rfl
theorem w_964 : Cond.methodLink RL 75 yX3_changeBySlide ∈ SWL := SWL_mem 964 (by decide +kernel) rfl
theorem w_969 : Cond.static yL_stepsOf ∈ SWL := SWL_mem 969 (by decide +kernel) rfl
theorem w_970 : Cond.codeWith yL_stepsOf cL_stepsOf 4 (some .int) [(0, 9, 12, 13)] ∈ SWL := SWL_mem 970 (by decide +kernel) rfl
theorem w_971 : Cond.methodLink RL 78 yX3_stepsOf ∈ SWL := SWL_mem 971 (by decide +kernel) rfl
theorem w_976 : Cond.static yL_nextCar ∈ SWL := SWL_mem 976 (by decide +kernel) rfl
theorem w_977 : Cond.codeWith yL_nextCar cL_nextCar 3 (some .int) [(0, 8, 11, 17)] ∈ SWL := SWL_mem 977 (by decide +kernel) rfl
theorem w_978 : Cond.methodLink RL 81 yX3_nextCar ∈ SWL := SWL_mem 978 (by decide +kernel) rfl
theorem w_988 : Cond.static yL_nextChange ∈ SWL := SWL_mem 988 (by decide +kernel) rfl
theorem w_989 : Cond.codeWith yL_nextChange cL_nextChange 3 (some .int) [(0, 8, 11, 17)] ∈ SWL := SWL_mem 989 (by decide +kernel) rfl
theorem w_990 : Cond.methodLink RL 84 yX3_nextChange ∈ SWL := SWL_mem 990 (by decide +kernel) rfl
theorem w_995 : Cond.static yL_fewestBehind ∈ SWL := SWL_mem 995 (by decide +kernel) rfl
theorem w_996 : Cond.codeWith yL_fewestBehind cL_fewestBehind 5 (some .int) [(0, 10, 13, 13), (0, 10, 17, 15), (0, 10, 21, 17)] ∈ SWL := SWL_mem 996 (by decide +kernel) rfl
theorem w_997 : Cond.methodLink RL 87 yX3_fewestBehind ∈ SWL := SWL_mem 997 (by decide +kernel) rfl
theorem w_1002 : Cond.static yL_fewestWithoutLast ∈ SWL := SWL_mem 1002 (by decide +kernel) rfl
theorem w_1003 : Cond.codeWith yL_fewestWithoutLast cL_fewestWithoutLast 3 (some .int) [(0, 8, 11, 17)] ∈ SWL := SWL_mem 1003 (by decide +kernel) rfl
theorem w_1004 : Cond.methodLink RL 90 yX3_fewestWithoutLast ∈ SWL := SWL_mem 1004 (by decide +kernel) rfl
theorem w_1010 : Cond.static yL_fewestWithWall ∈ SWL := SWL_mem 1010 (by decide +kernel) rfl
theorem w_1011 : Cond.codeWith yL_fewestWithWall cL_fewestWithWall 4 (some .int) [(0, 9, 12, 13), (0, 9, 15, 17)] ∈ SWL := SWL_mem 1011 (by decide +kernel) rfl
theorem w_1012 : Cond.methodLink RL 93 yX3_fewestWithWall ∈ SWL := SWL_mem 1012 (by decide +kernel) rfl
set_option maxRecDepth 20000 in
theorem ms_L_addCar : MSH mi_L_addCar 5 := ⟨rfl, w_617, w_79, ⟨by decide, by decide⟩, by decide +kernel, w_616⟩
set_option maxRecDepth 20000 in
theorem ms_L_dropLast : MSH mi_L_dropLast 2 := ⟨rfl, w_738, w_79, ⟨by decide, by decide⟩, by decide +kernel, w_737⟩
set_option maxRecDepth 20000 in
theorem ms_L_toggleWall : MSH mi_L_toggleWall 3 := ⟨rfl, w_750, w_79, ⟨by decide, by decide⟩, by decide +kernel, w_749⟩
set_option maxRecDepth 20000 in
theorem ms_L_slide : MSH mi_L_slide 4 := ⟨rfl, w_771, w_79, ⟨by decide, by decide⟩, by decide +kernel, w_770⟩
set_option maxRecDepth 20000 in
theorem ms_L_takeBack : MSH mi_L_takeBack 2 := ⟨rfl, w_788, w_79, ⟨by decide, by decide⟩, by decide +kernel, w_787⟩
set_option maxRecDepth 20000 in
theorem ms_L_driveOut : MSH mi_L_driveOut 2 := ⟨rfl, w_796, w_79, ⟨by decide, by decide⟩, by decide +kernel, w_795⟩
set_option maxRecDepth 20000 in
theorem ms_L_append : MSH mi_L_append 3 := ⟨rfl, w_822, w_79, ⟨by decide, by decide⟩, by decide +kernel, w_821⟩
set_option maxRecDepth 20000 in
theorem ms_L_work : MSH mi_L_work 2 := ⟨rfl, w_835, w_79, ⟨by decide, by decide⟩, by decide +kernel, w_834⟩
set_option maxRecDepth 20000 in
theorem ms_L_stoppedPart : MSH mi_L_stoppedPart 2 := ⟨rfl, w_884, w_79, ⟨by decide, by decide⟩, by decide +kernel, w_883⟩
set_option maxRecDepth 20000 in
theorem ms_L_undo : MSH mi_L_undo 2 := ⟨rfl, w_892, w_79, ⟨by decide, by decide⟩, by decide +kernel, w_891⟩
set_option maxRecDepth 20000 in
theorem ms_L_restore : MSH mi_L_restore 2 := ⟨rfl, w_900, w_79, ⟨by decide, by decide⟩, by decide +kernel, w_899⟩
set_option maxRecDepth 20000 in
theorem ms_L_laneOf : MSH mi_L_laneOf 3 := ⟨rfl, w_908, w_79, ⟨by decide, by decide⟩, by decide +kernel, w_907⟩
set_option maxRecDepth 20000 in
theorem ms_L_placeOf : MSH mi_L_placeOf 3 := ⟨rfl, w_917, w_79, ⟨by decide, by decide⟩, by decide +kernel, w_916⟩
set_option maxRecDepth 20000 in
theorem ms_L_lengthOf : MSH mi_L_lengthOf 3 := ⟨rfl, w_924, w_79, ⟨by decide, by decide⟩, by decide +kernel, w_923⟩
set_option maxRecDepth 20000 in
theorem ms_L_carOn : MSH mi_L_carOn 3 := ⟨rfl, w_931, w_79, ⟨by decide, by decide⟩, by decide +kernel, w_930⟩
set_option maxRecDepth 20000 in
theorem ms_L_isWall : MSH mi_L_isWall 3 := ⟨rfl, w_940, w_79, ⟨by decide, by decide⟩, by decide +kernel, w_939⟩
set_option maxRecDepth 20000 in
theorem ms_L_room : MSH mi_L_room 4 := ⟨rfl, w_947, w_79, ⟨by decide, by decide⟩, by decide +kernel, w_946⟩
set_option maxRecDepth 20000 in
theorem ms_L_carOfSlide : MSH mi_L_carOfSlide 3 := ⟨rfl, w_954, w_79, ⟨by decide, by decide⟩, by decide +kernel, w_953⟩
set_option maxRecDepth 20000 in
theorem ms_L_changeBySlide : MSH mi_L_changeBySlide 3 := ⟨rfl, w_963, w_79, ⟨by decide, by decide⟩, by decide +kernel, w_962⟩
set_option maxRecDepth 20000 in
theorem ms_L_stepsOf : MSH mi_L_stepsOf 3 := ⟨rfl, w_970, w_79, ⟨by decide, by decide⟩, by decide +kernel, w_969⟩
set_option maxRecDepth 20000 in
theorem ms_L_nextCar : MSH mi_L_nextCar 2 := ⟨rfl, w_977, w_79, ⟨by decide, by decide⟩, by decide +kernel, w_976⟩
set_option maxRecDepth 20000 in
theorem ms_L_nextChange : MSH mi_L_nextChange 2 := ⟨rfl, w_989, w_79, ⟨by decide, by decide⟩, by decide +kernel, w_988⟩
set_option maxRecDepth 20000 in
theorem ms_L_fewestBehind : MSH mi_L_fewestBehind 4 := ⟨rfl, w_996, w_79, ⟨by decide, by decide⟩, by decide +kernel, w_995⟩
set_option maxRecDepth 20000 in
theorem ms_L_fewestWithoutLast : MSH mi_L_fewestWithoutLast 2 := ⟨rfl, w_1003, w_79, ⟨by decide, by decide⟩, by decide +kernel, w_1002⟩
set_option maxRecDepth 20000 in
theorem ms_L_fewestWithWall : MSH mi_L_fewestWithWall 3 := ⟨rfl, w_1011, w_79, ⟨by decide, by decide⟩, by decide +kernel, w_1010⟩
def F_L_addCar_0_62 (a1 : Int32) (a2 : Int32) (a3 : Int32) (M : Wd) : Option (Int32 × Wd) := obindX (F_X3_addCar a1 a2 a3 M) (fun v1 M2 => some ((0 : Int32), (upL M2 62 0 v1.toInt64))) (fun x5 M2 => if x5 = 1 then some ((1 : Int32), M2) else if x5 = 2 then some ((2 : Int32), M2) else if x5 = 3 then some ((3 : Int32), M2) else none)
def F_L_dropLast_0_62 (M : Wd) : Option (Int32 × Wd) := obindX (F_X3_dropLast M) (fun v1 M2 => some ((0 : Int32), (upL M2 62 0 v1.toInt64))) (fun x5 M2 => if x5 = 3 then some ((1 : Int32), M2) else none)
def F_L_toggleWall_0_62 (a1 : Int32) (M : Wd) : Option (Int32 × Wd) := obindX (F_X3_toggleWall a1 M) (fun v1 M2 => bnd (if v1 = 0 then (0 : Int64) else (1 : Int64)) fun v6 => some ((0 : Int32), (upL M2 62 0 v6))) (fun x5 M2 => if x5 = 1 then some ((1 : Int32), M2) else if x5 = 3 then some ((2 : Int32), M2) else none)
def F_L_slide_0_62 (a1 : Int32) (a2 : Int32) (M : Wd) : Option (Int32 × Wd) := obindX (F_X3_slide a1 a2 M) (fun v1 M2 => some ((0 : Int32), (upL M2 62 0 v1.toInt64))) (fun x5 M2 => if x5 = 1 then some ((1 : Int32), M2) else if x5 = 2 then some ((2 : Int32), M2) else if x5 = 3 then some ((3 : Int32), M2) else none)
def F_L_takeBack_0_62 (M : Wd) : Option (Int32 × Wd) := obindX (F_X3_takeBack M) (fun v1 M2 => some ((0 : Int32), (upL M2 62 0 v1.toInt64))) (fun x5 M2 => if x5 = 3 then some ((1 : Int32), M2) else none)
def F_L_driveOut_0_62 (M : Wd) : Option (Int32 × Wd) := obindX (F_X3_driveOut M) (fun v1 M2 => some ((0 : Int32), (upL M2 62 0 v1.toInt64))) (fun x5 M2 => if x5 = 3 then some ((1 : Int32), M2) else none)
def F_L_append_0_62 (a1 : Int32) (M : Wd) : Option (Int32 × Wd) := obindX (F_X3_append a1 M) (fun v1 M2 => some ((0 : Int32), (upL M2 62 0 v1.toInt64))) (fun x5 M2 => if x5 = 2 then some ((1 : Int32), M2) else if x5 = 3 then some ((2 : Int32), M2) else none)
def F_L_work_0_62 (M : Wd) : Option (Int32 × Wd) := obindX (F_X3_work M) (fun v1 M2 => some ((0 : Int32), (upL M2 62 0 v1.toInt64))) (fun x5 M2 => if x5 = 2 then some ((1 : Int32), M2) else none)
def F_L_stoppedPart_0_62 (M : Wd) : Option (Int32 × Wd) := obindX (F_X3_stoppedPart M) (fun v1 M2 => some ((0 : Int32), (upL M2 62 0 v1.toInt64))) (fun x5 M2 => if x5 = 3 then some ((1 : Int32), M2) else none)
def F_L_undo_0_62 (M : Wd) : Option (Int32 × Wd) := obindX (F_X3_undo M) (fun v1 M2 => some ((0 : Int32), (upL M2 62 0 v1.toInt64))) (fun x5 M2 => if x5 = 3 then some ((1 : Int32), M2) else none)
def F_L_restore_0_62 (M : Wd) : Option (Int32 × Wd) := obindX (F_X3_restore M) (fun v1 M2 => some ((0 : Int32), (upL M2 62 0 v1.toInt64))) (fun x5 M2 => if x5 = 3 then some ((1 : Int32), M2) else none)
def F_L_laneOf_0_62 (a1 : Int32) (M : Wd) : Option (Int32 × Wd) := obindX (F_X3_laneOf a1 M) (fun v1 M2 => some ((0 : Int32), (upL M2 62 0 v1.toInt64))) (fun x5 M2 => if x5 = 1 then some ((1 : Int32), M2) else none)
def F_L_placeOf_0_62 (a1 : Int32) (M : Wd) : Option (Int32 × Wd) := obindX (F_X3_placeOf a1 M) (fun v1 M2 => some ((0 : Int32), (upL M2 62 0 v1.toInt64))) (fun x5 M2 => if x5 = 1 then some ((1 : Int32), M2) else none)
def F_L_lengthOf_0_62 (a1 : Int32) (M : Wd) : Option (Int32 × Wd) := obindX (F_X3_lengthOf a1 M) (fun v1 M2 => some ((0 : Int32), (upL M2 62 0 v1.toInt64))) (fun x5 M2 => if x5 = 1 then some ((1 : Int32), M2) else none)
def F_L_carOn_0_62 (a1 : Int32) (M : Wd) : Option (Int32 × Wd) := obindX (F_X3_carOn a1 M) (fun v1 M2 => some ((0 : Int32), (upL M2 62 0 v1.toInt64))) (fun x5 M2 => if x5 = 1 then some ((1 : Int32), M2) else none)
def F_L_isWall_0_62 (a1 : Int32) (M : Wd) : Option (Int32 × Wd) := obindX (F_X3_isWall a1 M) (fun v1 M2 => bnd (if v1 = 0 then (0 : Int64) else (1 : Int64)) fun v6 => some ((0 : Int32), (upL M2 62 0 v6))) (fun x5 M2 => if x5 = 1 then some ((1 : Int32), M2) else none)
def F_L_room_0_62 (a1 : Int32) (a2 : Int32) (M : Wd) : Option (Int32 × Wd) := obindX (F_X3_room a1 a2 M) (fun v1 M2 => some ((0 : Int32), (upL M2 62 0 v1.toInt64))) (fun x5 M2 => if x5 = 1 then some ((1 : Int32), M2) else none)
def F_L_carOfSlide_0_62 (a1 : Int32) (M : Wd) : Option (Int32 × Wd) := obindX (F_X3_carOfSlide a1 M) (fun v1 M2 => some ((0 : Int32), (upL M2 62 0 v1.toInt64))) (fun x5 M2 => if x5 = 1 then some ((1 : Int32), M2) else none)
def F_L_changeBySlide_0_62 (a1 : Int32) (M : Wd) : Option (Int32 × Wd) := obindX (F_X3_changeBySlide a1 M) (fun v1 M2 => some ((0 : Int32), (upL M2 62 0 v1.toInt64))) (fun x5 M2 => if x5 = 1 then some ((1 : Int32), M2) else none)
def F_L_stepsOf_0_62 (a1 : Int32) (M : Wd) : Option (Int32 × Wd) := obindX (F_X3_stepsOf a1 M) (fun v1 M2 => some ((0 : Int32), (upL M2 62 0 v1.toInt64))) (fun x5 M2 => if x5 = 1 then some ((1 : Int32), M2) else none)
def F_L_nextCar_0_62 (M : Wd) : Option (Int32 × Wd) := obindX (F_X3_nextCar M) (fun v1 M2 => some ((0 : Int32), (upL M2 62 0 v1.toInt64))) (fun x5 M2 => if x5 = 3 then some ((1 : Int32), M2) else none)
def F_L_nextChange_0_62 (M : Wd) : Option (Int32 × Wd) := obindX (F_X3_nextChange M) (fun v1 M2 => some ((0 : Int32), (upL M2 62 0 v1.toInt64))) (fun x5 M2 => if x5 = 3 then some ((1 : Int32), M2) else none)
def F_L_fewestBehind_0_62 (a1 : Int32) (a2 : Int32) (M : Wd) : Option (Int32 × Wd) := obindX (F_X3_fewestBehind a1 a2 M) (fun v1 M2 => some ((0 : Int32), (upL M2 62 0 v1.toInt64))) (fun x5 M2 => if x5 = 1 then some ((1 : Int32), M2) else if x5 = 2 then some ((2 : Int32), M2) else if x5 = 3 then some ((3 : Int32), M2) else none)
def F_L_fewestWithoutLast_0_62 (M : Wd) : Option (Int32 × Wd) := obindX (F_X3_fewestWithoutLast M) (fun v1 M2 => some ((0 : Int32), (upL M2 62 0 v1.toInt64))) (fun x5 M2 => if x5 = 3 then some ((1 : Int32), M2) else none)
def F_L_fewestWithWall_0_62 (a1 : Int32) (M : Wd) : Option (Int32 × Wd) := obindX (F_X3_fewestWithWall a1 M) (fun v1 M2 => some ((0 : Int32), (upL M2 62 0 v1.toInt64))) (fun x5 M2 => if x5 = 1 then some ((1 : Int32), M2) else if x5 = 3 then some ((2 : Int32), M2) else none)
