theorem dX4_restore_29 : decode cX4_restore 29 = .ok (.iconst 0, 1) := by decide +kernel
theorem dX4_restore_30 : decode cX4_restore 30 = .ok (.aload_n 0, 1) := by decide +kernel
theorem dX4_restore_31 : decode cX4_restore 31 = .ok (.getfield 13, 3) := by decide +kernel
theorem dX4_restore_34 : decode cX4_restore 34 = .ok (.iconst 0, 1) := by decide +kernel
theorem dX4_restore_35 : decode cX4_restore 35 = .ok (.invokestatic 126, 3) := by decide +kernel
theorem dX4_restore_38 : decode cX4_restore 38 = .ok (.aload_n 0, 1) := by decide +kernel
theorem dX4_restore_39 : decode cX4_restore 39 = .ok (.getfield 13, 3) := by decide +kernel
theorem dX4_restore_42 : decode cX4_restore 42 = .ok (.iconst 0, 1) := by decide +kernel
theorem dX4_restore_43 : decode cX4_restore 43 = .ok (.iaload, 1) := by decide +kernel
theorem dX4_restore_44 : decode cX4_restore 44 = .ok (.ireturn, 1) := by decide +kernel
theorem dX4_savedStates_0 : decode cX4_savedStates 0 = .ok (.aload_n 0, 1) := by decide +kernel
theorem dX4_savedStates_1 : decode cX4_savedStates 1 = .ok (.iconst 0, 1) := by decide +kernel
theorem dX4_savedStates_2 : decode cX4_savedStates 2 = .ok (.putfield 35, 3) := by decide +kernel
theorem dX4_savedStates_5 : decode cX4_savedStates 5 = .ok (.aload_n 0, 1) := by decide +kernel
theorem dX4_savedStates_6 : decode cX4_savedStates 6 = .ok (.getfield 123, 3) := by decide +kernel
theorem dX4_savedStates_9 : decode cX4_savedStates 9 = .ok (.ireturn, 1) := by decide +kernel
theorem dX4_told_0 : decode cX4_told 0 = .ok (.aload_n 0, 1) := by decide +kernel
theorem dX4_told_1 : decode cX4_told 1 = .ok (.iconst 0, 1) := by decide +kernel
theorem dX4_told_2 : decode cX4_told 2 = .ok (.putfield 35, 3) := by decide +kernel
theorem dX4_told_5 : decode cX4_told 5 = .ok (.iload_n 1, 1) := by decide +kernel
theorem dX4_told_6 : decode cX4_told 6 = .ok (.ireturn, 1) := by decide +kernel
theorem dX4_cars_0 : decode cX4_cars 0 = .ok (.aload_n 0, 1) := by decide +kernel
theorem dX4_cars_1 : decode cX4_cars 1 = .ok (.aload_n 0, 1) := by decide +kernel
theorem dX4_cars_2 : decode cX4_cars 2 = .ok (.getfield 13, 3) := by decide +kernel
theorem dX4_cars_5 : decode cX4_cars 5 = .ok (.iconst 0, 1) := by decide +kernel
theorem dX4_cars_6 : decode cX4_cars 6 = .ok (.iaload, 1) := by decide +kernel
theorem dX4_cars_7 : decode cX4_cars 7 = .ok (.invokevirtual 255, 3) := by decide +kernel
theorem dX4_cars_10 : decode cX4_cars 10 = .ok (.ireturn, 1) := by decide +kernel
theorem dX4_walls_0 : decode cX4_walls 0 = .ok (.aload_n 0, 1) := by decide +kernel
theorem dX4_walls_1 : decode cX4_walls 1 = .ok (.aload_n 0, 1) := by decide +kernel
theorem dX4_walls_2 : decode cX4_walls 2 = .ok (.getfield 13, 3) := by decide +kernel
theorem dX4_walls_5 : decode cX4_walls 5 = .ok (.bipush 19, 2) := by decide +kernel
theorem dX4_walls_7 : decode cX4_walls 7 = .ok (.iaload, 1) := by decide +kernel
theorem dX4_walls_8 : decode cX4_walls 8 = .ok (.invokestatic 137, 3) := by decide +kernel
theorem dX4_walls_11 : decode cX4_walls 11 = .ok (.invokevirtual 255, 3) := by decide +kernel
theorem dX4_walls_14 : decode cX4_walls 14 = .ok (.ireturn, 1) := by decide +kernel
theorem dX4_noCar_0 : decode cX4_noCar 0 = .ok (.aload_n 0, 1) := by decide +kernel
theorem dX4_noCar_1 : decode cX4_noCar 1 = .ok (.aload_n 0, 1) := by decide +kernel
theorem dX4_noCar_2 : decode cX4_noCar 2 = .ok (.iload_n 1, 1) := by decide +kernel
theorem dX4_noCar_3 : decode cX4_noCar 3 = .ok (.invokevirtual 178, 3) := by decide +kernel
theorem dX4_noCar_6 : decode cX4_noCar 6 = .ok (.ifCond .eq 7, 3) := by decide +kernel
theorem dX4_noCar_9 : decode cX4_noCar 9 = .ok (.iconst 0, 1) := by decide +kernel
theorem dX4_noCar_10 : decode cX4_noCar 10 = .ok (.goto 4, 3) := by decide +kernel
theorem dX4_noCar_13 : decode cX4_noCar 13 = .ok (.iconst 1, 1) := by decide +kernel
theorem dX4_noCar_14 : decode cX4_noCar 14 = .ok (.invokevirtual 158, 3) := by decide +kernel
theorem dX4_noCar_17 : decode cX4_noCar 17 = .ok (.ireturn, 1) := by decide +kernel
theorem dX4_laneOf_0 : decode cX4_laneOf 0 = .ok (.aload_n 0, 1) := by decide +kernel
theorem dX4_laneOf_1 : decode cX4_laneOf 1 = .ok (.iload_n 1, 1) := by decide +kernel
theorem dX4_laneOf_2 : decode cX4_laneOf 2 = .ok (.invokevirtual 258, 3) := by decide +kernel
theorem dX4_laneOf_5 : decode cX4_laneOf 5 = .ok (.ifCond .eq 7, 3) := by decide +kernel
theorem dX4_laneOf_8 : decode cX4_laneOf 8 = .ok (.iconst 0, 1) := by decide +kernel
theorem dX4_laneOf_9 : decode cX4_laneOf 9 = .ok (.goto 11, 3) := by decide +kernel
theorem dX4_laneOf_12 : decode cX4_laneOf 12 = .ok (.aload_n 0, 1) := by decide +kernel
theorem dX4_laneOf_13 : decode cX4_laneOf 13 = .ok (.getfield 13, 3) := by decide +kernel
theorem dX4_laneOf_16 : decode cX4_laneOf 16 = .ok (.iconst 1, 1) := by decide +kernel
theorem dX4_laneOf_17 : decode cX4_laneOf 17 = .ok (.iload_n 1, 1) := by decide +kernel
theorem dX4_laneOf_18 : decode cX4_laneOf 18 = .ok (.iadd, 1) := by decide +kernel
theorem dX4_laneOf_19 : decode cX4_laneOf 19 = .ok (.iaload, 1) := by decide +kernel
theorem dX4_laneOf_20 : decode cX4_laneOf 20 = .ok (.ireturn, 1) := by decide +kernel
theorem dX4_placeOf_0 : decode cX4_placeOf 0 = .ok (.aload_n 0, 1) := by decide +kernel
theorem dX4_placeOf_1 : decode cX4_placeOf 1 = .ok (.iload_n 1, 1) := by decide +kernel
theorem dX4_placeOf_2 : decode cX4_placeOf 2 = .ok (.invokevirtual 258, 3) := by decide +kernel
theorem dX4_placeOf_5 : decode cX4_placeOf 5 = .ok (.ifCond .eq 7, 3) := by decide +kernel
theorem dX4_placeOf_8 : decode cX4_placeOf 8 = .ok (.iconst 0, 1) := by decide +kernel
theorem dX4_placeOf_9 : decode cX4_placeOf 9 = .ok (.goto 12, 3) := by decide +kernel
theorem dX4_placeOf_12 : decode cX4_placeOf 12 = .ok (.aload_n 0, 1) := by decide +kernel
theorem dX4_placeOf_13 : decode cX4_placeOf 13 = .ok (.getfield 13, 3) := by decide +kernel
theorem dX4_placeOf_16 : decode cX4_placeOf 16 = .ok (.bipush 7, 2) := by decide +kernel
theorem dX4_placeOf_18 : decode cX4_placeOf 18 = .ok (.iload_n 1, 1) := by decide +kernel
theorem dX4_placeOf_19 : decode cX4_placeOf 19 = .ok (.iadd, 1) := by decide +kernel
theorem dX4_placeOf_20 : decode cX4_placeOf 20 = .ok (.iaload, 1) := by decide +kernel
theorem dX4_placeOf_21 : decode cX4_placeOf 21 = .ok (.ireturn, 1) := by decide +kernel
theorem dX4_lengthOf_0 : decode cX4_lengthOf 0 = .ok (.aload_n 0, 1) := by decide +kernel
theorem dX4_lengthOf_1 : decode cX4_lengthOf 1 = .ok (.iload_n 1, 1) := by decide +kernel
theorem dX4_lengthOf_2 : decode cX4_lengthOf 2 = .ok (.invokevirtual 258, 3) := by decide +kernel
theorem dX4_lengthOf_5 : decode cX4_lengthOf 5 = .ok (.ifCond .eq 7, 3) := by decide +kernel
theorem dX4_lengthOf_8 : decode cX4_lengthOf 8 = .ok (.iconst 0, 1) := by decide +kernel
theorem dX4_lengthOf_9 : decode cX4_lengthOf 9 = .ok (.goto 12, 3) := by decide +kernel
theorem dX4_lengthOf_12 : decode cX4_lengthOf 12 = .ok (.aload_n 0, 1) := by decide +kernel
theorem dX4_lengthOf_13 : decode cX4_lengthOf 13 = .ok (.getfield 13, 3) := by decide +kernel
theorem dX4_lengthOf_16 : decode cX4_lengthOf 16 = .ok (.bipush 13, 2) := by decide +kernel
theorem dX4_lengthOf_18 : decode cX4_lengthOf 18 = .ok (.iload_n 1, 1) := by decide +kernel
theorem dX4_lengthOf_19 : decode cX4_lengthOf 19 = .ok (.iadd, 1) := by decide +kernel
theorem dX4_lengthOf_20 : decode cX4_lengthOf 20 = .ok (.iaload, 1) := by decide +kernel
theorem dX4_lengthOf_21 : decode cX4_lengthOf 21 = .ok (.ireturn, 1) := by decide +kernel
theorem dX4_carAt_0 : decode cX4_carAt 0 = .ok (.iconst 0, 1) := by decide +kernel
theorem dX4_carAt_1 : decode cX4_carAt 1 = .ok (.istore_n 2, 1) := by decide +kernel
theorem dX4_carAt_2 : decode cX4_carAt 2 = .ok (.iload_n 2, 1) := by decide +kernel
theorem dX4_carAt_3 : decode cX4_carAt 3 = .ok (.aload_n 0, 1) := by decide +kernel
theorem dX4_carAt_4 : decode cX4_carAt 4 = .ok (.getfield 13, 3) := by decide +kernel
theorem dX4_carAt_7 : decode cX4_carAt 7 = .ok (.iconst 0, 1) := by decide +kernel
theorem dX4_carAt_8 : decode cX4_carAt 8 = .ok (.iaload, 1) := by decide +kernel
theorem dX4_carAt_9 : decode cX4_carAt 9 = .ok (.if_icmp .ge 24, 3) := by decide +kernel
theorem dX4_carAt_12 : decode cX4_carAt 12 = .ok (.aload_n 0, 1) := by decide +kernel
theorem dX4_carAt_13 : decode cX4_carAt 13 = .ok (.iload_n 2, 1) := by decide +kernel
theorem dX4_carAt_14 : decode cX4_carAt 14 = .ok (.invokevirtual 43, 3) := by decide +kernel
theorem dX4_carAt_17 : decode cX4_carAt 17 = .ok (.iload_n 1, 1) := by decide +kernel
theorem dX4_carAt_18 : decode cX4_carAt 18 = .ok (.ishr, 1) := by decide +kernel
theorem dX4_carAt_19 : decode cX4_carAt 19 = .ok (.iconst 1, 1) := by decide +kernel
theorem dX4_carAt_20 : decode cX4_carAt 20 = .ok (.iand, 1) := by decide +kernel
theorem dX4_carAt_21 : decode cX4_carAt 21 = .ok (.iconst 1, 1) := by decide +kernel
theorem dX4_carAt_22 : decode cX4_carAt 22 = .ok (.if_icmp .ne 5, 3) := by decide +kernel
theorem dX4_carAt_25 : decode cX4_carAt 25 = .ok (.iload_n 2, 1) := by decide +kernel
theorem dX4_carAt_26 : decode cX4_carAt 26 = .ok (.ireturn, 1) := by decide +kernel
theorem dX4_carAt_27 : decode cX4_carAt 27 = .ok (.iinc 2 1, 3) := by decide +kernel
theorem dX4_carAt_30 : decode cX4_carAt 30 = .ok (.goto (-28), 3) := by decide +kernel
theorem dX4_carAt_33 : decode cX4_carAt 33 = .ok (.iconst (-1), 1) := by decide +kernel
theorem dX4_carAt_34 : decode cX4_carAt 34 = .ok (.ireturn, 1) := by decide +kernel
theorem dX4_carOn_0 : decode cX4_carOn 0 = .ok (.aload_n 0, 1) := by decide +kernel
theorem dX4_carOn_1 : decode cX4_carOn 1 = .ok (.iload_n 1, 1) := by decide +kernel
theorem dX4_carOn_2 : decode cX4_carOn 2 = .ok (.invokestatic 167, 3) := by decide +kernel
theorem dX4_carOn_5 : decode cX4_carOn 5 = .ok (.ifCond .eq 7, 3) := by decide +kernel
theorem dX4_carOn_8 : decode cX4_carOn 8 = .ok (.iconst 0, 1) := by decide +kernel
theorem dX4_carOn_9 : decode cX4_carOn 9 = .ok (.goto 4, 3) := by decide +kernel
theorem dX4_carOn_12 : decode cX4_carOn 12 = .ok (.iconst 1, 1) := by decide +kernel
theorem dX4_carOn_13 : decode cX4_carOn 13 = .ok (.invokevirtual 158, 3) := by decide +kernel
theorem dX4_carOn_16 : decode cX4_carOn 16 = .ok (.ifCond .eq 7, 3) := by decide +kernel
theorem dX4_carOn_19 : decode cX4_carOn 19 = .ok (.iconst 0, 1) := by decide +kernel
theorem dX4_carOn_20 : decode cX4_carOn 20 = .ok (.goto 8, 3) := by decide +kernel
theorem dX4_carOn_23 : decode cX4_carOn 23 = .ok (.aload_n 0, 1) := by decide +kernel
theorem dX4_carOn_24 : decode cX4_carOn 24 = .ok (.iload_n 1, 1) := by decide +kernel
theorem dX4_carOn_25 : decode cX4_carOn 25 = .ok (.invokevirtual 261, 3) := by decide +kernel
theorem dX4_carOn_28 : decode cX4_carOn 28 = .ok (.ireturn, 1) := by decide +kernel
theorem dX4_isWall_0 : decode cX4_isWall 0 = .ok (.aload_n 0, 1) := by decide +kernel
theorem dX4_isWall_1 : decode cX4_isWall 1 = .ok (.iload_n 1, 1) := by decide +kernel
theorem dX4_isWall_2 : decode cX4_isWall 2 = .ok (.invokestatic 167, 3) := by decide +kernel
theorem dX4_isWall_5 : decode cX4_isWall 5 = .ok (.ifCond .eq 7, 3) := by decide +kernel
theorem dX4_isWall_8 : decode cX4_isWall 8 = .ok (.iconst 0, 1) := by decide +kernel
theorem dX4_isWall_9 : decode cX4_isWall 9 = .ok (.goto 4, 3) := by decide +kernel
theorem dX4_isWall_12 : decode cX4_isWall 12 = .ok (.iconst 1, 1) := by decide +kernel
theorem dX4_isWall_13 : decode cX4_isWall 13 = .ok (.invokevirtual 158, 3) := by decide +kernel
theorem dX4_isWall_16 : decode cX4_isWall 16 = .ok (.ifCond .ne 15, 3) := by decide +kernel
theorem dX4_isWall_19 : decode cX4_isWall 19 = .ok (.aload_n 0, 1) := by decide +kernel
theorem dX4_isWall_20 : decode cX4_isWall 20 = .ok (.iload_n 1, 1) := by decide +kernel
theorem dX4_isWall_21 : decode cX4_isWall 21 = .ok (.invokevirtual 134, 3) := by decide +kernel
theorem dX4_isWall_24 : decode cX4_isWall 24 = .ok (.ifCond .eq 7, 3) := by decide +kernel
theorem dX4_isWall_27 : decode cX4_isWall 27 = .ok (.iconst 1, 1) := by decide +kernel
theorem dX4_isWall_28 : decode cX4_isWall 28 = .ok (.goto 4, 3) := by decide +kernel
theorem dX4_isWall_31 : decode cX4_isWall 31 = .ok (.iconst 0, 1) := by decide +kernel
theorem dX4_isWall_32 : decode cX4_isWall 32 = .ok (.ireturn, 1) := by decide +kernel
theorem dX4_freeCells_0 : decode cX4_freeCells 0 = .ok (.aload_n 0, 1) := by decide +kernel
theorem dX4_freeCells_1 : decode cX4_freeCells 1 = .ok (.bipush 25, 2) := by decide +kernel
theorem dX4_freeCells_3 : decode cX4_freeCells 3 = .ok (.aload_n 0, 1) := by decide +kernel
theorem dX4_freeCells_4 : decode cX4_freeCells 4 = .ok (.invokevirtual 53, 3) := by decide +kernel
theorem dX4_freeCells_7 : decode cX4_freeCells 7 = .ok (.invokestatic 137, 3) := by decide +kernel
theorem dX4_freeCells_10 : decode cX4_freeCells 10 = .ok (.isub, 1) := by decide +kernel
theorem dX4_freeCells_11 : decode cX4_freeCells 11 = .ok (.invokevirtual 255, 3) := by decide +kernel
theorem dX4_freeCells_14 : decode cX4_freeCells 14 = .ok (.ireturn, 1) := by decide +kernel
theorem dX4_isOut_0 : decode cX4_isOut 0 = .ok (.aload_n 0, 1) := by decide +kernel
theorem dX4_isOut_1 : decode cX4_isOut 1 = .ok (.iconst 0, 1) := by decide +kernel
theorem dX4_isOut_2 : decode cX4_isOut 2 = .ok (.putfield 35, 3) := by decide +kernel
theorem dX4_isOut_5 : decode cX4_isOut 5 = .ok (.aload_n 0, 1) := by decide +kernel
theorem dX4_isOut_6 : decode cX4_isOut 6 = .ok (.invokevirtual 264, 3) := by decide +kernel
theorem dX4_isOut_9 : decode cX4_isOut 9 = .ok (.ireturn, 1) := by decide +kernel
theorem dX4_room_0 : decode cX4_room 0 = .ok (.aload_n 0, 1) := by decide +kernel
theorem dX4_room_1 : decode cX4_room 1 = .ok (.iload_n 1, 1) := by decide +kernel
theorem dX4_room_2 : decode cX4_room 2 = .ok (.invokevirtual 258, 3) := by decide +kernel
theorem dX4_room_5 : decode cX4_room 5 = .ok (.ifCond .eq 7, 3) := by decide +kernel
theorem dX4_room_8 : decode cX4_room 8 = .ok (.iconst 0, 1) := by decide +kernel
theorem dX4_room_9 : decode cX4_room 9 = .ok (.goto 17, 3) := by decide +kernel
theorem dX4_room_12 : decode cX4_room 12 = .ok (.aload_n 0, 1) := by decide +kernel
theorem dX4_room_13 : decode cX4_room 13 = .ok (.iload_n 1, 1) := by decide +kernel
theorem dX4_room_14 : decode cX4_room 14 = .ok (.iload_n 2, 1) := by decide +kernel
theorem dX4_room_15 : decode cX4_room 15 = .ok (.ifCond .eq 7, 3) := by decide +kernel
theorem dX4_room_18 : decode cX4_room 18 = .ok (.iconst 1, 1) := by decide +kernel
theorem dX4_room_19 : decode cX4_room 19 = .ok (.goto 4, 3) := by decide +kernel
theorem dX4_room_22 : decode cX4_room 22 = .ok (.iconst (-1), 1) := by decide +kernel
theorem dX4_room_23 : decode cX4_room 23 = .ok (.invokevirtual 57, 3) := by decide +kernel
theorem dX4_room_26 : decode cX4_room 26 = .ok (.ireturn, 1) := by decide +kernel
theorem dX4_slides_0 : decode cX4_slides 0 = .ok (.iconst 0, 1) := by decide +kernel
theorem dX4_slides_1 : decode cX4_slides 1 = .ok (.istore_n 1, 1) := by decide +kernel
theorem dX4_slides_2 : decode cX4_slides 2 = .ok (.iconst 0, 1) := by decide +kernel
theorem dX4_slides_3 : decode cX4_slides 3 = .ok (.istore_n 2, 1) := by decide +kernel
theorem dX4_slides_4 : decode cX4_slides 4 = .ok (.iload_n 2, 1) := by decide +kernel
theorem dX4_slides_5 : decode cX4_slides 5 = .ok (.aload_n 0, 1) := by decide +kernel
theorem dX4_slides_6 : decode cX4_slides 6 = .ok (.getfield 13, 3) := by decide +kernel
theorem dX4_slides_9 : decode cX4_slides 9 = .ok (.iconst 0, 1) := by decide +kernel
theorem dX4_slides_10 : decode cX4_slides 10 = .ok (.iaload, 1) := by decide +kernel
theorem dX4_slides_11 : decode cX4_slides 11 = .ok (.if_icmp .ge 25, 3) := by decide +kernel
theorem dX4_slides_14 : decode cX4_slides 14 = .ok (.iload_n 1, 1) := by decide +kernel
theorem dX4_slides_15 : decode cX4_slides 15 = .ok (.aload_n 0, 1) := by decide +kernel
theorem dX4_slides_16 : decode cX4_slides 16 = .ok (.iload_n 2, 1) := by decide +kernel
theorem dX4_slides_17 : decode cX4_slides 17 = .ok (.iconst 1, 1) := by decide +kernel
theorem dX4_slides_18 : decode cX4_slides 18 = .ok (.invokevirtual 57, 3) := by decide +kernel
theorem dX4_slides_21 : decode cX4_slides 21 = .ok (.aload_n 0, 1) := by decide +kernel
theorem dX4_slides_22 : decode cX4_slides 22 = .ok (.iload_n 2, 1) := by decide +kernel
theorem dX4_slides_23 : decode cX4_slides 23 = .ok (.iconst (-1), 1) := by decide +kernel
theorem dX4_slides_24 : decode cX4_slides 24 = .ok (.invokevirtual 57, 3) := by decide +kernel
theorem dX4_slides_27 : decode cX4_slides 27 = .ok (.iadd, 1) := by decide +kernel
theorem dX4_slides_28 : decode cX4_slides 28 = .ok (.iadd, 1) := by decide +kernel
theorem dX4_slides_29 : decode cX4_slides 29 = .ok (.istore_n 1, 1) := by decide +kernel
theorem dX4_slides_30 : decode cX4_slides 30 = .ok (.iinc 2 1, 3) := by decide +kernel
theorem dX4_slides_33 : decode cX4_slides 33 = .ok (.goto (-29), 3) := by decide +kernel
theorem dX4_slides_36 : decode cX4_slides 36 = .ok (.iload_n 1, 1) := by decide +kernel
theorem dX4_slides_37 : decode cX4_slides 37 = .ok (.ireturn, 1) := by decide +kernel
theorem dX4_possibleSlides_0 : decode cX4_possibleSlides 0 = .ok (.aload_n 0, 1) := by decide +kernel
theorem dX4_possibleSlides_1 : decode cX4_possibleSlides 1 = .ok (.aload_n 0, 1) := by decide +kernel
theorem dX4_possibleSlides_2 : decode cX4_possibleSlides 2 = .ok (.invokevirtual 267, 3) := by decide +kernel
theorem dX4_possibleSlides_5 : decode cX4_possibleSlides 5 = .ok (.invokevirtual 255, 3) := by decide +kernel
theorem dX4_possibleSlides_8 : decode cX4_possibleSlides 8 = .ok (.ireturn, 1) := by decide +kernel
theorem dX4_logged_0 : decode cX4_logged 0 = .ok (.aload_n 0, 1) := by decide +kernel
theorem dX4_logged_1 : decode cX4_logged 1 = .ok (.aload_n 0, 1) := by decide +kernel
theorem dX4_logged_2 : decode cX4_logged 2 = .ok (.getfield 13, 3) := by decide +kernel
theorem dX4_logged_5 : decode cX4_logged 5 = .ok (.bipush 20, 2) := by decide +kernel
theorem dX4_logged_7 : decode cX4_logged 7 = .ok (.iaload, 1) := by decide +kernel
theorem dX4_logged_8 : decode cX4_logged 8 = .ok (.invokevirtual 255, 3) := by decide +kernel
theorem dX4_logged_11 : decode cX4_logged 11 = .ok (.ireturn, 1) := by decide +kernel
theorem dX4_noSlide_0 : decode cX4_noSlide 0 = .ok (.aload_n 0, 1) := by decide +kernel
theorem dX4_noSlide_1 : decode cX4_noSlide 1 = .ok (.iload_n 1, 1) := by decide +kernel
theorem dX4_noSlide_2 : decode cX4_noSlide 2 = .ok (.i2l, 1) := by decide +kernel
theorem dX4_noSlide_3 : decode cX4_noSlide 3 = .ok (.lconst 0, 1) := by decide +kernel
theorem dX4_noSlide_4 : decode cX4_noSlide 4 = .ok (.aload_n 0, 1) := by decide +kernel
theorem dX4_noSlide_5 : decode cX4_noSlide 5 = .ok (.getfield 13, 3) := by decide +kernel
theorem dX4_noSlide_8 : decode cX4_noSlide 8 = .ok (.bipush 20, 2) := by decide +kernel
theorem dX4_noSlide_10 : decode cX4_noSlide 10 = .ok (.iaload, 1) := by decide +kernel
theorem dX4_noSlide_11 : decode cX4_noSlide 11 = .ok (.iconst 1, 1) := by decide +kernel
theorem dX4_noSlide_12 : decode cX4_noSlide 12 = .ok (.isub, 1) := by decide +kernel
theorem dX4_noSlide_13 : decode cX4_noSlide 13 = .ok (.i2l, 1) := by decide +kernel
theorem dX4_noSlide_14 : decode cX4_noSlide 14 = .ok (.invokestatic 47, 3) := by decide +kernel
theorem dX4_noSlide_17 : decode cX4_noSlide 17 = .ok (.ifCond .eq 7, 3) := by decide +kernel
theorem dX4_noSlide_20 : decode cX4_noSlide 20 = .ok (.iconst 0, 1) := by decide +kernel
theorem dX4_noSlide_21 : decode cX4_noSlide 21 = .ok (.goto 4, 3) := by decide +kernel
theorem dX4_noSlide_24 : decode cX4_noSlide 24 = .ok (.iconst 1, 1) := by decide +kernel
theorem dX4_noSlide_25 : decode cX4_noSlide 25 = .ok (.invokevirtual 158, 3) := by decide +kernel
theorem dX4_noSlide_28 : decode cX4_noSlide 28 = .ok (.ireturn, 1) := by decide +kernel
theorem dX4_carOfSlide_0 : decode cX4_carOfSlide 0 = .ok (.aload_n 0, 1) := by decide +kernel
theorem dX4_carOfSlide_1 : decode cX4_carOfSlide 1 = .ok (.iload_n 1, 1) := by decide +kernel
theorem dX4_carOfSlide_2 : decode cX4_carOfSlide 2 = .ok (.invokevirtual 270, 3) := by decide +kernel
theorem dX4_carOfSlide_5 : decode cX4_carOfSlide 5 = .ok (.ifCond .eq 7, 3) := by decide +kernel
theorem dX4_carOfSlide_8 : decode cX4_carOfSlide 8 = .ok (.iconst 0, 1) := by decide +kernel
theorem dX4_carOfSlide_9 : decode cX4_carOfSlide 9 = .ok (.goto 8, 3) := by decide +kernel
theorem dX4_carOfSlide_12 : decode cX4_carOfSlide 12 = .ok (.aload_n 0, 1) := by decide +kernel
theorem dX4_carOfSlide_13 : decode cX4_carOfSlide 13 = .ok (.iload_n 1, 1) := by decide +kernel
theorem dX4_carOfSlide_14 : decode cX4_carOfSlide 14 = .ok (.invokevirtual 140, 3) := by decide +kernel
theorem dX4_carOfSlide_17 : decode cX4_carOfSlide 17 = .ok (.ireturn, 1) := by decide +kernel
theorem dX4_changeBySlide_0 : decode cX4_changeBySlide 0 = .ok (.aload_n 0, 1) := by decide +kernel
theorem dX4_changeBySlide_1 : decode cX4_changeBySlide 1 = .ok (.iload_n 1, 1) := by decide +kernel
theorem dX4_changeBySlide_2 : decode cX4_changeBySlide 2 = .ok (.invokevirtual 270, 3) := by decide +kernel
theorem dX4_changeBySlide_5 : decode cX4_changeBySlide 5 = .ok (.ifCond .eq 7, 3) := by decide +kernel
theorem dX4_changeBySlide_8 : decode cX4_changeBySlide 8 = .ok (.iconst 0, 1) := by decide +kernel
theorem dX4_changeBySlide_9 : decode cX4_changeBySlide 9 = .ok (.goto 8, 3) := by decide +kernel
theorem dX4_changeBySlide_12 : decode cX4_changeBySlide 12 = .ok (.aload_n 0, 1) := by decide +kernel
theorem dX4_changeBySlide_13 : decode cX4_changeBySlide 13 = .ok (.iload_n 1, 1) := by decide +kernel
theorem dX4_changeBySlide_14 : decode cX4_changeBySlide 14 = .ok (.invokevirtual 143, 3) := by decide +kernel
theorem dX4_changeBySlide_17 : decode cX4_changeBySlide 17 = .ok (.ireturn, 1) := by decide +kernel
theorem dX4_stepsBy_0 : decode cX4_stepsBy 0 = .ok (.iconst 0, 1) := by decide +kernel
theorem dX4_stepsBy_1 : decode cX4_stepsBy 1 = .ok (.istore_n 2, 1) := by decide +kernel
theorem dX4_stepsBy_2 : decode cX4_stepsBy 2 = .ok (.iconst 0, 1) := by decide +kernel
theorem dX4_stepsBy_3 : decode cX4_stepsBy 3 = .ok (.istore_n 3, 1) := by decide +kernel
theorem dX4_stepsBy_4 : decode cX4_stepsBy 4 = .ok (.iload_n 3, 1) := by decide +kernel
theorem dX4_stepsBy_5 : decode cX4_stepsBy 5 = .ok (.aload_n 0, 1) := by decide +kernel
theorem dX4_stepsBy_6 : decode cX4_stepsBy 6 = .ok (.getfield 13, 3) := by decide +kernel
theorem dX4_stepsBy_9 : decode cX4_stepsBy 9 = .ok (.bipush 20, 2) := by decide +kernel
theorem dX4_stepsBy_11 : decode cX4_stepsBy 11 = .ok (.iaload, 1) := by decide +kernel
theorem dX4_stepsBy_12 : decode cX4_stepsBy 12 = .ok (.if_icmp .ge 47, 3) := by decide +kernel
theorem dX4_stepsBy_15 : decode cX4_stepsBy 15 = .ok (.iload_n 2, 1) := by decide +kernel
theorem dX4_stepsBy_16 : decode cX4_stepsBy 16 = .ok (.aload_n 0, 1) := by decide +kernel
theorem dX4_stepsBy_17 : decode cX4_stepsBy 17 = .ok (.iload_n 3, 1) := by decide +kernel
theorem dX4_stepsBy_18 : decode cX4_stepsBy 18 = .ok (.invokevirtual 140, 3) := by decide +kernel
theorem dX4_stepsBy_21 : decode cX4_stepsBy 21 = .ok (.iload_n 1, 1) := by decide +kernel
theorem dX4_stepsBy_22 : decode cX4_stepsBy 22 = .ok (.if_icmp .eq 7, 3) := by decide +kernel
theorem dX4_stepsBy_25 : decode cX4_stepsBy 25 = .ok (.iconst 0, 1) := by decide +kernel
theorem dX4_stepsBy_26 : decode cX4_stepsBy 26 = .ok (.goto 25, 3) := by decide +kernel
theorem dX4_stepsBy_29 : decode cX4_stepsBy 29 = .ok (.aload_n 0, 1) := by decide +kernel
theorem dX4_stepsBy_30 : decode cX4_stepsBy 30 = .ok (.iload_n 3, 1) := by decide +kernel
theorem dX4_stepsBy_31 : decode cX4_stepsBy 31 = .ok (.invokevirtual 143, 3) := by decide +kernel
theorem dX4_stepsBy_34 : decode cX4_stepsBy 34 = .ok (.ifCond .ge 12, 3) := by decide +kernel
theorem dX4_stepsBy_37 : decode cX4_stepsBy 37 = .ok (.aload_n 0, 1) := by decide +kernel
theorem dX4_stepsBy_38 : decode cX4_stepsBy 38 = .ok (.iload_n 3, 1) := by decide +kernel
theorem dX4_stepsBy_39 : decode cX4_stepsBy 39 = .ok (.invokevirtual 143, 3) := by decide +kernel
theorem dX4_stepsBy_42 : decode cX4_stepsBy 42 = .ok (.ineg, 1) := by decide +kernel
theorem dX4_stepsBy_43 : decode cX4_stepsBy 43 = .ok (.goto 8, 3) := by decide +kernel
theorem dX4_stepsBy_46 : decode cX4_stepsBy 46 = .ok (.aload_n 0, 1) := by decide +kernel
theorem dX4_stepsBy_47 : decode cX4_stepsBy 47 = .ok (.iload_n 3, 1) := by decide +kernel
theorem dX4_stepsBy_48 : decode cX4_stepsBy 48 = .ok (.invokevirtual 143, 3) := by decide +kernel
theorem dX4_stepsBy_51 : decode cX4_stepsBy 51 = .ok (.iadd, 1) := by decide +kernel
theorem dX4_stepsBy_52 : decode cX4_stepsBy 52 = .ok (.istore_n 2, 1) := by decide +kernel
theorem dX4_stepsBy_53 : decode cX4_stepsBy 53 = .ok (.iinc 3 1, 3) := by decide +kernel
theorem dX4_stepsBy_56 : decode cX4_stepsBy 56 = .ok (.goto (-52), 3) := by decide +kernel
theorem dX4_stepsBy_59 : decode cX4_stepsBy 59 = .ok (.iload_n 2, 1) := by decide +kernel
theorem dX4_stepsBy_60 : decode cX4_stepsBy 60 = .ok (.ireturn, 1) := by decide +kernel
theorem dX4_stepsOf_0 : decode cX4_stepsOf 0 = .ok (.aload_n 0, 1) := by decide +kernel
theorem dX4_stepsOf_1 : decode cX4_stepsOf 1 = .ok (.iload_n 1, 1) := by decide +kernel
theorem dX4_stepsOf_2 : decode cX4_stepsOf 2 = .ok (.invokevirtual 258, 3) := by decide +kernel
theorem dX4_stepsOf_5 : decode cX4_stepsOf 5 = .ok (.ifCond .eq 7, 3) := by decide +kernel
theorem dX4_stepsOf_8 : decode cX4_stepsOf 8 = .ok (.iconst 0, 1) := by decide +kernel
theorem dX4_stepsOf_9 : decode cX4_stepsOf 9 = .ok (.goto 8, 3) := by decide +kernel
theorem dX4_stepsOf_12 : decode cX4_stepsOf 12 = .ok (.aload_n 0, 1) := by decide +kernel
theorem dX4_stepsOf_13 : decode cX4_stepsOf 13 = .ok (.iload_n 1, 1) := by decide +kernel
theorem dX4_stepsOf_14 : decode cX4_stepsOf 14 = .ok (.invokevirtual 273, 3) := by decide +kernel
theorem dX4_stepsOf_17 : decode cX4_stepsOf 17 = .ok (.ireturn, 1) := by decide +kernel
theorem dX4_burnt_0 : decode cX4_burnt 0 = .ok (.iconst 0, 1) := by decide +kernel
theorem dX4_burnt_1 : decode cX4_burnt 1 = .ok (.istore_n 1, 1) := by decide +kernel
theorem dX4_burnt_2 : decode cX4_burnt 2 = .ok (.iconst 0, 1) := by decide +kernel
theorem dX4_burnt_3 : decode cX4_burnt 3 = .ok (.istore_n 2, 1) := by decide +kernel
theorem dX4_burnt_4 : decode cX4_burnt 4 = .ok (.iload_n 2, 1) := by decide +kernel
theorem dX4_burnt_5 : decode cX4_burnt 5 = .ok (.aload_n 0, 1) := by decide +kernel
theorem dX4_burnt_6 : decode cX4_burnt 6 = .ok (.getfield 13, 3) := by decide +kernel
theorem dX4_burnt_9 : decode cX4_burnt 9 = .ok (.iconst 0, 1) := by decide +kernel
theorem dX4_burnt_10 : decode cX4_burnt 10 = .ok (.iaload, 1) := by decide +kernel
theorem dX4_burnt_11 : decode cX4_burnt 11 = .ok (.if_icmp .ge 27, 3) := by decide +kernel
theorem dX4_burnt_14 : decode cX4_burnt 14 = .ok (.iload_n 1, 1) := by decide +kernel
theorem dX4_burnt_15 : decode cX4_burnt 15 = .ok (.aload_n 0, 1) := by decide +kernel
theorem dX4_burnt_16 : decode cX4_burnt 16 = .ok (.getfield 13, 3) := by decide +kernel
theorem dX4_burnt_19 : decode cX4_burnt 19 = .ok (.bipush 13, 2) := by decide +kernel
theorem dX4_burnt_21 : decode cX4_burnt 21 = .ok (.iload_n 2, 1) := by decide +kernel
theorem dX4_burnt_22 : decode cX4_burnt 22 = .ok (.iadd, 1) := by decide +kernel
theorem dX4_burnt_23 : decode cX4_burnt 23 = .ok (.iaload, 1) := by decide +kernel
theorem dX4_burnt_24 : decode cX4_burnt 24 = .ok (.aload_n 0, 1) := by decide +kernel
theorem dX4_burnt_25 : decode cX4_burnt 25 = .ok (.iload_n 2, 1) := by decide +kernel
theorem dX4_burnt_26 : decode cX4_burnt 26 = .ok (.invokevirtual 273, 3) := by decide +kernel
theorem dX4_burnt_29 : decode cX4_burnt 29 = .ok (.imul, 1) := by decide +kernel
theorem dX4_burnt_30 : decode cX4_burnt 30 = .ok (.iadd, 1) := by decide +kernel
theorem dX4_burnt_31 : decode cX4_burnt 31 = .ok (.istore_n 1, 1) := by decide +kernel
theorem dX4_burnt_32 : decode cX4_burnt 32 = .ok (.iinc 2 1, 3) := by decide +kernel
theorem dX4_burnt_35 : decode cX4_burnt 35 = .ok (.goto (-31), 3) := by decide +kernel
theorem dX4_burnt_38 : decode cX4_burnt 38 = .ok (.iload_n 1, 1) := by decide +kernel
theorem dX4_burnt_39 : decode cX4_burnt 39 = .ok (.ireturn, 1) := by decide +kernel
theorem dX4_fuel_0 : decode cX4_fuel 0 = .ok (.aload_n 0, 1) := by decide +kernel
theorem dX4_fuel_1 : decode cX4_fuel 1 = .ok (.aload_n 0, 1) := by decide +kernel
theorem dX4_fuel_2 : decode cX4_fuel 2 = .ok (.invokevirtual 276, 3) := by decide +kernel
theorem dX4_fuel_5 : decode cX4_fuel 5 = .ok (.invokevirtual 255, 3) := by decide +kernel
theorem dX4_fuel_8 : decode cX4_fuel 8 = .ok (.ireturn, 1) := by decide +kernel
theorem dX4_fuelByCars_0 : decode cX4_fuelByCars 0 = .ok (.aload_n 0, 1) := by decide +kernel
theorem dX4_fuelByCars_1 : decode cX4_fuelByCars 1 = .ok (.aload_n 0, 1) := by decide +kernel
theorem dX4_fuelByCars_2 : decode cX4_fuelByCars 2 = .ok (.invokevirtual 276, 3) := by decide +kernel
theorem dX4_fuelByCars_5 : decode cX4_fuelByCars 5 = .ok (.invokevirtual 255, 3) := by decide +kernel
theorem dX4_fuelByCars_8 : decode cX4_fuelByCars 8 = .ok (.ireturn, 1) := by decide +kernel
theorem dX4_fewestSlides_0 : decode cX4_fewestSlides 0 = .ok (.aload_n 0, 1) := by decide +kernel
theorem dX4_fewestSlides_1 : decode cX4_fewestSlides 1 = .ok (.aload_n 0, 1) := by decide +kernel
theorem dX4_fewestSlides_2 : decode cX4_fewestSlides 2 = .ok (.iconst 3, 1) := by decide +kernel
theorem dX4_fewestSlides_3 : decode cX4_fewestSlides 3 = .ok (.invokevirtual 279, 3) := by decide +kernel
theorem dX4_fewestSlides_6 : decode cX4_fewestSlides 6 = .ok (.invokevirtual 255, 3) := by decide +kernel
theorem dX4_fewestSlides_9 : decode cX4_fewestSlides 9 = .ok (.ireturn, 1) := by decide +kernel
theorem dX4_fewestSlidesFromEnds_0 : decode cX4_fewestSlidesFromEnds 0 = .ok (.aload_n 0, 1) := by decide +kernel
theorem dX4_fewestSlidesFromEnds_1 : decode cX4_fewestSlidesFromEnds 1 = .ok (.aload_n 0, 1) := by decide +kernel
theorem dX4_fewestSlidesFromEnds_2 : decode cX4_fewestSlidesFromEnds 2 = .ok (.invokevirtual 282, 3) := by decide +kernel
theorem dX4_fewestSlidesFromEnds_5 : decode cX4_fewestSlidesFromEnds 5 = .ok (.invokevirtual 255, 3) := by decide +kernel
theorem dX4_fewestSlidesFromEnds_8 : decode cX4_fewestSlidesFromEnds 8 = .ok (.ireturn, 1) := by decide +kernel
theorem dX4_fewestSteps_0 : decode cX4_fewestSteps 0 = .ok (.aload_n 0, 1) := by decide +kernel
theorem dX4_fewestSteps_1 : decode cX4_fewestSteps 1 = .ok (.aload_n 0, 1) := by decide +kernel
theorem dX4_fewestSteps_2 : decode cX4_fewestSteps 2 = .ok (.iconst 1, 1) := by decide +kernel
theorem dX4_fewestSteps_3 : decode cX4_fewestSteps 3 = .ok (.invokevirtual 279, 3) := by decide +kernel
theorem dX4_fewestSteps_6 : decode cX4_fewestSteps 6 = .ok (.invokevirtual 255, 3) := by decide +kernel
theorem dX4_fewestSteps_9 : decode cX4_fewestSteps 9 = .ok (.ireturn, 1) := by decide +kernel
theorem dX4_leastFuel_0 : decode cX4_leastFuel 0 = .ok (.aload_n 0, 1) := by decide +kernel
theorem dX4_leastFuel_1 : decode cX4_leastFuel 1 = .ok (.aload_n 0, 1) := by decide +kernel
theorem dX4_leastFuel_2 : decode cX4_leastFuel 2 = .ok (.invokevirtual 285, 3) := by decide +kernel
theorem dX4_leastFuel_5 : decode cX4_leastFuel 5 = .ok (.invokevirtual 255, 3) := by decide +kernel
theorem dX4_leastFuel_8 : decode cX4_leastFuel 8 = .ok (.ireturn, 1) := by decide +kernel
theorem dX4_leastFuelByRounds_0 : decode cX4_leastFuelByRounds 0 = .ok (.aload_n 0, 1) := by decide +kernel
theorem dX4_leastFuelByRounds_1 : decode cX4_leastFuelByRounds 1 = .ok (.aload_n 0, 1) := by decide +kernel
theorem dX4_leastFuelByRounds_2 : decode cX4_leastFuelByRounds 2 = .ok (.invokevirtual 285, 3) := by decide +kernel
theorem dX4_leastFuelByRounds_5 : decode cX4_leastFuelByRounds 5 = .ok (.invokevirtual 255, 3) := by decide +kernel
theorem dX4_leastFuelByRounds_8 : decode cX4_leastFuelByRounds 8 = .ok (.ireturn, 1) := by decide +kernel
theorem dX4_nextSlide_0 : decode cX4_nextSlide 0 = .ok (.aload_n 0, 1) := by decide +kernel
theorem dX4_nextSlide_1 : decode cX4_nextSlide 1 = .ok (.invokevirtual 146, 3) := by decide +kernel
theorem dX4_nextSlide_4 : decode cX4_nextSlide 4 = .ok (.ifCond .le 7, 3) := by decide +kernel
theorem dX4_nextSlide_7 : decode cX4_nextSlide 7 = .ok (.iconst 1, 1) := by decide +kernel
theorem dX4_nextSlide_8 : decode cX4_nextSlide 8 = .ok (.goto 4, 3) := by decide +kernel
theorem dX4_nextSlide_11 : decode cX4_nextSlide 11 = .ok (.iconst 0, 1) := by decide +kernel
theorem dX4_nextSlide_12 : decode cX4_nextSlide 12 = .ok (.istore_n 1, 1) := by decide +kernel
theorem dX4_nextSlide_13 : decode cX4_nextSlide 13 = .ok (.aload_n 0, 1) := by decide +kernel
theorem dX4_nextSlide_14 : decode cX4_nextSlide 14 = .ok (.iload_n 1, 1) := by decide +kernel
theorem dX4_nextSlide_15 : decode cX4_nextSlide 15 = .ok (.ifCond .eq 7, 3) := by decide +kernel
theorem dX4_nextSlide_18 : decode cX4_nextSlide 18 = .ok (.iconst 0, 1) := by decide +kernel
theorem dX4_nextSlide_19 : decode cX4_nextSlide 19 = .ok (.goto 4, 3) := by decide +kernel
theorem dX4_nextSlide_22 : decode cX4_nextSlide 22 = .ok (.iconst 1, 1) := by decide +kernel
theorem dX4_nextSlide_23 : decode cX4_nextSlide 23 = .ok (.invokevirtual 158, 3) := by decide +kernel
theorem dX4_nextSlide_26 : decode cX4_nextSlide 26 = .ok (.ifCond .eq 7, 3) := by decide +kernel
theorem dX4_nextSlide_29 : decode cX4_nextSlide 29 = .ok (.iconst 0, 1) := by decide +kernel
theorem dX4_nextSlide_30 : decode cX4_nextSlide 30 = .ok (.goto 7, 3) := by decide +kernel
theorem dX4_nextSlide_33 : decode cX4_nextSlide 33 = .ok (.aload_n 0, 1) := by decide +kernel
theorem dX4_nextSlide_34 : decode cX4_nextSlide 34 = .ok (.invokevirtual 149, 3) := by decide +kernel
theorem dX4_nextSlide_37 : decode cX4_nextSlide 37 = .ok (.ireturn, 1) := by decide +kernel
theorem dX4_nextCar_0 : decode cX4_nextCar 0 = .ok (.aload_n 0, 1) := by decide +kernel
theorem dX4_nextCar_1 : decode cX4_nextCar 1 = .ok (.invokevirtual 288, 3) := by decide +kernel
theorem dX4_nextCar_4 : decode cX4_nextCar 4 = .ok (.bipush 8, 2) := by decide +kernel
theorem dX4_nextCar_6 : decode cX4_nextCar 6 = .ok (.idiv, 1) := by decide +kernel
theorem dX4_nextCar_7 : decode cX4_nextCar 7 = .ok (.ireturn, 1) := by decide +kernel
theorem dX4_nextChange_0 : decode cX4_nextChange 0 = .ok (.aload_n 0, 1) := by decide +kernel
theorem dX4_nextChange_1 : decode cX4_nextChange 1 = .ok (.invokevirtual 288, 3) := by decide +kernel
theorem dX4_nextChange_4 : decode cX4_nextChange 4 = .ok (.istore_n 1, 1) := by decide +kernel
theorem dX4_nextChange_5 : decode cX4_nextChange 5 = .ok (.aload_n 0, 1) := by decide +kernel
theorem dX4_nextChange_6 : decode cX4_nextChange 6 = .ok (.getfield 35, 3) := by decide +kernel
theorem dX4_nextChange_9 : decode cX4_nextChange 9 = .ok (.ifCond .le 7, 3) := by decide +kernel
theorem dX4_nextChange_12 : decode cX4_nextChange 12 = .ok (.iconst 0, 1) := by decide +kernel
theorem dX4_nextChange_13 : decode cX4_nextChange 13 = .ok (.goto 9, 3) := by decide +kernel
theorem dX4_nextChange_16 : decode cX4_nextChange 16 = .ok (.iload_n 1, 1) := by decide +kernel
theorem dX4_nextChange_17 : decode cX4_nextChange 17 = .ok (.bipush 8, 2) := by decide +kernel
theorem dX4_nextChange_19 : decode cX4_nextChange 19 = .ok (.irem, 1) := by decide +kernel
theorem dX4_nextChange_20 : decode cX4_nextChange 20 = .ok (.iconst 3, 1) := by decide +kernel
theorem dX4_nextChange_21 : decode cX4_nextChange 21 = .ok (.isub, 1) := by decide +kernel
theorem dX4_nextChange_22 : decode cX4_nextChange 22 = .ok (.ireturn, 1) := by decide +kernel
theorem dX4_reached_0 : decode cX4_reached 0 = .ok (.aload_n 0, 1) := by decide +kernel
theorem dX4_reached_1 : decode cX4_reached 1 = .ok (.aload_n 0, 1) := by decide +kernel
theorem dX4_reached_2 : decode cX4_reached 2 = .ok (.getfield 13, 3) := by decide +kernel
theorem dX4_reached_5 : decode cX4_reached 5 = .ok (.iconst 0, 1) := by decide +kernel
theorem dX4_reached_6 : decode cX4_reached 6 = .ok (.iaload, 1) := by decide +kernel
theorem dX4_reached_7 : decode cX4_reached 7 = .ok (.aload_n 0, 1) := by decide +kernel
theorem dX4_reached_8 : decode cX4_reached 8 = .ok (.getfield 13, 3) := by decide +kernel
theorem dX4_reached_11 : decode cX4_reached 11 = .ok (.bipush 19, 2) := by decide +kernel
theorem dX4_reached_13 : decode cX4_reached 13 = .ok (.iaload, 1) := by decide +kernel
theorem dX4_reached_14 : decode cX4_reached 14 = .ok (.invokevirtual 97, 3) := by decide +kernel
theorem dX4_reached_17 : decode cX4_reached 17 = .ok (.aload_n 0, 1) := by decide +kernel
theorem dX4_reached_18 : decode cX4_reached 18 = .ok (.aload_n 0, 1) := by decide +kernel
theorem dX4_reached_19 : decode cX4_reached 19 = .ok (.invokevirtual 100, 3) := by decide +kernel
theorem dX4_reached_22 : decode cX4_reached 22 = .ok (.iconst 3, 1) := by decide +kernel
theorem dX4_reached_23 : decode cX4_reached 23 = .ok (.invokevirtual 103, 3) := by decide +kernel
theorem dX4_reached_26 : decode cX4_reached 26 = .ok (.iconst 0, 1) := by decide +kernel
theorem dX4_reached_27 : decode cX4_reached 27 = .ok (.istore_n 2, 1) := by decide +kernel
theorem dX4_reached_28 : decode cX4_reached 28 = .ok (.iconst 0, 1) := by decide +kernel
theorem dX4_reached_29 : decode cX4_reached 29 = .ok (.istore_n 3, 1) := by decide +kernel
theorem dX4_reached_30 : decode cX4_reached 30 = .ok (.iload_n 3, 1) := by decide +kernel
theorem dX4_reached_31 : decode cX4_reached 31 = .ok (.aload_n 0, 1) := by decide +kernel
theorem dX4_reached_32 : decode cX4_reached 32 = .ok (.getfield 67, 3) := by decide +kernel
theorem dX4_reached_35 : decode cX4_reached 35 = .ok (.if_icmp .ge 39, 3) := by decide +kernel
theorem dX4_reached_38 : decode cX4_reached 38 = .ok (.iload_n 2, 1) := by decide +kernel
theorem dX4_reached_39 : decode cX4_reached 39 = .ok (.iload_n 1, 1) := by decide +kernel
theorem dX4_reached_40 : decode cX4_reached 40 = .ok (.ifCond .eq 21, 3) := by decide +kernel
theorem dX4_reached_43 : decode cX4_reached 43 = .ok (.iload_n 1, 1) := by decide +kernel
theorem dX4_reached_44 : decode cX4_reached 44 = .ok (.iconst 1, 1) := by decide +kernel
theorem dX4_reached_45 : decode cX4_reached 45 = .ok (.if_icmp .ne 20, 3) := by decide +kernel
theorem dX4_reached_48 : decode cX4_reached 48 = .ok (.aload_n 0, 1) := by decide +kernel
theorem dX4_reached_49 : decode cX4_reached 49 = .ok (.aload_n 0, 1) := by decide +kernel
theorem dX4_reached_50 : decode cX4_reached 50 = .ok (.getfield 28, 3) := by decide +kernel
theorem dX4_reached_53 : decode cX4_reached 53 = .ok (.iload_n 3, 1) := by decide +kernel
theorem dX4_reached_54 : decode cX4_reached 54 = .ok (.iaload, 1) := by decide +kernel
theorem dX4_reached_55 : decode cX4_reached 55 = .ok (.invokevirtual 90, 3) := by decide +kernel
theorem dX4_reached_58 : decode cX4_reached 58 = .ok (.ifCond .eq 7, 3) := by decide +kernel
theorem dX4_reached_61 : decode cX4_reached 61 = .ok (.iconst 1, 1) := by decide +kernel
theorem dX4_reached_62 : decode cX4_reached 62 = .ok (.goto 4, 3) := by decide +kernel
theorem dX4_reached_65 : decode cX4_reached 65 = .ok (.iconst 0, 1) := by decide +kernel
theorem dX4_reached_66 : decode cX4_reached 66 = .ok (.iadd, 1) := by decide +kernel
theorem dX4_reached_67 : decode cX4_reached 67 = .ok (.istore_n 2, 1) := by decide +kernel
theorem dX4_reached_68 : decode cX4_reached 68 = .ok (.iinc 3 1, 3) := by decide +kernel
theorem dX4_reached_71 : decode cX4_reached 71 = .ok (.goto (-41), 3) := by decide +kernel
theorem dX4_reached_74 : decode cX4_reached 74 = .ok (.iload_n 1, 1) := by decide +kernel
theorem dX4_reached_75 : decode cX4_reached 75 = .ok (.iconst 2, 1) := by decide +kernel
theorem dX4_reached_76 : decode cX4_reached 76 = .ok (.if_icmp .ne 22, 3) := by decide +kernel
theorem dX4_reached_79 : decode cX4_reached 79 = .ok (.aload_n 0, 1) := by decide +kernel
theorem dX4_reached_80 : decode cX4_reached 80 = .ok (.getfield 25, 3) := by decide +kernel
theorem dX4_reached_83 : decode cX4_reached 83 = .ok (.aload_n 0, 1) := by decide +kernel
theorem dX4_reached_84 : decode cX4_reached 84 = .ok (.getfield 28, 3) := by decide +kernel
theorem dX4_reached_87 : decode cX4_reached 87 = .ok (.aload_n 0, 1) := by decide +kernel
theorem dX4_reached_88 : decode cX4_reached 88 = .ok (.getfield 67, 3) := by decide +kernel
theorem dX4_reached_91 : decode cX4_reached 91 = .ok (.iconst 1, 1) := by decide +kernel
theorem dX4_reached_92 : decode cX4_reached 92 = .ok (.isub, 1) := by decide +kernel
theorem dX4_reached_93 : decode cX4_reached 93 = .ok (.iaload, 1) := by decide +kernel
theorem dX4_reached_94 : decode cX4_reached 94 = .ok (.iaload, 1) := by decide +kernel
theorem dX4_reached_95 : decode cX4_reached 95 = .ok (.goto 4, 3) := by decide +kernel
theorem dX4_reached_98 : decode cX4_reached 98 = .ok (.iload_n 2, 1) := by decide +kernel
theorem dX4_reached_99 : decode cX4_reached 99 = .ok (.ireturn, 1) := by decide +kernel
theorem dX4_reachable_0 : decode cX4_reachable 0 = .ok (.aload_n 0, 1) := by decide +kernel
theorem dX4_reachable_1 : decode cX4_reachable 1 = .ok (.aload_n 0, 1) := by decide +kernel
theorem dX4_reachable_2 : decode cX4_reachable 2 = .ok (.iconst 0, 1) := by decide +kernel
theorem dX4_reachable_3 : decode cX4_reachable 3 = .ok (.invokevirtual 291, 3) := by decide +kernel
theorem dX4_reachable_6 : decode cX4_reachable 6 = .ok (.invokevirtual 255, 3) := by decide +kernel
theorem dX4_reachable_9 : decode cX4_reachable 9 = .ok (.ireturn, 1) := by decide +kernel
theorem dX4_reachableOut_0 : decode cX4_reachableOut 0 = .ok (.aload_n 0, 1) := by decide +kernel
theorem dX4_reachableOut_1 : decode cX4_reachableOut 1 = .ok (.aload_n 0, 1) := by decide +kernel
theorem dX4_reachableOut_2 : decode cX4_reachableOut 2 = .ok (.iconst 1, 1) := by decide +kernel
theorem dX4_reachableOut_3 : decode cX4_reachableOut 3 = .ok (.invokevirtual 291, 3) := by decide +kernel
theorem dX4_reachableOut_6 : decode cX4_reachableOut 6 = .ok (.invokevirtual 255, 3) := by decide +kernel
theorem dX4_reachableOut_9 : decode cX4_reachableOut 9 = .ok (.ireturn, 1) := by decide +kernel
theorem dX4_farthest_0 : decode cX4_farthest 0 = .ok (.aload_n 0, 1) := by decide +kernel
theorem dX4_farthest_1 : decode cX4_farthest 1 = .ok (.aload_n 0, 1) := by decide +kernel
theorem dX4_farthest_2 : decode cX4_farthest 2 = .ok (.iconst 2, 1) := by decide +kernel
theorem dX4_farthest_3 : decode cX4_farthest 3 = .ok (.invokevirtual 291, 3) := by decide +kernel
theorem dX4_farthest_6 : decode cX4_farthest 6 = .ok (.invokevirtual 255, 3) := by decide +kernel
theorem dX4_farthest_9 : decode cX4_farthest 9 = .ok (.ireturn, 1) := by decide +kernel
theorem dX4_all_0 : decode cX4_all 0 = .ok (.aload_n 0, 1) := by decide +kernel
theorem dX4_all_1 : decode cX4_all 1 = .ok (.aload_n 0, 1) := by decide +kernel
theorem dX4_all_2 : decode cX4_all 2 = .ok (.getfield 13, 3) := by decide +kernel
theorem dX4_all_5 : decode cX4_all 5 = .ok (.iconst 0, 1) := by decide +kernel
theorem dX4_all_6 : decode cX4_all 6 = .ok (.iaload, 1) := by decide +kernel
theorem dX4_all_7 : decode cX4_all 7 = .ok (.aload_n 0, 1) := by decide +kernel
theorem dX4_all_8 : decode cX4_all 8 = .ok (.getfield 13, 3) := by decide +kernel
theorem dX4_all_11 : decode cX4_all 11 = .ok (.bipush 19, 2) := by decide +kernel
theorem dX4_all_13 : decode cX4_all 13 = .ok (.iaload, 1) := by decide +kernel
theorem dX4_all_14 : decode cX4_all 14 = .ok (.invokevirtual 97, 3) := by decide +kernel
theorem dX4_all_17 : decode cX4_all 17 = .ok (.iconst 0, 1) := by decide +kernel
theorem dX4_all_18 : decode cX4_all 18 = .ok (.istore_n 1, 1) := by decide +kernel
theorem dX4_all_19 : decode cX4_all 19 = .ok (.iconst 0, 1) := by decide +kernel
theorem dX4_all_20 : decode cX4_all 20 = .ok (.istore_n 2, 1) := by decide +kernel
theorem dX4_all_21 : decode cX4_all 21 = .ok (.iload_n 2, 1) := by decide +kernel
theorem dX4_all_22 : decode cX4_all 22 = .ok (.iconst 1, 1) := by decide +kernel
theorem dX4_all_23 : decode cX4_all 23 = .ok (.iconst 2, 1) := by decide +kernel
theorem dX4_all_24 : decode cX4_all 24 = .ok (.aload_n 0, 1) := by decide +kernel
theorem dX4_all_25 : decode cX4_all 25 = .ok (.getfield 61, 3) := by decide +kernel
theorem dX4_all_28 : decode cX4_all 28 = .ok (.imul, 1) := by decide +kernel
theorem dX4_all_29 : decode cX4_all 29 = .ok (.ishl, 1) := by decide +kernel
theorem dX4_all_30 : decode cX4_all 30 = .ok (.if_icmp .ge 25, 3) := by decide +kernel
theorem dX4_all_33 : decode cX4_all 33 = .ok (.iload_n 1, 1) := by decide +kernel
theorem dX4_all_34 : decode cX4_all 34 = .ok (.aload_n 0, 1) := by decide +kernel
theorem dX4_all_35 : decode cX4_all 35 = .ok (.iload_n 2, 1) := by decide +kernel
theorem dX4_all_36 : decode cX4_all 36 = .ok (.invokevirtual 94, 3) := by decide +kernel
theorem dX4_all_39 : decode cX4_all 39 = .ok (.ifCond .eq 7, 3) := by decide +kernel
theorem dX4_all_42 : decode cX4_all 42 = .ok (.iconst 1, 1) := by decide +kernel
theorem dX4_all_43 : decode cX4_all 43 = .ok (.goto 4, 3) := by decide +kernel
theorem dX4_all_46 : decode cX4_all 46 = .ok (.iconst 0, 1) := by decide +kernel
theorem dX4_all_47 : decode cX4_all 47 = .ok (.iadd, 1) := by decide +kernel
theorem dX4_all_48 : decode cX4_all 48 = .ok (.istore_n 1, 1) := by decide +kernel
theorem dX4_all_49 : decode cX4_all 49 = .ok (.iinc 2 1, 3) := by decide +kernel
theorem dX4_all_52 : decode cX4_all 52 = .ok (.goto (-31), 3) := by decide +kernel
theorem dX4_all_55 : decode cX4_all 55 = .ok (.iload_n 1, 1) := by decide +kernel
theorem dX4_all_56 : decode cX4_all 56 = .ok (.ireturn, 1) := by decide +kernel
theorem dX4_arrangements_0 : decode cX4_arrangements 0 = .ok (.aload_n 0, 1) := by decide +kernel
theorem dX4_arrangements_1 : decode cX4_arrangements 1 = .ok (.aload_n 0, 1) := by decide +kernel
theorem dX4_arrangements_2 : decode cX4_arrangements 2 = .ok (.invokevirtual 294, 3) := by decide +kernel
theorem dX4_arrangements_5 : decode cX4_arrangements 5 = .ok (.invokevirtual 255, 3) := by decide +kernel
theorem dX4_arrangements_8 : decode cX4_arrangements 8 = .ok (.ireturn, 1) := by decide +kernel
theorem dX4_fewestBehind_0 : decode cX4_fewestBehind 0 = .ok (.aload_n 0, 1) := by decide +kernel
theorem dX4_fewestBehind_1 : decode cX4_fewestBehind 1 = .ok (.aload_n 0, 1) := by decide +kernel
theorem dX4_fewestBehind_2 : decode cX4_fewestBehind 2 = .ok (.iload_n 1, 1) := by decide +kernel
theorem dX4_fewestBehind_3 : decode cX4_fewestBehind 3 = .ok (.invokevirtual 178, 3) := by decide +kernel
theorem dX4_fewestBehind_6 : decode cX4_fewestBehind 6 = .ok (.ifCond .ne 7, 3) := by decide +kernel
theorem dX4_fewestBehind_9 : decode cX4_fewestBehind 9 = .ok (.iconst 1, 1) := by decide +kernel
theorem dX4_fewestBehind_10 : decode cX4_fewestBehind 10 = .ok (.goto 28, 3) := by decide +kernel
theorem dX4_fewestBehind_13 : decode cX4_fewestBehind 13 = .ok (.iload_n 2, 1) := by decide +kernel
theorem dX4_fewestBehind_14 : decode cX4_fewestBehind 14 = .ok (.invokestatic 181, 3) := by decide +kernel
theorem dX4_fewestBehind_17 : decode cX4_fewestBehind 17 = .ok (.ifCond .ne 7, 3) := by decide +kernel
theorem dX4_fewestBehind_20 : decode cX4_fewestBehind 20 = .ok (.iconst 2, 1) := by decide +kernel
theorem dX4_fewestBehind_21 : decode cX4_fewestBehind 21 = .ok (.goto 17, 3) := by decide +kernel
theorem dX4_fewestBehind_24 : decode cX4_fewestBehind 24 = .ok (.aload_n 0, 1) := by decide +kernel
theorem dX4_fewestBehind_25 : decode cX4_fewestBehind 25 = .ok (.iload_n 1, 1) := by decide +kernel
theorem dX4_fewestBehind_26 : decode cX4_fewestBehind 26 = .ok (.iload_n 2, 1) := by decide +kernel
theorem dX4_fewestBehind_27 : decode cX4_fewestBehind 27 = .ok (.invokevirtual 119, 3) := by decide +kernel
theorem dX4_fewestBehind_30 : decode cX4_fewestBehind 30 = .ok (.ifCond .eq 7, 3) := by decide +kernel
theorem dX4_fewestBehind_33 : decode cX4_fewestBehind 33 = .ok (.iconst 0, 1) := by decide +kernel
theorem dX4_fewestBehind_34 : decode cX4_fewestBehind 34 = .ok (.goto 4, 3) := by decide +kernel
theorem dX4_fewestBehind_37 : decode cX4_fewestBehind 37 = .ok (.iconst 3, 1) := by decide +kernel
theorem dX4_fewestBehind_38 : decode cX4_fewestBehind 38 = .ok (.invokevirtual 158, 3) := by decide +kernel
theorem dX4_fewestBehind_41 : decode cX4_fewestBehind 41 = .ok (.ifCond .eq 5, 3) := by decide +kernel
theorem dX4_fewestBehind_44 : decode cX4_fewestBehind 44 = .ok (.iconst 0, 1) := by decide +kernel
theorem dX4_fewestBehind_45 : decode cX4_fewestBehind 45 = .ok (.ireturn, 1) := by decide +kernel
theorem dX4_fewestBehind_46 : decode cX4_fewestBehind 46 = .ok (.aload_n 0, 1) := by decide +kernel
theorem dX4_fewestBehind_47 : decode cX4_fewestBehind 47 = .ok (.aload_n 0, 1) := by decide +kernel
theorem dX4_fewestBehind_48 : decode cX4_fewestBehind 48 = .ok (.getfield 13, 3) := by decide +kernel
theorem dX4_fewestBehind_51 : decode cX4_fewestBehind 51 = .ok (.iconst 0, 1) := by decide +kernel
theorem dX4_fewestBehind_52 : decode cX4_fewestBehind 52 = .ok (.iaload, 1) := by decide +kernel
theorem dX4_fewestBehind_53 : decode cX4_fewestBehind 53 = .ok (.aload_n 0, 1) := by decide +kernel
theorem dX4_fewestBehind_54 : decode cX4_fewestBehind 54 = .ok (.getfield 13, 3) := by decide +kernel
theorem dX4_fewestBehind_57 : decode cX4_fewestBehind 57 = .ok (.bipush 19, 2) := by decide +kernel
theorem dX4_fewestBehind_59 : decode cX4_fewestBehind 59 = .ok (.iaload, 1) := by decide +kernel
theorem dX4_fewestBehind_60 : decode cX4_fewestBehind 60 = .ok (.invokevirtual 97, 3) := by decide +kernel
theorem dX4_fewestBehind_63 : decode cX4_fewestBehind 63 = .ok (.aload_n 0, 1) := by decide +kernel
theorem dX4_fewestBehind_64 : decode cX4_fewestBehind 64 = .ok (.aload_n 0, 1) := by decide +kernel
theorem dX4_fewestBehind_65 : decode cX4_fewestBehind 65 = .ok (.invokevirtual 100, 3) := by decide +kernel
theorem dX4_fewestBehind_68 : decode cX4_fewestBehind 68 = .ok (.iload_n 2, 1) := by decide +kernel
theorem dX4_fewestBehind_69 : decode cX4_fewestBehind 69 = .ok (.iconst 2, 1) := by decide +kernel
theorem dX4_fewestBehind_70 : decode cX4_fewestBehind 70 = .ok (.iload_n 1, 1) := by decide +kernel
theorem dX4_fewestBehind_71 : decode cX4_fewestBehind 71 = .ok (.imul, 1) := by decide +kernel
theorem dX4_fewestBehind_72 : decode cX4_fewestBehind 72 = .ok (.ishl, 1) := by decide +kernel
theorem dX4_fewestBehind_73 : decode cX4_fewestBehind 73 = .ok (.iadd, 1) := by decide +kernel
theorem dX4_fewestBehind_74 : decode cX4_fewestBehind 74 = .ok (.iconst 3, 1) := by decide +kernel
theorem dX4_fewestBehind_75 : decode cX4_fewestBehind 75 = .ok (.invokevirtual 103, 3) := by decide +kernel
theorem dX4_fewestBehind_78 : decode cX4_fewestBehind 78 = .ok (.aload_n 0, 1) := by decide +kernel
theorem dX4_fewestBehind_79 : decode cX4_fewestBehind 79 = .ok (.invokevirtual 106, 3) := by decide +kernel
theorem dX4_fewestBehind_82 : decode cX4_fewestBehind 82 = .ok (.ireturn, 1) := by decide +kernel
theorem dX4_fewestWithoutLast_0 : decode cX4_fewestWithoutLast 0 = .ok (.aload_n 0, 1) := by decide +kernel
theorem dX4_fewestWithoutLast_1 : decode cX4_fewestWithoutLast 1 = .ok (.aload_n 0, 1) := by decide +kernel
theorem dX4_fewestWithoutLast_2 : decode cX4_fewestWithoutLast 2 = .ok (.getfield 13, 3) := by decide +kernel
theorem dX4_fewestWithoutLast_5 : decode cX4_fewestWithoutLast 5 = .ok (.iconst 0, 1) := by decide +kernel
theorem dX4_fewestWithoutLast_6 : decode cX4_fewestWithoutLast 6 = .ok (.iaload, 1) := by decide +kernel
theorem dX4_fewestWithoutLast_7 : decode cX4_fewestWithoutLast 7 = .ok (.iconst 1, 1) := by decide +kernel
theorem dX4_fewestWithoutLast_8 : decode cX4_fewestWithoutLast 8 = .ok (.if_icmp .le 7, 3) := by decide +kernel
theorem dX4_fewestWithoutLast_11 : decode cX4_fewestWithoutLast 11 = .ok (.iconst 0, 1) := by decide +kernel
theorem dX4_fewestWithoutLast_12 : decode cX4_fewestWithoutLast 12 = .ok (.goto 4, 3) := by decide +kernel
theorem dX4_fewestWithoutLast_15 : decode cX4_fewestWithoutLast 15 = .ok (.iconst 1, 1) := by decide +kernel
theorem dX4_fewestWithoutLast_16 : decode cX4_fewestWithoutLast 16 = .ok (.invokevirtual 158, 3) := by decide +kernel
theorem dX4_fewestWithoutLast_19 : decode cX4_fewestWithoutLast 19 = .ok (.ifCond .eq 5, 3) := by decide +kernel
theorem dX4_fewestWithoutLast_22 : decode cX4_fewestWithoutLast 22 = .ok (.iconst 0, 1) := by decide +kernel
theorem dX4_fewestWithoutLast_23 : decode cX4_fewestWithoutLast 23 = .ok (.ireturn, 1) := by decide +kernel
theorem dX4_fewestWithoutLast_24 : decode cX4_fewestWithoutLast 24 = .ok (.aload_n 0, 1) := by decide +kernel
theorem dX4_fewestWithoutLast_25 : decode cX4_fewestWithoutLast 25 = .ok (.aload_n 0, 1) := by decide +kernel
theorem dX4_fewestWithoutLast_26 : decode cX4_fewestWithoutLast 26 = .ok (.getfield 13, 3) := by decide +kernel
theorem dX4_fewestWithoutLast_29 : decode cX4_fewestWithoutLast 29 = .ok (.iconst 0, 1) := by decide +kernel
theorem dX4_fewestWithoutLast_30 : decode cX4_fewestWithoutLast 30 = .ok (.iaload, 1) := by decide +kernel
theorem dX4_fewestWithoutLast_31 : decode cX4_fewestWithoutLast 31 = .ok (.iconst 1, 1) := by decide +kernel
theorem dX4_fewestWithoutLast_32 : decode cX4_fewestWithoutLast 32 = .ok (.isub, 1) := by decide +kernel
theorem dX4_fewestWithoutLast_33 : decode cX4_fewestWithoutLast 33 = .ok (.aload_n 0, 1) := by decide +kernel
theorem dX4_fewestWithoutLast_34 : decode cX4_fewestWithoutLast 34 = .ok (.getfield 13, 3) := by decide +kernel
theorem dX4_fewestWithoutLast_37 : decode cX4_fewestWithoutLast 37 = .ok (.bipush 19, 2) := by decide +kernel
theorem dX4_fewestWithoutLast_39 : decode cX4_fewestWithoutLast 39 = .ok (.iaload, 1) := by decide +kernel
theorem dX4_fewestWithoutLast_40 : decode cX4_fewestWithoutLast 40 = .ok (.invokevirtual 97, 3) := by decide +kernel
theorem dX4_fewestWithoutLast_43 : decode cX4_fewestWithoutLast 43 = .ok (.aload_n 0, 1) := by decide +kernel
theorem dX4_fewestWithoutLast_44 : decode cX4_fewestWithoutLast 44 = .ok (.aload_n 0, 1) := by decide +kernel
theorem dX4_fewestWithoutLast_45 : decode cX4_fewestWithoutLast 45 = .ok (.invokevirtual 100, 3) := by decide +kernel
theorem dX4_fewestWithoutLast_48 : decode cX4_fewestWithoutLast 48 = .ok (.iconst 3, 1) := by decide +kernel
theorem dX4_fewestWithoutLast_49 : decode cX4_fewestWithoutLast 49 = .ok (.invokevirtual 103, 3) := by decide +kernel
theorem dX4_fewestWithoutLast_52 : decode cX4_fewestWithoutLast 52 = .ok (.aload_n 0, 1) := by decide +kernel
theorem dX4_fewestWithoutLast_53 : decode cX4_fewestWithoutLast 53 = .ok (.invokevirtual 106, 3) := by decide +kernel
theorem dX4_fewestWithoutLast_56 : decode cX4_fewestWithoutLast 56 = .ok (.ireturn, 1) := by decide +kernel
theorem dX4_fewestWithWall_0 : decode cX4_fewestWithWall 0 = .ok (.aload_n 0, 1) := by decide +kernel
theorem dX4_fewestWithWall_1 : decode cX4_fewestWithWall 1 = .ok (.iload_n 1, 1) := by decide +kernel
theorem dX4_fewestWithWall_2 : decode cX4_fewestWithWall 2 = .ok (.invokestatic 167, 3) := by decide +kernel
theorem dX4_fewestWithWall_5 : decode cX4_fewestWithWall 5 = .ok (.ifCond .ne 7, 3) := by decide +kernel
theorem dX4_fewestWithWall_8 : decode cX4_fewestWithWall 8 = .ok (.iconst 1, 1) := by decide +kernel
theorem dX4_fewestWithWall_9 : decode cX4_fewestWithWall 9 = .ok (.goto 20, 3) := by decide +kernel
theorem dX4_fewestWithWall_12 : decode cX4_fewestWithWall 12 = .ok (.aload_n 0, 1) := by decide +kernel
theorem dX4_fewestWithWall_13 : decode cX4_fewestWithWall 13 = .ok (.invokevirtual 53, 3) := by decide +kernel
theorem dX4_fewestWithWall_16 : decode cX4_fewestWithWall 16 = .ok (.iload_n 1, 1) := by decide +kernel
theorem dX4_fewestWithWall_17 : decode cX4_fewestWithWall 17 = .ok (.ishr, 1) := by decide +kernel
theorem dX4_fewestWithWall_18 : decode cX4_fewestWithWall 18 = .ok (.iconst 1, 1) := by decide +kernel
theorem dX4_fewestWithWall_19 : decode cX4_fewestWithWall 19 = .ok (.iand, 1) := by decide +kernel
theorem dX4_fewestWithWall_20 : decode cX4_fewestWithWall 20 = .ok (.iconst 1, 1) := by decide +kernel
theorem dX4_fewestWithWall_21 : decode cX4_fewestWithWall 21 = .ok (.if_icmp .ne 7, 3) := by decide +kernel
theorem dX4_fewestWithWall_24 : decode cX4_fewestWithWall 24 = .ok (.iconst 2, 1) := by decide +kernel
theorem dX4_fewestWithWall_25 : decode cX4_fewestWithWall 25 = .ok (.goto 4, 3) := by decide +kernel
theorem dX4_fewestWithWall_28 : decode cX4_fewestWithWall 28 = .ok (.iconst 0, 1) := by decide +kernel
theorem dX4_fewestWithWall_29 : decode cX4_fewestWithWall 29 = .ok (.invokevirtual 158, 3) := by decide +kernel
theorem dX4_fewestWithWall_32 : decode cX4_fewestWithWall 32 = .ok (.ifCond .eq 5, 3) := by decide +kernel
theorem dX4_fewestWithWall_35 : decode cX4_fewestWithWall 35 = .ok (.iconst 0, 1) := by decide +kernel
theorem dX4_fewestWithWall_36 : decode cX4_fewestWithWall 36 = .ok (.ireturn, 1) := by decide +kernel
theorem dX4_fewestWithWall_37 : decode cX4_fewestWithWall 37 = .ok (.aload_n 0, 1) := by decide +kernel
theorem dX4_fewestWithWall_38 : decode cX4_fewestWithWall 38 = .ok (.getfield 13, 3) := by decide +kernel
theorem dX4_fewestWithWall_41 : decode cX4_fewestWithWall 41 = .ok (.iconst 0, 1) := by decide +kernel
theorem dX4_fewestWithWall_42 : decode cX4_fewestWithWall 42 = .ok (.iaload, 1) := by decide +kernel
theorem dX4_fewestWithWall_43 : decode cX4_fewestWithWall 43 = .ok (.ifCond .ne 5, 3) := by decide +kernel
theorem dX4_fewestWithWall_46 : decode cX4_fewestWithWall 46 = .ok (.iconst (-1), 1) := by decide +kernel
theorem dX4_fewestWithWall_47 : decode cX4_fewestWithWall 47 = .ok (.ireturn, 1) := by decide +kernel
theorem dX4_fewestWithWall_48 : decode cX4_fewestWithWall 48 = .ok (.aload_n 0, 1) := by decide +kernel
theorem dX4_fewestWithWall_49 : decode cX4_fewestWithWall 49 = .ok (.aload_n 0, 1) := by decide +kernel
theorem dX4_fewestWithWall_50 : decode cX4_fewestWithWall 50 = .ok (.getfield 13, 3) := by decide +kernel
theorem dX4_fewestWithWall_53 : decode cX4_fewestWithWall 53 = .ok (.iconst 0, 1) := by decide +kernel
theorem dX4_fewestWithWall_54 : decode cX4_fewestWithWall 54 = .ok (.iaload, 1) := by decide +kernel
theorem dX4_fewestWithWall_55 : decode cX4_fewestWithWall 55 = .ok (.aload_n 0, 1) := by decide +kernel
theorem dX4_fewestWithWall_56 : decode cX4_fewestWithWall 56 = .ok (.getfield 13, 3) := by decide +kernel
theorem dX4_fewestWithWall_59 : decode cX4_fewestWithWall 59 = .ok (.bipush 19, 2) := by decide +kernel
theorem dX4_fewestWithWall_61 : decode cX4_fewestWithWall 61 = .ok (.iaload, 1) := by decide +kernel
theorem dX4_fewestWithWall_62 : decode cX4_fewestWithWall 62 = .ok (.iconst 1, 1) := by decide +kernel
theorem dX4_fewestWithWall_63 : decode cX4_fewestWithWall 63 = .ok (.iload_n 1, 1) := by decide +kernel
theorem dX4_fewestWithWall_64 : decode cX4_fewestWithWall 64 = .ok (.ishl, 1) := by decide +kernel
theorem dX4_fewestWithWall_65 : decode cX4_fewestWithWall 65 = .ok (.ior, 1) := by decide +kernel
theorem dX4_fewestWithWall_66 : decode cX4_fewestWithWall 66 = .ok (.invokevirtual 97, 3) := by decide +kernel
theorem dX4_fewestWithWall_69 : decode cX4_fewestWithWall 69 = .ok (.aload_n 0, 1) := by decide +kernel
theorem dX4_fewestWithWall_70 : decode cX4_fewestWithWall 70 = .ok (.aload_n 0, 1) := by decide +kernel
theorem dX4_fewestWithWall_71 : decode cX4_fewestWithWall 71 = .ok (.invokevirtual 100, 3) := by decide +kernel
theorem dX4_fewestWithWall_74 : decode cX4_fewestWithWall 74 = .ok (.iconst 3, 1) := by decide +kernel
theorem dX4_fewestWithWall_75 : decode cX4_fewestWithWall 75 = .ok (.invokevirtual 103, 3) := by decide +kernel
theorem dX4_fewestWithWall_78 : decode cX4_fewestWithWall 78 = .ok (.aload_n 0, 1) := by decide +kernel
theorem dX4_fewestWithWall_79 : decode cX4_fewestWithWall 79 = .ok (.invokevirtual 106, 3) := by decide +kernel
theorem dX4_fewestWithWall_82 : decode cX4_fewestWithWall 82 = .ok (.ireturn, 1) := by decide +kernel
theorem dX4_share_0 : decode cX4_share 0 = .ok (.aload_n 0, 1) := by decide +kernel
theorem dX4_share_1 : decode cX4_share 1 = .ok (.iconst 0, 1) := by decide +kernel
theorem dX4_share_2 : decode cX4_share 2 = .ok (.invokevirtual 291, 3) := by decide +kernel
theorem dX4_share_5 : decode cX4_share 5 = .ok (.istore_n 1, 1) := by decide +kernel
theorem dX4_share_6 : decode cX4_share 6 = .ok (.iload_n 1, 1) := by decide +kernel
theorem dX4_share_7 : decode cX4_share 7 = .ok (.i2d, 1) := by decide +kernel
theorem dX4_share_8 : decode cX4_share 8 = .ok (.aload_n 0, 1) := by decide +kernel
theorem dX4_share_9 : decode cX4_share 9 = .ok (.invokevirtual 294, 3) := by decide +kernel
theorem dX4_share_12 : decode cX4_share 12 = .ok (.i2d, 1) := by decide +kernel
theorem dX4_share_13 : decode cX4_share 13 = .ok (.ddiv, 1) := by decide +kernel
theorem dX4_share_14 : decode cX4_share 14 = .ok (.dreturn, 1) := by decide +kernel
theorem dX4_reachedShare_0 : decode cX4_reachedShare 0 = .ok (.aload_n 0, 1) := by decide +kernel
theorem dX4_reachedShare_1 : decode cX4_reachedShare 1 = .ok (.iconst 0, 1) := by decide +kernel
theorem dX4_reachedShare_2 : decode cX4_reachedShare 2 = .ok (.putfield 35, 3) := by decide +kernel
theorem dX4_reachedShare_5 : decode cX4_reachedShare 5 = .ok (.aload_n 0, 1) := by decide +kernel
theorem dX4_reachedShare_6 : decode cX4_reachedShare 6 = .ok (.invokevirtual 297, 3) := by decide +kernel
theorem dX4_reachedShare_9 : decode cX4_reachedShare 9 = .ok (.dreturn, 1) := by decide +kernel
theorem dX4_adds_0 : decode cX4_adds 0 = .ok (.aload_n 0, 1) := by decide +kernel
theorem dX4_adds_1 : decode cX4_adds 1 = .ok (.ldc2_w 301, 3) := by decide +kernel
theorem dX4_adds_4 : decode cX4_adds 4 = .ok (.aload_n 0, 1) := by decide +kernel
theorem dX4_adds_5 : decode cX4_adds 5 = .ok (.getfield 303, 3) := by decide +kernel
theorem dX4_adds_8 : decode cX4_adds 8 = .ok (.lmul, 1) := by decide +kernel
theorem dX4_adds_9 : decode cX4_adds 9 = .ok (.lload_n 1, 1) := by decide +kernel
theorem dX4_adds_10 : decode cX4_adds 10 = .ok (.ladd, 1) := by decide +kernel
theorem dX4_adds_11 : decode cX4_adds 11 = .ok (.putfield 303, 3) := by decide +kernel
theorem dX4_adds_14 : decode cX4_adds 14 = .ok (.return_, 1) := by decide +kernel
theorem dX4_addsCar_0 : decode cX4_addsCar 0 = .ok (.aload_n 0, 1) := by decide +kernel
theorem dX4_addsCar_1 : decode cX4_addsCar 1 = .ok (.aload_n 0, 1) := by decide +kernel
theorem dX4_addsCar_2 : decode cX4_addsCar 2 = .ok (.getfield 13, 3) := by decide +kernel
theorem dX4_addsCar_5 : decode cX4_addsCar 5 = .ok (.iconst 1, 1) := by decide +kernel
theorem dX4_addsCar_6 : decode cX4_addsCar 6 = .ok (.iload_n 1, 1) := by decide +kernel
theorem dX4_addsCar_7 : decode cX4_addsCar 7 = .ok (.iadd, 1) := by decide +kernel
theorem dX4_addsCar_8 : decode cX4_addsCar 8 = .ok (.iaload, 1) := by decide +kernel
theorem dX4_addsCar_9 : decode cX4_addsCar 9 = .ok (.i2l, 1) := by decide +kernel
theorem dX4_addsCar_10 : decode cX4_addsCar 10 = .ok (.invokevirtual 307, 3) := by decide +kernel
theorem dX4_addsCar_13 : decode cX4_addsCar 13 = .ok (.aload_n 0, 1) := by decide +kernel
theorem dX4_addsCar_14 : decode cX4_addsCar 14 = .ok (.aload_n 0, 1) := by decide +kernel
theorem dX4_addsCar_15 : decode cX4_addsCar 15 = .ok (.getfield 13, 3) := by decide +kernel
theorem dX4_addsCar_18 : decode cX4_addsCar 18 = .ok (.bipush 7, 2) := by decide +kernel
theorem dX4_addsCar_20 : decode cX4_addsCar 20 = .ok (.iload_n 1, 1) := by decide +kernel
theorem dX4_addsCar_21 : decode cX4_addsCar 21 = .ok (.iadd, 1) := by decide +kernel
theorem dX4_addsCar_22 : decode cX4_addsCar 22 = .ok (.iaload, 1) := by decide +kernel
theorem dX4_addsCar_23 : decode cX4_addsCar 23 = .ok (.i2l, 1) := by decide +kernel
theorem dX4_addsCar_24 : decode cX4_addsCar 24 = .ok (.invokevirtual 307, 3) := by decide +kernel
theorem dX4_addsCar_27 : decode cX4_addsCar 27 = .ok (.aload_n 0, 1) := by decide +kernel
theorem dX4_addsCar_28 : decode cX4_addsCar 28 = .ok (.aload_n 0, 1) := by decide +kernel
theorem dX4_addsCar_29 : decode cX4_addsCar 29 = .ok (.getfield 13, 3) := by decide +kernel
theorem dX4_addsCar_32 : decode cX4_addsCar 32 = .ok (.bipush 13, 2) := by decide +kernel
theorem dX4_addsCar_34 : decode cX4_addsCar 34 = .ok (.iload_n 1, 1) := by decide +kernel
theorem dX4_addsCar_35 : decode cX4_addsCar 35 = .ok (.iadd, 1) := by decide +kernel
theorem dX4_addsCar_36 : decode cX4_addsCar 36 = .ok (.iaload, 1) := by decide +kernel
theorem dX4_addsCar_37 : decode cX4_addsCar 37 = .ok (.i2l, 1) := by decide +kernel
theorem dX4_addsCar_38 : decode cX4_addsCar 38 = .ok (.invokevirtual 307, 3) := by decide +kernel
theorem dX4_addsCar_41 : decode cX4_addsCar 41 = .ok (.aload_n 0, 1) := by decide +kernel
theorem dX4_addsCar_42 : decode cX4_addsCar 42 = .ok (.aload_n 0, 1) := by decide +kernel
theorem dX4_addsCar_43 : decode cX4_addsCar 43 = .ok (.iload_n 1, 1) := by decide +kernel
theorem dX4_addsCar_44 : decode cX4_addsCar 44 = .ok (.invokevirtual 273, 3) := by decide +kernel
theorem dX4_addsCar_47 : decode cX4_addsCar 47 = .ok (.i2l, 1) := by decide +kernel
theorem dX4_addsCar_48 : decode cX4_addsCar 48 = .ok (.invokevirtual 307, 3) := by decide +kernel
theorem dX4_addsCar_51 : decode cX4_addsCar 51 = .ok (.aload_n 0, 1) := by decide +kernel
theorem dX4_addsCar_52 : decode cX4_addsCar 52 = .ok (.aload_n 0, 1) := by decide +kernel
theorem dX4_addsCar_53 : decode cX4_addsCar 53 = .ok (.iload_n 1, 1) := by decide +kernel
theorem dX4_addsCar_54 : decode cX4_addsCar 54 = .ok (.iconst 1, 1) := by decide +kernel
theorem dX4_addsCar_55 : decode cX4_addsCar 55 = .ok (.invokevirtual 57, 3) := by decide +kernel
theorem dX4_addsCar_58 : decode cX4_addsCar 58 = .ok (.i2l, 1) := by decide +kernel
theorem dX4_addsCar_59 : decode cX4_addsCar 59 = .ok (.invokevirtual 307, 3) := by decide +kernel
theorem dX4_addsCar_62 : decode cX4_addsCar 62 = .ok (.aload_n 0, 1) := by decide +kernel
theorem dX4_addsCar_63 : decode cX4_addsCar 63 = .ok (.aload_n 0, 1) := by decide +kernel
theorem dX4_addsCar_64 : decode cX4_addsCar 64 = .ok (.iload_n 1, 1) := by decide +kernel
theorem dX4_addsCar_65 : decode cX4_addsCar 65 = .ok (.iconst (-1), 1) := by decide +kernel
theorem dX4_addsCar_66 : decode cX4_addsCar 66 = .ok (.invokevirtual 57, 3) := by decide +kernel
theorem dX4_addsCar_69 : decode cX4_addsCar 69 = .ok (.i2l, 1) := by decide +kernel
theorem dX4_addsCar_70 : decode cX4_addsCar 70 = .ok (.invokevirtual 307, 3) := by decide +kernel
theorem dX4_addsCar_73 : decode cX4_addsCar 73 = .ok (.return_, 1) := by decide +kernel
theorem dX4_addsPlans_0 : decode cX4_addsPlans 0 = .ok (.aload_n 0, 1) := by decide +kernel
theorem dX4_addsPlans_1 : decode cX4_addsPlans 1 = .ok (.aload_n 0, 1) := by decide +kernel
theorem dX4_addsPlans_2 : decode cX4_addsPlans 2 = .ok (.iconst 3, 1) := by decide +kernel
theorem dX4_addsPlans_3 : decode cX4_addsPlans 3 = .ok (.invokevirtual 279, 3) := by decide +kernel
theorem dX4_addsPlans_6 : decode cX4_addsPlans 6 = .ok (.i2l, 1) := by decide +kernel
theorem dX4_addsPlans_7 : decode cX4_addsPlans 7 = .ok (.invokevirtual 307, 3) := by decide +kernel
theorem dX4_addsPlans_10 : decode cX4_addsPlans 10 = .ok (.aload_n 0, 1) := by decide +kernel
theorem dX4_addsPlans_11 : decode cX4_addsPlans 11 = .ok (.aload_n 0, 1) := by decide +kernel
theorem dX4_addsPlans_12 : decode cX4_addsPlans 12 = .ok (.invokevirtual 282, 3) := by decide +kernel
theorem dX4_addsPlans_15 : decode cX4_addsPlans 15 = .ok (.i2l, 1) := by decide +kernel
theorem dX4_addsPlans_16 : decode cX4_addsPlans 16 = .ok (.invokevirtual 307, 3) := by decide +kernel
theorem dX4_addsPlans_19 : decode cX4_addsPlans 19 = .ok (.aload_n 0, 1) := by decide +kernel
theorem dX4_addsPlans_20 : decode cX4_addsPlans 20 = .ok (.aload_n 0, 1) := by decide +kernel
theorem dX4_addsPlans_21 : decode cX4_addsPlans 21 = .ok (.iconst 1, 1) := by decide +kernel
theorem dX4_addsPlans_22 : decode cX4_addsPlans 22 = .ok (.invokevirtual 279, 3) := by decide +kernel
theorem dX4_addsPlans_25 : decode cX4_addsPlans 25 = .ok (.i2l, 1) := by decide +kernel
theorem dX4_addsPlans_26 : decode cX4_addsPlans 26 = .ok (.invokevirtual 307, 3) := by decide +kernel
theorem dX4_addsPlans_29 : decode cX4_addsPlans 29 = .ok (.aload_n 0, 1) := by decide +kernel
theorem dX4_addsPlans_30 : decode cX4_addsPlans 30 = .ok (.invokevirtual 285, 3) := by decide +kernel
theorem dX4_addsPlans_33 : decode cX4_addsPlans 33 = .ok (.istore_n 1, 1) := by decide +kernel
theorem dX4_addsPlans_34 : decode cX4_addsPlans 34 = .ok (.aload_n 0, 1) := by decide +kernel
theorem dX4_addsPlans_35 : decode cX4_addsPlans 35 = .ok (.iload_n 1, 1) := by decide +kernel
theorem dX4_addsPlans_36 : decode cX4_addsPlans 36 = .ok (.i2l, 1) := by decide +kernel
theorem dX4_addsPlans_37 : decode cX4_addsPlans 37 = .ok (.invokevirtual 307, 3) := by decide +kernel
theorem dX4_addsPlans_40 : decode cX4_addsPlans 40 = .ok (.aload_n 0, 1) := by decide +kernel
theorem dX4_addsPlans_41 : decode cX4_addsPlans 41 = .ok (.iload_n 1, 1) := by decide +kernel
theorem dX4_addsPlans_42 : decode cX4_addsPlans 42 = .ok (.i2l, 1) := by decide +kernel
theorem dX4_addsPlans_43 : decode cX4_addsPlans 43 = .ok (.invokevirtual 307, 3) := by decide +kernel
theorem dX4_addsPlans_46 : decode cX4_addsPlans 46 = .ok (.aload_n 0, 1) := by decide +kernel
theorem dX4_addsPlans_47 : decode cX4_addsPlans 47 = .ok (.aload_n 0, 1) := by decide +kernel
theorem dX4_addsPlans_48 : decode cX4_addsPlans 48 = .ok (.iconst 0, 1) := by decide +kernel
theorem dX4_addsPlans_49 : decode cX4_addsPlans 49 = .ok (.invokevirtual 291, 3) := by decide +kernel
theorem dX4_addsPlans_52 : decode cX4_addsPlans 52 = .ok (.i2l, 1) := by decide +kernel
theorem dX4_addsPlans_53 : decode cX4_addsPlans 53 = .ok (.invokevirtual 307, 3) := by decide +kernel
theorem dX4_addsPlans_56 : decode cX4_addsPlans 56 = .ok (.aload_n 0, 1) := by decide +kernel
theorem dX4_addsPlans_57 : decode cX4_addsPlans 57 = .ok (.aload_n 0, 1) := by decide +kernel
theorem dX4_addsPlans_58 : decode cX4_addsPlans 58 = .ok (.iconst 1, 1) := by decide +kernel
theorem dX4_addsPlans_59 : decode cX4_addsPlans 59 = .ok (.invokevirtual 291, 3) := by decide +kernel
theorem dX4_addsPlans_62 : decode cX4_addsPlans 62 = .ok (.i2l, 1) := by decide +kernel
theorem dX4_addsPlans_63 : decode cX4_addsPlans 63 = .ok (.invokevirtual 307, 3) := by decide +kernel
theorem dX4_addsPlans_66 : decode cX4_addsPlans 66 = .ok (.aload_n 0, 1) := by decide +kernel
theorem dX4_addsPlans_67 : decode cX4_addsPlans 67 = .ok (.aload_n 0, 1) := by decide +kernel
theorem dX4_addsPlans_68 : decode cX4_addsPlans 68 = .ok (.iconst 2, 1) := by decide +kernel
theorem dX4_addsPlans_69 : decode cX4_addsPlans 69 = .ok (.invokevirtual 291, 3) := by decide +kernel
theorem dX4_addsPlans_72 : decode cX4_addsPlans 72 = .ok (.i2l, 1) := by decide +kernel
theorem dX4_addsPlans_73 : decode cX4_addsPlans 73 = .ok (.invokevirtual 307, 3) := by decide +kernel
theorem dX4_addsPlans_76 : decode cX4_addsPlans 76 = .ok (.aload_n 0, 1) := by decide +kernel
theorem dX4_addsPlans_77 : decode cX4_addsPlans 77 = .ok (.aload_n 0, 1) := by decide +kernel
theorem dX4_addsPlans_78 : decode cX4_addsPlans 78 = .ok (.invokevirtual 294, 3) := by decide +kernel
theorem dX4_addsPlans_81 : decode cX4_addsPlans 81 = .ok (.i2l, 1) := by decide +kernel
theorem dX4_addsPlans_82 : decode cX4_addsPlans 82 = .ok (.invokevirtual 307, 3) := by decide +kernel
theorem dX4_addsPlans_85 : decode cX4_addsPlans 85 = .ok (.return_, 1) := by decide +kernel
theorem dX4_digest_0 : decode cX4_digest 0 = .ok (.aload_n 0, 1) := by decide +kernel
theorem dX4_digest_1 : decode cX4_digest 1 = .ok (.iconst 0, 1) := by decide +kernel
theorem dX4_digest_2 : decode cX4_digest 2 = .ok (.putfield 35, 3) := by decide +kernel
theorem dX4_digest_5 : decode cX4_digest 5 = .ok (.aload_n 0, 1) := by decide +kernel
theorem dX4_digest_6 : decode cX4_digest 6 = .ok (.ldc2_w 311, 3) := by decide +kernel
theorem dX4_digest_9 : decode cX4_digest 9 = .ok (.putfield 303, 3) := by decide +kernel
theorem dX4_digest_12 : decode cX4_digest 12 = .ok (.aload_n 0, 1) := by decide +kernel
theorem dX4_digest_13 : decode cX4_digest 13 = .ok (.aload_n 0, 1) := by decide +kernel
theorem dX4_digest_14 : decode cX4_digest 14 = .ok (.getfield 13, 3) := by decide +kernel
theorem dX4_digest_17 : decode cX4_digest 17 = .ok (.iconst 0, 1) := by decide +kernel
theorem dX4_digest_18 : decode cX4_digest 18 = .ok (.iaload, 1) := by decide +kernel
theorem dX4_digest_19 : decode cX4_digest 19 = .ok (.i2l, 1) := by decide +kernel
theorem dX4_digest_20 : decode cX4_digest 20 = .ok (.invokevirtual 307, 3) := by decide +kernel
theorem dX4_digest_23 : decode cX4_digest 23 = .ok (.aload_n 0, 1) := by decide +kernel
theorem dX4_digest_24 : decode cX4_digest 24 = .ok (.aload_n 0, 1) := by decide +kernel
theorem dX4_digest_25 : decode cX4_digest 25 = .ok (.getfield 13, 3) := by decide +kernel
theorem dX4_digest_28 : decode cX4_digest 28 = .ok (.bipush 19, 2) := by decide +kernel
theorem dX4_digest_30 : decode cX4_digest 30 = .ok (.iaload, 1) := by decide +kernel
theorem dX4_digest_31 : decode cX4_digest 31 = .ok (.invokestatic 137, 3) := by decide +kernel
theorem dX4_digest_34 : decode cX4_digest 34 = .ok (.i2l, 1) := by decide +kernel
theorem dX4_digest_35 : decode cX4_digest 35 = .ok (.invokevirtual 307, 3) := by decide +kernel
theorem dX4_digest_38 : decode cX4_digest 38 = .ok (.aload_n 0, 1) := by decide +kernel
theorem dX4_digest_39 : decode cX4_digest 39 = .ok (.bipush 25, 2) := by decide +kernel
theorem dX4_digest_41 : decode cX4_digest 41 = .ok (.aload_n 0, 1) := by decide +kernel
theorem dX4_digest_42 : decode cX4_digest 42 = .ok (.invokevirtual 53, 3) := by decide +kernel
theorem dX4_digest_45 : decode cX4_digest 45 = .ok (.invokestatic 137, 3) := by decide +kernel
theorem dX4_digest_48 : decode cX4_digest 48 = .ok (.isub, 1) := by decide +kernel
theorem dX4_digest_49 : decode cX4_digest 49 = .ok (.i2l, 1) := by decide +kernel
theorem dX4_digest_50 : decode cX4_digest 50 = .ok (.invokevirtual 307, 3) := by decide +kernel
theorem dX4_digest_53 : decode cX4_digest 53 = .ok (.aload_n 0, 1) := by decide +kernel
theorem dX4_digest_54 : decode cX4_digest 54 = .ok (.aload_n 0, 1) := by decide +kernel
theorem dX4_digest_55 : decode cX4_digest 55 = .ok (.invokevirtual 264, 3) := by decide +kernel
theorem dX4_digest_58 : decode cX4_digest 58 = .ok (.ifCond .eq 7, 3) := by decide +kernel
theorem dX4_digest_61 : decode cX4_digest 61 = .ok (.lconst 1, 1) := by decide +kernel
theorem dX4_digest_62 : decode cX4_digest 62 = .ok (.goto 4, 3) := by decide +kernel
theorem dX4_digest_65 : decode cX4_digest 65 = .ok (.lconst 0, 1) := by decide +kernel
theorem dX4_digest_66 : decode cX4_digest 66 = .ok (.invokevirtual 307, 3) := by decide +kernel
theorem dX4_digest_69 : decode cX4_digest 69 = .ok (.aload_n 0, 1) := by decide +kernel
theorem dX4_digest_70 : decode cX4_digest 70 = .ok (.aload_n 0, 1) := by decide +kernel
theorem dX4_digest_71 : decode cX4_digest 71 = .ok (.invokevirtual 267, 3) := by decide +kernel
theorem dX4_digest_74 : decode cX4_digest 74 = .ok (.i2l, 1) := by decide +kernel
theorem dX4_digest_75 : decode cX4_digest 75 = .ok (.invokevirtual 307, 3) := by decide +kernel
theorem dX4_digest_78 : decode cX4_digest 78 = .ok (.aload_n 0, 1) := by decide +kernel
theorem dX4_digest_79 : decode cX4_digest 79 = .ok (.aload_n 0, 1) := by decide +kernel
theorem dX4_digest_80 : decode cX4_digest 80 = .ok (.getfield 13, 3) := by decide +kernel
theorem dX4_digest_83 : decode cX4_digest 83 = .ok (.bipush 20, 2) := by decide +kernel
theorem dX4_digest_85 : decode cX4_digest 85 = .ok (.iaload, 1) := by decide +kernel
theorem dX4_digest_86 : decode cX4_digest 86 = .ok (.i2l, 1) := by decide +kernel
theorem dX4_digest_87 : decode cX4_digest 87 = .ok (.invokevirtual 307, 3) := by decide +kernel
theorem dX4_digest_90 : decode cX4_digest 90 = .ok (.aload_n 0, 1) := by decide +kernel
theorem dX4_digest_91 : decode cX4_digest 91 = .ok (.aload_n 0, 1) := by decide +kernel
theorem dX4_digest_92 : decode cX4_digest 92 = .ok (.invokevirtual 276, 3) := by decide +kernel
theorem dX4_digest_95 : decode cX4_digest 95 = .ok (.i2l, 1) := by decide +kernel
theorem dX4_digest_96 : decode cX4_digest 96 = .ok (.invokevirtual 307, 3) := by decide +kernel
theorem dX4_digest_99 : decode cX4_digest 99 = .ok (.aload_n 0, 1) := by decide +kernel
theorem dX4_digest_100 : decode cX4_digest 100 = .ok (.aload_n 0, 1) := by decide +kernel
theorem dX4_digest_101 : decode cX4_digest 101 = .ok (.invokevirtual 276, 3) := by decide +kernel
theorem dX4_digest_104 : decode cX4_digest 104 = .ok (.i2l, 1) := by decide +kernel
theorem dX4_digest_105 : decode cX4_digest 105 = .ok (.invokevirtual 307, 3) := by decide +kernel
theorem dX4_digest_108 : decode cX4_digest 108 = .ok (.aload_n 0, 1) := by decide +kernel
theorem dX4_digest_109 : decode cX4_digest 109 = .ok (.invokevirtual 313, 3) := by decide +kernel
theorem dX4_digest_112 : decode cX4_digest 112 = .ok (.aload_n 0, 1) := by decide +kernel
theorem dX4_digest_113 : decode cX4_digest 113 = .ok (.aload_n 0, 1) := by decide +kernel
theorem dX4_digest_114 : decode cX4_digest 114 = .ok (.getfield 123, 3) := by decide +kernel
theorem dX4_digest_117 : decode cX4_digest 117 = .ok (.i2l, 1) := by decide +kernel
theorem dX4_digest_118 : decode cX4_digest 118 = .ok (.invokevirtual 307, 3) := by decide +kernel
theorem dX4_digest_121 : decode cX4_digest 121 = .ok (.iconst 0, 1) := by decide +kernel
theorem dX4_digest_122 : decode cX4_digest 122 = .ok (.istore_n 1, 1) := by decide +kernel
theorem dX4_digest_123 : decode cX4_digest 123 = .ok (.iload_n 1, 1) := by decide +kernel
theorem dX4_digest_124 : decode cX4_digest 124 = .ok (.bipush 25, 2) := by decide +kernel
theorem dX4_digest_126 : decode cX4_digest 126 = .ok (.if_icmp .ge 36, 3) := by decide +kernel
theorem dX4_digest_129 : decode cX4_digest 129 = .ok (.aload_n 0, 1) := by decide +kernel
theorem dX4_digest_130 : decode cX4_digest 130 = .ok (.aload_n 0, 1) := by decide +kernel
theorem dX4_digest_131 : decode cX4_digest 131 = .ok (.iload_n 1, 1) := by decide +kernel
theorem dX4_digest_132 : decode cX4_digest 132 = .ok (.invokevirtual 261, 3) := by decide +kernel
theorem dX4_digest_135 : decode cX4_digest 135 = .ok (.i2l, 1) := by decide +kernel
theorem dX4_digest_136 : decode cX4_digest 136 = .ok (.invokevirtual 307, 3) := by decide +kernel
theorem dX4_digest_139 : decode cX4_digest 139 = .ok (.aload_n 0, 1) := by decide +kernel
theorem dX4_digest_140 : decode cX4_digest 140 = .ok (.aload_n 0, 1) := by decide +kernel
theorem dX4_digest_141 : decode cX4_digest 141 = .ok (.iload_n 1, 1) := by decide +kernel
theorem dX4_digest_142 : decode cX4_digest 142 = .ok (.invokevirtual 134, 3) := by decide +kernel
theorem dX4_digest_145 : decode cX4_digest 145 = .ok (.ifCond .eq 7, 3) := by decide +kernel
theorem dX4_digest_148 : decode cX4_digest 148 = .ok (.lconst 1, 1) := by decide +kernel
theorem dX4_digest_149 : decode cX4_digest 149 = .ok (.goto 4, 3) := by decide +kernel
theorem dX4_digest_152 : decode cX4_digest 152 = .ok (.lconst 0, 1) := by decide +kernel
theorem dX4_digest_153 : decode cX4_digest 153 = .ok (.invokevirtual 307, 3) := by decide +kernel
theorem dX4_digest_156 : decode cX4_digest 156 = .ok (.iinc 1 1, 3) := by decide +kernel
theorem dX4_digest_159 : decode cX4_digest 159 = .ok (.goto (-36), 3) := by decide +kernel
theorem dX4_digest_162 : decode cX4_digest 162 = .ok (.iconst 0, 1) := by decide +kernel
theorem dX4_digest_163 : decode cX4_digest 163 = .ok (.istore_n 1, 1) := by decide +kernel
theorem dX4_digest_164 : decode cX4_digest 164 = .ok (.iload_n 1, 1) := by decide +kernel
theorem dX4_digest_165 : decode cX4_digest 165 = .ok (.aload_n 0, 1) := by decide +kernel
theorem dX4_digest_166 : decode cX4_digest 166 = .ok (.getfield 13, 3) := by decide +kernel
theorem dX4_digest_169 : decode cX4_digest 169 = .ok (.iconst 0, 1) := by decide +kernel
theorem dX4_digest_170 : decode cX4_digest 170 = .ok (.iaload, 1) := by decide +kernel
theorem dX4_digest_171 : decode cX4_digest 171 = .ok (.if_icmp .ge 14, 3) := by decide +kernel
theorem dX4_digest_174 : decode cX4_digest 174 = .ok (.aload_n 0, 1) := by decide +kernel
theorem dX4_digest_175 : decode cX4_digest 175 = .ok (.iload_n 1, 1) := by decide +kernel
theorem dX4_digest_176 : decode cX4_digest 176 = .ok (.invokevirtual 316, 3) := by decide +kernel
theorem dX4_digest_179 : decode cX4_digest 179 = .ok (.iinc 1 1, 3) := by decide +kernel
theorem dX4_digest_182 : decode cX4_digest 182 = .ok (.goto (-18), 3) := by decide +kernel
theorem dX4_digest_185 : decode cX4_digest 185 = .ok (.iconst 0, 1) := by decide +kernel
theorem dX4_digest_186 : decode cX4_digest 186 = .ok (.istore_n 1, 1) := by decide +kernel
theorem dX4_digest_187 : decode cX4_digest 187 = .ok (.iload_n 1, 1) := by decide +kernel
theorem dX4_digest_188 : decode cX4_digest 188 = .ok (.aload_n 0, 1) := by decide +kernel
theorem dX4_digest_189 : decode cX4_digest 189 = .ok (.getfield 13, 3) := by decide +kernel
theorem dX4_digest_192 : decode cX4_digest 192 = .ok (.bipush 20, 2) := by decide +kernel
theorem dX4_digest_194 : decode cX4_digest 194 = .ok (.iaload, 1) := by decide +kernel
theorem dX4_digest_195 : decode cX4_digest 195 = .ok (.if_icmp .ge 29, 3) := by decide +kernel
theorem dX4_digest_198 : decode cX4_digest 198 = .ok (.aload_n 0, 1) := by decide +kernel
theorem dX4_digest_199 : decode cX4_digest 199 = .ok (.aload_n 0, 1) := by decide +kernel
theorem dX4_digest_200 : decode cX4_digest 200 = .ok (.iload_n 1, 1) := by decide +kernel
theorem dX4_digest_201 : decode cX4_digest 201 = .ok (.invokevirtual 140, 3) := by decide +kernel
theorem dX4_digest_204 : decode cX4_digest 204 = .ok (.i2l, 1) := by decide +kernel
theorem dX4_digest_205 : decode cX4_digest 205 = .ok (.invokevirtual 307, 3) := by decide +kernel
theorem dX4_digest_208 : decode cX4_digest 208 = .ok (.aload_n 0, 1) := by decide +kernel
theorem dX4_digest_209 : decode cX4_digest 209 = .ok (.aload_n 0, 1) := by decide +kernel
theorem dX4_digest_210 : decode cX4_digest 210 = .ok (.iload_n 1, 1) := by decide +kernel
theorem dX4_digest_211 : decode cX4_digest 211 = .ok (.invokevirtual 143, 3) := by decide +kernel
theorem dX4_digest_214 : decode cX4_digest 214 = .ok (.i2l, 1) := by decide +kernel
theorem dX4_digest_215 : decode cX4_digest 215 = .ok (.invokevirtual 307, 3) := by decide +kernel
theorem dX4_digest_218 : decode cX4_digest 218 = .ok (.iinc 1 1, 3) := by decide +kernel
theorem dX4_digest_221 : decode cX4_digest 221 = .ok (.goto (-34), 3) := by decide +kernel
theorem dX4_digest_224 : decode cX4_digest 224 = .ok (.aload_n 0, 1) := by decide +kernel
theorem dX4_digest_225 : decode cX4_digest 225 = .ok (.aload_n 0, 1) := by decide +kernel
theorem dX4_digest_226 : decode cX4_digest 226 = .ok (.getfield 13, 3) := by decide +kernel
theorem dX4_digest_229 : decode cX4_digest 229 = .ok (.bipush 81, 2) := by decide +kernel
theorem dX4_digest_231 : decode cX4_digest 231 = .ok (.iaload, 1) := by decide +kernel
theorem dX4_digest_232 : decode cX4_digest 232 = .ok (.iconst (-1), 1) := by decide +kernel
theorem dX4_digest_233 : decode cX4_digest 233 = .ok (.if_icmp .ne 7, 3) := by decide +kernel
theorem dX4_digest_236 : decode cX4_digest 236 = .ok (.lconst 0, 1) := by decide +kernel
theorem dX4_digest_237 : decode cX4_digest 237 = .ok (.goto 4, 3) := by decide +kernel
theorem dX4_digest_240 : decode cX4_digest 240 = .ok (.lconst 1, 1) := by decide +kernel
theorem dX4_digest_241 : decode cX4_digest 241 = .ok (.invokevirtual 307, 3) := by decide +kernel
theorem dX4_digest_244 : decode cX4_digest 244 = .ok (.aload_n 0, 1) := by decide +kernel
theorem dX4_digest_245 : decode cX4_digest 245 = .ok (.getfield 13, 3) := by decide +kernel
theorem dX4_digest_248 : decode cX4_digest 248 = .ok (.bipush 81, 2) := by decide +kernel
theorem dX4_digest_250 : decode cX4_digest 250 = .ok (.iaload, 1) := by decide +kernel
theorem dX4_digest_251 : decode cX4_digest 251 = .ok (.iconst (-1), 1) := by decide +kernel
theorem dX4_digest_252 : decode cX4_digest 252 = .ok (.if_icmp .eq 15, 3) := by decide +kernel
theorem dX4_digest_255 : decode cX4_digest 255 = .ok (.aload_n 0, 1) := by decide +kernel
theorem dX4_digest_256 : decode cX4_digest 256 = .ok (.aload_n 0, 1) := by decide +kernel
theorem dX4_digest_257 : decode cX4_digest 257 = .ok (.getfield 13, 3) := by decide +kernel
theorem dX4_digest_260 : decode cX4_digest 260 = .ok (.bipush 81, 2) := by decide +kernel
theorem dX4_digest_262 : decode cX4_digest 262 = .ok (.iaload, 1) := by decide +kernel
theorem dX4_digest_263 : decode cX4_digest 263 = .ok (.i2l, 1) := by decide +kernel
theorem dX4_digest_264 : decode cX4_digest 264 = .ok (.invokevirtual 307, 3) := by decide +kernel
theorem dX4_digest_267 : decode cX4_digest 267 = .ok (.aload_n 0, 1) := by decide +kernel
theorem dX4_digest_268 : decode cX4_digest 268 = .ok (.aload_n 0, 1) := by decide +kernel
theorem dX4_digest_269 : decode cX4_digest 269 = .ok (.invokevirtual 297, 3) := by decide +kernel
theorem dX4_digest_272 : decode cX4_digest 272 = .ok (.invokestatic 319, 3) := by decide +kernel
theorem dX4_digest_275 : decode cX4_digest 275 = .ok (.invokevirtual 307, 3) := by decide +kernel
theorem dX4_digest_278 : decode cX4_digest 278 = .ok (.aload_n 0, 1) := by decide +kernel
theorem dX4_digest_279 : decode cX4_digest 279 = .ok (.aload_n 0, 1) := by decide +kernel
theorem dX4_digest_280 : decode cX4_digest 280 = .ok (.getfield 198, 3) := by decide +kernel
theorem dX4_digest_283 : decode cX4_digest 283 = .ok (.i2l, 1) := by decide +kernel
theorem dX4_digest_284 : decode cX4_digest 284 = .ok (.invokevirtual 307, 3) := by decide +kernel
theorem dX4_digest_287 : decode cX4_digest 287 = .ok (.iconst 0, 1) := by decide +kernel
theorem dX4_digest_288 : decode cX4_digest 288 = .ok (.istore_n 1, 1) := by decide +kernel
theorem dX4_digest_289 : decode cX4_digest 289 = .ok (.iload_n 1, 1) := by decide +kernel
theorem dX4_digest_290 : decode cX4_digest 290 = .ok (.aload_n 0, 1) := by decide +kernel
theorem dX4_digest_291 : decode cX4_digest 291 = .ok (.getfield 198, 3) := by decide +kernel
theorem dX4_digest_294 : decode cX4_digest 294 = .ok (.if_icmp .ge 20, 3) := by decide +kernel
theorem dX4_digest_297 : decode cX4_digest 297 = .ok (.aload_n 0, 1) := by decide +kernel
theorem dX4_digest_298 : decode cX4_digest 298 = .ok (.aload_n 0, 1) := by decide +kernel
theorem dX4_digest_299 : decode cX4_digest 299 = .ok (.getfield 7, 3) := by decide +kernel
theorem dX4_digest_302 : decode cX4_digest 302 = .ok (.iload_n 1, 1) := by decide +kernel
theorem dX4_digest_303 : decode cX4_digest 303 = .ok (.iaload, 1) := by decide +kernel
theorem dX4_digest_304 : decode cX4_digest 304 = .ok (.i2l, 1) := by decide +kernel
theorem dX4_digest_305 : decode cX4_digest 305 = .ok (.invokevirtual 307, 3) := by decide +kernel
theorem dX4_digest_308 : decode cX4_digest 308 = .ok (.iinc 1 1, 3) := by decide +kernel
theorem dX4_digest_311 : decode cX4_digest 311 = .ok (.goto (-22), 3) := by decide +kernel
theorem dX4_digest_314 : decode cX4_digest 314 = .ok (.aload_n 0, 1) := by decide +kernel
theorem dX4_digest_315 : decode cX4_digest 315 = .ok (.getfield 303, 3) := by decide +kernel
theorem dX4_digest_318 : decode cX4_digest 318 = .ok (.lreturn, 1) := by decide +kernel
theorem dJxe99ae_isNaN_b9ae7_0 : decode cJxe99ae_isNaN_b9ae7 0 = .ok (.dload_n 0, 1) := by decide +kernel
theorem dJxe99ae_isNaN_b9ae7_1 : decode cJxe99ae_isNaN_b9ae7 1 = .ok (.dload_n 0, 1) := by decide +kernel
theorem dJxe99ae_isNaN_b9ae7_2 : decode cJxe99ae_isNaN_b9ae7 2 = .ok (.dcmp .l, 1) := by decide +kernel
theorem dJxe99ae_isNaN_b9ae7_3 : decode cJxe99ae_isNaN_b9ae7 3 = .ok (.ifCond .eq 7, 3) := by decide +kernel
theorem dJxe99ae_isNaN_b9ae7_6 : decode cJxe99ae_isNaN_b9ae7 6 = .ok (.iconst 1, 1) := by decide +kernel
theorem dJxe99ae_isNaN_b9ae7_7 : decode cJxe99ae_isNaN_b9ae7 7 = .ok (.goto 4, 3) := by decide +kernel
theorem dJxe99ae_isNaN_b9ae7_10 : decode cJxe99ae_isNaN_b9ae7 10 = .ok (.iconst 0, 1) := by decide +kernel
theorem dJxe99ae_isNaN_b9ae7_11 : decode cJxe99ae_isNaN_b9ae7 11 = .ok (.ireturn, 1) := by decide +kernel
theorem dJxe99ae_doubleToLongBits_ccdee_0 : decode cJxe99ae_doubleToLongBits_ccdee 0 = .ok (.dload_n 0, 1) := by decide +kernel
theorem dJxe99ae_doubleToLongBits_ccdee_1 : decode cJxe99ae_doubleToLongBits_ccdee 1 = .ok (.invokestatic 122, 3) := by decide +kernel
theorem dJxe99ae_doubleToLongBits_ccdee_4 : decode cJxe99ae_doubleToLongBits_ccdee 4 = .ok (.ifCond .ne 8, 3) := by decide +kernel
theorem dJxe99ae_doubleToLongBits_ccdee_7 : decode cJxe99ae_doubleToLongBits_ccdee 7 = .ok (.dload_n 0, 1) := by decide +kernel
theorem dJxe99ae_doubleToLongBits_ccdee_8 : decode cJxe99ae_doubleToLongBits_ccdee 8 = .ok (.invokestatic 134, 3) := by decide +kernel
theorem dJxe99ae_doubleToLongBits_ccdee_11 : decode cJxe99ae_doubleToLongBits_ccdee 11 = .ok (.lreturn, 1) := by decide +kernel
theorem dJxe99ae_doubleToLongBits_ccdee_12 : decode cJxe99ae_doubleToLongBits_ccdee 12 = .ok (.ldc2_w 137, 3) := by decide +kernel
theorem dJxe99ae_doubleToLongBits_ccdee_15 : decode cJxe99ae_doubleToLongBits_ccdee 15 = .ok (.lreturn, 1) := by decide +kernel
theorem dJ6_bitCount_0f7a4_0 : decode cJ6_bitCount_0f7a4 0 = .ok (.iload_n 0, 1) := by decide +kernel
theorem dJ6_bitCount_0f7a4_1 : decode cJ6_bitCount_0f7a4 1 = .ok (.iload_n 0, 1) := by decide +kernel
theorem dJ6_bitCount_0f7a4_2 : decode cJ6_bitCount_0f7a4 2 = .ok (.iconst 1, 1) := by decide +kernel
theorem dJ6_bitCount_0f7a4_3 : decode cJ6_bitCount_0f7a4 3 = .ok (.iushr, 1) := by decide +kernel
theorem dJ6_bitCount_0f7a4_4 : decode cJ6_bitCount_0f7a4 4 = .ok (.ldc_w 265, 3) := by decide +kernel
theorem dJ6_bitCount_0f7a4_7 : decode cJ6_bitCount_0f7a4 7 = .ok (.iand, 1) := by decide +kernel
theorem dJ6_bitCount_0f7a4_8 : decode cJ6_bitCount_0f7a4 8 = .ok (.isub, 1) := by decide +kernel
theorem dJ6_bitCount_0f7a4_9 : decode cJ6_bitCount_0f7a4 9 = .ok (.istore_n 0, 1) := by decide +kernel
theorem dJ6_bitCount_0f7a4_10 : decode cJ6_bitCount_0f7a4 10 = .ok (.iload_n 0, 1) := by decide +kernel
theorem dJ6_bitCount_0f7a4_11 : decode cJ6_bitCount_0f7a4 11 = .ok (.ldc_w 266, 3) := by decide +kernel
theorem dJ6_bitCount_0f7a4_14 : decode cJ6_bitCount_0f7a4 14 = .ok (.iand, 1) := by decide +kernel
theorem dJ6_bitCount_0f7a4_15 : decode cJ6_bitCount_0f7a4 15 = .ok (.iload_n 0, 1) := by decide +kernel
theorem dJ6_bitCount_0f7a4_16 : decode cJ6_bitCount_0f7a4 16 = .ok (.iconst 2, 1) := by decide +kernel
theorem dJ6_bitCount_0f7a4_17 : decode cJ6_bitCount_0f7a4 17 = .ok (.iushr, 1) := by decide +kernel
theorem dJ6_bitCount_0f7a4_18 : decode cJ6_bitCount_0f7a4 18 = .ok (.ldc_w 266, 3) := by decide +kernel
theorem dJ6_bitCount_0f7a4_21 : decode cJ6_bitCount_0f7a4 21 = .ok (.iand, 1) := by decide +kernel
theorem dJ6_bitCount_0f7a4_22 : decode cJ6_bitCount_0f7a4 22 = .ok (.iadd, 1) := by decide +kernel
theorem dJ6_bitCount_0f7a4_23 : decode cJ6_bitCount_0f7a4 23 = .ok (.istore_n 0, 1) := by decide +kernel
theorem dJ6_bitCount_0f7a4_24 : decode cJ6_bitCount_0f7a4 24 = .ok (.iload_n 0, 1) := by decide +kernel
theorem dJ6_bitCount_0f7a4_25 : decode cJ6_bitCount_0f7a4 25 = .ok (.iload_n 0, 1) := by decide +kernel
theorem dJ6_bitCount_0f7a4_26 : decode cJ6_bitCount_0f7a4 26 = .ok (.iconst 4, 1) := by decide +kernel
theorem dJ6_bitCount_0f7a4_27 : decode cJ6_bitCount_0f7a4 27 = .ok (.iushr, 1) := by decide +kernel
theorem dJ6_bitCount_0f7a4_28 : decode cJ6_bitCount_0f7a4 28 = .ok (.iadd, 1) := by decide +kernel
theorem dJ6_bitCount_0f7a4_29 : decode cJ6_bitCount_0f7a4 29 = .ok (.ldc_w 267, 3) := by decide +kernel
theorem dJ6_bitCount_0f7a4_32 : decode cJ6_bitCount_0f7a4 32 = .ok (.iand, 1) := by decide +kernel
theorem dJ6_bitCount_0f7a4_33 : decode cJ6_bitCount_0f7a4 33 = .ok (.istore_n 0, 1) := by decide +kernel
theorem dJ6_bitCount_0f7a4_34 : decode cJ6_bitCount_0f7a4 34 = .ok (.iload_n 0, 1) := by decide +kernel
theorem dJ6_bitCount_0f7a4_35 : decode cJ6_bitCount_0f7a4 35 = .ok (.iload_n 0, 1) := by decide +kernel
theorem dJ6_bitCount_0f7a4_36 : decode cJ6_bitCount_0f7a4 36 = .ok (.bipush 8, 2) := by decide +kernel
theorem dJ6_bitCount_0f7a4_38 : decode cJ6_bitCount_0f7a4 38 = .ok (.iushr, 1) := by decide +kernel
theorem dJ6_bitCount_0f7a4_39 : decode cJ6_bitCount_0f7a4 39 = .ok (.iadd, 1) := by decide +kernel
theorem dJ6_bitCount_0f7a4_40 : decode cJ6_bitCount_0f7a4 40 = .ok (.istore_n 0, 1) := by decide +kernel
theorem dJ6_bitCount_0f7a4_41 : decode cJ6_bitCount_0f7a4 41 = .ok (.iload_n 0, 1) := by decide +kernel
theorem dJ6_bitCount_0f7a4_42 : decode cJ6_bitCount_0f7a4 42 = .ok (.iload_n 0, 1) := by decide +kernel
theorem dJ6_bitCount_0f7a4_43 : decode cJ6_bitCount_0f7a4 43 = .ok (.bipush 16, 2) := by decide +kernel
theorem dJ6_bitCount_0f7a4_45 : decode cJ6_bitCount_0f7a4 45 = .ok (.iushr, 1) := by decide +kernel
theorem dJ6_bitCount_0f7a4_46 : decode cJ6_bitCount_0f7a4 46 = .ok (.iadd, 1) := by decide +kernel
theorem dJ6_bitCount_0f7a4_47 : decode cJ6_bitCount_0f7a4 47 = .ok (.istore_n 0, 1) := by decide +kernel
theorem dJ6_bitCount_0f7a4_48 : decode cJ6_bitCount_0f7a4 48 = .ok (.iload_n 0, 1) := by decide +kernel
theorem dJ6_bitCount_0f7a4_49 : decode cJ6_bitCount_0f7a4 49 = .ok (.bipush 63, 2) := by decide +kernel
theorem dJ6_bitCount_0f7a4_51 : decode cJ6_bitCount_0f7a4 51 = .ok (.iand, 1) := by decide +kernel
theorem dJ6_bitCount_0f7a4_52 : decode cJ6_bitCount_0f7a4 52 = .ok (.ireturn, 1) := by decide +kernel
theorem dJ9_abs_0f7a4_0 : decode cJ9_abs_0f7a4 0 = .ok (.iload_n 0, 1) := by decide +kernel
theorem dJ9_abs_0f7a4_1 : decode cJ9_abs_0f7a4 1 = .ok (.ifCond .ge 8, 3) := by decide +kernel
theorem dJ9_abs_0f7a4_4 : decode cJ9_abs_0f7a4 4 = .ok (.iload_n 0, 1) := by decide +kernel
theorem dJ9_abs_0f7a4_5 : decode cJ9_abs_0f7a4 5 = .ok (.ineg, 1) := by decide +kernel
theorem dJ9_abs_0f7a4_6 : decode cJ9_abs_0f7a4 6 = .ok (.goto 4, 3) := by decide +kernel
theorem dJ9_abs_0f7a4_9 : decode cJ9_abs_0f7a4 9 = .ok (.iload_n 0, 1) := by decide +kernel
theorem dJ9_abs_0f7a4_10 : decode cJ9_abs_0f7a4 10 = .ok (.ireturn, 1) := by decide +kernel
theorem dJ9_max_7cf53_0 : decode cJ9_max_7cf53 0 = .ok (.iload_n 0, 1) := by decide +kernel
theorem dJ9_max_7cf53_1 : decode cJ9_max_7cf53 1 = .ok (.iload_n 1, 1) := by decide +kernel
theorem dJ9_max_7cf53_2 : decode cJ9_max_7cf53 2 = .ok (.if_icmp .lt 7, 3) := by decide +kernel
theorem dJ9_max_7cf53_5 : decode cJ9_max_7cf53 5 = .ok (.iload_n 0, 1) := by decide +kernel
theorem dJ9_max_7cf53_6 : decode cJ9_max_7cf53 6 = .ok (.goto 4, 3) := by decide +kernel
theorem dJ9_max_7cf53_9 : decode cJ9_max_7cf53 9 = .ok (.iload_n 1, 1) := by decide +kernel
theorem dJ9_max_7cf53_10 : decode cJ9_max_7cf53 10 = .ok (.ireturn, 1) := by decide +kernel
theorem dJ9_min_7cf53_0 : decode cJ9_min_7cf53 0 = .ok (.iload_n 0, 1) := by decide +kernel
theorem dJ9_min_7cf53_1 : decode cJ9_min_7cf53 1 = .ok (.iload_n 1, 1) := by decide +kernel
theorem dJ9_min_7cf53_2 : decode cJ9_min_7cf53 2 = .ok (.if_icmp .gt 7, 3) := by decide +kernel
theorem dJ9_min_7cf53_5 : decode cJ9_min_7cf53 5 = .ok (.iload_n 0, 1) := by decide +kernel
theorem dJ9_min_7cf53_6 : decode cJ9_min_7cf53 6 = .ok (.goto 4, 3) := by decide +kernel
theorem dJ9_min_7cf53_9 : decode cJ9_min_7cf53 9 = .ok (.iload_n 1, 1) := by decide +kernel
theorem dJ9_min_7cf53_10 : decode cJ9_min_7cf53 10 = .ok (.ireturn, 1) := by decide +kernel
theorem dL_addCar_0 : decode cL_addCar 0 = .ok (.aload 4, 2) := by decide +kernel
theorem dL_addCar_2 : decode cL_addCar 2 = .ok (.iconst 0, 1) := by decide +kernel
theorem dL_addCar_3 : decode cL_addCar 3 = .ok (.aload_n 0, 1) := by decide +kernel
theorem dL_addCar_4 : decode cL_addCar 4 = .ok (.iload_n 1, 1) := by decide +kernel
theorem dL_addCar_5 : decode cL_addCar 5 = .ok (.iload_n 2, 1) := by decide +kernel
theorem dL_addCar_6 : decode cL_addCar 6 = .ok (.iload_n 3, 1) := by decide +kernel
theorem dL_addCar_7 : decode cL_addCar 7 = .ok (.invokevirtual 7, 3) := by decide +kernel
theorem dL_addCar_10 : decode cL_addCar 10 = .ok (.i2l, 1) := by decide +kernel
theorem dL_addCar_11 : decode cL_addCar 11 = .ok (.lastore, 1) := by decide +kernel
theorem dL_addCar_12 : decode cL_addCar 12 = .ok (.goto 15, 3) := by decide +kernel
theorem dL_addCar_15 : decode cL_addCar 15 = .ok (.astore 5, 2) := by decide +kernel
theorem dL_addCar_17 : decode cL_addCar 17 = .ok (.iconst 1, 1) := by decide +kernel
theorem dL_addCar_18 : decode cL_addCar 18 = .ok (.ireturn, 1) := by decide +kernel
theorem dL_addCar_19 : decode cL_addCar 19 = .ok (.astore 5, 2) := by decide +kernel
theorem dL_addCar_21 : decode cL_addCar 21 = .ok (.iconst 2, 1) := by decide +kernel
theorem dL_addCar_22 : decode cL_addCar 22 = .ok (.ireturn, 1) := by decide +kernel
theorem dL_addCar_23 : decode cL_addCar 23 = .ok (.astore 5, 2) := by decide +kernel
theorem dL_addCar_25 : decode cL_addCar 25 = .ok (.iconst 3, 1) := by decide +kernel
theorem dL_addCar_26 : decode cL_addCar 26 = .ok (.ireturn, 1) := by decide +kernel
theorem dL_addCar_27 : decode cL_addCar 27 = .ok (.iconst 0, 1) := by decide +kernel
theorem dL_addCar_28 : decode cL_addCar 28 = .ok (.ireturn, 1) := by decide +kernel
theorem dL_dropLast_0 : decode cL_dropLast 0 = .ok (.aload_n 1, 1) := by decide +kernel
theorem dL_dropLast_1 : decode cL_dropLast 1 = .ok (.iconst 0, 1) := by decide +kernel
theorem dL_dropLast_2 : decode cL_dropLast 2 = .ok (.aload_n 0, 1) := by decide +kernel
theorem dL_dropLast_3 : decode cL_dropLast 3 = .ok (.invokevirtual 19, 3) := by decide +kernel
theorem dL_dropLast_6 : decode cL_dropLast 6 = .ok (.i2l, 1) := by decide +kernel
theorem dL_dropLast_7 : decode cL_dropLast 7 = .ok (.lastore, 1) := by decide +kernel
theorem dL_dropLast_8 : decode cL_dropLast 8 = .ok (.goto 6, 3) := by decide +kernel
theorem dL_dropLast_11 : decode cL_dropLast 11 = .ok (.astore_n 2, 1) := by decide +kernel
theorem dL_dropLast_12 : decode cL_dropLast 12 = .ok (.iconst 1, 1) := by decide +kernel
theorem dL_dropLast_13 : decode cL_dropLast 13 = .ok (.ireturn, 1) := by decide +kernel
theorem dL_dropLast_14 : decode cL_dropLast 14 = .ok (.iconst 0, 1) := by decide +kernel
theorem dL_dropLast_15 : decode cL_dropLast 15 = .ok (.ireturn, 1) := by decide +kernel
theorem dL_toggleWall_0 : decode cL_toggleWall 0 = .ok (.aload_n 2, 1) := by decide +kernel
theorem dL_toggleWall_1 : decode cL_toggleWall 1 = .ok (.iconst 0, 1) := by decide +kernel
theorem dL_toggleWall_2 : decode cL_toggleWall 2 = .ok (.aload_n 0, 1) := by decide +kernel
theorem dL_toggleWall_3 : decode cL_toggleWall 3 = .ok (.iload_n 1, 1) := by decide +kernel
theorem dL_toggleWall_4 : decode cL_toggleWall 4 = .ok (.invokevirtual 23, 3) := by decide +kernel
theorem dL_toggleWall_7 : decode cL_toggleWall 7 = .ok (.ifCond .eq 7, 3) := by decide +kernel
theorem dL_toggleWall_10 : decode cL_toggleWall 10 = .ok (.lconst 1, 1) := by decide +kernel
theorem dL_toggleWall_11 : decode cL_toggleWall 11 = .ok (.goto 4, 3) := by decide +kernel
theorem dL_toggleWall_14 : decode cL_toggleWall 14 = .ok (.lconst 0, 1) := by decide +kernel
theorem dL_toggleWall_15 : decode cL_toggleWall 15 = .ok (.lastore, 1) := by decide +kernel
theorem dL_toggleWall_16 : decode cL_toggleWall 16 = .ok (.goto 9, 3) := by decide +kernel
theorem dL_toggleWall_19 : decode cL_toggleWall 19 = .ok (.astore_n 3, 1) := by decide +kernel
theorem dL_toggleWall_20 : decode cL_toggleWall 20 = .ok (.iconst 1, 1) := by decide +kernel
theorem dL_toggleWall_21 : decode cL_toggleWall 21 = .ok (.ireturn, 1) := by decide +kernel
theorem dL_toggleWall_22 : decode cL_toggleWall 22 = .ok (.astore_n 3, 1) := by decide +kernel
theorem dL_toggleWall_23 : decode cL_toggleWall 23 = .ok (.iconst 2, 1) := by decide +kernel
theorem dL_toggleWall_24 : decode cL_toggleWall 24 = .ok (.ireturn, 1) := by decide +kernel
theorem dL_toggleWall_25 : decode cL_toggleWall 25 = .ok (.iconst 0, 1) := by decide +kernel
theorem dL_toggleWall_26 : decode cL_toggleWall 26 = .ok (.ireturn, 1) := by decide +kernel
theorem dL_slide_0 : decode cL_slide 0 = .ok (.aload_n 3, 1) := by decide +kernel
theorem dL_slide_1 : decode cL_slide 1 = .ok (.iconst 0, 1) := by decide +kernel
theorem dL_slide_2 : decode cL_slide 2 = .ok (.aload_n 0, 1) := by decide +kernel
theorem dL_slide_3 : decode cL_slide 3 = .ok (.iload_n 1, 1) := by decide +kernel
theorem dL_slide_4 : decode cL_slide 4 = .ok (.iload_n 2, 1) := by decide +kernel
theorem dL_slide_5 : decode cL_slide 5 = .ok (.invokevirtual 27, 3) := by decide +kernel
theorem dL_slide_8 : decode cL_slide 8 = .ok (.i2l, 1) := by decide +kernel
theorem dL_slide_9 : decode cL_slide 9 = .ok (.lastore, 1) := by decide +kernel
theorem dL_slide_10 : decode cL_slide 10 = .ok (.goto 15, 3) := by decide +kernel
theorem dL_slide_13 : decode cL_slide 13 = .ok (.astore 4, 2) := by decide +kernel
theorem dL_slide_15 : decode cL_slide 15 = .ok (.iconst 1, 1) := by decide +kernel
theorem dL_slide_16 : decode cL_slide 16 = .ok (.ireturn, 1) := by decide +kernel
theorem dL_slide_17 : decode cL_slide 17 = .ok (.astore 4, 2) := by decide +kernel
theorem dL_slide_19 : decode cL_slide 19 = .ok (.iconst 2, 1) := by decide +kernel
theorem dL_slide_20 : decode cL_slide 20 = .ok (.ireturn, 1) := by decide +kernel
theorem dL_slide_21 : decode cL_slide 21 = .ok (.astore 4, 2) := by decide +kernel
theorem dL_slide_23 : decode cL_slide 23 = .ok (.iconst 3, 1) := by decide +kernel
theorem dL_slide_24 : decode cL_slide 24 = .ok (.ireturn, 1) := by decide +kernel
theorem dL_slide_25 : decode cL_slide 25 = .ok (.iconst 0, 1) := by decide +kernel
theorem dL_slide_26 : decode cL_slide 26 = .ok (.ireturn, 1) := by decide +kernel
theorem dL_takeBack_0 : decode cL_takeBack 0 = .ok (.aload_n 1, 1) := by decide +kernel
theorem dL_takeBack_1 : decode cL_takeBack 1 = .ok (.iconst 0, 1) := by decide +kernel
theorem dL_takeBack_2 : decode cL_takeBack 2 = .ok (.aload_n 0, 1) := by decide +kernel
theorem dL_takeBack_3 : decode cL_takeBack 3 = .ok (.invokevirtual 31, 3) := by decide +kernel
theorem dL_takeBack_6 : decode cL_takeBack 6 = .ok (.i2l, 1) := by decide +kernel
theorem dL_takeBack_7 : decode cL_takeBack 7 = .ok (.lastore, 1) := by decide +kernel
theorem dL_takeBack_8 : decode cL_takeBack 8 = .ok (.goto 6, 3) := by decide +kernel
theorem dL_takeBack_11 : decode cL_takeBack 11 = .ok (.astore_n 2, 1) := by decide +kernel
theorem dL_takeBack_12 : decode cL_takeBack 12 = .ok (.iconst 1, 1) := by decide +kernel
theorem dL_takeBack_13 : decode cL_takeBack 13 = .ok (.ireturn, 1) := by decide +kernel
theorem dL_takeBack_14 : decode cL_takeBack 14 = .ok (.iconst 0, 1) := by decide +kernel
theorem dL_takeBack_15 : decode cL_takeBack 15 = .ok (.ireturn, 1) := by decide +kernel
theorem dL_driveOut_0 : decode cL_driveOut 0 = .ok (.aload_n 1, 1) := by decide +kernel
theorem dL_driveOut_1 : decode cL_driveOut 1 = .ok (.iconst 0, 1) := by decide +kernel
theorem dL_driveOut_2 : decode cL_driveOut 2 = .ok (.aload_n 0, 1) := by decide +kernel
theorem dL_driveOut_3 : decode cL_driveOut 3 = .ok (.invokevirtual 34, 3) := by decide +kernel
theorem dL_driveOut_6 : decode cL_driveOut 6 = .ok (.i2l, 1) := by decide +kernel
theorem dL_driveOut_7 : decode cL_driveOut 7 = .ok (.lastore, 1) := by decide +kernel
theorem dL_driveOut_8 : decode cL_driveOut 8 = .ok (.goto 6, 3) := by decide +kernel
theorem dL_driveOut_11 : decode cL_driveOut 11 = .ok (.astore_n 2, 1) := by decide +kernel
theorem dL_driveOut_12 : decode cL_driveOut 12 = .ok (.iconst 1, 1) := by decide +kernel
theorem dL_driveOut_13 : decode cL_driveOut 13 = .ok (.ireturn, 1) := by decide +kernel
theorem dL_driveOut_14 : decode cL_driveOut 14 = .ok (.iconst 0, 1) := by decide +kernel
theorem dL_driveOut_15 : decode cL_driveOut 15 = .ok (.ireturn, 1) := by decide +kernel
theorem dL_append_0 : decode cL_append 0 = .ok (.aload_n 2, 1) := by decide +kernel
theorem dL_append_1 : decode cL_append 1 = .ok (.iconst 0, 1) := by decide +kernel
theorem dL_append_2 : decode cL_append 2 = .ok (.aload_n 0, 1) := by decide +kernel
theorem dL_append_3 : decode cL_append 3 = .ok (.iload_n 1, 1) := by decide +kernel
theorem dL_append_4 : decode cL_append 4 = .ok (.invokevirtual 37, 3) := by decide +kernel
theorem dL_append_7 : decode cL_append 7 = .ok (.i2l, 1) := by decide +kernel
theorem dL_append_8 : decode cL_append 8 = .ok (.lastore, 1) := by decide +kernel
theorem dL_append_9 : decode cL_append 9 = .ok (.goto 9, 3) := by decide +kernel
theorem dL_append_12 : decode cL_append 12 = .ok (.astore_n 3, 1) := by decide +kernel
theorem dL_append_13 : decode cL_append 13 = .ok (.iconst 1, 1) := by decide +kernel
theorem dL_append_14 : decode cL_append 14 = .ok (.ireturn, 1) := by decide +kernel
theorem dL_append_15 : decode cL_append 15 = .ok (.astore_n 3, 1) := by decide +kernel
theorem dL_append_16 : decode cL_append 16 = .ok (.iconst 2, 1) := by decide +kernel
theorem dL_append_17 : decode cL_append 17 = .ok (.ireturn, 1) := by decide +kernel
theorem dL_append_18 : decode cL_append 18 = .ok (.iconst 0, 1) := by decide +kernel
theorem dL_append_19 : decode cL_append 19 = .ok (.ireturn, 1) := by decide +kernel
theorem dL_work_0 : decode cL_work 0 = .ok (.aload_n 1, 1) := by decide +kernel
theorem dL_work_1 : decode cL_work 1 = .ok (.iconst 0, 1) := by decide +kernel
theorem dL_work_2 : decode cL_work 2 = .ok (.aload_n 0, 1) := by decide +kernel
theorem dL_work_3 : decode cL_work 3 = .ok (.invokevirtual 41, 3) := by decide +kernel
theorem dL_work_6 : decode cL_work 6 = .ok (.i2l, 1) := by decide +kernel
theorem dL_work_7 : decode cL_work 7 = .ok (.lastore, 1) := by decide +kernel
theorem dL_work_8 : decode cL_work 8 = .ok (.goto 6, 3) := by decide +kernel
theorem dL_work_11 : decode cL_work 11 = .ok (.astore_n 2, 1) := by decide +kernel
theorem dL_work_12 : decode cL_work 12 = .ok (.iconst 1, 1) := by decide +kernel
theorem dL_work_13 : decode cL_work 13 = .ok (.ireturn, 1) := by decide +kernel
theorem dL_work_14 : decode cL_work 14 = .ok (.iconst 0, 1) := by decide +kernel
theorem dL_work_15 : decode cL_work 15 = .ok (.ireturn, 1) := by decide +kernel
theorem dL_stoppedPart_0 : decode cL_stoppedPart 0 = .ok (.aload_n 1, 1) := by decide +kernel
theorem dL_stoppedPart_1 : decode cL_stoppedPart 1 = .ok (.iconst 0, 1) := by decide +kernel
theorem dL_stoppedPart_2 : decode cL_stoppedPart 2 = .ok (.aload_n 0, 1) := by decide +kernel
theorem dL_stoppedPart_3 : decode cL_stoppedPart 3 = .ok (.invokevirtual 44, 3) := by decide +kernel
theorem dL_stoppedPart_6 : decode cL_stoppedPart 6 = .ok (.i2l, 1) := by decide +kernel
theorem dL_stoppedPart_7 : decode cL_stoppedPart 7 = .ok (.lastore, 1) := by decide +kernel
theorem dL_stoppedPart_8 : decode cL_stoppedPart 8 = .ok (.goto 6, 3) := by decide +kernel
theorem dL_stoppedPart_11 : decode cL_stoppedPart 11 = .ok (.astore_n 2, 1) := by decide +kernel
theorem dL_stoppedPart_12 : decode cL_stoppedPart 12 = .ok (.iconst 1, 1) := by decide +kernel
theorem dL_stoppedPart_13 : decode cL_stoppedPart 13 = .ok (.ireturn, 1) := by decide +kernel
theorem dL_stoppedPart_14 : decode cL_stoppedPart 14 = .ok (.iconst 0, 1) := by decide +kernel
theorem dL_stoppedPart_15 : decode cL_stoppedPart 15 = .ok (.ireturn, 1) := by decide +kernel
theorem dL_undo_0 : decode cL_undo 0 = .ok (.aload_n 1, 1) := by decide +kernel
theorem dL_undo_1 : decode cL_undo 1 = .ok (.iconst 0, 1) := by decide +kernel
theorem dL_undo_2 : decode cL_undo 2 = .ok (.aload_n 0, 1) := by decide +kernel
theorem dL_undo_3 : decode cL_undo 3 = .ok (.invokevirtual 47, 3) := by decide +kernel
theorem dL_undo_6 : decode cL_undo 6 = .ok (.i2l, 1) := by decide +kernel
theorem dL_undo_7 : decode cL_undo 7 = .ok (.lastore, 1) := by decide +kernel
theorem dL_undo_8 : decode cL_undo 8 = .ok (.goto 6, 3) := by decide +kernel
theorem dL_undo_11 : decode cL_undo 11 = .ok (.astore_n 2, 1) := by decide +kernel
theorem dL_undo_12 : decode cL_undo 12 = .ok (.iconst 1, 1) := by decide +kernel
theorem dL_undo_13 : decode cL_undo 13 = .ok (.ireturn, 1) := by decide +kernel
theorem dL_undo_14 : decode cL_undo 14 = .ok (.iconst 0, 1) := by decide +kernel
theorem dL_undo_15 : decode cL_undo 15 = .ok (.ireturn, 1) := by decide +kernel
theorem dL_restore_0 : decode cL_restore 0 = .ok (.aload_n 1, 1) := by decide +kernel
theorem dL_restore_1 : decode cL_restore 1 = .ok (.iconst 0, 1) := by decide +kernel
theorem dL_restore_2 : decode cL_restore 2 = .ok (.aload_n 0, 1) := by decide +kernel
theorem dL_restore_3 : decode cL_restore 3 = .ok (.invokevirtual 50, 3) := by decide +kernel
theorem dL_restore_6 : decode cL_restore 6 = .ok (.i2l, 1) := by decide +kernel
theorem dL_restore_7 : decode cL_restore 7 = .ok (.lastore, 1) := by decide +kernel
theorem dL_restore_8 : decode cL_restore 8 = .ok (.goto 6, 3) := by decide +kernel
theorem dL_restore_11 : decode cL_restore 11 = .ok (.astore_n 2, 1) := by decide +kernel
theorem dL_restore_12 : decode cL_restore 12 = .ok (.iconst 1, 1) := by decide +kernel
theorem dL_restore_13 : decode cL_restore 13 = .ok (.ireturn, 1) := by decide +kernel
theorem dL_restore_14 : decode cL_restore 14 = .ok (.iconst 0, 1) := by decide +kernel
theorem dL_restore_15 : decode cL_restore 15 = .ok (.ireturn, 1) := by decide +kernel
theorem dL_laneOf_0 : decode cL_laneOf 0 = .ok (.aload_n 2, 1) := by decide +kernel
theorem dL_laneOf_1 : decode cL_laneOf 1 = .ok (.iconst 0, 1) := by decide +kernel
theorem dL_laneOf_2 : decode cL_laneOf 2 = .ok (.aload_n 0, 1) := by decide +kernel
theorem dL_laneOf_3 : decode cL_laneOf 3 = .ok (.iload_n 1, 1) := by decide +kernel
theorem dL_laneOf_4 : decode cL_laneOf 4 = .ok (.invokevirtual 53, 3) := by decide +kernel
theorem dL_laneOf_7 : decode cL_laneOf 7 = .ok (.i2l, 1) := by decide +kernel
theorem dL_laneOf_8 : decode cL_laneOf 8 = .ok (.lastore, 1) := by decide +kernel
theorem dL_laneOf_9 : decode cL_laneOf 9 = .ok (.goto 6, 3) := by decide +kernel
theorem dL_laneOf_12 : decode cL_laneOf 12 = .ok (.astore_n 3, 1) := by decide +kernel
theorem dL_laneOf_13 : decode cL_laneOf 13 = .ok (.iconst 1, 1) := by decide +kernel
theorem dL_laneOf_14 : decode cL_laneOf 14 = .ok (.ireturn, 1) := by decide +kernel
theorem dL_laneOf_15 : decode cL_laneOf 15 = .ok (.iconst 0, 1) := by decide +kernel
theorem dL_laneOf_16 : decode cL_laneOf 16 = .ok (.ireturn, 1) := by decide +kernel
theorem dL_placeOf_0 : decode cL_placeOf 0 = .ok (.aload_n 2, 1) := by decide +kernel
theorem dL_placeOf_1 : decode cL_placeOf 1 = .ok (.iconst 0, 1) := by decide +kernel
theorem dL_placeOf_2 : decode cL_placeOf 2 = .ok (.aload_n 0, 1) := by decide +kernel
theorem dL_placeOf_3 : decode cL_placeOf 3 = .ok (.iload_n 1, 1) := by decide +kernel
theorem dL_placeOf_4 : decode cL_placeOf 4 = .ok (.invokevirtual 56, 3) := by decide +kernel
theorem dL_placeOf_7 : decode cL_placeOf 7 = .ok (.i2l, 1) := by decide +kernel
theorem dL_placeOf_8 : decode cL_placeOf 8 = .ok (.lastore, 1) := by decide +kernel
theorem dL_placeOf_9 : decode cL_placeOf 9 = .ok (.goto 6, 3) := by decide +kernel
theorem dL_placeOf_12 : decode cL_placeOf 12 = .ok (.astore_n 3, 1) := by decide +kernel
theorem dL_placeOf_13 : decode cL_placeOf 13 = .ok (.iconst 1, 1) := by decide +kernel
theorem dL_placeOf_14 : decode cL_placeOf 14 = .ok (.ireturn, 1) := by decide +kernel
theorem dL_placeOf_15 : decode cL_placeOf 15 = .ok (.iconst 0, 1) := by decide +kernel
theorem dL_placeOf_16 : decode cL_placeOf 16 = .ok (.ireturn, 1) := by decide +kernel
theorem dL_lengthOf_0 : decode cL_lengthOf 0 = .ok (.aload_n 2, 1) := by decide +kernel
theorem dL_lengthOf_1 : decode cL_lengthOf 1 = .ok (.iconst 0, 1) := by decide +kernel
theorem dL_lengthOf_2 : decode cL_lengthOf 2 = .ok (.aload_n 0, 1) := by decide +kernel
theorem dL_lengthOf_3 : decode cL_lengthOf 3 = .ok (.iload_n 1, 1) := by decide +kernel
theorem dL_lengthOf_4 : decode cL_lengthOf 4 = .ok (.invokevirtual 59, 3) := by decide +kernel
theorem dL_lengthOf_7 : decode cL_lengthOf 7 = .ok (.i2l, 1) := by decide +kernel
theorem dL_lengthOf_8 : decode cL_lengthOf 8 = .ok (.lastore, 1) := by decide +kernel
theorem dL_lengthOf_9 : decode cL_lengthOf 9 = .ok (.goto 6, 3) := by decide +kernel
theorem dL_lengthOf_12 : decode cL_lengthOf 12 = .ok (.astore_n 3, 1) := by decide +kernel
theorem dL_lengthOf_13 : decode cL_lengthOf 13 = .ok (.iconst 1, 1) := by decide +kernel
theorem dL_lengthOf_14 : decode cL_lengthOf 14 = .ok (.ireturn, 1) := by decide +kernel
theorem dL_lengthOf_15 : decode cL_lengthOf 15 = .ok (.iconst 0, 1) := by decide +kernel
theorem dL_lengthOf_16 : decode cL_lengthOf 16 = .ok (.ireturn, 1) := by decide +kernel
theorem dL_carOn_0 : decode cL_carOn 0 = .ok (.aload_n 2, 1) := by decide +kernel
theorem dL_carOn_1 : decode cL_carOn 1 = .ok (.iconst 0, 1) := by decide +kernel
theorem dL_carOn_2 : decode cL_carOn 2 = .ok (.aload_n 0, 1) := by decide +kernel
theorem dL_carOn_3 : decode cL_carOn 3 = .ok (.iload_n 1, 1) := by decide +kernel
theorem dL_carOn_4 : decode cL_carOn 4 = .ok (.invokevirtual 62, 3) := by decide +kernel
theorem dL_carOn_7 : decode cL_carOn 7 = .ok (.i2l, 1) := by decide +kernel
theorem dL_carOn_8 : decode cL_carOn 8 = .ok (.lastore, 1) := by decide +kernel
theorem dL_carOn_9 : decode cL_carOn 9 = .ok (.goto 6, 3) := by decide +kernel
theorem dL_carOn_12 : decode cL_carOn 12 = .ok (.astore_n 3, 1) := by decide +kernel
theorem dL_carOn_13 : decode cL_carOn 13 = .ok (.iconst 1, 1) := by decide +kernel
theorem dL_carOn_14 : decode cL_carOn 14 = .ok (.ireturn, 1) := by decide +kernel
theorem dL_carOn_15 : decode cL_carOn 15 = .ok (.iconst 0, 1) := by decide +kernel
theorem dL_carOn_16 : decode cL_carOn 16 = .ok (.ireturn, 1) := by decide +kernel
theorem dL_isWall_0 : decode cL_isWall 0 = .ok (.aload_n 2, 1) := by decide +kernel
theorem dL_isWall_1 : decode cL_isWall 1 = .ok (.iconst 0, 1) := by decide +kernel
theorem dL_isWall_2 : decode cL_isWall 2 = .ok (.aload_n 0, 1) := by decide +kernel
theorem dL_isWall_3 : decode cL_isWall 3 = .ok (.iload_n 1, 1) := by decide +kernel
theorem dL_isWall_4 : decode cL_isWall 4 = .ok (.invokevirtual 65, 3) := by decide +kernel
theorem dL_isWall_7 : decode cL_isWall 7 = .ok (.ifCond .eq 7, 3) := by decide +kernel
theorem dL_isWall_10 : decode cL_isWall 10 = .ok (.lconst 1, 1) := by decide +kernel
theorem dL_isWall_11 : decode cL_isWall 11 = .ok (.goto 4, 3) := by decide +kernel
theorem dL_isWall_14 : decode cL_isWall 14 = .ok (.lconst 0, 1) := by decide +kernel
theorem dL_isWall_15 : decode cL_isWall 15 = .ok (.lastore, 1) := by decide +kernel
theorem dL_isWall_16 : decode cL_isWall 16 = .ok (.goto 6, 3) := by decide +kernel
theorem dL_isWall_19 : decode cL_isWall 19 = .ok (.astore_n 3, 1) := by decide +kernel
theorem dL_isWall_20 : decode cL_isWall 20 = .ok (.iconst 1, 1) := by decide +kernel
theorem dL_isWall_21 : decode cL_isWall 21 = .ok (.ireturn, 1) := by decide +kernel
theorem dL_isWall_22 : decode cL_isWall 22 = .ok (.iconst 0, 1) := by decide +kernel
theorem dL_isWall_23 : decode cL_isWall 23 = .ok (.ireturn, 1) := by decide +kernel
theorem dL_room_0 : decode cL_room 0 = .ok (.aload_n 3, 1) := by decide +kernel
theorem dL_room_1 : decode cL_room 1 = .ok (.iconst 0, 1) := by decide +kernel
theorem dL_room_2 : decode cL_room 2 = .ok (.aload_n 0, 1) := by decide +kernel
theorem dL_room_3 : decode cL_room 3 = .ok (.iload_n 1, 1) := by decide +kernel
theorem dL_room_4 : decode cL_room 4 = .ok (.iload_n 2, 1) := by decide +kernel
theorem dL_room_5 : decode cL_room 5 = .ok (.invokevirtual 68, 3) := by decide +kernel
theorem dL_room_8 : decode cL_room 8 = .ok (.i2l, 1) := by decide +kernel
theorem dL_room_9 : decode cL_room 9 = .ok (.lastore, 1) := by decide +kernel
theorem dL_room_10 : decode cL_room 10 = .ok (.goto 7, 3) := by decide +kernel
theorem dL_room_13 : decode cL_room 13 = .ok (.astore 4, 2) := by decide +kernel
theorem dL_room_15 : decode cL_room 15 = .ok (.iconst 1, 1) := by decide +kernel
theorem dL_room_16 : decode cL_room 16 = .ok (.ireturn, 1) := by decide +kernel
theorem dL_room_17 : decode cL_room 17 = .ok (.iconst 0, 1) := by decide +kernel
theorem dL_room_18 : decode cL_room 18 = .ok (.ireturn, 1) := by decide +kernel
theorem dL_carOfSlide_0 : decode cL_carOfSlide 0 = .ok (.aload_n 2, 1) := by decide +kernel
theorem dL_carOfSlide_1 : decode cL_carOfSlide 1 = .ok (.iconst 0, 1) := by decide +kernel
theorem dL_carOfSlide_2 : decode cL_carOfSlide 2 = .ok (.aload_n 0, 1) := by decide +kernel
theorem dL_carOfSlide_3 : decode cL_carOfSlide 3 = .ok (.iload_n 1, 1) := by decide +kernel
theorem dL_carOfSlide_4 : decode cL_carOfSlide 4 = .ok (.invokevirtual 72, 3) := by decide +kernel
theorem dL_carOfSlide_7 : decode cL_carOfSlide 7 = .ok (.i2l, 1) := by decide +kernel
theorem dL_carOfSlide_8 : decode cL_carOfSlide 8 = .ok (.lastore, 1) := by decide +kernel
theorem dL_carOfSlide_9 : decode cL_carOfSlide 9 = .ok (.goto 6, 3) := by decide +kernel
theorem dL_carOfSlide_12 : decode cL_carOfSlide 12 = .ok (.astore_n 3, 1) := by decide +kernel
theorem dL_carOfSlide_13 : decode cL_carOfSlide 13 = .ok (.iconst 1, 1) := by decide +kernel
theorem dL_carOfSlide_14 : decode cL_carOfSlide 14 = .ok (.ireturn, 1) := by decide +kernel
theorem dL_carOfSlide_15 : decode cL_carOfSlide 15 = .ok (.iconst 0, 1) := by decide +kernel
theorem dL_carOfSlide_16 : decode cL_carOfSlide 16 = .ok (.ireturn, 1) := by decide +kernel
theorem dL_changeBySlide_0 : decode cL_changeBySlide 0 = .ok (.aload_n 2, 1) := by decide +kernel
theorem dL_changeBySlide_1 : decode cL_changeBySlide 1 = .ok (.iconst 0, 1) := by decide +kernel
theorem dL_changeBySlide_2 : decode cL_changeBySlide 2 = .ok (.aload_n 0, 1) := by decide +kernel
theorem dL_changeBySlide_3 : decode cL_changeBySlide 3 = .ok (.iload_n 1, 1) := by decide +kernel
theorem dL_changeBySlide_4 : decode cL_changeBySlide 4 = .ok (.invokevirtual 75, 3) := by decide +kernel
theorem dL_changeBySlide_7 : decode cL_changeBySlide 7 = .ok (.i2l, 1) := by decide +kernel
theorem dL_changeBySlide_8 : decode cL_changeBySlide 8 = .ok (.lastore, 1) := by decide +kernel
theorem dL_changeBySlide_9 : decode cL_changeBySlide 9 = .ok (.goto 6, 3) := by decide +kernel
theorem dL_changeBySlide_12 : decode cL_changeBySlide 12 = .ok (.astore_n 3, 1) := by decide +kernel
theorem dL_changeBySlide_13 : decode cL_changeBySlide 13 = .ok (.iconst 1, 1) := by decide +kernel
theorem dL_changeBySlide_14 : decode cL_changeBySlide 14 = .ok (.ireturn, 1) := by decide +kernel
theorem dL_changeBySlide_15 : decode cL_changeBySlide 15 = .ok (.iconst 0, 1) := by decide +kernel
theorem dL_changeBySlide_16 : decode cL_changeBySlide 16 = .ok (.ireturn, 1) := by decide +kernel
theorem dL_stepsOf_0 : decode cL_stepsOf 0 = .ok (.aload_n 2, 1) := by decide +kernel
theorem dL_stepsOf_1 : decode cL_stepsOf 1 = .ok (.iconst 0, 1) := by decide +kernel
theorem dL_stepsOf_2 : decode cL_stepsOf 2 = .ok (.aload_n 0, 1) := by decide +kernel
theorem dL_stepsOf_3 : decode cL_stepsOf 3 = .ok (.iload_n 1, 1) := by decide +kernel
theorem dL_stepsOf_4 : decode cL_stepsOf 4 = .ok (.invokevirtual 78, 3) := by decide +kernel
theorem dL_stepsOf_7 : decode cL_stepsOf 7 = .ok (.i2l, 1) := by decide +kernel
theorem dL_stepsOf_8 : decode cL_stepsOf 8 = .ok (.lastore, 1) := by decide +kernel
theorem dL_stepsOf_9 : decode cL_stepsOf 9 = .ok (.goto 6, 3) := by decide +kernel
theorem dL_stepsOf_12 : decode cL_stepsOf 12 = .ok (.astore_n 3, 1) := by decide +kernel
theorem dL_stepsOf_13 : decode cL_stepsOf 13 = .ok (.iconst 1, 1) := by decide +kernel
theorem dL_stepsOf_14 : decode cL_stepsOf 14 = .ok (.ireturn, 1) := by decide +kernel
theorem dL_stepsOf_15 : decode cL_stepsOf 15 = .ok (.iconst 0, 1) := by decide +kernel
theorem dL_stepsOf_16 : decode cL_stepsOf 16 = .ok (.ireturn, 1) := by decide +kernel
theorem dL_nextCar_0 : decode cL_nextCar 0 = .ok (.aload_n 1, 1) := by decide +kernel
theorem dL_nextCar_1 : decode cL_nextCar 1 = .ok (.iconst 0, 1) := by decide +kernel
theorem dL_nextCar_2 : decode cL_nextCar 2 = .ok (.aload_n 0, 1) := by decide +kernel
theorem dL_nextCar_3 : decode cL_nextCar 3 = .ok (.invokevirtual 81, 3) := by decide +kernel
theorem dL_nextCar_6 : decode cL_nextCar 6 = .ok (.i2l, 1) := by decide +kernel
theorem dL_nextCar_7 : decode cL_nextCar 7 = .ok (.lastore, 1) := by decide +kernel
theorem dL_nextCar_8 : decode cL_nextCar 8 = .ok (.goto 6, 3) := by decide +kernel
theorem dL_nextCar_11 : decode cL_nextCar 11 = .ok (.astore_n 2, 1) := by decide +kernel
theorem dL_nextCar_12 : decode cL_nextCar 12 = .ok (.iconst 1, 1) := by decide +kernel
theorem dL_nextCar_13 : decode cL_nextCar 13 = .ok (.ireturn, 1) := by decide +kernel
theorem dL_nextCar_14 : decode cL_nextCar 14 = .ok (.iconst 0, 1) := by decide +kernel
theorem dL_nextCar_15 : decode cL_nextCar 15 = .ok (.ireturn, 1) := by decide +kernel
theorem dL_nextChange_0 : decode cL_nextChange 0 = .ok (.aload_n 1, 1) := by decide +kernel
theorem dL_nextChange_1 : decode cL_nextChange 1 = .ok (.iconst 0, 1) := by decide +kernel
theorem dL_nextChange_2 : decode cL_nextChange 2 = .ok (.aload_n 0, 1) := by decide +kernel
theorem dL_nextChange_3 : decode cL_nextChange 3 = .ok (.invokevirtual 84, 3) := by decide +kernel
theorem dL_nextChange_6 : decode cL_nextChange 6 = .ok (.i2l, 1) := by decide +kernel
theorem dL_nextChange_7 : decode cL_nextChange 7 = .ok (.lastore, 1) := by decide +kernel
theorem dL_nextChange_8 : decode cL_nextChange 8 = .ok (.goto 6, 3) := by decide +kernel
theorem dL_nextChange_11 : decode cL_nextChange 11 = .ok (.astore_n 2, 1) := by decide +kernel
theorem dL_nextChange_12 : decode cL_nextChange 12 = .ok (.iconst 1, 1) := by decide +kernel
theorem dL_nextChange_13 : decode cL_nextChange 13 = .ok (.ireturn, 1) := by decide +kernel
theorem dL_nextChange_14 : decode cL_nextChange 14 = .ok (.iconst 0, 1) := by decide +kernel
theorem dL_nextChange_15 : decode cL_nextChange 15 = .ok (.ireturn, 1) := by decide +kernel
theorem dL_fewestBehind_0 : decode cL_fewestBehind 0 = .ok (.aload_n 3, 1) := by decide +kernel
theorem dL_fewestBehind_1 : decode cL_fewestBehind 1 = .ok (.iconst 0, 1) := by decide +kernel
theorem dL_fewestBehind_2 : decode cL_fewestBehind 2 = .ok (.aload_n 0, 1) := by decide +kernel
theorem dL_fewestBehind_3 : decode cL_fewestBehind 3 = .ok (.iload_n 1, 1) := by decide +kernel
theorem dL_fewestBehind_4 : decode cL_fewestBehind 4 = .ok (.iload_n 2, 1) := by decide +kernel
theorem dL_fewestBehind_5 : decode cL_fewestBehind 5 = .ok (.invokevirtual 87, 3) := by decide +kernel
theorem dL_fewestBehind_8 : decode cL_fewestBehind 8 = .ok (.i2l, 1) := by decide +kernel
theorem dL_fewestBehind_9 : decode cL_fewestBehind 9 = .ok (.lastore, 1) := by decide +kernel
theorem dL_fewestBehind_10 : decode cL_fewestBehind 10 = .ok (.goto 15, 3) := by decide +kernel
theorem dL_fewestBehind_13 : decode cL_fewestBehind 13 = .ok (.astore 4, 2) := by decide +kernel
theorem dL_fewestBehind_15 : decode cL_fewestBehind 15 = .ok (.iconst 1, 1) := by decide +kernel
theorem dL_fewestBehind_16 : decode cL_fewestBehind 16 = .ok (.ireturn, 1) := by decide +kernel
theorem dL_fewestBehind_17 : decode cL_fewestBehind 17 = .ok (.astore 4, 2) := by decide +kernel
theorem dL_fewestBehind_19 : decode cL_fewestBehind 19 = .ok (.iconst 2, 1) := by decide +kernel
theorem dL_fewestBehind_20 : decode cL_fewestBehind 20 = .ok (.ireturn, 1) := by decide +kernel
theorem dL_fewestBehind_21 : decode cL_fewestBehind 21 = .ok (.astore 4, 2) := by decide +kernel
theorem dL_fewestBehind_23 : decode cL_fewestBehind 23 = .ok (.iconst 3, 1) := by decide +kernel
theorem dL_fewestBehind_24 : decode cL_fewestBehind 24 = .ok (.ireturn, 1) := by decide +kernel
theorem dL_fewestBehind_25 : decode cL_fewestBehind 25 = .ok (.iconst 0, 1) := by decide +kernel
theorem dL_fewestBehind_26 : decode cL_fewestBehind 26 = .ok (.ireturn, 1) := by decide +kernel
theorem dL_fewestWithoutLast_0 : decode cL_fewestWithoutLast 0 = .ok (.aload_n 1, 1) := by decide +kernel
theorem dL_fewestWithoutLast_1 : decode cL_fewestWithoutLast 1 = .ok (.iconst 0, 1) := by decide +kernel
theorem dL_fewestWithoutLast_2 : decode cL_fewestWithoutLast 2 = .ok (.aload_n 0, 1) := by decide +kernel
theorem dL_fewestWithoutLast_3 : decode cL_fewestWithoutLast 3 = .ok (.invokevirtual 90, 3) := by decide +kernel
theorem dL_fewestWithoutLast_6 : decode cL_fewestWithoutLast 6 = .ok (.i2l, 1) := by decide +kernel
theorem dL_fewestWithoutLast_7 : decode cL_fewestWithoutLast 7 = .ok (.lastore, 1) := by decide +kernel
theorem dL_fewestWithoutLast_8 : decode cL_fewestWithoutLast 8 = .ok (.goto 6, 3) := by decide +kernel
theorem dL_fewestWithoutLast_11 : decode cL_fewestWithoutLast 11 = .ok (.astore_n 2, 1) := by decide +kernel
theorem dL_fewestWithoutLast_12 : decode cL_fewestWithoutLast 12 = .ok (.iconst 1, 1) := by decide +kernel
theorem dL_fewestWithoutLast_13 : decode cL_fewestWithoutLast 13 = .ok (.ireturn, 1) := by decide +kernel
theorem dL_fewestWithoutLast_14 : decode cL_fewestWithoutLast 14 = .ok (.iconst 0, 1) := by decide +kernel
theorem dL_fewestWithoutLast_15 : decode cL_fewestWithoutLast 15 = .ok (.ireturn, 1) := by decide +kernel
theorem dL_fewestWithWall_0 : decode cL_fewestWithWall 0 = .ok (.aload_n 2, 1) := by decide +kernel
theorem dL_fewestWithWall_1 : decode cL_fewestWithWall 1 = .ok (.iconst 0, 1) := by decide +kernel
theorem dL_fewestWithWall_2 : decode cL_fewestWithWall 2 = .ok (.aload_n 0, 1) := by decide +kernel
theorem dL_fewestWithWall_3 : decode cL_fewestWithWall 3 = .ok (.iload_n 1, 1) := by decide +kernel
theorem dL_fewestWithWall_4 : decode cL_fewestWithWall 4 = .ok (.invokevirtual 93, 3) := by decide +kernel
theorem dL_fewestWithWall_7 : decode cL_fewestWithWall 7 = .ok (.i2l, 1) := by decide +kernel
theorem dL_fewestWithWall_8 : decode cL_fewestWithWall 8 = .ok (.lastore, 1) := by decide +kernel
theorem dL_fewestWithWall_9 : decode cL_fewestWithWall 9 = .ok (.goto 9, 3) := by decide +kernel
theorem dL_fewestWithWall_12 : decode cL_fewestWithWall 12 = .ok (.astore_n 3, 1) := by decide +kernel
theorem dL_fewestWithWall_13 : decode cL_fewestWithWall 13 = .ok (.iconst 1, 1) := by decide +kernel
theorem dL_fewestWithWall_14 : decode cL_fewestWithWall 14 = .ok (.ireturn, 1) := by decide +kernel
theorem dL_fewestWithWall_15 : decode cL_fewestWithWall 15 = .ok (.astore_n 3, 1) := by decide +kernel
theorem dL_fewestWithWall_16 : decode cL_fewestWithWall 16 = .ok (.iconst 2, 1) := by decide +kernel
theorem dL_fewestWithWall_17 : decode cL_fewestWithWall 17 = .ok (.ireturn, 1) := by decide +kernel
theorem dL_fewestWithWall_18 : decode cL_fewestWithWall 18 = .ok (.iconst 0, 1) := by decide +kernel
theorem dL_fewestWithWall_19 : decode cL_fewestWithWall 19 = .ok (.ireturn, 1) := by decide +kernel
theorem dL_law_0 : decode cL_law 0 = .ok (.new 8, 3) := by decide +kernel
theorem dL_law_3 : decode cL_law 3 = .ok (.dup, 1) := by decide +kernel
theorem dL_law_4 : decode cL_law 4 = .ok (.invokespecial 96, 3) := by decide +kernel
theorem dL_law_7 : decode cL_law 7 = .ok (.astore_n 1, 1) := by decide +kernel
theorem dL_law_8 : decode cL_law 8 = .ok (.new 97, 3) := by decide +kernel
theorem dL_law_11 : decode cL_law 11 = .ok (.dup, 1) := by decide +kernel
theorem dL_law_12 : decode cL_law 12 = .ok (.invokespecial 99, 3) := by decide +kernel
theorem dL_law_15 : decode cL_law 15 = .ok (.astore_n 2, 1) := by decide +kernel
theorem dL_law_16 : decode cL_law 16 = .ok (.iconst 1, 1) := by decide +kernel
theorem dL_law_17 : decode cL_law 17 = .ok (.newarray .long, 2) := by decide +kernel
theorem dL_law_19 : decode cL_law 19 = .ok (.astore_n 3, 1) := by decide +kernel
theorem dL_law_20 : decode cL_law 20 = .ok (.iconst 0, 1) := by decide +kernel
theorem dL_law_21 : decode cL_law 21 = .ok (.istore 4, 2) := by decide +kernel
theorem dL_law_23 : decode cL_law 23 = .ok (.iload 4, 2) := by decide +kernel
theorem dL_law_25 : decode cL_law 25 = .ok (.aload_n 0, 1) := by decide +kernel
theorem dL_law_26 : decode cL_law 26 = .ok (.arraylength, 1) := by decide +kernel
theorem dL_law_27 : decode cL_law 27 = .ok (.iconst 4, 1) := by decide +kernel
theorem dL_law_28 : decode cL_law 28 = .ok (.isub, 1) := by decide +kernel
theorem dL_law_29 : decode cL_law 29 = .ok (.if_icmp .gt 1953, 3) := by decide +kernel
theorem dL_law_32 : decode cL_law 32 = .ok (.aload_n 0, 1) := by decide +kernel
theorem dL_law_33 : decode cL_law 33 = .ok (.iload 4, 2) := by decide +kernel
theorem dL_law_35 : decode cL_law 35 = .ok (.iaload, 1) := by decide +kernel
theorem dL_law_36 : decode cL_law 36 = .ok (.bipush 63, 2) := by decide +kernel
