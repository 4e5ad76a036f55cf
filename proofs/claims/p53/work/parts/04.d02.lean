theorem dX1_makeSlide_30 : decode cX1_makeSlide 30 = .ok (.iload_n 1, 1) := by decide +kernel
theorem dX1_makeSlide_31 : decode cX1_makeSlide 31 = .ok (.dup2, 1) := by decide +kernel
theorem dX1_makeSlide_32 : decode cX1_makeSlide 32 = .ok (.iaload, 1) := by decide +kernel
theorem dX1_makeSlide_33 : decode cX1_makeSlide 33 = .ok (.iload_n 2, 1) := by decide +kernel
theorem dX1_makeSlide_34 : decode cX1_makeSlide 34 = .ok (.iadd, 1) := by decide +kernel
theorem dX1_makeSlide_35 : decode cX1_makeSlide 35 = .ok (.iastore, 1) := by decide +kernel
theorem dX1_makeSlide_36 : decode cX1_makeSlide 36 = .ok (.aload_n 0, 1) := by decide +kernel
theorem dX1_makeSlide_37 : decode cX1_makeSlide 37 = .ok (.getfield 21, 3) := by decide +kernel
theorem dX1_makeSlide_40 : decode cX1_makeSlide 40 = .ok (.aload_n 0, 1) := by decide +kernel
theorem dX1_makeSlide_41 : decode cX1_makeSlide 41 = .ok (.getfield 40, 3) := by decide +kernel
theorem dX1_makeSlide_44 : decode cX1_makeSlide 44 = .ok (.iload_n 1, 1) := by decide +kernel
theorem dX1_makeSlide_45 : decode cX1_makeSlide 45 = .ok (.iastore, 1) := by decide +kernel
theorem dX1_makeSlide_46 : decode cX1_makeSlide 46 = .ok (.aload_n 0, 1) := by decide +kernel
theorem dX1_makeSlide_47 : decode cX1_makeSlide 47 = .ok (.getfield 24, 3) := by decide +kernel
theorem dX1_makeSlide_50 : decode cX1_makeSlide 50 = .ok (.aload_n 0, 1) := by decide +kernel
theorem dX1_makeSlide_51 : decode cX1_makeSlide 51 = .ok (.getfield 40, 3) := by decide +kernel
theorem dX1_makeSlide_54 : decode cX1_makeSlide 54 = .ok (.iload_n 2, 1) := by decide +kernel
theorem dX1_makeSlide_55 : decode cX1_makeSlide 55 = .ok (.iastore, 1) := by decide +kernel
theorem dX1_makeSlide_56 : decode cX1_makeSlide 56 = .ok (.aload_n 0, 1) := by decide +kernel
theorem dX1_makeSlide_57 : decode cX1_makeSlide 57 = .ok (.dup, 1) := by decide +kernel
theorem dX1_makeSlide_58 : decode cX1_makeSlide 58 = .ok (.getfield 40, 3) := by decide +kernel
theorem dX1_makeSlide_61 : decode cX1_makeSlide 61 = .ok (.iconst 1, 1) := by decide +kernel
theorem dX1_makeSlide_62 : decode cX1_makeSlide 62 = .ok (.iadd, 1) := by decide +kernel
theorem dX1_makeSlide_63 : decode cX1_makeSlide 63 = .ok (.putfield 40, 3) := by decide +kernel
theorem dX1_makeSlide_66 : decode cX1_makeSlide 66 = .ok (.aload_n 0, 1) := by decide +kernel
theorem dX1_makeSlide_67 : decode cX1_makeSlide 67 = .ok (.getfield 15, 3) := by decide +kernel
theorem dX1_makeSlide_70 : decode cX1_makeSlide 70 = .ok (.iload_n 1, 1) := by decide +kernel
theorem dX1_makeSlide_71 : decode cX1_makeSlide 71 = .ok (.iaload, 1) := by decide +kernel
theorem dX1_makeSlide_72 : decode cX1_makeSlide 72 = .ok (.ireturn, 1) := by decide +kernel
theorem dX1_unmakeSlide_0 : decode cX1_unmakeSlide 0 = .ok (.aload_n 0, 1) := by decide +kernel
theorem dX1_unmakeSlide_1 : decode cX1_unmakeSlide 1 = .ok (.aload_n 0, 1) := by decide +kernel
theorem dX1_unmakeSlide_2 : decode cX1_unmakeSlide 2 = .ok (.getfield 40, 3) := by decide +kernel
theorem dX1_unmakeSlide_5 : decode cX1_unmakeSlide 5 = .ok (.iconst 1, 1) := by decide +kernel
theorem dX1_unmakeSlide_6 : decode cX1_unmakeSlide 6 = .ok (.isub, 1) := by decide +kernel
theorem dX1_unmakeSlide_7 : decode cX1_unmakeSlide 7 = .ok (.invokevirtual 89, 3) := by decide +kernel
theorem dX1_unmakeSlide_10 : decode cX1_unmakeSlide 10 = .ok (.ifCond .ne 5, 3) := by decide +kernel
theorem dX1_unmakeSlide_13 : decode cX1_unmakeSlide 13 = .ok (.iconst (-1), 1) := by decide +kernel
theorem dX1_unmakeSlide_14 : decode cX1_unmakeSlide 14 = .ok (.ireturn, 1) := by decide +kernel
theorem dX1_unmakeSlide_15 : decode cX1_unmakeSlide 15 = .ok (.aload_n 0, 1) := by decide +kernel
theorem dX1_unmakeSlide_16 : decode cX1_unmakeSlide 16 = .ok (.dup, 1) := by decide +kernel
theorem dX1_unmakeSlide_17 : decode cX1_unmakeSlide 17 = .ok (.getfield 40, 3) := by decide +kernel
theorem dX1_unmakeSlide_20 : decode cX1_unmakeSlide 20 = .ok (.iconst 1, 1) := by decide +kernel
theorem dX1_unmakeSlide_21 : decode cX1_unmakeSlide 21 = .ok (.isub, 1) := by decide +kernel
theorem dX1_unmakeSlide_22 : decode cX1_unmakeSlide 22 = .ok (.putfield 40, 3) := by decide +kernel
theorem dX1_unmakeSlide_25 : decode cX1_unmakeSlide 25 = .ok (.aload_n 0, 1) := by decide +kernel
theorem dX1_unmakeSlide_26 : decode cX1_unmakeSlide 26 = .ok (.getfield 21, 3) := by decide +kernel
theorem dX1_unmakeSlide_29 : decode cX1_unmakeSlide 29 = .ok (.aload_n 0, 1) := by decide +kernel
theorem dX1_unmakeSlide_30 : decode cX1_unmakeSlide 30 = .ok (.getfield 40, 3) := by decide +kernel
theorem dX1_unmakeSlide_33 : decode cX1_unmakeSlide 33 = .ok (.iaload, 1) := by decide +kernel
theorem dX1_unmakeSlide_34 : decode cX1_unmakeSlide 34 = .ok (.istore_n 1, 1) := by decide +kernel
theorem dX1_unmakeSlide_35 : decode cX1_unmakeSlide 35 = .ok (.aload_n 0, 1) := by decide +kernel
theorem dX1_unmakeSlide_36 : decode cX1_unmakeSlide 36 = .ok (.iload_n 1, 1) := by decide +kernel
theorem dX1_unmakeSlide_37 : decode cX1_unmakeSlide 37 = .ok (.invokevirtual 54, 3) := by decide +kernel
theorem dX1_unmakeSlide_40 : decode cX1_unmakeSlide 40 = .ok (.ifCond .eq 21, 3) := by decide +kernel
theorem dX1_unmakeSlide_43 : decode cX1_unmakeSlide 43 = .ok (.aload_n 0, 1) := by decide +kernel
theorem dX1_unmakeSlide_44 : decode cX1_unmakeSlide 44 = .ok (.getfield 15, 3) := by decide +kernel
theorem dX1_unmakeSlide_47 : decode cX1_unmakeSlide 47 = .ok (.iload_n 1, 1) := by decide +kernel
theorem dX1_unmakeSlide_48 : decode cX1_unmakeSlide 48 = .ok (.dup2, 1) := by decide +kernel
theorem dX1_unmakeSlide_49 : decode cX1_unmakeSlide 49 = .ok (.iaload, 1) := by decide +kernel
theorem dX1_unmakeSlide_50 : decode cX1_unmakeSlide 50 = .ok (.aload_n 0, 1) := by decide +kernel
theorem dX1_unmakeSlide_51 : decode cX1_unmakeSlide 51 = .ok (.getfield 24, 3) := by decide +kernel
theorem dX1_unmakeSlide_54 : decode cX1_unmakeSlide 54 = .ok (.aload_n 0, 1) := by decide +kernel
theorem dX1_unmakeSlide_55 : decode cX1_unmakeSlide 55 = .ok (.getfield 40, 3) := by decide +kernel
theorem dX1_unmakeSlide_58 : decode cX1_unmakeSlide 58 = .ok (.iaload, 1) := by decide +kernel
theorem dX1_unmakeSlide_59 : decode cX1_unmakeSlide 59 = .ok (.isub, 1) := by decide +kernel
theorem dX1_unmakeSlide_60 : decode cX1_unmakeSlide 60 = .ok (.iastore, 1) := by decide +kernel
theorem dX1_unmakeSlide_61 : decode cX1_unmakeSlide 61 = .ok (.iload_n 1, 1) := by decide +kernel
theorem dX1_unmakeSlide_62 : decode cX1_unmakeSlide 62 = .ok (.ireturn, 1) := by decide +kernel
theorem dX1_loggedSteps_0 : decode cX1_loggedSteps 0 = .ok (.iconst 0, 1) := by decide +kernel
theorem dX1_loggedSteps_1 : decode cX1_loggedSteps 1 = .ok (.istore_n 2, 1) := by decide +kernel
theorem dX1_loggedSteps_2 : decode cX1_loggedSteps 2 = .ok (.iconst 0, 1) := by decide +kernel
theorem dX1_loggedSteps_3 : decode cX1_loggedSteps 3 = .ok (.istore_n 3, 1) := by decide +kernel
theorem dX1_loggedSteps_4 : decode cX1_loggedSteps 4 = .ok (.iload_n 3, 1) := by decide +kernel
theorem dX1_loggedSteps_5 : decode cX1_loggedSteps 5 = .ok (.aload_n 0, 1) := by decide +kernel
theorem dX1_loggedSteps_6 : decode cX1_loggedSteps 6 = .ok (.getfield 40, 3) := by decide +kernel
theorem dX1_loggedSteps_9 : decode cX1_loggedSteps 9 = .ok (.if_icmp .ge 37, 3) := by decide +kernel
theorem dX1_loggedSteps_12 : decode cX1_loggedSteps 12 = .ok (.iload_n 3, 1) := by decide +kernel
theorem dX1_loggedSteps_13 : decode cX1_loggedSteps 13 = .ok (.bipush 60, 2) := by decide +kernel
theorem dX1_loggedSteps_15 : decode cX1_loggedSteps 15 = .ok (.if_icmp .ge 31, 3) := by decide +kernel
theorem dX1_loggedSteps_18 : decode cX1_loggedSteps 18 = .ok (.aload_n 0, 1) := by decide +kernel
theorem dX1_loggedSteps_19 : decode cX1_loggedSteps 19 = .ok (.getfield 21, 3) := by decide +kernel
theorem dX1_loggedSteps_22 : decode cX1_loggedSteps 22 = .ok (.iload_n 3, 1) := by decide +kernel
theorem dX1_loggedSteps_23 : decode cX1_loggedSteps 23 = .ok (.iaload, 1) := by decide +kernel
theorem dX1_loggedSteps_24 : decode cX1_loggedSteps 24 = .ok (.iload_n 1, 1) := by decide +kernel
theorem dX1_loggedSteps_25 : decode cX1_loggedSteps 25 = .ok (.if_icmp .ne 15, 3) := by decide +kernel
theorem dX1_loggedSteps_28 : decode cX1_loggedSteps 28 = .ok (.iload_n 2, 1) := by decide +kernel
theorem dX1_loggedSteps_29 : decode cX1_loggedSteps 29 = .ok (.aload_n 0, 1) := by decide +kernel
theorem dX1_loggedSteps_30 : decode cX1_loggedSteps 30 = .ok (.getfield 24, 3) := by decide +kernel
theorem dX1_loggedSteps_33 : decode cX1_loggedSteps 33 = .ok (.iload_n 3, 1) := by decide +kernel
theorem dX1_loggedSteps_34 : decode cX1_loggedSteps 34 = .ok (.iaload, 1) := by decide +kernel
theorem dX1_loggedSteps_35 : decode cX1_loggedSteps 35 = .ok (.invokestatic 84, 3) := by decide +kernel
theorem dX1_loggedSteps_38 : decode cX1_loggedSteps 38 = .ok (.iadd, 1) := by decide +kernel
theorem dX1_loggedSteps_39 : decode cX1_loggedSteps 39 = .ok (.istore_n 2, 1) := by decide +kernel
theorem dX1_loggedSteps_40 : decode cX1_loggedSteps 40 = .ok (.iinc 3 1, 3) := by decide +kernel
theorem dX1_loggedSteps_43 : decode cX1_loggedSteps 43 = .ok (.goto (-39), 3) := by decide +kernel
theorem dX1_loggedSteps_46 : decode cX1_loggedSteps 46 = .ok (.iload_n 2, 1) := by decide +kernel
theorem dX1_loggedSteps_47 : decode cX1_loggedSteps 47 = .ok (.ireturn, 1) := by decide +kernel
theorem dX1_fuelSlideBySlide_0 : decode cX1_fuelSlideBySlide 0 = .ok (.iconst 0, 1) := by decide +kernel
theorem dX1_fuelSlideBySlide_1 : decode cX1_fuelSlideBySlide 1 = .ok (.istore_n 1, 1) := by decide +kernel
theorem dX1_fuelSlideBySlide_2 : decode cX1_fuelSlideBySlide 2 = .ok (.iconst 0, 1) := by decide +kernel
theorem dX1_fuelSlideBySlide_3 : decode cX1_fuelSlideBySlide 3 = .ok (.istore_n 2, 1) := by decide +kernel
theorem dX1_fuelSlideBySlide_4 : decode cX1_fuelSlideBySlide 4 = .ok (.iload_n 2, 1) := by decide +kernel
theorem dX1_fuelSlideBySlide_5 : decode cX1_fuelSlideBySlide 5 = .ok (.aload_n 0, 1) := by decide +kernel
theorem dX1_fuelSlideBySlide_6 : decode cX1_fuelSlideBySlide 6 = .ok (.getfield 40, 3) := by decide +kernel
theorem dX1_fuelSlideBySlide_9 : decode cX1_fuelSlideBySlide 9 = .ok (.if_icmp .ge 53, 3) := by decide +kernel
theorem dX1_fuelSlideBySlide_12 : decode cX1_fuelSlideBySlide 12 = .ok (.iload_n 2, 1) := by decide +kernel
theorem dX1_fuelSlideBySlide_13 : decode cX1_fuelSlideBySlide 13 = .ok (.bipush 60, 2) := by decide +kernel
theorem dX1_fuelSlideBySlide_15 : decode cX1_fuelSlideBySlide 15 = .ok (.if_icmp .ge 47, 3) := by decide +kernel
theorem dX1_fuelSlideBySlide_18 : decode cX1_fuelSlideBySlide 18 = .ok (.aload_n 0, 1) := by decide +kernel
theorem dX1_fuelSlideBySlide_19 : decode cX1_fuelSlideBySlide 19 = .ok (.getfield 21, 3) := by decide +kernel
theorem dX1_fuelSlideBySlide_22 : decode cX1_fuelSlideBySlide 22 = .ok (.iload_n 2, 1) := by decide +kernel
theorem dX1_fuelSlideBySlide_23 : decode cX1_fuelSlideBySlide 23 = .ok (.iaload, 1) := by decide +kernel
theorem dX1_fuelSlideBySlide_24 : decode cX1_fuelSlideBySlide 24 = .ok (.istore_n 3, 1) := by decide +kernel
theorem dX1_fuelSlideBySlide_25 : decode cX1_fuelSlideBySlide 25 = .ok (.iload_n 1, 1) := by decide +kernel
theorem dX1_fuelSlideBySlide_26 : decode cX1_fuelSlideBySlide 26 = .ok (.aload_n 0, 1) := by decide +kernel
theorem dX1_fuelSlideBySlide_27 : decode cX1_fuelSlideBySlide 27 = .ok (.iload_n 3, 1) := by decide +kernel
theorem dX1_fuelSlideBySlide_28 : decode cX1_fuelSlideBySlide 28 = .ok (.invokevirtual 54, 3) := by decide +kernel
theorem dX1_fuelSlideBySlide_31 : decode cX1_fuelSlideBySlide 31 = .ok (.ifCond .eq 22, 3) := by decide +kernel
theorem dX1_fuelSlideBySlide_34 : decode cX1_fuelSlideBySlide 34 = .ok (.aload_n 0, 1) := by decide +kernel
theorem dX1_fuelSlideBySlide_35 : decode cX1_fuelSlideBySlide 35 = .ok (.getfield 24, 3) := by decide +kernel
theorem dX1_fuelSlideBySlide_38 : decode cX1_fuelSlideBySlide 38 = .ok (.iload_n 2, 1) := by decide +kernel
theorem dX1_fuelSlideBySlide_39 : decode cX1_fuelSlideBySlide 39 = .ok (.iaload, 1) := by decide +kernel
theorem dX1_fuelSlideBySlide_40 : decode cX1_fuelSlideBySlide 40 = .ok (.invokestatic 84, 3) := by decide +kernel
theorem dX1_fuelSlideBySlide_43 : decode cX1_fuelSlideBySlide 43 = .ok (.aload_n 0, 1) := by decide +kernel
theorem dX1_fuelSlideBySlide_44 : decode cX1_fuelSlideBySlide 44 = .ok (.getfield 18, 3) := by decide +kernel
theorem dX1_fuelSlideBySlide_47 : decode cX1_fuelSlideBySlide 47 = .ok (.iload_n 3, 1) := by decide +kernel
theorem dX1_fuelSlideBySlide_48 : decode cX1_fuelSlideBySlide 48 = .ok (.iaload, 1) := by decide +kernel
theorem dX1_fuelSlideBySlide_49 : decode cX1_fuelSlideBySlide 49 = .ok (.imul, 1) := by decide +kernel
theorem dX1_fuelSlideBySlide_50 : decode cX1_fuelSlideBySlide 50 = .ok (.goto 4, 3) := by decide +kernel
theorem dX1_fuelSlideBySlide_53 : decode cX1_fuelSlideBySlide 53 = .ok (.iconst 0, 1) := by decide +kernel
theorem dX1_fuelSlideBySlide_54 : decode cX1_fuelSlideBySlide 54 = .ok (.iadd, 1) := by decide +kernel
theorem dX1_fuelSlideBySlide_55 : decode cX1_fuelSlideBySlide 55 = .ok (.istore_n 1, 1) := by decide +kernel
theorem dX1_fuelSlideBySlide_56 : decode cX1_fuelSlideBySlide 56 = .ok (.iinc 2 1, 3) := by decide +kernel
theorem dX1_fuelSlideBySlide_59 : decode cX1_fuelSlideBySlide 59 = .ok (.goto (-55), 3) := by decide +kernel
theorem dX1_fuelSlideBySlide_62 : decode cX1_fuelSlideBySlide 62 = .ok (.iload_n 1, 1) := by decide +kernel
theorem dX1_fuelSlideBySlide_63 : decode cX1_fuelSlideBySlide 63 = .ok (.ireturn, 1) := by decide +kernel
theorem dX1_fuelCarByCar_0 : decode cX1_fuelCarByCar 0 = .ok (.iconst 0, 1) := by decide +kernel
theorem dX1_fuelCarByCar_1 : decode cX1_fuelCarByCar 1 = .ok (.istore_n 1, 1) := by decide +kernel
theorem dX1_fuelCarByCar_2 : decode cX1_fuelCarByCar 2 = .ok (.iconst 0, 1) := by decide +kernel
theorem dX1_fuelCarByCar_3 : decode cX1_fuelCarByCar 3 = .ok (.istore_n 2, 1) := by decide +kernel
theorem dX1_fuelCarByCar_4 : decode cX1_fuelCarByCar 4 = .ok (.iload_n 2, 1) := by decide +kernel
theorem dX1_fuelCarByCar_5 : decode cX1_fuelCarByCar 5 = .ok (.aload_n 0, 1) := by decide +kernel
theorem dX1_fuelCarByCar_6 : decode cX1_fuelCarByCar 6 = .ok (.getfield 33, 3) := by decide +kernel
theorem dX1_fuelCarByCar_9 : decode cX1_fuelCarByCar 9 = .ok (.if_icmp .ge 30, 3) := by decide +kernel
theorem dX1_fuelCarByCar_12 : decode cX1_fuelCarByCar 12 = .ok (.iload_n 2, 1) := by decide +kernel
theorem dX1_fuelCarByCar_13 : decode cX1_fuelCarByCar 13 = .ok (.bipush 6, 2) := by decide +kernel
theorem dX1_fuelCarByCar_15 : decode cX1_fuelCarByCar 15 = .ok (.if_icmp .ge 24, 3) := by decide +kernel
theorem dX1_fuelCarByCar_18 : decode cX1_fuelCarByCar 18 = .ok (.iload_n 1, 1) := by decide +kernel
theorem dX1_fuelCarByCar_19 : decode cX1_fuelCarByCar 19 = .ok (.aload_n 0, 1) := by decide +kernel
theorem dX1_fuelCarByCar_20 : decode cX1_fuelCarByCar 20 = .ok (.iload_n 2, 1) := by decide +kernel
theorem dX1_fuelCarByCar_21 : decode cX1_fuelCarByCar 21 = .ok (.invokevirtual 92, 3) := by decide +kernel
theorem dX1_fuelCarByCar_24 : decode cX1_fuelCarByCar 24 = .ok (.aload_n 0, 1) := by decide +kernel
theorem dX1_fuelCarByCar_25 : decode cX1_fuelCarByCar 25 = .ok (.getfield 18, 3) := by decide +kernel
theorem dX1_fuelCarByCar_28 : decode cX1_fuelCarByCar 28 = .ok (.iload_n 2, 1) := by decide +kernel
theorem dX1_fuelCarByCar_29 : decode cX1_fuelCarByCar 29 = .ok (.iaload, 1) := by decide +kernel
theorem dX1_fuelCarByCar_30 : decode cX1_fuelCarByCar 30 = .ok (.imul, 1) := by decide +kernel
theorem dX1_fuelCarByCar_31 : decode cX1_fuelCarByCar 31 = .ok (.iadd, 1) := by decide +kernel
theorem dX1_fuelCarByCar_32 : decode cX1_fuelCarByCar 32 = .ok (.istore_n 1, 1) := by decide +kernel
theorem dX1_fuelCarByCar_33 : decode cX1_fuelCarByCar 33 = .ok (.iinc 2 1, 3) := by decide +kernel
theorem dX1_fuelCarByCar_36 : decode cX1_fuelCarByCar 36 = .ok (.goto (-32), 3) := by decide +kernel
theorem dX1_fuelCarByCar_39 : decode cX1_fuelCarByCar 39 = .ok (.iload_n 1, 1) := by decide +kernel
theorem dX1_fuelCarByCar_40 : decode cX1_fuelCarByCar 40 = .ok (.ireturn, 1) := by decide +kernel
theorem dX2_init_0 : decode cX2_init 0 = .ok (.aload_n 0, 1) := by decide +kernel
theorem dX2_init_1 : decode cX2_init 1 = .ok (.invokespecial 3, 3) := by decide +kernel
theorem dX2_init_4 : decode cX2_init 4 = .ok (.aload_n 0, 1) := by decide +kernel
theorem dX2_init_5 : decode cX2_init 5 = .ok (.bipush 60, 2) := by decide +kernel
theorem dX2_init_7 : decode cX2_init 7 = .ok (.newarray .int, 2) := by decide +kernel
theorem dX2_init_9 : decode cX2_init 9 = .ok (.putfield 9, 3) := by decide +kernel
theorem dX2_init_12 : decode cX2_init 12 = .ok (.return_, 1) := by decide +kernel
theorem dX2_add_0 : decode cX2_add 0 = .ok (.aload_n 0, 1) := by decide +kernel
theorem dX2_add_1 : decode cX2_add 1 = .ok (.getfield 15, 3) := by decide +kernel
theorem dX2_add_4 : decode cX2_add 4 = .ok (.ifCond .lt 32, 3) := by decide +kernel
theorem dX2_add_7 : decode cX2_add 7 = .ok (.aload_n 0, 1) := by decide +kernel
theorem dX2_add_8 : decode cX2_add 8 = .ok (.getfield 15, 3) := by decide +kernel
theorem dX2_add_11 : decode cX2_add 11 = .ok (.bipush 60, 2) := by decide +kernel
theorem dX2_add_13 : decode cX2_add 13 = .ok (.if_icmp .ge 23, 3) := by decide +kernel
theorem dX2_add_16 : decode cX2_add 16 = .ok (.aload_n 0, 1) := by decide +kernel
theorem dX2_add_17 : decode cX2_add 17 = .ok (.getfield 9, 3) := by decide +kernel
theorem dX2_add_20 : decode cX2_add 20 = .ok (.aload_n 0, 1) := by decide +kernel
theorem dX2_add_21 : decode cX2_add 21 = .ok (.getfield 15, 3) := by decide +kernel
theorem dX2_add_24 : decode cX2_add 24 = .ok (.iload_n 1, 1) := by decide +kernel
theorem dX2_add_25 : decode cX2_add 25 = .ok (.iastore, 1) := by decide +kernel
theorem dX2_add_26 : decode cX2_add 26 = .ok (.aload_n 0, 1) := by decide +kernel
theorem dX2_add_27 : decode cX2_add 27 = .ok (.dup, 1) := by decide +kernel
theorem dX2_add_28 : decode cX2_add 28 = .ok (.getfield 15, 3) := by decide +kernel
theorem dX2_add_31 : decode cX2_add 31 = .ok (.iconst 1, 1) := by decide +kernel
theorem dX2_add_32 : decode cX2_add 32 = .ok (.iadd, 1) := by decide +kernel
theorem dX2_add_33 : decode cX2_add 33 = .ok (.putfield 15, 3) := by decide +kernel
theorem dX2_add_36 : decode cX2_add 36 = .ok (.aload_n 0, 1) := by decide +kernel
theorem dX2_add_37 : decode cX2_add 37 = .ok (.getfield 15, 3) := by decide +kernel
theorem dX2_add_40 : decode cX2_add 40 = .ok (.ireturn, 1) := by decide +kernel
theorem dX2_clear_0 : decode cX2_clear 0 = .ok (.aload_n 0, 1) := by decide +kernel
theorem dX2_clear_1 : decode cX2_clear 1 = .ok (.getfield 15, 3) := by decide +kernel
theorem dX2_clear_4 : decode cX2_clear 4 = .ok (.istore_n 1, 1) := by decide +kernel
theorem dX2_clear_5 : decode cX2_clear 5 = .ok (.aload_n 0, 1) := by decide +kernel
theorem dX2_clear_6 : decode cX2_clear 6 = .ok (.iconst 0, 1) := by decide +kernel
theorem dX2_clear_7 : decode cX2_clear 7 = .ok (.putfield 15, 3) := by decide +kernel
theorem dX2_clear_10 : decode cX2_clear 10 = .ok (.iload_n 1, 1) := by decide +kernel
theorem dX2_clear_11 : decode cX2_clear 11 = .ok (.ireturn, 1) := by decide +kernel
theorem dX2_codeAt_0 : decode cX2_codeAt 0 = .ok (.iload_n 1, 1) := by decide +kernel
theorem dX2_codeAt_1 : decode cX2_codeAt 1 = .ok (.ifCond .lt 26, 3) := by decide +kernel
theorem dX2_codeAt_4 : decode cX2_codeAt 4 = .ok (.iload_n 1, 1) := by decide +kernel
theorem dX2_codeAt_5 : decode cX2_codeAt 5 = .ok (.aload_n 0, 1) := by decide +kernel
theorem dX2_codeAt_6 : decode cX2_codeAt 6 = .ok (.getfield 15, 3) := by decide +kernel
theorem dX2_codeAt_9 : decode cX2_codeAt 9 = .ok (.if_icmp .ge 18, 3) := by decide +kernel
theorem dX2_codeAt_12 : decode cX2_codeAt 12 = .ok (.iload_n 1, 1) := by decide +kernel
theorem dX2_codeAt_13 : decode cX2_codeAt 13 = .ok (.bipush 60, 2) := by decide +kernel
theorem dX2_codeAt_15 : decode cX2_codeAt 15 = .ok (.if_icmp .ge 12, 3) := by decide +kernel
theorem dX2_codeAt_18 : decode cX2_codeAt 18 = .ok (.aload_n 0, 1) := by decide +kernel
theorem dX2_codeAt_19 : decode cX2_codeAt 19 = .ok (.getfield 9, 3) := by decide +kernel
theorem dX2_codeAt_22 : decode cX2_codeAt 22 = .ok (.iload_n 1, 1) := by decide +kernel
theorem dX2_codeAt_23 : decode cX2_codeAt 23 = .ok (.iaload, 1) := by decide +kernel
theorem dX2_codeAt_24 : decode cX2_codeAt 24 = .ok (.goto 4, 3) := by decide +kernel
theorem dX2_codeAt_27 : decode cX2_codeAt 27 = .ok (.iconst 0, 1) := by decide +kernel
theorem dX2_codeAt_28 : decode cX2_codeAt 28 = .ok (.ireturn, 1) := by decide +kernel
theorem dX2_digitAt_0 : decode cX2_digitAt 0 = .ok (.aload_n 0, 1) := by decide +kernel
theorem dX2_digitAt_1 : decode cX2_digitAt 1 = .ok (.iload_n 1, 1) := by decide +kernel
theorem dX2_digitAt_2 : decode cX2_digitAt 2 = .ok (.invokevirtual 19, 3) := by decide +kernel
theorem dX2_digitAt_5 : decode cX2_digitAt 5 = .ok (.bipush 48, 2) := by decide +kernel
theorem dX2_digitAt_7 : decode cX2_digitAt 7 = .ok (.isub, 1) := by decide +kernel
theorem dX2_digitAt_8 : decode cX2_digitAt 8 = .ok (.ireturn, 1) := by decide +kernel
theorem dX2_signAt_0 : decode cX2_signAt 0 = .ok (.aload_n 0, 1) := by decide +kernel
theorem dX2_signAt_1 : decode cX2_signAt 1 = .ok (.iload_n 1, 1) := by decide +kernel
theorem dX2_signAt_2 : decode cX2_signAt 2 = .ok (.invokevirtual 19, 3) := by decide +kernel
theorem dX2_signAt_5 : decode cX2_signAt 5 = .ok (.bipush 45, 2) := by decide +kernel
theorem dX2_signAt_7 : decode cX2_signAt 7 = .ok (.if_icmp .ne 7, 3) := by decide +kernel
theorem dX2_signAt_10 : decode cX2_signAt 10 = .ok (.iconst (-1), 1) := by decide +kernel
theorem dX2_signAt_11 : decode cX2_signAt 11 = .ok (.goto 4, 3) := by decide +kernel
theorem dX2_signAt_14 : decode cX2_signAt 14 = .ok (.iconst 1, 1) := by decide +kernel
theorem dX2_signAt_15 : decode cX2_signAt 15 = .ok (.ireturn, 1) := by decide +kernel
theorem dX2_cellAt_0 : decode cX2_cellAt 0 = .ok (.aload_n 0, 1) := by decide +kernel
theorem dX2_cellAt_1 : decode cX2_cellAt 1 = .ok (.iload_n 1, 1) := by decide +kernel
theorem dX2_cellAt_2 : decode cX2_cellAt 2 = .ok (.iconst 1, 1) := by decide +kernel
theorem dX2_cellAt_3 : decode cX2_cellAt 3 = .ok (.iadd, 1) := by decide +kernel
theorem dX2_cellAt_4 : decode cX2_cellAt 4 = .ok (.invokevirtual 19, 3) := by decide +kernel
theorem dX2_cellAt_7 : decode cX2_cellAt 7 = .ok (.bipush 48, 2) := by decide +kernel
theorem dX2_cellAt_9 : decode cX2_cellAt 9 = .ok (.bipush 57, 2) := by decide +kernel
theorem dX2_cellAt_11 : decode cX2_cellAt 11 = .ok (.invokestatic 23, 3) := by decide +kernel
theorem dX2_cellAt_14 : decode cX2_cellAt 14 = .ok (.istore_n 2, 1) := by decide +kernel
theorem dX2_cellAt_15 : decode cX2_cellAt 15 = .ok (.iload_n 2, 1) := by decide +kernel
theorem dX2_cellAt_16 : decode cX2_cellAt 16 = .ok (.ifCond .eq 22, 3) := by decide +kernel
theorem dX2_cellAt_19 : decode cX2_cellAt 19 = .ok (.bipush 10, 2) := by decide +kernel
theorem dX2_cellAt_21 : decode cX2_cellAt 21 = .ok (.aload_n 0, 1) := by decide +kernel
theorem dX2_cellAt_22 : decode cX2_cellAt 22 = .ok (.iload_n 1, 1) := by decide +kernel
theorem dX2_cellAt_23 : decode cX2_cellAt 23 = .ok (.invokevirtual 27, 3) := by decide +kernel
theorem dX2_cellAt_26 : decode cX2_cellAt 26 = .ok (.imul, 1) := by decide +kernel
theorem dX2_cellAt_27 : decode cX2_cellAt 27 = .ok (.aload_n 0, 1) := by decide +kernel
theorem dX2_cellAt_28 : decode cX2_cellAt 28 = .ok (.iload_n 1, 1) := by decide +kernel
theorem dX2_cellAt_29 : decode cX2_cellAt 29 = .ok (.iconst 1, 1) := by decide +kernel
theorem dX2_cellAt_30 : decode cX2_cellAt 30 = .ok (.iadd, 1) := by decide +kernel
theorem dX2_cellAt_31 : decode cX2_cellAt 31 = .ok (.invokevirtual 27, 3) := by decide +kernel
theorem dX2_cellAt_34 : decode cX2_cellAt 34 = .ok (.iadd, 1) := by decide +kernel
theorem dX2_cellAt_35 : decode cX2_cellAt 35 = .ok (.goto 8, 3) := by decide +kernel
theorem dX2_cellAt_38 : decode cX2_cellAt 38 = .ok (.aload_n 0, 1) := by decide +kernel
theorem dX2_cellAt_39 : decode cX2_cellAt 39 = .ok (.iload_n 1, 1) := by decide +kernel
theorem dX2_cellAt_40 : decode cX2_cellAt 40 = .ok (.invokevirtual 27, 3) := by decide +kernel
theorem dX2_cellAt_43 : decode cX2_cellAt 43 = .ok (.ireturn, 1) := by decide +kernel
theorem dX2_nextPart_0 : decode cX2_nextPart 0 = .ok (.iload_n 1, 1) := by decide +kernel
theorem dX2_nextPart_1 : decode cX2_nextPart 1 = .ok (.istore_n 2, 1) := by decide +kernel
theorem dX2_nextPart_2 : decode cX2_nextPart 2 = .ok (.iload_n 2, 1) := by decide +kernel
theorem dX2_nextPart_3 : decode cX2_nextPart 3 = .ok (.aload_n 0, 1) := by decide +kernel
theorem dX2_nextPart_4 : decode cX2_nextPart 4 = .ok (.getfield 15, 3) := by decide +kernel
theorem dX2_nextPart_7 : decode cX2_nextPart 7 = .ok (.if_icmp .ge 19, 3) := by decide +kernel
theorem dX2_nextPart_10 : decode cX2_nextPart 10 = .ok (.aload_n 0, 1) := by decide +kernel
theorem dX2_nextPart_11 : decode cX2_nextPart 11 = .ok (.iload_n 2, 1) := by decide +kernel
theorem dX2_nextPart_12 : decode cX2_nextPart 12 = .ok (.invokevirtual 19, 3) := by decide +kernel
theorem dX2_nextPart_15 : decode cX2_nextPart 15 = .ok (.bipush 59, 2) := by decide +kernel
theorem dX2_nextPart_17 : decode cX2_nextPart 17 = .ok (.if_icmp .eq 9, 3) := by decide +kernel
theorem dX2_nextPart_20 : decode cX2_nextPart 20 = .ok (.iinc 2 1, 3) := by decide +kernel
theorem dX2_nextPart_23 : decode cX2_nextPart 23 = .ok (.goto (-21), 3) := by decide +kernel
theorem dX2_nextPart_26 : decode cX2_nextPart 26 = .ok (.iload_n 2, 1) := by decide +kernel
theorem dX2_nextPart_27 : decode cX2_nextPart 27 = .ok (.iconst 1, 1) := by decide +kernel
theorem dX2_nextPart_28 : decode cX2_nextPart 28 = .ok (.iadd, 1) := by decide +kernel
theorem dX2_nextPart_29 : decode cX2_nextPart 29 = .ok (.ireturn, 1) := by decide +kernel
theorem dX2_isComplete_0 : decode cX2_isComplete 0 = .ok (.iconst 0, 1) := by decide +kernel
theorem dX2_isComplete_1 : decode cX2_isComplete 1 = .ok (.istore_n 1, 1) := by decide +kernel
theorem dX2_isComplete_2 : decode cX2_isComplete 2 = .ok (.iconst 0, 1) := by decide +kernel
theorem dX2_isComplete_3 : decode cX2_isComplete 3 = .ok (.istore_n 2, 1) := by decide +kernel
theorem dX2_isComplete_4 : decode cX2_isComplete 4 = .ok (.iload_n 2, 1) := by decide +kernel
theorem dX2_isComplete_5 : decode cX2_isComplete 5 = .ok (.aload_n 0, 1) := by decide +kernel
theorem dX2_isComplete_6 : decode cX2_isComplete 6 = .ok (.getfield 15, 3) := by decide +kernel
theorem dX2_isComplete_9 : decode cX2_isComplete 9 = .ok (.if_icmp .ge 19, 3) := by decide +kernel
theorem dX2_isComplete_12 : decode cX2_isComplete 12 = .ok (.iload_n 1, 1) := by decide +kernel
theorem dX2_isComplete_13 : decode cX2_isComplete 13 = .ok (.aload_n 0, 1) := by decide +kernel
theorem dX2_isComplete_14 : decode cX2_isComplete 14 = .ok (.iload_n 2, 1) := by decide +kernel
theorem dX2_isComplete_15 : decode cX2_isComplete 15 = .ok (.invokevirtual 19, 3) := by decide +kernel
theorem dX2_isComplete_18 : decode cX2_isComplete 18 = .ok (.invokestatic 30, 3) := by decide +kernel
theorem dX2_isComplete_21 : decode cX2_isComplete 21 = .ok (.istore_n 1, 1) := by decide +kernel
theorem dX2_isComplete_22 : decode cX2_isComplete 22 = .ok (.iinc 2 1, 3) := by decide +kernel
theorem dX2_isComplete_25 : decode cX2_isComplete 25 = .ok (.goto (-21), 3) := by decide +kernel
theorem dX2_isComplete_28 : decode cX2_isComplete 28 = .ok (.iload_n 1, 1) := by decide +kernel
theorem dX2_isComplete_29 : decode cX2_isComplete 29 = .ok (.bipush 11, 2) := by decide +kernel
theorem dX2_isComplete_31 : decode cX2_isComplete 31 = .ok (.if_icmp .eq 15, 3) := by decide +kernel
theorem dX2_isComplete_34 : decode cX2_isComplete 34 = .ok (.iload_n 1, 1) := by decide +kernel
theorem dX2_isComplete_35 : decode cX2_isComplete 35 = .ok (.bipush 9, 2) := by decide +kernel
theorem dX2_isComplete_37 : decode cX2_isComplete 37 = .ok (.if_icmp .eq 9, 3) := by decide +kernel
theorem dX2_isComplete_40 : decode cX2_isComplete 40 = .ok (.iload_n 1, 1) := by decide +kernel
theorem dX2_isComplete_41 : decode cX2_isComplete 41 = .ok (.bipush 10, 2) := by decide +kernel
theorem dX2_isComplete_43 : decode cX2_isComplete 43 = .ok (.if_icmp .ne 7, 3) := by decide +kernel
theorem dX2_isComplete_46 : decode cX2_isComplete 46 = .ok (.iconst 1, 1) := by decide +kernel
theorem dX2_isComplete_47 : decode cX2_isComplete 47 = .ok (.goto 4, 3) := by decide +kernel
theorem dX2_isComplete_50 : decode cX2_isComplete 50 = .ok (.iconst 0, 1) := by decide +kernel
theorem dX2_isComplete_51 : decode cX2_isComplete 51 = .ok (.ireturn, 1) := by decide +kernel
theorem dX2_isAmong_0 : decode cX2_isAmong 0 = .ok (.iload_n 0, 1) := by decide +kernel
theorem dX2_isAmong_1 : decode cX2_isAmong 1 = .ok (.iload_n 1, 1) := by decide +kernel
theorem dX2_isAmong_2 : decode cX2_isAmong 2 = .ok (.if_icmp .lt 12, 3) := by decide +kernel
theorem dX2_isAmong_5 : decode cX2_isAmong 5 = .ok (.iload_n 0, 1) := by decide +kernel
theorem dX2_isAmong_6 : decode cX2_isAmong 6 = .ok (.iload_n 2, 1) := by decide +kernel
theorem dX2_isAmong_7 : decode cX2_isAmong 7 = .ok (.if_icmp .gt 7, 3) := by decide +kernel
theorem dX2_isAmong_10 : decode cX2_isAmong 10 = .ok (.iconst 1, 1) := by decide +kernel
theorem dX2_isAmong_11 : decode cX2_isAmong 11 = .ok (.goto 4, 3) := by decide +kernel
theorem dX2_isAmong_14 : decode cX2_isAmong 14 = .ok (.iconst 0, 1) := by decide +kernel
theorem dX2_isAmong_15 : decode cX2_isAmong 15 = .ok (.ireturn, 1) := by decide +kernel
theorem dX2_behind_0 : decode cX2_behind 0 = .ok (.iload_n 0, 1) := by decide +kernel
theorem dX2_behind_1 : decode cX2_behind 1 = .ok (.tableswitch 240 0 11 #[63, 68, 86, 99, 117, 130, 149, 169, 188, 193, 214, 235], 63) := by decide +kernel
theorem dX2_behind_64 : decode cX2_behind 64 = .ok (.iload_n 1, 1) := by decide +kernel
theorem dX2_behind_65 : decode cX2_behind 65 = .ok (.invokestatic 34, 3) := by decide +kernel
theorem dX2_behind_68 : decode cX2_behind 68 = .ok (.ireturn, 1) := by decide +kernel
theorem dX2_behind_69 : decode cX2_behind 69 = .ok (.iload_n 1, 1) := by decide +kernel
theorem dX2_behind_70 : decode cX2_behind 70 = .ok (.bipush 48, 2) := by decide +kernel
theorem dX2_behind_72 : decode cX2_behind 72 = .ok (.bipush 52, 2) := by decide +kernel
theorem dX2_behind_74 : decode cX2_behind 74 = .ok (.invokestatic 23, 3) := by decide +kernel
theorem dX2_behind_77 : decode cX2_behind 77 = .ok (.ifCond .eq 7, 3) := by decide +kernel
theorem dX2_behind_80 : decode cX2_behind 80 = .ok (.iconst 2, 1) := by decide +kernel
theorem dX2_behind_81 : decode cX2_behind 81 = .ok (.goto 5, 3) := by decide +kernel
theorem dX2_behind_84 : decode cX2_behind 84 = .ok (.bipush 12, 2) := by decide +kernel
theorem dX2_behind_86 : decode cX2_behind 86 = .ok (.ireturn, 1) := by decide +kernel
theorem dX2_behind_87 : decode cX2_behind 87 = .ok (.iload_n 1, 1) := by decide +kernel
theorem dX2_behind_88 : decode cX2_behind 88 = .ok (.bipush 46, 2) := by decide +kernel
theorem dX2_behind_90 : decode cX2_behind 90 = .ok (.if_icmp .ne 7, 3) := by decide +kernel
theorem dX2_behind_93 : decode cX2_behind 93 = .ok (.iconst 3, 1) := by decide +kernel
theorem dX2_behind_94 : decode cX2_behind 94 = .ok (.goto 5, 3) := by decide +kernel
theorem dX2_behind_97 : decode cX2_behind 97 = .ok (.bipush 12, 2) := by decide +kernel
theorem dX2_behind_99 : decode cX2_behind 99 = .ok (.ireturn, 1) := by decide +kernel
theorem dX2_behind_100 : decode cX2_behind 100 = .ok (.iload_n 1, 1) := by decide +kernel
theorem dX2_behind_101 : decode cX2_behind 101 = .ok (.bipush 48, 2) := by decide +kernel
theorem dX2_behind_103 : decode cX2_behind 103 = .ok (.bipush 51, 2) := by decide +kernel
theorem dX2_behind_105 : decode cX2_behind 105 = .ok (.invokestatic 23, 3) := by decide +kernel
theorem dX2_behind_108 : decode cX2_behind 108 = .ok (.ifCond .eq 7, 3) := by decide +kernel
theorem dX2_behind_111 : decode cX2_behind 111 = .ok (.iconst 4, 1) := by decide +kernel
theorem dX2_behind_112 : decode cX2_behind 112 = .ok (.goto 5, 3) := by decide +kernel
theorem dX2_behind_115 : decode cX2_behind 115 = .ok (.bipush 12, 2) := by decide +kernel
theorem dX2_behind_117 : decode cX2_behind 117 = .ok (.ireturn, 1) := by decide +kernel
theorem dX2_behind_118 : decode cX2_behind 118 = .ok (.iload_n 1, 1) := by decide +kernel
theorem dX2_behind_119 : decode cX2_behind 119 = .ok (.bipush 42, 2) := by decide +kernel
theorem dX2_behind_121 : decode cX2_behind 121 = .ok (.if_icmp .ne 7, 3) := by decide +kernel
theorem dX2_behind_124 : decode cX2_behind 124 = .ok (.iconst 5, 1) := by decide +kernel
theorem dX2_behind_125 : decode cX2_behind 125 = .ok (.goto 5, 3) := by decide +kernel
theorem dX2_behind_128 : decode cX2_behind 128 = .ok (.bipush 12, 2) := by decide +kernel
theorem dX2_behind_130 : decode cX2_behind 130 = .ok (.ireturn, 1) := by decide +kernel
theorem dX2_behind_131 : decode cX2_behind 131 = .ok (.iload_n 1, 1) := by decide +kernel
theorem dX2_behind_132 : decode cX2_behind 132 = .ok (.bipush 50, 2) := by decide +kernel
theorem dX2_behind_134 : decode cX2_behind 134 = .ok (.bipush 51, 2) := by decide +kernel
theorem dX2_behind_136 : decode cX2_behind 136 = .ok (.invokestatic 23, 3) := by decide +kernel
theorem dX2_behind_139 : decode cX2_behind 139 = .ok (.ifCond .eq 8, 3) := by decide +kernel
theorem dX2_behind_142 : decode cX2_behind 142 = .ok (.bipush 11, 2) := by decide +kernel
theorem dX2_behind_144 : decode cX2_behind 144 = .ok (.goto 5, 3) := by decide +kernel
theorem dX2_behind_147 : decode cX2_behind 147 = .ok (.bipush 12, 2) := by decide +kernel
theorem dX2_behind_149 : decode cX2_behind 149 = .ok (.ireturn, 1) := by decide +kernel
theorem dX2_behind_150 : decode cX2_behind 150 = .ok (.iload_n 1, 1) := by decide +kernel
theorem dX2_behind_151 : decode cX2_behind 151 = .ok (.bipush 43, 2) := by decide +kernel
theorem dX2_behind_153 : decode cX2_behind 153 = .ok (.if_icmp .eq 9, 3) := by decide +kernel
theorem dX2_behind_156 : decode cX2_behind 156 = .ok (.iload_n 1, 1) := by decide +kernel
theorem dX2_behind_157 : decode cX2_behind 157 = .ok (.bipush 45, 2) := by decide +kernel
theorem dX2_behind_159 : decode cX2_behind 159 = .ok (.if_icmp .ne 8, 3) := by decide +kernel
theorem dX2_behind_162 : decode cX2_behind 162 = .ok (.bipush 7, 2) := by decide +kernel
theorem dX2_behind_164 : decode cX2_behind 164 = .ok (.goto 5, 3) := by decide +kernel
theorem dX2_behind_167 : decode cX2_behind 167 = .ok (.bipush 12, 2) := by decide +kernel
theorem dX2_behind_169 : decode cX2_behind 169 = .ok (.ireturn, 1) := by decide +kernel
theorem dX2_behind_170 : decode cX2_behind 170 = .ok (.iload_n 1, 1) := by decide +kernel
theorem dX2_behind_171 : decode cX2_behind 171 = .ok (.bipush 49, 2) := by decide +kernel
theorem dX2_behind_173 : decode cX2_behind 173 = .ok (.bipush 51, 2) := by decide +kernel
theorem dX2_behind_175 : decode cX2_behind 175 = .ok (.invokestatic 23, 3) := by decide +kernel
theorem dX2_behind_178 : decode cX2_behind 178 = .ok (.ifCond .eq 8, 3) := by decide +kernel
theorem dX2_behind_181 : decode cX2_behind 181 = .ok (.bipush 11, 2) := by decide +kernel
theorem dX2_behind_183 : decode cX2_behind 183 = .ok (.goto 5, 3) := by decide +kernel
theorem dX2_behind_186 : decode cX2_behind 186 = .ok (.bipush 12, 2) := by decide +kernel
theorem dX2_behind_188 : decode cX2_behind 188 = .ok (.ireturn, 1) := by decide +kernel
theorem dX2_behind_189 : decode cX2_behind 189 = .ok (.iload_n 1, 1) := by decide +kernel
theorem dX2_behind_190 : decode cX2_behind 190 = .ok (.invokestatic 37, 3) := by decide +kernel
theorem dX2_behind_193 : decode cX2_behind 193 = .ok (.ireturn, 1) := by decide +kernel
theorem dX2_behind_194 : decode cX2_behind 194 = .ok (.iload_n 1, 1) := by decide +kernel
theorem dX2_behind_195 : decode cX2_behind 195 = .ok (.bipush 48, 2) := by decide +kernel
theorem dX2_behind_197 : decode cX2_behind 197 = .ok (.bipush 57, 2) := by decide +kernel
theorem dX2_behind_199 : decode cX2_behind 199 = .ok (.invokestatic 23, 3) := by decide +kernel
theorem dX2_behind_202 : decode cX2_behind 202 = .ok (.ifCond .eq 8, 3) := by decide +kernel
theorem dX2_behind_205 : decode cX2_behind 205 = .ok (.bipush 11, 2) := by decide +kernel
theorem dX2_behind_207 : decode cX2_behind 207 = .ok (.goto 7, 3) := by decide +kernel
theorem dX2_behind_210 : decode cX2_behind 210 = .ok (.iload_n 1, 1) := by decide +kernel
theorem dX2_behind_211 : decode cX2_behind 211 = .ok (.invokestatic 40, 3) := by decide +kernel
theorem dX2_behind_214 : decode cX2_behind 214 = .ok (.ireturn, 1) := by decide +kernel
theorem dX2_behind_215 : decode cX2_behind 215 = .ok (.iload_n 1, 1) := by decide +kernel
theorem dX2_behind_216 : decode cX2_behind 216 = .ok (.bipush 48, 2) := by decide +kernel
theorem dX2_behind_218 : decode cX2_behind 218 = .ok (.bipush 52, 2) := by decide +kernel
theorem dX2_behind_220 : decode cX2_behind 220 = .ok (.invokestatic 23, 3) := by decide +kernel
theorem dX2_behind_223 : decode cX2_behind 223 = .ok (.ifCond .eq 8, 3) := by decide +kernel
theorem dX2_behind_226 : decode cX2_behind 226 = .ok (.bipush 11, 2) := by decide +kernel
theorem dX2_behind_228 : decode cX2_behind 228 = .ok (.goto 7, 3) := by decide +kernel
theorem dX2_behind_231 : decode cX2_behind 231 = .ok (.iload_n 1, 1) := by decide +kernel
theorem dX2_behind_232 : decode cX2_behind 232 = .ok (.invokestatic 40, 3) := by decide +kernel
theorem dX2_behind_235 : decode cX2_behind 235 = .ok (.ireturn, 1) := by decide +kernel
theorem dX2_behind_236 : decode cX2_behind 236 = .ok (.iload_n 1, 1) := by decide +kernel
theorem dX2_behind_237 : decode cX2_behind 237 = .ok (.invokestatic 40, 3) := by decide +kernel
theorem dX2_behind_240 : decode cX2_behind 240 = .ok (.ireturn, 1) := by decide +kernel
theorem dX2_behind_241 : decode cX2_behind 241 = .ok (.bipush 12, 2) := by decide +kernel
theorem dX2_behind_243 : decode cX2_behind 243 = .ok (.ireturn, 1) := by decide +kernel
theorem dX2_behindBegin_0 : decode cX2_behindBegin 0 = .ok (.iload_n 0, 1) := by decide +kernel
theorem dX2_behindBegin_1 : decode cX2_behindBegin 1 = .ok (.bipush 104, 2) := by decide +kernel
theorem dX2_behindBegin_3 : decode cX2_behindBegin 3 = .ok (.if_icmp .eq 9, 3) := by decide +kernel
theorem dX2_behindBegin_6 : decode cX2_behindBegin 6 = .ok (.iload_n 0, 1) := by decide +kernel
theorem dX2_behindBegin_7 : decode cX2_behindBegin 7 = .ok (.bipush 118, 2) := by decide +kernel
theorem dX2_behindBegin_9 : decode cX2_behindBegin 9 = .ok (.if_icmp .ne 5, 3) := by decide +kernel
theorem dX2_behindBegin_12 : decode cX2_behindBegin 12 = .ok (.iconst 1, 1) := by decide +kernel
theorem dX2_behindBegin_13 : decode cX2_behindBegin 13 = .ok (.ireturn, 1) := by decide +kernel
theorem dX2_behindBegin_14 : decode cX2_behindBegin 14 = .ok (.iload_n 0, 1) := by decide +kernel
theorem dX2_behindBegin_15 : decode cX2_behindBegin 15 = .ok (.bipush 119, 2) := by decide +kernel
theorem dX2_behindBegin_17 : decode cX2_behindBegin 17 = .ok (.if_icmp .ne 6, 3) := by decide +kernel
theorem dX2_behindBegin_20 : decode cX2_behindBegin 20 = .ok (.bipush 8, 2) := by decide +kernel
theorem dX2_behindBegin_22 : decode cX2_behindBegin 22 = .ok (.ireturn, 1) := by decide +kernel
theorem dX2_behindBegin_23 : decode cX2_behindBegin 23 = .ok (.iload_n 0, 1) := by decide +kernel
theorem dX2_behindBegin_24 : decode cX2_behindBegin 24 = .ok (.bipush 98, 2) := by decide +kernel
theorem dX2_behindBegin_26 : decode cX2_behindBegin 26 = .ok (.if_icmp .eq 9, 3) := by decide +kernel
theorem dX2_behindBegin_29 : decode cX2_behindBegin 29 = .ok (.iload_n 0, 1) := by decide +kernel
theorem dX2_behindBegin_30 : decode cX2_behindBegin 30 = .ok (.bipush 100, 2) := by decide +kernel
theorem dX2_behindBegin_32 : decode cX2_behindBegin 32 = .ok (.if_icmp .ne 6, 3) := by decide +kernel
theorem dX2_behindBegin_35 : decode cX2_behindBegin 35 = .ok (.bipush 11, 2) := by decide +kernel
theorem dX2_behindBegin_37 : decode cX2_behindBegin 37 = .ok (.ireturn, 1) := by decide +kernel
theorem dX2_behindBegin_38 : decode cX2_behindBegin 38 = .ok (.iload_n 0, 1) := by decide +kernel
theorem dX2_behindBegin_39 : decode cX2_behindBegin 39 = .ok (.bipush 48, 2) := by decide +kernel
theorem dX2_behindBegin_41 : decode cX2_behindBegin 41 = .ok (.bipush 53, 2) := by decide +kernel
theorem dX2_behindBegin_43 : decode cX2_behindBegin 43 = .ok (.invokestatic 23, 3) := by decide +kernel
theorem dX2_behindBegin_46 : decode cX2_behindBegin 46 = .ok (.ifCond .eq 8, 3) := by decide +kernel
theorem dX2_behindBegin_49 : decode cX2_behindBegin 49 = .ok (.bipush 6, 2) := by decide +kernel
theorem dX2_behindBegin_51 : decode cX2_behindBegin 51 = .ok (.goto 5, 3) := by decide +kernel
theorem dX2_behindBegin_54 : decode cX2_behindBegin 54 = .ok (.bipush 12, 2) := by decide +kernel
theorem dX2_behindBegin_56 : decode cX2_behindBegin 56 = .ok (.ireturn, 1) := by decide +kernel
theorem dX2_behindWall_0 : decode cX2_behindWall 0 = .ok (.iload_n 0, 1) := by decide +kernel
theorem dX2_behindWall_1 : decode cX2_behindWall 1 = .ok (.bipush 49, 2) := by decide +kernel
theorem dX2_behindWall_3 : decode cX2_behindWall 3 = .ok (.if_icmp .ne 6, 3) := by decide +kernel
theorem dX2_behindWall_6 : decode cX2_behindWall 6 = .ok (.bipush 9, 2) := by decide +kernel
theorem dX2_behindWall_8 : decode cX2_behindWall 8 = .ok (.ireturn, 1) := by decide +kernel
theorem dX2_behindWall_9 : decode cX2_behindWall 9 = .ok (.iload_n 0, 1) := by decide +kernel
theorem dX2_behindWall_10 : decode cX2_behindWall 10 = .ok (.bipush 50, 2) := by decide +kernel
theorem dX2_behindWall_12 : decode cX2_behindWall 12 = .ok (.if_icmp .ne 6, 3) := by decide +kernel
theorem dX2_behindWall_15 : decode cX2_behindWall 15 = .ok (.bipush 10, 2) := by decide +kernel
theorem dX2_behindWall_17 : decode cX2_behindWall 17 = .ok (.ireturn, 1) := by decide +kernel
theorem dX2_behindWall_18 : decode cX2_behindWall 18 = .ok (.iload_n 0, 1) := by decide +kernel
theorem dX2_behindWall_19 : decode cX2_behindWall 19 = .ok (.bipush 48, 2) := by decide +kernel
theorem dX2_behindWall_21 : decode cX2_behindWall 21 = .ok (.bipush 57, 2) := by decide +kernel
theorem dX2_behindWall_23 : decode cX2_behindWall 23 = .ok (.invokestatic 23, 3) := by decide +kernel
theorem dX2_behindWall_26 : decode cX2_behindWall 26 = .ok (.ifCond .eq 8, 3) := by decide +kernel
theorem dX2_behindWall_29 : decode cX2_behindWall 29 = .ok (.bipush 11, 2) := by decide +kernel
theorem dX2_behindWall_31 : decode cX2_behindWall 31 = .ok (.goto 5, 3) := by decide +kernel
theorem dX2_behindWall_34 : decode cX2_behindWall 34 = .ok (.bipush 12, 2) := by decide +kernel
theorem dX2_behindWall_36 : decode cX2_behindWall 36 = .ok (.ireturn, 1) := by decide +kernel
theorem dX2_behindEnd_0 : decode cX2_behindEnd 0 = .ok (.iload_n 0, 1) := by decide +kernel
theorem dX2_behindEnd_1 : decode cX2_behindEnd 1 = .ok (.bipush 59, 2) := by decide +kernel
theorem dX2_behindEnd_3 : decode cX2_behindEnd 3 = .ok (.if_icmp .ne 7, 3) := by decide +kernel
theorem dX2_behindEnd_6 : decode cX2_behindEnd 6 = .ok (.iconst 0, 1) := by decide +kernel
theorem dX2_behindEnd_7 : decode cX2_behindEnd 7 = .ok (.goto 5, 3) := by decide +kernel
theorem dX2_behindEnd_10 : decode cX2_behindEnd 10 = .ok (.bipush 12, 2) := by decide +kernel
theorem dX2_behindEnd_12 : decode cX2_behindEnd 12 = .ok (.ireturn, 1) := by decide +kernel
theorem dX3_init_0 : decode cX3_init 0 = .ok (.aload_n 0, 1) := by decide +kernel
theorem dX3_init_1 : decode cX3_init 1 = .ok (.invokespecial 1, 3) := by decide +kernel
theorem dX3_init_4 : decode cX3_init 4 = .ok (.aload_n 0, 1) := by decide +kernel
theorem dX3_init_5 : decode cX3_init 5 = .ok (.new 7, 3) := by decide +kernel
theorem dX3_init_8 : decode cX3_init 8 = .ok (.dup, 1) := by decide +kernel
theorem dX3_init_9 : decode cX3_init 9 = .ok (.invokespecial 9, 3) := by decide +kernel
theorem dX3_init_12 : decode cX3_init 12 = .ok (.putfield 10, 3) := by decide +kernel
theorem dX3_init_15 : decode cX3_init 15 = .ok (.aload_n 0, 1) := by decide +kernel
theorem dX3_init_16 : decode cX3_init 16 = .ok (.new 7, 3) := by decide +kernel
theorem dX3_init_19 : decode cX3_init 19 = .ok (.dup, 1) := by decide +kernel
theorem dX3_init_20 : decode cX3_init 20 = .ok (.invokespecial 9, 3) := by decide +kernel
theorem dX3_init_23 : decode cX3_init 23 = .ok (.putfield 16, 3) := by decide +kernel
theorem dX3_init_26 : decode cX3_init 26 = .ok (.aload_n 0, 1) := by decide +kernel
theorem dX3_init_27 : decode cX3_init 27 = .ok (.iconst 5, 1) := by decide +kernel
theorem dX3_init_28 : decode cX3_init 28 = .ok (.anewarray 7, 3) := by decide +kernel
theorem dX3_init_31 : decode cX3_init 31 = .ok (.putfield 19, 3) := by decide +kernel
theorem dX3_init_34 : decode cX3_init 34 = .ok (.iconst 0, 1) := by decide +kernel
theorem dX3_init_35 : decode cX3_init 35 = .ok (.istore_n 1, 1) := by decide +kernel
theorem dX3_init_36 : decode cX3_init 36 = .ok (.iload_n 1, 1) := by decide +kernel
theorem dX3_init_37 : decode cX3_init 37 = .ok (.iconst 5, 1) := by decide +kernel
theorem dX3_init_38 : decode cX3_init 38 = .ok (.if_icmp .ge 22, 3) := by decide +kernel
theorem dX3_init_41 : decode cX3_init 41 = .ok (.aload_n 0, 1) := by decide +kernel
theorem dX3_init_42 : decode cX3_init 42 = .ok (.getfield 19, 3) := by decide +kernel
theorem dX3_init_45 : decode cX3_init 45 = .ok (.iload_n 1, 1) := by decide +kernel
theorem dX3_init_46 : decode cX3_init 46 = .ok (.new 7, 3) := by decide +kernel
theorem dX3_init_49 : decode cX3_init 49 = .ok (.dup, 1) := by decide +kernel
theorem dX3_init_50 : decode cX3_init 50 = .ok (.invokespecial 9, 3) := by decide +kernel
theorem dX3_init_53 : decode cX3_init 53 = .ok (.aastore, 1) := by decide +kernel
theorem dX3_init_54 : decode cX3_init 54 = .ok (.iinc 1 1, 3) := by decide +kernel
theorem dX3_init_57 : decode cX3_init 57 = .ok (.goto (-21), 3) := by decide +kernel
theorem dX3_init_60 : decode cX3_init 60 = .ok (.aload_n 0, 1) := by decide +kernel
theorem dX3_init_61 : decode cX3_init 61 = .ok (.new 23, 3) := by decide +kernel
theorem dX3_init_64 : decode cX3_init 64 = .ok (.dup, 1) := by decide +kernel
theorem dX3_init_65 : decode cX3_init 65 = .ok (.invokespecial 25, 3) := by decide +kernel
theorem dX3_init_68 : decode cX3_init 68 = .ok (.putfield 26, 3) := by decide +kernel
theorem dX3_init_71 : decode cX3_init 71 = .ok (.aload_n 0, 1) := by decide +kernel
theorem dX3_init_72 : decode cX3_init 72 = .ok (.new 30, 3) := by decide +kernel
theorem dX3_init_75 : decode cX3_init 75 = .ok (.dup, 1) := by decide +kernel
theorem dX3_init_76 : decode cX3_init 76 = .ok (.invokespecial 32, 3) := by decide +kernel
theorem dX3_init_79 : decode cX3_init 79 = .ok (.putfield 33, 3) := by decide +kernel
theorem dX3_init_82 : decode cX3_init 82 = .ok (.aload_n 0, 1) := by decide +kernel
theorem dX3_init_83 : decode cX3_init 83 = .ok (.iconst 0, 1) := by decide +kernel
theorem dX3_init_84 : decode cX3_init 84 = .ok (.putfield 37, 3) := by decide +kernel
theorem dX3_init_87 : decode cX3_init 87 = .ok (.aload_n 0, 1) := by decide +kernel
theorem dX3_init_88 : decode cX3_init 88 = .ok (.iconst 0, 1) := by decide +kernel
theorem dX3_init_89 : decode cX3_init 89 = .ok (.putfield 41, 3) := by decide +kernel
theorem dX3_init_92 : decode cX3_init 92 = .ok (.return_, 1) := by decide +kernel
theorem dX3_addCar_0 : decode cX3_addCar 0 = .ok (.aload_n 0, 1) := by decide +kernel
theorem dX3_addCar_1 : decode cX3_addCar 1 = .ok (.getfield 10, 3) := by decide +kernel
theorem dX3_addCar_4 : decode cX3_addCar 4 = .ok (.iload_n 1, 1) := by decide +kernel
theorem dX3_addCar_5 : decode cX3_addCar 5 = .ok (.iload_n 2, 1) := by decide +kernel
theorem dX3_addCar_6 : decode cX3_addCar 6 = .ok (.iload_n 3, 1) := by decide +kernel
theorem dX3_addCar_7 : decode cX3_addCar 7 = .ok (.invokevirtual 45, 3) := by decide +kernel
theorem dX3_addCar_10 : decode cX3_addCar 10 = .ok (.invokestatic 49, 3) := by decide +kernel
theorem dX3_addCar_13 : decode cX3_addCar 13 = .ok (.aload_n 0, 1) := by decide +kernel
theorem dX3_addCar_14 : decode cX3_addCar 14 = .ok (.invokevirtual 53, 3) := by decide +kernel
theorem dX3_addCar_17 : decode cX3_addCar 17 = .ok (.aload_n 0, 1) := by decide +kernel
theorem dX3_addCar_18 : decode cX3_addCar 18 = .ok (.getfield 10, 3) := by decide +kernel
theorem dX3_addCar_21 : decode cX3_addCar 21 = .ok (.iload_n 1, 1) := by decide +kernel
theorem dX3_addCar_22 : decode cX3_addCar 22 = .ok (.iload_n 2, 1) := by decide +kernel
theorem dX3_addCar_23 : decode cX3_addCar 23 = .ok (.iload_n 3, 1) := by decide +kernel
theorem dX3_addCar_24 : decode cX3_addCar 24 = .ok (.invokevirtual 56, 3) := by decide +kernel
theorem dX3_addCar_27 : decode cX3_addCar 27 = .ok (.ireturn, 1) := by decide +kernel
theorem dX3_dropLast_0 : decode cX3_dropLast 0 = .ok (.aload_n 0, 1) := by decide +kernel
theorem dX3_dropLast_1 : decode cX3_dropLast 1 = .ok (.getfield 10, 3) := by decide +kernel
theorem dX3_dropLast_4 : decode cX3_dropLast 4 = .ok (.getfield 59, 3) := by decide +kernel
theorem dX3_dropLast_7 : decode cX3_dropLast 7 = .ok (.ifCond .ne 13, 3) := by decide +kernel
theorem dX3_dropLast_10 : decode cX3_dropLast 10 = .ok (.new 62, 3) := by decide +kernel
theorem dX3_dropLast_13 : decode cX3_dropLast 13 = .ok (.dup, 1) := by decide +kernel
theorem dX3_dropLast_14 : decode cX3_dropLast 14 = .ok (.ldc 64, 2) := by decide +kernel
theorem dX3_dropLast_16 : decode cX3_dropLast 16 = .ok (.invokespecial 66, 3) := by decide +kernel
theorem dX3_dropLast_19 : decode cX3_dropLast 19 = .ok (.athrow, 1) := by decide +kernel
theorem dX3_dropLast_20 : decode cX3_dropLast 20 = .ok (.aload_n 0, 1) := by decide +kernel
theorem dX3_dropLast_21 : decode cX3_dropLast 21 = .ok (.invokevirtual 53, 3) := by decide +kernel
theorem dX3_dropLast_24 : decode cX3_dropLast 24 = .ok (.aload_n 0, 1) := by decide +kernel
theorem dX3_dropLast_25 : decode cX3_dropLast 25 = .ok (.getfield 10, 3) := by decide +kernel
theorem dX3_dropLast_28 : decode cX3_dropLast 28 = .ok (.invokevirtual 69, 3) := by decide +kernel
theorem dX3_dropLast_31 : decode cX3_dropLast 31 = .ok (.ireturn, 1) := by decide +kernel
theorem dX3_toggleWall_0 : decode cX3_toggleWall 0 = .ok (.aload_n 0, 1) := by decide +kernel
theorem dX3_toggleWall_1 : decode cX3_toggleWall 1 = .ok (.getfield 10, 3) := by decide +kernel
theorem dX3_toggleWall_4 : decode cX3_toggleWall 4 = .ok (.iload_n 1, 1) := by decide +kernel
theorem dX3_toggleWall_5 : decode cX3_toggleWall 5 = .ok (.invokevirtual 73, 3) := by decide +kernel
theorem dX3_toggleWall_8 : decode cX3_toggleWall 8 = .ok (.invokestatic 49, 3) := by decide +kernel
theorem dX3_toggleWall_11 : decode cX3_toggleWall 11 = .ok (.aload_n 0, 1) := by decide +kernel
theorem dX3_toggleWall_12 : decode cX3_toggleWall 12 = .ok (.invokevirtual 53, 3) := by decide +kernel
theorem dX3_toggleWall_15 : decode cX3_toggleWall 15 = .ok (.aload_n 0, 1) := by decide +kernel
theorem dX3_toggleWall_16 : decode cX3_toggleWall 16 = .ok (.getfield 10, 3) := by decide +kernel
theorem dX3_toggleWall_19 : decode cX3_toggleWall 19 = .ok (.iload_n 1, 1) := by decide +kernel
theorem dX3_toggleWall_20 : decode cX3_toggleWall 20 = .ok (.invokevirtual 77, 3) := by decide +kernel
theorem dX3_toggleWall_23 : decode cX3_toggleWall 23 = .ok (.ireturn, 1) := by decide +kernel
theorem dX3_slide_0 : decode cX3_slide 0 = .ok (.aload_n 0, 1) := by decide +kernel
theorem dX3_slide_1 : decode cX3_slide 1 = .ok (.getfield 10, 3) := by decide +kernel
theorem dX3_slide_4 : decode cX3_slide 4 = .ok (.iload_n 1, 1) := by decide +kernel
theorem dX3_slide_5 : decode cX3_slide 5 = .ok (.iload_n 2, 1) := by decide +kernel
theorem dX3_slide_6 : decode cX3_slide 6 = .ok (.invokevirtual 81, 3) := by decide +kernel
theorem dX3_slide_9 : decode cX3_slide 9 = .ok (.invokestatic 49, 3) := by decide +kernel
theorem dX3_slide_12 : decode cX3_slide 12 = .ok (.aload_n 0, 1) := by decide +kernel
theorem dX3_slide_13 : decode cX3_slide 13 = .ok (.getfield 10, 3) := by decide +kernel
theorem dX3_slide_16 : decode cX3_slide 16 = .ok (.getfield 85, 3) := by decide +kernel
theorem dX3_slide_19 : decode cX3_slide 19 = .ok (.bipush 60, 2) := by decide +kernel
theorem dX3_slide_21 : decode cX3_slide 21 = .ok (.if_icmp .lt 13, 3) := by decide +kernel
theorem dX3_slide_24 : decode cX3_slide 24 = .ok (.new 62, 3) := by decide +kernel
theorem dX3_slide_27 : decode cX3_slide 27 = .ok (.dup, 1) := by decide +kernel
theorem dX3_slide_28 : decode cX3_slide 28 = .ok (.ldc 88, 2) := by decide +kernel
theorem dX3_slide_30 : decode cX3_slide 30 = .ok (.invokespecial 66, 3) := by decide +kernel
theorem dX3_slide_33 : decode cX3_slide 33 = .ok (.athrow, 1) := by decide +kernel
theorem dX3_slide_34 : decode cX3_slide 34 = .ok (.aload_n 0, 1) := by decide +kernel
theorem dX3_slide_35 : decode cX3_slide 35 = .ok (.invokevirtual 53, 3) := by decide +kernel
theorem dX3_slide_38 : decode cX3_slide 38 = .ok (.aload_n 0, 1) := by decide +kernel
theorem dX3_slide_39 : decode cX3_slide 39 = .ok (.getfield 10, 3) := by decide +kernel
theorem dX3_slide_42 : decode cX3_slide 42 = .ok (.iload_n 1, 1) := by decide +kernel
theorem dX3_slide_43 : decode cX3_slide 43 = .ok (.iload_n 2, 1) := by decide +kernel
theorem dX3_slide_44 : decode cX3_slide 44 = .ok (.invokevirtual 90, 3) := by decide +kernel
theorem dX3_slide_47 : decode cX3_slide 47 = .ok (.ireturn, 1) := by decide +kernel
theorem dX3_takeBack_0 : decode cX3_takeBack 0 = .ok (.aload_n 0, 1) := by decide +kernel
theorem dX3_takeBack_1 : decode cX3_takeBack 1 = .ok (.getfield 10, 3) := by decide +kernel
theorem dX3_takeBack_4 : decode cX3_takeBack 4 = .ok (.getfield 85, 3) := by decide +kernel
theorem dX3_takeBack_7 : decode cX3_takeBack 7 = .ok (.ifCond .ne 13, 3) := by decide +kernel
theorem dX3_takeBack_10 : decode cX3_takeBack 10 = .ok (.new 62, 3) := by decide +kernel
theorem dX3_takeBack_13 : decode cX3_takeBack 13 = .ok (.dup, 1) := by decide +kernel
theorem dX3_takeBack_14 : decode cX3_takeBack 14 = .ok (.ldc 93, 2) := by decide +kernel
theorem dX3_takeBack_16 : decode cX3_takeBack 16 = .ok (.invokespecial 66, 3) := by decide +kernel
theorem dX3_takeBack_19 : decode cX3_takeBack 19 = .ok (.athrow, 1) := by decide +kernel
theorem dX3_takeBack_20 : decode cX3_takeBack 20 = .ok (.aload_n 0, 1) := by decide +kernel
theorem dX3_takeBack_21 : decode cX3_takeBack 21 = .ok (.invokevirtual 53, 3) := by decide +kernel
theorem dX3_takeBack_24 : decode cX3_takeBack 24 = .ok (.aload_n 0, 1) := by decide +kernel
theorem dX3_takeBack_25 : decode cX3_takeBack 25 = .ok (.getfield 10, 3) := by decide +kernel
theorem dX3_takeBack_28 : decode cX3_takeBack 28 = .ok (.invokevirtual 95, 3) := by decide +kernel
theorem dX3_takeBack_31 : decode cX3_takeBack 31 = .ok (.ireturn, 1) := by decide +kernel
theorem dX3_rewind_0 : decode cX3_rewind 0 = .ok (.aload_n 0, 1) := by decide +kernel
theorem dX3_rewind_1 : decode cX3_rewind 1 = .ok (.invokevirtual 53, 3) := by decide +kernel
theorem dX3_rewind_4 : decode cX3_rewind 4 = .ok (.iconst 0, 1) := by decide +kernel
theorem dX3_rewind_5 : decode cX3_rewind 5 = .ok (.istore_n 1, 1) := by decide +kernel
theorem dX3_rewind_6 : decode cX3_rewind 6 = .ok (.iload_n 1, 1) := by decide +kernel
theorem dX3_rewind_7 : decode cX3_rewind 7 = .ok (.bipush 60, 2) := by decide +kernel
theorem dX3_rewind_9 : decode cX3_rewind 9 = .ok (.if_icmp .ge 27, 3) := by decide +kernel
theorem dX3_rewind_12 : decode cX3_rewind 12 = .ok (.aload_n 0, 1) := by decide +kernel
theorem dX3_rewind_13 : decode cX3_rewind 13 = .ok (.getfield 10, 3) := by decide +kernel
theorem dX3_rewind_16 : decode cX3_rewind 16 = .ok (.getfield 85, 3) := by decide +kernel
theorem dX3_rewind_19 : decode cX3_rewind 19 = .ok (.ifCond .le 17, 3) := by decide +kernel
theorem dX3_rewind_22 : decode cX3_rewind 22 = .ok (.aload_n 0, 1) := by decide +kernel
theorem dX3_rewind_23 : decode cX3_rewind 23 = .ok (.getfield 10, 3) := by decide +kernel
theorem dX3_rewind_26 : decode cX3_rewind 26 = .ok (.invokevirtual 95, 3) := by decide +kernel
theorem dX3_rewind_29 : decode cX3_rewind 29 = .ok (.pop, 1) := by decide +kernel
theorem dX3_rewind_30 : decode cX3_rewind 30 = .ok (.iinc 1 1, 3) := by decide +kernel
theorem dX3_rewind_33 : decode cX3_rewind 33 = .ok (.goto (-27), 3) := by decide +kernel
theorem dX3_rewind_36 : decode cX3_rewind 36 = .ok (.iload_n 1, 1) := by decide +kernel
theorem dX3_rewind_37 : decode cX3_rewind 37 = .ok (.ireturn, 1) := by decide +kernel
theorem dX3_driveOut_0 : decode cX3_driveOut 0 = .ok (.aload_n 0, 1) := by decide +kernel
theorem dX3_driveOut_1 : decode cX3_driveOut 1 = .ok (.invokevirtual 98, 3) := by decide +kernel
theorem dX3_driveOut_4 : decode cX3_driveOut 4 = .ok (.istore_n 1, 1) := by decide +kernel
theorem dX3_driveOut_5 : decode cX3_driveOut 5 = .ok (.iload_n 1, 1) := by decide +kernel
theorem dX3_driveOut_6 : decode cX3_driveOut 6 = .ok (.ifCond .ge 13, 3) := by decide +kernel
theorem dX3_driveOut_9 : decode cX3_driveOut 9 = .ok (.new 62, 3) := by decide +kernel
theorem dX3_driveOut_12 : decode cX3_driveOut 12 = .ok (.dup, 1) := by decide +kernel
theorem dX3_driveOut_13 : decode cX3_driveOut 13 = .ok (.ldc 101, 2) := by decide +kernel
theorem dX3_driveOut_15 : decode cX3_driveOut 15 = .ok (.invokespecial 66, 3) := by decide +kernel
theorem dX3_driveOut_18 : decode cX3_driveOut 18 = .ok (.athrow, 1) := by decide +kernel
theorem dX3_driveOut_19 : decode cX3_driveOut 19 = .ok (.aload_n 0, 1) := by decide +kernel
theorem dX3_driveOut_20 : decode cX3_driveOut 20 = .ok (.invokevirtual 53, 3) := by decide +kernel
theorem dX3_driveOut_23 : decode cX3_driveOut 23 = .ok (.aload_n 0, 1) := by decide +kernel
theorem dX3_driveOut_24 : decode cX3_driveOut 24 = .ok (.iload_n 1, 1) := by decide +kernel
theorem dX3_driveOut_25 : decode cX3_driveOut 25 = .ok (.invokevirtual 103, 3) := by decide +kernel
theorem dX3_driveOut_28 : decode cX3_driveOut 28 = .ok (.pop, 1) := by decide +kernel
theorem dX3_driveOut_29 : decode cX3_driveOut 29 = .ok (.iload_n 1, 1) := by decide +kernel
theorem dX3_driveOut_30 : decode cX3_driveOut 30 = .ok (.ireturn, 1) := by decide +kernel
theorem dX3_append_0 : decode cX3_append 0 = .ok (.iload_n 1, 1) := by decide +kernel
theorem dX3_append_1 : decode cX3_append 1 = .ok (.bipush 33, 2) := by decide +kernel
theorem dX3_append_3 : decode cX3_append 3 = .ok (.if_icmp .lt 9, 3) := by decide +kernel
theorem dX3_append_6 : decode cX3_append 6 = .ok (.iload_n 1, 1) := by decide +kernel
theorem dX3_append_7 : decode cX3_append 7 = .ok (.bipush 126, 2) := by decide +kernel
theorem dX3_append_9 : decode cX3_append 9 = .ok (.if_icmp .le 13, 3) := by decide +kernel
theorem dX3_append_12 : decode cX3_append 12 = .ok (.new 106, 3) := by decide +kernel
theorem dX3_append_15 : decode cX3_append 15 = .ok (.dup, 1) := by decide +kernel
theorem dX3_append_16 : decode cX3_append 16 = .ok (.ldc 108, 2) := by decide +kernel
theorem dX3_append_18 : decode cX3_append 18 = .ok (.invokespecial 110, 3) := by decide +kernel
theorem dX3_append_21 : decode cX3_append 21 = .ok (.athrow, 1) := by decide +kernel
theorem dX3_append_22 : decode cX3_append 22 = .ok (.aload_n 0, 1) := by decide +kernel
theorem dX3_append_23 : decode cX3_append 23 = .ok (.getfield 33, 3) := by decide +kernel
theorem dX3_append_26 : decode cX3_append 26 = .ok (.getfield 111, 3) := by decide +kernel
theorem dX3_append_29 : decode cX3_append 29 = .ok (.bipush 60, 2) := by decide +kernel
theorem dX3_append_31 : decode cX3_append 31 = .ok (.if_icmp .lt 13, 3) := by decide +kernel
theorem dX3_append_34 : decode cX3_append 34 = .ok (.new 62, 3) := by decide +kernel
theorem dX3_append_37 : decode cX3_append 37 = .ok (.dup, 1) := by decide +kernel
theorem dX3_append_38 : decode cX3_append 38 = .ok (.ldc 114, 2) := by decide +kernel
theorem dX3_append_40 : decode cX3_append 40 = .ok (.invokespecial 66, 3) := by decide +kernel
theorem dX3_append_43 : decode cX3_append 43 = .ok (.athrow, 1) := by decide +kernel
theorem dX3_append_44 : decode cX3_append 44 = .ok (.aload_n 0, 1) := by decide +kernel
theorem dX3_append_45 : decode cX3_append 45 = .ok (.getfield 33, 3) := by decide +kernel
theorem dX3_append_48 : decode cX3_append 48 = .ok (.iload_n 1, 1) := by decide +kernel
theorem dX3_append_49 : decode cX3_append 49 = .ok (.invokevirtual 116, 3) := by decide +kernel
theorem dX3_append_52 : decode cX3_append 52 = .ok (.ireturn, 1) := by decide +kernel
theorem dX3_work_0 : decode cX3_work 0 = .ok (.aload_n 0, 1) := by decide +kernel
theorem dX3_work_1 : decode cX3_work 1 = .ok (.getfield 33, 3) := by decide +kernel
theorem dX3_work_4 : decode cX3_work 4 = .ok (.invokevirtual 125, 3) := by decide +kernel
theorem dX3_work_7 : decode cX3_work 7 = .ok (.ifCond .ne 13, 3) := by decide +kernel
theorem dX3_work_10 : decode cX3_work 10 = .ok (.new 106, 3) := by decide +kernel
theorem dX3_work_13 : decode cX3_work 13 = .ok (.dup, 1) := by decide +kernel
theorem dX3_work_14 : decode cX3_work 14 = .ok (.ldc 129, 2) := by decide +kernel
theorem dX3_work_16 : decode cX3_work 16 = .ok (.invokespecial 110, 3) := by decide +kernel
theorem dX3_work_19 : decode cX3_work 19 = .ok (.athrow, 1) := by decide +kernel
theorem dX3_work_20 : decode cX3_work 20 = .ok (.aload_n 0, 1) := by decide +kernel
theorem dX3_work_21 : decode cX3_work 21 = .ok (.invokevirtual 53, 3) := by decide +kernel
theorem dX3_work_24 : decode cX3_work 24 = .ok (.iconst 0, 1) := by decide +kernel
theorem dX3_work_25 : decode cX3_work 25 = .ok (.istore_n 1, 1) := by decide +kernel
theorem dX3_work_26 : decode cX3_work 26 = .ok (.iconst 0, 1) := by decide +kernel
theorem dX3_work_27 : decode cX3_work 27 = .ok (.istore_n 2, 1) := by decide +kernel
theorem dX3_work_28 : decode cX3_work 28 = .ok (.iconst 0, 1) := by decide +kernel
theorem dX3_work_29 : decode cX3_work 29 = .ok (.istore_n 3, 1) := by decide +kernel
theorem dX3_work_30 : decode cX3_work 30 = .ok (.iconst 0, 1) := by decide +kernel
theorem dX3_work_31 : decode cX3_work 31 = .ok (.istore 4, 2) := by decide +kernel
theorem dX3_work_33 : decode cX3_work 33 = .ok (.iload 4, 2) := by decide +kernel
theorem dX3_work_35 : decode cX3_work 35 = .ok (.bipush 60, 2) := by decide +kernel
theorem dX3_work_37 : decode cX3_work 37 = .ok (.if_icmp .ge 49, 3) := by decide +kernel
theorem dX3_work_40 : decode cX3_work 40 = .ok (.iload_n 2, 1) := by decide +kernel
theorem dX3_work_41 : decode cX3_work 41 = .ok (.aload_n 0, 1) := by decide +kernel
theorem dX3_work_42 : decode cX3_work 42 = .ok (.getfield 33, 3) := by decide +kernel
theorem dX3_work_45 : decode cX3_work 45 = .ok (.getfield 111, 3) := by decide +kernel
theorem dX3_work_48 : decode cX3_work 48 = .ok (.if_icmp .ge 38, 3) := by decide +kernel
theorem dX3_work_51 : decode cX3_work 51 = .ok (.iload_n 3, 1) := by decide +kernel
theorem dX3_work_52 : decode cX3_work 52 = .ok (.ifCond .ne 34, 3) := by decide +kernel
theorem dX3_work_55 : decode cX3_work 55 = .ok (.aload_n 0, 1) := by decide +kernel
theorem dX3_work_56 : decode cX3_work 56 = .ok (.iload_n 2, 1) := by decide +kernel
theorem dX3_work_57 : decode cX3_work 57 = .ok (.invokevirtual 131, 3) := by decide +kernel
theorem dX3_work_60 : decode cX3_work 60 = .ok (.ifCond .eq 18, 3) := by decide +kernel
theorem dX3_work_63 : decode cX3_work 63 = .ok (.iinc 1 1, 3) := by decide +kernel
theorem dX3_work_66 : decode cX3_work 66 = .ok (.aload_n 0, 1) := by decide +kernel
theorem dX3_work_67 : decode cX3_work 67 = .ok (.getfield 33, 3) := by decide +kernel
theorem dX3_work_70 : decode cX3_work 70 = .ok (.iload_n 2, 1) := by decide +kernel
theorem dX3_work_71 : decode cX3_work 71 = .ok (.invokevirtual 134, 3) := by decide +kernel
theorem dX3_work_74 : decode cX3_work 74 = .ok (.istore_n 2, 1) := by decide +kernel
theorem dX3_work_75 : decode cX3_work 75 = .ok (.goto 5, 3) := by decide +kernel
theorem dX3_work_78 : decode cX3_work 78 = .ok (.iconst 1, 1) := by decide +kernel
theorem dX3_work_79 : decode cX3_work 79 = .ok (.istore_n 3, 1) := by decide +kernel
theorem dX3_work_80 : decode cX3_work 80 = .ok (.iinc 4 1, 3) := by decide +kernel
theorem dX3_work_83 : decode cX3_work 83 = .ok (.goto (-50), 3) := by decide +kernel
theorem dX3_work_86 : decode cX3_work 86 = .ok (.aload_n 0, 1) := by decide +kernel
theorem dX3_work_87 : decode cX3_work 87 = .ok (.getfield 10, 3) := by decide +kernel
theorem dX3_work_90 : decode cX3_work 90 = .ok (.iload_n 3, 1) := by decide +kernel
theorem dX3_work_91 : decode cX3_work 91 = .ok (.putfield 137, 3) := by decide +kernel
theorem dX3_work_94 : decode cX3_work 94 = .ok (.aload_n 0, 1) := by decide +kernel
theorem dX3_work_95 : decode cX3_work 95 = .ok (.getfield 10, 3) := by decide +kernel
theorem dX3_work_98 : decode cX3_work 98 = .ok (.iload_n 3, 1) := by decide +kernel
theorem dX3_work_99 : decode cX3_work 99 = .ok (.ifCond .eq 7, 3) := by decide +kernel
theorem dX3_work_102 : decode cX3_work 102 = .ok (.iload_n 1, 1) := by decide +kernel
theorem dX3_work_103 : decode cX3_work 103 = .ok (.goto 4, 3) := by decide +kernel
theorem dX3_work_106 : decode cX3_work 106 = .ok (.iconst 0, 1) := by decide +kernel
theorem dX3_work_107 : decode cX3_work 107 = .ok (.putfield 140, 3) := by decide +kernel
theorem dX3_work_110 : decode cX3_work 110 = .ok (.aload_n 0, 1) := by decide +kernel
theorem dX3_work_111 : decode cX3_work 111 = .ok (.getfield 33, 3) := by decide +kernel
theorem dX3_work_114 : decode cX3_work 114 = .ok (.invokevirtual 119, 3) := by decide +kernel
theorem dX3_work_117 : decode cX3_work 117 = .ok (.pop, 1) := by decide +kernel
theorem dX3_work_118 : decode cX3_work 118 = .ok (.iload_n 1, 1) := by decide +kernel
theorem dX3_work_119 : decode cX3_work 119 = .ok (.ireturn, 1) := by decide +kernel
theorem dX3_stoppedPart_0 : decode cX3_stoppedPart 0 = .ok (.aload_n 0, 1) := by decide +kernel
theorem dX3_stoppedPart_1 : decode cX3_stoppedPart 1 = .ok (.getfield 10, 3) := by decide +kernel
theorem dX3_stoppedPart_4 : decode cX3_stoppedPart 4 = .ok (.getfield 137, 3) := by decide +kernel
theorem dX3_stoppedPart_7 : decode cX3_stoppedPart 7 = .ok (.ifCond .ne 13, 3) := by decide +kernel
theorem dX3_stoppedPart_10 : decode cX3_stoppedPart 10 = .ok (.new 62, 3) := by decide +kernel
theorem dX3_stoppedPart_13 : decode cX3_stoppedPart 13 = .ok (.dup, 1) := by decide +kernel
theorem dX3_stoppedPart_14 : decode cX3_stoppedPart 14 = .ok (.ldc 143, 2) := by decide +kernel
theorem dX3_stoppedPart_16 : decode cX3_stoppedPart 16 = .ok (.invokespecial 66, 3) := by decide +kernel
theorem dX3_stoppedPart_19 : decode cX3_stoppedPart 19 = .ok (.athrow, 1) := by decide +kernel
theorem dX3_stoppedPart_20 : decode cX3_stoppedPart 20 = .ok (.aload_n 0, 1) := by decide +kernel
theorem dX3_stoppedPart_21 : decode cX3_stoppedPart 21 = .ok (.getfield 10, 3) := by decide +kernel
theorem dX3_stoppedPart_24 : decode cX3_stoppedPart 24 = .ok (.getfield 140, 3) := by decide +kernel
theorem dX3_stoppedPart_27 : decode cX3_stoppedPart 27 = .ok (.ireturn, 1) := by decide +kernel
theorem dX3_undo_0 : decode cX3_undo 0 = .ok (.aload_n 0, 1) := by decide +kernel
theorem dX3_undo_1 : decode cX3_undo 1 = .ok (.getfield 37, 3) := by decide +kernel
theorem dX3_undo_4 : decode cX3_undo 4 = .ok (.ifCond .le 11, 3) := by decide +kernel
theorem dX3_undo_7 : decode cX3_undo 7 = .ok (.aload_n 0, 1) := by decide +kernel
theorem dX3_undo_8 : decode cX3_undo 8 = .ok (.getfield 37, 3) := by decide +kernel
theorem dX3_undo_11 : decode cX3_undo 11 = .ok (.iconst 5, 1) := by decide +kernel
theorem dX3_undo_12 : decode cX3_undo 12 = .ok (.if_icmp .le 13, 3) := by decide +kernel
theorem dX3_undo_15 : decode cX3_undo 15 = .ok (.new 62, 3) := by decide +kernel
theorem dX3_undo_18 : decode cX3_undo 18 = .ok (.dup, 1) := by decide +kernel
theorem dX3_undo_19 : decode cX3_undo 19 = .ok (.ldc 145, 2) := by decide +kernel
theorem dX3_undo_21 : decode cX3_undo 21 = .ok (.invokespecial 66, 3) := by decide +kernel
theorem dX3_undo_24 : decode cX3_undo 24 = .ok (.athrow, 1) := by decide +kernel
theorem dX3_undo_25 : decode cX3_undo 25 = .ok (.aload_n 0, 1) := by decide +kernel
theorem dX3_undo_26 : decode cX3_undo 26 = .ok (.dup, 1) := by decide +kernel
theorem dX3_undo_27 : decode cX3_undo 27 = .ok (.getfield 37, 3) := by decide +kernel
theorem dX3_undo_30 : decode cX3_undo 30 = .ok (.iconst 1, 1) := by decide +kernel
theorem dX3_undo_31 : decode cX3_undo 31 = .ok (.isub, 1) := by decide +kernel
theorem dX3_undo_32 : decode cX3_undo 32 = .ok (.putfield 37, 3) := by decide +kernel
theorem dX3_undo_35 : decode cX3_undo 35 = .ok (.aload_n 0, 1) := by decide +kernel
theorem dX3_undo_36 : decode cX3_undo 36 = .ok (.getfield 19, 3) := by decide +kernel
theorem dX3_undo_39 : decode cX3_undo 39 = .ok (.aload_n 0, 1) := by decide +kernel
theorem dX3_undo_40 : decode cX3_undo 40 = .ok (.getfield 37, 3) := by decide +kernel
theorem dX3_undo_43 : decode cX3_undo 43 = .ok (.aaload, 1) := by decide +kernel
theorem dX3_undo_44 : decode cX3_undo 44 = .ok (.aload_n 0, 1) := by decide +kernel
theorem dX3_undo_45 : decode cX3_undo 45 = .ok (.getfield 10, 3) := by decide +kernel
theorem dX3_undo_48 : decode cX3_undo 48 = .ok (.invokestatic 147, 3) := by decide +kernel
theorem dX3_undo_51 : decode cX3_undo 51 = .ok (.aload_n 0, 1) := by decide +kernel
theorem dX3_undo_52 : decode cX3_undo 52 = .ok (.getfield 37, 3) := by decide +kernel
theorem dX3_undo_55 : decode cX3_undo 55 = .ok (.ireturn, 1) := by decide +kernel
theorem dX3_keep_0 : decode cX3_keep 0 = .ok (.aload_n 0, 1) := by decide +kernel
theorem dX3_keep_1 : decode cX3_keep 1 = .ok (.getfield 10, 3) := by decide +kernel
theorem dX3_keep_4 : decode cX3_keep 4 = .ok (.aload_n 0, 1) := by decide +kernel
theorem dX3_keep_5 : decode cX3_keep 5 = .ok (.getfield 16, 3) := by decide +kernel
theorem dX3_keep_8 : decode cX3_keep 8 = .ok (.invokestatic 147, 3) := by decide +kernel
theorem dX3_keep_11 : decode cX3_keep 11 = .ok (.aload_n 0, 1) := by decide +kernel
theorem dX3_keep_12 : decode cX3_keep 12 = .ok (.iconst 1, 1) := by decide +kernel
theorem dX3_keep_13 : decode cX3_keep 13 = .ok (.putfield 41, 3) := by decide +kernel
theorem dX3_keep_16 : decode cX3_keep 16 = .ok (.aload_n 0, 1) := by decide +kernel
theorem dX3_keep_17 : decode cX3_keep 17 = .ok (.getfield 10, 3) := by decide +kernel
theorem dX3_keep_20 : decode cX3_keep 20 = .ok (.getfield 59, 3) := by decide +kernel
theorem dX3_keep_23 : decode cX3_keep 23 = .ok (.ireturn, 1) := by decide +kernel
theorem dX3_restore_0 : decode cX3_restore 0 = .ok (.aload_n 0, 1) := by decide +kernel
theorem dX3_restore_1 : decode cX3_restore 1 = .ok (.getfield 41, 3) := by decide +kernel
theorem dX3_restore_4 : decode cX3_restore 4 = .ok (.ifCond .ne 13, 3) := by decide +kernel
theorem dX3_restore_7 : decode cX3_restore 7 = .ok (.new 62, 3) := by decide +kernel
theorem dX3_restore_10 : decode cX3_restore 10 = .ok (.dup, 1) := by decide +kernel
theorem dX3_restore_11 : decode cX3_restore 11 = .ok (.ldc 151, 2) := by decide +kernel
theorem dX3_restore_13 : decode cX3_restore 13 = .ok (.invokespecial 66, 3) := by decide +kernel
theorem dX3_restore_16 : decode cX3_restore 16 = .ok (.athrow, 1) := by decide +kernel
theorem dX3_restore_17 : decode cX3_restore 17 = .ok (.aload_n 0, 1) := by decide +kernel
theorem dX3_restore_18 : decode cX3_restore 18 = .ok (.invokevirtual 53, 3) := by decide +kernel
theorem dX3_restore_21 : decode cX3_restore 21 = .ok (.aload_n 0, 1) := by decide +kernel
theorem dX3_restore_22 : decode cX3_restore 22 = .ok (.getfield 16, 3) := by decide +kernel
theorem dX3_restore_25 : decode cX3_restore 25 = .ok (.aload_n 0, 1) := by decide +kernel
theorem dX3_restore_26 : decode cX3_restore 26 = .ok (.getfield 10, 3) := by decide +kernel
theorem dX3_restore_29 : decode cX3_restore 29 = .ok (.invokestatic 147, 3) := by decide +kernel
theorem dX3_restore_32 : decode cX3_restore 32 = .ok (.aload_n 0, 1) := by decide +kernel
theorem dX3_restore_33 : decode cX3_restore 33 = .ok (.getfield 10, 3) := by decide +kernel
theorem dX3_restore_36 : decode cX3_restore 36 = .ok (.getfield 59, 3) := by decide +kernel
theorem dX3_restore_39 : decode cX3_restore 39 = .ok (.ireturn, 1) := by decide +kernel
theorem dX3_savedStates_0 : decode cX3_savedStates 0 = .ok (.aload_n 0, 1) := by decide +kernel
theorem dX3_savedStates_1 : decode cX3_savedStates 1 = .ok (.getfield 37, 3) := by decide +kernel
theorem dX3_savedStates_4 : decode cX3_savedStates 4 = .ok (.ireturn, 1) := by decide +kernel
theorem dX3_cars_0 : decode cX3_cars 0 = .ok (.aload_n 0, 1) := by decide +kernel
theorem dX3_cars_1 : decode cX3_cars 1 = .ok (.getfield 10, 3) := by decide +kernel
theorem dX3_cars_4 : decode cX3_cars 4 = .ok (.getfield 59, 3) := by decide +kernel
theorem dX3_cars_7 : decode cX3_cars 7 = .ok (.ireturn, 1) := by decide +kernel
theorem dX3_walls_0 : decode cX3_walls 0 = .ok (.aload_n 0, 1) := by decide +kernel
theorem dX3_walls_1 : decode cX3_walls 1 = .ok (.getfield 10, 3) := by decide +kernel
theorem dX3_walls_4 : decode cX3_walls 4 = .ok (.getfield 153, 3) := by decide +kernel
theorem dX3_walls_7 : decode cX3_walls 7 = .ok (.invokestatic 156, 3) := by decide +kernel
theorem dX3_walls_10 : decode cX3_walls 10 = .ok (.ireturn, 1) := by decide +kernel
theorem dX3_laneOf_0 : decode cX3_laneOf 0 = .ok (.aload_n 0, 1) := by decide +kernel
theorem dX3_laneOf_1 : decode cX3_laneOf 1 = .ok (.getfield 10, 3) := by decide +kernel
theorem dX3_laneOf_4 : decode cX3_laneOf 4 = .ok (.iload_n 1, 1) := by decide +kernel
theorem dX3_laneOf_5 : decode cX3_laneOf 5 = .ok (.invokevirtual 161, 3) := by decide +kernel
theorem dX3_laneOf_8 : decode cX3_laneOf 8 = .ok (.ifCond .ne 13, 3) := by decide +kernel
theorem dX3_laneOf_11 : decode cX3_laneOf 11 = .ok (.new 164, 3) := by decide +kernel
theorem dX3_laneOf_14 : decode cX3_laneOf 14 = .ok (.dup, 1) := by decide +kernel
theorem dX3_laneOf_15 : decode cX3_laneOf 15 = .ok (.ldc 166, 2) := by decide +kernel
theorem dX3_laneOf_17 : decode cX3_laneOf 17 = .ok (.invokespecial 168, 3) := by decide +kernel
theorem dX3_laneOf_20 : decode cX3_laneOf 20 = .ok (.athrow, 1) := by decide +kernel
theorem dX3_laneOf_21 : decode cX3_laneOf 21 = .ok (.aload_n 0, 1) := by decide +kernel
theorem dX3_laneOf_22 : decode cX3_laneOf 22 = .ok (.getfield 10, 3) := by decide +kernel
theorem dX3_laneOf_25 : decode cX3_laneOf 25 = .ok (.getfield 169, 3) := by decide +kernel
theorem dX3_laneOf_28 : decode cX3_laneOf 28 = .ok (.iload_n 1, 1) := by decide +kernel
theorem dX3_laneOf_29 : decode cX3_laneOf 29 = .ok (.iaload, 1) := by decide +kernel
theorem dX3_laneOf_30 : decode cX3_laneOf 30 = .ok (.ireturn, 1) := by decide +kernel
theorem dX3_placeOf_0 : decode cX3_placeOf 0 = .ok (.aload_n 0, 1) := by decide +kernel
theorem dX3_placeOf_1 : decode cX3_placeOf 1 = .ok (.getfield 10, 3) := by decide +kernel
theorem dX3_placeOf_4 : decode cX3_placeOf 4 = .ok (.iload_n 1, 1) := by decide +kernel
theorem dX3_placeOf_5 : decode cX3_placeOf 5 = .ok (.invokevirtual 161, 3) := by decide +kernel
theorem dX3_placeOf_8 : decode cX3_placeOf 8 = .ok (.ifCond .ne 13, 3) := by decide +kernel
theorem dX3_placeOf_11 : decode cX3_placeOf 11 = .ok (.new 164, 3) := by decide +kernel
theorem dX3_placeOf_14 : decode cX3_placeOf 14 = .ok (.dup, 1) := by decide +kernel
theorem dX3_placeOf_15 : decode cX3_placeOf 15 = .ok (.ldc 166, 2) := by decide +kernel
theorem dX3_placeOf_17 : decode cX3_placeOf 17 = .ok (.invokespecial 168, 3) := by decide +kernel
theorem dX3_placeOf_20 : decode cX3_placeOf 20 = .ok (.athrow, 1) := by decide +kernel
theorem dX3_placeOf_21 : decode cX3_placeOf 21 = .ok (.aload_n 0, 1) := by decide +kernel
theorem dX3_placeOf_22 : decode cX3_placeOf 22 = .ok (.getfield 10, 3) := by decide +kernel
theorem dX3_placeOf_25 : decode cX3_placeOf 25 = .ok (.getfield 173, 3) := by decide +kernel
theorem dX3_placeOf_28 : decode cX3_placeOf 28 = .ok (.iload_n 1, 1) := by decide +kernel
theorem dX3_placeOf_29 : decode cX3_placeOf 29 = .ok (.iaload, 1) := by decide +kernel
theorem dX3_placeOf_30 : decode cX3_placeOf 30 = .ok (.ireturn, 1) := by decide +kernel
theorem dX3_lengthOf_0 : decode cX3_lengthOf 0 = .ok (.aload_n 0, 1) := by decide +kernel
theorem dX3_lengthOf_1 : decode cX3_lengthOf 1 = .ok (.getfield 10, 3) := by decide +kernel
theorem dX3_lengthOf_4 : decode cX3_lengthOf 4 = .ok (.iload_n 1, 1) := by decide +kernel
theorem dX3_lengthOf_5 : decode cX3_lengthOf 5 = .ok (.invokevirtual 161, 3) := by decide +kernel
theorem dX3_lengthOf_8 : decode cX3_lengthOf 8 = .ok (.ifCond .ne 13, 3) := by decide +kernel
theorem dX3_lengthOf_11 : decode cX3_lengthOf 11 = .ok (.new 164, 3) := by decide +kernel
theorem dX3_lengthOf_14 : decode cX3_lengthOf 14 = .ok (.dup, 1) := by decide +kernel
theorem dX3_lengthOf_15 : decode cX3_lengthOf 15 = .ok (.ldc 166, 2) := by decide +kernel
theorem dX3_lengthOf_17 : decode cX3_lengthOf 17 = .ok (.invokespecial 168, 3) := by decide +kernel
theorem dX3_lengthOf_20 : decode cX3_lengthOf 20 = .ok (.athrow, 1) := by decide +kernel
theorem dX3_lengthOf_21 : decode cX3_lengthOf 21 = .ok (.aload_n 0, 1) := by decide +kernel
theorem dX3_lengthOf_22 : decode cX3_lengthOf 22 = .ok (.getfield 10, 3) := by decide +kernel
theorem dX3_lengthOf_25 : decode cX3_lengthOf 25 = .ok (.getfield 176, 3) := by decide +kernel
theorem dX3_lengthOf_28 : decode cX3_lengthOf 28 = .ok (.iload_n 1, 1) := by decide +kernel
theorem dX3_lengthOf_29 : decode cX3_lengthOf 29 = .ok (.iaload, 1) := by decide +kernel
theorem dX3_lengthOf_30 : decode cX3_lengthOf 30 = .ok (.ireturn, 1) := by decide +kernel
theorem dX3_carOn_0 : decode cX3_carOn 0 = .ok (.iload_n 1, 1) := by decide +kernel
theorem dX3_carOn_1 : decode cX3_carOn 1 = .ok (.invokestatic 179, 3) := by decide +kernel
theorem dX3_carOn_4 : decode cX3_carOn 4 = .ok (.ifCond .ne 13, 3) := by decide +kernel
theorem dX3_carOn_7 : decode cX3_carOn 7 = .ok (.new 164, 3) := by decide +kernel
theorem dX3_carOn_10 : decode cX3_carOn 10 = .ok (.dup, 1) := by decide +kernel
theorem dX3_carOn_11 : decode cX3_carOn 11 = .ok (.ldc 182, 2) := by decide +kernel
theorem dX3_carOn_13 : decode cX3_carOn 13 = .ok (.invokespecial 168, 3) := by decide +kernel
theorem dX3_carOn_16 : decode cX3_carOn 16 = .ok (.athrow, 1) := by decide +kernel
theorem dX3_carOn_17 : decode cX3_carOn 17 = .ok (.aload_n 0, 1) := by decide +kernel
theorem dX3_carOn_18 : decode cX3_carOn 18 = .ok (.getfield 10, 3) := by decide +kernel
theorem dX3_carOn_21 : decode cX3_carOn 21 = .ok (.iload_n 1, 1) := by decide +kernel
theorem dX3_carOn_22 : decode cX3_carOn 22 = .ok (.invokevirtual 184, 3) := by decide +kernel
theorem dX3_carOn_25 : decode cX3_carOn 25 = .ok (.ireturn, 1) := by decide +kernel
theorem dX3_isWall_0 : decode cX3_isWall 0 = .ok (.iload_n 1, 1) := by decide +kernel
theorem dX3_isWall_1 : decode cX3_isWall 1 = .ok (.invokestatic 179, 3) := by decide +kernel
theorem dX3_isWall_4 : decode cX3_isWall 4 = .ok (.ifCond .ne 13, 3) := by decide +kernel
theorem dX3_isWall_7 : decode cX3_isWall 7 = .ok (.new 164, 3) := by decide +kernel
theorem dX3_isWall_10 : decode cX3_isWall 10 = .ok (.dup, 1) := by decide +kernel
theorem dX3_isWall_11 : decode cX3_isWall 11 = .ok (.ldc 182, 2) := by decide +kernel
theorem dX3_isWall_13 : decode cX3_isWall 13 = .ok (.invokespecial 168, 3) := by decide +kernel
theorem dX3_isWall_16 : decode cX3_isWall 16 = .ok (.athrow, 1) := by decide +kernel
theorem dX3_isWall_17 : decode cX3_isWall 17 = .ok (.aload_n 0, 1) := by decide +kernel
theorem dX3_isWall_18 : decode cX3_isWall 18 = .ok (.getfield 10, 3) := by decide +kernel
theorem dX3_isWall_21 : decode cX3_isWall 21 = .ok (.iload_n 1, 1) := by decide +kernel
theorem dX3_isWall_22 : decode cX3_isWall 22 = .ok (.invokevirtual 187, 3) := by decide +kernel
theorem dX3_isWall_25 : decode cX3_isWall 25 = .ok (.ireturn, 1) := by decide +kernel
theorem dX3_freeCells_0 : decode cX3_freeCells 0 = .ok (.bipush 25, 2) := by decide +kernel
theorem dX3_freeCells_2 : decode cX3_freeCells 2 = .ok (.aload_n 0, 1) := by decide +kernel
theorem dX3_freeCells_3 : decode cX3_freeCells 3 = .ok (.getfield 10, 3) := by decide +kernel
theorem dX3_freeCells_6 : decode cX3_freeCells 6 = .ok (.invokevirtual 190, 3) := by decide +kernel
theorem dX3_freeCells_9 : decode cX3_freeCells 9 = .ok (.invokestatic 156, 3) := by decide +kernel
theorem dX3_freeCells_12 : decode cX3_freeCells 12 = .ok (.isub, 1) := by decide +kernel
theorem dX3_freeCells_13 : decode cX3_freeCells 13 = .ok (.ireturn, 1) := by decide +kernel
theorem dX3_isOut_0 : decode cX3_isOut 0 = .ok (.aload_n 0, 1) := by decide +kernel
theorem dX3_isOut_1 : decode cX3_isOut 1 = .ok (.getfield 10, 3) := by decide +kernel
theorem dX3_isOut_4 : decode cX3_isOut 4 = .ok (.invokevirtual 193, 3) := by decide +kernel
theorem dX3_isOut_7 : decode cX3_isOut 7 = .ok (.ireturn, 1) := by decide +kernel
theorem dX3_room_0 : decode cX3_room 0 = .ok (.aload_n 0, 1) := by decide +kernel
theorem dX3_room_1 : decode cX3_room 1 = .ok (.getfield 10, 3) := by decide +kernel
theorem dX3_room_4 : decode cX3_room 4 = .ok (.iload_n 1, 1) := by decide +kernel
theorem dX3_room_5 : decode cX3_room 5 = .ok (.invokevirtual 161, 3) := by decide +kernel
theorem dX3_room_8 : decode cX3_room 8 = .ok (.ifCond .ne 13, 3) := by decide +kernel
theorem dX3_room_11 : decode cX3_room 11 = .ok (.new 164, 3) := by decide +kernel
theorem dX3_room_14 : decode cX3_room 14 = .ok (.dup, 1) := by decide +kernel
theorem dX3_room_15 : decode cX3_room 15 = .ok (.ldc 166, 2) := by decide +kernel
theorem dX3_room_17 : decode cX3_room 17 = .ok (.invokespecial 168, 3) := by decide +kernel
theorem dX3_room_20 : decode cX3_room 20 = .ok (.athrow, 1) := by decide +kernel
theorem dX3_room_21 : decode cX3_room 21 = .ok (.aload_n 0, 1) := by decide +kernel
theorem dX3_room_22 : decode cX3_room 22 = .ok (.getfield 10, 3) := by decide +kernel
theorem dX3_room_25 : decode cX3_room 25 = .ok (.iload_n 1, 1) := by decide +kernel
theorem dX3_room_26 : decode cX3_room 26 = .ok (.iload_n 2, 1) := by decide +kernel
theorem dX3_room_27 : decode cX3_room 27 = .ok (.ifCond .eq 7, 3) := by decide +kernel
theorem dX3_room_30 : decode cX3_room 30 = .ok (.iconst 1, 1) := by decide +kernel
theorem dX3_room_31 : decode cX3_room 31 = .ok (.goto 4, 3) := by decide +kernel
theorem dX3_room_34 : decode cX3_room 34 = .ok (.iconst (-1), 1) := by decide +kernel
theorem dX3_room_35 : decode cX3_room 35 = .ok (.invokevirtual 196, 3) := by decide +kernel
theorem dX3_room_38 : decode cX3_room 38 = .ok (.ireturn, 1) := by decide +kernel
theorem dX3_possibleSlides_0 : decode cX3_possibleSlides 0 = .ok (.iconst 0, 1) := by decide +kernel
theorem dX3_possibleSlides_1 : decode cX3_possibleSlides 1 = .ok (.istore_n 1, 1) := by decide +kernel
theorem dX3_possibleSlides_2 : decode cX3_possibleSlides 2 = .ok (.iconst 0, 1) := by decide +kernel
theorem dX3_possibleSlides_3 : decode cX3_possibleSlides 3 = .ok (.istore_n 2, 1) := by decide +kernel
theorem dX3_possibleSlides_4 : decode cX3_possibleSlides 4 = .ok (.iload_n 2, 1) := by decide +kernel
theorem dX3_possibleSlides_5 : decode cX3_possibleSlides 5 = .ok (.aload_n 0, 1) := by decide +kernel
theorem dX3_possibleSlides_6 : decode cX3_possibleSlides 6 = .ok (.getfield 10, 3) := by decide +kernel
theorem dX3_possibleSlides_9 : decode cX3_possibleSlides 9 = .ok (.getfield 59, 3) := by decide +kernel
theorem dX3_possibleSlides_12 : decode cX3_possibleSlides 12 = .ok (.if_icmp .ge 31, 3) := by decide +kernel
theorem dX3_possibleSlides_15 : decode cX3_possibleSlides 15 = .ok (.iload_n 1, 1) := by decide +kernel
theorem dX3_possibleSlides_16 : decode cX3_possibleSlides 16 = .ok (.aload_n 0, 1) := by decide +kernel
theorem dX3_possibleSlides_17 : decode cX3_possibleSlides 17 = .ok (.getfield 10, 3) := by decide +kernel
theorem dX3_possibleSlides_20 : decode cX3_possibleSlides 20 = .ok (.iload_n 2, 1) := by decide +kernel
theorem dX3_possibleSlides_21 : decode cX3_possibleSlides 21 = .ok (.iconst 1, 1) := by decide +kernel
theorem dX3_possibleSlides_22 : decode cX3_possibleSlides 22 = .ok (.invokevirtual 196, 3) := by decide +kernel
theorem dX3_possibleSlides_25 : decode cX3_possibleSlides 25 = .ok (.aload_n 0, 1) := by decide +kernel
theorem dX3_possibleSlides_26 : decode cX3_possibleSlides 26 = .ok (.getfield 10, 3) := by decide +kernel
theorem dX3_possibleSlides_29 : decode cX3_possibleSlides 29 = .ok (.iload_n 2, 1) := by decide +kernel
theorem dX3_possibleSlides_30 : decode cX3_possibleSlides 30 = .ok (.iconst (-1), 1) := by decide +kernel
theorem dX3_possibleSlides_31 : decode cX3_possibleSlides 31 = .ok (.invokevirtual 196, 3) := by decide +kernel
theorem dX3_possibleSlides_34 : decode cX3_possibleSlides 34 = .ok (.iadd, 1) := by decide +kernel
theorem dX3_possibleSlides_35 : decode cX3_possibleSlides 35 = .ok (.iadd, 1) := by decide +kernel
theorem dX3_possibleSlides_36 : decode cX3_possibleSlides 36 = .ok (.istore_n 1, 1) := by decide +kernel
theorem dX3_possibleSlides_37 : decode cX3_possibleSlides 37 = .ok (.iinc 2 1, 3) := by decide +kernel
theorem dX3_possibleSlides_40 : decode cX3_possibleSlides 40 = .ok (.goto (-36), 3) := by decide +kernel
theorem dX3_possibleSlides_43 : decode cX3_possibleSlides 43 = .ok (.iload_n 1, 1) := by decide +kernel
theorem dX3_possibleSlides_44 : decode cX3_possibleSlides 44 = .ok (.ireturn, 1) := by decide +kernel
theorem dX3_logged_0 : decode cX3_logged 0 = .ok (.aload_n 0, 1) := by decide +kernel
theorem dX3_logged_1 : decode cX3_logged 1 = .ok (.getfield 10, 3) := by decide +kernel
theorem dX3_logged_4 : decode cX3_logged 4 = .ok (.getfield 85, 3) := by decide +kernel
theorem dX3_logged_7 : decode cX3_logged 7 = .ok (.ireturn, 1) := by decide +kernel
theorem dX3_carOfSlide_0 : decode cX3_carOfSlide 0 = .ok (.aload_n 0, 1) := by decide +kernel
theorem dX3_carOfSlide_1 : decode cX3_carOfSlide 1 = .ok (.getfield 10, 3) := by decide +kernel
theorem dX3_carOfSlide_4 : decode cX3_carOfSlide 4 = .ok (.iload_n 1, 1) := by decide +kernel
theorem dX3_carOfSlide_5 : decode cX3_carOfSlide 5 = .ok (.invokevirtual 199, 3) := by decide +kernel
theorem dX3_carOfSlide_8 : decode cX3_carOfSlide 8 = .ok (.ifCond .ne 13, 3) := by decide +kernel
theorem dX3_carOfSlide_11 : decode cX3_carOfSlide 11 = .ok (.new 164, 3) := by decide +kernel
theorem dX3_carOfSlide_14 : decode cX3_carOfSlide 14 = .ok (.dup, 1) := by decide +kernel
theorem dX3_carOfSlide_15 : decode cX3_carOfSlide 15 = .ok (.ldc 202, 2) := by decide +kernel
theorem dX3_carOfSlide_17 : decode cX3_carOfSlide 17 = .ok (.invokespecial 168, 3) := by decide +kernel
theorem dX3_carOfSlide_20 : decode cX3_carOfSlide 20 = .ok (.athrow, 1) := by decide +kernel
theorem dX3_carOfSlide_21 : decode cX3_carOfSlide 21 = .ok (.aload_n 0, 1) := by decide +kernel
theorem dX3_carOfSlide_22 : decode cX3_carOfSlide 22 = .ok (.getfield 10, 3) := by decide +kernel
theorem dX3_carOfSlide_25 : decode cX3_carOfSlide 25 = .ok (.getfield 204, 3) := by decide +kernel
theorem dX3_carOfSlide_28 : decode cX3_carOfSlide 28 = .ok (.iload_n 1, 1) := by decide +kernel
theorem dX3_carOfSlide_29 : decode cX3_carOfSlide 29 = .ok (.iaload, 1) := by decide +kernel
theorem dX3_carOfSlide_30 : decode cX3_carOfSlide 30 = .ok (.ireturn, 1) := by decide +kernel
theorem dX3_changeBySlide_0 : decode cX3_changeBySlide 0 = .ok (.aload_n 0, 1) := by decide +kernel
theorem dX3_changeBySlide_1 : decode cX3_changeBySlide 1 = .ok (.getfield 10, 3) := by decide +kernel
theorem dX3_changeBySlide_4 : decode cX3_changeBySlide 4 = .ok (.iload_n 1, 1) := by decide +kernel
theorem dX3_changeBySlide_5 : decode cX3_changeBySlide 5 = .ok (.invokevirtual 199, 3) := by decide +kernel
theorem dX3_changeBySlide_8 : decode cX3_changeBySlide 8 = .ok (.ifCond .ne 13, 3) := by decide +kernel
theorem dX3_changeBySlide_11 : decode cX3_changeBySlide 11 = .ok (.new 164, 3) := by decide +kernel
theorem dX3_changeBySlide_14 : decode cX3_changeBySlide 14 = .ok (.dup, 1) := by decide +kernel
theorem dX3_changeBySlide_15 : decode cX3_changeBySlide 15 = .ok (.ldc 202, 2) := by decide +kernel
theorem dX3_changeBySlide_17 : decode cX3_changeBySlide 17 = .ok (.invokespecial 168, 3) := by decide +kernel
theorem dX3_changeBySlide_20 : decode cX3_changeBySlide 20 = .ok (.athrow, 1) := by decide +kernel
theorem dX3_changeBySlide_21 : decode cX3_changeBySlide 21 = .ok (.aload_n 0, 1) := by decide +kernel
theorem dX3_changeBySlide_22 : decode cX3_changeBySlide 22 = .ok (.getfield 10, 3) := by decide +kernel
theorem dX3_changeBySlide_25 : decode cX3_changeBySlide 25 = .ok (.getfield 207, 3) := by decide +kernel
theorem dX3_changeBySlide_28 : decode cX3_changeBySlide 28 = .ok (.iload_n 1, 1) := by decide +kernel
theorem dX3_changeBySlide_29 : decode cX3_changeBySlide 29 = .ok (.iaload, 1) := by decide +kernel
theorem dX3_changeBySlide_30 : decode cX3_changeBySlide 30 = .ok (.ireturn, 1) := by decide +kernel
theorem dX3_stepsOf_0 : decode cX3_stepsOf 0 = .ok (.aload_n 0, 1) := by decide +kernel
theorem dX3_stepsOf_1 : decode cX3_stepsOf 1 = .ok (.getfield 10, 3) := by decide +kernel
theorem dX3_stepsOf_4 : decode cX3_stepsOf 4 = .ok (.iload_n 1, 1) := by decide +kernel
theorem dX3_stepsOf_5 : decode cX3_stepsOf 5 = .ok (.invokevirtual 161, 3) := by decide +kernel
theorem dX3_stepsOf_8 : decode cX3_stepsOf 8 = .ok (.ifCond .ne 13, 3) := by decide +kernel
theorem dX3_stepsOf_11 : decode cX3_stepsOf 11 = .ok (.new 164, 3) := by decide +kernel
theorem dX3_stepsOf_14 : decode cX3_stepsOf 14 = .ok (.dup, 1) := by decide +kernel
theorem dX3_stepsOf_15 : decode cX3_stepsOf 15 = .ok (.ldc 166, 2) := by decide +kernel
theorem dX3_stepsOf_17 : decode cX3_stepsOf 17 = .ok (.invokespecial 168, 3) := by decide +kernel
theorem dX3_stepsOf_20 : decode cX3_stepsOf 20 = .ok (.athrow, 1) := by decide +kernel
theorem dX3_stepsOf_21 : decode cX3_stepsOf 21 = .ok (.aload_n 0, 1) := by decide +kernel
theorem dX3_stepsOf_22 : decode cX3_stepsOf 22 = .ok (.getfield 10, 3) := by decide +kernel
theorem dX3_stepsOf_25 : decode cX3_stepsOf 25 = .ok (.iload_n 1, 1) := by decide +kernel
theorem dX3_stepsOf_26 : decode cX3_stepsOf 26 = .ok (.invokevirtual 210, 3) := by decide +kernel
theorem dX3_stepsOf_29 : decode cX3_stepsOf 29 = .ok (.ireturn, 1) := by decide +kernel
theorem dX3_fuel_0 : decode cX3_fuel 0 = .ok (.aload_n 0, 1) := by decide +kernel
theorem dX3_fuel_1 : decode cX3_fuel 1 = .ok (.getfield 10, 3) := by decide +kernel
theorem dX3_fuel_4 : decode cX3_fuel 4 = .ok (.invokevirtual 213, 3) := by decide +kernel
theorem dX3_fuel_7 : decode cX3_fuel 7 = .ok (.ireturn, 1) := by decide +kernel
theorem dX3_fuelByCars_0 : decode cX3_fuelByCars 0 = .ok (.aload_n 0, 1) := by decide +kernel
theorem dX3_fuelByCars_1 : decode cX3_fuelByCars 1 = .ok (.getfield 10, 3) := by decide +kernel
theorem dX3_fuelByCars_4 : decode cX3_fuelByCars 4 = .ok (.invokevirtual 216, 3) := by decide +kernel
theorem dX3_fuelByCars_7 : decode cX3_fuelByCars 7 = .ok (.ireturn, 1) := by decide +kernel
theorem dX3_fewestSlides_0 : decode cX3_fewestSlides 0 = .ok (.aload_n 0, 1) := by decide +kernel
theorem dX3_fewestSlides_1 : decode cX3_fewestSlides 1 = .ok (.invokevirtual 219, 3) := by decide +kernel
theorem dX3_fewestSlides_4 : decode cX3_fewestSlides 4 = .ok (.aload_n 0, 1) := by decide +kernel
theorem dX3_fewestSlides_5 : decode cX3_fewestSlides 5 = .ok (.getfield 26, 3) := by decide +kernel
theorem dX3_fewestSlides_8 : decode cX3_fewestSlides 8 = .ok (.invokevirtual 222, 3) := by decide +kernel
theorem dX3_fewestSlides_11 : decode cX3_fewestSlides 11 = .ok (.ireturn, 1) := by decide +kernel
theorem dX3_fewestSlidesFromEnds_0 : decode cX3_fewestSlidesFromEnds 0 = .ok (.aload_n 0, 1) := by decide +kernel
theorem dX3_fewestSlidesFromEnds_1 : decode cX3_fewestSlidesFromEnds 1 = .ok (.invokevirtual 219, 3) := by decide +kernel
theorem dX3_fewestSlidesFromEnds_4 : decode cX3_fewestSlidesFromEnds 4 = .ok (.aload_n 0, 1) := by decide +kernel
theorem dX3_fewestSlidesFromEnds_5 : decode cX3_fewestSlidesFromEnds 5 = .ok (.getfield 26, 3) := by decide +kernel
theorem dX3_fewestSlidesFromEnds_8 : decode cX3_fewestSlidesFromEnds 8 = .ok (.invokevirtual 225, 3) := by decide +kernel
theorem dX3_fewestSlidesFromEnds_11 : decode cX3_fewestSlidesFromEnds 11 = .ok (.ireturn, 1) := by decide +kernel
theorem dX3_fewestSteps_0 : decode cX3_fewestSteps 0 = .ok (.aload_n 0, 1) := by decide +kernel
theorem dX3_fewestSteps_1 : decode cX3_fewestSteps 1 = .ok (.invokevirtual 219, 3) := by decide +kernel
theorem dX3_fewestSteps_4 : decode cX3_fewestSteps 4 = .ok (.aload_n 0, 1) := by decide +kernel
theorem dX3_fewestSteps_5 : decode cX3_fewestSteps 5 = .ok (.getfield 26, 3) := by decide +kernel
theorem dX3_fewestSteps_8 : decode cX3_fewestSteps 8 = .ok (.invokevirtual 228, 3) := by decide +kernel
theorem dX3_fewestSteps_11 : decode cX3_fewestSteps 11 = .ok (.ireturn, 1) := by decide +kernel
theorem dX3_leastFuel_0 : decode cX3_leastFuel 0 = .ok (.aload_n 0, 1) := by decide +kernel
theorem dX3_leastFuel_1 : decode cX3_leastFuel 1 = .ok (.invokevirtual 219, 3) := by decide +kernel
theorem dX3_leastFuel_4 : decode cX3_leastFuel 4 = .ok (.aload_n 0, 1) := by decide +kernel
theorem dX3_leastFuel_5 : decode cX3_leastFuel 5 = .ok (.getfield 26, 3) := by decide +kernel
theorem dX3_leastFuel_8 : decode cX3_leastFuel 8 = .ok (.invokevirtual 231, 3) := by decide +kernel
theorem dX3_leastFuel_11 : decode cX3_leastFuel 11 = .ok (.ireturn, 1) := by decide +kernel
theorem dX3_leastFuelByRounds_0 : decode cX3_leastFuelByRounds 0 = .ok (.aload_n 0, 1) := by decide +kernel
theorem dX3_leastFuelByRounds_1 : decode cX3_leastFuelByRounds 1 = .ok (.invokevirtual 219, 3) := by decide +kernel
theorem dX3_leastFuelByRounds_4 : decode cX3_leastFuelByRounds 4 = .ok (.aload_n 0, 1) := by decide +kernel
theorem dX3_leastFuelByRounds_5 : decode cX3_leastFuelByRounds 5 = .ok (.getfield 26, 3) := by decide +kernel
theorem dX3_leastFuelByRounds_8 : decode cX3_leastFuelByRounds 8 = .ok (.invokevirtual 234, 3) := by decide +kernel
theorem dX3_leastFuelByRounds_11 : decode cX3_leastFuelByRounds 11 = .ok (.ireturn, 1) := by decide +kernel
theorem dX3_nextCar_0 : decode cX3_nextCar 0 = .ok (.aload_n 0, 1) := by decide +kernel
theorem dX3_nextCar_1 : decode cX3_nextCar 1 = .ok (.invokevirtual 237, 3) := by decide +kernel
theorem dX3_nextCar_4 : decode cX3_nextCar 4 = .ok (.ifCond .ne 13, 3) := by decide +kernel
theorem dX3_nextCar_7 : decode cX3_nextCar 7 = .ok (.new 62, 3) := by decide +kernel
theorem dX3_nextCar_10 : decode cX3_nextCar 10 = .ok (.dup, 1) := by decide +kernel
theorem dX3_nextCar_11 : decode cX3_nextCar 11 = .ok (.ldc 240, 2) := by decide +kernel
theorem dX3_nextCar_13 : decode cX3_nextCar 13 = .ok (.invokespecial 66, 3) := by decide +kernel
theorem dX3_nextCar_16 : decode cX3_nextCar 16 = .ok (.athrow, 1) := by decide +kernel
theorem dX3_nextCar_17 : decode cX3_nextCar 17 = .ok (.aload_n 0, 1) := by decide +kernel
theorem dX3_nextCar_18 : decode cX3_nextCar 18 = .ok (.getfield 26, 3) := by decide +kernel
theorem dX3_nextCar_21 : decode cX3_nextCar 21 = .ok (.getfield 242, 3) := by decide +kernel
theorem dX3_nextCar_24 : decode cX3_nextCar 24 = .ok (.ireturn, 1) := by decide +kernel
theorem dX3_nextChange_0 : decode cX3_nextChange 0 = .ok (.aload_n 0, 1) := by decide +kernel
theorem dX3_nextChange_1 : decode cX3_nextChange 1 = .ok (.invokevirtual 237, 3) := by decide +kernel
theorem dX3_nextChange_4 : decode cX3_nextChange 4 = .ok (.ifCond .ne 13, 3) := by decide +kernel
theorem dX3_nextChange_7 : decode cX3_nextChange 7 = .ok (.new 62, 3) := by decide +kernel
theorem dX3_nextChange_10 : decode cX3_nextChange 10 = .ok (.dup, 1) := by decide +kernel
theorem dX3_nextChange_11 : decode cX3_nextChange 11 = .ok (.ldc 240, 2) := by decide +kernel
theorem dX3_nextChange_13 : decode cX3_nextChange 13 = .ok (.invokespecial 66, 3) := by decide +kernel
theorem dX3_nextChange_16 : decode cX3_nextChange 16 = .ok (.athrow, 1) := by decide +kernel
theorem dX3_nextChange_17 : decode cX3_nextChange 17 = .ok (.aload_n 0, 1) := by decide +kernel
theorem dX3_nextChange_18 : decode cX3_nextChange 18 = .ok (.getfield 26, 3) := by decide +kernel
theorem dX3_nextChange_21 : decode cX3_nextChange 21 = .ok (.getfield 245, 3) := by decide +kernel
theorem dX3_nextChange_24 : decode cX3_nextChange 24 = .ok (.ireturn, 1) := by decide +kernel
theorem dX3_reachable_0 : decode cX3_reachable 0 = .ok (.aload_n 0, 1) := by decide +kernel
theorem dX3_reachable_1 : decode cX3_reachable 1 = .ok (.invokevirtual 219, 3) := by decide +kernel
theorem dX3_reachable_4 : decode cX3_reachable 4 = .ok (.aload_n 0, 1) := by decide +kernel
theorem dX3_reachable_5 : decode cX3_reachable 5 = .ok (.getfield 26, 3) := by decide +kernel
theorem dX3_reachable_8 : decode cX3_reachable 8 = .ok (.iconst 3, 1) := by decide +kernel
theorem dX3_reachable_9 : decode cX3_reachable 9 = .ok (.invokevirtual 248, 3) := by decide +kernel
theorem dX3_reachable_12 : decode cX3_reachable 12 = .ok (.aload_n 0, 1) := by decide +kernel
theorem dX3_reachable_13 : decode cX3_reachable 13 = .ok (.getfield 26, 3) := by decide +kernel
theorem dX3_reachable_16 : decode cX3_reachable 16 = .ok (.getfield 251, 3) := by decide +kernel
theorem dX3_reachable_19 : decode cX3_reachable 19 = .ok (.ireturn, 1) := by decide +kernel
theorem dX3_reachableOut_0 : decode cX3_reachableOut 0 = .ok (.aload_n 0, 1) := by decide +kernel
theorem dX3_reachableOut_1 : decode cX3_reachableOut 1 = .ok (.invokevirtual 219, 3) := by decide +kernel
theorem dX3_reachableOut_4 : decode cX3_reachableOut 4 = .ok (.aload_n 0, 1) := by decide +kernel
theorem dX3_reachableOut_5 : decode cX3_reachableOut 5 = .ok (.getfield 26, 3) := by decide +kernel
theorem dX3_reachableOut_8 : decode cX3_reachableOut 8 = .ok (.iconst 3, 1) := by decide +kernel
theorem dX3_reachableOut_9 : decode cX3_reachableOut 9 = .ok (.invokevirtual 248, 3) := by decide +kernel
theorem dX3_reachableOut_12 : decode cX3_reachableOut 12 = .ok (.aload_n 0, 1) := by decide +kernel
theorem dX3_reachableOut_13 : decode cX3_reachableOut 13 = .ok (.getfield 26, 3) := by decide +kernel
theorem dX3_reachableOut_16 : decode cX3_reachableOut 16 = .ok (.invokevirtual 254, 3) := by decide +kernel
theorem dX3_reachableOut_19 : decode cX3_reachableOut 19 = .ok (.ireturn, 1) := by decide +kernel
theorem dX3_farthest_0 : decode cX3_farthest 0 = .ok (.aload_n 0, 1) := by decide +kernel
theorem dX3_farthest_1 : decode cX3_farthest 1 = .ok (.invokevirtual 219, 3) := by decide +kernel
theorem dX3_farthest_4 : decode cX3_farthest 4 = .ok (.aload_n 0, 1) := by decide +kernel
theorem dX3_farthest_5 : decode cX3_farthest 5 = .ok (.getfield 26, 3) := by decide +kernel
theorem dX3_farthest_8 : decode cX3_farthest 8 = .ok (.iconst 3, 1) := by decide +kernel
theorem dX3_farthest_9 : decode cX3_farthest 9 = .ok (.invokevirtual 248, 3) := by decide +kernel
theorem dX3_farthest_12 : decode cX3_farthest 12 = .ok (.aload_n 0, 1) := by decide +kernel
theorem dX3_farthest_13 : decode cX3_farthest 13 = .ok (.getfield 26, 3) := by decide +kernel
theorem dX3_farthest_16 : decode cX3_farthest 16 = .ok (.invokevirtual 257, 3) := by decide +kernel
theorem dX3_farthest_19 : decode cX3_farthest 19 = .ok (.ireturn, 1) := by decide +kernel
theorem dX3_arrangements_0 : decode cX3_arrangements 0 = .ok (.aload_n 0, 1) := by decide +kernel
theorem dX3_arrangements_1 : decode cX3_arrangements 1 = .ok (.invokevirtual 219, 3) := by decide +kernel
theorem dX3_arrangements_4 : decode cX3_arrangements 4 = .ok (.aload_n 0, 1) := by decide +kernel
theorem dX3_arrangements_5 : decode cX3_arrangements 5 = .ok (.getfield 26, 3) := by decide +kernel
theorem dX3_arrangements_8 : decode cX3_arrangements 8 = .ok (.invokevirtual 260, 3) := by decide +kernel
theorem dX3_arrangements_11 : decode cX3_arrangements 11 = .ok (.ireturn, 1) := by decide +kernel
theorem dX3_fewestBehind_0 : decode cX3_fewestBehind 0 = .ok (.aload_n 0, 1) := by decide +kernel
theorem dX3_fewestBehind_1 : decode cX3_fewestBehind 1 = .ok (.getfield 10, 3) := by decide +kernel
theorem dX3_fewestBehind_4 : decode cX3_fewestBehind 4 = .ok (.iload_n 1, 1) := by decide +kernel
theorem dX3_fewestBehind_5 : decode cX3_fewestBehind 5 = .ok (.iload_n 2, 1) := by decide +kernel
theorem dX3_fewestBehind_6 : decode cX3_fewestBehind 6 = .ok (.invokevirtual 81, 3) := by decide +kernel
theorem dX3_fewestBehind_9 : decode cX3_fewestBehind 9 = .ok (.invokestatic 49, 3) := by decide +kernel
theorem dX3_fewestBehind_12 : decode cX3_fewestBehind 12 = .ok (.aload_n 0, 1) := by decide +kernel
theorem dX3_fewestBehind_13 : decode cX3_fewestBehind 13 = .ok (.invokevirtual 219, 3) := by decide +kernel
theorem dX3_fewestBehind_16 : decode cX3_fewestBehind 16 = .ok (.aload_n 0, 1) := by decide +kernel
theorem dX3_fewestBehind_17 : decode cX3_fewestBehind 17 = .ok (.getfield 26, 3) := by decide +kernel
theorem dX3_fewestBehind_20 : decode cX3_fewestBehind 20 = .ok (.aload_n 0, 1) := by decide +kernel
theorem dX3_fewestBehind_21 : decode cX3_fewestBehind 21 = .ok (.getfield 26, 3) := by decide +kernel
theorem dX3_fewestBehind_24 : decode cX3_fewestBehind 24 = .ok (.aload_n 0, 1) := by decide +kernel
theorem dX3_fewestBehind_25 : decode cX3_fewestBehind 25 = .ok (.getfield 26, 3) := by decide +kernel
theorem dX3_fewestBehind_28 : decode cX3_fewestBehind 28 = .ok (.getfield 263, 3) := by decide +kernel
theorem dX3_fewestBehind_31 : decode cX3_fewestBehind 31 = .ok (.iload_n 1, 1) := by decide +kernel
theorem dX3_fewestBehind_32 : decode cX3_fewestBehind 32 = .ok (.iload_n 2, 1) := by decide +kernel
theorem dX3_fewestBehind_33 : decode cX3_fewestBehind 33 = .ok (.invokevirtual 266, 3) := by decide +kernel
theorem dX3_fewestBehind_36 : decode cX3_fewestBehind 36 = .ok (.putfield 263, 3) := by decide +kernel
theorem dX3_fewestBehind_39 : decode cX3_fewestBehind 39 = .ok (.aload_n 0, 1) := by decide +kernel
theorem dX3_fewestBehind_40 : decode cX3_fewestBehind 40 = .ok (.getfield 26, 3) := by decide +kernel
theorem dX3_fewestBehind_43 : decode cX3_fewestBehind 43 = .ok (.invokevirtual 222, 3) := by decide +kernel
theorem dX3_fewestBehind_46 : decode cX3_fewestBehind 46 = .ok (.ireturn, 1) := by decide +kernel
theorem dX3_fewestWithoutLast_0 : decode cX3_fewestWithoutLast 0 = .ok (.aload_n 0, 1) := by decide +kernel
theorem dX3_fewestWithoutLast_1 : decode cX3_fewestWithoutLast 1 = .ok (.getfield 10, 3) := by decide +kernel
theorem dX3_fewestWithoutLast_4 : decode cX3_fewestWithoutLast 4 = .ok (.getfield 59, 3) := by decide +kernel
theorem dX3_fewestWithoutLast_7 : decode cX3_fewestWithoutLast 7 = .ok (.iconst 2, 1) := by decide +kernel
theorem dX3_fewestWithoutLast_8 : decode cX3_fewestWithoutLast 8 = .ok (.if_icmp .ge 14, 3) := by decide +kernel
theorem dX3_fewestWithoutLast_11 : decode cX3_fewestWithoutLast 11 = .ok (.new 62, 3) := by decide +kernel
theorem dX3_fewestWithoutLast_14 : decode cX3_fewestWithoutLast 14 = .ok (.dup, 1) := by decide +kernel
theorem dX3_fewestWithoutLast_15 : decode cX3_fewestWithoutLast 15 = .ok (.ldc_w 269, 3) := by decide +kernel
theorem dX3_fewestWithoutLast_18 : decode cX3_fewestWithoutLast 18 = .ok (.invokespecial 66, 3) := by decide +kernel
theorem dX3_fewestWithoutLast_21 : decode cX3_fewestWithoutLast 21 = .ok (.athrow, 1) := by decide +kernel
theorem dX3_fewestWithoutLast_22 : decode cX3_fewestWithoutLast 22 = .ok (.aload_n 0, 1) := by decide +kernel
theorem dX3_fewestWithoutLast_23 : decode cX3_fewestWithoutLast 23 = .ok (.getfield 26, 3) := by decide +kernel
theorem dX3_fewestWithoutLast_26 : decode cX3_fewestWithoutLast 26 = .ok (.aload_n 0, 1) := by decide +kernel
theorem dX3_fewestWithoutLast_27 : decode cX3_fewestWithoutLast 27 = .ok (.getfield 10, 3) := by decide +kernel
theorem dX3_fewestWithoutLast_30 : decode cX3_fewestWithoutLast 30 = .ok (.aload_n 0, 1) := by decide +kernel
theorem dX3_fewestWithoutLast_31 : decode cX3_fewestWithoutLast 31 = .ok (.getfield 10, 3) := by decide +kernel
theorem dX3_fewestWithoutLast_34 : decode cX3_fewestWithoutLast 34 = .ok (.getfield 59, 3) := by decide +kernel
theorem dX3_fewestWithoutLast_37 : decode cX3_fewestWithoutLast 37 = .ok (.iconst 1, 1) := by decide +kernel
theorem dX3_fewestWithoutLast_38 : decode cX3_fewestWithoutLast 38 = .ok (.isub, 1) := by decide +kernel
theorem dX3_fewestWithoutLast_39 : decode cX3_fewestWithoutLast 39 = .ok (.aload_n 0, 1) := by decide +kernel
theorem dX3_fewestWithoutLast_40 : decode cX3_fewestWithoutLast 40 = .ok (.getfield 10, 3) := by decide +kernel
theorem dX3_fewestWithoutLast_43 : decode cX3_fewestWithoutLast 43 = .ok (.getfield 153, 3) := by decide +kernel
theorem dX3_fewestWithoutLast_46 : decode cX3_fewestWithoutLast 46 = .ok (.invokevirtual 271, 3) := by decide +kernel
theorem dX3_fewestWithoutLast_49 : decode cX3_fewestWithoutLast 49 = .ok (.aload_n 0, 1) := by decide +kernel
theorem dX3_fewestWithoutLast_50 : decode cX3_fewestWithoutLast 50 = .ok (.getfield 26, 3) := by decide +kernel
theorem dX3_fewestWithoutLast_53 : decode cX3_fewestWithoutLast 53 = .ok (.invokevirtual 222, 3) := by decide +kernel
theorem dX3_fewestWithoutLast_56 : decode cX3_fewestWithoutLast 56 = .ok (.ireturn, 1) := by decide +kernel
theorem dX3_fewestWithWall_0 : decode cX3_fewestWithWall 0 = .ok (.iload_n 1, 1) := by decide +kernel
theorem dX3_fewestWithWall_1 : decode cX3_fewestWithWall 1 = .ok (.invokestatic 179, 3) := by decide +kernel
theorem dX3_fewestWithWall_4 : decode cX3_fewestWithWall 4 = .ok (.ifCond .ne 13, 3) := by decide +kernel
theorem dX3_fewestWithWall_7 : decode cX3_fewestWithWall 7 = .ok (.new 164, 3) := by decide +kernel
theorem dX3_fewestWithWall_10 : decode cX3_fewestWithWall 10 = .ok (.dup, 1) := by decide +kernel
theorem dX3_fewestWithWall_11 : decode cX3_fewestWithWall 11 = .ok (.ldc 182, 2) := by decide +kernel
theorem dX3_fewestWithWall_13 : decode cX3_fewestWithWall 13 = .ok (.invokespecial 168, 3) := by decide +kernel
theorem dX3_fewestWithWall_16 : decode cX3_fewestWithWall 16 = .ok (.athrow, 1) := by decide +kernel
theorem dX3_fewestWithWall_17 : decode cX3_fewestWithWall 17 = .ok (.aload_n 0, 1) := by decide +kernel
theorem dX3_fewestWithWall_18 : decode cX3_fewestWithWall 18 = .ok (.getfield 10, 3) := by decide +kernel
theorem dX3_fewestWithWall_21 : decode cX3_fewestWithWall 21 = .ok (.invokevirtual 190, 3) := by decide +kernel
theorem dX3_fewestWithWall_24 : decode cX3_fewestWithWall 24 = .ok (.iconst 1, 1) := by decide +kernel
theorem dX3_fewestWithWall_25 : decode cX3_fewestWithWall 25 = .ok (.iload_n 1, 1) := by decide +kernel
theorem dX3_fewestWithWall_26 : decode cX3_fewestWithWall 26 = .ok (.ishl, 1) := by decide +kernel
theorem dX3_fewestWithWall_27 : decode cX3_fewestWithWall 27 = .ok (.iand, 1) := by decide +kernel
theorem dX3_fewestWithWall_28 : decode cX3_fewestWithWall 28 = .ok (.ifCond .eq 14, 3) := by decide +kernel
theorem dX3_fewestWithWall_31 : decode cX3_fewestWithWall 31 = .ok (.new 62, 3) := by decide +kernel
theorem dX3_fewestWithWall_34 : decode cX3_fewestWithWall 34 = .ok (.dup, 1) := by decide +kernel
theorem dX3_fewestWithWall_35 : decode cX3_fewestWithWall 35 = .ok (.ldc_w 275, 3) := by decide +kernel
theorem dX3_fewestWithWall_38 : decode cX3_fewestWithWall 38 = .ok (.invokespecial 66, 3) := by decide +kernel
theorem dX3_fewestWithWall_41 : decode cX3_fewestWithWall 41 = .ok (.athrow, 1) := by decide +kernel
theorem dX3_fewestWithWall_42 : decode cX3_fewestWithWall 42 = .ok (.aload_n 0, 1) := by decide +kernel
theorem dX3_fewestWithWall_43 : decode cX3_fewestWithWall 43 = .ok (.getfield 26, 3) := by decide +kernel
theorem dX3_fewestWithWall_46 : decode cX3_fewestWithWall 46 = .ok (.aload_n 0, 1) := by decide +kernel
theorem dX3_fewestWithWall_47 : decode cX3_fewestWithWall 47 = .ok (.getfield 10, 3) := by decide +kernel
theorem dX3_fewestWithWall_50 : decode cX3_fewestWithWall 50 = .ok (.aload_n 0, 1) := by decide +kernel
theorem dX3_fewestWithWall_51 : decode cX3_fewestWithWall 51 = .ok (.getfield 10, 3) := by decide +kernel
theorem dX3_fewestWithWall_54 : decode cX3_fewestWithWall 54 = .ok (.getfield 59, 3) := by decide +kernel
theorem dX3_fewestWithWall_57 : decode cX3_fewestWithWall 57 = .ok (.aload_n 0, 1) := by decide +kernel
theorem dX3_fewestWithWall_58 : decode cX3_fewestWithWall 58 = .ok (.getfield 10, 3) := by decide +kernel
theorem dX3_fewestWithWall_61 : decode cX3_fewestWithWall 61 = .ok (.getfield 153, 3) := by decide +kernel
theorem dX3_fewestWithWall_64 : decode cX3_fewestWithWall 64 = .ok (.iconst 1, 1) := by decide +kernel
theorem dX3_fewestWithWall_65 : decode cX3_fewestWithWall 65 = .ok (.iload_n 1, 1) := by decide +kernel
theorem dX3_fewestWithWall_66 : decode cX3_fewestWithWall 66 = .ok (.ishl, 1) := by decide +kernel
theorem dX3_fewestWithWall_67 : decode cX3_fewestWithWall 67 = .ok (.ior, 1) := by decide +kernel
theorem dX3_fewestWithWall_68 : decode cX3_fewestWithWall 68 = .ok (.invokevirtual 271, 3) := by decide +kernel
theorem dX3_fewestWithWall_71 : decode cX3_fewestWithWall 71 = .ok (.aload_n 0, 1) := by decide +kernel
theorem dX3_fewestWithWall_72 : decode cX3_fewestWithWall 72 = .ok (.getfield 26, 3) := by decide +kernel
theorem dX3_fewestWithWall_75 : decode cX3_fewestWithWall 75 = .ok (.invokevirtual 222, 3) := by decide +kernel
theorem dX3_fewestWithWall_78 : decode cX3_fewestWithWall 78 = .ok (.ireturn, 1) := by decide +kernel
theorem dX3_digest_0 : decode cX3_digest 0 = .ok (.aload_n 0, 1) := by decide +kernel
theorem dX3_digest_1 : decode cX3_digest 1 = .ok (.ldc2_w 281, 3) := by decide +kernel
theorem dX3_digest_4 : decode cX3_digest 4 = .ok (.invokevirtual 283, 3) := by decide +kernel
theorem dX3_digest_7 : decode cX3_digest 7 = .ok (.lstore_n 1, 1) := by decide +kernel
theorem dX3_digest_8 : decode cX3_digest 8 = .ok (.aload_n 0, 1) := by decide +kernel
theorem dX3_digest_9 : decode cX3_digest 9 = .ok (.invokevirtual 219, 3) := by decide +kernel
theorem dX3_digest_12 : decode cX3_digest 12 = .ok (.aload_n 0, 1) := by decide +kernel
theorem dX3_digest_13 : decode cX3_digest 13 = .ok (.lload_n 1, 1) := by decide +kernel
theorem dX3_digest_14 : decode cX3_digest 14 = .ok (.invokevirtual 287, 3) := by decide +kernel
theorem dX3_digest_17 : decode cX3_digest 17 = .ok (.lstore_n 1, 1) := by decide +kernel
theorem dX3_digest_18 : decode cX3_digest 18 = .ok (.aload_n 0, 1) := by decide +kernel
theorem dX3_digest_19 : decode cX3_digest 19 = .ok (.getfield 26, 3) := by decide +kernel
theorem dX3_digest_22 : decode cX3_digest 22 = .ok (.iconst 3, 1) := by decide +kernel
theorem dX3_digest_23 : decode cX3_digest 23 = .ok (.invokevirtual 248, 3) := by decide +kernel
theorem dX3_digest_26 : decode cX3_digest 26 = .ok (.aload_n 0, 1) := by decide +kernel
theorem dX3_digest_27 : decode cX3_digest 27 = .ok (.lload_n 1, 1) := by decide +kernel
theorem dX3_digest_28 : decode cX3_digest 28 = .ok (.invokevirtual 290, 3) := by decide +kernel
theorem dX3_digest_31 : decode cX3_digest 31 = .ok (.lstore_n 1, 1) := by decide +kernel
theorem dX3_digest_32 : decode cX3_digest 32 = .ok (.lload_n 1, 1) := by decide +kernel
theorem dX3_digest_33 : decode cX3_digest 33 = .ok (.aload_n 0, 1) := by decide +kernel
theorem dX3_digest_34 : decode cX3_digest 34 = .ok (.getfield 37, 3) := by decide +kernel
theorem dX3_digest_37 : decode cX3_digest 37 = .ok (.i2l, 1) := by decide +kernel
theorem dX3_digest_38 : decode cX3_digest 38 = .ok (.invokestatic 293, 3) := by decide +kernel
theorem dX3_digest_41 : decode cX3_digest 41 = .ok (.lstore_n 1, 1) := by decide +kernel
theorem dX3_digest_42 : decode cX3_digest 42 = .ok (.aload_n 0, 1) := by decide +kernel
theorem dX3_digest_43 : decode cX3_digest 43 = .ok (.lload_n 1, 1) := by decide +kernel
theorem dX3_digest_44 : decode cX3_digest 44 = .ok (.invokevirtual 297, 3) := by decide +kernel
theorem dX3_digest_47 : decode cX3_digest 47 = .ok (.lstore_n 1, 1) := by decide +kernel
theorem dX3_digest_48 : decode cX3_digest 48 = .ok (.aload_n 0, 1) := by decide +kernel
theorem dX3_digest_49 : decode cX3_digest 49 = .ok (.lload_n 1, 1) := by decide +kernel
theorem dX3_digest_50 : decode cX3_digest 50 = .ok (.invokevirtual 300, 3) := by decide +kernel
theorem dX3_digest_53 : decode cX3_digest 53 = .ok (.lstore_n 1, 1) := by decide +kernel
theorem dX3_digest_54 : decode cX3_digest 54 = .ok (.aload_n 0, 1) := by decide +kernel
theorem dX3_digest_55 : decode cX3_digest 55 = .ok (.lload_n 1, 1) := by decide +kernel
theorem dX3_digest_56 : decode cX3_digest 56 = .ok (.invokevirtual 303, 3) := by decide +kernel
theorem dX3_digest_59 : decode cX3_digest 59 = .ok (.lstore_n 1, 1) := by decide +kernel
theorem dX3_digest_60 : decode cX3_digest 60 = .ok (.lload_n 1, 1) := by decide +kernel
theorem dX3_digest_61 : decode cX3_digest 61 = .ok (.aload_n 0, 1) := by decide +kernel
theorem dX3_digest_62 : decode cX3_digest 62 = .ok (.getfield 10, 3) := by decide +kernel
theorem dX3_digest_65 : decode cX3_digest 65 = .ok (.getfield 137, 3) := by decide +kernel
theorem dX3_digest_68 : decode cX3_digest 68 = .ok (.ifCond .eq 7, 3) := by decide +kernel
theorem dX3_digest_71 : decode cX3_digest 71 = .ok (.lconst 1, 1) := by decide +kernel
theorem dX3_digest_72 : decode cX3_digest 72 = .ok (.goto 4, 3) := by decide +kernel
theorem dX3_digest_75 : decode cX3_digest 75 = .ok (.lconst 0, 1) := by decide +kernel
theorem dX3_digest_76 : decode cX3_digest 76 = .ok (.invokestatic 293, 3) := by decide +kernel
theorem dX3_digest_79 : decode cX3_digest 79 = .ok (.lstore_n 1, 1) := by decide +kernel
theorem dX3_digest_80 : decode cX3_digest 80 = .ok (.aload_n 0, 1) := by decide +kernel
theorem dX3_digest_81 : decode cX3_digest 81 = .ok (.getfield 10, 3) := by decide +kernel
theorem dX3_digest_84 : decode cX3_digest 84 = .ok (.getfield 137, 3) := by decide +kernel
theorem dX3_digest_87 : decode cX3_digest 87 = .ok (.ifCond .eq 16, 3) := by decide +kernel
theorem dX3_digest_90 : decode cX3_digest 90 = .ok (.lload_n 1, 1) := by decide +kernel
theorem dX3_digest_91 : decode cX3_digest 91 = .ok (.aload_n 0, 1) := by decide +kernel
theorem dX3_digest_92 : decode cX3_digest 92 = .ok (.getfield 10, 3) := by decide +kernel
theorem dX3_digest_95 : decode cX3_digest 95 = .ok (.getfield 140, 3) := by decide +kernel
theorem dX3_digest_98 : decode cX3_digest 98 = .ok (.i2l, 1) := by decide +kernel
theorem dX3_digest_99 : decode cX3_digest 99 = .ok (.invokestatic 293, 3) := by decide +kernel
theorem dX3_digest_102 : decode cX3_digest 102 = .ok (.lstore_n 1, 1) := by decide +kernel
theorem dX3_digest_103 : decode cX3_digest 103 = .ok (.lload_n 1, 1) := by decide +kernel
theorem dX3_digest_104 : decode cX3_digest 104 = .ok (.aload_n 0, 1) := by decide +kernel
theorem dX3_digest_105 : decode cX3_digest 105 = .ok (.getfield 26, 3) := by decide +kernel
theorem dX3_digest_108 : decode cX3_digest 108 = .ok (.getfield 251, 3) := by decide +kernel
theorem dX3_digest_111 : decode cX3_digest 111 = .ok (.aload_n 0, 1) := by decide +kernel
theorem dX3_digest_112 : decode cX3_digest 112 = .ok (.getfield 26, 3) := by decide +kernel
theorem dX3_digest_115 : decode cX3_digest 115 = .ok (.invokevirtual 260, 3) := by decide +kernel
theorem dX3_digest_118 : decode cX3_digest 118 = .ok (.invokestatic 277, 3) := by decide +kernel
theorem dX3_digest_121 : decode cX3_digest 121 = .ok (.invokestatic 306, 3) := by decide +kernel
theorem dX3_digest_124 : decode cX3_digest 124 = .ok (.invokestatic 293, 3) := by decide +kernel
theorem dX3_digest_127 : decode cX3_digest 127 = .ok (.lstore_n 1, 1) := by decide +kernel
theorem dX3_digest_128 : decode cX3_digest 128 = .ok (.aload_n 0, 1) := by decide +kernel
theorem dX3_digest_129 : decode cX3_digest 129 = .ok (.lload_n 1, 1) := by decide +kernel
theorem dX3_digest_130 : decode cX3_digest 130 = .ok (.invokevirtual 310, 3) := by decide +kernel
theorem dX3_digest_133 : decode cX3_digest 133 = .ok (.lreturn, 1) := by decide +kernel
theorem dX3_refuse_0 : decode cX3_refuse 0 = .ok (.iload_n 0, 1) := by decide +kernel
theorem dX3_refuse_1 : decode cX3_refuse 1 = .ok (.iconst 1, 1) := by decide +kernel
theorem dX3_refuse_2 : decode cX3_refuse 2 = .ok (.if_icmp .ne 14, 3) := by decide +kernel
theorem dX3_refuse_5 : decode cX3_refuse 5 = .ok (.new 164, 3) := by decide +kernel
theorem dX3_refuse_8 : decode cX3_refuse 8 = .ok (.dup, 1) := by decide +kernel
theorem dX3_refuse_9 : decode cX3_refuse 9 = .ok (.ldc_w 313, 3) := by decide +kernel
theorem dX3_refuse_12 : decode cX3_refuse 12 = .ok (.invokespecial 168, 3) := by decide +kernel
theorem dX3_refuse_15 : decode cX3_refuse 15 = .ok (.athrow, 1) := by decide +kernel
theorem dX3_refuse_16 : decode cX3_refuse 16 = .ok (.iload_n 0, 1) := by decide +kernel
theorem dX3_refuse_17 : decode cX3_refuse 17 = .ok (.iconst 2, 1) := by decide +kernel
theorem dX3_refuse_18 : decode cX3_refuse 18 = .ok (.if_icmp .ne 14, 3) := by decide +kernel
theorem dX3_refuse_21 : decode cX3_refuse 21 = .ok (.new 106, 3) := by decide +kernel
theorem dX3_refuse_24 : decode cX3_refuse 24 = .ok (.dup, 1) := by decide +kernel
theorem dX3_refuse_25 : decode cX3_refuse 25 = .ok (.ldc_w 315, 3) := by decide +kernel
theorem dX3_refuse_28 : decode cX3_refuse 28 = .ok (.invokespecial 110, 3) := by decide +kernel
theorem dX3_refuse_31 : decode cX3_refuse 31 = .ok (.athrow, 1) := by decide +kernel
theorem dX3_refuse_32 : decode cX3_refuse 32 = .ok (.iload_n 0, 1) := by decide +kernel
theorem dX3_refuse_33 : decode cX3_refuse 33 = .ok (.iconst 3, 1) := by decide +kernel
theorem dX3_refuse_34 : decode cX3_refuse 34 = .ok (.if_icmp .ne 14, 3) := by decide +kernel
theorem dX3_refuse_37 : decode cX3_refuse 37 = .ok (.new 62, 3) := by decide +kernel
theorem dX3_refuse_40 : decode cX3_refuse 40 = .ok (.dup, 1) := by decide +kernel
theorem dX3_refuse_41 : decode cX3_refuse 41 = .ok (.ldc_w 317, 3) := by decide +kernel
theorem dX3_refuse_44 : decode cX3_refuse 44 = .ok (.invokespecial 66, 3) := by decide +kernel
theorem dX3_refuse_47 : decode cX3_refuse 47 = .ok (.athrow, 1) := by decide +kernel
theorem dX3_refuse_48 : decode cX3_refuse 48 = .ok (.return_, 1) := by decide +kernel
theorem dX3_copy_0 : decode cX3_copy 0 = .ok (.aload_n 0, 1) := by decide +kernel
theorem dX3_copy_1 : decode cX3_copy 1 = .ok (.ifnull 12, 3) := by decide +kernel
theorem dX3_copy_4 : decode cX3_copy 4 = .ok (.aload_n 1, 1) := by decide +kernel
theorem dX3_copy_5 : decode cX3_copy 5 = .ok (.ifnull 8, 3) := by decide +kernel
theorem dX3_copy_8 : decode cX3_copy 8 = .ok (.aload_n 1, 1) := by decide +kernel
theorem dX3_copy_9 : decode cX3_copy 9 = .ok (.aload_n 0, 1) := by decide +kernel
theorem dX3_copy_10 : decode cX3_copy 10 = .ok (.invokevirtual 319, 3) := by decide +kernel
theorem dX3_copy_13 : decode cX3_copy 13 = .ok (.return_, 1) := by decide +kernel
theorem dX3_save_0 : decode cX3_save 0 = .ok (.aload_n 0, 1) := by decide +kernel
theorem dX3_save_1 : decode cX3_save 1 = .ok (.getfield 37, 3) := by decide +kernel
theorem dX3_save_4 : decode cX3_save 4 = .ok (.iconst 5, 1) := by decide +kernel
theorem dX3_save_5 : decode cX3_save 5 = .ok (.if_icmp .lt 7, 3) := by decide +kernel
theorem dX3_save_8 : decode cX3_save 8 = .ok (.aload_n 0, 1) := by decide +kernel
theorem dX3_save_9 : decode cX3_save 9 = .ok (.invokevirtual 323, 3) := by decide +kernel
theorem dX3_save_12 : decode cX3_save 12 = .ok (.aload_n 0, 1) := by decide +kernel
theorem dX3_save_13 : decode cX3_save 13 = .ok (.getfield 10, 3) := by decide +kernel
theorem dX3_save_16 : decode cX3_save 16 = .ok (.aload_n 0, 1) := by decide +kernel
theorem dX3_save_17 : decode cX3_save 17 = .ok (.getfield 19, 3) := by decide +kernel
theorem dX3_save_20 : decode cX3_save 20 = .ok (.aload_n 0, 1) := by decide +kernel
theorem dX3_save_21 : decode cX3_save 21 = .ok (.getfield 37, 3) := by decide +kernel
theorem dX3_save_24 : decode cX3_save 24 = .ok (.aaload, 1) := by decide +kernel
theorem dX3_save_25 : decode cX3_save 25 = .ok (.invokestatic 147, 3) := by decide +kernel
theorem dX3_save_28 : decode cX3_save 28 = .ok (.aload_n 0, 1) := by decide +kernel
theorem dX3_save_29 : decode cX3_save 29 = .ok (.dup, 1) := by decide +kernel
theorem dX3_save_30 : decode cX3_save 30 = .ok (.getfield 37, 3) := by decide +kernel
theorem dX3_save_33 : decode cX3_save 33 = .ok (.iconst 1, 1) := by decide +kernel
theorem dX3_save_34 : decode cX3_save 34 = .ok (.iadd, 1) := by decide +kernel
theorem dX3_save_35 : decode cX3_save 35 = .ok (.putfield 37, 3) := by decide +kernel
theorem dX3_save_38 : decode cX3_save 38 = .ok (.return_, 1) := by decide +kernel
theorem dX3_dropOldestSaved_0 : decode cX3_dropOldestSaved 0 = .ok (.aload_n 0, 1) := by decide +kernel
theorem dX3_dropOldestSaved_1 : decode cX3_dropOldestSaved 1 = .ok (.getfield 19, 3) := by decide +kernel
theorem dX3_dropOldestSaved_4 : decode cX3_dropOldestSaved 4 = .ok (.iconst 0, 1) := by decide +kernel
theorem dX3_dropOldestSaved_5 : decode cX3_dropOldestSaved 5 = .ok (.aaload, 1) := by decide +kernel
theorem dX3_dropOldestSaved_6 : decode cX3_dropOldestSaved 6 = .ok (.astore_n 1, 1) := by decide +kernel
theorem dX3_dropOldestSaved_7 : decode cX3_dropOldestSaved 7 = .ok (.iconst 1, 1) := by decide +kernel
theorem dX3_dropOldestSaved_8 : decode cX3_dropOldestSaved 8 = .ok (.istore_n 2, 1) := by decide +kernel
theorem dX3_dropOldestSaved_9 : decode cX3_dropOldestSaved 9 = .ok (.iload_n 2, 1) := by decide +kernel
theorem dX3_dropOldestSaved_10 : decode cX3_dropOldestSaved 10 = .ok (.iconst 5, 1) := by decide +kernel
theorem dX3_dropOldestSaved_11 : decode cX3_dropOldestSaved 11 = .ok (.if_icmp .ge 23, 3) := by decide +kernel
theorem dX3_dropOldestSaved_14 : decode cX3_dropOldestSaved 14 = .ok (.aload_n 0, 1) := by decide +kernel
theorem dX3_dropOldestSaved_15 : decode cX3_dropOldestSaved 15 = .ok (.getfield 19, 3) := by decide +kernel
theorem dX3_dropOldestSaved_18 : decode cX3_dropOldestSaved 18 = .ok (.iload_n 2, 1) := by decide +kernel
theorem dX3_dropOldestSaved_19 : decode cX3_dropOldestSaved 19 = .ok (.iconst 1, 1) := by decide +kernel
theorem dX3_dropOldestSaved_20 : decode cX3_dropOldestSaved 20 = .ok (.isub, 1) := by decide +kernel
theorem dX3_dropOldestSaved_21 : decode cX3_dropOldestSaved 21 = .ok (.aload_n 0, 1) := by decide +kernel
theorem dX3_dropOldestSaved_22 : decode cX3_dropOldestSaved 22 = .ok (.getfield 19, 3) := by decide +kernel
theorem dX3_dropOldestSaved_25 : decode cX3_dropOldestSaved 25 = .ok (.iload_n 2, 1) := by decide +kernel
theorem dX3_dropOldestSaved_26 : decode cX3_dropOldestSaved 26 = .ok (.aaload, 1) := by decide +kernel
theorem dX3_dropOldestSaved_27 : decode cX3_dropOldestSaved 27 = .ok (.aastore, 1) := by decide +kernel
theorem dX3_dropOldestSaved_28 : decode cX3_dropOldestSaved 28 = .ok (.iinc 2 1, 3) := by decide +kernel
theorem dX3_dropOldestSaved_31 : decode cX3_dropOldestSaved 31 = .ok (.goto (-22), 3) := by decide +kernel
theorem dX3_dropOldestSaved_34 : decode cX3_dropOldestSaved 34 = .ok (.aload_n 0, 1) := by decide +kernel
theorem dX3_dropOldestSaved_35 : decode cX3_dropOldestSaved 35 = .ok (.getfield 19, 3) := by decide +kernel
theorem dX3_dropOldestSaved_38 : decode cX3_dropOldestSaved 38 = .ok (.iconst 4, 1) := by decide +kernel
theorem dX3_dropOldestSaved_39 : decode cX3_dropOldestSaved 39 = .ok (.aload_n 1, 1) := by decide +kernel
theorem dX3_dropOldestSaved_40 : decode cX3_dropOldestSaved 40 = .ok (.aastore, 1) := by decide +kernel
theorem dX3_dropOldestSaved_41 : decode cX3_dropOldestSaved 41 = .ok (.aload_n 0, 1) := by decide +kernel
theorem dX3_dropOldestSaved_42 : decode cX3_dropOldestSaved 42 = .ok (.iconst 4, 1) := by decide +kernel
theorem dX3_dropOldestSaved_43 : decode cX3_dropOldestSaved 43 = .ok (.putfield 37, 3) := by decide +kernel
theorem dX3_dropOldestSaved_46 : decode cX3_dropOldestSaved 46 = .ok (.return_, 1) := by decide +kernel
theorem dX3_exploreNow_0 : decode cX3_exploreNow 0 = .ok (.aload_n 0, 1) := by decide +kernel
theorem dX3_exploreNow_1 : decode cX3_exploreNow 1 = .ok (.getfield 26, 3) := by decide +kernel
theorem dX3_exploreNow_4 : decode cX3_exploreNow 4 = .ok (.aload_n 0, 1) := by decide +kernel
theorem dX3_exploreNow_5 : decode cX3_exploreNow 5 = .ok (.getfield 10, 3) := by decide +kernel
theorem dX3_exploreNow_8 : decode cX3_exploreNow 8 = .ok (.aload_n 0, 1) := by decide +kernel
theorem dX3_exploreNow_9 : decode cX3_exploreNow 9 = .ok (.getfield 10, 3) := by decide +kernel
theorem dX3_exploreNow_12 : decode cX3_exploreNow 12 = .ok (.getfield 59, 3) := by decide +kernel
theorem dX3_exploreNow_15 : decode cX3_exploreNow 15 = .ok (.aload_n 0, 1) := by decide +kernel
theorem dX3_exploreNow_16 : decode cX3_exploreNow 16 = .ok (.getfield 10, 3) := by decide +kernel
theorem dX3_exploreNow_19 : decode cX3_exploreNow 19 = .ok (.getfield 153, 3) := by decide +kernel
theorem dX3_exploreNow_22 : decode cX3_exploreNow 22 = .ok (.invokevirtual 271, 3) := by decide +kernel
theorem dX3_exploreNow_25 : decode cX3_exploreNow 25 = .ok (.return_, 1) := by decide +kernel
theorem dX3_hasNextSlide_0 : decode cX3_hasNextSlide 0 = .ok (.aload_n 0, 1) := by decide +kernel
theorem dX3_hasNextSlide_1 : decode cX3_hasNextSlide 1 = .ok (.invokevirtual 219, 3) := by decide +kernel
theorem dX3_hasNextSlide_4 : decode cX3_hasNextSlide 4 = .ok (.aload_n 0, 1) := by decide +kernel
theorem dX3_hasNextSlide_5 : decode cX3_hasNextSlide 5 = .ok (.getfield 26, 3) := by decide +kernel
theorem dX3_hasNextSlide_8 : decode cX3_hasNextSlide 8 = .ok (.invokevirtual 225, 3) := by decide +kernel
theorem dX3_hasNextSlide_11 : decode cX3_hasNextSlide 11 = .ok (.pop, 1) := by decide +kernel
theorem dX3_hasNextSlide_12 : decode cX3_hasNextSlide 12 = .ok (.aload_n 0, 1) := by decide +kernel
theorem dX3_hasNextSlide_13 : decode cX3_hasNextSlide 13 = .ok (.getfield 26, 3) := by decide +kernel
theorem dX3_hasNextSlide_16 : decode cX3_hasNextSlide 16 = .ok (.aload_n 0, 1) := by decide +kernel
theorem dX3_hasNextSlide_17 : decode cX3_hasNextSlide 17 = .ok (.getfield 26, 3) := by decide +kernel
theorem dX3_hasNextSlide_20 : decode cX3_hasNextSlide 20 = .ok (.getfield 263, 3) := by decide +kernel
theorem dX3_hasNextSlide_23 : decode cX3_hasNextSlide 23 = .ok (.invokevirtual 326, 3) := by decide +kernel
theorem dX3_hasNextSlide_26 : decode cX3_hasNextSlide 26 = .ok (.ireturn, 1) := by decide +kernel
theorem dX3_slidesToDriveOut_0 : decode cX3_slidesToDriveOut 0 = .ok (.aload_n 0, 1) := by decide +kernel
theorem dX3_slidesToDriveOut_1 : decode cX3_slidesToDriveOut 1 = .ok (.invokevirtual 219, 3) := by decide +kernel
theorem dX3_slidesToDriveOut_4 : decode cX3_slidesToDriveOut 4 = .ok (.aload_n 0, 1) := by decide +kernel
theorem dX3_slidesToDriveOut_5 : decode cX3_slidesToDriveOut 5 = .ok (.getfield 26, 3) := by decide +kernel
theorem dX3_slidesToDriveOut_8 : decode cX3_slidesToDriveOut 8 = .ok (.invokevirtual 225, 3) := by decide +kernel
theorem dX3_slidesToDriveOut_11 : decode cX3_slidesToDriveOut 11 = .ok (.istore_n 1, 1) := by decide +kernel
theorem dX3_slidesToDriveOut_12 : decode cX3_slidesToDriveOut 12 = .ok (.aload_n 0, 1) := by decide +kernel
theorem dX3_slidesToDriveOut_13 : decode cX3_slidesToDriveOut 13 = .ok (.getfield 10, 3) := by decide +kernel
theorem dX3_slidesToDriveOut_16 : decode cX3_slidesToDriveOut 16 = .ok (.getfield 85, 3) := by decide +kernel
theorem dX3_slidesToDriveOut_19 : decode cX3_slidesToDriveOut 19 = .ok (.iload_n 1, 1) := by decide +kernel
theorem dX3_slidesToDriveOut_20 : decode cX3_slidesToDriveOut 20 = .ok (.iadd, 1) := by decide +kernel
theorem dX3_slidesToDriveOut_21 : decode cX3_slidesToDriveOut 21 = .ok (.bipush 60, 2) := by decide +kernel
theorem dX3_slidesToDriveOut_23 : decode cX3_slidesToDriveOut 23 = .ok (.if_icmp .le 7, 3) := by decide +kernel
theorem dX3_slidesToDriveOut_26 : decode cX3_slidesToDriveOut 26 = .ok (.iconst (-1), 1) := by decide +kernel
theorem dX3_slidesToDriveOut_27 : decode cX3_slidesToDriveOut 27 = .ok (.goto 4, 3) := by decide +kernel
theorem dX3_slidesToDriveOut_30 : decode cX3_slidesToDriveOut 30 = .ok (.iload_n 1, 1) := by decide +kernel
theorem dX3_slidesToDriveOut_31 : decode cX3_slidesToDriveOut 31 = .ok (.ireturn, 1) := by decide +kernel
theorem dX3_makePlan_0 : decode cX3_makePlan 0 = .ok (.aload_n 0, 1) := by decide +kernel
theorem dX3_makePlan_1 : decode cX3_makePlan 1 = .ok (.getfield 26, 3) := by decide +kernel
theorem dX3_makePlan_4 : decode cX3_makePlan 4 = .ok (.getfield 263, 3) := by decide +kernel
theorem dX3_makePlan_7 : decode cX3_makePlan 7 = .ok (.istore_n 2, 1) := by decide +kernel
theorem dX3_makePlan_8 : decode cX3_makePlan 8 = .ok (.iconst 0, 1) := by decide +kernel
theorem dX3_makePlan_9 : decode cX3_makePlan 9 = .ok (.istore_n 3, 1) := by decide +kernel
theorem dX3_makePlan_10 : decode cX3_makePlan 10 = .ok (.iload_n 3, 1) := by decide +kernel
theorem dX3_makePlan_11 : decode cX3_makePlan 11 = .ok (.iload_n 1, 1) := by decide +kernel
theorem dX3_makePlan_12 : decode cX3_makePlan 12 = .ok (.if_icmp .ge 63, 3) := by decide +kernel
theorem dX3_makePlan_15 : decode cX3_makePlan 15 = .ok (.aload_n 0, 1) := by decide +kernel
theorem dX3_makePlan_16 : decode cX3_makePlan 16 = .ok (.getfield 26, 3) := by decide +kernel
theorem dX3_makePlan_19 : decode cX3_makePlan 19 = .ok (.iload_n 2, 1) := by decide +kernel
theorem dX3_makePlan_20 : decode cX3_makePlan 20 = .ok (.invokevirtual 326, 3) := by decide +kernel
theorem dX3_makePlan_23 : decode cX3_makePlan 23 = .ok (.ifCond .eq 52, 3) := by decide +kernel
theorem dX3_makePlan_26 : decode cX3_makePlan 26 = .ok (.aload_n 0, 1) := by decide +kernel
theorem dX3_makePlan_27 : decode cX3_makePlan 27 = .ok (.getfield 26, 3) := by decide +kernel
theorem dX3_makePlan_30 : decode cX3_makePlan 30 = .ok (.getfield 242, 3) := by decide +kernel
theorem dX3_makePlan_33 : decode cX3_makePlan 33 = .ok (.istore 4, 2) := by decide +kernel
theorem dX3_makePlan_35 : decode cX3_makePlan 35 = .ok (.aload_n 0, 1) := by decide +kernel
theorem dX3_makePlan_36 : decode cX3_makePlan 36 = .ok (.getfield 26, 3) := by decide +kernel
theorem dX3_makePlan_39 : decode cX3_makePlan 39 = .ok (.getfield 245, 3) := by decide +kernel
theorem dX3_makePlan_42 : decode cX3_makePlan 42 = .ok (.istore 5, 2) := by decide +kernel
theorem dX3_makePlan_44 : decode cX3_makePlan 44 = .ok (.aload_n 0, 1) := by decide +kernel
theorem dX3_makePlan_45 : decode cX3_makePlan 45 = .ok (.getfield 10, 3) := by decide +kernel
theorem dX3_makePlan_48 : decode cX3_makePlan 48 = .ok (.iload 4, 2) := by decide +kernel
theorem dX3_makePlan_50 : decode cX3_makePlan 50 = .ok (.iload 5, 2) := by decide +kernel
theorem dX3_makePlan_52 : decode cX3_makePlan 52 = .ok (.invokevirtual 90, 3) := by decide +kernel
theorem dX3_makePlan_55 : decode cX3_makePlan 55 = .ok (.pop, 1) := by decide +kernel
theorem dX3_makePlan_56 : decode cX3_makePlan 56 = .ok (.aload_n 0, 1) := by decide +kernel
