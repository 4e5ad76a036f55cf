theorem dX0_init_0 : decode cX0_init 0 = .ok (.aload_n 0, 1) := by decide +kernel
theorem dX0_init_1 : decode cX0_init 1 = .ok (.invokespecial 5, 3) := by decide +kernel
theorem dX0_init_4 : decode cX0_init 4 = .ok (.aload_n 0, 1) := by decide +kernel
theorem dX0_init_5 : decode cX0_init 5 = .ok (.bipush 6, 2) := by decide +kernel
theorem dX0_init_7 : decode cX0_init 7 = .ok (.newarray .int, 2) := by decide +kernel
theorem dX0_init_9 : decode cX0_init 9 = .ok (.putfield 11, 3) := by decide +kernel
theorem dX0_init_12 : decode cX0_init 12 = .ok (.aload_n 0, 1) := by decide +kernel
theorem dX0_init_13 : decode cX0_init 13 = .ok (.sipush 4096, 3) := by decide +kernel
theorem dX0_init_16 : decode cX0_init 16 = .ok (.newarray .int, 2) := by decide +kernel
theorem dX0_init_18 : decode cX0_init 18 = .ok (.putfield 15, 3) := by decide +kernel
theorem dX0_init_21 : decode cX0_init 21 = .ok (.aload_n 0, 1) := by decide +kernel
theorem dX0_init_22 : decode cX0_init 22 = .ok (.sipush 4096, 3) := by decide +kernel
theorem dX0_init_25 : decode cX0_init 25 = .ok (.newarray .int, 2) := by decide +kernel
theorem dX0_init_27 : decode cX0_init 27 = .ok (.putfield 18, 3) := by decide +kernel
theorem dX0_init_30 : decode cX0_init 30 = .ok (.aload_n 0, 1) := by decide +kernel
theorem dX0_init_31 : decode cX0_init 31 = .ok (.sipush 4096, 3) := by decide +kernel
theorem dX0_init_34 : decode cX0_init 34 = .ok (.newarray .int, 2) := by decide +kernel
theorem dX0_init_36 : decode cX0_init 36 = .ok (.putfield 21, 3) := by decide +kernel
theorem dX0_init_39 : decode cX0_init 39 = .ok (.aload_n 0, 1) := by decide +kernel
theorem dX0_init_40 : decode cX0_init 40 = .ok (.sipush 16384, 3) := by decide +kernel
theorem dX0_init_43 : decode cX0_init 43 = .ok (.newarray .int, 2) := by decide +kernel
theorem dX0_init_45 : decode cX0_init 45 = .ok (.putfield 24, 3) := by decide +kernel
theorem dX0_init_48 : decode cX0_init 48 = .ok (.aload_n 0, 1) := by decide +kernel
theorem dX0_init_49 : decode cX0_init 49 = .ok (.iconst 4, 1) := by decide +kernel
theorem dX0_init_50 : decode cX0_init 50 = .ok (.newarray .int, 2) := by decide +kernel
theorem dX0_init_52 : decode cX0_init 52 = .ok (.putfield 27, 3) := by decide +kernel
theorem dX0_init_55 : decode cX0_init 55 = .ok (.return_, 1) := by decide +kernel
theorem dX0_load_0 : decode cX0_load 0 = .ok (.aload_n 0, 1) := by decide +kernel
theorem dX0_load_1 : decode cX0_load 1 = .ok (.iconst 0, 1) := by decide +kernel
theorem dX0_load_2 : decode cX0_load 2 = .ok (.iload_n 2, 1) := by decide +kernel
theorem dX0_load_3 : decode cX0_load 3 = .ok (.bipush 6, 2) := by decide +kernel
theorem dX0_load_5 : decode cX0_load 5 = .ok (.invokestatic 30, 3) := by decide +kernel
theorem dX0_load_8 : decode cX0_load 8 = .ok (.invokestatic 36, 3) := by decide +kernel
theorem dX0_load_11 : decode cX0_load 11 = .ok (.putfield 39, 3) := by decide +kernel
theorem dX0_load_14 : decode cX0_load 14 = .ok (.aload_n 0, 1) := by decide +kernel
theorem dX0_load_15 : decode cX0_load 15 = .ok (.iconst 1, 1) := by decide +kernel
theorem dX0_load_16 : decode cX0_load 16 = .ok (.putfield 43, 3) := by decide +kernel
theorem dX0_load_19 : decode cX0_load 19 = .ok (.aload_n 0, 1) := by decide +kernel
theorem dX0_load_20 : decode cX0_load 20 = .ok (.iconst 0, 1) := by decide +kernel
theorem dX0_load_21 : decode cX0_load 21 = .ok (.putfield 46, 3) := by decide +kernel
theorem dX0_load_24 : decode cX0_load 24 = .ok (.aload_n 0, 1) := by decide +kernel
theorem dX0_load_25 : decode cX0_load 25 = .ok (.getfield 15, 3) := by decide +kernel
theorem dX0_load_28 : decode cX0_load 28 = .ok (.iconst 0, 1) := by decide +kernel
theorem dX0_load_29 : decode cX0_load 29 = .ok (.iload_n 3, 1) := by decide +kernel
theorem dX0_load_30 : decode cX0_load 30 = .ok (.iastore, 1) := by decide +kernel
theorem dX0_load_31 : decode cX0_load 31 = .ok (.iconst 0, 1) := by decide +kernel
theorem dX0_load_32 : decode cX0_load 32 = .ok (.istore 4, 2) := by decide +kernel
theorem dX0_load_34 : decode cX0_load 34 = .ok (.iload 4, 2) := by decide +kernel
theorem dX0_load_36 : decode cX0_load 36 = .ok (.aload_n 0, 1) := by decide +kernel
theorem dX0_load_37 : decode cX0_load 37 = .ok (.getfield 39, 3) := by decide +kernel
theorem dX0_load_40 : decode cX0_load 40 = .ok (.if_icmp .ge 69, 3) := by decide +kernel
theorem dX0_load_43 : decode cX0_load 43 = .ok (.iload 4, 2) := by decide +kernel
theorem dX0_load_45 : decode cX0_load 45 = .ok (.bipush 6, 2) := by decide +kernel
theorem dX0_load_47 : decode cX0_load 47 = .ok (.if_icmp .ge 62, 3) := by decide +kernel
theorem dX0_load_50 : decode cX0_load 50 = .ok (.aload_n 0, 1) := by decide +kernel
theorem dX0_load_51 : decode cX0_load 51 = .ok (.getfield 11, 3) := by decide +kernel
theorem dX0_load_54 : decode cX0_load 54 = .ok (.iload 4, 2) := by decide +kernel
theorem dX0_load_56 : decode cX0_load 56 = .ok (.aload_n 1, 1) := by decide +kernel
theorem dX0_load_57 : decode cX0_load 57 = .ok (.getfield 49, 3) := by decide +kernel
theorem dX0_load_60 : decode cX0_load 60 = .ok (.iload 4, 2) := by decide +kernel
theorem dX0_load_62 : decode cX0_load 62 = .ok (.iaload, 1) := by decide +kernel
theorem dX0_load_63 : decode cX0_load 63 = .ok (.iastore, 1) := by decide +kernel
theorem dX0_load_64 : decode cX0_load 64 = .ok (.aload_n 0, 1) := by decide +kernel
theorem dX0_load_65 : decode cX0_load 65 = .ok (.dup, 1) := by decide +kernel
theorem dX0_load_66 : decode cX0_load 66 = .ok (.getfield 46, 3) := by decide +kernel
theorem dX0_load_69 : decode cX0_load 69 = .ok (.aload_n 1, 1) := by decide +kernel
theorem dX0_load_70 : decode cX0_load 70 = .ok (.getfield 52, 3) := by decide +kernel
theorem dX0_load_73 : decode cX0_load 73 = .ok (.iload 4, 2) := by decide +kernel
theorem dX0_load_75 : decode cX0_load 75 = .ok (.iaload, 1) := by decide +kernel
theorem dX0_load_76 : decode cX0_load 76 = .ok (.iconst 2, 1) := by decide +kernel
theorem dX0_load_77 : decode cX0_load 77 = .ok (.iload 4, 2) := by decide +kernel
theorem dX0_load_79 : decode cX0_load 79 = .ok (.imul, 1) := by decide +kernel
theorem dX0_load_80 : decode cX0_load 80 = .ok (.ishl, 1) := by decide +kernel
theorem dX0_load_81 : decode cX0_load 81 = .ok (.iadd, 1) := by decide +kernel
theorem dX0_load_82 : decode cX0_load 82 = .ok (.putfield 46, 3) := by decide +kernel
theorem dX0_load_85 : decode cX0_load 85 = .ok (.aload_n 0, 1) := by decide +kernel
theorem dX0_load_86 : decode cX0_load 86 = .ok (.aload_n 1, 1) := by decide +kernel
theorem dX0_load_87 : decode cX0_load 87 = .ok (.getfield 55, 3) := by decide +kernel
theorem dX0_load_90 : decode cX0_load 90 = .ok (.iload 4, 2) := by decide +kernel
theorem dX0_load_92 : decode cX0_load 92 = .ok (.iaload, 1) := by decide +kernel
theorem dX0_load_93 : decode cX0_load 93 = .ok (.aload_n 1, 1) := by decide +kernel
theorem dX0_load_94 : decode cX0_load 94 = .ok (.getfield 49, 3) := by decide +kernel
theorem dX0_load_97 : decode cX0_load 97 = .ok (.iload 4, 2) := by decide +kernel
theorem dX0_load_99 : decode cX0_load 99 = .ok (.iaload, 1) := by decide +kernel
theorem dX0_load_100 : decode cX0_load 100 = .ok (.invokevirtual 58, 3) := by decide +kernel
theorem dX0_load_103 : decode cX0_load 103 = .ok (.iinc 4 1, 3) := by decide +kernel
theorem dX0_load_106 : decode cX0_load 106 = .ok (.goto (-72), 3) := by decide +kernel
theorem dX0_load_109 : decode cX0_load 109 = .ok (.return_, 1) := by decide +kernel
theorem dX0_addToTable_0 : decode cX0_addToTable 0 = .ok (.aload_n 0, 1) := by decide +kernel
theorem dX0_addToTable_1 : decode cX0_addToTable 1 = .ok (.getfield 43, 3) := by decide +kernel
theorem dX0_addToTable_4 : decode cX0_addToTable 4 = .ok (.istore_n 3, 1) := by decide +kernel
theorem dX0_addToTable_5 : decode cX0_addToTable 5 = .ok (.iconst 3, 1) := by decide +kernel
theorem dX0_addToTable_6 : decode cX0_addToTable 6 = .ok (.istore 4, 2) := by decide +kernel
theorem dX0_addToTable_8 : decode cX0_addToTable 8 = .ok (.iload 4, 2) := by decide +kernel
theorem dX0_addToTable_10 : decode cX0_addToTable 10 = .ok (.ifCond .lt 82, 3) := by decide +kernel
theorem dX0_addToTable_13 : decode cX0_addToTable 13 = .ok (.iload 4, 2) := by decide +kernel
theorem dX0_addToTable_15 : decode cX0_addToTable 15 = .ok (.iload_n 2, 1) := by decide +kernel
theorem dX0_addToTable_16 : decode cX0_addToTable 16 = .ok (.iadd, 1) := by decide +kernel
theorem dX0_addToTable_17 : decode cX0_addToTable 17 = .ok (.iconst 5, 1) := by decide +kernel
theorem dX0_addToTable_18 : decode cX0_addToTable 18 = .ok (.if_icmp .gt 13, 3) := by decide +kernel
theorem dX0_addToTable_21 : decode cX0_addToTable 21 = .ok (.iload_n 1, 1) := by decide +kernel
theorem dX0_addToTable_22 : decode cX0_addToTable 22 = .ok (.iload 4, 2) := by decide +kernel
theorem dX0_addToTable_24 : decode cX0_addToTable 24 = .ok (.iload_n 2, 1) := by decide +kernel
theorem dX0_addToTable_25 : decode cX0_addToTable 25 = .ok (.invokestatic 62, 3) := by decide +kernel
theorem dX0_addToTable_28 : decode cX0_addToTable 28 = .ok (.goto 4, 3) := by decide +kernel
theorem dX0_addToTable_31 : decode cX0_addToTable 31 = .ok (.iconst (-1), 1) := by decide +kernel
theorem dX0_addToTable_32 : decode cX0_addToTable 32 = .ok (.istore 5, 2) := by decide +kernel
theorem dX0_addToTable_34 : decode cX0_addToTable 34 = .ok (.iconst 0, 1) := by decide +kernel
theorem dX0_addToTable_35 : decode cX0_addToTable 35 = .ok (.istore 6, 2) := by decide +kernel
theorem dX0_addToTable_37 : decode cX0_addToTable 37 = .ok (.iload 6, 2) := by decide +kernel
theorem dX0_addToTable_39 : decode cX0_addToTable 39 = .ok (.iload_n 3, 1) := by decide +kernel
theorem dX0_addToTable_40 : decode cX0_addToTable 40 = .ok (.if_icmp .ge 46, 3) := by decide +kernel
theorem dX0_addToTable_43 : decode cX0_addToTable 43 = .ok (.iload_n 3, 1) := by decide +kernel
theorem dX0_addToTable_44 : decode cX0_addToTable 44 = .ok (.iload 4, 2) := by decide +kernel
theorem dX0_addToTable_46 : decode cX0_addToTable 46 = .ok (.imul, 1) := by decide +kernel
theorem dX0_addToTable_47 : decode cX0_addToTable 47 = .ok (.iload 6, 2) := by decide +kernel
theorem dX0_addToTable_49 : decode cX0_addToTable 49 = .ok (.iadd, 1) := by decide +kernel
theorem dX0_addToTable_50 : decode cX0_addToTable 50 = .ok (.sipush 4096, 3) := by decide +kernel
theorem dX0_addToTable_53 : decode cX0_addToTable 53 = .ok (.if_icmp .ge 33, 3) := by decide +kernel
theorem dX0_addToTable_56 : decode cX0_addToTable 56 = .ok (.aload_n 0, 1) := by decide +kernel
theorem dX0_addToTable_57 : decode cX0_addToTable 57 = .ok (.getfield 15, 3) := by decide +kernel
theorem dX0_addToTable_60 : decode cX0_addToTable 60 = .ok (.iload_n 3, 1) := by decide +kernel
theorem dX0_addToTable_61 : decode cX0_addToTable 61 = .ok (.iload 4, 2) := by decide +kernel
theorem dX0_addToTable_63 : decode cX0_addToTable 63 = .ok (.imul, 1) := by decide +kernel
theorem dX0_addToTable_64 : decode cX0_addToTable 64 = .ok (.iload 6, 2) := by decide +kernel
theorem dX0_addToTable_66 : decode cX0_addToTable 66 = .ok (.iadd, 1) := by decide +kernel
theorem dX0_addToTable_67 : decode cX0_addToTable 67 = .ok (.aload_n 0, 1) := by decide +kernel
theorem dX0_addToTable_68 : decode cX0_addToTable 68 = .ok (.getfield 15, 3) := by decide +kernel
theorem dX0_addToTable_71 : decode cX0_addToTable 71 = .ok (.iload 6, 2) := by decide +kernel
theorem dX0_addToTable_73 : decode cX0_addToTable 73 = .ok (.iaload, 1) := by decide +kernel
theorem dX0_addToTable_74 : decode cX0_addToTable 74 = .ok (.iload 5, 2) := by decide +kernel
theorem dX0_addToTable_76 : decode cX0_addToTable 76 = .ok (.invokestatic 66, 3) := by decide +kernel
theorem dX0_addToTable_79 : decode cX0_addToTable 79 = .ok (.iastore, 1) := by decide +kernel
theorem dX0_addToTable_80 : decode cX0_addToTable 80 = .ok (.iinc 6 1, 3) := by decide +kernel
theorem dX0_addToTable_83 : decode cX0_addToTable 83 = .ok (.goto (-46), 3) := by decide +kernel
theorem dX0_addToTable_86 : decode cX0_addToTable 86 = .ok (.iinc 4 (-1), 3) := by decide +kernel
theorem dX0_addToTable_89 : decode cX0_addToTable 89 = .ok (.goto (-81), 3) := by decide +kernel
theorem dX0_addToTable_92 : decode cX0_addToTable 92 = .ok (.aload_n 0, 1) := by decide +kernel
theorem dX0_addToTable_93 : decode cX0_addToTable 93 = .ok (.iload_n 3, 1) := by decide +kernel
theorem dX0_addToTable_94 : decode cX0_addToTable 94 = .ok (.iconst 4, 1) := by decide +kernel
theorem dX0_addToTable_95 : decode cX0_addToTable 95 = .ok (.imul, 1) := by decide +kernel
theorem dX0_addToTable_96 : decode cX0_addToTable 96 = .ok (.sipush 4096, 3) := by decide +kernel
theorem dX0_addToTable_99 : decode cX0_addToTable 99 = .ok (.invokestatic 30, 3) := by decide +kernel
theorem dX0_addToTable_102 : decode cX0_addToTable 102 = .ok (.putfield 43, 3) := by decide +kernel
theorem dX0_addToTable_105 : decode cX0_addToTable 105 = .ok (.return_, 1) := by decide +kernel
theorem dX0_together_0 : decode cX0_together 0 = .ok (.iload_n 0, 1) := by decide +kernel
theorem dX0_together_1 : decode cX0_together 1 = .ok (.iconst (-1), 1) := by decide +kernel
theorem dX0_together_2 : decode cX0_together 2 = .ok (.if_icmp .eq 18, 3) := by decide +kernel
theorem dX0_together_5 : decode cX0_together 5 = .ok (.iload_n 1, 1) := by decide +kernel
theorem dX0_together_6 : decode cX0_together 6 = .ok (.iconst (-1), 1) := by decide +kernel
theorem dX0_together_7 : decode cX0_together 7 = .ok (.if_icmp .eq 13, 3) := by decide +kernel
theorem dX0_together_10 : decode cX0_together 10 = .ok (.iload_n 0, 1) := by decide +kernel
theorem dX0_together_11 : decode cX0_together 11 = .ok (.iload_n 1, 1) := by decide +kernel
theorem dX0_together_12 : decode cX0_together 12 = .ok (.iand, 1) := by decide +kernel
theorem dX0_together_13 : decode cX0_together 13 = .ok (.ifCond .ne 7, 3) := by decide +kernel
theorem dX0_together_16 : decode cX0_together 16 = .ok (.iconst 1, 1) := by decide +kernel
theorem dX0_together_17 : decode cX0_together 17 = .ok (.goto 4, 3) := by decide +kernel
theorem dX0_together_20 : decode cX0_together 20 = .ok (.iconst 0, 1) := by decide +kernel
theorem dX0_together_21 : decode cX0_together 21 = .ok (.istore_n 2, 1) := by decide +kernel
theorem dX0_together_22 : decode cX0_together 22 = .ok (.iload_n 2, 1) := by decide +kernel
theorem dX0_together_23 : decode cX0_together 23 = .ok (.ifCond .eq 9, 3) := by decide +kernel
theorem dX0_together_26 : decode cX0_together 26 = .ok (.iload_n 0, 1) := by decide +kernel
theorem dX0_together_27 : decode cX0_together 27 = .ok (.iload_n 1, 1) := by decide +kernel
theorem dX0_together_28 : decode cX0_together 28 = .ok (.ior, 1) := by decide +kernel
theorem dX0_together_29 : decode cX0_together 29 = .ok (.goto 4, 3) := by decide +kernel
theorem dX0_together_32 : decode cX0_together 32 = .ok (.iconst (-1), 1) := by decide +kernel
theorem dX0_together_33 : decode cX0_together 33 = .ok (.ireturn, 1) := by decide +kernel
theorem dX0_exists_0 : decode cX0_exists 0 = .ok (.iload_n 1, 1) := by decide +kernel
theorem dX0_exists_1 : decode cX0_exists 1 = .ok (.ifCond .lt 25, 3) := by decide +kernel
theorem dX0_exists_4 : decode cX0_exists 4 = .ok (.iload_n 1, 1) := by decide +kernel
theorem dX0_exists_5 : decode cX0_exists 5 = .ok (.aload_n 0, 1) := by decide +kernel
theorem dX0_exists_6 : decode cX0_exists 6 = .ok (.getfield 43, 3) := by decide +kernel
theorem dX0_exists_9 : decode cX0_exists 9 = .ok (.if_icmp .ge 17, 3) := by decide +kernel
theorem dX0_exists_12 : decode cX0_exists 12 = .ok (.aload_n 0, 1) := by decide +kernel
theorem dX0_exists_13 : decode cX0_exists 13 = .ok (.getfield 15, 3) := by decide +kernel
theorem dX0_exists_16 : decode cX0_exists 16 = .ok (.iload_n 1, 1) := by decide +kernel
theorem dX0_exists_17 : decode cX0_exists 17 = .ok (.iaload, 1) := by decide +kernel
theorem dX0_exists_18 : decode cX0_exists 18 = .ok (.iconst (-1), 1) := by decide +kernel
theorem dX0_exists_19 : decode cX0_exists 19 = .ok (.if_icmp .eq 7, 3) := by decide +kernel
theorem dX0_exists_22 : decode cX0_exists 22 = .ok (.iconst 1, 1) := by decide +kernel
theorem dX0_exists_23 : decode cX0_exists 23 = .ok (.goto 4, 3) := by decide +kernel
theorem dX0_exists_26 : decode cX0_exists 26 = .ok (.iconst 0, 1) := by decide +kernel
theorem dX0_exists_27 : decode cX0_exists 27 = .ok (.ireturn, 1) := by decide +kernel
theorem dX0_isOutIn_0 : decode cX0_isOutIn 0 = .ok (.aload_n 0, 1) := by decide +kernel
theorem dX0_isOutIn_1 : decode cX0_isOutIn 1 = .ok (.getfield 39, 3) := by decide +kernel
theorem dX0_isOutIn_4 : decode cX0_isOutIn 4 = .ok (.ifCond .le 21, 3) := by decide +kernel
theorem dX0_isOutIn_7 : decode cX0_isOutIn 7 = .ok (.iload_n 1, 1) := by decide +kernel
theorem dX0_isOutIn_8 : decode cX0_isOutIn 8 = .ok (.iconst 4, 1) := by decide +kernel
theorem dX0_isOutIn_9 : decode cX0_isOutIn 9 = .ok (.irem, 1) := by decide +kernel
theorem dX0_isOutIn_10 : decode cX0_isOutIn 10 = .ok (.aload_n 0, 1) := by decide +kernel
theorem dX0_isOutIn_11 : decode cX0_isOutIn 11 = .ok (.getfield 11, 3) := by decide +kernel
theorem dX0_isOutIn_14 : decode cX0_isOutIn 14 = .ok (.iconst 0, 1) := by decide +kernel
theorem dX0_isOutIn_15 : decode cX0_isOutIn 15 = .ok (.iaload, 1) := by decide +kernel
theorem dX0_isOutIn_16 : decode cX0_isOutIn 16 = .ok (.iadd, 1) := by decide +kernel
theorem dX0_isOutIn_17 : decode cX0_isOutIn 17 = .ok (.iconst 5, 1) := by decide +kernel
theorem dX0_isOutIn_18 : decode cX0_isOutIn 18 = .ok (.if_icmp .ne 7, 3) := by decide +kernel
theorem dX0_isOutIn_21 : decode cX0_isOutIn 21 = .ok (.iconst 1, 1) := by decide +kernel
theorem dX0_isOutIn_22 : decode cX0_isOutIn 22 = .ok (.goto 4, 3) := by decide +kernel
theorem dX0_isOutIn_25 : decode cX0_isOutIn 25 = .ok (.iconst 0, 1) := by decide +kernel
theorem dX0_isOutIn_26 : decode cX0_isOutIn 26 = .ok (.ireturn, 1) := by decide +kernel
theorem dX0_allArrangements_0 : decode cX0_allArrangements 0 = .ok (.iconst 0, 1) := by decide +kernel
theorem dX0_allArrangements_1 : decode cX0_allArrangements 1 = .ok (.istore_n 1, 1) := by decide +kernel
theorem dX0_allArrangements_2 : decode cX0_allArrangements 2 = .ok (.iconst 0, 1) := by decide +kernel
theorem dX0_allArrangements_3 : decode cX0_allArrangements 3 = .ok (.istore_n 2, 1) := by decide +kernel
theorem dX0_allArrangements_4 : decode cX0_allArrangements 4 = .ok (.iload_n 2, 1) := by decide +kernel
theorem dX0_allArrangements_5 : decode cX0_allArrangements 5 = .ok (.aload_n 0, 1) := by decide +kernel
theorem dX0_allArrangements_6 : decode cX0_allArrangements 6 = .ok (.getfield 43, 3) := by decide +kernel
theorem dX0_allArrangements_9 : decode cX0_allArrangements 9 = .ok (.if_icmp .ge 20, 3) := by decide +kernel
theorem dX0_allArrangements_12 : decode cX0_allArrangements 12 = .ok (.aload_n 0, 1) := by decide +kernel
theorem dX0_allArrangements_13 : decode cX0_allArrangements 13 = .ok (.iload_n 2, 1) := by decide +kernel
theorem dX0_allArrangements_14 : decode cX0_allArrangements 14 = .ok (.invokevirtual 69, 3) := by decide +kernel
theorem dX0_allArrangements_17 : decode cX0_allArrangements 17 = .ok (.ifCond .eq 6, 3) := by decide +kernel
theorem dX0_allArrangements_20 : decode cX0_allArrangements 20 = .ok (.iinc 1 1, 3) := by decide +kernel
theorem dX0_allArrangements_23 : decode cX0_allArrangements 23 = .ok (.iinc 2 1, 3) := by decide +kernel
theorem dX0_allArrangements_26 : decode cX0_allArrangements 26 = .ok (.goto (-22), 3) := by decide +kernel
theorem dX0_allArrangements_29 : decode cX0_allArrangements 29 = .ok (.iload_n 1, 1) := by decide +kernel
theorem dX0_allArrangements_30 : decode cX0_allArrangements 30 = .ok (.ireturn, 1) := by decide +kernel
theorem dX0_behindStep_0 : decode cX0_behindStep 0 = .ok (.iload_n 1, 1) := by decide +kernel
theorem dX0_behindStep_1 : decode cX0_behindStep 1 = .ok (.iconst 2, 1) := by decide +kernel
theorem dX0_behindStep_2 : decode cX0_behindStep 2 = .ok (.iload_n 2, 1) := by decide +kernel
theorem dX0_behindStep_3 : decode cX0_behindStep 3 = .ok (.imul, 1) := by decide +kernel
theorem dX0_behindStep_4 : decode cX0_behindStep 4 = .ok (.ishr, 1) := by decide +kernel
theorem dX0_behindStep_5 : decode cX0_behindStep 5 = .ok (.iconst 3, 1) := by decide +kernel
theorem dX0_behindStep_6 : decode cX0_behindStep 6 = .ok (.iand, 1) := by decide +kernel
theorem dX0_behindStep_7 : decode cX0_behindStep 7 = .ok (.iload_n 3, 1) := by decide +kernel
theorem dX0_behindStep_8 : decode cX0_behindStep 8 = .ok (.iadd, 1) := by decide +kernel
theorem dX0_behindStep_9 : decode cX0_behindStep 9 = .ok (.istore 4, 2) := by decide +kernel
theorem dX0_behindStep_11 : decode cX0_behindStep 11 = .ok (.iload_n 1, 1) := by decide +kernel
theorem dX0_behindStep_12 : decode cX0_behindStep 12 = .ok (.iload_n 3, 1) := by decide +kernel
theorem dX0_behindStep_13 : decode cX0_behindStep 13 = .ok (.iconst 1, 1) := by decide +kernel
theorem dX0_behindStep_14 : decode cX0_behindStep 14 = .ok (.iconst 2, 1) := by decide +kernel
theorem dX0_behindStep_15 : decode cX0_behindStep 15 = .ok (.iload_n 2, 1) := by decide +kernel
theorem dX0_behindStep_16 : decode cX0_behindStep 16 = .ok (.imul, 1) := by decide +kernel
theorem dX0_behindStep_17 : decode cX0_behindStep 17 = .ok (.ishl, 1) := by decide +kernel
theorem dX0_behindStep_18 : decode cX0_behindStep 18 = .ok (.imul, 1) := by decide +kernel
theorem dX0_behindStep_19 : decode cX0_behindStep 19 = .ok (.iadd, 1) := by decide +kernel
theorem dX0_behindStep_20 : decode cX0_behindStep 20 = .ok (.istore 5, 2) := by decide +kernel
theorem dX0_behindStep_22 : decode cX0_behindStep 22 = .ok (.iload 4, 2) := by decide +kernel
theorem dX0_behindStep_24 : decode cX0_behindStep 24 = .ok (.ifCond .lt 23, 3) := by decide +kernel
theorem dX0_behindStep_27 : decode cX0_behindStep 27 = .ok (.iload 4, 2) := by decide +kernel
theorem dX0_behindStep_29 : decode cX0_behindStep 29 = .ok (.iconst 4, 1) := by decide +kernel
theorem dX0_behindStep_30 : decode cX0_behindStep 30 = .ok (.if_icmp .ge 17, 3) := by decide +kernel
theorem dX0_behindStep_33 : decode cX0_behindStep 33 = .ok (.iload 5, 2) := by decide +kernel
theorem dX0_behindStep_35 : decode cX0_behindStep 35 = .ok (.ifCond .lt 12, 3) := by decide +kernel
theorem dX0_behindStep_38 : decode cX0_behindStep 38 = .ok (.iload 5, 2) := by decide +kernel
theorem dX0_behindStep_40 : decode cX0_behindStep 40 = .ok (.aload_n 0, 1) := by decide +kernel
theorem dX0_behindStep_41 : decode cX0_behindStep 41 = .ok (.getfield 43, 3) := by decide +kernel
theorem dX0_behindStep_44 : decode cX0_behindStep 44 = .ok (.if_icmp .lt 5, 3) := by decide +kernel
theorem dX0_behindStep_47 : decode cX0_behindStep 47 = .ok (.iconst (-1), 1) := by decide +kernel
theorem dX0_behindStep_48 : decode cX0_behindStep 48 = .ok (.ireturn, 1) := by decide +kernel
theorem dX0_behindStep_49 : decode cX0_behindStep 49 = .ok (.aload_n 0, 1) := by decide +kernel
theorem dX0_behindStep_50 : decode cX0_behindStep 50 = .ok (.getfield 15, 3) := by decide +kernel
theorem dX0_behindStep_53 : decode cX0_behindStep 53 = .ok (.iload 5, 2) := by decide +kernel
theorem dX0_behindStep_55 : decode cX0_behindStep 55 = .ok (.iaload, 1) := by decide +kernel
theorem dX0_behindStep_56 : decode cX0_behindStep 56 = .ok (.iconst (-1), 1) := by decide +kernel
theorem dX0_behindStep_57 : decode cX0_behindStep 57 = .ok (.if_icmp .ne 7, 3) := by decide +kernel
theorem dX0_behindStep_60 : decode cX0_behindStep 60 = .ok (.iconst (-1), 1) := by decide +kernel
theorem dX0_behindStep_61 : decode cX0_behindStep 61 = .ok (.goto 5, 3) := by decide +kernel
theorem dX0_behindStep_64 : decode cX0_behindStep 64 = .ok (.iload 5, 2) := by decide +kernel
theorem dX0_behindStep_66 : decode cX0_behindStep 66 = .ok (.ireturn, 1) := by decide +kernel
theorem dX0_behindSlide_0 : decode cX0_behindSlide 0 = .ok (.iload_n 3, 1) := by decide +kernel
theorem dX0_behindSlide_1 : decode cX0_behindSlide 1 = .ok (.ifCond .le 7, 3) := by decide +kernel
theorem dX0_behindSlide_4 : decode cX0_behindSlide 4 = .ok (.iconst 1, 1) := by decide +kernel
theorem dX0_behindSlide_5 : decode cX0_behindSlide 5 = .ok (.goto 4, 3) := by decide +kernel
theorem dX0_behindSlide_8 : decode cX0_behindSlide 8 = .ok (.iconst (-1), 1) := by decide +kernel
theorem dX0_behindSlide_9 : decode cX0_behindSlide 9 = .ok (.istore 4, 2) := by decide +kernel
theorem dX0_behindSlide_11 : decode cX0_behindSlide 11 = .ok (.iload_n 1, 1) := by decide +kernel
theorem dX0_behindSlide_12 : decode cX0_behindSlide 12 = .ok (.istore 5, 2) := by decide +kernel
theorem dX0_behindSlide_14 : decode cX0_behindSlide 14 = .ok (.iload_n 3, 1) := by decide +kernel
theorem dX0_behindSlide_15 : decode cX0_behindSlide 15 = .ok (.invokestatic 73, 3) := by decide +kernel
theorem dX0_behindSlide_18 : decode cX0_behindSlide 18 = .ok (.istore 6, 2) := by decide +kernel
theorem dX0_behindSlide_20 : decode cX0_behindSlide 20 = .ok (.iload 6, 2) := by decide +kernel
theorem dX0_behindSlide_22 : decode cX0_behindSlide 22 = .ok (.ifCond .le 26, 3) := by decide +kernel
theorem dX0_behindSlide_25 : decode cX0_behindSlide 25 = .ok (.iload 5, 2) := by decide +kernel
theorem dX0_behindSlide_27 : decode cX0_behindSlide 27 = .ok (.iconst (-1), 1) := by decide +kernel
theorem dX0_behindSlide_28 : decode cX0_behindSlide 28 = .ok (.if_icmp .eq 20, 3) := by decide +kernel
theorem dX0_behindSlide_31 : decode cX0_behindSlide 31 = .ok (.aload_n 0, 1) := by decide +kernel
theorem dX0_behindSlide_32 : decode cX0_behindSlide 32 = .ok (.iload 5, 2) := by decide +kernel
theorem dX0_behindSlide_34 : decode cX0_behindSlide 34 = .ok (.iload_n 2, 1) := by decide +kernel
theorem dX0_behindSlide_35 : decode cX0_behindSlide 35 = .ok (.iload 4, 2) := by decide +kernel
theorem dX0_behindSlide_37 : decode cX0_behindSlide 37 = .ok (.invokevirtual 77, 3) := by decide +kernel
theorem dX0_behindSlide_40 : decode cX0_behindSlide 40 = .ok (.istore 5, 2) := by decide +kernel
theorem dX0_behindSlide_42 : decode cX0_behindSlide 42 = .ok (.iinc 6 (-1), 3) := by decide +kernel
theorem dX0_behindSlide_45 : decode cX0_behindSlide 45 = .ok (.goto (-25), 3) := by decide +kernel
theorem dX0_behindSlide_48 : decode cX0_behindSlide 48 = .ok (.iload 5, 2) := by decide +kernel
theorem dX0_behindSlide_50 : decode cX0_behindSlide 50 = .ok (.ireturn, 1) := by decide +kernel
theorem dX0_costOf_0 : decode cX0_costOf 0 = .ok (.aload_n 0, 1) := by decide +kernel
theorem dX0_costOf_1 : decode cX0_costOf 1 = .ok (.iload_n 1, 1) := by decide +kernel
theorem dX0_costOf_2 : decode cX0_costOf 2 = .ok (.invokevirtual 69, 3) := by decide +kernel
theorem dX0_costOf_5 : decode cX0_costOf 5 = .ok (.ifCond .eq 12, 3) := by decide +kernel
theorem dX0_costOf_8 : decode cX0_costOf 8 = .ok (.aload_n 0, 1) := by decide +kernel
theorem dX0_costOf_9 : decode cX0_costOf 9 = .ok (.getfield 18, 3) := by decide +kernel
theorem dX0_costOf_12 : decode cX0_costOf 12 = .ok (.iload_n 1, 1) := by decide +kernel
theorem dX0_costOf_13 : decode cX0_costOf 13 = .ok (.iaload, 1) := by decide +kernel
theorem dX0_costOf_14 : decode cX0_costOf 14 = .ok (.goto 4, 3) := by decide +kernel
theorem dX0_costOf_17 : decode cX0_costOf 17 = .ok (.iconst (-1), 1) := by decide +kernel
theorem dX0_costOf_18 : decode cX0_costOf 18 = .ok (.ireturn, 1) := by decide +kernel
theorem dX0_forget_0 : decode cX0_forget 0 = .ok (.iconst 0, 1) := by decide +kernel
theorem dX0_forget_1 : decode cX0_forget 1 = .ok (.istore_n 1, 1) := by decide +kernel
theorem dX0_forget_2 : decode cX0_forget 2 = .ok (.iload_n 1, 1) := by decide +kernel
theorem dX0_forget_3 : decode cX0_forget 3 = .ok (.aload_n 0, 1) := by decide +kernel
theorem dX0_forget_4 : decode cX0_forget 4 = .ok (.getfield 43, 3) := by decide +kernel
theorem dX0_forget_7 : decode cX0_forget 7 = .ok (.if_icmp .ge 23, 3) := by decide +kernel
theorem dX0_forget_10 : decode cX0_forget 10 = .ok (.iload_n 1, 1) := by decide +kernel
theorem dX0_forget_11 : decode cX0_forget 11 = .ok (.sipush 4096, 3) := by decide +kernel
theorem dX0_forget_14 : decode cX0_forget 14 = .ok (.if_icmp .ge 16, 3) := by decide +kernel
theorem dX0_forget_17 : decode cX0_forget 17 = .ok (.aload_n 0, 1) := by decide +kernel
theorem dX0_forget_18 : decode cX0_forget 18 = .ok (.getfield 18, 3) := by decide +kernel
theorem dX0_forget_21 : decode cX0_forget 21 = .ok (.iload_n 1, 1) := by decide +kernel
theorem dX0_forget_22 : decode cX0_forget 22 = .ok (.iconst (-1), 1) := by decide +kernel
theorem dX0_forget_23 : decode cX0_forget 23 = .ok (.iastore, 1) := by decide +kernel
theorem dX0_forget_24 : decode cX0_forget 24 = .ok (.iinc 1 1, 3) := by decide +kernel
theorem dX0_forget_27 : decode cX0_forget 27 = .ok (.goto (-25), 3) := by decide +kernel
theorem dX0_forget_30 : decode cX0_forget 30 = .ok (.aload_n 0, 1) := by decide +kernel
theorem dX0_forget_31 : decode cX0_forget 31 = .ok (.iconst 0, 1) := by decide +kernel
theorem dX0_forget_32 : decode cX0_forget 32 = .ok (.putfield 80, 3) := by decide +kernel
theorem dX0_forget_35 : decode cX0_forget 35 = .ok (.return_, 1) := by decide +kernel
theorem dX0_find_0 : decode cX0_find 0 = .ok (.iload_n 1, 1) := by decide +kernel
theorem dX0_find_1 : decode cX0_find 1 = .ok (.ifCond .lt 21, 3) := by decide +kernel
theorem dX0_find_4 : decode cX0_find 4 = .ok (.iload_n 1, 1) := by decide +kernel
theorem dX0_find_5 : decode cX0_find 5 = .ok (.aload_n 0, 1) := by decide +kernel
theorem dX0_find_6 : decode cX0_find 6 = .ok (.getfield 43, 3) := by decide +kernel
theorem dX0_find_9 : decode cX0_find 9 = .ok (.if_icmp .ge 13, 3) := by decide +kernel
theorem dX0_find_12 : decode cX0_find 12 = .ok (.aload_n 0, 1) := by decide +kernel
theorem dX0_find_13 : decode cX0_find 13 = .ok (.getfield 15, 3) := by decide +kernel
theorem dX0_find_16 : decode cX0_find 16 = .ok (.iload_n 1, 1) := by decide +kernel
theorem dX0_find_17 : decode cX0_find 17 = .ok (.iaload, 1) := by decide +kernel
theorem dX0_find_18 : decode cX0_find 18 = .ok (.iconst (-1), 1) := by decide +kernel
theorem dX0_find_19 : decode cX0_find 19 = .ok (.if_icmp .ne 4, 3) := by decide +kernel
theorem dX0_find_22 : decode cX0_find 22 = .ok (.return_, 1) := by decide +kernel
theorem dX0_find_23 : decode cX0_find 23 = .ok (.aload_n 0, 1) := by decide +kernel
theorem dX0_find_24 : decode cX0_find 24 = .ok (.getfield 18, 3) := by decide +kernel
theorem dX0_find_27 : decode cX0_find 27 = .ok (.iload_n 1, 1) := by decide +kernel
theorem dX0_find_28 : decode cX0_find 28 = .ok (.iaload, 1) := by decide +kernel
theorem dX0_find_29 : decode cX0_find 29 = .ok (.iconst (-1), 1) := by decide +kernel
theorem dX0_find_30 : decode cX0_find 30 = .ok (.if_icmp .ne 47, 3) := by decide +kernel
theorem dX0_find_33 : decode cX0_find 33 = .ok (.aload_n 0, 1) := by decide +kernel
theorem dX0_find_34 : decode cX0_find 34 = .ok (.getfield 80, 3) := by decide +kernel
theorem dX0_find_37 : decode cX0_find 37 = .ok (.ifCond .lt 40, 3) := by decide +kernel
theorem dX0_find_40 : decode cX0_find 40 = .ok (.aload_n 0, 1) := by decide +kernel
theorem dX0_find_41 : decode cX0_find 41 = .ok (.getfield 80, 3) := by decide +kernel
theorem dX0_find_44 : decode cX0_find 44 = .ok (.sipush 4096, 3) := by decide +kernel
theorem dX0_find_47 : decode cX0_find 47 = .ok (.if_icmp .ge 30, 3) := by decide +kernel
theorem dX0_find_50 : decode cX0_find 50 = .ok (.aload_n 0, 1) := by decide +kernel
theorem dX0_find_51 : decode cX0_find 51 = .ok (.getfield 18, 3) := by decide +kernel
theorem dX0_find_54 : decode cX0_find 54 = .ok (.iload_n 1, 1) := by decide +kernel
theorem dX0_find_55 : decode cX0_find 55 = .ok (.iload_n 2, 1) := by decide +kernel
theorem dX0_find_56 : decode cX0_find 56 = .ok (.iastore, 1) := by decide +kernel
theorem dX0_find_57 : decode cX0_find 57 = .ok (.aload_n 0, 1) := by decide +kernel
theorem dX0_find_58 : decode cX0_find 58 = .ok (.getfield 21, 3) := by decide +kernel
theorem dX0_find_61 : decode cX0_find 61 = .ok (.aload_n 0, 1) := by decide +kernel
theorem dX0_find_62 : decode cX0_find 62 = .ok (.getfield 80, 3) := by decide +kernel
theorem dX0_find_65 : decode cX0_find 65 = .ok (.iload_n 1, 1) := by decide +kernel
theorem dX0_find_66 : decode cX0_find 66 = .ok (.iastore, 1) := by decide +kernel
theorem dX0_find_67 : decode cX0_find 67 = .ok (.aload_n 0, 1) := by decide +kernel
theorem dX0_find_68 : decode cX0_find 68 = .ok (.dup, 1) := by decide +kernel
theorem dX0_find_69 : decode cX0_find 69 = .ok (.getfield 80, 3) := by decide +kernel
theorem dX0_find_72 : decode cX0_find 72 = .ok (.iconst 1, 1) := by decide +kernel
theorem dX0_find_73 : decode cX0_find 73 = .ok (.iadd, 1) := by decide +kernel
theorem dX0_find_74 : decode cX0_find 74 = .ok (.putfield 80, 3) := by decide +kernel
theorem dX0_find_77 : decode cX0_find 77 = .ok (.return_, 1) := by decide +kernel
theorem dX0_spread_0 : decode cX0_spread 0 = .ok (.iconst 0, 1) := by decide +kernel
theorem dX0_spread_1 : decode cX0_spread 1 = .ok (.istore_n 2, 1) := by decide +kernel
theorem dX0_spread_2 : decode cX0_spread 2 = .ok (.iload_n 2, 1) := by decide +kernel
theorem dX0_spread_3 : decode cX0_spread 3 = .ok (.aload_n 0, 1) := by decide +kernel
theorem dX0_spread_4 : decode cX0_spread 4 = .ok (.getfield 80, 3) := by decide +kernel
theorem dX0_spread_7 : decode cX0_spread 7 = .ok (.if_icmp .ge 77, 3) := by decide +kernel
theorem dX0_spread_10 : decode cX0_spread 10 = .ok (.iload_n 2, 1) := by decide +kernel
theorem dX0_spread_11 : decode cX0_spread 11 = .ok (.sipush 4096, 3) := by decide +kernel
theorem dX0_spread_14 : decode cX0_spread 14 = .ok (.if_icmp .ge 70, 3) := by decide +kernel
theorem dX0_spread_17 : decode cX0_spread 17 = .ok (.aload_n 0, 1) := by decide +kernel
theorem dX0_spread_18 : decode cX0_spread 18 = .ok (.aload_n 0, 1) := by decide +kernel
theorem dX0_spread_19 : decode cX0_spread 19 = .ok (.getfield 21, 3) := by decide +kernel
theorem dX0_spread_22 : decode cX0_spread 22 = .ok (.iload_n 2, 1) := by decide +kernel
theorem dX0_spread_23 : decode cX0_spread 23 = .ok (.iaload, 1) := by decide +kernel
theorem dX0_spread_24 : decode cX0_spread 24 = .ok (.invokevirtual 83, 3) := by decide +kernel
theorem dX0_spread_27 : decode cX0_spread 27 = .ok (.iconst 1, 1) := by decide +kernel
theorem dX0_spread_28 : decode cX0_spread 28 = .ok (.iadd, 1) := by decide +kernel
theorem dX0_spread_29 : decode cX0_spread 29 = .ok (.istore_n 3, 1) := by decide +kernel
theorem dX0_spread_30 : decode cX0_spread 30 = .ok (.iconst 0, 1) := by decide +kernel
theorem dX0_spread_31 : decode cX0_spread 31 = .ok (.istore 4, 2) := by decide +kernel
theorem dX0_spread_33 : decode cX0_spread 33 = .ok (.iload 4, 2) := by decide +kernel
theorem dX0_spread_35 : decode cX0_spread 35 = .ok (.aload_n 0, 1) := by decide +kernel
theorem dX0_spread_36 : decode cX0_spread 36 = .ok (.getfield 39, 3) := by decide +kernel
theorem dX0_spread_39 : decode cX0_spread 39 = .ok (.if_icmp .ge 39, 3) := by decide +kernel
theorem dX0_spread_42 : decode cX0_spread 42 = .ok (.aload_n 0, 1) := by decide +kernel
theorem dX0_spread_43 : decode cX0_spread 43 = .ok (.aload_n 0, 1) := by decide +kernel
theorem dX0_spread_44 : decode cX0_spread 44 = .ok (.getfield 21, 3) := by decide +kernel
theorem dX0_spread_47 : decode cX0_spread 47 = .ok (.iload_n 2, 1) := by decide +kernel
theorem dX0_spread_48 : decode cX0_spread 48 = .ok (.iaload, 1) := by decide +kernel
theorem dX0_spread_49 : decode cX0_spread 49 = .ok (.iload 4, 2) := by decide +kernel
theorem dX0_spread_51 : decode cX0_spread 51 = .ok (.iconst 1, 1) := by decide +kernel
theorem dX0_spread_52 : decode cX0_spread 52 = .ok (.iload_n 1, 1) := by decide +kernel
theorem dX0_spread_53 : decode cX0_spread 53 = .ok (.iload_n 3, 1) := by decide +kernel
theorem dX0_spread_54 : decode cX0_spread 54 = .ok (.invokevirtual 86, 3) := by decide +kernel
theorem dX0_spread_57 : decode cX0_spread 57 = .ok (.aload_n 0, 1) := by decide +kernel
theorem dX0_spread_58 : decode cX0_spread 58 = .ok (.aload_n 0, 1) := by decide +kernel
theorem dX0_spread_59 : decode cX0_spread 59 = .ok (.getfield 21, 3) := by decide +kernel
theorem dX0_spread_62 : decode cX0_spread 62 = .ok (.iload_n 2, 1) := by decide +kernel
theorem dX0_spread_63 : decode cX0_spread 63 = .ok (.iaload, 1) := by decide +kernel
theorem dX0_spread_64 : decode cX0_spread 64 = .ok (.iload 4, 2) := by decide +kernel
theorem dX0_spread_66 : decode cX0_spread 66 = .ok (.iconst (-1), 1) := by decide +kernel
theorem dX0_spread_67 : decode cX0_spread 67 = .ok (.iload_n 1, 1) := by decide +kernel
theorem dX0_spread_68 : decode cX0_spread 68 = .ok (.iload_n 3, 1) := by decide +kernel
theorem dX0_spread_69 : decode cX0_spread 69 = .ok (.invokevirtual 86, 3) := by decide +kernel
theorem dX0_spread_72 : decode cX0_spread 72 = .ok (.iinc 4 1, 3) := by decide +kernel
theorem dX0_spread_75 : decode cX0_spread 75 = .ok (.goto (-42), 3) := by decide +kernel
theorem dX0_spread_78 : decode cX0_spread 78 = .ok (.iinc 2 1, 3) := by decide +kernel
theorem dX0_spread_81 : decode cX0_spread 81 = .ok (.goto (-79), 3) := by decide +kernel
theorem dX0_spread_84 : decode cX0_spread 84 = .ok (.return_, 1) := by decide +kernel
theorem dX0_spreadAlong_0 : decode cX0_spreadAlong 0 = .ok (.aload_n 0, 1) := by decide +kernel
theorem dX0_spreadAlong_1 : decode cX0_spreadAlong 1 = .ok (.iload_n 1, 1) := by decide +kernel
theorem dX0_spreadAlong_2 : decode cX0_spreadAlong 2 = .ok (.iload_n 2, 1) := by decide +kernel
theorem dX0_spreadAlong_3 : decode cX0_spreadAlong 3 = .ok (.iload_n 3, 1) := by decide +kernel
theorem dX0_spreadAlong_4 : decode cX0_spreadAlong 4 = .ok (.invokevirtual 77, 3) := by decide +kernel
theorem dX0_spreadAlong_7 : decode cX0_spreadAlong 7 = .ok (.istore 6, 2) := by decide +kernel
theorem dX0_spreadAlong_9 : decode cX0_spreadAlong 9 = .ok (.iconst 1, 1) := by decide +kernel
theorem dX0_spreadAlong_10 : decode cX0_spreadAlong 10 = .ok (.istore 7, 2) := by decide +kernel
theorem dX0_spreadAlong_12 : decode cX0_spreadAlong 12 = .ok (.iload 7, 2) := by decide +kernel
theorem dX0_spreadAlong_14 : decode cX0_spreadAlong 14 = .ok (.iload 4, 2) := by decide +kernel
theorem dX0_spreadAlong_16 : decode cX0_spreadAlong 16 = .ok (.if_icmp .gt 33, 3) := by decide +kernel
theorem dX0_spreadAlong_19 : decode cX0_spreadAlong 19 = .ok (.iload 6, 2) := by decide +kernel
theorem dX0_spreadAlong_21 : decode cX0_spreadAlong 21 = .ok (.iconst (-1), 1) := by decide +kernel
theorem dX0_spreadAlong_22 : decode cX0_spreadAlong 22 = .ok (.if_icmp .eq 27, 3) := by decide +kernel
theorem dX0_spreadAlong_25 : decode cX0_spreadAlong 25 = .ok (.aload_n 0, 1) := by decide +kernel
theorem dX0_spreadAlong_26 : decode cX0_spreadAlong 26 = .ok (.iload 6, 2) := by decide +kernel
theorem dX0_spreadAlong_28 : decode cX0_spreadAlong 28 = .ok (.iload 5, 2) := by decide +kernel
theorem dX0_spreadAlong_30 : decode cX0_spreadAlong 30 = .ok (.invokevirtual 90, 3) := by decide +kernel
theorem dX0_spreadAlong_33 : decode cX0_spreadAlong 33 = .ok (.aload_n 0, 1) := by decide +kernel
theorem dX0_spreadAlong_34 : decode cX0_spreadAlong 34 = .ok (.iload 6, 2) := by decide +kernel
theorem dX0_spreadAlong_36 : decode cX0_spreadAlong 36 = .ok (.iload_n 2, 1) := by decide +kernel
theorem dX0_spreadAlong_37 : decode cX0_spreadAlong 37 = .ok (.iload_n 3, 1) := by decide +kernel
theorem dX0_spreadAlong_38 : decode cX0_spreadAlong 38 = .ok (.invokevirtual 77, 3) := by decide +kernel
theorem dX0_spreadAlong_41 : decode cX0_spreadAlong 41 = .ok (.istore 6, 2) := by decide +kernel
theorem dX0_spreadAlong_43 : decode cX0_spreadAlong 43 = .ok (.iinc 7 1, 3) := by decide +kernel
theorem dX0_spreadAlong_46 : decode cX0_spreadAlong 46 = .ok (.goto (-34), 3) := by decide +kernel
theorem dX0_spreadAlong_49 : decode cX0_spreadAlong 49 = .ok (.return_, 1) := by decide +kernel
theorem dX0_spreadFromStart_0 : decode cX0_spreadFromStart 0 = .ok (.aload_n 0, 1) := by decide +kernel
theorem dX0_spreadFromStart_1 : decode cX0_spreadFromStart 1 = .ok (.invokevirtual 93, 3) := by decide +kernel
theorem dX0_spreadFromStart_4 : decode cX0_spreadFromStart 4 = .ok (.aload_n 0, 1) := by decide +kernel
theorem dX0_spreadFromStart_5 : decode cX0_spreadFromStart 5 = .ok (.aload_n 0, 1) := by decide +kernel
theorem dX0_spreadFromStart_6 : decode cX0_spreadFromStart 6 = .ok (.getfield 46, 3) := by decide +kernel
theorem dX0_spreadFromStart_9 : decode cX0_spreadFromStart 9 = .ok (.iconst 0, 1) := by decide +kernel
theorem dX0_spreadFromStart_10 : decode cX0_spreadFromStart 10 = .ok (.invokevirtual 90, 3) := by decide +kernel
theorem dX0_spreadFromStart_13 : decode cX0_spreadFromStart 13 = .ok (.aload_n 0, 1) := by decide +kernel
theorem dX0_spreadFromStart_14 : decode cX0_spreadFromStart 14 = .ok (.iload_n 1, 1) := by decide +kernel
theorem dX0_spreadFromStart_15 : decode cX0_spreadFromStart 15 = .ok (.invokevirtual 96, 3) := by decide +kernel
theorem dX0_spreadFromStart_18 : decode cX0_spreadFromStart 18 = .ok (.return_, 1) := by decide +kernel
theorem dX0_slidesFromStart_0 : decode cX0_slidesFromStart 0 = .ok (.aload_n 0, 1) := by decide +kernel
theorem dX0_slidesFromStart_1 : decode cX0_slidesFromStart 1 = .ok (.iconst 3, 1) := by decide +kernel
theorem dX0_slidesFromStart_2 : decode cX0_slidesFromStart 2 = .ok (.invokevirtual 100, 3) := by decide +kernel
theorem dX0_slidesFromStart_5 : decode cX0_slidesFromStart 5 = .ok (.aload_n 0, 1) := by decide +kernel
theorem dX0_slidesFromStart_6 : decode cX0_slidesFromStart 6 = .ok (.invokevirtual 103, 3) := by decide +kernel
theorem dX0_slidesFromStart_9 : decode cX0_slidesFromStart 9 = .ok (.ireturn, 1) := by decide +kernel
theorem dX0_stepsFromStart_0 : decode cX0_stepsFromStart 0 = .ok (.aload_n 0, 1) := by decide +kernel
theorem dX0_stepsFromStart_1 : decode cX0_stepsFromStart 1 = .ok (.iconst 1, 1) := by decide +kernel
theorem dX0_stepsFromStart_2 : decode cX0_stepsFromStart 2 = .ok (.invokevirtual 100, 3) := by decide +kernel
theorem dX0_stepsFromStart_5 : decode cX0_stepsFromStart 5 = .ok (.aload_n 0, 1) := by decide +kernel
theorem dX0_stepsFromStart_6 : decode cX0_stepsFromStart 6 = .ok (.invokevirtual 103, 3) := by decide +kernel
theorem dX0_stepsFromStart_9 : decode cX0_stepsFromStart 9 = .ok (.ireturn, 1) := by decide +kernel
theorem dX0_slidesFromEnds_0 : decode cX0_slidesFromEnds 0 = .ok (.aload_n 0, 1) := by decide +kernel
theorem dX0_slidesFromEnds_1 : decode cX0_slidesFromEnds 1 = .ok (.invokevirtual 93, 3) := by decide +kernel
theorem dX0_slidesFromEnds_4 : decode cX0_slidesFromEnds 4 = .ok (.iconst 0, 1) := by decide +kernel
theorem dX0_slidesFromEnds_5 : decode cX0_slidesFromEnds 5 = .ok (.istore_n 1, 1) := by decide +kernel
theorem dX0_slidesFromEnds_6 : decode cX0_slidesFromEnds 6 = .ok (.iload_n 1, 1) := by decide +kernel
theorem dX0_slidesFromEnds_7 : decode cX0_slidesFromEnds 7 = .ok (.aload_n 0, 1) := by decide +kernel
theorem dX0_slidesFromEnds_8 : decode cX0_slidesFromEnds 8 = .ok (.getfield 43, 3) := by decide +kernel
theorem dX0_slidesFromEnds_11 : decode cX0_slidesFromEnds 11 = .ok (.if_icmp .ge 23, 3) := by decide +kernel
theorem dX0_slidesFromEnds_14 : decode cX0_slidesFromEnds 14 = .ok (.aload_n 0, 1) := by decide +kernel
theorem dX0_slidesFromEnds_15 : decode cX0_slidesFromEnds 15 = .ok (.iload_n 1, 1) := by decide +kernel
theorem dX0_slidesFromEnds_16 : decode cX0_slidesFromEnds 16 = .ok (.invokevirtual 107, 3) := by decide +kernel
theorem dX0_slidesFromEnds_19 : decode cX0_slidesFromEnds 19 = .ok (.ifCond .eq 9, 3) := by decide +kernel
theorem dX0_slidesFromEnds_22 : decode cX0_slidesFromEnds 22 = .ok (.aload_n 0, 1) := by decide +kernel
theorem dX0_slidesFromEnds_23 : decode cX0_slidesFromEnds 23 = .ok (.iload_n 1, 1) := by decide +kernel
theorem dX0_slidesFromEnds_24 : decode cX0_slidesFromEnds 24 = .ok (.iconst 0, 1) := by decide +kernel
theorem dX0_slidesFromEnds_25 : decode cX0_slidesFromEnds 25 = .ok (.invokevirtual 90, 3) := by decide +kernel
theorem dX0_slidesFromEnds_28 : decode cX0_slidesFromEnds 28 = .ok (.iinc 1 1, 3) := by decide +kernel
theorem dX0_slidesFromEnds_31 : decode cX0_slidesFromEnds 31 = .ok (.goto (-25), 3) := by decide +kernel
theorem dX0_slidesFromEnds_34 : decode cX0_slidesFromEnds 34 = .ok (.aload_n 0, 1) := by decide +kernel
theorem dX0_slidesFromEnds_35 : decode cX0_slidesFromEnds 35 = .ok (.iconst 3, 1) := by decide +kernel
theorem dX0_slidesFromEnds_36 : decode cX0_slidesFromEnds 36 = .ok (.invokevirtual 96, 3) := by decide +kernel
theorem dX0_slidesFromEnds_39 : decode cX0_slidesFromEnds 39 = .ok (.aload_n 0, 1) := by decide +kernel
theorem dX0_slidesFromEnds_40 : decode cX0_slidesFromEnds 40 = .ok (.aload_n 0, 1) := by decide +kernel
theorem dX0_slidesFromEnds_41 : decode cX0_slidesFromEnds 41 = .ok (.getfield 46, 3) := by decide +kernel
theorem dX0_slidesFromEnds_44 : decode cX0_slidesFromEnds 44 = .ok (.invokevirtual 83, 3) := by decide +kernel
theorem dX0_slidesFromEnds_47 : decode cX0_slidesFromEnds 47 = .ok (.ireturn, 1) := by decide +kernel
theorem dX0_leastCostOut_0 : decode cX0_leastCostOut 0 = .ok (.iconst (-1), 1) := by decide +kernel
theorem dX0_leastCostOut_1 : decode cX0_leastCostOut 1 = .ok (.istore_n 1, 1) := by decide +kernel
theorem dX0_leastCostOut_2 : decode cX0_leastCostOut 2 = .ok (.iconst 0, 1) := by decide +kernel
theorem dX0_leastCostOut_3 : decode cX0_leastCostOut 3 = .ok (.istore_n 2, 1) := by decide +kernel
theorem dX0_leastCostOut_4 : decode cX0_leastCostOut 4 = .ok (.iload_n 2, 1) := by decide +kernel
theorem dX0_leastCostOut_5 : decode cX0_leastCostOut 5 = .ok (.aload_n 0, 1) := by decide +kernel
theorem dX0_leastCostOut_6 : decode cX0_leastCostOut 6 = .ok (.getfield 43, 3) := by decide +kernel
theorem dX0_leastCostOut_9 : decode cX0_leastCostOut 9 = .ok (.if_icmp .ge 44, 3) := by decide +kernel
theorem dX0_leastCostOut_12 : decode cX0_leastCostOut 12 = .ok (.aload_n 0, 1) := by decide +kernel
theorem dX0_leastCostOut_13 : decode cX0_leastCostOut 13 = .ok (.iload_n 2, 1) := by decide +kernel
theorem dX0_leastCostOut_14 : decode cX0_leastCostOut 14 = .ok (.invokevirtual 107, 3) := by decide +kernel
theorem dX0_leastCostOut_17 : decode cX0_leastCostOut 17 = .ok (.ifCond .eq 11, 3) := by decide +kernel
theorem dX0_leastCostOut_20 : decode cX0_leastCostOut 20 = .ok (.aload_n 0, 1) := by decide +kernel
theorem dX0_leastCostOut_21 : decode cX0_leastCostOut 21 = .ok (.iload_n 2, 1) := by decide +kernel
theorem dX0_leastCostOut_22 : decode cX0_leastCostOut 22 = .ok (.invokevirtual 83, 3) := by decide +kernel
theorem dX0_leastCostOut_25 : decode cX0_leastCostOut 25 = .ok (.goto 4, 3) := by decide +kernel
theorem dX0_leastCostOut_28 : decode cX0_leastCostOut 28 = .ok (.iconst (-1), 1) := by decide +kernel
theorem dX0_leastCostOut_29 : decode cX0_leastCostOut 29 = .ok (.istore_n 3, 1) := by decide +kernel
theorem dX0_leastCostOut_30 : decode cX0_leastCostOut 30 = .ok (.iload_n 3, 1) := by decide +kernel
theorem dX0_leastCostOut_31 : decode cX0_leastCostOut 31 = .ok (.iconst (-1), 1) := by decide +kernel
theorem dX0_leastCostOut_32 : decode cX0_leastCostOut 32 = .ok (.if_icmp .eq 15, 3) := by decide +kernel
theorem dX0_leastCostOut_35 : decode cX0_leastCostOut 35 = .ok (.iload_n 1, 1) := by decide +kernel
theorem dX0_leastCostOut_36 : decode cX0_leastCostOut 36 = .ok (.iconst (-1), 1) := by decide +kernel
theorem dX0_leastCostOut_37 : decode cX0_leastCostOut 37 = .ok (.if_icmp .eq 8, 3) := by decide +kernel
theorem dX0_leastCostOut_40 : decode cX0_leastCostOut 40 = .ok (.iload_n 3, 1) := by decide +kernel
theorem dX0_leastCostOut_41 : decode cX0_leastCostOut 41 = .ok (.iload_n 1, 1) := by decide +kernel
theorem dX0_leastCostOut_42 : decode cX0_leastCostOut 42 = .ok (.if_icmp .ge 5, 3) := by decide +kernel
theorem dX0_leastCostOut_45 : decode cX0_leastCostOut 45 = .ok (.iload_n 3, 1) := by decide +kernel
theorem dX0_leastCostOut_46 : decode cX0_leastCostOut 46 = .ok (.istore_n 1, 1) := by decide +kernel
theorem dX0_leastCostOut_47 : decode cX0_leastCostOut 47 = .ok (.iinc 2 1, 3) := by decide +kernel
theorem dX0_leastCostOut_50 : decode cX0_leastCostOut 50 = .ok (.goto (-46), 3) := by decide +kernel
theorem dX0_leastCostOut_53 : decode cX0_leastCostOut 53 = .ok (.iload_n 1, 1) := by decide +kernel
theorem dX0_leastCostOut_54 : decode cX0_leastCostOut 54 = .ok (.ireturn, 1) := by decide +kernel
theorem dX0_foundOut_0 : decode cX0_foundOut 0 = .ok (.iconst 0, 1) := by decide +kernel
theorem dX0_foundOut_1 : decode cX0_foundOut 1 = .ok (.istore_n 1, 1) := by decide +kernel
theorem dX0_foundOut_2 : decode cX0_foundOut 2 = .ok (.iconst 0, 1) := by decide +kernel
theorem dX0_foundOut_3 : decode cX0_foundOut 3 = .ok (.istore_n 2, 1) := by decide +kernel
theorem dX0_foundOut_4 : decode cX0_foundOut 4 = .ok (.iload_n 2, 1) := by decide +kernel
theorem dX0_foundOut_5 : decode cX0_foundOut 5 = .ok (.aload_n 0, 1) := by decide +kernel
theorem dX0_foundOut_6 : decode cX0_foundOut 6 = .ok (.getfield 80, 3) := by decide +kernel
theorem dX0_foundOut_9 : decode cX0_foundOut 9 = .ok (.if_icmp .ge 32, 3) := by decide +kernel
theorem dX0_foundOut_12 : decode cX0_foundOut 12 = .ok (.iload_n 2, 1) := by decide +kernel
theorem dX0_foundOut_13 : decode cX0_foundOut 13 = .ok (.sipush 4096, 3) := by decide +kernel
theorem dX0_foundOut_16 : decode cX0_foundOut 16 = .ok (.if_icmp .ge 25, 3) := by decide +kernel
theorem dX0_foundOut_19 : decode cX0_foundOut 19 = .ok (.aload_n 0, 1) := by decide +kernel
theorem dX0_foundOut_20 : decode cX0_foundOut 20 = .ok (.aload_n 0, 1) := by decide +kernel
theorem dX0_foundOut_21 : decode cX0_foundOut 21 = .ok (.getfield 21, 3) := by decide +kernel
theorem dX0_foundOut_24 : decode cX0_foundOut 24 = .ok (.iload_n 2, 1) := by decide +kernel
theorem dX0_foundOut_25 : decode cX0_foundOut 25 = .ok (.iaload, 1) := by decide +kernel
theorem dX0_foundOut_26 : decode cX0_foundOut 26 = .ok (.invokevirtual 107, 3) := by decide +kernel
theorem dX0_foundOut_29 : decode cX0_foundOut 29 = .ok (.ifCond .eq 6, 3) := by decide +kernel
theorem dX0_foundOut_32 : decode cX0_foundOut 32 = .ok (.iinc 1 1, 3) := by decide +kernel
theorem dX0_foundOut_35 : decode cX0_foundOut 35 = .ok (.iinc 2 1, 3) := by decide +kernel
theorem dX0_foundOut_38 : decode cX0_foundOut 38 = .ok (.goto (-34), 3) := by decide +kernel
theorem dX0_foundOut_41 : decode cX0_foundOut 41 = .ok (.iload_n 1, 1) := by decide +kernel
theorem dX0_foundOut_42 : decode cX0_foundOut 42 = .ok (.ireturn, 1) := by decide +kernel
theorem dX0_farthestFound_0 : decode cX0_farthestFound 0 = .ok (.aload_n 0, 1) := by decide +kernel
theorem dX0_farthestFound_1 : decode cX0_farthestFound 1 = .ok (.getfield 80, 3) := by decide +kernel
theorem dX0_farthestFound_4 : decode cX0_farthestFound 4 = .ok (.iconst 1, 1) := by decide +kernel
theorem dX0_farthestFound_5 : decode cX0_farthestFound 5 = .ok (.isub, 1) := by decide +kernel
theorem dX0_farthestFound_6 : decode cX0_farthestFound 6 = .ok (.istore_n 1, 1) := by decide +kernel
theorem dX0_farthestFound_7 : decode cX0_farthestFound 7 = .ok (.iload_n 1, 1) := by decide +kernel
theorem dX0_farthestFound_8 : decode cX0_farthestFound 8 = .ok (.ifCond .lt 23, 3) := by decide +kernel
theorem dX0_farthestFound_11 : decode cX0_farthestFound 11 = .ok (.iload_n 1, 1) := by decide +kernel
theorem dX0_farthestFound_12 : decode cX0_farthestFound 12 = .ok (.sipush 4096, 3) := by decide +kernel
theorem dX0_farthestFound_15 : decode cX0_farthestFound 15 = .ok (.if_icmp .ge 16, 3) := by decide +kernel
theorem dX0_farthestFound_18 : decode cX0_farthestFound 18 = .ok (.aload_n 0, 1) := by decide +kernel
theorem dX0_farthestFound_19 : decode cX0_farthestFound 19 = .ok (.aload_n 0, 1) := by decide +kernel
theorem dX0_farthestFound_20 : decode cX0_farthestFound 20 = .ok (.getfield 21, 3) := by decide +kernel
theorem dX0_farthestFound_23 : decode cX0_farthestFound 23 = .ok (.iload_n 1, 1) := by decide +kernel
theorem dX0_farthestFound_24 : decode cX0_farthestFound 24 = .ok (.iaload, 1) := by decide +kernel
theorem dX0_farthestFound_25 : decode cX0_farthestFound 25 = .ok (.invokevirtual 83, 3) := by decide +kernel
theorem dX0_farthestFound_28 : decode cX0_farthestFound 28 = .ok (.goto 4, 3) := by decide +kernel
theorem dX0_farthestFound_31 : decode cX0_farthestFound 31 = .ok (.iconst 0, 1) := by decide +kernel
theorem dX0_farthestFound_32 : decode cX0_farthestFound 32 = .ok (.ireturn, 1) := by decide +kernel
theorem dX0_findNextSlide_0 : decode cX0_findNextSlide 0 = .ok (.aload_n 0, 1) := by decide +kernel
theorem dX0_findNextSlide_1 : decode cX0_findNextSlide 1 = .ok (.iload_n 1, 1) := by decide +kernel
theorem dX0_findNextSlide_2 : decode cX0_findNextSlide 2 = .ok (.invokevirtual 83, 3) := by decide +kernel
theorem dX0_findNextSlide_5 : decode cX0_findNextSlide 5 = .ok (.istore_n 2, 1) := by decide +kernel
theorem dX0_findNextSlide_6 : decode cX0_findNextSlide 6 = .ok (.iconst 0, 1) := by decide +kernel
theorem dX0_findNextSlide_7 : decode cX0_findNextSlide 7 = .ok (.istore_n 3, 1) := by decide +kernel
theorem dX0_findNextSlide_8 : decode cX0_findNextSlide 8 = .ok (.iload_n 3, 1) := by decide +kernel
theorem dX0_findNextSlide_9 : decode cX0_findNextSlide 9 = .ok (.aload_n 0, 1) := by decide +kernel
theorem dX0_findNextSlide_10 : decode cX0_findNextSlide 10 = .ok (.getfield 39, 3) := by decide +kernel
theorem dX0_findNextSlide_13 : decode cX0_findNextSlide 13 = .ok (.if_icmp .ge 65, 3) := by decide +kernel
theorem dX0_findNextSlide_16 : decode cX0_findNextSlide 16 = .ok (.iload_n 2, 1) := by decide +kernel
theorem dX0_findNextSlide_17 : decode cX0_findNextSlide 17 = .ok (.ifCond .le 61, 3) := by decide +kernel
theorem dX0_findNextSlide_20 : decode cX0_findNextSlide 20 = .ok (.bipush (-3), 2) := by decide +kernel
theorem dX0_findNextSlide_22 : decode cX0_findNextSlide 22 = .ok (.istore 4, 2) := by decide +kernel
theorem dX0_findNextSlide_24 : decode cX0_findNextSlide 24 = .ok (.iload 4, 2) := by decide +kernel
theorem dX0_findNextSlide_26 : decode cX0_findNextSlide 26 = .ok (.iconst 3, 1) := by decide +kernel
theorem dX0_findNextSlide_27 : decode cX0_findNextSlide 27 = .ok (.if_icmp .gt 45, 3) := by decide +kernel
theorem dX0_findNextSlide_30 : decode cX0_findNextSlide 30 = .ok (.iload 4, 2) := by decide +kernel
theorem dX0_findNextSlide_32 : decode cX0_findNextSlide 32 = .ok (.ifCond .eq 34, 3) := by decide +kernel
theorem dX0_findNextSlide_35 : decode cX0_findNextSlide 35 = .ok (.aload_n 0, 1) := by decide +kernel
theorem dX0_findNextSlide_36 : decode cX0_findNextSlide 36 = .ok (.aload_n 0, 1) := by decide +kernel
theorem dX0_findNextSlide_37 : decode cX0_findNextSlide 37 = .ok (.iload_n 1, 1) := by decide +kernel
theorem dX0_findNextSlide_38 : decode cX0_findNextSlide 38 = .ok (.iload_n 3, 1) := by decide +kernel
theorem dX0_findNextSlide_39 : decode cX0_findNextSlide 39 = .ok (.iload 4, 2) := by decide +kernel
theorem dX0_findNextSlide_41 : decode cX0_findNextSlide 41 = .ok (.invokevirtual 110, 3) := by decide +kernel
theorem dX0_findNextSlide_44 : decode cX0_findNextSlide 44 = .ok (.invokevirtual 83, 3) := by decide +kernel
theorem dX0_findNextSlide_47 : decode cX0_findNextSlide 47 = .ok (.iload_n 2, 1) := by decide +kernel
theorem dX0_findNextSlide_48 : decode cX0_findNextSlide 48 = .ok (.iconst 1, 1) := by decide +kernel
theorem dX0_findNextSlide_49 : decode cX0_findNextSlide 49 = .ok (.isub, 1) := by decide +kernel
theorem dX0_findNextSlide_50 : decode cX0_findNextSlide 50 = .ok (.if_icmp .ne 16, 3) := by decide +kernel
theorem dX0_findNextSlide_53 : decode cX0_findNextSlide 53 = .ok (.aload_n 0, 1) := by decide +kernel
theorem dX0_findNextSlide_54 : decode cX0_findNextSlide 54 = .ok (.iload_n 3, 1) := by decide +kernel
theorem dX0_findNextSlide_55 : decode cX0_findNextSlide 55 = .ok (.putfield 113, 3) := by decide +kernel
theorem dX0_findNextSlide_58 : decode cX0_findNextSlide 58 = .ok (.aload_n 0, 1) := by decide +kernel
theorem dX0_findNextSlide_59 : decode cX0_findNextSlide 59 = .ok (.iload 4, 2) := by decide +kernel
theorem dX0_findNextSlide_61 : decode cX0_findNextSlide 61 = .ok (.putfield 116, 3) := by decide +kernel
theorem dX0_findNextSlide_64 : decode cX0_findNextSlide 64 = .ok (.iconst 1, 1) := by decide +kernel
theorem dX0_findNextSlide_65 : decode cX0_findNextSlide 65 = .ok (.ireturn, 1) := by decide +kernel
theorem dX0_findNextSlide_66 : decode cX0_findNextSlide 66 = .ok (.iinc 4 1, 3) := by decide +kernel
theorem dX0_findNextSlide_69 : decode cX0_findNextSlide 69 = .ok (.goto (-45), 3) := by decide +kernel
theorem dX0_findNextSlide_72 : decode cX0_findNextSlide 72 = .ok (.iinc 3 1, 3) := by decide +kernel
theorem dX0_findNextSlide_75 : decode cX0_findNextSlide 75 = .ok (.goto (-67), 3) := by decide +kernel
theorem dX0_findNextSlide_78 : decode cX0_findNextSlide 78 = .ok (.iconst 0, 1) := by decide +kernel
theorem dX0_findNextSlide_79 : decode cX0_findNextSlide 79 = .ok (.ireturn, 1) := by decide +kernel
theorem dX0_fuelByBuckets_0 : decode cX0_fuelByBuckets 0 = .ok (.aload_n 0, 1) := by decide +kernel
theorem dX0_fuelByBuckets_1 : decode cX0_fuelByBuckets 1 = .ok (.invokevirtual 93, 3) := by decide +kernel
theorem dX0_fuelByBuckets_4 : decode cX0_fuelByBuckets 4 = .ok (.iconst 0, 1) := by decide +kernel
theorem dX0_fuelByBuckets_5 : decode cX0_fuelByBuckets 5 = .ok (.istore_n 1, 1) := by decide +kernel
theorem dX0_fuelByBuckets_6 : decode cX0_fuelByBuckets 6 = .ok (.iload_n 1, 1) := by decide +kernel
theorem dX0_fuelByBuckets_7 : decode cX0_fuelByBuckets 7 = .ok (.iconst 4, 1) := by decide +kernel
theorem dX0_fuelByBuckets_8 : decode cX0_fuelByBuckets 8 = .ok (.if_icmp .ge 16, 3) := by decide +kernel
theorem dX0_fuelByBuckets_11 : decode cX0_fuelByBuckets 11 = .ok (.aload_n 0, 1) := by decide +kernel
theorem dX0_fuelByBuckets_12 : decode cX0_fuelByBuckets 12 = .ok (.getfield 27, 3) := by decide +kernel
theorem dX0_fuelByBuckets_15 : decode cX0_fuelByBuckets 15 = .ok (.iload_n 1, 1) := by decide +kernel
theorem dX0_fuelByBuckets_16 : decode cX0_fuelByBuckets 16 = .ok (.iconst 0, 1) := by decide +kernel
theorem dX0_fuelByBuckets_17 : decode cX0_fuelByBuckets 17 = .ok (.iastore, 1) := by decide +kernel
theorem dX0_fuelByBuckets_18 : decode cX0_fuelByBuckets 18 = .ok (.iinc 1 1, 3) := by decide +kernel
theorem dX0_fuelByBuckets_21 : decode cX0_fuelByBuckets 21 = .ok (.goto (-15), 3) := by decide +kernel
theorem dX0_fuelByBuckets_24 : decode cX0_fuelByBuckets 24 = .ok (.aload_n 0, 1) := by decide +kernel
theorem dX0_fuelByBuckets_25 : decode cX0_fuelByBuckets 25 = .ok (.aload_n 0, 1) := by decide +kernel
theorem dX0_fuelByBuckets_26 : decode cX0_fuelByBuckets 26 = .ok (.getfield 46, 3) := by decide +kernel
theorem dX0_fuelByBuckets_29 : decode cX0_fuelByBuckets 29 = .ok (.iconst 0, 1) := by decide +kernel
theorem dX0_fuelByBuckets_30 : decode cX0_fuelByBuckets 30 = .ok (.invokevirtual 119, 3) := by decide +kernel
theorem dX0_fuelByBuckets_33 : decode cX0_fuelByBuckets 33 = .ok (.iconst 0, 1) := by decide +kernel
theorem dX0_fuelByBuckets_34 : decode cX0_fuelByBuckets 34 = .ok (.istore_n 1, 1) := by decide +kernel
theorem dX0_fuelByBuckets_35 : decode cX0_fuelByBuckets 35 = .ok (.iload_n 1, 1) := by decide +kernel
theorem dX0_fuelByBuckets_36 : decode cX0_fuelByBuckets 36 = .ok (.sipush 12288, 3) := by decide +kernel
theorem dX0_fuelByBuckets_39 : decode cX0_fuelByBuckets 39 = .ok (.if_icmp .gt 31, 3) := by decide +kernel
theorem dX0_fuelByBuckets_42 : decode cX0_fuelByBuckets 42 = .ok (.aload_n 0, 1) := by decide +kernel
theorem dX0_fuelByBuckets_43 : decode cX0_fuelByBuckets 43 = .ok (.invokevirtual 122, 3) := by decide +kernel
theorem dX0_fuelByBuckets_46 : decode cX0_fuelByBuckets 46 = .ok (.ifCond .eq 24, 3) := by decide +kernel
theorem dX0_fuelByBuckets_49 : decode cX0_fuelByBuckets 49 = .ok (.aload_n 0, 1) := by decide +kernel
theorem dX0_fuelByBuckets_50 : decode cX0_fuelByBuckets 50 = .ok (.iload_n 1, 1) := by decide +kernel
theorem dX0_fuelByBuckets_51 : decode cX0_fuelByBuckets 51 = .ok (.invokevirtual 126, 3) := by decide +kernel
theorem dX0_fuelByBuckets_54 : decode cX0_fuelByBuckets 54 = .ok (.ifCond .eq 5, 3) := by decide +kernel
theorem dX0_fuelByBuckets_57 : decode cX0_fuelByBuckets 57 = .ok (.iload_n 1, 1) := by decide +kernel
theorem dX0_fuelByBuckets_58 : decode cX0_fuelByBuckets 58 = .ok (.ireturn, 1) := by decide +kernel
theorem dX0_fuelByBuckets_59 : decode cX0_fuelByBuckets 59 = .ok (.aload_n 0, 1) := by decide +kernel
theorem dX0_fuelByBuckets_60 : decode cX0_fuelByBuckets 60 = .ok (.iload_n 1, 1) := by decide +kernel
theorem dX0_fuelByBuckets_61 : decode cX0_fuelByBuckets 61 = .ok (.invokevirtual 129, 3) := by decide +kernel
theorem dX0_fuelByBuckets_64 : decode cX0_fuelByBuckets 64 = .ok (.iinc 1 1, 3) := by decide +kernel
theorem dX0_fuelByBuckets_67 : decode cX0_fuelByBuckets 67 = .ok (.goto (-32), 3) := by decide +kernel
theorem dX0_fuelByBuckets_70 : decode cX0_fuelByBuckets 70 = .ok (.iconst (-1), 1) := by decide +kernel
theorem dX0_fuelByBuckets_71 : decode cX0_fuelByBuckets 71 = .ok (.ireturn, 1) := by decide +kernel
theorem dX0_isAnyFilled_0 : decode cX0_isAnyFilled 0 = .ok (.aload_n 0, 1) := by decide +kernel
theorem dX0_isAnyFilled_1 : decode cX0_isAnyFilled 1 = .ok (.getfield 27, 3) := by decide +kernel
theorem dX0_isAnyFilled_4 : decode cX0_isAnyFilled 4 = .ok (.iconst 0, 1) := by decide +kernel
theorem dX0_isAnyFilled_5 : decode cX0_isAnyFilled 5 = .ok (.iaload, 1) := by decide +kernel
theorem dX0_isAnyFilled_6 : decode cX0_isAnyFilled 6 = .ok (.aload_n 0, 1) := by decide +kernel
theorem dX0_isAnyFilled_7 : decode cX0_isAnyFilled 7 = .ok (.getfield 27, 3) := by decide +kernel
theorem dX0_isAnyFilled_10 : decode cX0_isAnyFilled 10 = .ok (.iconst 1, 1) := by decide +kernel
theorem dX0_isAnyFilled_11 : decode cX0_isAnyFilled 11 = .ok (.iaload, 1) := by decide +kernel
theorem dX0_isAnyFilled_12 : decode cX0_isAnyFilled 12 = .ok (.iadd, 1) := by decide +kernel
theorem dX0_isAnyFilled_13 : decode cX0_isAnyFilled 13 = .ok (.aload_n 0, 1) := by decide +kernel
theorem dX0_isAnyFilled_14 : decode cX0_isAnyFilled 14 = .ok (.getfield 27, 3) := by decide +kernel
theorem dX0_isAnyFilled_17 : decode cX0_isAnyFilled 17 = .ok (.iconst 2, 1) := by decide +kernel
theorem dX0_isAnyFilled_18 : decode cX0_isAnyFilled 18 = .ok (.iaload, 1) := by decide +kernel
theorem dX0_isAnyFilled_19 : decode cX0_isAnyFilled 19 = .ok (.iadd, 1) := by decide +kernel
theorem dX0_isAnyFilled_20 : decode cX0_isAnyFilled 20 = .ok (.aload_n 0, 1) := by decide +kernel
theorem dX0_isAnyFilled_21 : decode cX0_isAnyFilled 21 = .ok (.getfield 27, 3) := by decide +kernel
theorem dX0_isAnyFilled_24 : decode cX0_isAnyFilled 24 = .ok (.iconst 3, 1) := by decide +kernel
theorem dX0_isAnyFilled_25 : decode cX0_isAnyFilled 25 = .ok (.iaload, 1) := by decide +kernel
theorem dX0_isAnyFilled_26 : decode cX0_isAnyFilled 26 = .ok (.iadd, 1) := by decide +kernel
theorem dX0_isAnyFilled_27 : decode cX0_isAnyFilled 27 = .ok (.ifCond .le 7, 3) := by decide +kernel
theorem dX0_isAnyFilled_30 : decode cX0_isAnyFilled 30 = .ok (.iconst 1, 1) := by decide +kernel
theorem dX0_isAnyFilled_31 : decode cX0_isAnyFilled 31 = .ok (.goto 4, 3) := by decide +kernel
theorem dX0_isAnyFilled_34 : decode cX0_isAnyFilled 34 = .ok (.iconst 0, 1) := by decide +kernel
theorem dX0_isAnyFilled_35 : decode cX0_isAnyFilled 35 = .ok (.ireturn, 1) := by decide +kernel
theorem dX0_inBucket_0 : decode cX0_inBucket 0 = .ok (.iload_n 1, 1) := by decide +kernel
theorem dX0_inBucket_1 : decode cX0_inBucket 1 = .ok (.iconst 3, 1) := by decide +kernel
theorem dX0_inBucket_2 : decode cX0_inBucket 2 = .ok (.iand, 1) := by decide +kernel
theorem dX0_inBucket_3 : decode cX0_inBucket 3 = .ok (.sipush 4096, 3) := by decide +kernel
theorem dX0_inBucket_6 : decode cX0_inBucket 6 = .ok (.imul, 1) := by decide +kernel
theorem dX0_inBucket_7 : decode cX0_inBucket 7 = .ok (.iload_n 2, 1) := by decide +kernel
theorem dX0_inBucket_8 : decode cX0_inBucket 8 = .ok (.iadd, 1) := by decide +kernel
theorem dX0_inBucket_9 : decode cX0_inBucket 9 = .ok (.istore_n 3, 1) := by decide +kernel
theorem dX0_inBucket_10 : decode cX0_inBucket 10 = .ok (.iload_n 3, 1) := by decide +kernel
theorem dX0_inBucket_11 : decode cX0_inBucket 11 = .ok (.ifCond .lt 19, 3) := by decide +kernel
theorem dX0_inBucket_14 : decode cX0_inBucket 14 = .ok (.iload_n 3, 1) := by decide +kernel
theorem dX0_inBucket_15 : decode cX0_inBucket 15 = .ok (.sipush 16384, 3) := by decide +kernel
theorem dX0_inBucket_18 : decode cX0_inBucket 18 = .ok (.if_icmp .ge 12, 3) := by decide +kernel
theorem dX0_inBucket_21 : decode cX0_inBucket 21 = .ok (.aload_n 0, 1) := by decide +kernel
theorem dX0_inBucket_22 : decode cX0_inBucket 22 = .ok (.getfield 24, 3) := by decide +kernel
theorem dX0_inBucket_25 : decode cX0_inBucket 25 = .ok (.iload_n 3, 1) := by decide +kernel
theorem dX0_inBucket_26 : decode cX0_inBucket 26 = .ok (.iaload, 1) := by decide +kernel
theorem dX0_inBucket_27 : decode cX0_inBucket 27 = .ok (.goto 4, 3) := by decide +kernel
theorem dX0_inBucket_30 : decode cX0_inBucket 30 = .ok (.iconst (-1), 1) := by decide +kernel
theorem dX0_inBucket_31 : decode cX0_inBucket 31 = .ok (.istore 4, 2) := by decide +kernel
theorem dX0_inBucket_33 : decode cX0_inBucket 33 = .ok (.aload_n 0, 1) := by decide +kernel
theorem dX0_inBucket_34 : decode cX0_inBucket 34 = .ok (.iload 4, 2) := by decide +kernel
theorem dX0_inBucket_36 : decode cX0_inBucket 36 = .ok (.invokevirtual 83, 3) := by decide +kernel
theorem dX0_inBucket_39 : decode cX0_inBucket 39 = .ok (.iload_n 1, 1) := by decide +kernel
theorem dX0_inBucket_40 : decode cX0_inBucket 40 = .ok (.if_icmp .ne 8, 3) := by decide +kernel
theorem dX0_inBucket_43 : decode cX0_inBucket 43 = .ok (.iload 4, 2) := by decide +kernel
theorem dX0_inBucket_45 : decode cX0_inBucket 45 = .ok (.goto 4, 3) := by decide +kernel
theorem dX0_inBucket_48 : decode cX0_inBucket 48 = .ok (.iconst (-1), 1) := by decide +kernel
theorem dX0_inBucket_49 : decode cX0_inBucket 49 = .ok (.ireturn, 1) := by decide +kernel
theorem dX0_hasOutFor_0 : decode cX0_hasOutFor 0 = .ok (.iconst 0, 1) := by decide +kernel
theorem dX0_hasOutFor_1 : decode cX0_hasOutFor 1 = .ok (.istore_n 2, 1) := by decide +kernel
theorem dX0_hasOutFor_2 : decode cX0_hasOutFor 2 = .ok (.iload_n 2, 1) := by decide +kernel
theorem dX0_hasOutFor_3 : decode cX0_hasOutFor 3 = .ok (.aload_n 0, 1) := by decide +kernel
theorem dX0_hasOutFor_4 : decode cX0_hasOutFor 4 = .ok (.getfield 27, 3) := by decide +kernel
theorem dX0_hasOutFor_7 : decode cX0_hasOutFor 7 = .ok (.iload_n 1, 1) := by decide +kernel
theorem dX0_hasOutFor_8 : decode cX0_hasOutFor 8 = .ok (.iconst 3, 1) := by decide +kernel
theorem dX0_hasOutFor_9 : decode cX0_hasOutFor 9 = .ok (.iand, 1) := by decide +kernel
theorem dX0_hasOutFor_10 : decode cX0_hasOutFor 10 = .ok (.iaload, 1) := by decide +kernel
theorem dX0_hasOutFor_11 : decode cX0_hasOutFor 11 = .ok (.if_icmp .ge 31, 3) := by decide +kernel
theorem dX0_hasOutFor_14 : decode cX0_hasOutFor 14 = .ok (.aload_n 0, 1) := by decide +kernel
theorem dX0_hasOutFor_15 : decode cX0_hasOutFor 15 = .ok (.iload_n 1, 1) := by decide +kernel
theorem dX0_hasOutFor_16 : decode cX0_hasOutFor 16 = .ok (.iload_n 2, 1) := by decide +kernel
theorem dX0_hasOutFor_17 : decode cX0_hasOutFor 17 = .ok (.invokevirtual 132, 3) := by decide +kernel
theorem dX0_hasOutFor_20 : decode cX0_hasOutFor 20 = .ok (.istore_n 3, 1) := by decide +kernel
theorem dX0_hasOutFor_21 : decode cX0_hasOutFor 21 = .ok (.iload_n 3, 1) := by decide +kernel
theorem dX0_hasOutFor_22 : decode cX0_hasOutFor 22 = .ok (.iconst (-1), 1) := by decide +kernel
theorem dX0_hasOutFor_23 : decode cX0_hasOutFor 23 = .ok (.if_icmp .eq 13, 3) := by decide +kernel
theorem dX0_hasOutFor_26 : decode cX0_hasOutFor 26 = .ok (.aload_n 0, 1) := by decide +kernel
theorem dX0_hasOutFor_27 : decode cX0_hasOutFor 27 = .ok (.iload_n 3, 1) := by decide +kernel
theorem dX0_hasOutFor_28 : decode cX0_hasOutFor 28 = .ok (.invokevirtual 107, 3) := by decide +kernel
theorem dX0_hasOutFor_31 : decode cX0_hasOutFor 31 = .ok (.ifCond .eq 5, 3) := by decide +kernel
theorem dX0_hasOutFor_34 : decode cX0_hasOutFor 34 = .ok (.iconst 1, 1) := by decide +kernel
theorem dX0_hasOutFor_35 : decode cX0_hasOutFor 35 = .ok (.ireturn, 1) := by decide +kernel
theorem dX0_hasOutFor_36 : decode cX0_hasOutFor 36 = .ok (.iinc 2 1, 3) := by decide +kernel
theorem dX0_hasOutFor_39 : decode cX0_hasOutFor 39 = .ok (.goto (-37), 3) := by decide +kernel
theorem dX0_hasOutFor_42 : decode cX0_hasOutFor 42 = .ok (.iconst 0, 1) := by decide +kernel
theorem dX0_hasOutFor_43 : decode cX0_hasOutFor 43 = .ok (.ireturn, 1) := by decide +kernel
theorem dX0_emptyBucket_0 : decode cX0_emptyBucket 0 = .ok (.aload_n 0, 1) := by decide +kernel
theorem dX0_emptyBucket_1 : decode cX0_emptyBucket 1 = .ok (.getfield 27, 3) := by decide +kernel
theorem dX0_emptyBucket_4 : decode cX0_emptyBucket 4 = .ok (.iload_n 1, 1) := by decide +kernel
theorem dX0_emptyBucket_5 : decode cX0_emptyBucket 5 = .ok (.iconst 3, 1) := by decide +kernel
theorem dX0_emptyBucket_6 : decode cX0_emptyBucket 6 = .ok (.iand, 1) := by decide +kernel
theorem dX0_emptyBucket_7 : decode cX0_emptyBucket 7 = .ok (.iaload, 1) := by decide +kernel
theorem dX0_emptyBucket_8 : decode cX0_emptyBucket 8 = .ok (.istore_n 2, 1) := by decide +kernel
theorem dX0_emptyBucket_9 : decode cX0_emptyBucket 9 = .ok (.iconst 0, 1) := by decide +kernel
theorem dX0_emptyBucket_10 : decode cX0_emptyBucket 10 = .ok (.istore_n 3, 1) := by decide +kernel
theorem dX0_emptyBucket_11 : decode cX0_emptyBucket 11 = .ok (.iload_n 3, 1) := by decide +kernel
theorem dX0_emptyBucket_12 : decode cX0_emptyBucket 12 = .ok (.iload_n 2, 1) := by decide +kernel
theorem dX0_emptyBucket_13 : decode cX0_emptyBucket 13 = .ok (.if_icmp .ge 92, 3) := by decide +kernel
theorem dX0_emptyBucket_16 : decode cX0_emptyBucket 16 = .ok (.aload_n 0, 1) := by decide +kernel
theorem dX0_emptyBucket_17 : decode cX0_emptyBucket 17 = .ok (.iload_n 1, 1) := by decide +kernel
theorem dX0_emptyBucket_18 : decode cX0_emptyBucket 18 = .ok (.iload_n 3, 1) := by decide +kernel
theorem dX0_emptyBucket_19 : decode cX0_emptyBucket 19 = .ok (.invokevirtual 132, 3) := by decide +kernel
theorem dX0_emptyBucket_22 : decode cX0_emptyBucket 22 = .ok (.istore 4, 2) := by decide +kernel
theorem dX0_emptyBucket_24 : decode cX0_emptyBucket 24 = .ok (.iconst 0, 1) := by decide +kernel
theorem dX0_emptyBucket_25 : decode cX0_emptyBucket 25 = .ok (.istore 5, 2) := by decide +kernel
theorem dX0_emptyBucket_27 : decode cX0_emptyBucket 27 = .ok (.iload 5, 2) := by decide +kernel
theorem dX0_emptyBucket_29 : decode cX0_emptyBucket 29 = .ok (.aload_n 0, 1) := by decide +kernel
theorem dX0_emptyBucket_30 : decode cX0_emptyBucket 30 = .ok (.getfield 39, 3) := by decide +kernel
theorem dX0_emptyBucket_33 : decode cX0_emptyBucket 33 = .ok (.if_icmp .ge 66, 3) := by decide +kernel
theorem dX0_emptyBucket_36 : decode cX0_emptyBucket 36 = .ok (.iload 5, 2) := by decide +kernel
theorem dX0_emptyBucket_38 : decode cX0_emptyBucket 38 = .ok (.bipush 6, 2) := by decide +kernel
theorem dX0_emptyBucket_40 : decode cX0_emptyBucket 40 = .ok (.if_icmp .ge 59, 3) := by decide +kernel
theorem dX0_emptyBucket_43 : decode cX0_emptyBucket 43 = .ok (.iload 4, 2) := by decide +kernel
theorem dX0_emptyBucket_45 : decode cX0_emptyBucket 45 = .ok (.iconst (-1), 1) := by decide +kernel
theorem dX0_emptyBucket_46 : decode cX0_emptyBucket 46 = .ok (.if_icmp .eq 53, 3) := by decide +kernel
theorem dX0_emptyBucket_49 : decode cX0_emptyBucket 49 = .ok (.aload_n 0, 1) := by decide +kernel
theorem dX0_emptyBucket_50 : decode cX0_emptyBucket 50 = .ok (.aload_n 0, 1) := by decide +kernel
theorem dX0_emptyBucket_51 : decode cX0_emptyBucket 51 = .ok (.iload 4, 2) := by decide +kernel
theorem dX0_emptyBucket_53 : decode cX0_emptyBucket 53 = .ok (.iload 5, 2) := by decide +kernel
theorem dX0_emptyBucket_55 : decode cX0_emptyBucket 55 = .ok (.iconst 1, 1) := by decide +kernel
theorem dX0_emptyBucket_56 : decode cX0_emptyBucket 56 = .ok (.invokevirtual 77, 3) := by decide +kernel
theorem dX0_emptyBucket_59 : decode cX0_emptyBucket 59 = .ok (.iload_n 1, 1) := by decide +kernel
theorem dX0_emptyBucket_60 : decode cX0_emptyBucket 60 = .ok (.aload_n 0, 1) := by decide +kernel
theorem dX0_emptyBucket_61 : decode cX0_emptyBucket 61 = .ok (.getfield 11, 3) := by decide +kernel
theorem dX0_emptyBucket_64 : decode cX0_emptyBucket 64 = .ok (.iload 5, 2) := by decide +kernel
theorem dX0_emptyBucket_66 : decode cX0_emptyBucket 66 = .ok (.iaload, 1) := by decide +kernel
theorem dX0_emptyBucket_67 : decode cX0_emptyBucket 67 = .ok (.iadd, 1) := by decide +kernel
theorem dX0_emptyBucket_68 : decode cX0_emptyBucket 68 = .ok (.invokevirtual 119, 3) := by decide +kernel
theorem dX0_emptyBucket_71 : decode cX0_emptyBucket 71 = .ok (.aload_n 0, 1) := by decide +kernel
theorem dX0_emptyBucket_72 : decode cX0_emptyBucket 72 = .ok (.aload_n 0, 1) := by decide +kernel
theorem dX0_emptyBucket_73 : decode cX0_emptyBucket 73 = .ok (.iload 4, 2) := by decide +kernel
theorem dX0_emptyBucket_75 : decode cX0_emptyBucket 75 = .ok (.iload 5, 2) := by decide +kernel
theorem dX0_emptyBucket_77 : decode cX0_emptyBucket 77 = .ok (.iconst (-1), 1) := by decide +kernel
theorem dX0_emptyBucket_78 : decode cX0_emptyBucket 78 = .ok (.invokevirtual 77, 3) := by decide +kernel
theorem dX0_emptyBucket_81 : decode cX0_emptyBucket 81 = .ok (.iload_n 1, 1) := by decide +kernel
theorem dX0_emptyBucket_82 : decode cX0_emptyBucket 82 = .ok (.aload_n 0, 1) := by decide +kernel
theorem dX0_emptyBucket_83 : decode cX0_emptyBucket 83 = .ok (.getfield 11, 3) := by decide +kernel
theorem dX0_emptyBucket_86 : decode cX0_emptyBucket 86 = .ok (.iload 5, 2) := by decide +kernel
theorem dX0_emptyBucket_88 : decode cX0_emptyBucket 88 = .ok (.iaload, 1) := by decide +kernel
theorem dX0_emptyBucket_89 : decode cX0_emptyBucket 89 = .ok (.iadd, 1) := by decide +kernel
theorem dX0_emptyBucket_90 : decode cX0_emptyBucket 90 = .ok (.invokevirtual 119, 3) := by decide +kernel
theorem dX0_emptyBucket_93 : decode cX0_emptyBucket 93 = .ok (.iinc 5 1, 3) := by decide +kernel
theorem dX0_emptyBucket_96 : decode cX0_emptyBucket 96 = .ok (.goto (-69), 3) := by decide +kernel
theorem dX0_emptyBucket_99 : decode cX0_emptyBucket 99 = .ok (.iinc 3 1, 3) := by decide +kernel
theorem dX0_emptyBucket_102 : decode cX0_emptyBucket 102 = .ok (.goto (-91), 3) := by decide +kernel
theorem dX0_emptyBucket_105 : decode cX0_emptyBucket 105 = .ok (.aload_n 0, 1) := by decide +kernel
theorem dX0_emptyBucket_106 : decode cX0_emptyBucket 106 = .ok (.getfield 27, 3) := by decide +kernel
theorem dX0_emptyBucket_109 : decode cX0_emptyBucket 109 = .ok (.iload_n 1, 1) := by decide +kernel
theorem dX0_emptyBucket_110 : decode cX0_emptyBucket 110 = .ok (.iconst 3, 1) := by decide +kernel
theorem dX0_emptyBucket_111 : decode cX0_emptyBucket 111 = .ok (.iand, 1) := by decide +kernel
theorem dX0_emptyBucket_112 : decode cX0_emptyBucket 112 = .ok (.iconst 0, 1) := by decide +kernel
theorem dX0_emptyBucket_113 : decode cX0_emptyBucket 113 = .ok (.iastore, 1) := by decide +kernel
theorem dX0_emptyBucket_114 : decode cX0_emptyBucket 114 = .ok (.return_, 1) := by decide +kernel
theorem dX0_cheapen_0 : decode cX0_cheapen 0 = .ok (.iload_n 2, 1) := by decide +kernel
theorem dX0_cheapen_1 : decode cX0_cheapen 1 = .ok (.iconst 3, 1) := by decide +kernel
theorem dX0_cheapen_2 : decode cX0_cheapen 2 = .ok (.iand, 1) := by decide +kernel
theorem dX0_cheapen_3 : decode cX0_cheapen 3 = .ok (.istore_n 3, 1) := by decide +kernel
theorem dX0_cheapen_4 : decode cX0_cheapen 4 = .ok (.aload_n 0, 1) := by decide +kernel
theorem dX0_cheapen_5 : decode cX0_cheapen 5 = .ok (.iload_n 1, 1) := by decide +kernel
theorem dX0_cheapen_6 : decode cX0_cheapen 6 = .ok (.iload_n 2, 1) := by decide +kernel
theorem dX0_cheapen_7 : decode cX0_cheapen 7 = .ok (.invokevirtual 135, 3) := by decide +kernel
theorem dX0_cheapen_10 : decode cX0_cheapen 10 = .ok (.ifCond .eq 50, 3) := by decide +kernel
theorem dX0_cheapen_13 : decode cX0_cheapen 13 = .ok (.aload_n 0, 1) := by decide +kernel
theorem dX0_cheapen_14 : decode cX0_cheapen 14 = .ok (.getfield 27, 3) := by decide +kernel
theorem dX0_cheapen_17 : decode cX0_cheapen 17 = .ok (.iload_n 3, 1) := by decide +kernel
theorem dX0_cheapen_18 : decode cX0_cheapen 18 = .ok (.iaload, 1) := by decide +kernel
theorem dX0_cheapen_19 : decode cX0_cheapen 19 = .ok (.sipush 4096, 3) := by decide +kernel
theorem dX0_cheapen_22 : decode cX0_cheapen 22 = .ok (.if_icmp .ge 38, 3) := by decide +kernel
theorem dX0_cheapen_25 : decode cX0_cheapen 25 = .ok (.aload_n 0, 1) := by decide +kernel
theorem dX0_cheapen_26 : decode cX0_cheapen 26 = .ok (.getfield 18, 3) := by decide +kernel
theorem dX0_cheapen_29 : decode cX0_cheapen 29 = .ok (.iload_n 1, 1) := by decide +kernel
theorem dX0_cheapen_30 : decode cX0_cheapen 30 = .ok (.iload_n 2, 1) := by decide +kernel
theorem dX0_cheapen_31 : decode cX0_cheapen 31 = .ok (.iastore, 1) := by decide +kernel
theorem dX0_cheapen_32 : decode cX0_cheapen 32 = .ok (.aload_n 0, 1) := by decide +kernel
theorem dX0_cheapen_33 : decode cX0_cheapen 33 = .ok (.getfield 24, 3) := by decide +kernel
theorem dX0_cheapen_36 : decode cX0_cheapen 36 = .ok (.iload_n 3, 1) := by decide +kernel
theorem dX0_cheapen_37 : decode cX0_cheapen 37 = .ok (.sipush 4096, 3) := by decide +kernel
theorem dX0_cheapen_40 : decode cX0_cheapen 40 = .ok (.imul, 1) := by decide +kernel
theorem dX0_cheapen_41 : decode cX0_cheapen 41 = .ok (.aload_n 0, 1) := by decide +kernel
theorem dX0_cheapen_42 : decode cX0_cheapen 42 = .ok (.getfield 27, 3) := by decide +kernel
theorem dX0_cheapen_45 : decode cX0_cheapen 45 = .ok (.iload_n 3, 1) := by decide +kernel
theorem dX0_cheapen_46 : decode cX0_cheapen 46 = .ok (.iaload, 1) := by decide +kernel
theorem dX0_cheapen_47 : decode cX0_cheapen 47 = .ok (.iadd, 1) := by decide +kernel
theorem dX0_cheapen_48 : decode cX0_cheapen 48 = .ok (.iload_n 1, 1) := by decide +kernel
theorem dX0_cheapen_49 : decode cX0_cheapen 49 = .ok (.iastore, 1) := by decide +kernel
theorem dX0_cheapen_50 : decode cX0_cheapen 50 = .ok (.aload_n 0, 1) := by decide +kernel
theorem dX0_cheapen_51 : decode cX0_cheapen 51 = .ok (.getfield 27, 3) := by decide +kernel
theorem dX0_cheapen_54 : decode cX0_cheapen 54 = .ok (.iload_n 3, 1) := by decide +kernel
theorem dX0_cheapen_55 : decode cX0_cheapen 55 = .ok (.dup2, 1) := by decide +kernel
theorem dX0_cheapen_56 : decode cX0_cheapen 56 = .ok (.iaload, 1) := by decide +kernel
theorem dX0_cheapen_57 : decode cX0_cheapen 57 = .ok (.iconst 1, 1) := by decide +kernel
theorem dX0_cheapen_58 : decode cX0_cheapen 58 = .ok (.iadd, 1) := by decide +kernel
theorem dX0_cheapen_59 : decode cX0_cheapen 59 = .ok (.iastore, 1) := by decide +kernel
theorem dX0_cheapen_60 : decode cX0_cheapen 60 = .ok (.return_, 1) := by decide +kernel
theorem dX0_isCheaper_0 : decode cX0_isCheaper 0 = .ok (.aload_n 0, 1) := by decide +kernel
theorem dX0_isCheaper_1 : decode cX0_isCheaper 1 = .ok (.iload_n 1, 1) := by decide +kernel
theorem dX0_isCheaper_2 : decode cX0_isCheaper 2 = .ok (.invokevirtual 69, 3) := by decide +kernel
theorem dX0_isCheaper_5 : decode cX0_isCheaper 5 = .ok (.ifCond .eq 27, 3) := by decide +kernel
theorem dX0_isCheaper_8 : decode cX0_isCheaper 8 = .ok (.aload_n 0, 1) := by decide +kernel
theorem dX0_isCheaper_9 : decode cX0_isCheaper 9 = .ok (.getfield 18, 3) := by decide +kernel
theorem dX0_isCheaper_12 : decode cX0_isCheaper 12 = .ok (.iload_n 1, 1) := by decide +kernel
theorem dX0_isCheaper_13 : decode cX0_isCheaper 13 = .ok (.iaload, 1) := by decide +kernel
theorem dX0_isCheaper_14 : decode cX0_isCheaper 14 = .ok (.iconst (-1), 1) := by decide +kernel
theorem dX0_isCheaper_15 : decode cX0_isCheaper 15 = .ok (.if_icmp .eq 13, 3) := by decide +kernel
theorem dX0_isCheaper_18 : decode cX0_isCheaper 18 = .ok (.iload_n 2, 1) := by decide +kernel
theorem dX0_isCheaper_19 : decode cX0_isCheaper 19 = .ok (.aload_n 0, 1) := by decide +kernel
theorem dX0_isCheaper_20 : decode cX0_isCheaper 20 = .ok (.getfield 18, 3) := by decide +kernel
theorem dX0_isCheaper_23 : decode cX0_isCheaper 23 = .ok (.iload_n 1, 1) := by decide +kernel
theorem dX0_isCheaper_24 : decode cX0_isCheaper 24 = .ok (.iaload, 1) := by decide +kernel
theorem dX0_isCheaper_25 : decode cX0_isCheaper 25 = .ok (.if_icmp .ge 7, 3) := by decide +kernel
theorem dX0_isCheaper_28 : decode cX0_isCheaper 28 = .ok (.iconst 1, 1) := by decide +kernel
theorem dX0_isCheaper_29 : decode cX0_isCheaper 29 = .ok (.goto 4, 3) := by decide +kernel
theorem dX0_isCheaper_32 : decode cX0_isCheaper 32 = .ok (.iconst 0, 1) := by decide +kernel
theorem dX0_isCheaper_33 : decode cX0_isCheaper 33 = .ok (.ireturn, 1) := by decide +kernel
theorem dX0_fuelByRounds_0 : decode cX0_fuelByRounds 0 = .ok (.aload_n 0, 1) := by decide +kernel
theorem dX0_fuelByRounds_1 : decode cX0_fuelByRounds 1 = .ok (.invokevirtual 93, 3) := by decide +kernel
theorem dX0_fuelByRounds_4 : decode cX0_fuelByRounds 4 = .ok (.aload_n 0, 1) := by decide +kernel
theorem dX0_fuelByRounds_5 : decode cX0_fuelByRounds 5 = .ok (.aload_n 0, 1) := by decide +kernel
theorem dX0_fuelByRounds_6 : decode cX0_fuelByRounds 6 = .ok (.getfield 46, 3) := by decide +kernel
theorem dX0_fuelByRounds_9 : decode cX0_fuelByRounds 9 = .ok (.iconst 0, 1) := by decide +kernel
theorem dX0_fuelByRounds_10 : decode cX0_fuelByRounds 10 = .ok (.invokevirtual 90, 3) := by decide +kernel
theorem dX0_fuelByRounds_13 : decode cX0_fuelByRounds 13 = .ok (.iconst 1, 1) := by decide +kernel
theorem dX0_fuelByRounds_14 : decode cX0_fuelByRounds 14 = .ok (.istore_n 1, 1) := by decide +kernel
theorem dX0_fuelByRounds_15 : decode cX0_fuelByRounds 15 = .ok (.iconst 0, 1) := by decide +kernel
theorem dX0_fuelByRounds_16 : decode cX0_fuelByRounds 16 = .ok (.istore_n 2, 1) := by decide +kernel
theorem dX0_fuelByRounds_17 : decode cX0_fuelByRounds 17 = .ok (.iload_n 2, 1) := by decide +kernel
theorem dX0_fuelByRounds_18 : decode cX0_fuelByRounds 18 = .ok (.sipush 4096, 3) := by decide +kernel
theorem dX0_fuelByRounds_21 : decode cX0_fuelByRounds 21 = .ok (.if_icmp .gt 50, 3) := by decide +kernel
theorem dX0_fuelByRounds_24 : decode cX0_fuelByRounds 24 = .ok (.iload_n 1, 1) := by decide +kernel
theorem dX0_fuelByRounds_25 : decode cX0_fuelByRounds 25 = .ok (.ifCond .eq 46, 3) := by decide +kernel
theorem dX0_fuelByRounds_28 : decode cX0_fuelByRounds 28 = .ok (.iconst 0, 1) := by decide +kernel
theorem dX0_fuelByRounds_29 : decode cX0_fuelByRounds 29 = .ok (.istore_n 1, 1) := by decide +kernel
theorem dX0_fuelByRounds_30 : decode cX0_fuelByRounds 30 = .ok (.iconst 0, 1) := by decide +kernel
theorem dX0_fuelByRounds_31 : decode cX0_fuelByRounds 31 = .ok (.istore_n 3, 1) := by decide +kernel
theorem dX0_fuelByRounds_32 : decode cX0_fuelByRounds 32 = .ok (.iload_n 3, 1) := by decide +kernel
theorem dX0_fuelByRounds_33 : decode cX0_fuelByRounds 33 = .ok (.aload_n 0, 1) := by decide +kernel
theorem dX0_fuelByRounds_34 : decode cX0_fuelByRounds 34 = .ok (.getfield 43, 3) := by decide +kernel
theorem dX0_fuelByRounds_37 : decode cX0_fuelByRounds 37 = .ok (.if_icmp .ge 28, 3) := by decide +kernel
theorem dX0_fuelByRounds_40 : decode cX0_fuelByRounds 40 = .ok (.aload_n 0, 1) := by decide +kernel
theorem dX0_fuelByRounds_41 : decode cX0_fuelByRounds 41 = .ok (.iload_n 3, 1) := by decide +kernel
theorem dX0_fuelByRounds_42 : decode cX0_fuelByRounds 42 = .ok (.invokevirtual 83, 3) := by decide +kernel
theorem dX0_fuelByRounds_45 : decode cX0_fuelByRounds 45 = .ok (.iconst (-1), 1) := by decide +kernel
theorem dX0_fuelByRounds_46 : decode cX0_fuelByRounds 46 = .ok (.if_icmp .eq 13, 3) := by decide +kernel
theorem dX0_fuelByRounds_49 : decode cX0_fuelByRounds 49 = .ok (.aload_n 0, 1) := by decide +kernel
theorem dX0_fuelByRounds_50 : decode cX0_fuelByRounds 50 = .ok (.iload_n 3, 1) := by decide +kernel
theorem dX0_fuelByRounds_51 : decode cX0_fuelByRounds 51 = .ok (.invokevirtual 139, 3) := by decide +kernel
theorem dX0_fuelByRounds_54 : decode cX0_fuelByRounds 54 = .ok (.ifCond .eq 5, 3) := by decide +kernel
theorem dX0_fuelByRounds_57 : decode cX0_fuelByRounds 57 = .ok (.iconst 1, 1) := by decide +kernel
theorem dX0_fuelByRounds_58 : decode cX0_fuelByRounds 58 = .ok (.istore_n 1, 1) := by decide +kernel
theorem dX0_fuelByRounds_59 : decode cX0_fuelByRounds 59 = .ok (.iinc 3 1, 3) := by decide +kernel
theorem dX0_fuelByRounds_62 : decode cX0_fuelByRounds 62 = .ok (.goto (-30), 3) := by decide +kernel
theorem dX0_fuelByRounds_65 : decode cX0_fuelByRounds 65 = .ok (.iinc 2 1, 3) := by decide +kernel
theorem dX0_fuelByRounds_68 : decode cX0_fuelByRounds 68 = .ok (.goto (-51), 3) := by decide +kernel
theorem dX0_fuelByRounds_71 : decode cX0_fuelByRounds 71 = .ok (.aload_n 0, 1) := by decide +kernel
theorem dX0_fuelByRounds_72 : decode cX0_fuelByRounds 72 = .ok (.invokevirtual 103, 3) := by decide +kernel
theorem dX0_fuelByRounds_75 : decode cX0_fuelByRounds 75 = .ok (.ireturn, 1) := by decide +kernel
theorem dX0_hasCheapenedAround_0 : decode cX0_hasCheapenedAround 0 = .ok (.iconst 0, 1) := by decide +kernel
theorem dX0_hasCheapenedAround_1 : decode cX0_hasCheapenedAround 1 = .ok (.istore_n 2, 1) := by decide +kernel
theorem dX0_hasCheapenedAround_2 : decode cX0_hasCheapenedAround 2 = .ok (.iconst 0, 1) := by decide +kernel
theorem dX0_hasCheapenedAround_3 : decode cX0_hasCheapenedAround 3 = .ok (.istore_n 3, 1) := by decide +kernel
theorem dX0_hasCheapenedAround_4 : decode cX0_hasCheapenedAround 4 = .ok (.iload_n 3, 1) := by decide +kernel
theorem dX0_hasCheapenedAround_5 : decode cX0_hasCheapenedAround 5 = .ok (.aload_n 0, 1) := by decide +kernel
theorem dX0_hasCheapenedAround_6 : decode cX0_hasCheapenedAround 6 = .ok (.getfield 39, 3) := by decide +kernel
theorem dX0_hasCheapenedAround_9 : decode cX0_hasCheapenedAround 9 = .ok (.if_icmp .ge 76, 3) := by decide +kernel
theorem dX0_hasCheapenedAround_12 : decode cX0_hasCheapenedAround 12 = .ok (.iload_n 3, 1) := by decide +kernel
theorem dX0_hasCheapenedAround_13 : decode cX0_hasCheapenedAround 13 = .ok (.bipush 6, 2) := by decide +kernel
theorem dX0_hasCheapenedAround_15 : decode cX0_hasCheapenedAround 15 = .ok (.if_icmp .ge 70, 3) := by decide +kernel
theorem dX0_hasCheapenedAround_18 : decode cX0_hasCheapenedAround 18 = .ok (.aload_n 0, 1) := by decide +kernel
theorem dX0_hasCheapenedAround_19 : decode cX0_hasCheapenedAround 19 = .ok (.iload_n 1, 1) := by decide +kernel
theorem dX0_hasCheapenedAround_20 : decode cX0_hasCheapenedAround 20 = .ok (.invokevirtual 83, 3) := by decide +kernel
theorem dX0_hasCheapenedAround_23 : decode cX0_hasCheapenedAround 23 = .ok (.aload_n 0, 1) := by decide +kernel
theorem dX0_hasCheapenedAround_24 : decode cX0_hasCheapenedAround 24 = .ok (.getfield 11, 3) := by decide +kernel
theorem dX0_hasCheapenedAround_27 : decode cX0_hasCheapenedAround 27 = .ok (.iload_n 3, 1) := by decide +kernel
theorem dX0_hasCheapenedAround_28 : decode cX0_hasCheapenedAround 28 = .ok (.iaload, 1) := by decide +kernel
theorem dX0_hasCheapenedAround_29 : decode cX0_hasCheapenedAround 29 = .ok (.iadd, 1) := by decide +kernel
theorem dX0_hasCheapenedAround_30 : decode cX0_hasCheapenedAround 30 = .ok (.istore 4, 2) := by decide +kernel
theorem dX0_hasCheapenedAround_32 : decode cX0_hasCheapenedAround 32 = .ok (.iconst (-1), 1) := by decide +kernel
theorem dX0_hasCheapenedAround_33 : decode cX0_hasCheapenedAround 33 = .ok (.istore 5, 2) := by decide +kernel
theorem dX0_hasCheapenedAround_35 : decode cX0_hasCheapenedAround 35 = .ok (.iload 5, 2) := by decide +kernel
theorem dX0_hasCheapenedAround_37 : decode cX0_hasCheapenedAround 37 = .ok (.iconst 1, 1) := by decide +kernel
theorem dX0_hasCheapenedAround_38 : decode cX0_hasCheapenedAround 38 = .ok (.if_icmp .gt 41, 3) := by decide +kernel
theorem dX0_hasCheapenedAround_41 : decode cX0_hasCheapenedAround 41 = .ok (.aload_n 0, 1) := by decide +kernel
theorem dX0_hasCheapenedAround_42 : decode cX0_hasCheapenedAround 42 = .ok (.iload_n 1, 1) := by decide +kernel
theorem dX0_hasCheapenedAround_43 : decode cX0_hasCheapenedAround 43 = .ok (.iload_n 3, 1) := by decide +kernel
theorem dX0_hasCheapenedAround_44 : decode cX0_hasCheapenedAround 44 = .ok (.iload 5, 2) := by decide +kernel
theorem dX0_hasCheapenedAround_46 : decode cX0_hasCheapenedAround 46 = .ok (.invokevirtual 77, 3) := by decide +kernel
theorem dX0_hasCheapenedAround_49 : decode cX0_hasCheapenedAround 49 = .ok (.istore 6, 2) := by decide +kernel
theorem dX0_hasCheapenedAround_51 : decode cX0_hasCheapenedAround 51 = .ok (.aload_n 0, 1) := by decide +kernel
theorem dX0_hasCheapenedAround_52 : decode cX0_hasCheapenedAround 52 = .ok (.iload 6, 2) := by decide +kernel
theorem dX0_hasCheapenedAround_54 : decode cX0_hasCheapenedAround 54 = .ok (.iload 4, 2) := by decide +kernel
theorem dX0_hasCheapenedAround_56 : decode cX0_hasCheapenedAround 56 = .ok (.invokevirtual 135, 3) := by decide +kernel
theorem dX0_hasCheapenedAround_59 : decode cX0_hasCheapenedAround 59 = .ok (.ifCond .eq 14, 3) := by decide +kernel
theorem dX0_hasCheapenedAround_62 : decode cX0_hasCheapenedAround 62 = .ok (.aload_n 0, 1) := by decide +kernel
theorem dX0_hasCheapenedAround_63 : decode cX0_hasCheapenedAround 63 = .ok (.getfield 18, 3) := by decide +kernel
theorem dX0_hasCheapenedAround_66 : decode cX0_hasCheapenedAround 66 = .ok (.iload 6, 2) := by decide +kernel
theorem dX0_hasCheapenedAround_68 : decode cX0_hasCheapenedAround 68 = .ok (.iload 4, 2) := by decide +kernel
theorem dX0_hasCheapenedAround_70 : decode cX0_hasCheapenedAround 70 = .ok (.iastore, 1) := by decide +kernel
theorem dX0_hasCheapenedAround_71 : decode cX0_hasCheapenedAround 71 = .ok (.iconst 1, 1) := by decide +kernel
theorem dX0_hasCheapenedAround_72 : decode cX0_hasCheapenedAround 72 = .ok (.istore_n 2, 1) := by decide +kernel
theorem dX0_hasCheapenedAround_73 : decode cX0_hasCheapenedAround 73 = .ok (.iinc 5 2, 3) := by decide +kernel
theorem dX0_hasCheapenedAround_76 : decode cX0_hasCheapenedAround 76 = .ok (.goto (-41), 3) := by decide +kernel
theorem dX0_hasCheapenedAround_79 : decode cX0_hasCheapenedAround 79 = .ok (.iinc 3 1, 3) := by decide +kernel
theorem dX0_hasCheapenedAround_82 : decode cX0_hasCheapenedAround 82 = .ok (.goto (-78), 3) := by decide +kernel
theorem dX0_hasCheapenedAround_85 : decode cX0_hasCheapenedAround 85 = .ok (.iload_n 2, 1) := by decide +kernel
theorem dX0_hasCheapenedAround_86 : decode cX0_hasCheapenedAround 86 = .ok (.ireturn, 1) := by decide +kernel
theorem dX1_init_0 : decode cX1_init 0 = .ok (.aload_n 0, 1) := by decide +kernel
theorem dX1_init_1 : decode cX1_init 1 = .ok (.invokespecial 3, 3) := by decide +kernel
theorem dX1_init_4 : decode cX1_init 4 = .ok (.aload_n 0, 1) := by decide +kernel
theorem dX1_init_5 : decode cX1_init 5 = .ok (.bipush 6, 2) := by decide +kernel
theorem dX1_init_7 : decode cX1_init 7 = .ok (.newarray .int, 2) := by decide +kernel
theorem dX1_init_9 : decode cX1_init 9 = .ok (.putfield 9, 3) := by decide +kernel
theorem dX1_init_12 : decode cX1_init 12 = .ok (.aload_n 0, 1) := by decide +kernel
theorem dX1_init_13 : decode cX1_init 13 = .ok (.bipush 6, 2) := by decide +kernel
theorem dX1_init_15 : decode cX1_init 15 = .ok (.newarray .int, 2) := by decide +kernel
theorem dX1_init_17 : decode cX1_init 17 = .ok (.putfield 15, 3) := by decide +kernel
theorem dX1_init_20 : decode cX1_init 20 = .ok (.aload_n 0, 1) := by decide +kernel
theorem dX1_init_21 : decode cX1_init 21 = .ok (.bipush 6, 2) := by decide +kernel
theorem dX1_init_23 : decode cX1_init 23 = .ok (.newarray .int, 2) := by decide +kernel
theorem dX1_init_25 : decode cX1_init 25 = .ok (.putfield 18, 3) := by decide +kernel
theorem dX1_init_28 : decode cX1_init 28 = .ok (.aload_n 0, 1) := by decide +kernel
theorem dX1_init_29 : decode cX1_init 29 = .ok (.bipush 60, 2) := by decide +kernel
theorem dX1_init_31 : decode cX1_init 31 = .ok (.newarray .int, 2) := by decide +kernel
theorem dX1_init_33 : decode cX1_init 33 = .ok (.putfield 21, 3) := by decide +kernel
theorem dX1_init_36 : decode cX1_init 36 = .ok (.aload_n 0, 1) := by decide +kernel
theorem dX1_init_37 : decode cX1_init 37 = .ok (.bipush 60, 2) := by decide +kernel
theorem dX1_init_39 : decode cX1_init 39 = .ok (.newarray .int, 2) := by decide +kernel
theorem dX1_init_41 : decode cX1_init 41 = .ok (.putfield 24, 3) := by decide +kernel
theorem dX1_init_44 : decode cX1_init 44 = .ok (.return_, 1) := by decide +kernel
theorem dX1_become_0 : decode cX1_become 0 = .ok (.aload_n 1, 1) := by decide +kernel
theorem dX1_become_1 : decode cX1_become 1 = .ok (.getfield 9, 3) := by decide +kernel
theorem dX1_become_4 : decode cX1_become 4 = .ok (.iconst 0, 1) := by decide +kernel
theorem dX1_become_5 : decode cX1_become 5 = .ok (.aload_n 0, 1) := by decide +kernel
theorem dX1_become_6 : decode cX1_become 6 = .ok (.getfield 9, 3) := by decide +kernel
theorem dX1_become_9 : decode cX1_become 9 = .ok (.iconst 0, 1) := by decide +kernel
theorem dX1_become_10 : decode cX1_become 10 = .ok (.bipush 6, 2) := by decide +kernel
theorem dX1_become_12 : decode cX1_become 12 = .ok (.invokestatic 27, 3) := by decide +kernel
theorem dX1_become_15 : decode cX1_become 15 = .ok (.aload_n 1, 1) := by decide +kernel
theorem dX1_become_16 : decode cX1_become 16 = .ok (.getfield 15, 3) := by decide +kernel
theorem dX1_become_19 : decode cX1_become 19 = .ok (.iconst 0, 1) := by decide +kernel
theorem dX1_become_20 : decode cX1_become 20 = .ok (.aload_n 0, 1) := by decide +kernel
theorem dX1_become_21 : decode cX1_become 21 = .ok (.getfield 15, 3) := by decide +kernel
theorem dX1_become_24 : decode cX1_become 24 = .ok (.iconst 0, 1) := by decide +kernel
theorem dX1_become_25 : decode cX1_become 25 = .ok (.bipush 6, 2) := by decide +kernel
theorem dX1_become_27 : decode cX1_become 27 = .ok (.invokestatic 27, 3) := by decide +kernel
theorem dX1_become_30 : decode cX1_become 30 = .ok (.aload_n 1, 1) := by decide +kernel
theorem dX1_become_31 : decode cX1_become 31 = .ok (.getfield 18, 3) := by decide +kernel
theorem dX1_become_34 : decode cX1_become 34 = .ok (.iconst 0, 1) := by decide +kernel
theorem dX1_become_35 : decode cX1_become 35 = .ok (.aload_n 0, 1) := by decide +kernel
theorem dX1_become_36 : decode cX1_become 36 = .ok (.getfield 18, 3) := by decide +kernel
theorem dX1_become_39 : decode cX1_become 39 = .ok (.iconst 0, 1) := by decide +kernel
theorem dX1_become_40 : decode cX1_become 40 = .ok (.bipush 6, 2) := by decide +kernel
theorem dX1_become_42 : decode cX1_become 42 = .ok (.invokestatic 27, 3) := by decide +kernel
theorem dX1_become_45 : decode cX1_become 45 = .ok (.aload_n 1, 1) := by decide +kernel
theorem dX1_become_46 : decode cX1_become 46 = .ok (.getfield 21, 3) := by decide +kernel
theorem dX1_become_49 : decode cX1_become 49 = .ok (.iconst 0, 1) := by decide +kernel
theorem dX1_become_50 : decode cX1_become 50 = .ok (.aload_n 0, 1) := by decide +kernel
theorem dX1_become_51 : decode cX1_become 51 = .ok (.getfield 21, 3) := by decide +kernel
theorem dX1_become_54 : decode cX1_become 54 = .ok (.iconst 0, 1) := by decide +kernel
theorem dX1_become_55 : decode cX1_become 55 = .ok (.bipush 60, 2) := by decide +kernel
theorem dX1_become_57 : decode cX1_become 57 = .ok (.invokestatic 27, 3) := by decide +kernel
theorem dX1_become_60 : decode cX1_become 60 = .ok (.aload_n 1, 1) := by decide +kernel
theorem dX1_become_61 : decode cX1_become 61 = .ok (.getfield 24, 3) := by decide +kernel
theorem dX1_become_64 : decode cX1_become 64 = .ok (.iconst 0, 1) := by decide +kernel
theorem dX1_become_65 : decode cX1_become 65 = .ok (.aload_n 0, 1) := by decide +kernel
theorem dX1_become_66 : decode cX1_become 66 = .ok (.getfield 24, 3) := by decide +kernel
theorem dX1_become_69 : decode cX1_become 69 = .ok (.iconst 0, 1) := by decide +kernel
theorem dX1_become_70 : decode cX1_become 70 = .ok (.bipush 60, 2) := by decide +kernel
theorem dX1_become_72 : decode cX1_become 72 = .ok (.invokestatic 27, 3) := by decide +kernel
theorem dX1_become_75 : decode cX1_become 75 = .ok (.aload_n 0, 1) := by decide +kernel
theorem dX1_become_76 : decode cX1_become 76 = .ok (.aload_n 1, 1) := by decide +kernel
theorem dX1_become_77 : decode cX1_become 77 = .ok (.getfield 33, 3) := by decide +kernel
theorem dX1_become_80 : decode cX1_become 80 = .ok (.putfield 33, 3) := by decide +kernel
theorem dX1_become_83 : decode cX1_become 83 = .ok (.aload_n 0, 1) := by decide +kernel
theorem dX1_become_84 : decode cX1_become 84 = .ok (.aload_n 1, 1) := by decide +kernel
theorem dX1_become_85 : decode cX1_become 85 = .ok (.getfield 37, 3) := by decide +kernel
theorem dX1_become_88 : decode cX1_become 88 = .ok (.putfield 37, 3) := by decide +kernel
theorem dX1_become_91 : decode cX1_become 91 = .ok (.aload_n 0, 1) := by decide +kernel
theorem dX1_become_92 : decode cX1_become 92 = .ok (.aload_n 1, 1) := by decide +kernel
theorem dX1_become_93 : decode cX1_become 93 = .ok (.getfield 40, 3) := by decide +kernel
theorem dX1_become_96 : decode cX1_become 96 = .ok (.putfield 40, 3) := by decide +kernel
theorem dX1_become_99 : decode cX1_become 99 = .ok (.aload_n 0, 1) := by decide +kernel
theorem dX1_become_100 : decode cX1_become 100 = .ok (.aload_n 1, 1) := by decide +kernel
theorem dX1_become_101 : decode cX1_become 101 = .ok (.getfield 43, 3) := by decide +kernel
theorem dX1_become_104 : decode cX1_become 104 = .ok (.putfield 43, 3) := by decide +kernel
theorem dX1_become_107 : decode cX1_become 107 = .ok (.aload_n 0, 1) := by decide +kernel
theorem dX1_become_108 : decode cX1_become 108 = .ok (.aload_n 1, 1) := by decide +kernel
theorem dX1_become_109 : decode cX1_become 109 = .ok (.getfield 47, 3) := by decide +kernel
theorem dX1_become_112 : decode cX1_become 112 = .ok (.putfield 47, 3) := by decide +kernel
theorem dX1_become_115 : decode cX1_become 115 = .ok (.return_, 1) := by decide +kernel
theorem dX1_hasCar_0 : decode cX1_hasCar 0 = .ok (.iload_n 1, 1) := by decide +kernel
theorem dX1_hasCar_1 : decode cX1_hasCar 1 = .ok (.ifCond .lt 21, 3) := by decide +kernel
theorem dX1_hasCar_4 : decode cX1_hasCar 4 = .ok (.iload_n 1, 1) := by decide +kernel
theorem dX1_hasCar_5 : decode cX1_hasCar 5 = .ok (.aload_n 0, 1) := by decide +kernel
theorem dX1_hasCar_6 : decode cX1_hasCar 6 = .ok (.getfield 33, 3) := by decide +kernel
theorem dX1_hasCar_9 : decode cX1_hasCar 9 = .ok (.if_icmp .ge 13, 3) := by decide +kernel
theorem dX1_hasCar_12 : decode cX1_hasCar 12 = .ok (.iload_n 1, 1) := by decide +kernel
theorem dX1_hasCar_13 : decode cX1_hasCar 13 = .ok (.bipush 6, 2) := by decide +kernel
theorem dX1_hasCar_15 : decode cX1_hasCar 15 = .ok (.if_icmp .ge 7, 3) := by decide +kernel
theorem dX1_hasCar_18 : decode cX1_hasCar 18 = .ok (.iconst 1, 1) := by decide +kernel
theorem dX1_hasCar_19 : decode cX1_hasCar 19 = .ok (.goto 4, 3) := by decide +kernel
theorem dX1_hasCar_22 : decode cX1_hasCar 22 = .ok (.iconst 0, 1) := by decide +kernel
theorem dX1_hasCar_23 : decode cX1_hasCar 23 = .ok (.ireturn, 1) := by decide +kernel
theorem dX1_hasSlide_0 : decode cX1_hasSlide 0 = .ok (.iload_n 1, 1) := by decide +kernel
theorem dX1_hasSlide_1 : decode cX1_hasSlide 1 = .ok (.ifCond .lt 21, 3) := by decide +kernel
theorem dX1_hasSlide_4 : decode cX1_hasSlide 4 = .ok (.iload_n 1, 1) := by decide +kernel
theorem dX1_hasSlide_5 : decode cX1_hasSlide 5 = .ok (.aload_n 0, 1) := by decide +kernel
theorem dX1_hasSlide_6 : decode cX1_hasSlide 6 = .ok (.getfield 40, 3) := by decide +kernel
theorem dX1_hasSlide_9 : decode cX1_hasSlide 9 = .ok (.if_icmp .ge 13, 3) := by decide +kernel
theorem dX1_hasSlide_12 : decode cX1_hasSlide 12 = .ok (.iload_n 1, 1) := by decide +kernel
theorem dX1_hasSlide_13 : decode cX1_hasSlide 13 = .ok (.bipush 60, 2) := by decide +kernel
theorem dX1_hasSlide_15 : decode cX1_hasSlide 15 = .ok (.if_icmp .ge 7, 3) := by decide +kernel
theorem dX1_hasSlide_18 : decode cX1_hasSlide 18 = .ok (.iconst 1, 1) := by decide +kernel
theorem dX1_hasSlide_19 : decode cX1_hasSlide 19 = .ok (.goto 4, 3) := by decide +kernel
theorem dX1_hasSlide_22 : decode cX1_hasSlide 22 = .ok (.iconst 0, 1) := by decide +kernel
theorem dX1_hasSlide_23 : decode cX1_hasSlide 23 = .ok (.ireturn, 1) := by decide +kernel
theorem dX1_hasWallAt_0 : decode cX1_hasWallAt 0 = .ok (.aload_n 0, 1) := by decide +kernel
theorem dX1_hasWallAt_1 : decode cX1_hasWallAt 1 = .ok (.getfield 37, 3) := by decide +kernel
theorem dX1_hasWallAt_4 : decode cX1_hasWallAt 4 = .ok (.iconst 1, 1) := by decide +kernel
theorem dX1_hasWallAt_5 : decode cX1_hasWallAt 5 = .ok (.iload_n 1, 1) := by decide +kernel
theorem dX1_hasWallAt_6 : decode cX1_hasWallAt 6 = .ok (.ishl, 1) := by decide +kernel
theorem dX1_hasWallAt_7 : decode cX1_hasWallAt 7 = .ok (.iand, 1) := by decide +kernel
theorem dX1_hasWallAt_8 : decode cX1_hasWallAt 8 = .ok (.ifCond .eq 7, 3) := by decide +kernel
theorem dX1_hasWallAt_11 : decode cX1_hasWallAt 11 = .ok (.iconst 1, 1) := by decide +kernel
theorem dX1_hasWallAt_12 : decode cX1_hasWallAt 12 = .ok (.goto 4, 3) := by decide +kernel
theorem dX1_hasWallAt_15 : decode cX1_hasWallAt 15 = .ok (.iconst 0, 1) := by decide +kernel
theorem dX1_hasWallAt_16 : decode cX1_hasWallAt 16 = .ok (.ireturn, 1) := by decide +kernel
theorem dX1_carAt_0 : decode cX1_carAt 0 = .ok (.iconst 0, 1) := by decide +kernel
theorem dX1_carAt_1 : decode cX1_carAt 1 = .ok (.istore_n 2, 1) := by decide +kernel
theorem dX1_carAt_2 : decode cX1_carAt 2 = .ok (.iload_n 2, 1) := by decide +kernel
theorem dX1_carAt_3 : decode cX1_carAt 3 = .ok (.aload_n 0, 1) := by decide +kernel
theorem dX1_carAt_4 : decode cX1_carAt 4 = .ok (.getfield 33, 3) := by decide +kernel
theorem dX1_carAt_7 : decode cX1_carAt 7 = .ok (.if_icmp .ge 45, 3) := by decide +kernel
theorem dX1_carAt_10 : decode cX1_carAt 10 = .ok (.iload_n 2, 1) := by decide +kernel
theorem dX1_carAt_11 : decode cX1_carAt 11 = .ok (.bipush 6, 2) := by decide +kernel
theorem dX1_carAt_13 : decode cX1_carAt 13 = .ok (.if_icmp .ge 39, 3) := by decide +kernel
theorem dX1_carAt_16 : decode cX1_carAt 16 = .ok (.aload_n 0, 1) := by decide +kernel
theorem dX1_carAt_17 : decode cX1_carAt 17 = .ok (.getfield 9, 3) := by decide +kernel
theorem dX1_carAt_20 : decode cX1_carAt 20 = .ok (.iload_n 2, 1) := by decide +kernel
theorem dX1_carAt_21 : decode cX1_carAt 21 = .ok (.iaload, 1) := by decide +kernel
theorem dX1_carAt_22 : decode cX1_carAt 22 = .ok (.aload_n 0, 1) := by decide +kernel
theorem dX1_carAt_23 : decode cX1_carAt 23 = .ok (.getfield 15, 3) := by decide +kernel
theorem dX1_carAt_26 : decode cX1_carAt 26 = .ok (.iload_n 2, 1) := by decide +kernel
theorem dX1_carAt_27 : decode cX1_carAt 27 = .ok (.iaload, 1) := by decide +kernel
theorem dX1_carAt_28 : decode cX1_carAt 28 = .ok (.aload_n 0, 1) := by decide +kernel
theorem dX1_carAt_29 : decode cX1_carAt 29 = .ok (.getfield 18, 3) := by decide +kernel
theorem dX1_carAt_32 : decode cX1_carAt 32 = .ok (.iload_n 2, 1) := by decide +kernel
theorem dX1_carAt_33 : decode cX1_carAt 33 = .ok (.iaload, 1) := by decide +kernel
theorem dX1_carAt_34 : decode cX1_carAt 34 = .ok (.invokestatic 50, 3) := by decide +kernel
theorem dX1_carAt_37 : decode cX1_carAt 37 = .ok (.iconst 1, 1) := by decide +kernel
theorem dX1_carAt_38 : decode cX1_carAt 38 = .ok (.iload_n 1, 1) := by decide +kernel
theorem dX1_carAt_39 : decode cX1_carAt 39 = .ok (.ishl, 1) := by decide +kernel
theorem dX1_carAt_40 : decode cX1_carAt 40 = .ok (.iand, 1) := by decide +kernel
theorem dX1_carAt_41 : decode cX1_carAt 41 = .ok (.ifCond .eq 5, 3) := by decide +kernel
theorem dX1_carAt_44 : decode cX1_carAt 44 = .ok (.iload_n 2, 1) := by decide +kernel
theorem dX1_carAt_45 : decode cX1_carAt 45 = .ok (.ireturn, 1) := by decide +kernel
theorem dX1_carAt_46 : decode cX1_carAt 46 = .ok (.iinc 2 1, 3) := by decide +kernel
theorem dX1_carAt_49 : decode cX1_carAt 49 = .ok (.goto (-47), 3) := by decide +kernel
theorem dX1_carAt_52 : decode cX1_carAt 52 = .ok (.iconst (-1), 1) := by decide +kernel
theorem dX1_carAt_53 : decode cX1_carAt 53 = .ok (.ireturn, 1) := by decide +kernel
theorem dX1_takenCells_0 : decode cX1_takenCells 0 = .ok (.aload_n 0, 1) := by decide +kernel
theorem dX1_takenCells_1 : decode cX1_takenCells 1 = .ok (.getfield 37, 3) := by decide +kernel
theorem dX1_takenCells_4 : decode cX1_takenCells 4 = .ok (.istore_n 1, 1) := by decide +kernel
theorem dX1_takenCells_5 : decode cX1_takenCells 5 = .ok (.iconst 0, 1) := by decide +kernel
theorem dX1_takenCells_6 : decode cX1_takenCells 6 = .ok (.istore_n 2, 1) := by decide +kernel
theorem dX1_takenCells_7 : decode cX1_takenCells 7 = .ok (.iload_n 2, 1) := by decide +kernel
theorem dX1_takenCells_8 : decode cX1_takenCells 8 = .ok (.aload_n 0, 1) := by decide +kernel
theorem dX1_takenCells_9 : decode cX1_takenCells 9 = .ok (.getfield 33, 3) := by decide +kernel
theorem dX1_takenCells_12 : decode cX1_takenCells 12 = .ok (.if_icmp .ge 39, 3) := by decide +kernel
theorem dX1_takenCells_15 : decode cX1_takenCells 15 = .ok (.iload_n 2, 1) := by decide +kernel
theorem dX1_takenCells_16 : decode cX1_takenCells 16 = .ok (.bipush 6, 2) := by decide +kernel
theorem dX1_takenCells_18 : decode cX1_takenCells 18 = .ok (.if_icmp .ge 33, 3) := by decide +kernel
theorem dX1_takenCells_21 : decode cX1_takenCells 21 = .ok (.iload_n 1, 1) := by decide +kernel
theorem dX1_takenCells_22 : decode cX1_takenCells 22 = .ok (.aload_n 0, 1) := by decide +kernel
theorem dX1_takenCells_23 : decode cX1_takenCells 23 = .ok (.getfield 9, 3) := by decide +kernel
theorem dX1_takenCells_26 : decode cX1_takenCells 26 = .ok (.iload_n 2, 1) := by decide +kernel
theorem dX1_takenCells_27 : decode cX1_takenCells 27 = .ok (.iaload, 1) := by decide +kernel
theorem dX1_takenCells_28 : decode cX1_takenCells 28 = .ok (.aload_n 0, 1) := by decide +kernel
theorem dX1_takenCells_29 : decode cX1_takenCells 29 = .ok (.getfield 15, 3) := by decide +kernel
theorem dX1_takenCells_32 : decode cX1_takenCells 32 = .ok (.iload_n 2, 1) := by decide +kernel
theorem dX1_takenCells_33 : decode cX1_takenCells 33 = .ok (.iaload, 1) := by decide +kernel
theorem dX1_takenCells_34 : decode cX1_takenCells 34 = .ok (.aload_n 0, 1) := by decide +kernel
theorem dX1_takenCells_35 : decode cX1_takenCells 35 = .ok (.getfield 18, 3) := by decide +kernel
theorem dX1_takenCells_38 : decode cX1_takenCells 38 = .ok (.iload_n 2, 1) := by decide +kernel
theorem dX1_takenCells_39 : decode cX1_takenCells 39 = .ok (.iaload, 1) := by decide +kernel
theorem dX1_takenCells_40 : decode cX1_takenCells 40 = .ok (.invokestatic 50, 3) := by decide +kernel
theorem dX1_takenCells_43 : decode cX1_takenCells 43 = .ok (.ior, 1) := by decide +kernel
theorem dX1_takenCells_44 : decode cX1_takenCells 44 = .ok (.istore_n 1, 1) := by decide +kernel
theorem dX1_takenCells_45 : decode cX1_takenCells 45 = .ok (.iinc 2 1, 3) := by decide +kernel
theorem dX1_takenCells_48 : decode cX1_takenCells 48 = .ok (.goto (-41), 3) := by decide +kernel
theorem dX1_takenCells_51 : decode cX1_takenCells 51 = .ok (.iload_n 1, 1) := by decide +kernel
theorem dX1_takenCells_52 : decode cX1_takenCells 52 = .ok (.ireturn, 1) := by decide +kernel
theorem dX1_isRedOut_0 : decode cX1_isRedOut 0 = .ok (.aload_n 0, 1) := by decide +kernel
theorem dX1_isRedOut_1 : decode cX1_isRedOut 1 = .ok (.getfield 33, 3) := by decide +kernel
theorem dX1_isRedOut_4 : decode cX1_isRedOut 4 = .ok (.ifCond .le 24, 3) := by decide +kernel
theorem dX1_isRedOut_7 : decode cX1_isRedOut 7 = .ok (.aload_n 0, 1) := by decide +kernel
theorem dX1_isRedOut_8 : decode cX1_isRedOut 8 = .ok (.getfield 15, 3) := by decide +kernel
theorem dX1_isRedOut_11 : decode cX1_isRedOut 11 = .ok (.iconst 0, 1) := by decide +kernel
theorem dX1_isRedOut_12 : decode cX1_isRedOut 12 = .ok (.iaload, 1) := by decide +kernel
theorem dX1_isRedOut_13 : decode cX1_isRedOut 13 = .ok (.aload_n 0, 1) := by decide +kernel
theorem dX1_isRedOut_14 : decode cX1_isRedOut 14 = .ok (.getfield 18, 3) := by decide +kernel
theorem dX1_isRedOut_17 : decode cX1_isRedOut 17 = .ok (.iconst 0, 1) := by decide +kernel
theorem dX1_isRedOut_18 : decode cX1_isRedOut 18 = .ok (.iaload, 1) := by decide +kernel
theorem dX1_isRedOut_19 : decode cX1_isRedOut 19 = .ok (.iadd, 1) := by decide +kernel
theorem dX1_isRedOut_20 : decode cX1_isRedOut 20 = .ok (.iconst 5, 1) := by decide +kernel
theorem dX1_isRedOut_21 : decode cX1_isRedOut 21 = .ok (.if_icmp .ne 7, 3) := by decide +kernel
theorem dX1_isRedOut_24 : decode cX1_isRedOut 24 = .ok (.iconst 1, 1) := by decide +kernel
theorem dX1_isRedOut_25 : decode cX1_isRedOut 25 = .ok (.goto 4, 3) := by decide +kernel
theorem dX1_isRedOut_28 : decode cX1_isRedOut 28 = .ok (.iconst 0, 1) := by decide +kernel
theorem dX1_isRedOut_29 : decode cX1_isRedOut 29 = .ok (.ireturn, 1) := by decide +kernel
theorem dX1_roomOf_0 : decode cX1_roomOf 0 = .ok (.aload_n 0, 1) := by decide +kernel
theorem dX1_roomOf_1 : decode cX1_roomOf 1 = .ok (.iload_n 1, 1) := by decide +kernel
theorem dX1_roomOf_2 : decode cX1_roomOf 2 = .ok (.invokevirtual 54, 3) := by decide +kernel
theorem dX1_roomOf_5 : decode cX1_roomOf 5 = .ok (.ifCond .ne 5, 3) := by decide +kernel
theorem dX1_roomOf_8 : decode cX1_roomOf 8 = .ok (.iconst 0, 1) := by decide +kernel
theorem dX1_roomOf_9 : decode cX1_roomOf 9 = .ok (.ireturn, 1) := by decide +kernel
theorem dX1_roomOf_10 : decode cX1_roomOf 10 = .ok (.aload_n 0, 1) := by decide +kernel
theorem dX1_roomOf_11 : decode cX1_roomOf 11 = .ok (.invokevirtual 58, 3) := by decide +kernel
theorem dX1_roomOf_14 : decode cX1_roomOf 14 = .ok (.istore_n 3, 1) := by decide +kernel
theorem dX1_roomOf_15 : decode cX1_roomOf 15 = .ok (.iload_n 2, 1) := by decide +kernel
theorem dX1_roomOf_16 : decode cX1_roomOf 16 = .ok (.ifCond .le 19, 3) := by decide +kernel
theorem dX1_roomOf_19 : decode cX1_roomOf 19 = .ok (.aload_n 0, 1) := by decide +kernel
theorem dX1_roomOf_20 : decode cX1_roomOf 20 = .ok (.getfield 15, 3) := by decide +kernel
theorem dX1_roomOf_23 : decode cX1_roomOf 23 = .ok (.iload_n 1, 1) := by decide +kernel
theorem dX1_roomOf_24 : decode cX1_roomOf 24 = .ok (.iaload, 1) := by decide +kernel
theorem dX1_roomOf_25 : decode cX1_roomOf 25 = .ok (.aload_n 0, 1) := by decide +kernel
theorem dX1_roomOf_26 : decode cX1_roomOf 26 = .ok (.getfield 18, 3) := by decide +kernel
theorem dX1_roomOf_29 : decode cX1_roomOf 29 = .ok (.iload_n 1, 1) := by decide +kernel
theorem dX1_roomOf_30 : decode cX1_roomOf 30 = .ok (.iaload, 1) := by decide +kernel
theorem dX1_roomOf_31 : decode cX1_roomOf 31 = .ok (.iadd, 1) := by decide +kernel
theorem dX1_roomOf_32 : decode cX1_roomOf 32 = .ok (.goto 11, 3) := by decide +kernel
theorem dX1_roomOf_35 : decode cX1_roomOf 35 = .ok (.aload_n 0, 1) := by decide +kernel
theorem dX1_roomOf_36 : decode cX1_roomOf 36 = .ok (.getfield 15, 3) := by decide +kernel
theorem dX1_roomOf_39 : decode cX1_roomOf 39 = .ok (.iload_n 1, 1) := by decide +kernel
theorem dX1_roomOf_40 : decode cX1_roomOf 40 = .ok (.iaload, 1) := by decide +kernel
theorem dX1_roomOf_41 : decode cX1_roomOf 41 = .ok (.iconst 1, 1) := by decide +kernel
theorem dX1_roomOf_42 : decode cX1_roomOf 42 = .ok (.isub, 1) := by decide +kernel
theorem dX1_roomOf_43 : decode cX1_roomOf 43 = .ok (.istore 4, 2) := by decide +kernel
theorem dX1_roomOf_45 : decode cX1_roomOf 45 = .ok (.iconst 0, 1) := by decide +kernel
theorem dX1_roomOf_46 : decode cX1_roomOf 46 = .ok (.istore 5, 2) := by decide +kernel
theorem dX1_roomOf_48 : decode cX1_roomOf 48 = .ok (.iload 5, 2) := by decide +kernel
theorem dX1_roomOf_50 : decode cX1_roomOf 50 = .ok (.iconst 3, 1) := by decide +kernel
theorem dX1_roomOf_51 : decode cX1_roomOf 51 = .ok (.if_icmp .ge 42, 3) := by decide +kernel
theorem dX1_roomOf_54 : decode cX1_roomOf 54 = .ok (.iload 4, 2) := by decide +kernel
theorem dX1_roomOf_56 : decode cX1_roomOf 56 = .ok (.ifCond .lt 37, 3) := by decide +kernel
theorem dX1_roomOf_59 : decode cX1_roomOf 59 = .ok (.iload 4, 2) := by decide +kernel
theorem dX1_roomOf_61 : decode cX1_roomOf 61 = .ok (.iconst 5, 1) := by decide +kernel
theorem dX1_roomOf_62 : decode cX1_roomOf 62 = .ok (.if_icmp .ge 31, 3) := by decide +kernel
theorem dX1_roomOf_65 : decode cX1_roomOf 65 = .ok (.iload_n 3, 1) := by decide +kernel
theorem dX1_roomOf_66 : decode cX1_roomOf 66 = .ok (.aload_n 0, 1) := by decide +kernel
theorem dX1_roomOf_67 : decode cX1_roomOf 67 = .ok (.getfield 9, 3) := by decide +kernel
theorem dX1_roomOf_70 : decode cX1_roomOf 70 = .ok (.iload_n 1, 1) := by decide +kernel
theorem dX1_roomOf_71 : decode cX1_roomOf 71 = .ok (.iaload, 1) := by decide +kernel
theorem dX1_roomOf_72 : decode cX1_roomOf 72 = .ok (.iload 4, 2) := by decide +kernel
theorem dX1_roomOf_74 : decode cX1_roomOf 74 = .ok (.invokestatic 62, 3) := by decide +kernel
theorem dX1_roomOf_77 : decode cX1_roomOf 77 = .ok (.iand, 1) := by decide +kernel
theorem dX1_roomOf_78 : decode cX1_roomOf 78 = .ok (.ifCond .ne 15, 3) := by decide +kernel
theorem dX1_roomOf_81 : decode cX1_roomOf 81 = .ok (.iinc 5 1, 3) := by decide +kernel
theorem dX1_roomOf_84 : decode cX1_roomOf 84 = .ok (.iload 4, 2) := by decide +kernel
theorem dX1_roomOf_86 : decode cX1_roomOf 86 = .ok (.iload_n 2, 1) := by decide +kernel
theorem dX1_roomOf_87 : decode cX1_roomOf 87 = .ok (.iadd, 1) := by decide +kernel
theorem dX1_roomOf_88 : decode cX1_roomOf 88 = .ok (.istore 4, 2) := by decide +kernel
theorem dX1_roomOf_90 : decode cX1_roomOf 90 = .ok (.goto (-42), 3) := by decide +kernel
theorem dX1_roomOf_93 : decode cX1_roomOf 93 = .ok (.iload 5, 2) := by decide +kernel
theorem dX1_roomOf_95 : decode cX1_roomOf 95 = .ok (.ireturn, 1) := by decide +kernel
theorem dX1_troubleOfEntering_0 : decode cX1_troubleOfEntering 0 = .ok (.iload_n 1, 1) := by decide +kernel
theorem dX1_troubleOfEntering_1 : decode cX1_troubleOfEntering 1 = .ok (.ifCond .lt 9, 3) := by decide +kernel
theorem dX1_troubleOfEntering_4 : decode cX1_troubleOfEntering 4 = .ok (.iload_n 1, 1) := by decide +kernel
theorem dX1_troubleOfEntering_5 : decode cX1_troubleOfEntering 5 = .ok (.bipush 10, 2) := by decide +kernel
theorem dX1_troubleOfEntering_7 : decode cX1_troubleOfEntering 7 = .ok (.if_icmp .lt 5, 3) := by decide +kernel
theorem dX1_troubleOfEntering_10 : decode cX1_troubleOfEntering 10 = .ok (.iconst 1, 1) := by decide +kernel
theorem dX1_troubleOfEntering_11 : decode cX1_troubleOfEntering 11 = .ok (.ireturn, 1) := by decide +kernel
theorem dX1_troubleOfEntering_12 : decode cX1_troubleOfEntering 12 = .ok (.iload_n 3, 1) := by decide +kernel
theorem dX1_troubleOfEntering_13 : decode cX1_troubleOfEntering 13 = .ok (.iconst 2, 1) := by decide +kernel
theorem dX1_troubleOfEntering_14 : decode cX1_troubleOfEntering 14 = .ok (.if_icmp .lt 19, 3) := by decide +kernel
theorem dX1_troubleOfEntering_17 : decode cX1_troubleOfEntering 17 = .ok (.iload_n 3, 1) := by decide +kernel
theorem dX1_troubleOfEntering_18 : decode cX1_troubleOfEntering 18 = .ok (.iconst 3, 1) := by decide +kernel
theorem dX1_troubleOfEntering_19 : decode cX1_troubleOfEntering 19 = .ok (.if_icmp .gt 14, 3) := by decide +kernel
theorem dX1_troubleOfEntering_22 : decode cX1_troubleOfEntering 22 = .ok (.iload_n 2, 1) := by decide +kernel
theorem dX1_troubleOfEntering_23 : decode cX1_troubleOfEntering 23 = .ok (.ifCond .lt 10, 3) := by decide +kernel
theorem dX1_troubleOfEntering_26 : decode cX1_troubleOfEntering 26 = .ok (.iload_n 2, 1) := by decide +kernel
theorem dX1_troubleOfEntering_27 : decode cX1_troubleOfEntering 27 = .ok (.iconst 5, 1) := by decide +kernel
theorem dX1_troubleOfEntering_28 : decode cX1_troubleOfEntering 28 = .ok (.iload_n 3, 1) := by decide +kernel
theorem dX1_troubleOfEntering_29 : decode cX1_troubleOfEntering 29 = .ok (.isub, 1) := by decide +kernel
theorem dX1_troubleOfEntering_30 : decode cX1_troubleOfEntering 30 = .ok (.if_icmp .le 5, 3) := by decide +kernel
theorem dX1_troubleOfEntering_33 : decode cX1_troubleOfEntering 33 = .ok (.iconst 2, 1) := by decide +kernel
theorem dX1_troubleOfEntering_34 : decode cX1_troubleOfEntering 34 = .ok (.ireturn, 1) := by decide +kernel
theorem dX1_troubleOfEntering_35 : decode cX1_troubleOfEntering 35 = .ok (.aload_n 0, 1) := by decide +kernel
theorem dX1_troubleOfEntering_36 : decode cX1_troubleOfEntering 36 = .ok (.getfield 33, 3) := by decide +kernel
theorem dX1_troubleOfEntering_39 : decode cX1_troubleOfEntering 39 = .ok (.ifCond .ne 12, 3) := by decide +kernel
theorem dX1_troubleOfEntering_42 : decode cX1_troubleOfEntering 42 = .ok (.iload_n 1, 1) := by decide +kernel
theorem dX1_troubleOfEntering_43 : decode cX1_troubleOfEntering 43 = .ok (.iconst 5, 1) := by decide +kernel
theorem dX1_troubleOfEntering_44 : decode cX1_troubleOfEntering 44 = .ok (.if_icmp .lt 7, 3) := by decide +kernel
theorem dX1_troubleOfEntering_47 : decode cX1_troubleOfEntering 47 = .ok (.iconst 1, 1) := by decide +kernel
theorem dX1_troubleOfEntering_48 : decode cX1_troubleOfEntering 48 = .ok (.goto 4, 3) := by decide +kernel
theorem dX1_troubleOfEntering_51 : decode cX1_troubleOfEntering 51 = .ok (.iconst 0, 1) := by decide +kernel
theorem dX1_troubleOfEntering_52 : decode cX1_troubleOfEntering 52 = .ok (.istore 4, 2) := by decide +kernel
theorem dX1_troubleOfEntering_54 : decode cX1_troubleOfEntering 54 = .ok (.aload_n 0, 1) := by decide +kernel
theorem dX1_troubleOfEntering_55 : decode cX1_troubleOfEntering 55 = .ok (.invokevirtual 58, 3) := by decide +kernel
theorem dX1_troubleOfEntering_58 : decode cX1_troubleOfEntering 58 = .ok (.iload_n 1, 1) := by decide +kernel
theorem dX1_troubleOfEntering_59 : decode cX1_troubleOfEntering 59 = .ok (.iload_n 2, 1) := by decide +kernel
theorem dX1_troubleOfEntering_60 : decode cX1_troubleOfEntering 60 = .ok (.iload_n 3, 1) := by decide +kernel
theorem dX1_troubleOfEntering_61 : decode cX1_troubleOfEntering 61 = .ok (.invokestatic 50, 3) := by decide +kernel
theorem dX1_troubleOfEntering_64 : decode cX1_troubleOfEntering 64 = .ok (.iand, 1) := by decide +kernel
theorem dX1_troubleOfEntering_65 : decode cX1_troubleOfEntering 65 = .ok (.ifCond .ne 7, 3) := by decide +kernel
theorem dX1_troubleOfEntering_68 : decode cX1_troubleOfEntering 68 = .ok (.iconst 1, 1) := by decide +kernel
theorem dX1_troubleOfEntering_69 : decode cX1_troubleOfEntering 69 = .ok (.goto 4, 3) := by decide +kernel
theorem dX1_troubleOfEntering_72 : decode cX1_troubleOfEntering 72 = .ok (.iconst 0, 1) := by decide +kernel
theorem dX1_troubleOfEntering_73 : decode cX1_troubleOfEntering 73 = .ok (.istore 5, 2) := by decide +kernel
theorem dX1_troubleOfEntering_75 : decode cX1_troubleOfEntering 75 = .ok (.aload_n 0, 1) := by decide +kernel
theorem dX1_troubleOfEntering_76 : decode cX1_troubleOfEntering 76 = .ok (.getfield 33, 3) := by decide +kernel
theorem dX1_troubleOfEntering_79 : decode cX1_troubleOfEntering 79 = .ok (.bipush 6, 2) := by decide +kernel
theorem dX1_troubleOfEntering_81 : decode cX1_troubleOfEntering 81 = .ok (.if_icmp .ge 13, 3) := by decide +kernel
theorem dX1_troubleOfEntering_84 : decode cX1_troubleOfEntering 84 = .ok (.iload 5, 2) := by decide +kernel
theorem dX1_troubleOfEntering_86 : decode cX1_troubleOfEntering 86 = .ok (.ifCond .eq 8, 3) := by decide +kernel
theorem dX1_troubleOfEntering_89 : decode cX1_troubleOfEntering 89 = .ok (.iload 4, 2) := by decide +kernel
theorem dX1_troubleOfEntering_91 : decode cX1_troubleOfEntering 91 = .ok (.ifCond .eq 7, 3) := by decide +kernel
theorem dX1_troubleOfEntering_94 : decode cX1_troubleOfEntering 94 = .ok (.iconst 3, 1) := by decide +kernel
theorem dX1_troubleOfEntering_95 : decode cX1_troubleOfEntering 95 = .ok (.goto 4, 3) := by decide +kernel
theorem dX1_troubleOfEntering_98 : decode cX1_troubleOfEntering 98 = .ok (.iconst 0, 1) := by decide +kernel
theorem dX1_troubleOfEntering_99 : decode cX1_troubleOfEntering 99 = .ok (.ireturn, 1) := by decide +kernel
theorem dX1_enter_0 : decode cX1_enter 0 = .ok (.aload_n 0, 1) := by decide +kernel
theorem dX1_enter_1 : decode cX1_enter 1 = .ok (.getfield 33, 3) := by decide +kernel
theorem dX1_enter_4 : decode cX1_enter 4 = .ok (.istore 4, 2) := by decide +kernel
theorem dX1_enter_6 : decode cX1_enter 6 = .ok (.iload 4, 2) := by decide +kernel
theorem dX1_enter_8 : decode cX1_enter 8 = .ok (.ifCond .lt 44, 3) := by decide +kernel
theorem dX1_enter_11 : decode cX1_enter 11 = .ok (.iload 4, 2) := by decide +kernel
theorem dX1_enter_13 : decode cX1_enter 13 = .ok (.bipush 6, 2) := by decide +kernel
theorem dX1_enter_15 : decode cX1_enter 15 = .ok (.if_icmp .ge 37, 3) := by decide +kernel
theorem dX1_enter_18 : decode cX1_enter 18 = .ok (.aload_n 0, 1) := by decide +kernel
theorem dX1_enter_19 : decode cX1_enter 19 = .ok (.getfield 9, 3) := by decide +kernel
theorem dX1_enter_22 : decode cX1_enter 22 = .ok (.iload 4, 2) := by decide +kernel
theorem dX1_enter_24 : decode cX1_enter 24 = .ok (.iload_n 1, 1) := by decide +kernel
theorem dX1_enter_25 : decode cX1_enter 25 = .ok (.iastore, 1) := by decide +kernel
theorem dX1_enter_26 : decode cX1_enter 26 = .ok (.aload_n 0, 1) := by decide +kernel
theorem dX1_enter_27 : decode cX1_enter 27 = .ok (.getfield 15, 3) := by decide +kernel
theorem dX1_enter_30 : decode cX1_enter 30 = .ok (.iload 4, 2) := by decide +kernel
theorem dX1_enter_32 : decode cX1_enter 32 = .ok (.iload_n 2, 1) := by decide +kernel
theorem dX1_enter_33 : decode cX1_enter 33 = .ok (.iastore, 1) := by decide +kernel
theorem dX1_enter_34 : decode cX1_enter 34 = .ok (.aload_n 0, 1) := by decide +kernel
theorem dX1_enter_35 : decode cX1_enter 35 = .ok (.getfield 18, 3) := by decide +kernel
theorem dX1_enter_38 : decode cX1_enter 38 = .ok (.iload 4, 2) := by decide +kernel
theorem dX1_enter_40 : decode cX1_enter 40 = .ok (.iload_n 3, 1) := by decide +kernel
theorem dX1_enter_41 : decode cX1_enter 41 = .ok (.iastore, 1) := by decide +kernel
theorem dX1_enter_42 : decode cX1_enter 42 = .ok (.aload_n 0, 1) := by decide +kernel
theorem dX1_enter_43 : decode cX1_enter 43 = .ok (.dup, 1) := by decide +kernel
theorem dX1_enter_44 : decode cX1_enter 44 = .ok (.getfield 33, 3) := by decide +kernel
theorem dX1_enter_47 : decode cX1_enter 47 = .ok (.iconst 1, 1) := by decide +kernel
theorem dX1_enter_48 : decode cX1_enter 48 = .ok (.iadd, 1) := by decide +kernel
theorem dX1_enter_49 : decode cX1_enter 49 = .ok (.putfield 33, 3) := by decide +kernel
theorem dX1_enter_52 : decode cX1_enter 52 = .ok (.aload_n 0, 1) := by decide +kernel
theorem dX1_enter_53 : decode cX1_enter 53 = .ok (.iconst 0, 1) := by decide +kernel
theorem dX1_enter_54 : decode cX1_enter 54 = .ok (.putfield 40, 3) := by decide +kernel
theorem dX1_enter_57 : decode cX1_enter 57 = .ok (.iload 4, 2) := by decide +kernel
theorem dX1_enter_59 : decode cX1_enter 59 = .ok (.ireturn, 1) := by decide +kernel
theorem dX1_leave_0 : decode cX1_leave 0 = .ok (.aload_n 0, 1) := by decide +kernel
theorem dX1_leave_1 : decode cX1_leave 1 = .ok (.dup, 1) := by decide +kernel
theorem dX1_leave_2 : decode cX1_leave 2 = .ok (.getfield 33, 3) := by decide +kernel
theorem dX1_leave_5 : decode cX1_leave 5 = .ok (.iconst 1, 1) := by decide +kernel
theorem dX1_leave_6 : decode cX1_leave 6 = .ok (.isub, 1) := by decide +kernel
theorem dX1_leave_7 : decode cX1_leave 7 = .ok (.putfield 33, 3) := by decide +kernel
theorem dX1_leave_10 : decode cX1_leave 10 = .ok (.aload_n 0, 1) := by decide +kernel
theorem dX1_leave_11 : decode cX1_leave 11 = .ok (.iconst 0, 1) := by decide +kernel
theorem dX1_leave_12 : decode cX1_leave 12 = .ok (.putfield 40, 3) := by decide +kernel
theorem dX1_leave_15 : decode cX1_leave 15 = .ok (.aload_n 0, 1) := by decide +kernel
theorem dX1_leave_16 : decode cX1_leave 16 = .ok (.getfield 33, 3) := by decide +kernel
theorem dX1_leave_19 : decode cX1_leave 19 = .ok (.ireturn, 1) := by decide +kernel
theorem dX1_troubleOfWall_0 : decode cX1_troubleOfWall 0 = .ok (.iload_n 1, 1) := by decide +kernel
theorem dX1_troubleOfWall_1 : decode cX1_troubleOfWall 1 = .ok (.invokestatic 66, 3) := by decide +kernel
theorem dX1_troubleOfWall_4 : decode cX1_troubleOfWall 4 = .ok (.ifCond .ne 5, 3) := by decide +kernel
theorem dX1_troubleOfWall_7 : decode cX1_troubleOfWall 7 = .ok (.iconst 1, 1) := by decide +kernel
theorem dX1_troubleOfWall_8 : decode cX1_troubleOfWall 8 = .ok (.ireturn, 1) := by decide +kernel
theorem dX1_troubleOfWall_9 : decode cX1_troubleOfWall 9 = .ok (.aload_n 0, 1) := by decide +kernel
theorem dX1_troubleOfWall_10 : decode cX1_troubleOfWall 10 = .ok (.iload_n 1, 1) := by decide +kernel
theorem dX1_troubleOfWall_11 : decode cX1_troubleOfWall 11 = .ok (.invokevirtual 69, 3) := by decide +kernel
theorem dX1_troubleOfWall_14 : decode cX1_troubleOfWall 14 = .ok (.ifCond .ne 18, 3) := by decide +kernel
theorem dX1_troubleOfWall_17 : decode cX1_troubleOfWall 17 = .ok (.aload_n 0, 1) := by decide +kernel
theorem dX1_troubleOfWall_18 : decode cX1_troubleOfWall 18 = .ok (.getfield 37, 3) := by decide +kernel
theorem dX1_troubleOfWall_21 : decode cX1_troubleOfWall 21 = .ok (.invokestatic 72, 3) := by decide +kernel
theorem dX1_troubleOfWall_24 : decode cX1_troubleOfWall 24 = .ok (.iconst 4, 1) := by decide +kernel
theorem dX1_troubleOfWall_25 : decode cX1_troubleOfWall 25 = .ok (.if_icmp .lt 7, 3) := by decide +kernel
theorem dX1_troubleOfWall_28 : decode cX1_troubleOfWall 28 = .ok (.iconst 1, 1) := by decide +kernel
theorem dX1_troubleOfWall_29 : decode cX1_troubleOfWall 29 = .ok (.goto 4, 3) := by decide +kernel
theorem dX1_troubleOfWall_32 : decode cX1_troubleOfWall 32 = .ok (.iconst 0, 1) := by decide +kernel
theorem dX1_troubleOfWall_33 : decode cX1_troubleOfWall 33 = .ok (.istore_n 2, 1) := by decide +kernel
theorem dX1_troubleOfWall_34 : decode cX1_troubleOfWall 34 = .ok (.aload_n 0, 1) := by decide +kernel
theorem dX1_troubleOfWall_35 : decode cX1_troubleOfWall 35 = .ok (.iload_n 1, 1) := by decide +kernel
theorem dX1_troubleOfWall_36 : decode cX1_troubleOfWall 36 = .ok (.invokevirtual 78, 3) := by decide +kernel
theorem dX1_troubleOfWall_39 : decode cX1_troubleOfWall 39 = .ok (.ifCond .ge 7, 3) := by decide +kernel
theorem dX1_troubleOfWall_42 : decode cX1_troubleOfWall 42 = .ok (.iload_n 2, 1) := by decide +kernel
theorem dX1_troubleOfWall_43 : decode cX1_troubleOfWall 43 = .ok (.ifCond .eq 7, 3) := by decide +kernel
theorem dX1_troubleOfWall_46 : decode cX1_troubleOfWall 46 = .ok (.iconst 3, 1) := by decide +kernel
theorem dX1_troubleOfWall_47 : decode cX1_troubleOfWall 47 = .ok (.goto 4, 3) := by decide +kernel
theorem dX1_troubleOfWall_50 : decode cX1_troubleOfWall 50 = .ok (.iconst 0, 1) := by decide +kernel
theorem dX1_troubleOfWall_51 : decode cX1_troubleOfWall 51 = .ok (.ireturn, 1) := by decide +kernel
theorem dX1_turnWall_0 : decode cX1_turnWall 0 = .ok (.aload_n 0, 1) := by decide +kernel
theorem dX1_turnWall_1 : decode cX1_turnWall 1 = .ok (.dup, 1) := by decide +kernel
theorem dX1_turnWall_2 : decode cX1_turnWall 2 = .ok (.getfield 37, 3) := by decide +kernel
theorem dX1_turnWall_5 : decode cX1_turnWall 5 = .ok (.iconst 1, 1) := by decide +kernel
theorem dX1_turnWall_6 : decode cX1_turnWall 6 = .ok (.iload_n 1, 1) := by decide +kernel
theorem dX1_turnWall_7 : decode cX1_turnWall 7 = .ok (.ishl, 1) := by decide +kernel
theorem dX1_turnWall_8 : decode cX1_turnWall 8 = .ok (.ixor, 1) := by decide +kernel
theorem dX1_turnWall_9 : decode cX1_turnWall 9 = .ok (.putfield 37, 3) := by decide +kernel
theorem dX1_turnWall_12 : decode cX1_turnWall 12 = .ok (.aload_n 0, 1) := by decide +kernel
theorem dX1_turnWall_13 : decode cX1_turnWall 13 = .ok (.iconst 0, 1) := by decide +kernel
theorem dX1_turnWall_14 : decode cX1_turnWall 14 = .ok (.putfield 40, 3) := by decide +kernel
theorem dX1_turnWall_17 : decode cX1_turnWall 17 = .ok (.aload_n 0, 1) := by decide +kernel
theorem dX1_turnWall_18 : decode cX1_turnWall 18 = .ok (.iload_n 1, 1) := by decide +kernel
theorem dX1_turnWall_19 : decode cX1_turnWall 19 = .ok (.invokevirtual 69, 3) := by decide +kernel
theorem dX1_turnWall_22 : decode cX1_turnWall 22 = .ok (.ireturn, 1) := by decide +kernel
theorem dX1_troubleOfSliding_0 : decode cX1_troubleOfSliding 0 = .ok (.aload_n 0, 1) := by decide +kernel
theorem dX1_troubleOfSliding_1 : decode cX1_troubleOfSliding 1 = .ok (.iload_n 1, 1) := by decide +kernel
theorem dX1_troubleOfSliding_2 : decode cX1_troubleOfSliding 2 = .ok (.invokevirtual 54, 3) := by decide +kernel
theorem dX1_troubleOfSliding_5 : decode cX1_troubleOfSliding 5 = .ok (.ifCond .ne 5, 3) := by decide +kernel
theorem dX1_troubleOfSliding_8 : decode cX1_troubleOfSliding 8 = .ok (.iconst 1, 1) := by decide +kernel
theorem dX1_troubleOfSliding_9 : decode cX1_troubleOfSliding 9 = .ok (.ireturn, 1) := by decide +kernel
theorem dX1_troubleOfSliding_10 : decode cX1_troubleOfSliding 10 = .ok (.iload_n 2, 1) := by decide +kernel
theorem dX1_troubleOfSliding_11 : decode cX1_troubleOfSliding 11 = .ok (.bipush (-3), 2) := by decide +kernel
theorem dX1_troubleOfSliding_13 : decode cX1_troubleOfSliding 13 = .ok (.if_icmp .lt 12, 3) := by decide +kernel
theorem dX1_troubleOfSliding_16 : decode cX1_troubleOfSliding 16 = .ok (.iload_n 2, 1) := by decide +kernel
theorem dX1_troubleOfSliding_17 : decode cX1_troubleOfSliding 17 = .ok (.iconst 3, 1) := by decide +kernel
theorem dX1_troubleOfSliding_18 : decode cX1_troubleOfSliding 18 = .ok (.if_icmp .gt 7, 3) := by decide +kernel
theorem dX1_troubleOfSliding_21 : decode cX1_troubleOfSliding 21 = .ok (.iload_n 2, 1) := by decide +kernel
theorem dX1_troubleOfSliding_22 : decode cX1_troubleOfSliding 22 = .ok (.ifCond .ne 5, 3) := by decide +kernel
theorem dX1_troubleOfSliding_25 : decode cX1_troubleOfSliding 25 = .ok (.iconst 2, 1) := by decide +kernel
theorem dX1_troubleOfSliding_26 : decode cX1_troubleOfSliding 26 = .ok (.ireturn, 1) := by decide +kernel
theorem dX1_troubleOfSliding_27 : decode cX1_troubleOfSliding 27 = .ok (.iload_n 2, 1) := by decide +kernel
theorem dX1_troubleOfSliding_28 : decode cX1_troubleOfSliding 28 = .ok (.ifCond .le 12, 3) := by decide +kernel
theorem dX1_troubleOfSliding_31 : decode cX1_troubleOfSliding 31 = .ok (.aload_n 0, 1) := by decide +kernel
theorem dX1_troubleOfSliding_32 : decode cX1_troubleOfSliding 32 = .ok (.iload_n 1, 1) := by decide +kernel
theorem dX1_troubleOfSliding_33 : decode cX1_troubleOfSliding 33 = .ok (.iconst 1, 1) := by decide +kernel
theorem dX1_troubleOfSliding_34 : decode cX1_troubleOfSliding 34 = .ok (.invokevirtual 81, 3) := by decide +kernel
theorem dX1_troubleOfSliding_37 : decode cX1_troubleOfSliding 37 = .ok (.goto 9, 3) := by decide +kernel
theorem dX1_troubleOfSliding_40 : decode cX1_troubleOfSliding 40 = .ok (.aload_n 0, 1) := by decide +kernel
theorem dX1_troubleOfSliding_41 : decode cX1_troubleOfSliding 41 = .ok (.iload_n 1, 1) := by decide +kernel
theorem dX1_troubleOfSliding_42 : decode cX1_troubleOfSliding 42 = .ok (.iconst (-1), 1) := by decide +kernel
theorem dX1_troubleOfSliding_43 : decode cX1_troubleOfSliding 43 = .ok (.invokevirtual 81, 3) := by decide +kernel
theorem dX1_troubleOfSliding_46 : decode cX1_troubleOfSliding 46 = .ok (.istore_n 3, 1) := by decide +kernel
theorem dX1_troubleOfSliding_47 : decode cX1_troubleOfSliding 47 = .ok (.iload_n 2, 1) := by decide +kernel
theorem dX1_troubleOfSliding_48 : decode cX1_troubleOfSliding 48 = .ok (.invokestatic 84, 3) := by decide +kernel
theorem dX1_troubleOfSliding_51 : decode cX1_troubleOfSliding 51 = .ok (.iload_n 3, 1) := by decide +kernel
theorem dX1_troubleOfSliding_52 : decode cX1_troubleOfSliding 52 = .ok (.if_icmp .le 7, 3) := by decide +kernel
theorem dX1_troubleOfSliding_55 : decode cX1_troubleOfSliding 55 = .ok (.iconst 3, 1) := by decide +kernel
theorem dX1_troubleOfSliding_56 : decode cX1_troubleOfSliding 56 = .ok (.goto 4, 3) := by decide +kernel
theorem dX1_troubleOfSliding_59 : decode cX1_troubleOfSliding 59 = .ok (.iconst 0, 1) := by decide +kernel
theorem dX1_troubleOfSliding_60 : decode cX1_troubleOfSliding 60 = .ok (.ireturn, 1) := by decide +kernel
theorem dX1_makeSlide_0 : decode cX1_makeSlide 0 = .ok (.aload_n 0, 1) := by decide +kernel
theorem dX1_makeSlide_1 : decode cX1_makeSlide 1 = .ok (.iload_n 1, 1) := by decide +kernel
theorem dX1_makeSlide_2 : decode cX1_makeSlide 2 = .ok (.invokevirtual 54, 3) := by decide +kernel
theorem dX1_makeSlide_5 : decode cX1_makeSlide 5 = .ok (.ifCond .eq 19, 3) := by decide +kernel
theorem dX1_makeSlide_8 : decode cX1_makeSlide 8 = .ok (.aload_n 0, 1) := by decide +kernel
theorem dX1_makeSlide_9 : decode cX1_makeSlide 9 = .ok (.getfield 40, 3) := by decide +kernel
theorem dX1_makeSlide_12 : decode cX1_makeSlide 12 = .ok (.ifCond .lt 12, 3) := by decide +kernel
theorem dX1_makeSlide_15 : decode cX1_makeSlide 15 = .ok (.aload_n 0, 1) := by decide +kernel
theorem dX1_makeSlide_16 : decode cX1_makeSlide 16 = .ok (.getfield 40, 3) := by decide +kernel
theorem dX1_makeSlide_19 : decode cX1_makeSlide 19 = .ok (.bipush 60, 2) := by decide +kernel
theorem dX1_makeSlide_21 : decode cX1_makeSlide 21 = .ok (.if_icmp .lt 5, 3) := by decide +kernel
theorem dX1_makeSlide_24 : decode cX1_makeSlide 24 = .ok (.iconst (-1), 1) := by decide +kernel
theorem dX1_makeSlide_25 : decode cX1_makeSlide 25 = .ok (.ireturn, 1) := by decide +kernel
theorem dX1_makeSlide_26 : decode cX1_makeSlide 26 = .ok (.aload_n 0, 1) := by decide +kernel
theorem dX1_makeSlide_27 : decode cX1_makeSlide 27 = .ok (.getfield 15, 3) := by decide +kernel
