theorem dX4_cheapens_16 : decode cX4_cheapens 16 = .ok (.iaload, 1) := by decide +kernel
theorem dX4_cheapens_17 : decode cX4_cheapens 17 = .ok (.if_icmp .ge 50, 3) := by decide +kernel
theorem dX4_cheapens_20 : decode cX4_cheapens 20 = .ok (.aload_n 0, 1) := by decide +kernel
theorem dX4_cheapens_21 : decode cX4_cheapens 21 = .ok (.getfield 25, 3) := by decide +kernel
theorem dX4_cheapens_24 : decode cX4_cheapens 24 = .ok (.iload_n 1, 1) := by decide +kernel
theorem dX4_cheapens_25 : decode cX4_cheapens 25 = .ok (.iload_n 2, 1) := by decide +kernel
theorem dX4_cheapens_26 : decode cX4_cheapens 26 = .ok (.iastore, 1) := by decide +kernel
theorem dX4_cheapens_27 : decode cX4_cheapens 27 = .ok (.aload_n 0, 1) := by decide +kernel
theorem dX4_cheapens_28 : decode cX4_cheapens 28 = .ok (.getfield 31, 3) := by decide +kernel
theorem dX4_cheapens_31 : decode cX4_cheapens 31 = .ok (.iload_n 1, 1) := by decide +kernel
theorem dX4_cheapens_32 : decode cX4_cheapens 32 = .ok (.baload, 1) := by decide +kernel
theorem dX4_cheapens_33 : decode cX4_cheapens 33 = .ok (.ifCond .ne 34, 3) := by decide +kernel
theorem dX4_cheapens_36 : decode cX4_cheapens 36 = .ok (.aload_n 0, 1) := by decide +kernel
theorem dX4_cheapens_37 : decode cX4_cheapens 37 = .ok (.getfield 31, 3) := by decide +kernel
theorem dX4_cheapens_40 : decode cX4_cheapens 40 = .ok (.iload_n 1, 1) := by decide +kernel
theorem dX4_cheapens_41 : decode cX4_cheapens 41 = .ok (.iconst 1, 1) := by decide +kernel
theorem dX4_cheapens_42 : decode cX4_cheapens 42 = .ok (.bastore, 1) := by decide +kernel
theorem dX4_cheapens_43 : decode cX4_cheapens 43 = .ok (.aload_n 0, 1) := by decide +kernel
theorem dX4_cheapens_44 : decode cX4_cheapens 44 = .ok (.getfield 28, 3) := by decide +kernel
theorem dX4_cheapens_47 : decode cX4_cheapens 47 = .ok (.aload_n 0, 1) := by decide +kernel
theorem dX4_cheapens_48 : decode cX4_cheapens 48 = .ok (.getfield 67, 3) := by decide +kernel
theorem dX4_cheapens_51 : decode cX4_cheapens 51 = .ok (.sipush 4096, 3) := by decide +kernel
theorem dX4_cheapens_54 : decode cX4_cheapens 54 = .ok (.irem, 1) := by decide +kernel
theorem dX4_cheapens_55 : decode cX4_cheapens 55 = .ok (.iload_n 1, 1) := by decide +kernel
theorem dX4_cheapens_56 : decode cX4_cheapens 56 = .ok (.iastore, 1) := by decide +kernel
theorem dX4_cheapens_57 : decode cX4_cheapens 57 = .ok (.aload_n 0, 1) := by decide +kernel
theorem dX4_cheapens_58 : decode cX4_cheapens 58 = .ok (.dup, 1) := by decide +kernel
theorem dX4_cheapens_59 : decode cX4_cheapens 59 = .ok (.getfield 67, 3) := by decide +kernel
theorem dX4_cheapens_62 : decode cX4_cheapens 62 = .ok (.iconst 1, 1) := by decide +kernel
theorem dX4_cheapens_63 : decode cX4_cheapens 63 = .ok (.iadd, 1) := by decide +kernel
theorem dX4_cheapens_64 : decode cX4_cheapens 64 = .ok (.putfield 67, 3) := by decide +kernel
theorem dX4_cheapens_67 : decode cX4_cheapens 67 = .ok (.return_, 1) := by decide +kernel
theorem dX4_cheaper_0 : decode cX4_cheaper 0 = .ok (.iload_n 1, 1) := by decide +kernel
theorem dX4_cheaper_1 : decode cX4_cheaper 1 = .ok (.iconst 2, 1) := by decide +kernel
theorem dX4_cheaper_2 : decode cX4_cheaper 2 = .ok (.iload_n 2, 1) := by decide +kernel
theorem dX4_cheaper_3 : decode cX4_cheaper 3 = .ok (.imul, 1) := by decide +kernel
theorem dX4_cheaper_4 : decode cX4_cheaper 4 = .ok (.ishr, 1) := by decide +kernel
theorem dX4_cheaper_5 : decode cX4_cheaper 5 = .ok (.iconst 3, 1) := by decide +kernel
theorem dX4_cheaper_6 : decode cX4_cheaper 6 = .ok (.iand, 1) := by decide +kernel
theorem dX4_cheaper_7 : decode cX4_cheaper 7 = .ok (.istore 4, 2) := by decide +kernel
theorem dX4_cheaper_9 : decode cX4_cheaper 9 = .ok (.aload_n 0, 1) := by decide +kernel
theorem dX4_cheaper_10 : decode cX4_cheaper 10 = .ok (.iload_n 1, 1) := by decide +kernel
theorem dX4_cheaper_11 : decode cX4_cheaper 11 = .ok (.invokevirtual 70, 3) := by decide +kernel
theorem dX4_cheaper_14 : decode cX4_cheaper 14 = .ok (.aload_n 0, 1) := by decide +kernel
theorem dX4_cheaper_15 : decode cX4_cheaper 15 = .ok (.getfield 22, 3) := by decide +kernel
theorem dX4_cheaper_18 : decode cX4_cheaper 18 = .ok (.iconst 4, 1) := by decide +kernel
theorem dX4_cheaper_19 : decode cX4_cheaper 19 = .ok (.iload_n 2, 1) := by decide +kernel
theorem dX4_cheaper_20 : decode cX4_cheaper 20 = .ok (.imul, 1) := by decide +kernel
theorem dX4_cheaper_21 : decode cX4_cheaper 21 = .ok (.iload 4, 2) := by decide +kernel
theorem dX4_cheaper_23 : decode cX4_cheaper 23 = .ok (.iadd, 1) := by decide +kernel
theorem dX4_cheaper_24 : decode cX4_cheaper 24 = .ok (.iaload, 1) := by decide +kernel
theorem dX4_cheaper_25 : decode cX4_cheaper 25 = .ok (.iconst (-1), 1) := by decide +kernel
theorem dX4_cheaper_26 : decode cX4_cheaper 26 = .ok (.ixor, 1) := by decide +kernel
theorem dX4_cheaper_27 : decode cX4_cheaper 27 = .ok (.iand, 1) := by decide +kernel
theorem dX4_cheaper_28 : decode cX4_cheaper 28 = .ok (.istore 5, 2) := by decide +kernel
theorem dX4_cheaper_30 : decode cX4_cheaper 30 = .ok (.iload 4, 2) := by decide +kernel
theorem dX4_cheaper_32 : decode cX4_cheaper 32 = .ok (.iload_n 3, 1) := by decide +kernel
theorem dX4_cheaper_33 : decode cX4_cheaper 33 = .ok (.iadd, 1) := by decide +kernel
theorem dX4_cheaper_34 : decode cX4_cheaper 34 = .ok (.istore 6, 2) := by decide +kernel
theorem dX4_cheaper_36 : decode cX4_cheaper 36 = .ok (.iload 6, 2) := by decide +kernel
theorem dX4_cheaper_38 : decode cX4_cheaper 38 = .ok (.i2l, 1) := by decide +kernel
theorem dX4_cheaper_39 : decode cX4_cheaper 39 = .ok (.lconst 0, 1) := by decide +kernel
theorem dX4_cheaper_40 : decode cX4_cheaper 40 = .ok (.ldc2_w 73, 3) := by decide +kernel
theorem dX4_cheaper_43 : decode cX4_cheaper 43 = .ok (.invokestatic 47, 3) := by decide +kernel
theorem dX4_cheaper_46 : decode cX4_cheaper 46 = .ok (.ifCond .eq 70, 3) := by decide +kernel
theorem dX4_cheaper_49 : decode cX4_cheaper 49 = .ok (.aload_n 0, 1) := by decide +kernel
theorem dX4_cheaper_50 : decode cX4_cheaper 50 = .ok (.getfield 22, 3) := by decide +kernel
theorem dX4_cheaper_53 : decode cX4_cheaper 53 = .ok (.iconst 4, 1) := by decide +kernel
theorem dX4_cheaper_54 : decode cX4_cheaper 54 = .ok (.iload_n 2, 1) := by decide +kernel
theorem dX4_cheaper_55 : decode cX4_cheaper 55 = .ok (.imul, 1) := by decide +kernel
theorem dX4_cheaper_56 : decode cX4_cheaper 56 = .ok (.iload 6, 2) := by decide +kernel
theorem dX4_cheaper_58 : decode cX4_cheaper 58 = .ok (.iadd, 1) := by decide +kernel
theorem dX4_cheaper_59 : decode cX4_cheaper 59 = .ok (.iaload, 1) := by decide +kernel
theorem dX4_cheaper_60 : decode cX4_cheaper 60 = .ok (.ifCond .eq 56, 3) := by decide +kernel
theorem dX4_cheaper_63 : decode cX4_cheaper 63 = .ok (.aload_n 0, 1) := by decide +kernel
theorem dX4_cheaper_64 : decode cX4_cheaper 64 = .ok (.getfield 22, 3) := by decide +kernel
theorem dX4_cheaper_67 : decode cX4_cheaper 67 = .ok (.iconst 4, 1) := by decide +kernel
theorem dX4_cheaper_68 : decode cX4_cheaper 68 = .ok (.iload_n 2, 1) := by decide +kernel
theorem dX4_cheaper_69 : decode cX4_cheaper 69 = .ok (.imul, 1) := by decide +kernel
theorem dX4_cheaper_70 : decode cX4_cheaper 70 = .ok (.iload 6, 2) := by decide +kernel
theorem dX4_cheaper_72 : decode cX4_cheaper 72 = .ok (.iadd, 1) := by decide +kernel
theorem dX4_cheaper_73 : decode cX4_cheaper 73 = .ok (.iaload, 1) := by decide +kernel
theorem dX4_cheaper_74 : decode cX4_cheaper 74 = .ok (.iload 5, 2) := by decide +kernel
theorem dX4_cheaper_76 : decode cX4_cheaper 76 = .ok (.iand, 1) := by decide +kernel
theorem dX4_cheaper_77 : decode cX4_cheaper 77 = .ok (.ifCond .ne 39, 3) := by decide +kernel
theorem dX4_cheaper_80 : decode cX4_cheaper 80 = .ok (.aload_n 0, 1) := by decide +kernel
theorem dX4_cheaper_81 : decode cX4_cheaper 81 = .ok (.iload_n 1, 1) := by decide +kernel
theorem dX4_cheaper_82 : decode cX4_cheaper 82 = .ok (.iconst 3, 1) := by decide +kernel
theorem dX4_cheaper_83 : decode cX4_cheaper 83 = .ok (.iconst 2, 1) := by decide +kernel
theorem dX4_cheaper_84 : decode cX4_cheaper 84 = .ok (.iload_n 2, 1) := by decide +kernel
theorem dX4_cheaper_85 : decode cX4_cheaper 85 = .ok (.imul, 1) := by decide +kernel
theorem dX4_cheaper_86 : decode cX4_cheaper 86 = .ok (.ishl, 1) := by decide +kernel
theorem dX4_cheaper_87 : decode cX4_cheaper 87 = .ok (.iconst (-1), 1) := by decide +kernel
theorem dX4_cheaper_88 : decode cX4_cheaper 88 = .ok (.ixor, 1) := by decide +kernel
theorem dX4_cheaper_89 : decode cX4_cheaper 89 = .ok (.iand, 1) := by decide +kernel
theorem dX4_cheaper_90 : decode cX4_cheaper 90 = .ok (.iload 6, 2) := by decide +kernel
theorem dX4_cheaper_92 : decode cX4_cheaper 92 = .ok (.iconst 2, 1) := by decide +kernel
theorem dX4_cheaper_93 : decode cX4_cheaper 93 = .ok (.iload_n 2, 1) := by decide +kernel
theorem dX4_cheaper_94 : decode cX4_cheaper 94 = .ok (.imul, 1) := by decide +kernel
theorem dX4_cheaper_95 : decode cX4_cheaper 95 = .ok (.ishl, 1) := by decide +kernel
theorem dX4_cheaper_96 : decode cX4_cheaper 96 = .ok (.ior, 1) := by decide +kernel
theorem dX4_cheaper_97 : decode cX4_cheaper 97 = .ok (.aload_n 0, 1) := by decide +kernel
theorem dX4_cheaper_98 : decode cX4_cheaper 98 = .ok (.getfield 25, 3) := by decide +kernel
theorem dX4_cheaper_101 : decode cX4_cheaper 101 = .ok (.iload_n 1, 1) := by decide +kernel
theorem dX4_cheaper_102 : decode cX4_cheaper 102 = .ok (.iaload, 1) := by decide +kernel
theorem dX4_cheaper_103 : decode cX4_cheaper 103 = .ok (.aload_n 0, 1) := by decide +kernel
theorem dX4_cheaper_104 : decode cX4_cheaper 104 = .ok (.getfield 13, 3) := by decide +kernel
theorem dX4_cheaper_107 : decode cX4_cheaper 107 = .ok (.bipush 13, 2) := by decide +kernel
theorem dX4_cheaper_109 : decode cX4_cheaper 109 = .ok (.iload_n 2, 1) := by decide +kernel
theorem dX4_cheaper_110 : decode cX4_cheaper 110 = .ok (.iadd, 1) := by decide +kernel
theorem dX4_cheaper_111 : decode cX4_cheaper 111 = .ok (.iaload, 1) := by decide +kernel
theorem dX4_cheaper_112 : decode cX4_cheaper 112 = .ok (.iadd, 1) := by decide +kernel
theorem dX4_cheaper_113 : decode cX4_cheaper 113 = .ok (.invokevirtual 112, 3) := by decide +kernel
theorem dX4_cheaper_116 : decode cX4_cheaper 116 = .ok (.return_, 1) := by decide +kernel
theorem dX4_cheapest_0 : decode cX4_cheapest 0 = .ok (.aload_n 0, 1) := by decide +kernel
theorem dX4_cheapest_1 : decode cX4_cheapest 1 = .ok (.aload_n 0, 1) := by decide +kernel
theorem dX4_cheapest_2 : decode cX4_cheapest 2 = .ok (.getfield 13, 3) := by decide +kernel
theorem dX4_cheapest_5 : decode cX4_cheapest 5 = .ok (.iconst 0, 1) := by decide +kernel
theorem dX4_cheapest_6 : decode cX4_cheapest 6 = .ok (.iaload, 1) := by decide +kernel
theorem dX4_cheapest_7 : decode cX4_cheapest 7 = .ok (.aload_n 0, 1) := by decide +kernel
theorem dX4_cheapest_8 : decode cX4_cheapest 8 = .ok (.getfield 13, 3) := by decide +kernel
theorem dX4_cheapest_11 : decode cX4_cheapest 11 = .ok (.bipush 19, 2) := by decide +kernel
theorem dX4_cheapest_13 : decode cX4_cheapest 13 = .ok (.iaload, 1) := by decide +kernel
theorem dX4_cheapest_14 : decode cX4_cheapest 14 = .ok (.invokevirtual 97, 3) := by decide +kernel
theorem dX4_cheapest_17 : decode cX4_cheapest 17 = .ok (.aload_n 0, 1) := by decide +kernel
theorem dX4_cheapest_18 : decode cX4_cheapest 18 = .ok (.getfield 61, 3) := by decide +kernel
theorem dX4_cheapest_21 : decode cX4_cheapest 21 = .ok (.ifCond .ne 5, 3) := by decide +kernel
theorem dX4_cheapest_24 : decode cX4_cheapest 24 = .ok (.iconst (-1), 1) := by decide +kernel
theorem dX4_cheapest_25 : decode cX4_cheapest 25 = .ok (.ireturn, 1) := by decide +kernel
theorem dX4_cheapest_26 : decode cX4_cheapest 26 = .ok (.aload_n 0, 1) := by decide +kernel
theorem dX4_cheapest_27 : decode cX4_cheapest 27 = .ok (.invokevirtual 83, 3) := by decide +kernel
theorem dX4_cheapest_30 : decode cX4_cheapest 30 = .ok (.iconst 0, 1) := by decide +kernel
theorem dX4_cheapest_31 : decode cX4_cheapest 31 = .ok (.istore_n 1, 1) := by decide +kernel
theorem dX4_cheapest_32 : decode cX4_cheapest 32 = .ok (.iload_n 1, 1) := by decide +kernel
theorem dX4_cheapest_33 : decode cX4_cheapest 33 = .ok (.sipush 4096, 3) := by decide +kernel
theorem dX4_cheapest_36 : decode cX4_cheapest 36 = .ok (.if_icmp .ge 16, 3) := by decide +kernel
theorem dX4_cheapest_39 : decode cX4_cheapest 39 = .ok (.aload_n 0, 1) := by decide +kernel
theorem dX4_cheapest_40 : decode cX4_cheapest 40 = .ok (.getfield 31, 3) := by decide +kernel
theorem dX4_cheapest_43 : decode cX4_cheapest 43 = .ok (.iload_n 1, 1) := by decide +kernel
theorem dX4_cheapest_44 : decode cX4_cheapest 44 = .ok (.iconst 0, 1) := by decide +kernel
theorem dX4_cheapest_45 : decode cX4_cheapest 45 = .ok (.bastore, 1) := by decide +kernel
theorem dX4_cheapest_46 : decode cX4_cheapest 46 = .ok (.iinc 1 1, 3) := by decide +kernel
theorem dX4_cheapest_49 : decode cX4_cheapest 49 = .ok (.goto (-17), 3) := by decide +kernel
theorem dX4_cheapest_52 : decode cX4_cheapest 52 = .ok (.aload_n 0, 1) := by decide +kernel
theorem dX4_cheapest_53 : decode cX4_cheapest 53 = .ok (.aload_n 0, 1) := by decide +kernel
theorem dX4_cheapest_54 : decode cX4_cheapest 54 = .ok (.invokevirtual 100, 3) := by decide +kernel
theorem dX4_cheapest_57 : decode cX4_cheapest 57 = .ok (.iconst 0, 1) := by decide +kernel
theorem dX4_cheapest_58 : decode cX4_cheapest 58 = .ok (.invokevirtual 112, 3) := by decide +kernel
theorem dX4_cheapest_61 : decode cX4_cheapest 61 = .ok (.iconst 0, 1) := by decide +kernel
theorem dX4_cheapest_62 : decode cX4_cheapest 62 = .ok (.istore_n 1, 1) := by decide +kernel
theorem dX4_cheapest_63 : decode cX4_cheapest 63 = .ok (.iload_n 1, 1) := by decide +kernel
theorem dX4_cheapest_64 : decode cX4_cheapest 64 = .ok (.aload_n 0, 1) := by decide +kernel
theorem dX4_cheapest_65 : decode cX4_cheapest 65 = .ok (.getfield 67, 3) := by decide +kernel
theorem dX4_cheapest_68 : decode cX4_cheapest 68 = .ok (.if_icmp .ge 57, 3) := by decide +kernel
theorem dX4_cheapest_71 : decode cX4_cheapest 71 = .ok (.aload_n 0, 1) := by decide +kernel
theorem dX4_cheapest_72 : decode cX4_cheapest 72 = .ok (.getfield 28, 3) := by decide +kernel
theorem dX4_cheapest_75 : decode cX4_cheapest 75 = .ok (.iload_n 1, 1) := by decide +kernel
theorem dX4_cheapest_76 : decode cX4_cheapest 76 = .ok (.sipush 4096, 3) := by decide +kernel
theorem dX4_cheapest_79 : decode cX4_cheapest 79 = .ok (.irem, 1) := by decide +kernel
theorem dX4_cheapest_80 : decode cX4_cheapest 80 = .ok (.iaload, 1) := by decide +kernel
theorem dX4_cheapest_81 : decode cX4_cheapest 81 = .ok (.istore_n 2, 1) := by decide +kernel
theorem dX4_cheapest_82 : decode cX4_cheapest 82 = .ok (.aload_n 0, 1) := by decide +kernel
theorem dX4_cheapest_83 : decode cX4_cheapest 83 = .ok (.getfield 31, 3) := by decide +kernel
theorem dX4_cheapest_86 : decode cX4_cheapest 86 = .ok (.iload_n 2, 1) := by decide +kernel
theorem dX4_cheapest_87 : decode cX4_cheapest 87 = .ok (.iconst 0, 1) := by decide +kernel
theorem dX4_cheapest_88 : decode cX4_cheapest 88 = .ok (.bastore, 1) := by decide +kernel
theorem dX4_cheapest_89 : decode cX4_cheapest 89 = .ok (.iconst 0, 1) := by decide +kernel
theorem dX4_cheapest_90 : decode cX4_cheapest 90 = .ok (.istore_n 3, 1) := by decide +kernel
theorem dX4_cheapest_91 : decode cX4_cheapest 91 = .ok (.iload_n 3, 1) := by decide +kernel
theorem dX4_cheapest_92 : decode cX4_cheapest 92 = .ok (.aload_n 0, 1) := by decide +kernel
theorem dX4_cheapest_93 : decode cX4_cheapest 93 = .ok (.getfield 61, 3) := by decide +kernel
theorem dX4_cheapest_96 : decode cX4_cheapest 96 = .ok (.if_icmp .ge 23, 3) := by decide +kernel
theorem dX4_cheapest_99 : decode cX4_cheapest 99 = .ok (.aload_n 0, 1) := by decide +kernel
theorem dX4_cheapest_100 : decode cX4_cheapest 100 = .ok (.iload_n 2, 1) := by decide +kernel
theorem dX4_cheapest_101 : decode cX4_cheapest 101 = .ok (.iload_n 3, 1) := by decide +kernel
theorem dX4_cheapest_102 : decode cX4_cheapest 102 = .ok (.iconst (-1), 1) := by decide +kernel
theorem dX4_cheapest_103 : decode cX4_cheapest 103 = .ok (.invokevirtual 115, 3) := by decide +kernel
theorem dX4_cheapest_106 : decode cX4_cheapest 106 = .ok (.aload_n 0, 1) := by decide +kernel
theorem dX4_cheapest_107 : decode cX4_cheapest 107 = .ok (.iload_n 2, 1) := by decide +kernel
theorem dX4_cheapest_108 : decode cX4_cheapest 108 = .ok (.iload_n 3, 1) := by decide +kernel
theorem dX4_cheapest_109 : decode cX4_cheapest 109 = .ok (.iconst 1, 1) := by decide +kernel
theorem dX4_cheapest_110 : decode cX4_cheapest 110 = .ok (.invokevirtual 115, 3) := by decide +kernel
theorem dX4_cheapest_113 : decode cX4_cheapest 113 = .ok (.iinc 3 1, 3) := by decide +kernel
theorem dX4_cheapest_116 : decode cX4_cheapest 116 = .ok (.goto (-25), 3) := by decide +kernel
theorem dX4_cheapest_119 : decode cX4_cheapest 119 = .ok (.iinc 1 1, 3) := by decide +kernel
theorem dX4_cheapest_122 : decode cX4_cheapest 122 = .ok (.goto (-59), 3) := by decide +kernel
theorem dX4_cheapest_125 : decode cX4_cheapest 125 = .ok (.aload_n 0, 1) := by decide +kernel
theorem dX4_cheapest_126 : decode cX4_cheapest 126 = .ok (.invokevirtual 106, 3) := by decide +kernel
theorem dX4_cheapest_129 : decode cX4_cheapest 129 = .ok (.ireturn, 1) := by decide +kernel
theorem dX4_next_0 : decode cX4_next 0 = .ok (.aload_n 0, 1) := by decide +kernel
theorem dX4_next_1 : decode cX4_next 1 = .ok (.getfield 25, 3) := by decide +kernel
theorem dX4_next_4 : decode cX4_next 4 = .ok (.aload_n 0, 1) := by decide +kernel
theorem dX4_next_5 : decode cX4_next 5 = .ok (.invokevirtual 100, 3) := by decide +kernel
theorem dX4_next_8 : decode cX4_next 8 = .ok (.iaload, 1) := by decide +kernel
theorem dX4_next_9 : decode cX4_next 9 = .ok (.istore_n 1, 1) := by decide +kernel
theorem dX4_next_10 : decode cX4_next 10 = .ok (.iconst 0, 1) := by decide +kernel
theorem dX4_next_11 : decode cX4_next 11 = .ok (.istore_n 2, 1) := by decide +kernel
theorem dX4_next_12 : decode cX4_next 12 = .ok (.iload_n 2, 1) := by decide +kernel
theorem dX4_next_13 : decode cX4_next 13 = .ok (.bipush 7, 2) := by decide +kernel
theorem dX4_next_15 : decode cX4_next 15 = .ok (.aload_n 0, 1) := by decide +kernel
theorem dX4_next_16 : decode cX4_next 16 = .ok (.getfield 13, 3) := by decide +kernel
theorem dX4_next_19 : decode cX4_next 19 = .ok (.iconst 0, 1) := by decide +kernel
theorem dX4_next_20 : decode cX4_next 20 = .ok (.iaload, 1) := by decide +kernel
theorem dX4_next_21 : decode cX4_next 21 = .ok (.imul, 1) := by decide +kernel
theorem dX4_next_22 : decode cX4_next 22 = .ok (.if_icmp .ge 73, 3) := by decide +kernel
theorem dX4_next_25 : decode cX4_next 25 = .ok (.iload_n 2, 1) := by decide +kernel
theorem dX4_next_26 : decode cX4_next 26 = .ok (.bipush 7, 2) := by decide +kernel
theorem dX4_next_28 : decode cX4_next 28 = .ok (.idiv, 1) := by decide +kernel
theorem dX4_next_29 : decode cX4_next 29 = .ok (.istore_n 3, 1) := by decide +kernel
theorem dX4_next_30 : decode cX4_next 30 = .ok (.iload_n 2, 1) := by decide +kernel
theorem dX4_next_31 : decode cX4_next 31 = .ok (.bipush 7, 2) := by decide +kernel
theorem dX4_next_33 : decode cX4_next 33 = .ok (.irem, 1) := by decide +kernel
theorem dX4_next_34 : decode cX4_next 34 = .ok (.iconst 3, 1) := by decide +kernel
theorem dX4_next_35 : decode cX4_next 35 = .ok (.isub, 1) := by decide +kernel
theorem dX4_next_36 : decode cX4_next 36 = .ok (.istore 4, 2) := by decide +kernel
theorem dX4_next_38 : decode cX4_next 38 = .ok (.iload 4, 2) := by decide +kernel
theorem dX4_next_40 : decode cX4_next 40 = .ok (.ifCond .eq 49, 3) := by decide +kernel
theorem dX4_next_43 : decode cX4_next 43 = .ok (.aload_n 0, 1) := by decide +kernel
theorem dX4_next_44 : decode cX4_next 44 = .ok (.iload_n 3, 1) := by decide +kernel
theorem dX4_next_45 : decode cX4_next 45 = .ok (.iload 4, 2) := by decide +kernel
theorem dX4_next_47 : decode cX4_next 47 = .ok (.invokevirtual 119, 3) := by decide +kernel
theorem dX4_next_50 : decode cX4_next 50 = .ok (.ifCond .eq 39, 3) := by decide +kernel
theorem dX4_next_53 : decode cX4_next 53 = .ok (.aload_n 0, 1) := by decide +kernel
theorem dX4_next_54 : decode cX4_next 54 = .ok (.invokevirtual 100, 3) := by decide +kernel
theorem dX4_next_57 : decode cX4_next 57 = .ok (.iload 4, 2) := by decide +kernel
theorem dX4_next_59 : decode cX4_next 59 = .ok (.iconst 2, 1) := by decide +kernel
theorem dX4_next_60 : decode cX4_next 60 = .ok (.iload_n 3, 1) := by decide +kernel
theorem dX4_next_61 : decode cX4_next 61 = .ok (.imul, 1) := by decide +kernel
theorem dX4_next_62 : decode cX4_next 62 = .ok (.ishl, 1) := by decide +kernel
theorem dX4_next_63 : decode cX4_next 63 = .ok (.iadd, 1) := by decide +kernel
theorem dX4_next_64 : decode cX4_next 64 = .ok (.istore 5, 2) := by decide +kernel
theorem dX4_next_66 : decode cX4_next 66 = .ok (.aload_n 0, 1) := by decide +kernel
theorem dX4_next_67 : decode cX4_next 67 = .ok (.getfield 25, 3) := by decide +kernel
theorem dX4_next_70 : decode cX4_next 70 = .ok (.iload 5, 2) := by decide +kernel
theorem dX4_next_72 : decode cX4_next 72 = .ok (.iaload, 1) := by decide +kernel
theorem dX4_next_73 : decode cX4_next 73 = .ok (.iload_n 1, 1) := by decide +kernel
theorem dX4_next_74 : decode cX4_next 74 = .ok (.iconst 1, 1) := by decide +kernel
theorem dX4_next_75 : decode cX4_next 75 = .ok (.isub, 1) := by decide +kernel
theorem dX4_next_76 : decode cX4_next 76 = .ok (.if_icmp .ne 13, 3) := by decide +kernel
theorem dX4_next_79 : decode cX4_next 79 = .ok (.bipush 8, 2) := by decide +kernel
theorem dX4_next_81 : decode cX4_next 81 = .ok (.iload_n 3, 1) := by decide +kernel
theorem dX4_next_82 : decode cX4_next 82 = .ok (.imul, 1) := by decide +kernel
theorem dX4_next_83 : decode cX4_next 83 = .ok (.iload 4, 2) := by decide +kernel
theorem dX4_next_85 : decode cX4_next 85 = .ok (.iadd, 1) := by decide +kernel
theorem dX4_next_86 : decode cX4_next 86 = .ok (.iconst 3, 1) := by decide +kernel
theorem dX4_next_87 : decode cX4_next 87 = .ok (.iadd, 1) := by decide +kernel
theorem dX4_next_88 : decode cX4_next 88 = .ok (.ireturn, 1) := by decide +kernel
theorem dX4_next_89 : decode cX4_next 89 = .ok (.iinc 2 1, 3) := by decide +kernel
theorem dX4_next_92 : decode cX4_next 92 = .ok (.goto (-80), 3) := by decide +kernel
theorem dX4_next_95 : decode cX4_next 95 = .ok (.iconst (-1), 1) := by decide +kernel
theorem dX4_next_96 : decode cX4_next 96 = .ok (.ireturn, 1) := by decide +kernel
theorem dX4_planned_0 : decode cX4_planned 0 = .ok (.aload_n 0, 1) := by decide +kernel
theorem dX4_planned_1 : decode cX4_planned 1 = .ok (.aload_n 0, 1) := by decide +kernel
theorem dX4_planned_2 : decode cX4_planned 2 = .ok (.getfield 13, 3) := by decide +kernel
theorem dX4_planned_5 : decode cX4_planned 5 = .ok (.iconst 0, 1) := by decide +kernel
theorem dX4_planned_6 : decode cX4_planned 6 = .ok (.iaload, 1) := by decide +kernel
theorem dX4_planned_7 : decode cX4_planned 7 = .ok (.aload_n 0, 1) := by decide +kernel
theorem dX4_planned_8 : decode cX4_planned 8 = .ok (.getfield 13, 3) := by decide +kernel
theorem dX4_planned_11 : decode cX4_planned 11 = .ok (.bipush 19, 2) := by decide +kernel
theorem dX4_planned_13 : decode cX4_planned 13 = .ok (.iaload, 1) := by decide +kernel
theorem dX4_planned_14 : decode cX4_planned 14 = .ok (.invokevirtual 97, 3) := by decide +kernel
theorem dX4_planned_17 : decode cX4_planned 17 = .ok (.aload_n 0, 1) := by decide +kernel
theorem dX4_planned_18 : decode cX4_planned 18 = .ok (.getfield 61, 3) := by decide +kernel
theorem dX4_planned_21 : decode cX4_planned 21 = .ok (.ifCond .ne 5, 3) := by decide +kernel
theorem dX4_planned_24 : decode cX4_planned 24 = .ok (.iconst (-1), 1) := by decide +kernel
theorem dX4_planned_25 : decode cX4_planned 25 = .ok (.ireturn, 1) := by decide +kernel
theorem dX4_planned_26 : decode cX4_planned 26 = .ok (.aload_n 0, 1) := by decide +kernel
theorem dX4_planned_27 : decode cX4_planned 27 = .ok (.invokevirtual 109, 3) := by decide +kernel
theorem dX4_planned_30 : decode cX4_planned 30 = .ok (.aload_n 0, 1) := by decide +kernel
theorem dX4_planned_31 : decode cX4_planned 31 = .ok (.getfield 25, 3) := by decide +kernel
theorem dX4_planned_34 : decode cX4_planned 34 = .ok (.aload_n 0, 1) := by decide +kernel
theorem dX4_planned_35 : decode cX4_planned 35 = .ok (.invokevirtual 100, 3) := by decide +kernel
theorem dX4_planned_38 : decode cX4_planned 38 = .ok (.iaload, 1) := by decide +kernel
theorem dX4_planned_39 : decode cX4_planned 39 = .ok (.ireturn, 1) := by decide +kernel
theorem dX4_saves_0 : decode cX4_saves 0 = .ok (.aload_n 0, 1) := by decide +kernel
theorem dX4_saves_1 : decode cX4_saves 1 = .ok (.getfield 123, 3) := by decide +kernel
theorem dX4_saves_4 : decode cX4_saves 4 = .ok (.iconst 5, 1) := by decide +kernel
theorem dX4_saves_5 : decode cX4_saves 5 = .ok (.if_icmp .ne 43, 3) := by decide +kernel
theorem dX4_saves_8 : decode cX4_saves 8 = .ok (.iconst 0, 1) := by decide +kernel
theorem dX4_saves_9 : decode cX4_saves 9 = .ok (.istore_n 1, 1) := by decide +kernel
theorem dX4_saves_10 : decode cX4_saves 10 = .ok (.iload_n 1, 1) := by decide +kernel
theorem dX4_saves_11 : decode cX4_saves 11 = .ok (.sipush 328, 3) := by decide +kernel
theorem dX4_saves_14 : decode cX4_saves 14 = .ok (.if_icmp .ge 24, 3) := by decide +kernel
theorem dX4_saves_17 : decode cX4_saves 17 = .ok (.aload_n 0, 1) := by decide +kernel
theorem dX4_saves_18 : decode cX4_saves 18 = .ok (.getfield 16, 3) := by decide +kernel
theorem dX4_saves_21 : decode cX4_saves 21 = .ok (.iload_n 1, 1) := by decide +kernel
theorem dX4_saves_22 : decode cX4_saves 22 = .ok (.aload_n 0, 1) := by decide +kernel
theorem dX4_saves_23 : decode cX4_saves 23 = .ok (.getfield 16, 3) := by decide +kernel
theorem dX4_saves_26 : decode cX4_saves 26 = .ok (.iload_n 1, 1) := by decide +kernel
theorem dX4_saves_27 : decode cX4_saves 27 = .ok (.bipush 82, 2) := by decide +kernel
theorem dX4_saves_29 : decode cX4_saves 29 = .ok (.iadd, 1) := by decide +kernel
theorem dX4_saves_30 : decode cX4_saves 30 = .ok (.iaload, 1) := by decide +kernel
theorem dX4_saves_31 : decode cX4_saves 31 = .ok (.iastore, 1) := by decide +kernel
theorem dX4_saves_32 : decode cX4_saves 32 = .ok (.iinc 1 1, 3) := by decide +kernel
theorem dX4_saves_35 : decode cX4_saves 35 = .ok (.goto (-25), 3) := by decide +kernel
theorem dX4_saves_38 : decode cX4_saves 38 = .ok (.aload_n 0, 1) := by decide +kernel
theorem dX4_saves_39 : decode cX4_saves 39 = .ok (.dup, 1) := by decide +kernel
theorem dX4_saves_40 : decode cX4_saves 40 = .ok (.getfield 123, 3) := by decide +kernel
theorem dX4_saves_43 : decode cX4_saves 43 = .ok (.iconst 1, 1) := by decide +kernel
theorem dX4_saves_44 : decode cX4_saves 44 = .ok (.isub, 1) := by decide +kernel
theorem dX4_saves_45 : decode cX4_saves 45 = .ok (.putfield 123, 3) := by decide +kernel
theorem dX4_saves_48 : decode cX4_saves 48 = .ok (.aload_n 0, 1) := by decide +kernel
theorem dX4_saves_49 : decode cX4_saves 49 = .ok (.getfield 13, 3) := by decide +kernel
theorem dX4_saves_52 : decode cX4_saves 52 = .ok (.iconst 0, 1) := by decide +kernel
theorem dX4_saves_53 : decode cX4_saves 53 = .ok (.aload_n 0, 1) := by decide +kernel
theorem dX4_saves_54 : decode cX4_saves 54 = .ok (.getfield 16, 3) := by decide +kernel
theorem dX4_saves_57 : decode cX4_saves 57 = .ok (.bipush 82, 2) := by decide +kernel
theorem dX4_saves_59 : decode cX4_saves 59 = .ok (.aload_n 0, 1) := by decide +kernel
theorem dX4_saves_60 : decode cX4_saves 60 = .ok (.getfield 123, 3) := by decide +kernel
theorem dX4_saves_63 : decode cX4_saves 63 = .ok (.imul, 1) := by decide +kernel
theorem dX4_saves_64 : decode cX4_saves 64 = .ok (.invokestatic 126, 3) := by decide +kernel
theorem dX4_saves_67 : decode cX4_saves 67 = .ok (.aload_n 0, 1) := by decide +kernel
theorem dX4_saves_68 : decode cX4_saves 68 = .ok (.dup, 1) := by decide +kernel
theorem dX4_saves_69 : decode cX4_saves 69 = .ok (.getfield 123, 3) := by decide +kernel
theorem dX4_saves_72 : decode cX4_saves 72 = .ok (.iconst 1, 1) := by decide +kernel
theorem dX4_saves_73 : decode cX4_saves 73 = .ok (.iadd, 1) := by decide +kernel
theorem dX4_saves_74 : decode cX4_saves 74 = .ok (.putfield 123, 3) := by decide +kernel
theorem dX4_saves_77 : decode cX4_saves 77 = .ok (.return_, 1) := by decide +kernel
theorem dX4_wrongCar_0 : decode cX4_wrongCar 0 = .ok (.iload_n 1, 1) := by decide +kernel
theorem dX4_wrongCar_1 : decode cX4_wrongCar 1 = .ok (.i2l, 1) := by decide +kernel
theorem dX4_wrongCar_2 : decode cX4_wrongCar 2 = .ok (.lconst 0, 1) := by decide +kernel
theorem dX4_wrongCar_3 : decode cX4_wrongCar 3 = .ok (.ldc2_w 130, 3) := by decide +kernel
theorem dX4_wrongCar_6 : decode cX4_wrongCar 6 = .ok (.invokestatic 47, 3) := by decide +kernel
theorem dX4_wrongCar_9 : decode cX4_wrongCar 9 = .ok (.ifCond .ne 5, 3) := by decide +kernel
theorem dX4_wrongCar_12 : decode cX4_wrongCar 12 = .ok (.iconst 1, 1) := by decide +kernel
theorem dX4_wrongCar_13 : decode cX4_wrongCar 13 = .ok (.ireturn, 1) := by decide +kernel
theorem dX4_wrongCar_14 : decode cX4_wrongCar 14 = .ok (.iload_n 3, 1) := by decide +kernel
theorem dX4_wrongCar_15 : decode cX4_wrongCar 15 = .ok (.i2l, 1) := by decide +kernel
theorem dX4_wrongCar_16 : decode cX4_wrongCar 16 = .ok (.ldc2_w 132, 3) := by decide +kernel
theorem dX4_wrongCar_19 : decode cX4_wrongCar 19 = .ok (.ldc2_w 73, 3) := by decide +kernel
theorem dX4_wrongCar_22 : decode cX4_wrongCar 22 = .ok (.invokestatic 47, 3) := by decide +kernel
theorem dX4_wrongCar_25 : decode cX4_wrongCar 25 = .ok (.ifCond .eq 16, 3) := by decide +kernel
theorem dX4_wrongCar_28 : decode cX4_wrongCar 28 = .ok (.iload_n 2, 1) := by decide +kernel
theorem dX4_wrongCar_29 : decode cX4_wrongCar 29 = .ok (.i2l, 1) := by decide +kernel
theorem dX4_wrongCar_30 : decode cX4_wrongCar 30 = .ok (.lconst 0, 1) := by decide +kernel
theorem dX4_wrongCar_31 : decode cX4_wrongCar 31 = .ok (.iconst 5, 1) := by decide +kernel
theorem dX4_wrongCar_32 : decode cX4_wrongCar 32 = .ok (.iload_n 3, 1) := by decide +kernel
theorem dX4_wrongCar_33 : decode cX4_wrongCar 33 = .ok (.isub, 1) := by decide +kernel
theorem dX4_wrongCar_34 : decode cX4_wrongCar 34 = .ok (.i2l, 1) := by decide +kernel
theorem dX4_wrongCar_35 : decode cX4_wrongCar 35 = .ok (.invokestatic 47, 3) := by decide +kernel
theorem dX4_wrongCar_38 : decode cX4_wrongCar 38 = .ok (.ifCond .ne 5, 3) := by decide +kernel
theorem dX4_wrongCar_41 : decode cX4_wrongCar 41 = .ok (.iconst 2, 1) := by decide +kernel
theorem dX4_wrongCar_42 : decode cX4_wrongCar 42 = .ok (.ireturn, 1) := by decide +kernel
theorem dX4_wrongCar_43 : decode cX4_wrongCar 43 = .ok (.aload_n 0, 1) := by decide +kernel
theorem dX4_wrongCar_44 : decode cX4_wrongCar 44 = .ok (.getfield 13, 3) := by decide +kernel
theorem dX4_wrongCar_47 : decode cX4_wrongCar 47 = .ok (.iconst 0, 1) := by decide +kernel
theorem dX4_wrongCar_48 : decode cX4_wrongCar 48 = .ok (.iaload, 1) := by decide +kernel
theorem dX4_wrongCar_49 : decode cX4_wrongCar 49 = .ok (.bipush 6, 2) := by decide +kernel
theorem dX4_wrongCar_51 : decode cX4_wrongCar 51 = .ok (.if_icmp .eq 31, 3) := by decide +kernel
theorem dX4_wrongCar_54 : decode cX4_wrongCar 54 = .ok (.iload_n 1, 1) := by decide +kernel
theorem dX4_wrongCar_55 : decode cX4_wrongCar 55 = .ok (.iload_n 2, 1) := by decide +kernel
theorem dX4_wrongCar_56 : decode cX4_wrongCar 56 = .ok (.iload_n 3, 1) := by decide +kernel
theorem dX4_wrongCar_57 : decode cX4_wrongCar 57 = .ok (.invokestatic 39, 3) := by decide +kernel
theorem dX4_wrongCar_60 : decode cX4_wrongCar 60 = .ok (.aload_n 0, 1) := by decide +kernel
theorem dX4_wrongCar_61 : decode cX4_wrongCar 61 = .ok (.invokevirtual 53, 3) := by decide +kernel
theorem dX4_wrongCar_64 : decode cX4_wrongCar 64 = .ok (.iand, 1) := by decide +kernel
theorem dX4_wrongCar_65 : decode cX4_wrongCar 65 = .ok (.ifCond .ne 17, 3) := by decide +kernel
theorem dX4_wrongCar_68 : decode cX4_wrongCar 68 = .ok (.aload_n 0, 1) := by decide +kernel
theorem dX4_wrongCar_69 : decode cX4_wrongCar 69 = .ok (.getfield 13, 3) := by decide +kernel
theorem dX4_wrongCar_72 : decode cX4_wrongCar 72 = .ok (.iconst 0, 1) := by decide +kernel
theorem dX4_wrongCar_73 : decode cX4_wrongCar 73 = .ok (.iaload, 1) := by decide +kernel
theorem dX4_wrongCar_74 : decode cX4_wrongCar 74 = .ok (.ifCond .ne 12, 3) := by decide +kernel
theorem dX4_wrongCar_77 : decode cX4_wrongCar 77 = .ok (.iload_n 1, 1) := by decide +kernel
theorem dX4_wrongCar_78 : decode cX4_wrongCar 78 = .ok (.iconst 5, 1) := by decide +kernel
theorem dX4_wrongCar_79 : decode cX4_wrongCar 79 = .ok (.if_icmp .lt 7, 3) := by decide +kernel
theorem dX4_wrongCar_82 : decode cX4_wrongCar 82 = .ok (.iconst 3, 1) := by decide +kernel
theorem dX4_wrongCar_83 : decode cX4_wrongCar 83 = .ok (.goto 4, 3) := by decide +kernel
theorem dX4_wrongCar_86 : decode cX4_wrongCar 86 = .ok (.iconst 0, 1) := by decide +kernel
theorem dX4_wrongCar_87 : decode cX4_wrongCar 87 = .ok (.ireturn, 1) := by decide +kernel
theorem dX4_addOn_0 : decode cX4_addOn 0 = .ok (.aload_n 0, 1) := by decide +kernel
theorem dX4_addOn_1 : decode cX4_addOn 1 = .ok (.getfield 13, 3) := by decide +kernel
theorem dX4_addOn_4 : decode cX4_addOn 4 = .ok (.iconst 0, 1) := by decide +kernel
theorem dX4_addOn_5 : decode cX4_addOn 5 = .ok (.iaload, 1) := by decide +kernel
theorem dX4_addOn_6 : decode cX4_addOn 6 = .ok (.istore 4, 2) := by decide +kernel
theorem dX4_addOn_8 : decode cX4_addOn 8 = .ok (.aload_n 0, 1) := by decide +kernel
theorem dX4_addOn_9 : decode cX4_addOn 9 = .ok (.getfield 13, 3) := by decide +kernel
theorem dX4_addOn_12 : decode cX4_addOn 12 = .ok (.iconst 1, 1) := by decide +kernel
theorem dX4_addOn_13 : decode cX4_addOn 13 = .ok (.iload 4, 2) := by decide +kernel
theorem dX4_addOn_15 : decode cX4_addOn 15 = .ok (.iadd, 1) := by decide +kernel
theorem dX4_addOn_16 : decode cX4_addOn 16 = .ok (.iload_n 1, 1) := by decide +kernel
theorem dX4_addOn_17 : decode cX4_addOn 17 = .ok (.iastore, 1) := by decide +kernel
theorem dX4_addOn_18 : decode cX4_addOn 18 = .ok (.aload_n 0, 1) := by decide +kernel
theorem dX4_addOn_19 : decode cX4_addOn 19 = .ok (.getfield 13, 3) := by decide +kernel
theorem dX4_addOn_22 : decode cX4_addOn 22 = .ok (.bipush 7, 2) := by decide +kernel
theorem dX4_addOn_24 : decode cX4_addOn 24 = .ok (.iload 4, 2) := by decide +kernel
theorem dX4_addOn_26 : decode cX4_addOn 26 = .ok (.iadd, 1) := by decide +kernel
theorem dX4_addOn_27 : decode cX4_addOn 27 = .ok (.iload_n 2, 1) := by decide +kernel
theorem dX4_addOn_28 : decode cX4_addOn 28 = .ok (.iastore, 1) := by decide +kernel
theorem dX4_addOn_29 : decode cX4_addOn 29 = .ok (.aload_n 0, 1) := by decide +kernel
theorem dX4_addOn_30 : decode cX4_addOn 30 = .ok (.getfield 13, 3) := by decide +kernel
theorem dX4_addOn_33 : decode cX4_addOn 33 = .ok (.bipush 13, 2) := by decide +kernel
theorem dX4_addOn_35 : decode cX4_addOn 35 = .ok (.iload 4, 2) := by decide +kernel
theorem dX4_addOn_37 : decode cX4_addOn 37 = .ok (.iadd, 1) := by decide +kernel
theorem dX4_addOn_38 : decode cX4_addOn 38 = .ok (.iload_n 3, 1) := by decide +kernel
theorem dX4_addOn_39 : decode cX4_addOn 39 = .ok (.iastore, 1) := by decide +kernel
theorem dX4_addOn_40 : decode cX4_addOn 40 = .ok (.aload_n 0, 1) := by decide +kernel
theorem dX4_addOn_41 : decode cX4_addOn 41 = .ok (.getfield 13, 3) := by decide +kernel
theorem dX4_addOn_44 : decode cX4_addOn 44 = .ok (.iconst 0, 1) := by decide +kernel
theorem dX4_addOn_45 : decode cX4_addOn 45 = .ok (.dup2, 1) := by decide +kernel
theorem dX4_addOn_46 : decode cX4_addOn 46 = .ok (.iaload, 1) := by decide +kernel
theorem dX4_addOn_47 : decode cX4_addOn 47 = .ok (.iconst 1, 1) := by decide +kernel
theorem dX4_addOn_48 : decode cX4_addOn 48 = .ok (.iadd, 1) := by decide +kernel
theorem dX4_addOn_49 : decode cX4_addOn 49 = .ok (.iastore, 1) := by decide +kernel
theorem dX4_addOn_50 : decode cX4_addOn 50 = .ok (.aload_n 0, 1) := by decide +kernel
theorem dX4_addOn_51 : decode cX4_addOn 51 = .ok (.getfield 13, 3) := by decide +kernel
theorem dX4_addOn_54 : decode cX4_addOn 54 = .ok (.bipush 20, 2) := by decide +kernel
theorem dX4_addOn_56 : decode cX4_addOn 56 = .ok (.iconst 0, 1) := by decide +kernel
theorem dX4_addOn_57 : decode cX4_addOn 57 = .ok (.iastore, 1) := by decide +kernel
theorem dX4_addOn_58 : decode cX4_addOn 58 = .ok (.iload 4, 2) := by decide +kernel
theorem dX4_addOn_60 : decode cX4_addOn 60 = .ok (.ireturn, 1) := by decide +kernel
theorem dX4_hasWall_0 : decode cX4_hasWall 0 = .ok (.aload_n 0, 1) := by decide +kernel
theorem dX4_hasWall_1 : decode cX4_hasWall 1 = .ok (.getfield 13, 3) := by decide +kernel
theorem dX4_hasWall_4 : decode cX4_hasWall 4 = .ok (.bipush 19, 2) := by decide +kernel
theorem dX4_hasWall_6 : decode cX4_hasWall 6 = .ok (.iaload, 1) := by decide +kernel
theorem dX4_hasWall_7 : decode cX4_hasWall 7 = .ok (.iload_n 1, 1) := by decide +kernel
theorem dX4_hasWall_8 : decode cX4_hasWall 8 = .ok (.ishr, 1) := by decide +kernel
theorem dX4_hasWall_9 : decode cX4_hasWall 9 = .ok (.iconst 1, 1) := by decide +kernel
theorem dX4_hasWall_10 : decode cX4_hasWall 10 = .ok (.iand, 1) := by decide +kernel
theorem dX4_hasWall_11 : decode cX4_hasWall 11 = .ok (.iconst 1, 1) := by decide +kernel
theorem dX4_hasWall_12 : decode cX4_hasWall 12 = .ok (.if_icmp .ne 7, 3) := by decide +kernel
theorem dX4_hasWall_15 : decode cX4_hasWall 15 = .ok (.iconst 1, 1) := by decide +kernel
theorem dX4_hasWall_16 : decode cX4_hasWall 16 = .ok (.goto 4, 3) := by decide +kernel
theorem dX4_hasWall_19 : decode cX4_hasWall 19 = .ok (.iconst 0, 1) := by decide +kernel
theorem dX4_hasWall_20 : decode cX4_hasWall 20 = .ok (.ireturn, 1) := by decide +kernel
theorem dX4_canTurn_0 : decode cX4_canTurn 0 = .ok (.aload_n 0, 1) := by decide +kernel
theorem dX4_canTurn_1 : decode cX4_canTurn 1 = .ok (.iload_n 1, 1) := by decide +kernel
theorem dX4_canTurn_2 : decode cX4_canTurn 2 = .ok (.invokevirtual 134, 3) := by decide +kernel
theorem dX4_canTurn_5 : decode cX4_canTurn 5 = .ok (.ifCond .ne 28, 3) := by decide +kernel
theorem dX4_canTurn_8 : decode cX4_canTurn 8 = .ok (.aload_n 0, 1) := by decide +kernel
theorem dX4_canTurn_9 : decode cX4_canTurn 9 = .ok (.invokevirtual 53, 3) := by decide +kernel
theorem dX4_canTurn_12 : decode cX4_canTurn 12 = .ok (.iload_n 1, 1) := by decide +kernel
theorem dX4_canTurn_13 : decode cX4_canTurn 13 = .ok (.ishr, 1) := by decide +kernel
theorem dX4_canTurn_14 : decode cX4_canTurn 14 = .ok (.iconst 1, 1) := by decide +kernel
theorem dX4_canTurn_15 : decode cX4_canTurn 15 = .ok (.iand, 1) := by decide +kernel
theorem dX4_canTurn_16 : decode cX4_canTurn 16 = .ok (.ifCond .ne 21, 3) := by decide +kernel
theorem dX4_canTurn_19 : decode cX4_canTurn 19 = .ok (.aload_n 0, 1) := by decide +kernel
theorem dX4_canTurn_20 : decode cX4_canTurn 20 = .ok (.getfield 13, 3) := by decide +kernel
theorem dX4_canTurn_23 : decode cX4_canTurn 23 = .ok (.bipush 19, 2) := by decide +kernel
theorem dX4_canTurn_25 : decode cX4_canTurn 25 = .ok (.iaload, 1) := by decide +kernel
theorem dX4_canTurn_26 : decode cX4_canTurn 26 = .ok (.invokestatic 137, 3) := by decide +kernel
theorem dX4_canTurn_29 : decode cX4_canTurn 29 = .ok (.iconst 4, 1) := by decide +kernel
theorem dX4_canTurn_30 : decode cX4_canTurn 30 = .ok (.if_icmp .ge 7, 3) := by decide +kernel
theorem dX4_canTurn_33 : decode cX4_canTurn 33 = .ok (.iconst 1, 1) := by decide +kernel
theorem dX4_canTurn_34 : decode cX4_canTurn 34 = .ok (.goto 4, 3) := by decide +kernel
theorem dX4_canTurn_37 : decode cX4_canTurn 37 = .ok (.iconst 0, 1) := by decide +kernel
theorem dX4_canTurn_38 : decode cX4_canTurn 38 = .ok (.ireturn, 1) := by decide +kernel
theorem dX4_turnOn_0 : decode cX4_turnOn 0 = .ok (.aload_n 0, 1) := by decide +kernel
theorem dX4_turnOn_1 : decode cX4_turnOn 1 = .ok (.getfield 13, 3) := by decide +kernel
theorem dX4_turnOn_4 : decode cX4_turnOn 4 = .ok (.bipush 19, 2) := by decide +kernel
theorem dX4_turnOn_6 : decode cX4_turnOn 6 = .ok (.dup2, 1) := by decide +kernel
theorem dX4_turnOn_7 : decode cX4_turnOn 7 = .ok (.iaload, 1) := by decide +kernel
theorem dX4_turnOn_8 : decode cX4_turnOn 8 = .ok (.iconst 1, 1) := by decide +kernel
theorem dX4_turnOn_9 : decode cX4_turnOn 9 = .ok (.iload_n 1, 1) := by decide +kernel
theorem dX4_turnOn_10 : decode cX4_turnOn 10 = .ok (.ishl, 1) := by decide +kernel
theorem dX4_turnOn_11 : decode cX4_turnOn 11 = .ok (.ixor, 1) := by decide +kernel
theorem dX4_turnOn_12 : decode cX4_turnOn 12 = .ok (.iastore, 1) := by decide +kernel
theorem dX4_turnOn_13 : decode cX4_turnOn 13 = .ok (.aload_n 0, 1) := by decide +kernel
theorem dX4_turnOn_14 : decode cX4_turnOn 14 = .ok (.getfield 13, 3) := by decide +kernel
theorem dX4_turnOn_17 : decode cX4_turnOn 17 = .ok (.bipush 20, 2) := by decide +kernel
theorem dX4_turnOn_19 : decode cX4_turnOn 19 = .ok (.iconst 0, 1) := by decide +kernel
theorem dX4_turnOn_20 : decode cX4_turnOn 20 = .ok (.iastore, 1) := by decide +kernel
theorem dX4_turnOn_21 : decode cX4_turnOn 21 = .ok (.aload_n 0, 1) := by decide +kernel
theorem dX4_turnOn_22 : decode cX4_turnOn 22 = .ok (.iload_n 1, 1) := by decide +kernel
theorem dX4_turnOn_23 : decode cX4_turnOn 23 = .ok (.invokevirtual 134, 3) := by decide +kernel
theorem dX4_turnOn_26 : decode cX4_turnOn 26 = .ok (.ireturn, 1) := by decide +kernel
theorem dX4_slideOn_0 : decode cX4_slideOn 0 = .ok (.aload_n 0, 1) := by decide +kernel
theorem dX4_slideOn_1 : decode cX4_slideOn 1 = .ok (.getfield 13, 3) := by decide +kernel
theorem dX4_slideOn_4 : decode cX4_slideOn 4 = .ok (.bipush 21, 2) := by decide +kernel
theorem dX4_slideOn_6 : decode cX4_slideOn 6 = .ok (.aload_n 0, 1) := by decide +kernel
theorem dX4_slideOn_7 : decode cX4_slideOn 7 = .ok (.getfield 13, 3) := by decide +kernel
theorem dX4_slideOn_10 : decode cX4_slideOn 10 = .ok (.bipush 20, 2) := by decide +kernel
theorem dX4_slideOn_12 : decode cX4_slideOn 12 = .ok (.iaload, 1) := by decide +kernel
theorem dX4_slideOn_13 : decode cX4_slideOn 13 = .ok (.iadd, 1) := by decide +kernel
theorem dX4_slideOn_14 : decode cX4_slideOn 14 = .ok (.bipush 8, 2) := by decide +kernel
theorem dX4_slideOn_16 : decode cX4_slideOn 16 = .ok (.iload_n 1, 1) := by decide +kernel
theorem dX4_slideOn_17 : decode cX4_slideOn 17 = .ok (.imul, 1) := by decide +kernel
theorem dX4_slideOn_18 : decode cX4_slideOn 18 = .ok (.iload_n 2, 1) := by decide +kernel
theorem dX4_slideOn_19 : decode cX4_slideOn 19 = .ok (.iadd, 1) := by decide +kernel
theorem dX4_slideOn_20 : decode cX4_slideOn 20 = .ok (.iconst 3, 1) := by decide +kernel
theorem dX4_slideOn_21 : decode cX4_slideOn 21 = .ok (.iadd, 1) := by decide +kernel
theorem dX4_slideOn_22 : decode cX4_slideOn 22 = .ok (.iastore, 1) := by decide +kernel
theorem dX4_slideOn_23 : decode cX4_slideOn 23 = .ok (.aload_n 0, 1) := by decide +kernel
theorem dX4_slideOn_24 : decode cX4_slideOn 24 = .ok (.getfield 13, 3) := by decide +kernel
theorem dX4_slideOn_27 : decode cX4_slideOn 27 = .ok (.bipush 20, 2) := by decide +kernel
theorem dX4_slideOn_29 : decode cX4_slideOn 29 = .ok (.dup2, 1) := by decide +kernel
theorem dX4_slideOn_30 : decode cX4_slideOn 30 = .ok (.iaload, 1) := by decide +kernel
theorem dX4_slideOn_31 : decode cX4_slideOn 31 = .ok (.iconst 1, 1) := by decide +kernel
theorem dX4_slideOn_32 : decode cX4_slideOn 32 = .ok (.iadd, 1) := by decide +kernel
theorem dX4_slideOn_33 : decode cX4_slideOn 33 = .ok (.iastore, 1) := by decide +kernel
theorem dX4_slideOn_34 : decode cX4_slideOn 34 = .ok (.aload_n 0, 1) := by decide +kernel
theorem dX4_slideOn_35 : decode cX4_slideOn 35 = .ok (.getfield 13, 3) := by decide +kernel
theorem dX4_slideOn_38 : decode cX4_slideOn 38 = .ok (.bipush 7, 2) := by decide +kernel
theorem dX4_slideOn_40 : decode cX4_slideOn 40 = .ok (.iload_n 1, 1) := by decide +kernel
theorem dX4_slideOn_41 : decode cX4_slideOn 41 = .ok (.iadd, 1) := by decide +kernel
theorem dX4_slideOn_42 : decode cX4_slideOn 42 = .ok (.dup2, 1) := by decide +kernel
theorem dX4_slideOn_43 : decode cX4_slideOn 43 = .ok (.iaload, 1) := by decide +kernel
theorem dX4_slideOn_44 : decode cX4_slideOn 44 = .ok (.iload_n 2, 1) := by decide +kernel
theorem dX4_slideOn_45 : decode cX4_slideOn 45 = .ok (.iadd, 1) := by decide +kernel
theorem dX4_slideOn_46 : decode cX4_slideOn 46 = .ok (.iastore, 1) := by decide +kernel
theorem dX4_slideOn_47 : decode cX4_slideOn 47 = .ok (.aload_n 0, 1) := by decide +kernel
theorem dX4_slideOn_48 : decode cX4_slideOn 48 = .ok (.getfield 13, 3) := by decide +kernel
theorem dX4_slideOn_51 : decode cX4_slideOn 51 = .ok (.bipush 7, 2) := by decide +kernel
theorem dX4_slideOn_53 : decode cX4_slideOn 53 = .ok (.iload_n 1, 1) := by decide +kernel
theorem dX4_slideOn_54 : decode cX4_slideOn 54 = .ok (.iadd, 1) := by decide +kernel
theorem dX4_slideOn_55 : decode cX4_slideOn 55 = .ok (.iaload, 1) := by decide +kernel
theorem dX4_slideOn_56 : decode cX4_slideOn 56 = .ok (.ireturn, 1) := by decide +kernel
theorem dX4_logCar_0 : decode cX4_logCar 0 = .ok (.aload_n 0, 1) := by decide +kernel
theorem dX4_logCar_1 : decode cX4_logCar 1 = .ok (.getfield 13, 3) := by decide +kernel
theorem dX4_logCar_4 : decode cX4_logCar 4 = .ok (.bipush 21, 2) := by decide +kernel
theorem dX4_logCar_6 : decode cX4_logCar 6 = .ok (.iload_n 1, 1) := by decide +kernel
theorem dX4_logCar_7 : decode cX4_logCar 7 = .ok (.iadd, 1) := by decide +kernel
theorem dX4_logCar_8 : decode cX4_logCar 8 = .ok (.iaload, 1) := by decide +kernel
theorem dX4_logCar_9 : decode cX4_logCar 9 = .ok (.bipush 8, 2) := by decide +kernel
theorem dX4_logCar_11 : decode cX4_logCar 11 = .ok (.idiv, 1) := by decide +kernel
theorem dX4_logCar_12 : decode cX4_logCar 12 = .ok (.ireturn, 1) := by decide +kernel
theorem dX4_logBy_0 : decode cX4_logBy 0 = .ok (.aload_n 0, 1) := by decide +kernel
theorem dX4_logBy_1 : decode cX4_logBy 1 = .ok (.getfield 13, 3) := by decide +kernel
theorem dX4_logBy_4 : decode cX4_logBy 4 = .ok (.bipush 21, 2) := by decide +kernel
theorem dX4_logBy_6 : decode cX4_logBy 6 = .ok (.iload_n 1, 1) := by decide +kernel
theorem dX4_logBy_7 : decode cX4_logBy 7 = .ok (.iadd, 1) := by decide +kernel
theorem dX4_logBy_8 : decode cX4_logBy 8 = .ok (.iaload, 1) := by decide +kernel
theorem dX4_logBy_9 : decode cX4_logBy 9 = .ok (.bipush 8, 2) := by decide +kernel
theorem dX4_logBy_11 : decode cX4_logBy 11 = .ok (.irem, 1) := by decide +kernel
theorem dX4_logBy_12 : decode cX4_logBy 12 = .ok (.iconst 3, 1) := by decide +kernel
theorem dX4_logBy_13 : decode cX4_logBy 13 = .ok (.isub, 1) := by decide +kernel
theorem dX4_logBy_14 : decode cX4_logBy 14 = .ok (.ireturn, 1) := by decide +kernel
theorem dX4_backOn_0 : decode cX4_backOn 0 = .ok (.aload_n 0, 1) := by decide +kernel
theorem dX4_backOn_1 : decode cX4_backOn 1 = .ok (.getfield 13, 3) := by decide +kernel
theorem dX4_backOn_4 : decode cX4_backOn 4 = .ok (.bipush 20, 2) := by decide +kernel
theorem dX4_backOn_6 : decode cX4_backOn 6 = .ok (.dup2, 1) := by decide +kernel
theorem dX4_backOn_7 : decode cX4_backOn 7 = .ok (.iaload, 1) := by decide +kernel
theorem dX4_backOn_8 : decode cX4_backOn 8 = .ok (.iconst 1, 1) := by decide +kernel
theorem dX4_backOn_9 : decode cX4_backOn 9 = .ok (.isub, 1) := by decide +kernel
theorem dX4_backOn_10 : decode cX4_backOn 10 = .ok (.iastore, 1) := by decide +kernel
theorem dX4_backOn_11 : decode cX4_backOn 11 = .ok (.aload_n 0, 1) := by decide +kernel
theorem dX4_backOn_12 : decode cX4_backOn 12 = .ok (.aload_n 0, 1) := by decide +kernel
theorem dX4_backOn_13 : decode cX4_backOn 13 = .ok (.getfield 13, 3) := by decide +kernel
theorem dX4_backOn_16 : decode cX4_backOn 16 = .ok (.bipush 20, 2) := by decide +kernel
theorem dX4_backOn_18 : decode cX4_backOn 18 = .ok (.iaload, 1) := by decide +kernel
theorem dX4_backOn_19 : decode cX4_backOn 19 = .ok (.invokevirtual 140, 3) := by decide +kernel
theorem dX4_backOn_22 : decode cX4_backOn 22 = .ok (.istore_n 1, 1) := by decide +kernel
theorem dX4_backOn_23 : decode cX4_backOn 23 = .ok (.aload_n 0, 1) := by decide +kernel
theorem dX4_backOn_24 : decode cX4_backOn 24 = .ok (.getfield 13, 3) := by decide +kernel
theorem dX4_backOn_27 : decode cX4_backOn 27 = .ok (.bipush 7, 2) := by decide +kernel
theorem dX4_backOn_29 : decode cX4_backOn 29 = .ok (.iload_n 1, 1) := by decide +kernel
theorem dX4_backOn_30 : decode cX4_backOn 30 = .ok (.iadd, 1) := by decide +kernel
theorem dX4_backOn_31 : decode cX4_backOn 31 = .ok (.dup2, 1) := by decide +kernel
theorem dX4_backOn_32 : decode cX4_backOn 32 = .ok (.iaload, 1) := by decide +kernel
theorem dX4_backOn_33 : decode cX4_backOn 33 = .ok (.aload_n 0, 1) := by decide +kernel
theorem dX4_backOn_34 : decode cX4_backOn 34 = .ok (.aload_n 0, 1) := by decide +kernel
theorem dX4_backOn_35 : decode cX4_backOn 35 = .ok (.getfield 13, 3) := by decide +kernel
theorem dX4_backOn_38 : decode cX4_backOn 38 = .ok (.bipush 20, 2) := by decide +kernel
theorem dX4_backOn_40 : decode cX4_backOn 40 = .ok (.iaload, 1) := by decide +kernel
theorem dX4_backOn_41 : decode cX4_backOn 41 = .ok (.invokevirtual 143, 3) := by decide +kernel
theorem dX4_backOn_44 : decode cX4_backOn 44 = .ok (.isub, 1) := by decide +kernel
theorem dX4_backOn_45 : decode cX4_backOn 45 = .ok (.iastore, 1) := by decide +kernel
theorem dX4_backOn_46 : decode cX4_backOn 46 = .ok (.iload_n 1, 1) := by decide +kernel
theorem dX4_backOn_47 : decode cX4_backOn 47 = .ok (.ireturn, 1) := by decide +kernel
theorem dX4_canDrive_0 : decode cX4_canDrive 0 = .ok (.aload_n 0, 1) := by decide +kernel
theorem dX4_canDrive_1 : decode cX4_canDrive 1 = .ok (.invokevirtual 146, 3) := by decide +kernel
theorem dX4_canDrive_4 : decode cX4_canDrive 4 = .ok (.istore_n 1, 1) := by decide +kernel
theorem dX4_canDrive_5 : decode cX4_canDrive 5 = .ok (.iload_n 1, 1) := by decide +kernel
theorem dX4_canDrive_6 : decode cX4_canDrive 6 = .ok (.iconst (-1), 1) := by decide +kernel
theorem dX4_canDrive_7 : decode cX4_canDrive 7 = .ok (.if_icmp .eq 21, 3) := by decide +kernel
theorem dX4_canDrive_10 : decode cX4_canDrive 10 = .ok (.aload_n 0, 1) := by decide +kernel
theorem dX4_canDrive_11 : decode cX4_canDrive 11 = .ok (.getfield 13, 3) := by decide +kernel
theorem dX4_canDrive_14 : decode cX4_canDrive 14 = .ok (.bipush 20, 2) := by decide +kernel
theorem dX4_canDrive_16 : decode cX4_canDrive 16 = .ok (.iaload, 1) := by decide +kernel
theorem dX4_canDrive_17 : decode cX4_canDrive 17 = .ok (.iload_n 1, 1) := by decide +kernel
theorem dX4_canDrive_18 : decode cX4_canDrive 18 = .ok (.iadd, 1) := by decide +kernel
theorem dX4_canDrive_19 : decode cX4_canDrive 19 = .ok (.bipush 60, 2) := by decide +kernel
theorem dX4_canDrive_21 : decode cX4_canDrive 21 = .ok (.if_icmp .gt 7, 3) := by decide +kernel
theorem dX4_canDrive_24 : decode cX4_canDrive 24 = .ok (.iconst 1, 1) := by decide +kernel
theorem dX4_canDrive_25 : decode cX4_canDrive 25 = .ok (.goto 4, 3) := by decide +kernel
theorem dX4_canDrive_28 : decode cX4_canDrive 28 = .ok (.iconst 0, 1) := by decide +kernel
theorem dX4_canDrive_29 : decode cX4_canDrive 29 = .ok (.ireturn, 1) := by decide +kernel
theorem dX4_driveOn_0 : decode cX4_driveOn 0 = .ok (.aload_n 0, 1) := by decide +kernel
theorem dX4_driveOn_1 : decode cX4_driveOn 1 = .ok (.invokevirtual 146, 3) := by decide +kernel
theorem dX4_driveOn_4 : decode cX4_driveOn 4 = .ok (.istore_n 1, 1) := by decide +kernel
theorem dX4_driveOn_5 : decode cX4_driveOn 5 = .ok (.iconst 0, 1) := by decide +kernel
theorem dX4_driveOn_6 : decode cX4_driveOn 6 = .ok (.istore_n 2, 1) := by decide +kernel
theorem dX4_driveOn_7 : decode cX4_driveOn 7 = .ok (.iload_n 2, 1) := by decide +kernel
theorem dX4_driveOn_8 : decode cX4_driveOn 8 = .ok (.iload_n 1, 1) := by decide +kernel
theorem dX4_driveOn_9 : decode cX4_driveOn 9 = .ok (.if_icmp .ge 29, 3) := by decide +kernel
theorem dX4_driveOn_12 : decode cX4_driveOn 12 = .ok (.aload_n 0, 1) := by decide +kernel
theorem dX4_driveOn_13 : decode cX4_driveOn 13 = .ok (.invokevirtual 149, 3) := by decide +kernel
theorem dX4_driveOn_16 : decode cX4_driveOn 16 = .ok (.istore_n 3, 1) := by decide +kernel
theorem dX4_driveOn_17 : decode cX4_driveOn 17 = .ok (.aload_n 0, 1) := by decide +kernel
theorem dX4_driveOn_18 : decode cX4_driveOn 18 = .ok (.iload_n 3, 1) := by decide +kernel
theorem dX4_driveOn_19 : decode cX4_driveOn 19 = .ok (.bipush 8, 2) := by decide +kernel
theorem dX4_driveOn_21 : decode cX4_driveOn 21 = .ok (.idiv, 1) := by decide +kernel
theorem dX4_driveOn_22 : decode cX4_driveOn 22 = .ok (.iload_n 3, 1) := by decide +kernel
theorem dX4_driveOn_23 : decode cX4_driveOn 23 = .ok (.bipush 8, 2) := by decide +kernel
theorem dX4_driveOn_25 : decode cX4_driveOn 25 = .ok (.irem, 1) := by decide +kernel
theorem dX4_driveOn_26 : decode cX4_driveOn 26 = .ok (.iconst 3, 1) := by decide +kernel
theorem dX4_driveOn_27 : decode cX4_driveOn 27 = .ok (.isub, 1) := by decide +kernel
theorem dX4_driveOn_28 : decode cX4_driveOn 28 = .ok (.invokevirtual 152, 3) := by decide +kernel
theorem dX4_driveOn_31 : decode cX4_driveOn 31 = .ok (.pop, 1) := by decide +kernel
theorem dX4_driveOn_32 : decode cX4_driveOn 32 = .ok (.iinc 2 1, 3) := by decide +kernel
theorem dX4_driveOn_35 : decode cX4_driveOn 35 = .ok (.goto (-28), 3) := by decide +kernel
theorem dX4_driveOn_38 : decode cX4_driveOn 38 = .ok (.iload_n 1, 1) := by decide +kernel
theorem dX4_driveOn_39 : decode cX4_driveOn 39 = .ok (.ireturn, 1) := by decide +kernel
theorem dX4_addCar_0 : decode cX4_addCar 0 = .ok (.aload_n 0, 1) := by decide +kernel
theorem dX4_addCar_1 : decode cX4_addCar 1 = .ok (.aload_n 0, 1) := by decide +kernel
theorem dX4_addCar_2 : decode cX4_addCar 2 = .ok (.iload_n 1, 1) := by decide +kernel
theorem dX4_addCar_3 : decode cX4_addCar 3 = .ok (.iload_n 2, 1) := by decide +kernel
theorem dX4_addCar_4 : decode cX4_addCar 4 = .ok (.iload_n 3, 1) := by decide +kernel
theorem dX4_addCar_5 : decode cX4_addCar 5 = .ok (.invokevirtual 155, 3) := by decide +kernel
theorem dX4_addCar_8 : decode cX4_addCar 8 = .ok (.invokevirtual 158, 3) := by decide +kernel
theorem dX4_addCar_11 : decode cX4_addCar 11 = .ok (.ifCond .eq 5, 3) := by decide +kernel
theorem dX4_addCar_14 : decode cX4_addCar 14 = .ok (.iconst 0, 1) := by decide +kernel
theorem dX4_addCar_15 : decode cX4_addCar 15 = .ok (.ireturn, 1) := by decide +kernel
theorem dX4_addCar_16 : decode cX4_addCar 16 = .ok (.aload_n 0, 1) := by decide +kernel
theorem dX4_addCar_17 : decode cX4_addCar 17 = .ok (.invokevirtual 161, 3) := by decide +kernel
theorem dX4_addCar_20 : decode cX4_addCar 20 = .ok (.aload_n 0, 1) := by decide +kernel
theorem dX4_addCar_21 : decode cX4_addCar 21 = .ok (.iload_n 1, 1) := by decide +kernel
theorem dX4_addCar_22 : decode cX4_addCar 22 = .ok (.iload_n 2, 1) := by decide +kernel
theorem dX4_addCar_23 : decode cX4_addCar 23 = .ok (.iload_n 3, 1) := by decide +kernel
theorem dX4_addCar_24 : decode cX4_addCar 24 = .ok (.invokevirtual 164, 3) := by decide +kernel
theorem dX4_addCar_27 : decode cX4_addCar 27 = .ok (.ireturn, 1) := by decide +kernel
theorem dX4_dropLast_0 : decode cX4_dropLast 0 = .ok (.aload_n 0, 1) := by decide +kernel
theorem dX4_dropLast_1 : decode cX4_dropLast 1 = .ok (.aload_n 0, 1) := by decide +kernel
theorem dX4_dropLast_2 : decode cX4_dropLast 2 = .ok (.getfield 13, 3) := by decide +kernel
theorem dX4_dropLast_5 : decode cX4_dropLast 5 = .ok (.iconst 0, 1) := by decide +kernel
theorem dX4_dropLast_6 : decode cX4_dropLast 6 = .ok (.iaload, 1) := by decide +kernel
theorem dX4_dropLast_7 : decode cX4_dropLast 7 = .ok (.ifCond .le 7, 3) := by decide +kernel
theorem dX4_dropLast_10 : decode cX4_dropLast 10 = .ok (.iconst 0, 1) := by decide +kernel
theorem dX4_dropLast_11 : decode cX4_dropLast 11 = .ok (.goto 4, 3) := by decide +kernel
theorem dX4_dropLast_14 : decode cX4_dropLast 14 = .ok (.iconst 1, 1) := by decide +kernel
theorem dX4_dropLast_15 : decode cX4_dropLast 15 = .ok (.invokevirtual 158, 3) := by decide +kernel
theorem dX4_dropLast_18 : decode cX4_dropLast 18 = .ok (.ifCond .eq 5, 3) := by decide +kernel
theorem dX4_dropLast_21 : decode cX4_dropLast 21 = .ok (.iconst 0, 1) := by decide +kernel
theorem dX4_dropLast_22 : decode cX4_dropLast 22 = .ok (.ireturn, 1) := by decide +kernel
theorem dX4_dropLast_23 : decode cX4_dropLast 23 = .ok (.aload_n 0, 1) := by decide +kernel
theorem dX4_dropLast_24 : decode cX4_dropLast 24 = .ok (.invokevirtual 161, 3) := by decide +kernel
theorem dX4_dropLast_27 : decode cX4_dropLast 27 = .ok (.aload_n 0, 1) := by decide +kernel
theorem dX4_dropLast_28 : decode cX4_dropLast 28 = .ok (.getfield 13, 3) := by decide +kernel
theorem dX4_dropLast_31 : decode cX4_dropLast 31 = .ok (.iconst 0, 1) := by decide +kernel
theorem dX4_dropLast_32 : decode cX4_dropLast 32 = .ok (.dup2, 1) := by decide +kernel
theorem dX4_dropLast_33 : decode cX4_dropLast 33 = .ok (.iaload, 1) := by decide +kernel
theorem dX4_dropLast_34 : decode cX4_dropLast 34 = .ok (.iconst 1, 1) := by decide +kernel
theorem dX4_dropLast_35 : decode cX4_dropLast 35 = .ok (.isub, 1) := by decide +kernel
theorem dX4_dropLast_36 : decode cX4_dropLast 36 = .ok (.iastore, 1) := by decide +kernel
theorem dX4_dropLast_37 : decode cX4_dropLast 37 = .ok (.aload_n 0, 1) := by decide +kernel
theorem dX4_dropLast_38 : decode cX4_dropLast 38 = .ok (.getfield 13, 3) := by decide +kernel
theorem dX4_dropLast_41 : decode cX4_dropLast 41 = .ok (.bipush 20, 2) := by decide +kernel
theorem dX4_dropLast_43 : decode cX4_dropLast 43 = .ok (.iconst 0, 1) := by decide +kernel
theorem dX4_dropLast_44 : decode cX4_dropLast 44 = .ok (.iastore, 1) := by decide +kernel
theorem dX4_dropLast_45 : decode cX4_dropLast 45 = .ok (.aload_n 0, 1) := by decide +kernel
theorem dX4_dropLast_46 : decode cX4_dropLast 46 = .ok (.getfield 13, 3) := by decide +kernel
theorem dX4_dropLast_49 : decode cX4_dropLast 49 = .ok (.iconst 0, 1) := by decide +kernel
theorem dX4_dropLast_50 : decode cX4_dropLast 50 = .ok (.iaload, 1) := by decide +kernel
theorem dX4_dropLast_51 : decode cX4_dropLast 51 = .ok (.ireturn, 1) := by decide +kernel
theorem dX4_toggleWall_0 : decode cX4_toggleWall 0 = .ok (.aload_n 0, 1) := by decide +kernel
theorem dX4_toggleWall_1 : decode cX4_toggleWall 1 = .ok (.iload_n 1, 1) := by decide +kernel
theorem dX4_toggleWall_2 : decode cX4_toggleWall 2 = .ok (.invokestatic 167, 3) := by decide +kernel
theorem dX4_toggleWall_5 : decode cX4_toggleWall 5 = .ok (.ifCond .ne 7, 3) := by decide +kernel
theorem dX4_toggleWall_8 : decode cX4_toggleWall 8 = .ok (.iconst 1, 1) := by decide +kernel
theorem dX4_toggleWall_9 : decode cX4_toggleWall 9 = .ok (.goto 16, 3) := by decide +kernel
theorem dX4_toggleWall_12 : decode cX4_toggleWall 12 = .ok (.aload_n 0, 1) := by decide +kernel
theorem dX4_toggleWall_13 : decode cX4_toggleWall 13 = .ok (.iload_n 1, 1) := by decide +kernel
theorem dX4_toggleWall_14 : decode cX4_toggleWall 14 = .ok (.invokevirtual 170, 3) := by decide +kernel
theorem dX4_toggleWall_17 : decode cX4_toggleWall 17 = .ok (.ifCond .eq 7, 3) := by decide +kernel
theorem dX4_toggleWall_20 : decode cX4_toggleWall 20 = .ok (.iconst 0, 1) := by decide +kernel
theorem dX4_toggleWall_21 : decode cX4_toggleWall 21 = .ok (.goto 4, 3) := by decide +kernel
theorem dX4_toggleWall_24 : decode cX4_toggleWall 24 = .ok (.iconst 2, 1) := by decide +kernel
theorem dX4_toggleWall_25 : decode cX4_toggleWall 25 = .ok (.invokevirtual 158, 3) := by decide +kernel
theorem dX4_toggleWall_28 : decode cX4_toggleWall 28 = .ok (.ifCond .eq 5, 3) := by decide +kernel
theorem dX4_toggleWall_31 : decode cX4_toggleWall 31 = .ok (.iconst 0, 1) := by decide +kernel
theorem dX4_toggleWall_32 : decode cX4_toggleWall 32 = .ok (.ireturn, 1) := by decide +kernel
theorem dX4_toggleWall_33 : decode cX4_toggleWall 33 = .ok (.aload_n 0, 1) := by decide +kernel
theorem dX4_toggleWall_34 : decode cX4_toggleWall 34 = .ok (.invokevirtual 161, 3) := by decide +kernel
theorem dX4_toggleWall_37 : decode cX4_toggleWall 37 = .ok (.aload_n 0, 1) := by decide +kernel
theorem dX4_toggleWall_38 : decode cX4_toggleWall 38 = .ok (.iload_n 1, 1) := by decide +kernel
theorem dX4_toggleWall_39 : decode cX4_toggleWall 39 = .ok (.invokevirtual 173, 3) := by decide +kernel
theorem dX4_toggleWall_42 : decode cX4_toggleWall 42 = .ok (.ireturn, 1) := by decide +kernel
theorem dX4_isChange_0 : decode cX4_isChange 0 = .ok (.iload_n 0, 1) := by decide +kernel
theorem dX4_isChange_1 : decode cX4_isChange 1 = .ok (.i2l, 1) := by decide +kernel
theorem dX4_isChange_2 : decode cX4_isChange 2 = .ok (.ldc2_w 176, 3) := by decide +kernel
theorem dX4_isChange_5 : decode cX4_isChange 5 = .ok (.ldc2_w 73, 3) := by decide +kernel
theorem dX4_isChange_8 : decode cX4_isChange 8 = .ok (.invokestatic 47, 3) := by decide +kernel
theorem dX4_isChange_11 : decode cX4_isChange 11 = .ok (.ifCond .eq 11, 3) := by decide +kernel
theorem dX4_isChange_14 : decode cX4_isChange 14 = .ok (.iload_n 0, 1) := by decide +kernel
theorem dX4_isChange_15 : decode cX4_isChange 15 = .ok (.ifCond .eq 7, 3) := by decide +kernel
theorem dX4_isChange_18 : decode cX4_isChange 18 = .ok (.iconst 1, 1) := by decide +kernel
theorem dX4_isChange_19 : decode cX4_isChange 19 = .ok (.goto 4, 3) := by decide +kernel
theorem dX4_isChange_22 : decode cX4_isChange 22 = .ok (.iconst 0, 1) := by decide +kernel
theorem dX4_isChange_23 : decode cX4_isChange 23 = .ok (.ireturn, 1) := by decide +kernel
theorem dX4_slide_0 : decode cX4_slide 0 = .ok (.aload_n 0, 1) := by decide +kernel
theorem dX4_slide_1 : decode cX4_slide 1 = .ok (.aload_n 0, 1) := by decide +kernel
theorem dX4_slide_2 : decode cX4_slide 2 = .ok (.iload_n 1, 1) := by decide +kernel
theorem dX4_slide_3 : decode cX4_slide 3 = .ok (.invokevirtual 178, 3) := by decide +kernel
theorem dX4_slide_6 : decode cX4_slide 6 = .ok (.ifCond .ne 7, 3) := by decide +kernel
theorem dX4_slide_9 : decode cX4_slide 9 = .ok (.iconst 1, 1) := by decide +kernel
theorem dX4_slide_10 : decode cX4_slide 10 = .ok (.goto 40, 3) := by decide +kernel
theorem dX4_slide_13 : decode cX4_slide 13 = .ok (.iload_n 2, 1) := by decide +kernel
theorem dX4_slide_14 : decode cX4_slide 14 = .ok (.invokestatic 181, 3) := by decide +kernel
theorem dX4_slide_17 : decode cX4_slide 17 = .ok (.ifCond .ne 7, 3) := by decide +kernel
theorem dX4_slide_20 : decode cX4_slide 20 = .ok (.iconst 2, 1) := by decide +kernel
theorem dX4_slide_21 : decode cX4_slide 21 = .ok (.goto 29, 3) := by decide +kernel
theorem dX4_slide_24 : decode cX4_slide 24 = .ok (.aload_n 0, 1) := by decide +kernel
theorem dX4_slide_25 : decode cX4_slide 25 = .ok (.iload_n 1, 1) := by decide +kernel
theorem dX4_slide_26 : decode cX4_slide 26 = .ok (.iload_n 2, 1) := by decide +kernel
theorem dX4_slide_27 : decode cX4_slide 27 = .ok (.invokevirtual 119, 3) := by decide +kernel
theorem dX4_slide_30 : decode cX4_slide 30 = .ok (.ifCond .eq 19, 3) := by decide +kernel
theorem dX4_slide_33 : decode cX4_slide 33 = .ok (.aload_n 0, 1) := by decide +kernel
theorem dX4_slide_34 : decode cX4_slide 34 = .ok (.getfield 13, 3) := by decide +kernel
theorem dX4_slide_37 : decode cX4_slide 37 = .ok (.bipush 20, 2) := by decide +kernel
theorem dX4_slide_39 : decode cX4_slide 39 = .ok (.iaload, 1) := by decide +kernel
theorem dX4_slide_40 : decode cX4_slide 40 = .ok (.bipush 60, 2) := by decide +kernel
theorem dX4_slide_42 : decode cX4_slide 42 = .ok (.if_icmp .ge 7, 3) := by decide +kernel
theorem dX4_slide_45 : decode cX4_slide 45 = .ok (.iconst 0, 1) := by decide +kernel
theorem dX4_slide_46 : decode cX4_slide 46 = .ok (.goto 4, 3) := by decide +kernel
theorem dX4_slide_49 : decode cX4_slide 49 = .ok (.iconst 3, 1) := by decide +kernel
theorem dX4_slide_50 : decode cX4_slide 50 = .ok (.invokevirtual 158, 3) := by decide +kernel
theorem dX4_slide_53 : decode cX4_slide 53 = .ok (.ifCond .eq 5, 3) := by decide +kernel
theorem dX4_slide_56 : decode cX4_slide 56 = .ok (.iconst 0, 1) := by decide +kernel
theorem dX4_slide_57 : decode cX4_slide 57 = .ok (.ireturn, 1) := by decide +kernel
theorem dX4_slide_58 : decode cX4_slide 58 = .ok (.aload_n 0, 1) := by decide +kernel
theorem dX4_slide_59 : decode cX4_slide 59 = .ok (.invokevirtual 161, 3) := by decide +kernel
theorem dX4_slide_62 : decode cX4_slide 62 = .ok (.aload_n 0, 1) := by decide +kernel
theorem dX4_slide_63 : decode cX4_slide 63 = .ok (.iload_n 1, 1) := by decide +kernel
theorem dX4_slide_64 : decode cX4_slide 64 = .ok (.iload_n 2, 1) := by decide +kernel
theorem dX4_slide_65 : decode cX4_slide 65 = .ok (.invokevirtual 152, 3) := by decide +kernel
theorem dX4_slide_68 : decode cX4_slide 68 = .ok (.ireturn, 1) := by decide +kernel
theorem dX4_takeBack_0 : decode cX4_takeBack 0 = .ok (.aload_n 0, 1) := by decide +kernel
theorem dX4_takeBack_1 : decode cX4_takeBack 1 = .ok (.aload_n 0, 1) := by decide +kernel
theorem dX4_takeBack_2 : decode cX4_takeBack 2 = .ok (.getfield 13, 3) := by decide +kernel
theorem dX4_takeBack_5 : decode cX4_takeBack 5 = .ok (.bipush 20, 2) := by decide +kernel
theorem dX4_takeBack_7 : decode cX4_takeBack 7 = .ok (.iaload, 1) := by decide +kernel
theorem dX4_takeBack_8 : decode cX4_takeBack 8 = .ok (.ifCond .le 7, 3) := by decide +kernel
theorem dX4_takeBack_11 : decode cX4_takeBack 11 = .ok (.iconst 0, 1) := by decide +kernel
theorem dX4_takeBack_12 : decode cX4_takeBack 12 = .ok (.goto 4, 3) := by decide +kernel
theorem dX4_takeBack_15 : decode cX4_takeBack 15 = .ok (.iconst 1, 1) := by decide +kernel
theorem dX4_takeBack_16 : decode cX4_takeBack 16 = .ok (.invokevirtual 158, 3) := by decide +kernel
theorem dX4_takeBack_19 : decode cX4_takeBack 19 = .ok (.ifCond .eq 5, 3) := by decide +kernel
theorem dX4_takeBack_22 : decode cX4_takeBack 22 = .ok (.iconst 0, 1) := by decide +kernel
theorem dX4_takeBack_23 : decode cX4_takeBack 23 = .ok (.ireturn, 1) := by decide +kernel
theorem dX4_takeBack_24 : decode cX4_takeBack 24 = .ok (.aload_n 0, 1) := by decide +kernel
theorem dX4_takeBack_25 : decode cX4_takeBack 25 = .ok (.invokevirtual 161, 3) := by decide +kernel
theorem dX4_takeBack_28 : decode cX4_takeBack 28 = .ok (.aload_n 0, 1) := by decide +kernel
theorem dX4_takeBack_29 : decode cX4_takeBack 29 = .ok (.invokevirtual 184, 3) := by decide +kernel
theorem dX4_takeBack_32 : decode cX4_takeBack 32 = .ok (.ireturn, 1) := by decide +kernel
theorem dX4_rewind_0 : decode cX4_rewind 0 = .ok (.aload_n 0, 1) := by decide +kernel
theorem dX4_rewind_1 : decode cX4_rewind 1 = .ok (.iconst 0, 1) := by decide +kernel
theorem dX4_rewind_2 : decode cX4_rewind 2 = .ok (.putfield 35, 3) := by decide +kernel
theorem dX4_rewind_5 : decode cX4_rewind 5 = .ok (.aload_n 0, 1) := by decide +kernel
theorem dX4_rewind_6 : decode cX4_rewind 6 = .ok (.invokevirtual 161, 3) := by decide +kernel
theorem dX4_rewind_9 : decode cX4_rewind 9 = .ok (.aload_n 0, 1) := by decide +kernel
theorem dX4_rewind_10 : decode cX4_rewind 10 = .ok (.getfield 13, 3) := by decide +kernel
theorem dX4_rewind_13 : decode cX4_rewind 13 = .ok (.bipush 20, 2) := by decide +kernel
theorem dX4_rewind_15 : decode cX4_rewind 15 = .ok (.iaload, 1) := by decide +kernel
theorem dX4_rewind_16 : decode cX4_rewind 16 = .ok (.istore_n 1, 1) := by decide +kernel
theorem dX4_rewind_17 : decode cX4_rewind 17 = .ok (.aload_n 0, 1) := by decide +kernel
theorem dX4_rewind_18 : decode cX4_rewind 18 = .ok (.getfield 13, 3) := by decide +kernel
theorem dX4_rewind_21 : decode cX4_rewind 21 = .ok (.bipush 20, 2) := by decide +kernel
theorem dX4_rewind_23 : decode cX4_rewind 23 = .ok (.iaload, 1) := by decide +kernel
theorem dX4_rewind_24 : decode cX4_rewind 24 = .ok (.ifCond .le 11, 3) := by decide +kernel
theorem dX4_rewind_27 : decode cX4_rewind 27 = .ok (.aload_n 0, 1) := by decide +kernel
theorem dX4_rewind_28 : decode cX4_rewind 28 = .ok (.invokevirtual 184, 3) := by decide +kernel
theorem dX4_rewind_31 : decode cX4_rewind 31 = .ok (.pop, 1) := by decide +kernel
theorem dX4_rewind_32 : decode cX4_rewind 32 = .ok (.goto (-15), 3) := by decide +kernel
theorem dX4_rewind_35 : decode cX4_rewind 35 = .ok (.iload_n 1, 1) := by decide +kernel
theorem dX4_rewind_36 : decode cX4_rewind 36 = .ok (.ireturn, 1) := by decide +kernel
theorem dX4_driveOut_0 : decode cX4_driveOut 0 = .ok (.aload_n 0, 1) := by decide +kernel
theorem dX4_driveOut_1 : decode cX4_driveOut 1 = .ok (.aload_n 0, 1) := by decide +kernel
theorem dX4_driveOut_2 : decode cX4_driveOut 2 = .ok (.invokevirtual 187, 3) := by decide +kernel
theorem dX4_driveOut_5 : decode cX4_driveOut 5 = .ok (.ifCond .eq 7, 3) := by decide +kernel
theorem dX4_driveOut_8 : decode cX4_driveOut 8 = .ok (.iconst 0, 1) := by decide +kernel
theorem dX4_driveOut_9 : decode cX4_driveOut 9 = .ok (.goto 4, 3) := by decide +kernel
theorem dX4_driveOut_12 : decode cX4_driveOut 12 = .ok (.iconst 1, 1) := by decide +kernel
theorem dX4_driveOut_13 : decode cX4_driveOut 13 = .ok (.invokevirtual 158, 3) := by decide +kernel
theorem dX4_driveOut_16 : decode cX4_driveOut 16 = .ok (.ifCond .eq 5, 3) := by decide +kernel
theorem dX4_driveOut_19 : decode cX4_driveOut 19 = .ok (.iconst 0, 1) := by decide +kernel
theorem dX4_driveOut_20 : decode cX4_driveOut 20 = .ok (.ireturn, 1) := by decide +kernel
theorem dX4_driveOut_21 : decode cX4_driveOut 21 = .ok (.aload_n 0, 1) := by decide +kernel
theorem dX4_driveOut_22 : decode cX4_driveOut 22 = .ok (.invokevirtual 161, 3) := by decide +kernel
theorem dX4_driveOut_25 : decode cX4_driveOut 25 = .ok (.aload_n 0, 1) := by decide +kernel
theorem dX4_driveOut_26 : decode cX4_driveOut 26 = .ok (.invokevirtual 191, 3) := by decide +kernel
theorem dX4_driveOut_29 : decode cX4_driveOut 29 = .ok (.ireturn, 1) := by decide +kernel
theorem dX4_append_0 : decode cX4_append 0 = .ok (.aload_n 0, 1) := by decide +kernel
theorem dX4_append_1 : decode cX4_append 1 = .ok (.iload_n 1, 1) := by decide +kernel
theorem dX4_append_2 : decode cX4_append 2 = .ok (.i2l, 1) := by decide +kernel
theorem dX4_append_3 : decode cX4_append 3 = .ok (.ldc2_w 194, 3) := by decide +kernel
theorem dX4_append_6 : decode cX4_append 6 = .ok (.ldc2_w 196, 3) := by decide +kernel
theorem dX4_append_9 : decode cX4_append 9 = .ok (.invokestatic 47, 3) := by decide +kernel
theorem dX4_append_12 : decode cX4_append 12 = .ok (.ifCond .ne 7, 3) := by decide +kernel
theorem dX4_append_15 : decode cX4_append 15 = .ok (.iconst 1, 1) := by decide +kernel
theorem dX4_append_16 : decode cX4_append 16 = .ok (.goto 17, 3) := by decide +kernel
theorem dX4_append_19 : decode cX4_append 19 = .ok (.aload_n 0, 1) := by decide +kernel
theorem dX4_append_20 : decode cX4_append 20 = .ok (.getfield 198, 3) := by decide +kernel
theorem dX4_append_23 : decode cX4_append 23 = .ok (.bipush 60, 2) := by decide +kernel
theorem dX4_append_25 : decode cX4_append 25 = .ok (.if_icmp .ne 7, 3) := by decide +kernel
theorem dX4_append_28 : decode cX4_append 28 = .ok (.iconst 2, 1) := by decide +kernel
theorem dX4_append_29 : decode cX4_append 29 = .ok (.goto 4, 3) := by decide +kernel
theorem dX4_append_32 : decode cX4_append 32 = .ok (.iconst 0, 1) := by decide +kernel
theorem dX4_append_33 : decode cX4_append 33 = .ok (.invokevirtual 158, 3) := by decide +kernel
theorem dX4_append_36 : decode cX4_append 36 = .ok (.ifCond .eq 5, 3) := by decide +kernel
theorem dX4_append_39 : decode cX4_append 39 = .ok (.iconst 0, 1) := by decide +kernel
theorem dX4_append_40 : decode cX4_append 40 = .ok (.ireturn, 1) := by decide +kernel
theorem dX4_append_41 : decode cX4_append 41 = .ok (.aload_n 0, 1) := by decide +kernel
theorem dX4_append_42 : decode cX4_append 42 = .ok (.getfield 7, 3) := by decide +kernel
theorem dX4_append_45 : decode cX4_append 45 = .ok (.aload_n 0, 1) := by decide +kernel
theorem dX4_append_46 : decode cX4_append 46 = .ok (.getfield 198, 3) := by decide +kernel
theorem dX4_append_49 : decode cX4_append 49 = .ok (.iload_n 1, 1) := by decide +kernel
theorem dX4_append_50 : decode cX4_append 50 = .ok (.iastore, 1) := by decide +kernel
theorem dX4_append_51 : decode cX4_append 51 = .ok (.aload_n 0, 1) := by decide +kernel
theorem dX4_append_52 : decode cX4_append 52 = .ok (.dup, 1) := by decide +kernel
theorem dX4_append_53 : decode cX4_append 53 = .ok (.getfield 198, 3) := by decide +kernel
theorem dX4_append_56 : decode cX4_append 56 = .ok (.iconst 1, 1) := by decide +kernel
theorem dX4_append_57 : decode cX4_append 57 = .ok (.iadd, 1) := by decide +kernel
theorem dX4_append_58 : decode cX4_append 58 = .ok (.putfield 198, 3) := by decide +kernel
theorem dX4_append_61 : decode cX4_append 61 = .ok (.aload_n 0, 1) := by decide +kernel
theorem dX4_append_62 : decode cX4_append 62 = .ok (.getfield 198, 3) := by decide +kernel
theorem dX4_append_65 : decode cX4_append 65 = .ok (.ireturn, 1) := by decide +kernel
theorem dX4_clearBuffer_0 : decode cX4_clearBuffer 0 = .ok (.aload_n 0, 1) := by decide +kernel
theorem dX4_clearBuffer_1 : decode cX4_clearBuffer 1 = .ok (.iconst 0, 1) := by decide +kernel
theorem dX4_clearBuffer_2 : decode cX4_clearBuffer 2 = .ok (.putfield 35, 3) := by decide +kernel
theorem dX4_clearBuffer_5 : decode cX4_clearBuffer 5 = .ok (.aload_n 0, 1) := by decide +kernel
theorem dX4_clearBuffer_6 : decode cX4_clearBuffer 6 = .ok (.getfield 198, 3) := by decide +kernel
theorem dX4_clearBuffer_9 : decode cX4_clearBuffer 9 = .ok (.istore_n 1, 1) := by decide +kernel
theorem dX4_clearBuffer_10 : decode cX4_clearBuffer 10 = .ok (.aload_n 0, 1) := by decide +kernel
theorem dX4_clearBuffer_11 : decode cX4_clearBuffer 11 = .ok (.iconst 0, 1) := by decide +kernel
theorem dX4_clearBuffer_12 : decode cX4_clearBuffer 12 = .ok (.putfield 198, 3) := by decide +kernel
theorem dX4_clearBuffer_15 : decode cX4_clearBuffer 15 = .ok (.iload_n 1, 1) := by decide +kernel
theorem dX4_clearBuffer_16 : decode cX4_clearBuffer 16 = .ok (.ireturn, 1) := by decide +kernel
theorem dX4_goesOn_0 : decode cX4_goesOn 0 = .ok (.aload_n 0, 1) := by decide +kernel
theorem dX4_goesOn_1 : decode cX4_goesOn 1 = .ok (.getfield 201, 3) := by decide +kernel
theorem dX4_goesOn_4 : decode cX4_goesOn 4 = .ok (.aload_n 0, 1) := by decide +kernel
theorem dX4_goesOn_5 : decode cX4_goesOn 5 = .ok (.getfield 198, 3) := by decide +kernel
theorem dX4_goesOn_8 : decode cX4_goesOn 8 = .ok (.if_icmp .ge 20, 3) := by decide +kernel
theorem dX4_goesOn_11 : decode cX4_goesOn 11 = .ok (.aload_n 0, 1) := by decide +kernel
theorem dX4_goesOn_12 : decode cX4_goesOn 12 = .ok (.getfield 7, 3) := by decide +kernel
theorem dX4_goesOn_15 : decode cX4_goesOn 15 = .ok (.aload_n 0, 1) := by decide +kernel
theorem dX4_goesOn_16 : decode cX4_goesOn 16 = .ok (.getfield 201, 3) := by decide +kernel
theorem dX4_goesOn_19 : decode cX4_goesOn 19 = .ok (.iaload, 1) := by decide +kernel
theorem dX4_goesOn_20 : decode cX4_goesOn 20 = .ok (.iload_n 1, 1) := by decide +kernel
theorem dX4_goesOn_21 : decode cX4_goesOn 21 = .ok (.if_icmp .ne 7, 3) := by decide +kernel
theorem dX4_goesOn_24 : decode cX4_goesOn 24 = .ok (.iconst 1, 1) := by decide +kernel
theorem dX4_goesOn_25 : decode cX4_goesOn 25 = .ok (.goto 4, 3) := by decide +kernel
theorem dX4_goesOn_28 : decode cX4_goesOn 28 = .ok (.iconst 0, 1) := by decide +kernel
theorem dX4_goesOn_29 : decode cX4_goesOn 29 = .ok (.istore_n 2, 1) := by decide +kernel
theorem dX4_goesOn_30 : decode cX4_goesOn 30 = .ok (.aload_n 0, 1) := by decide +kernel
theorem dX4_goesOn_31 : decode cX4_goesOn 31 = .ok (.dup, 1) := by decide +kernel
theorem dX4_goesOn_32 : decode cX4_goesOn 32 = .ok (.getfield 201, 3) := by decide +kernel
theorem dX4_goesOn_35 : decode cX4_goesOn 35 = .ok (.iload_n 2, 1) := by decide +kernel
theorem dX4_goesOn_36 : decode cX4_goesOn 36 = .ok (.ifCond .eq 7, 3) := by decide +kernel
theorem dX4_goesOn_39 : decode cX4_goesOn 39 = .ok (.iconst 1, 1) := by decide +kernel
theorem dX4_goesOn_40 : decode cX4_goesOn 40 = .ok (.goto 4, 3) := by decide +kernel
theorem dX4_goesOn_43 : decode cX4_goesOn 43 = .ok (.iconst 0, 1) := by decide +kernel
theorem dX4_goesOn_44 : decode cX4_goesOn 44 = .ok (.iadd, 1) := by decide +kernel
theorem dX4_goesOn_45 : decode cX4_goesOn 45 = .ok (.putfield 201, 3) := by decide +kernel
theorem dX4_goesOn_48 : decode cX4_goesOn 48 = .ok (.iload_n 2, 1) := by decide +kernel
theorem dX4_goesOn_49 : decode cX4_goesOn 49 = .ok (.ireturn, 1) := by decide +kernel
theorem dX4_digit_0 : decode cX4_digit 0 = .ok (.aload_n 0, 1) := by decide +kernel
theorem dX4_digit_1 : decode cX4_digit 1 = .ok (.getfield 201, 3) := by decide +kernel
theorem dX4_digit_4 : decode cX4_digit 4 = .ok (.aload_n 0, 1) := by decide +kernel
theorem dX4_digit_5 : decode cX4_digit 5 = .ok (.getfield 198, 3) := by decide +kernel
theorem dX4_digit_8 : decode cX4_digit 8 = .ok (.if_icmp .ge 30, 3) := by decide +kernel
theorem dX4_digit_11 : decode cX4_digit 11 = .ok (.aload_n 0, 1) := by decide +kernel
theorem dX4_digit_12 : decode cX4_digit 12 = .ok (.getfield 7, 3) := by decide +kernel
theorem dX4_digit_15 : decode cX4_digit 15 = .ok (.aload_n 0, 1) := by decide +kernel
theorem dX4_digit_16 : decode cX4_digit 16 = .ok (.getfield 201, 3) := by decide +kernel
theorem dX4_digit_19 : decode cX4_digit 19 = .ok (.iaload, 1) := by decide +kernel
theorem dX4_digit_20 : decode cX4_digit 20 = .ok (.bipush 48, 2) := by decide +kernel
theorem dX4_digit_22 : decode cX4_digit 22 = .ok (.isub, 1) := by decide +kernel
theorem dX4_digit_23 : decode cX4_digit 23 = .ok (.i2l, 1) := by decide +kernel
theorem dX4_digit_24 : decode cX4_digit 24 = .ok (.iload_n 1, 1) := by decide +kernel
theorem dX4_digit_25 : decode cX4_digit 25 = .ok (.i2l, 1) := by decide +kernel
theorem dX4_digit_26 : decode cX4_digit 26 = .ok (.iload_n 2, 1) := by decide +kernel
theorem dX4_digit_27 : decode cX4_digit 27 = .ok (.i2l, 1) := by decide +kernel
theorem dX4_digit_28 : decode cX4_digit 28 = .ok (.invokestatic 47, 3) := by decide +kernel
theorem dX4_digit_31 : decode cX4_digit 31 = .ok (.ifCond .eq 7, 3) := by decide +kernel
theorem dX4_digit_34 : decode cX4_digit 34 = .ok (.iconst 1, 1) := by decide +kernel
theorem dX4_digit_35 : decode cX4_digit 35 = .ok (.goto 4, 3) := by decide +kernel
theorem dX4_digit_38 : decode cX4_digit 38 = .ok (.iconst 0, 1) := by decide +kernel
theorem dX4_digit_39 : decode cX4_digit 39 = .ok (.istore_n 3, 1) := by decide +kernel
theorem dX4_digit_40 : decode cX4_digit 40 = .ok (.aload_n 0, 1) := by decide +kernel
theorem dX4_digit_41 : decode cX4_digit 41 = .ok (.iload_n 3, 1) := by decide +kernel
theorem dX4_digit_42 : decode cX4_digit 42 = .ok (.ifCond .eq 18, 3) := by decide +kernel
theorem dX4_digit_45 : decode cX4_digit 45 = .ok (.aload_n 0, 1) := by decide +kernel
theorem dX4_digit_46 : decode cX4_digit 46 = .ok (.getfield 7, 3) := by decide +kernel
theorem dX4_digit_49 : decode cX4_digit 49 = .ok (.aload_n 0, 1) := by decide +kernel
theorem dX4_digit_50 : decode cX4_digit 50 = .ok (.getfield 201, 3) := by decide +kernel
theorem dX4_digit_53 : decode cX4_digit 53 = .ok (.iaload, 1) := by decide +kernel
theorem dX4_digit_54 : decode cX4_digit 54 = .ok (.bipush 48, 2) := by decide +kernel
theorem dX4_digit_56 : decode cX4_digit 56 = .ok (.isub, 1) := by decide +kernel
theorem dX4_digit_57 : decode cX4_digit 57 = .ok (.goto 7, 3) := by decide +kernel
theorem dX4_digit_60 : decode cX4_digit 60 = .ok (.aload_n 0, 1) := by decide +kernel
theorem dX4_digit_61 : decode cX4_digit 61 = .ok (.getfield 204, 3) := by decide +kernel
theorem dX4_digit_64 : decode cX4_digit 64 = .ok (.putfield 204, 3) := by decide +kernel
theorem dX4_digit_67 : decode cX4_digit 67 = .ok (.aload_n 0, 1) := by decide +kernel
theorem dX4_digit_68 : decode cX4_digit 68 = .ok (.dup, 1) := by decide +kernel
theorem dX4_digit_69 : decode cX4_digit 69 = .ok (.getfield 201, 3) := by decide +kernel
theorem dX4_digit_72 : decode cX4_digit 72 = .ok (.iload_n 3, 1) := by decide +kernel
theorem dX4_digit_73 : decode cX4_digit 73 = .ok (.ifCond .eq 7, 3) := by decide +kernel
theorem dX4_digit_76 : decode cX4_digit 76 = .ok (.iconst 1, 1) := by decide +kernel
theorem dX4_digit_77 : decode cX4_digit 77 = .ok (.goto 4, 3) := by decide +kernel
theorem dX4_digit_80 : decode cX4_digit 80 = .ok (.iconst 0, 1) := by decide +kernel
theorem dX4_digit_81 : decode cX4_digit 81 = .ok (.iadd, 1) := by decide +kernel
theorem dX4_digit_82 : decode cX4_digit 82 = .ok (.putfield 201, 3) := by decide +kernel
theorem dX4_digit_85 : decode cX4_digit 85 = .ok (.iload_n 3, 1) := by decide +kernel
theorem dX4_digit_86 : decode cX4_digit 86 = .ok (.ireturn, 1) := by decide +kernel
theorem dX4_car_0 : decode cX4_car 0 = .ok (.aload_n 0, 1) := by decide +kernel
theorem dX4_car_1 : decode cX4_car 1 = .ok (.iconst 0, 1) := by decide +kernel
theorem dX4_car_2 : decode cX4_car 2 = .ok (.iconst 4, 1) := by decide +kernel
theorem dX4_car_3 : decode cX4_car 3 = .ok (.invokevirtual 207, 3) := by decide +kernel
theorem dX4_car_6 : decode cX4_car 6 = .ok (.ifCond .ne 5, 3) := by decide +kernel
theorem dX4_car_9 : decode cX4_car 9 = .ok (.iconst 0, 1) := by decide +kernel
theorem dX4_car_10 : decode cX4_car 10 = .ok (.ireturn, 1) := by decide +kernel
theorem dX4_car_11 : decode cX4_car 11 = .ok (.aload_n 0, 1) := by decide +kernel
theorem dX4_car_12 : decode cX4_car 12 = .ok (.iload_n 1, 1) := by decide +kernel
theorem dX4_car_13 : decode cX4_car 13 = .ok (.aload_n 0, 1) := by decide +kernel
theorem dX4_car_14 : decode cX4_car 14 = .ok (.getfield 204, 3) := by decide +kernel
theorem dX4_car_17 : decode cX4_car 17 = .ok (.iadd, 1) := by decide +kernel
theorem dX4_car_18 : decode cX4_car 18 = .ok (.putfield 210, 3) := by decide +kernel
theorem dX4_car_21 : decode cX4_car 21 = .ok (.aload_n 0, 1) := by decide +kernel
theorem dX4_car_22 : decode cX4_car 22 = .ok (.bipush 46, 2) := by decide +kernel
theorem dX4_car_24 : decode cX4_car 24 = .ok (.invokevirtual 213, 3) := by decide +kernel
theorem dX4_car_27 : decode cX4_car 27 = .ok (.ifCond .eq 12, 3) := by decide +kernel
theorem dX4_car_30 : decode cX4_car 30 = .ok (.aload_n 0, 1) := by decide +kernel
theorem dX4_car_31 : decode cX4_car 31 = .ok (.iconst 0, 1) := by decide +kernel
theorem dX4_car_32 : decode cX4_car 32 = .ok (.iconst 3, 1) := by decide +kernel
theorem dX4_car_33 : decode cX4_car 33 = .ok (.invokevirtual 207, 3) := by decide +kernel
theorem dX4_car_36 : decode cX4_car 36 = .ok (.ifCond .ne 5, 3) := by decide +kernel
theorem dX4_car_39 : decode cX4_car 39 = .ok (.iconst 0, 1) := by decide +kernel
theorem dX4_car_40 : decode cX4_car 40 = .ok (.ireturn, 1) := by decide +kernel
theorem dX4_car_41 : decode cX4_car 41 = .ok (.aload_n 0, 1) := by decide +kernel
theorem dX4_car_42 : decode cX4_car 42 = .ok (.aload_n 0, 1) := by decide +kernel
theorem dX4_car_43 : decode cX4_car 43 = .ok (.getfield 204, 3) := by decide +kernel
theorem dX4_car_46 : decode cX4_car 46 = .ok (.putfield 216, 3) := by decide +kernel
theorem dX4_car_49 : decode cX4_car 49 = .ok (.aload_n 0, 1) := by decide +kernel
theorem dX4_car_50 : decode cX4_car 50 = .ok (.bipush 42, 2) := by decide +kernel
theorem dX4_car_52 : decode cX4_car 52 = .ok (.invokevirtual 213, 3) := by decide +kernel
theorem dX4_car_55 : decode cX4_car 55 = .ok (.ifCond .eq 16, 3) := by decide +kernel
theorem dX4_car_58 : decode cX4_car 58 = .ok (.aload_n 0, 1) := by decide +kernel
theorem dX4_car_59 : decode cX4_car 59 = .ok (.iconst 2, 1) := by decide +kernel
theorem dX4_car_60 : decode cX4_car 60 = .ok (.iconst 3, 1) := by decide +kernel
theorem dX4_car_61 : decode cX4_car 61 = .ok (.invokevirtual 207, 3) := by decide +kernel
theorem dX4_car_64 : decode cX4_car 64 = .ok (.ifCond .eq 7, 3) := by decide +kernel
theorem dX4_car_67 : decode cX4_car 67 = .ok (.iconst 1, 1) := by decide +kernel
theorem dX4_car_68 : decode cX4_car 68 = .ok (.goto 4, 3) := by decide +kernel
theorem dX4_car_71 : decode cX4_car 71 = .ok (.iconst 0, 1) := by decide +kernel
theorem dX4_car_72 : decode cX4_car 72 = .ok (.ireturn, 1) := by decide +kernel
theorem dX4_cell_0 : decode cX4_cell 0 = .ok (.aload_n 0, 1) := by decide +kernel
theorem dX4_cell_1 : decode cX4_cell 1 = .ok (.iconst 0, 1) := by decide +kernel
theorem dX4_cell_2 : decode cX4_cell 2 = .ok (.bipush 9, 2) := by decide +kernel
theorem dX4_cell_4 : decode cX4_cell 4 = .ok (.invokevirtual 207, 3) := by decide +kernel
theorem dX4_cell_7 : decode cX4_cell 7 = .ok (.ifCond .ne 5, 3) := by decide +kernel
theorem dX4_cell_10 : decode cX4_cell 10 = .ok (.iconst 0, 1) := by decide +kernel
theorem dX4_cell_11 : decode cX4_cell 11 = .ok (.ireturn, 1) := by decide +kernel
theorem dX4_cell_12 : decode cX4_cell 12 = .ok (.aload_n 0, 1) := by decide +kernel
theorem dX4_cell_13 : decode cX4_cell 13 = .ok (.aload_n 0, 1) := by decide +kernel
theorem dX4_cell_14 : decode cX4_cell 14 = .ok (.getfield 204, 3) := by decide +kernel
theorem dX4_cell_17 : decode cX4_cell 17 = .ok (.putfield 210, 3) := by decide +kernel
theorem dX4_cell_20 : decode cX4_cell 20 = .ok (.aload_n 0, 1) := by decide +kernel
theorem dX4_cell_21 : decode cX4_cell 21 = .ok (.getfield 210, 3) := by decide +kernel
theorem dX4_cell_24 : decode cX4_cell 24 = .ok (.iconst 1, 1) := by decide +kernel
theorem dX4_cell_25 : decode cX4_cell 25 = .ok (.if_icmp .ne 13, 3) := by decide +kernel
theorem dX4_cell_28 : decode cX4_cell 28 = .ok (.aload_n 0, 1) := by decide +kernel
theorem dX4_cell_29 : decode cX4_cell 29 = .ok (.iconst 0, 1) := by decide +kernel
theorem dX4_cell_30 : decode cX4_cell 30 = .ok (.bipush 9, 2) := by decide +kernel
theorem dX4_cell_32 : decode cX4_cell 32 = .ok (.invokevirtual 207, 3) := by decide +kernel
theorem dX4_cell_35 : decode cX4_cell 35 = .ok (.ifCond .ne 20, 3) := by decide +kernel
theorem dX4_cell_38 : decode cX4_cell 38 = .ok (.aload_n 0, 1) := by decide +kernel
theorem dX4_cell_39 : decode cX4_cell 39 = .ok (.getfield 210, 3) := by decide +kernel
theorem dX4_cell_42 : decode cX4_cell 42 = .ok (.iconst 2, 1) := by decide +kernel
theorem dX4_cell_43 : decode cX4_cell 43 = .ok (.if_icmp .ne 28, 3) := by decide +kernel
theorem dX4_cell_46 : decode cX4_cell 46 = .ok (.aload_n 0, 1) := by decide +kernel
theorem dX4_cell_47 : decode cX4_cell 47 = .ok (.iconst 0, 1) := by decide +kernel
theorem dX4_cell_48 : decode cX4_cell 48 = .ok (.iconst 4, 1) := by decide +kernel
theorem dX4_cell_49 : decode cX4_cell 49 = .ok (.invokevirtual 207, 3) := by decide +kernel
theorem dX4_cell_52 : decode cX4_cell 52 = .ok (.ifCond .eq 19, 3) := by decide +kernel
theorem dX4_cell_55 : decode cX4_cell 55 = .ok (.aload_n 0, 1) := by decide +kernel
theorem dX4_cell_56 : decode cX4_cell 56 = .ok (.bipush 10, 2) := by decide +kernel
theorem dX4_cell_58 : decode cX4_cell 58 = .ok (.aload_n 0, 1) := by decide +kernel
theorem dX4_cell_59 : decode cX4_cell 59 = .ok (.getfield 210, 3) := by decide +kernel
theorem dX4_cell_62 : decode cX4_cell 62 = .ok (.imul, 1) := by decide +kernel
theorem dX4_cell_63 : decode cX4_cell 63 = .ok (.aload_n 0, 1) := by decide +kernel
theorem dX4_cell_64 : decode cX4_cell 64 = .ok (.getfield 204, 3) := by decide +kernel
theorem dX4_cell_67 : decode cX4_cell 67 = .ok (.iadd, 1) := by decide +kernel
theorem dX4_cell_68 : decode cX4_cell 68 = .ok (.putfield 210, 3) := by decide +kernel
theorem dX4_cell_71 : decode cX4_cell 71 = .ok (.iconst 1, 1) := by decide +kernel
theorem dX4_cell_72 : decode cX4_cell 72 = .ok (.ireturn, 1) := by decide +kernel
theorem dX4_change_0 : decode cX4_change 0 = .ok (.aload_n 0, 1) := by decide +kernel
theorem dX4_change_1 : decode cX4_change 1 = .ok (.aload_n 0, 1) := by decide +kernel
theorem dX4_change_2 : decode cX4_change 2 = .ok (.bipush 43, 2) := by decide +kernel
theorem dX4_change_4 : decode cX4_change 4 = .ok (.invokevirtual 213, 3) := by decide +kernel
theorem dX4_change_7 : decode cX4_change 7 = .ok (.ifCond .eq 7, 3) := by decide +kernel
theorem dX4_change_10 : decode cX4_change 10 = .ok (.iconst 1, 1) := by decide +kernel
theorem dX4_change_11 : decode cX4_change 11 = .ok (.goto 17, 3) := by decide +kernel
theorem dX4_change_14 : decode cX4_change 14 = .ok (.aload_n 0, 1) := by decide +kernel
theorem dX4_change_15 : decode cX4_change 15 = .ok (.bipush 45, 2) := by decide +kernel
theorem dX4_change_17 : decode cX4_change 17 = .ok (.invokevirtual 213, 3) := by decide +kernel
theorem dX4_change_20 : decode cX4_change 20 = .ok (.ifCond .eq 7, 3) := by decide +kernel
theorem dX4_change_23 : decode cX4_change 23 = .ok (.iconst (-1), 1) := by decide +kernel
theorem dX4_change_24 : decode cX4_change 24 = .ok (.goto 4, 3) := by decide +kernel
theorem dX4_change_27 : decode cX4_change 27 = .ok (.iconst 0, 1) := by decide +kernel
theorem dX4_change_28 : decode cX4_change 28 = .ok (.putfield 216, 3) := by decide +kernel
theorem dX4_change_31 : decode cX4_change 31 = .ok (.aload_n 0, 1) := by decide +kernel
theorem dX4_change_32 : decode cX4_change 32 = .ok (.getfield 216, 3) := by decide +kernel
theorem dX4_change_35 : decode cX4_change 35 = .ok (.ifCond .eq 12, 3) := by decide +kernel
theorem dX4_change_38 : decode cX4_change 38 = .ok (.aload_n 0, 1) := by decide +kernel
theorem dX4_change_39 : decode cX4_change 39 = .ok (.iconst 1, 1) := by decide +kernel
theorem dX4_change_40 : decode cX4_change 40 = .ok (.iconst 3, 1) := by decide +kernel
theorem dX4_change_41 : decode cX4_change 41 = .ok (.invokevirtual 207, 3) := by decide +kernel
theorem dX4_change_44 : decode cX4_change 44 = .ok (.ifCond .ne 5, 3) := by decide +kernel
theorem dX4_change_47 : decode cX4_change 47 = .ok (.iconst 0, 1) := by decide +kernel
theorem dX4_change_48 : decode cX4_change 48 = .ok (.ireturn, 1) := by decide +kernel
theorem dX4_change_49 : decode cX4_change 49 = .ok (.aload_n 0, 1) := by decide +kernel
theorem dX4_change_50 : decode cX4_change 50 = .ok (.dup, 1) := by decide +kernel
theorem dX4_change_51 : decode cX4_change 51 = .ok (.getfield 216, 3) := by decide +kernel
theorem dX4_change_54 : decode cX4_change 54 = .ok (.aload_n 0, 1) := by decide +kernel
theorem dX4_change_55 : decode cX4_change 55 = .ok (.getfield 204, 3) := by decide +kernel
theorem dX4_change_58 : decode cX4_change 58 = .ok (.imul, 1) := by decide +kernel
theorem dX4_change_59 : decode cX4_change 59 = .ok (.putfield 216, 3) := by decide +kernel
theorem dX4_change_62 : decode cX4_change 62 = .ok (.iconst 1, 1) := by decide +kernel
theorem dX4_change_63 : decode cX4_change 63 = .ok (.ireturn, 1) := by decide +kernel
theorem dX4_part_0 : decode cX4_part 0 = .ok (.iload_n 1, 1) := by decide +kernel
theorem dX4_part_1 : decode cX4_part 1 = .ok (.lookupswitch 70 #[(98, 68), (100, 68), (104, 51), (118, 57), (119, 63)], 51) := by decide +kernel
theorem dX4_part_52 : decode cX4_part 52 = .ok (.aload_n 0, 1) := by decide +kernel
theorem dX4_part_53 : decode cX4_part 53 = .ok (.iconst 0, 1) := by decide +kernel
theorem dX4_part_54 : decode cX4_part 54 = .ok (.invokevirtual 219, 3) := by decide +kernel
theorem dX4_part_57 : decode cX4_part 57 = .ok (.ireturn, 1) := by decide +kernel
theorem dX4_part_58 : decode cX4_part 58 = .ok (.aload_n 0, 1) := by decide +kernel
theorem dX4_part_59 : decode cX4_part 59 = .ok (.iconst 5, 1) := by decide +kernel
theorem dX4_part_60 : decode cX4_part 60 = .ok (.invokevirtual 219, 3) := by decide +kernel
theorem dX4_part_63 : decode cX4_part 63 = .ok (.ireturn, 1) := by decide +kernel
theorem dX4_part_64 : decode cX4_part 64 = .ok (.aload_n 0, 1) := by decide +kernel
theorem dX4_part_65 : decode cX4_part 65 = .ok (.invokevirtual 222, 3) := by decide +kernel
theorem dX4_part_68 : decode cX4_part 68 = .ok (.ireturn, 1) := by decide +kernel
theorem dX4_part_69 : decode cX4_part 69 = .ok (.iconst 1, 1) := by decide +kernel
theorem dX4_part_70 : decode cX4_part 70 = .ok (.ireturn, 1) := by decide +kernel
theorem dX4_part_71 : decode cX4_part 71 = .ok (.aload_n 0, 1) := by decide +kernel
theorem dX4_part_72 : decode cX4_part 72 = .ok (.iload_n 1, 1) := by decide +kernel
theorem dX4_part_73 : decode cX4_part 73 = .ok (.bipush 48, 2) := by decide +kernel
theorem dX4_part_75 : decode cX4_part 75 = .ok (.isub, 1) := by decide +kernel
theorem dX4_part_76 : decode cX4_part 76 = .ok (.putfield 210, 3) := by decide +kernel
theorem dX4_part_79 : decode cX4_part 79 = .ok (.aload_n 0, 1) := by decide +kernel
theorem dX4_part_80 : decode cX4_part 80 = .ok (.invokevirtual 225, 3) := by decide +kernel
theorem dX4_part_83 : decode cX4_part 83 = .ok (.ireturn, 1) := by decide +kernel
theorem dX4_isSign_0 : decode cX4_isSign 0 = .ok (.iload_n 0, 1) := by decide +kernel
theorem dX4_isSign_1 : decode cX4_isSign 1 = .ok (.bipush 104, 2) := by decide +kernel
theorem dX4_isSign_3 : decode cX4_isSign 3 = .ok (.if_icmp .eq 41, 3) := by decide +kernel
theorem dX4_isSign_6 : decode cX4_isSign 6 = .ok (.iload_n 0, 1) := by decide +kernel
theorem dX4_isSign_7 : decode cX4_isSign 7 = .ok (.bipush 118, 2) := by decide +kernel
theorem dX4_isSign_9 : decode cX4_isSign 9 = .ok (.if_icmp .eq 35, 3) := by decide +kernel
theorem dX4_isSign_12 : decode cX4_isSign 12 = .ok (.iload_n 0, 1) := by decide +kernel
theorem dX4_isSign_13 : decode cX4_isSign 13 = .ok (.bipush 119, 2) := by decide +kernel
theorem dX4_isSign_15 : decode cX4_isSign 15 = .ok (.if_icmp .eq 29, 3) := by decide +kernel
theorem dX4_isSign_18 : decode cX4_isSign 18 = .ok (.iload_n 0, 1) := by decide +kernel
theorem dX4_isSign_19 : decode cX4_isSign 19 = .ok (.bipush 98, 2) := by decide +kernel
theorem dX4_isSign_21 : decode cX4_isSign 21 = .ok (.if_icmp .eq 23, 3) := by decide +kernel
theorem dX4_isSign_24 : decode cX4_isSign 24 = .ok (.iload_n 0, 1) := by decide +kernel
theorem dX4_isSign_25 : decode cX4_isSign 25 = .ok (.bipush 100, 2) := by decide +kernel
theorem dX4_isSign_27 : decode cX4_isSign 27 = .ok (.if_icmp .eq 17, 3) := by decide +kernel
theorem dX4_isSign_30 : decode cX4_isSign 30 = .ok (.iload_n 0, 1) := by decide +kernel
theorem dX4_isSign_31 : decode cX4_isSign 31 = .ok (.i2l, 1) := by decide +kernel
theorem dX4_isSign_32 : decode cX4_isSign 32 = .ok (.ldc2_w 228, 3) := by decide +kernel
theorem dX4_isSign_35 : decode cX4_isSign 35 = .ok (.ldc2_w 230, 3) := by decide +kernel
theorem dX4_isSign_38 : decode cX4_isSign 38 = .ok (.invokestatic 47, 3) := by decide +kernel
theorem dX4_isSign_41 : decode cX4_isSign 41 = .ok (.ifCond .eq 7, 3) := by decide +kernel
theorem dX4_isSign_44 : decode cX4_isSign 44 = .ok (.iconst 1, 1) := by decide +kernel
theorem dX4_isSign_45 : decode cX4_isSign 45 = .ok (.goto 4, 3) := by decide +kernel
theorem dX4_isSign_48 : decode cX4_isSign 48 = .ok (.iconst 0, 1) := by decide +kernel
theorem dX4_isSign_49 : decode cX4_isSign 49 = .ok (.ireturn, 1) := by decide +kernel
theorem dX4_does_0 : decode cX4_does 0 = .ok (.iload_n 1, 1) := by decide +kernel
theorem dX4_does_1 : decode cX4_does 1 = .ok (.lookupswitch 166 #[(98, 123), (100, 146), (104, 51), (118, 51), (119, 95)], 51) := by decide +kernel
theorem dX4_does_52 : decode cX4_does 52 = .ok (.aload_n 0, 1) := by decide +kernel
theorem dX4_does_53 : decode cX4_does 53 = .ok (.aload_n 0, 1) := by decide +kernel
theorem dX4_does_54 : decode cX4_does 54 = .ok (.getfield 210, 3) := by decide +kernel
theorem dX4_does_57 : decode cX4_does 57 = .ok (.aload_n 0, 1) := by decide +kernel
theorem dX4_does_58 : decode cX4_does 58 = .ok (.getfield 216, 3) := by decide +kernel
theorem dX4_does_61 : decode cX4_does 61 = .ok (.aload_n 0, 1) := by decide +kernel
theorem dX4_does_62 : decode cX4_does 62 = .ok (.getfield 204, 3) := by decide +kernel
theorem dX4_does_65 : decode cX4_does 65 = .ok (.invokevirtual 155, 3) := by decide +kernel
theorem dX4_does_68 : decode cX4_does 68 = .ok (.ifCond .ne 26, 3) := by decide +kernel
theorem dX4_does_71 : decode cX4_does 71 = .ok (.aload_n 0, 1) := by decide +kernel
theorem dX4_does_72 : decode cX4_does 72 = .ok (.aload_n 0, 1) := by decide +kernel
theorem dX4_does_73 : decode cX4_does 73 = .ok (.getfield 210, 3) := by decide +kernel
theorem dX4_does_76 : decode cX4_does 76 = .ok (.aload_n 0, 1) := by decide +kernel
theorem dX4_does_77 : decode cX4_does 77 = .ok (.getfield 216, 3) := by decide +kernel
theorem dX4_does_80 : decode cX4_does 80 = .ok (.aload_n 0, 1) := by decide +kernel
theorem dX4_does_81 : decode cX4_does 81 = .ok (.getfield 204, 3) := by decide +kernel
theorem dX4_does_84 : decode cX4_does 84 = .ok (.invokevirtual 164, 3) := by decide +kernel
theorem dX4_does_87 : decode cX4_does 87 = .ok (.ifCond .lt 7, 3) := by decide +kernel
theorem dX4_does_90 : decode cX4_does 90 = .ok (.iconst 1, 1) := by decide +kernel
theorem dX4_does_91 : decode cX4_does 91 = .ok (.goto 4, 3) := by decide +kernel
theorem dX4_does_94 : decode cX4_does 94 = .ok (.iconst 0, 1) := by decide +kernel
theorem dX4_does_95 : decode cX4_does 95 = .ok (.ireturn, 1) := by decide +kernel
theorem dX4_does_96 : decode cX4_does 96 = .ok (.aload_n 0, 1) := by decide +kernel
theorem dX4_does_97 : decode cX4_does 97 = .ok (.aload_n 0, 1) := by decide +kernel
theorem dX4_does_98 : decode cX4_does 98 = .ok (.getfield 210, 3) := by decide +kernel
theorem dX4_does_101 : decode cX4_does 101 = .ok (.invokevirtual 170, 3) := by decide +kernel
theorem dX4_does_104 : decode cX4_does 104 = .ok (.ifCond .eq 18, 3) := by decide +kernel
theorem dX4_does_107 : decode cX4_does 107 = .ok (.aload_n 0, 1) := by decide +kernel
theorem dX4_does_108 : decode cX4_does 108 = .ok (.aload_n 0, 1) := by decide +kernel
theorem dX4_does_109 : decode cX4_does 109 = .ok (.getfield 210, 3) := by decide +kernel
theorem dX4_does_112 : decode cX4_does 112 = .ok (.invokevirtual 173, 3) := by decide +kernel
theorem dX4_does_115 : decode cX4_does 115 = .ok (.ifCond .ne 3, 3) := by decide +kernel
theorem dX4_does_118 : decode cX4_does 118 = .ok (.iconst 1, 1) := by decide +kernel
theorem dX4_does_119 : decode cX4_does 119 = .ok (.goto 4, 3) := by decide +kernel
theorem dX4_does_122 : decode cX4_does 122 = .ok (.iconst 0, 1) := by decide +kernel
theorem dX4_does_123 : decode cX4_does 123 = .ok (.ireturn, 1) := by decide +kernel
theorem dX4_does_124 : decode cX4_does 124 = .ok (.aload_n 0, 1) := by decide +kernel
theorem dX4_does_125 : decode cX4_does 125 = .ok (.getfield 13, 3) := by decide +kernel
theorem dX4_does_128 : decode cX4_does 128 = .ok (.bipush 20, 2) := by decide +kernel
theorem dX4_does_130 : decode cX4_does 130 = .ok (.iaload, 1) := by decide +kernel
theorem dX4_does_131 : decode cX4_does 131 = .ok (.ifCond .le 14, 3) := by decide +kernel
theorem dX4_does_134 : decode cX4_does 134 = .ok (.aload_n 0, 1) := by decide +kernel
theorem dX4_does_135 : decode cX4_does 135 = .ok (.invokevirtual 184, 3) := by decide +kernel
theorem dX4_does_138 : decode cX4_does 138 = .ok (.ifCond .lt 7, 3) := by decide +kernel
theorem dX4_does_141 : decode cX4_does 141 = .ok (.iconst 1, 1) := by decide +kernel
theorem dX4_does_142 : decode cX4_does 142 = .ok (.goto 4, 3) := by decide +kernel
theorem dX4_does_145 : decode cX4_does 145 = .ok (.iconst 0, 1) := by decide +kernel
theorem dX4_does_146 : decode cX4_does 146 = .ok (.ireturn, 1) := by decide +kernel
theorem dX4_does_147 : decode cX4_does 147 = .ok (.aload_n 0, 1) := by decide +kernel
theorem dX4_does_148 : decode cX4_does 148 = .ok (.invokevirtual 187, 3) := by decide +kernel
theorem dX4_does_151 : decode cX4_does 151 = .ok (.ifCond .eq 14, 3) := by decide +kernel
theorem dX4_does_154 : decode cX4_does 154 = .ok (.aload_n 0, 1) := by decide +kernel
theorem dX4_does_155 : decode cX4_does 155 = .ok (.invokevirtual 191, 3) := by decide +kernel
theorem dX4_does_158 : decode cX4_does 158 = .ok (.ifCond .lt 7, 3) := by decide +kernel
theorem dX4_does_161 : decode cX4_does 161 = .ok (.iconst 1, 1) := by decide +kernel
theorem dX4_does_162 : decode cX4_does 162 = .ok (.goto 4, 3) := by decide +kernel
theorem dX4_does_165 : decode cX4_does 165 = .ok (.iconst 0, 1) := by decide +kernel
theorem dX4_does_166 : decode cX4_does 166 = .ok (.ireturn, 1) := by decide +kernel
theorem dX4_does_167 : decode cX4_does 167 = .ok (.aload_n 0, 1) := by decide +kernel
theorem dX4_does_168 : decode cX4_does 168 = .ok (.aload_n 0, 1) := by decide +kernel
theorem dX4_does_169 : decode cX4_does 169 = .ok (.getfield 210, 3) := by decide +kernel
theorem dX4_does_172 : decode cX4_does 172 = .ok (.invokevirtual 178, 3) := by decide +kernel
theorem dX4_does_175 : decode cX4_does 175 = .ok (.ifCond .eq 49, 3) := by decide +kernel
theorem dX4_does_178 : decode cX4_does 178 = .ok (.aload_n 0, 1) := by decide +kernel
theorem dX4_does_179 : decode cX4_does 179 = .ok (.aload_n 0, 1) := by decide +kernel
theorem dX4_does_180 : decode cX4_does 180 = .ok (.getfield 210, 3) := by decide +kernel
theorem dX4_does_183 : decode cX4_does 183 = .ok (.aload_n 0, 1) := by decide +kernel
theorem dX4_does_184 : decode cX4_does 184 = .ok (.getfield 216, 3) := by decide +kernel
theorem dX4_does_187 : decode cX4_does 187 = .ok (.invokevirtual 119, 3) := by decide +kernel
theorem dX4_does_190 : decode cX4_does 190 = .ok (.ifCond .eq 34, 3) := by decide +kernel
theorem dX4_does_193 : decode cX4_does 193 = .ok (.aload_n 0, 1) := by decide +kernel
theorem dX4_does_194 : decode cX4_does 194 = .ok (.getfield 13, 3) := by decide +kernel
theorem dX4_does_197 : decode cX4_does 197 = .ok (.bipush 20, 2) := by decide +kernel
theorem dX4_does_199 : decode cX4_does 199 = .ok (.iaload, 1) := by decide +kernel
theorem dX4_does_200 : decode cX4_does 200 = .ok (.bipush 60, 2) := by decide +kernel
theorem dX4_does_202 : decode cX4_does 202 = .ok (.if_icmp .ge 22, 3) := by decide +kernel
theorem dX4_does_205 : decode cX4_does 205 = .ok (.aload_n 0, 1) := by decide +kernel
theorem dX4_does_206 : decode cX4_does 206 = .ok (.aload_n 0, 1) := by decide +kernel
theorem dX4_does_207 : decode cX4_does 207 = .ok (.getfield 210, 3) := by decide +kernel
theorem dX4_does_210 : decode cX4_does 210 = .ok (.aload_n 0, 1) := by decide +kernel
theorem dX4_does_211 : decode cX4_does 211 = .ok (.getfield 216, 3) := by decide +kernel
theorem dX4_does_214 : decode cX4_does 214 = .ok (.invokevirtual 152, 3) := by decide +kernel
theorem dX4_does_217 : decode cX4_does 217 = .ok (.ifCond .lt 7, 3) := by decide +kernel
theorem dX4_does_220 : decode cX4_does 220 = .ok (.iconst 1, 1) := by decide +kernel
theorem dX4_does_221 : decode cX4_does 221 = .ok (.goto 4, 3) := by decide +kernel
theorem dX4_does_224 : decode cX4_does 224 = .ok (.iconst 0, 1) := by decide +kernel
theorem dX4_does_225 : decode cX4_does 225 = .ok (.ireturn, 1) := by decide +kernel
theorem dX4_reads_0 : decode cX4_reads 0 = .ok (.aload_n 0, 1) := by decide +kernel
theorem dX4_reads_1 : decode cX4_reads 1 = .ok (.iconst 0, 1) := by decide +kernel
theorem dX4_reads_2 : decode cX4_reads 2 = .ok (.putfield 201, 3) := by decide +kernel
theorem dX4_reads_5 : decode cX4_reads 5 = .ok (.aload_n 0, 1) := by decide +kernel
theorem dX4_reads_6 : decode cX4_reads 6 = .ok (.iconst 0, 1) := by decide +kernel
theorem dX4_reads_7 : decode cX4_reads 7 = .ok (.putfield 232, 3) := by decide +kernel
theorem dX4_reads_10 : decode cX4_reads 10 = .ok (.aload_n 0, 1) := by decide +kernel
theorem dX4_reads_11 : decode cX4_reads 11 = .ok (.iconst 0, 1) := by decide +kernel
theorem dX4_reads_12 : decode cX4_reads 12 = .ok (.putfield 235, 3) := by decide +kernel
theorem dX4_reads_15 : decode cX4_reads 15 = .ok (.iload_n 1, 1) := by decide +kernel
theorem dX4_reads_16 : decode cX4_reads 16 = .ok (.istore_n 2, 1) := by decide +kernel
theorem dX4_reads_17 : decode cX4_reads 17 = .ok (.iconst 0, 1) := by decide +kernel
theorem dX4_reads_18 : decode cX4_reads 18 = .ok (.istore_n 3, 1) := by decide +kernel
theorem dX4_reads_19 : decode cX4_reads 19 = .ok (.iconst 1, 1) := by decide +kernel
theorem dX4_reads_20 : decode cX4_reads 20 = .ok (.istore 4, 2) := by decide +kernel
theorem dX4_reads_22 : decode cX4_reads 22 = .ok (.iload 4, 2) := by decide +kernel
theorem dX4_reads_24 : decode cX4_reads 24 = .ok (.ifCond .eq 149, 3) := by decide +kernel
theorem dX4_reads_27 : decode cX4_reads 27 = .ok (.aload_n 0, 1) := by decide +kernel
theorem dX4_reads_28 : decode cX4_reads 28 = .ok (.getfield 201, 3) := by decide +kernel
theorem dX4_reads_31 : decode cX4_reads 31 = .ok (.aload_n 0, 1) := by decide +kernel
theorem dX4_reads_32 : decode cX4_reads 32 = .ok (.getfield 198, 3) := by decide +kernel
theorem dX4_reads_35 : decode cX4_reads 35 = .ok (.if_icmp .eq 18, 3) := by decide +kernel
theorem dX4_reads_38 : decode cX4_reads 38 = .ok (.aload_n 0, 1) := by decide +kernel
theorem dX4_reads_39 : decode cX4_reads 39 = .ok (.getfield 7, 3) := by decide +kernel
theorem dX4_reads_42 : decode cX4_reads 42 = .ok (.aload_n 0, 1) := by decide +kernel
theorem dX4_reads_43 : decode cX4_reads 43 = .ok (.getfield 201, 3) := by decide +kernel
theorem dX4_reads_46 : decode cX4_reads 46 = .ok (.iaload, 1) := by decide +kernel
theorem dX4_reads_47 : decode cX4_reads 47 = .ok (.invokestatic 239, 3) := by decide +kernel
theorem dX4_reads_50 : decode cX4_reads 50 = .ok (.ifCond .ne 8, 3) := by decide +kernel
theorem dX4_reads_53 : decode cX4_reads 53 = .ok (.aload_n 0, 1) := by decide +kernel
theorem dX4_reads_54 : decode cX4_reads 54 = .ok (.getfield 201, 3) := by decide +kernel
theorem dX4_reads_57 : decode cX4_reads 57 = .ok (.ireturn, 1) := by decide +kernel
theorem dX4_reads_58 : decode cX4_reads 58 = .ok (.aload_n 0, 1) := by decide +kernel
theorem dX4_reads_59 : decode cX4_reads 59 = .ok (.getfield 7, 3) := by decide +kernel
theorem dX4_reads_62 : decode cX4_reads 62 = .ok (.aload_n 0, 1) := by decide +kernel
theorem dX4_reads_63 : decode cX4_reads 63 = .ok (.getfield 201, 3) := by decide +kernel
theorem dX4_reads_66 : decode cX4_reads 66 = .ok (.iaload, 1) := by decide +kernel
theorem dX4_reads_67 : decode cX4_reads 67 = .ok (.istore 5, 2) := by decide +kernel
theorem dX4_reads_69 : decode cX4_reads 69 = .ok (.aload_n 0, 1) := by decide +kernel
theorem dX4_reads_70 : decode cX4_reads 70 = .ok (.dup, 1) := by decide +kernel
theorem dX4_reads_71 : decode cX4_reads 71 = .ok (.getfield 201, 3) := by decide +kernel
theorem dX4_reads_74 : decode cX4_reads 74 = .ok (.iconst 1, 1) := by decide +kernel
theorem dX4_reads_75 : decode cX4_reads 75 = .ok (.iadd, 1) := by decide +kernel
theorem dX4_reads_76 : decode cX4_reads 76 = .ok (.putfield 201, 3) := by decide +kernel
theorem dX4_reads_79 : decode cX4_reads 79 = .ok (.aload_n 0, 1) := by decide +kernel
theorem dX4_reads_80 : decode cX4_reads 80 = .ok (.iload 5, 2) := by decide +kernel
theorem dX4_reads_82 : decode cX4_reads 82 = .ok (.invokevirtual 242, 3) := by decide +kernel
theorem dX4_reads_85 : decode cX4_reads 85 = .ok (.ifCond .ne 8, 3) := by decide +kernel
theorem dX4_reads_88 : decode cX4_reads 88 = .ok (.aload_n 0, 1) := by decide +kernel
theorem dX4_reads_89 : decode cX4_reads 89 = .ok (.getfield 201, 3) := by decide +kernel
theorem dX4_reads_92 : decode cX4_reads 92 = .ok (.ireturn, 1) := by decide +kernel
theorem dX4_reads_93 : decode cX4_reads 93 = .ok (.iload_n 2, 1) := by decide +kernel
theorem dX4_reads_94 : decode cX4_reads 94 = .ok (.ifCond .eq 16, 3) := by decide +kernel
theorem dX4_reads_97 : decode cX4_reads 97 = .ok (.aload_n 0, 1) := by decide +kernel
theorem dX4_reads_98 : decode cX4_reads 98 = .ok (.iload 5, 2) := by decide +kernel
theorem dX4_reads_100 : decode cX4_reads 100 = .ok (.invokevirtual 245, 3) := by decide +kernel
theorem dX4_reads_103 : decode cX4_reads 103 = .ok (.ifCond .eq 7, 3) := by decide +kernel
theorem dX4_reads_106 : decode cX4_reads 106 = .ok (.iconst 1, 1) := by decide +kernel
theorem dX4_reads_107 : decode cX4_reads 107 = .ok (.goto 4, 3) := by decide +kernel
theorem dX4_reads_110 : decode cX4_reads 110 = .ok (.iconst 0, 1) := by decide +kernel
theorem dX4_reads_111 : decode cX4_reads 111 = .ok (.istore_n 2, 1) := by decide +kernel
theorem dX4_reads_112 : decode cX4_reads 112 = .ok (.aload_n 0, 1) := by decide +kernel
theorem dX4_reads_113 : decode cX4_reads 113 = .ok (.dup, 1) := by decide +kernel
theorem dX4_reads_114 : decode cX4_reads 114 = .ok (.getfield 232, 3) := by decide +kernel
theorem dX4_reads_117 : decode cX4_reads 117 = .ok (.iload_n 2, 1) := by decide +kernel
theorem dX4_reads_118 : decode cX4_reads 118 = .ok (.ifCond .eq 7, 3) := by decide +kernel
theorem dX4_reads_121 : decode cX4_reads 121 = .ok (.iconst 1, 1) := by decide +kernel
theorem dX4_reads_122 : decode cX4_reads 122 = .ok (.goto 4, 3) := by decide +kernel
theorem dX4_reads_125 : decode cX4_reads 125 = .ok (.iconst 0, 1) := by decide +kernel
theorem dX4_reads_126 : decode cX4_reads 126 = .ok (.iadd, 1) := by decide +kernel
theorem dX4_reads_127 : decode cX4_reads 127 = .ok (.putfield 232, 3) := by decide +kernel
theorem dX4_reads_130 : decode cX4_reads 130 = .ok (.iinc 3 1, 3) := by decide +kernel
theorem dX4_reads_133 : decode cX4_reads 133 = .ok (.aload_n 0, 1) := by decide +kernel
theorem dX4_reads_134 : decode cX4_reads 134 = .ok (.getfield 201, 3) := by decide +kernel
theorem dX4_reads_137 : decode cX4_reads 137 = .ok (.aload_n 0, 1) := by decide +kernel
theorem dX4_reads_138 : decode cX4_reads 138 = .ok (.getfield 198, 3) := by decide +kernel
theorem dX4_reads_141 : decode cX4_reads 141 = .ok (.if_icmp .ge 7, 3) := by decide +kernel
theorem dX4_reads_144 : decode cX4_reads 144 = .ok (.iconst 1, 1) := by decide +kernel
theorem dX4_reads_145 : decode cX4_reads 145 = .ok (.goto 4, 3) := by decide +kernel
theorem dX4_reads_148 : decode cX4_reads 148 = .ok (.iconst 0, 1) := by decide +kernel
theorem dX4_reads_149 : decode cX4_reads 149 = .ok (.istore 4, 2) := by decide +kernel
theorem dX4_reads_151 : decode cX4_reads 151 = .ok (.iload 4, 2) := by decide +kernel
theorem dX4_reads_153 : decode cX4_reads 153 = .ok (.ifCond .eq 17, 3) := by decide +kernel
theorem dX4_reads_156 : decode cX4_reads 156 = .ok (.aload_n 0, 1) := by decide +kernel
theorem dX4_reads_157 : decode cX4_reads 157 = .ok (.bipush 59, 2) := by decide +kernel
theorem dX4_reads_159 : decode cX4_reads 159 = .ok (.invokevirtual 213, 3) := by decide +kernel
theorem dX4_reads_162 : decode cX4_reads 162 = .ok (.ifCond .ne 8, 3) := by decide +kernel
theorem dX4_reads_165 : decode cX4_reads 165 = .ok (.aload_n 0, 1) := by decide +kernel
theorem dX4_reads_166 : decode cX4_reads 166 = .ok (.getfield 201, 3) := by decide +kernel
theorem dX4_reads_169 : decode cX4_reads 169 = .ok (.ireturn, 1) := by decide +kernel
theorem dX4_reads_170 : decode cX4_reads 170 = .ok (.goto (-148), 3) := by decide +kernel
theorem dX4_reads_173 : decode cX4_reads 173 = .ok (.aload_n 0, 1) := by decide +kernel
theorem dX4_reads_174 : decode cX4_reads 174 = .ok (.iconst 1, 1) := by decide +kernel
theorem dX4_reads_175 : decode cX4_reads 175 = .ok (.putfield 235, 3) := by decide +kernel
theorem dX4_reads_178 : decode cX4_reads 178 = .ok (.aload_n 0, 1) := by decide +kernel
theorem dX4_reads_179 : decode cX4_reads 179 = .ok (.getfield 13, 3) := by decide +kernel
theorem dX4_reads_182 : decode cX4_reads 182 = .ok (.bipush 81, 2) := by decide +kernel
theorem dX4_reads_184 : decode cX4_reads 184 = .ok (.iload_n 1, 1) := by decide +kernel
theorem dX4_reads_185 : decode cX4_reads 185 = .ok (.ifCond .ne 13, 3) := by decide +kernel
theorem dX4_reads_188 : decode cX4_reads 188 = .ok (.aload_n 0, 1) := by decide +kernel
theorem dX4_reads_189 : decode cX4_reads 189 = .ok (.getfield 13, 3) := by decide +kernel
theorem dX4_reads_192 : decode cX4_reads 192 = .ok (.bipush 81, 2) := by decide +kernel
theorem dX4_reads_194 : decode cX4_reads 194 = .ok (.iaload, 1) := by decide +kernel
theorem dX4_reads_195 : decode cX4_reads 195 = .ok (.goto 19, 3) := by decide +kernel
theorem dX4_reads_198 : decode cX4_reads 198 = .ok (.aload_n 0, 1) := by decide +kernel
theorem dX4_reads_199 : decode cX4_reads 199 = .ok (.getfield 232, 3) := by decide +kernel
theorem dX4_reads_202 : decode cX4_reads 202 = .ok (.iload_n 3, 1) := by decide +kernel
theorem dX4_reads_203 : decode cX4_reads 203 = .ok (.if_icmp .ge 10, 3) := by decide +kernel
theorem dX4_reads_206 : decode cX4_reads 206 = .ok (.aload_n 0, 1) := by decide +kernel
theorem dX4_reads_207 : decode cX4_reads 207 = .ok (.getfield 232, 3) := by decide +kernel
theorem dX4_reads_210 : decode cX4_reads 210 = .ok (.goto 4, 3) := by decide +kernel
theorem dX4_reads_213 : decode cX4_reads 213 = .ok (.iconst (-1), 1) := by decide +kernel
theorem dX4_reads_214 : decode cX4_reads 214 = .ok (.iastore, 1) := by decide +kernel
theorem dX4_reads_215 : decode cX4_reads 215 = .ok (.aload_n 0, 1) := by decide +kernel
theorem dX4_reads_216 : decode cX4_reads 216 = .ok (.getfield 198, 3) := by decide +kernel
theorem dX4_reads_219 : decode cX4_reads 219 = .ok (.ireturn, 1) := by decide +kernel
theorem dX4_firstError_0 : decode cX4_firstError 0 = .ok (.aload_n 0, 1) := by decide +kernel
theorem dX4_firstError_1 : decode cX4_firstError 1 = .ok (.iconst 0, 1) := by decide +kernel
theorem dX4_firstError_2 : decode cX4_firstError 2 = .ok (.putfield 35, 3) := by decide +kernel
theorem dX4_firstError_5 : decode cX4_firstError 5 = .ok (.aload_n 0, 1) := by decide +kernel
theorem dX4_firstError_6 : decode cX4_firstError 6 = .ok (.iconst 0, 1) := by decide +kernel
theorem dX4_firstError_7 : decode cX4_firstError 7 = .ok (.invokevirtual 248, 3) := by decide +kernel
theorem dX4_firstError_10 : decode cX4_firstError 10 = .ok (.ireturn, 1) := by decide +kernel
theorem dX4_work_0 : decode cX4_work 0 = .ok (.aload_n 0, 1) := by decide +kernel
theorem dX4_work_1 : decode cX4_work 1 = .ok (.iconst 0, 1) := by decide +kernel
theorem dX4_work_2 : decode cX4_work 2 = .ok (.invokevirtual 248, 3) := by decide +kernel
theorem dX4_work_5 : decode cX4_work 5 = .ok (.pop, 1) := by decide +kernel
theorem dX4_work_6 : decode cX4_work 6 = .ok (.aload_n 0, 1) := by decide +kernel
theorem dX4_work_7 : decode cX4_work 7 = .ok (.aload_n 0, 1) := by decide +kernel
theorem dX4_work_8 : decode cX4_work 8 = .ok (.getfield 235, 3) := by decide +kernel
theorem dX4_work_11 : decode cX4_work 11 = .ok (.ifCond .eq 7, 3) := by decide +kernel
theorem dX4_work_14 : decode cX4_work 14 = .ok (.iconst 0, 1) := by decide +kernel
theorem dX4_work_15 : decode cX4_work 15 = .ok (.goto 4, 3) := by decide +kernel
theorem dX4_work_18 : decode cX4_work 18 = .ok (.iconst 1, 1) := by decide +kernel
theorem dX4_work_19 : decode cX4_work 19 = .ok (.invokevirtual 158, 3) := by decide +kernel
theorem dX4_work_22 : decode cX4_work 22 = .ok (.ifCond .eq 5, 3) := by decide +kernel
theorem dX4_work_25 : decode cX4_work 25 = .ok (.iconst 0, 1) := by decide +kernel
theorem dX4_work_26 : decode cX4_work 26 = .ok (.ireturn, 1) := by decide +kernel
theorem dX4_work_27 : decode cX4_work 27 = .ok (.aload_n 0, 1) := by decide +kernel
theorem dX4_work_28 : decode cX4_work 28 = .ok (.invokevirtual 161, 3) := by decide +kernel
theorem dX4_work_31 : decode cX4_work 31 = .ok (.aload_n 0, 1) := by decide +kernel
theorem dX4_work_32 : decode cX4_work 32 = .ok (.iconst 1, 1) := by decide +kernel
theorem dX4_work_33 : decode cX4_work 33 = .ok (.invokevirtual 248, 3) := by decide +kernel
theorem dX4_work_36 : decode cX4_work 36 = .ok (.pop, 1) := by decide +kernel
theorem dX4_work_37 : decode cX4_work 37 = .ok (.aload_n 0, 1) := by decide +kernel
theorem dX4_work_38 : decode cX4_work 38 = .ok (.iconst 0, 1) := by decide +kernel
theorem dX4_work_39 : decode cX4_work 39 = .ok (.putfield 198, 3) := by decide +kernel
theorem dX4_work_42 : decode cX4_work 42 = .ok (.aload_n 0, 1) := by decide +kernel
theorem dX4_work_43 : decode cX4_work 43 = .ok (.getfield 232, 3) := by decide +kernel
theorem dX4_work_46 : decode cX4_work 46 = .ok (.ireturn, 1) := by decide +kernel
theorem dX4_hasStopped_0 : decode cX4_hasStopped 0 = .ok (.aload_n 0, 1) := by decide +kernel
theorem dX4_hasStopped_1 : decode cX4_hasStopped 1 = .ok (.iconst 0, 1) := by decide +kernel
theorem dX4_hasStopped_2 : decode cX4_hasStopped 2 = .ok (.putfield 35, 3) := by decide +kernel
theorem dX4_hasStopped_5 : decode cX4_hasStopped 5 = .ok (.aload_n 0, 1) := by decide +kernel
theorem dX4_hasStopped_6 : decode cX4_hasStopped 6 = .ok (.getfield 13, 3) := by decide +kernel
theorem dX4_hasStopped_9 : decode cX4_hasStopped 9 = .ok (.bipush 81, 2) := by decide +kernel
theorem dX4_hasStopped_11 : decode cX4_hasStopped 11 = .ok (.iaload, 1) := by decide +kernel
theorem dX4_hasStopped_12 : decode cX4_hasStopped 12 = .ok (.iconst (-1), 1) := by decide +kernel
theorem dX4_hasStopped_13 : decode cX4_hasStopped 13 = .ok (.if_icmp .eq 7, 3) := by decide +kernel
theorem dX4_hasStopped_16 : decode cX4_hasStopped 16 = .ok (.iconst 1, 1) := by decide +kernel
theorem dX4_hasStopped_17 : decode cX4_hasStopped 17 = .ok (.goto 4, 3) := by decide +kernel
theorem dX4_hasStopped_20 : decode cX4_hasStopped 20 = .ok (.iconst 0, 1) := by decide +kernel
theorem dX4_hasStopped_21 : decode cX4_hasStopped 21 = .ok (.ireturn, 1) := by decide +kernel
theorem dX4_stoppedPart_0 : decode cX4_stoppedPart 0 = .ok (.aload_n 0, 1) := by decide +kernel
theorem dX4_stoppedPart_1 : decode cX4_stoppedPart 1 = .ok (.aload_n 0, 1) := by decide +kernel
theorem dX4_stoppedPart_2 : decode cX4_stoppedPart 2 = .ok (.getfield 13, 3) := by decide +kernel
theorem dX4_stoppedPart_5 : decode cX4_stoppedPart 5 = .ok (.bipush 81, 2) := by decide +kernel
theorem dX4_stoppedPart_7 : decode cX4_stoppedPart 7 = .ok (.iaload, 1) := by decide +kernel
theorem dX4_stoppedPart_8 : decode cX4_stoppedPart 8 = .ok (.iconst (-1), 1) := by decide +kernel
theorem dX4_stoppedPart_9 : decode cX4_stoppedPart 9 = .ok (.if_icmp .ne 7, 3) := by decide +kernel
theorem dX4_stoppedPart_12 : decode cX4_stoppedPart 12 = .ok (.iconst 1, 1) := by decide +kernel
theorem dX4_stoppedPart_13 : decode cX4_stoppedPart 13 = .ok (.goto 4, 3) := by decide +kernel
theorem dX4_stoppedPart_16 : decode cX4_stoppedPart 16 = .ok (.iconst 0, 1) := by decide +kernel
theorem dX4_stoppedPart_17 : decode cX4_stoppedPart 17 = .ok (.invokevirtual 158, 3) := by decide +kernel
theorem dX4_stoppedPart_20 : decode cX4_stoppedPart 20 = .ok (.ifCond .eq 7, 3) := by decide +kernel
theorem dX4_stoppedPart_23 : decode cX4_stoppedPart 23 = .ok (.iconst 0, 1) := by decide +kernel
theorem dX4_stoppedPart_24 : decode cX4_stoppedPart 24 = .ok (.goto 10, 3) := by decide +kernel
theorem dX4_stoppedPart_27 : decode cX4_stoppedPart 27 = .ok (.aload_n 0, 1) := by decide +kernel
theorem dX4_stoppedPart_28 : decode cX4_stoppedPart 28 = .ok (.getfield 13, 3) := by decide +kernel
theorem dX4_stoppedPart_31 : decode cX4_stoppedPart 31 = .ok (.bipush 81, 2) := by decide +kernel
theorem dX4_stoppedPart_33 : decode cX4_stoppedPart 33 = .ok (.iaload, 1) := by decide +kernel
theorem dX4_stoppedPart_34 : decode cX4_stoppedPart 34 = .ok (.ireturn, 1) := by decide +kernel
theorem dX4_undo_0 : decode cX4_undo 0 = .ok (.aload_n 0, 1) := by decide +kernel
theorem dX4_undo_1 : decode cX4_undo 1 = .ok (.aload_n 0, 1) := by decide +kernel
theorem dX4_undo_2 : decode cX4_undo 2 = .ok (.getfield 123, 3) := by decide +kernel
theorem dX4_undo_5 : decode cX4_undo 5 = .ok (.ifCond .le 7, 3) := by decide +kernel
theorem dX4_undo_8 : decode cX4_undo 8 = .ok (.iconst 0, 1) := by decide +kernel
theorem dX4_undo_9 : decode cX4_undo 9 = .ok (.goto 4, 3) := by decide +kernel
theorem dX4_undo_12 : decode cX4_undo 12 = .ok (.iconst 1, 1) := by decide +kernel
theorem dX4_undo_13 : decode cX4_undo 13 = .ok (.invokevirtual 158, 3) := by decide +kernel
theorem dX4_undo_16 : decode cX4_undo 16 = .ok (.ifCond .eq 5, 3) := by decide +kernel
theorem dX4_undo_19 : decode cX4_undo 19 = .ok (.iconst 0, 1) := by decide +kernel
theorem dX4_undo_20 : decode cX4_undo 20 = .ok (.ireturn, 1) := by decide +kernel
theorem dX4_undo_21 : decode cX4_undo 21 = .ok (.aload_n 0, 1) := by decide +kernel
theorem dX4_undo_22 : decode cX4_undo 22 = .ok (.dup, 1) := by decide +kernel
theorem dX4_undo_23 : decode cX4_undo 23 = .ok (.getfield 123, 3) := by decide +kernel
theorem dX4_undo_26 : decode cX4_undo 26 = .ok (.iconst 1, 1) := by decide +kernel
theorem dX4_undo_27 : decode cX4_undo 27 = .ok (.isub, 1) := by decide +kernel
theorem dX4_undo_28 : decode cX4_undo 28 = .ok (.putfield 123, 3) := by decide +kernel
theorem dX4_undo_31 : decode cX4_undo 31 = .ok (.aload_n 0, 1) := by decide +kernel
theorem dX4_undo_32 : decode cX4_undo 32 = .ok (.getfield 16, 3) := by decide +kernel
theorem dX4_undo_35 : decode cX4_undo 35 = .ok (.bipush 82, 2) := by decide +kernel
theorem dX4_undo_37 : decode cX4_undo 37 = .ok (.aload_n 0, 1) := by decide +kernel
theorem dX4_undo_38 : decode cX4_undo 38 = .ok (.getfield 123, 3) := by decide +kernel
theorem dX4_undo_41 : decode cX4_undo 41 = .ok (.imul, 1) := by decide +kernel
theorem dX4_undo_42 : decode cX4_undo 42 = .ok (.aload_n 0, 1) := by decide +kernel
theorem dX4_undo_43 : decode cX4_undo 43 = .ok (.getfield 13, 3) := by decide +kernel
theorem dX4_undo_46 : decode cX4_undo 46 = .ok (.iconst 0, 1) := by decide +kernel
theorem dX4_undo_47 : decode cX4_undo 47 = .ok (.invokestatic 126, 3) := by decide +kernel
theorem dX4_undo_50 : decode cX4_undo 50 = .ok (.aload_n 0, 1) := by decide +kernel
theorem dX4_undo_51 : decode cX4_undo 51 = .ok (.getfield 123, 3) := by decide +kernel
theorem dX4_undo_54 : decode cX4_undo 54 = .ok (.ireturn, 1) := by decide +kernel
theorem dX4_keep_0 : decode cX4_keep 0 = .ok (.aload_n 0, 1) := by decide +kernel
theorem dX4_keep_1 : decode cX4_keep 1 = .ok (.iconst 0, 1) := by decide +kernel
theorem dX4_keep_2 : decode cX4_keep 2 = .ok (.putfield 35, 3) := by decide +kernel
theorem dX4_keep_5 : decode cX4_keep 5 = .ok (.aload_n 0, 1) := by decide +kernel
theorem dX4_keep_6 : decode cX4_keep 6 = .ok (.getfield 13, 3) := by decide +kernel
theorem dX4_keep_9 : decode cX4_keep 9 = .ok (.iconst 0, 1) := by decide +kernel
theorem dX4_keep_10 : decode cX4_keep 10 = .ok (.aload_n 0, 1) := by decide +kernel
theorem dX4_keep_11 : decode cX4_keep 11 = .ok (.getfield 19, 3) := by decide +kernel
theorem dX4_keep_14 : decode cX4_keep 14 = .ok (.iconst 0, 1) := by decide +kernel
theorem dX4_keep_15 : decode cX4_keep 15 = .ok (.invokestatic 126, 3) := by decide +kernel
theorem dX4_keep_18 : decode cX4_keep 18 = .ok (.aload_n 0, 1) := by decide +kernel
theorem dX4_keep_19 : decode cX4_keep 19 = .ok (.iconst 1, 1) := by decide +kernel
theorem dX4_keep_20 : decode cX4_keep 20 = .ok (.putfield 252, 3) := by decide +kernel
theorem dX4_keep_23 : decode cX4_keep 23 = .ok (.aload_n 0, 1) := by decide +kernel
theorem dX4_keep_24 : decode cX4_keep 24 = .ok (.getfield 13, 3) := by decide +kernel
theorem dX4_keep_27 : decode cX4_keep 27 = .ok (.iconst 0, 1) := by decide +kernel
theorem dX4_keep_28 : decode cX4_keep 28 = .ok (.iaload, 1) := by decide +kernel
theorem dX4_keep_29 : decode cX4_keep 29 = .ok (.ireturn, 1) := by decide +kernel
theorem dX4_restore_0 : decode cX4_restore 0 = .ok (.aload_n 0, 1) := by decide +kernel
theorem dX4_restore_1 : decode cX4_restore 1 = .ok (.aload_n 0, 1) := by decide +kernel
theorem dX4_restore_2 : decode cX4_restore 2 = .ok (.getfield 252, 3) := by decide +kernel
theorem dX4_restore_5 : decode cX4_restore 5 = .ok (.ifCond .eq 7, 3) := by decide +kernel
theorem dX4_restore_8 : decode cX4_restore 8 = .ok (.iconst 0, 1) := by decide +kernel
theorem dX4_restore_9 : decode cX4_restore 9 = .ok (.goto 4, 3) := by decide +kernel
theorem dX4_restore_12 : decode cX4_restore 12 = .ok (.iconst 1, 1) := by decide +kernel
theorem dX4_restore_13 : decode cX4_restore 13 = .ok (.invokevirtual 158, 3) := by decide +kernel
theorem dX4_restore_16 : decode cX4_restore 16 = .ok (.ifCond .eq 5, 3) := by decide +kernel
theorem dX4_restore_19 : decode cX4_restore 19 = .ok (.iconst 0, 1) := by decide +kernel
theorem dX4_restore_20 : decode cX4_restore 20 = .ok (.ireturn, 1) := by decide +kernel
theorem dX4_restore_21 : decode cX4_restore 21 = .ok (.aload_n 0, 1) := by decide +kernel
theorem dX4_restore_22 : decode cX4_restore 22 = .ok (.invokevirtual 161, 3) := by decide +kernel
theorem dX4_restore_25 : decode cX4_restore 25 = .ok (.aload_n 0, 1) := by decide +kernel
theorem dX4_restore_26 : decode cX4_restore 26 = .ok (.getfield 19, 3) := by decide +kernel
