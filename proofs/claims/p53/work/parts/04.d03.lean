theorem dX3_makePlan_57 : decode cX3_makePlan 57 = .ok (.getfield 26, 3) := by decide +kernel
theorem dX3_makePlan_60 : decode cX3_makePlan 60 = .ok (.iload_n 2, 1) := by decide +kernel
theorem dX3_makePlan_61 : decode cX3_makePlan 61 = .ok (.iload 4, 2) := by decide +kernel
theorem dX3_makePlan_63 : decode cX3_makePlan 63 = .ok (.iload 5, 2) := by decide +kernel
theorem dX3_makePlan_65 : decode cX3_makePlan 65 = .ok (.invokevirtual 266, 3) := by decide +kernel
theorem dX3_makePlan_68 : decode cX3_makePlan 68 = .ok (.istore_n 2, 1) := by decide +kernel
theorem dX3_makePlan_69 : decode cX3_makePlan 69 = .ok (.iinc 3 1, 3) := by decide +kernel
theorem dX3_makePlan_72 : decode cX3_makePlan 72 = .ok (.goto (-62), 3) := by decide +kernel
theorem dX3_makePlan_75 : decode cX3_makePlan 75 = .ok (.iload_n 1, 1) := by decide +kernel
theorem dX3_makePlan_76 : decode cX3_makePlan 76 = .ok (.ifCond .lt 7, 3) := by decide +kernel
theorem dX3_makePlan_79 : decode cX3_makePlan 79 = .ok (.iconst 1, 1) := by decide +kernel
theorem dX3_makePlan_80 : decode cX3_makePlan 80 = .ok (.goto 4, 3) := by decide +kernel
theorem dX3_makePlan_83 : decode cX3_makePlan 83 = .ok (.iconst 0, 1) := by decide +kernel
theorem dX3_makePlan_84 : decode cX3_makePlan 84 = .ok (.ireturn, 1) := by decide +kernel
theorem dX3_tryPart_0 : decode cX3_tryPart 0 = .ok (.aload_n 0, 1) := by decide +kernel
theorem dX3_tryPart_1 : decode cX3_tryPart 1 = .ok (.getfield 33, 3) := by decide +kernel
theorem dX3_tryPart_4 : decode cX3_tryPart 4 = .ok (.iload_n 1, 1) := by decide +kernel
theorem dX3_tryPart_5 : decode cX3_tryPart 5 = .ok (.invokevirtual 329, 3) := by decide +kernel
theorem dX3_tryPart_8 : decode cX3_tryPart 8 = .ok (.lookupswitch 153 #[(98, 139), (100, 144), (104, 52), (118, 87), (119, 124)], 52) := by decide +kernel
theorem dX3_tryPart_60 : decode cX3_tryPart 60 = .ok (.aload_n 0, 1) := by decide +kernel
theorem dX3_tryPart_61 : decode cX3_tryPart 61 = .ok (.aload_n 0, 1) := by decide +kernel
theorem dX3_tryPart_62 : decode cX3_tryPart 62 = .ok (.getfield 33, 3) := by decide +kernel
theorem dX3_tryPart_65 : decode cX3_tryPart 65 = .ok (.iload_n 1, 1) := by decide +kernel
theorem dX3_tryPart_66 : decode cX3_tryPart 66 = .ok (.iconst 1, 1) := by decide +kernel
theorem dX3_tryPart_67 : decode cX3_tryPart 67 = .ok (.iadd, 1) := by decide +kernel
theorem dX3_tryPart_68 : decode cX3_tryPart 68 = .ok (.invokevirtual 332, 3) := by decide +kernel
theorem dX3_tryPart_71 : decode cX3_tryPart 71 = .ok (.aload_n 0, 1) := by decide +kernel
theorem dX3_tryPart_72 : decode cX3_tryPart 72 = .ok (.getfield 33, 3) := by decide +kernel
theorem dX3_tryPart_75 : decode cX3_tryPart 75 = .ok (.iload_n 1, 1) := by decide +kernel
theorem dX3_tryPart_76 : decode cX3_tryPart 76 = .ok (.iconst 3, 1) := by decide +kernel
theorem dX3_tryPart_77 : decode cX3_tryPart 77 = .ok (.iadd, 1) := by decide +kernel
theorem dX3_tryPart_78 : decode cX3_tryPart 78 = .ok (.invokevirtual 332, 3) := by decide +kernel
theorem dX3_tryPart_81 : decode cX3_tryPart 81 = .ok (.aload_n 0, 1) := by decide +kernel
theorem dX3_tryPart_82 : decode cX3_tryPart 82 = .ok (.getfield 33, 3) := by decide +kernel
theorem dX3_tryPart_85 : decode cX3_tryPart 85 = .ok (.iload_n 1, 1) := by decide +kernel
theorem dX3_tryPart_86 : decode cX3_tryPart 86 = .ok (.iconst 5, 1) := by decide +kernel
theorem dX3_tryPart_87 : decode cX3_tryPart 87 = .ok (.iadd, 1) := by decide +kernel
theorem dX3_tryPart_88 : decode cX3_tryPart 88 = .ok (.invokevirtual 332, 3) := by decide +kernel
theorem dX3_tryPart_91 : decode cX3_tryPart 91 = .ok (.invokevirtual 335, 3) := by decide +kernel
theorem dX3_tryPart_94 : decode cX3_tryPart 94 = .ok (.ireturn, 1) := by decide +kernel
theorem dX3_tryPart_95 : decode cX3_tryPart 95 = .ok (.aload_n 0, 1) := by decide +kernel
theorem dX3_tryPart_96 : decode cX3_tryPart 96 = .ok (.iconst 5, 1) := by decide +kernel
theorem dX3_tryPart_97 : decode cX3_tryPart 97 = .ok (.aload_n 0, 1) := by decide +kernel
theorem dX3_tryPart_98 : decode cX3_tryPart 98 = .ok (.getfield 33, 3) := by decide +kernel
theorem dX3_tryPart_101 : decode cX3_tryPart 101 = .ok (.iload_n 1, 1) := by decide +kernel
theorem dX3_tryPart_102 : decode cX3_tryPart 102 = .ok (.iconst 1, 1) := by decide +kernel
theorem dX3_tryPart_103 : decode cX3_tryPart 103 = .ok (.iadd, 1) := by decide +kernel
theorem dX3_tryPart_104 : decode cX3_tryPart 104 = .ok (.invokevirtual 332, 3) := by decide +kernel
theorem dX3_tryPart_107 : decode cX3_tryPart 107 = .ok (.iadd, 1) := by decide +kernel
theorem dX3_tryPart_108 : decode cX3_tryPart 108 = .ok (.aload_n 0, 1) := by decide +kernel
theorem dX3_tryPart_109 : decode cX3_tryPart 109 = .ok (.getfield 33, 3) := by decide +kernel
theorem dX3_tryPart_112 : decode cX3_tryPart 112 = .ok (.iload_n 1, 1) := by decide +kernel
theorem dX3_tryPart_113 : decode cX3_tryPart 113 = .ok (.iconst 3, 1) := by decide +kernel
theorem dX3_tryPart_114 : decode cX3_tryPart 114 = .ok (.iadd, 1) := by decide +kernel
theorem dX3_tryPart_115 : decode cX3_tryPart 115 = .ok (.invokevirtual 332, 3) := by decide +kernel
theorem dX3_tryPart_118 : decode cX3_tryPart 118 = .ok (.aload_n 0, 1) := by decide +kernel
theorem dX3_tryPart_119 : decode cX3_tryPart 119 = .ok (.getfield 33, 3) := by decide +kernel
theorem dX3_tryPart_122 : decode cX3_tryPart 122 = .ok (.iload_n 1, 1) := by decide +kernel
theorem dX3_tryPart_123 : decode cX3_tryPart 123 = .ok (.iconst 5, 1) := by decide +kernel
theorem dX3_tryPart_124 : decode cX3_tryPart 124 = .ok (.iadd, 1) := by decide +kernel
theorem dX3_tryPart_125 : decode cX3_tryPart 125 = .ok (.invokevirtual 332, 3) := by decide +kernel
theorem dX3_tryPart_128 : decode cX3_tryPart 128 = .ok (.invokevirtual 335, 3) := by decide +kernel
theorem dX3_tryPart_131 : decode cX3_tryPart 131 = .ok (.ireturn, 1) := by decide +kernel
theorem dX3_tryPart_132 : decode cX3_tryPart 132 = .ok (.aload_n 0, 1) := by decide +kernel
theorem dX3_tryPart_133 : decode cX3_tryPart 133 = .ok (.aload_n 0, 1) := by decide +kernel
theorem dX3_tryPart_134 : decode cX3_tryPart 134 = .ok (.getfield 33, 3) := by decide +kernel
theorem dX3_tryPart_137 : decode cX3_tryPart 137 = .ok (.iload_n 1, 1) := by decide +kernel
theorem dX3_tryPart_138 : decode cX3_tryPart 138 = .ok (.iconst 1, 1) := by decide +kernel
theorem dX3_tryPart_139 : decode cX3_tryPart 139 = .ok (.iadd, 1) := by decide +kernel
theorem dX3_tryPart_140 : decode cX3_tryPart 140 = .ok (.invokevirtual 339, 3) := by decide +kernel
theorem dX3_tryPart_143 : decode cX3_tryPart 143 = .ok (.invokevirtual 342, 3) := by decide +kernel
theorem dX3_tryPart_146 : decode cX3_tryPart 146 = .ok (.ireturn, 1) := by decide +kernel
theorem dX3_tryPart_147 : decode cX3_tryPart 147 = .ok (.aload_n 0, 1) := by decide +kernel
theorem dX3_tryPart_148 : decode cX3_tryPart 148 = .ok (.invokevirtual 345, 3) := by decide +kernel
theorem dX3_tryPart_151 : decode cX3_tryPart 151 = .ok (.ireturn, 1) := by decide +kernel
theorem dX3_tryPart_152 : decode cX3_tryPart 152 = .ok (.aload_n 0, 1) := by decide +kernel
theorem dX3_tryPart_153 : decode cX3_tryPart 153 = .ok (.aload_n 0, 1) := by decide +kernel
theorem dX3_tryPart_154 : decode cX3_tryPart 154 = .ok (.invokevirtual 98, 3) := by decide +kernel
theorem dX3_tryPart_157 : decode cX3_tryPart 157 = .ok (.invokevirtual 103, 3) := by decide +kernel
theorem dX3_tryPart_160 : decode cX3_tryPart 160 = .ok (.ireturn, 1) := by decide +kernel
theorem dX3_tryPart_161 : decode cX3_tryPart 161 = .ok (.aload_n 0, 1) := by decide +kernel
theorem dX3_tryPart_162 : decode cX3_tryPart 162 = .ok (.aload_n 0, 1) := by decide +kernel
theorem dX3_tryPart_163 : decode cX3_tryPart 163 = .ok (.getfield 33, 3) := by decide +kernel
theorem dX3_tryPart_166 : decode cX3_tryPart 166 = .ok (.iload_n 1, 1) := by decide +kernel
theorem dX3_tryPart_167 : decode cX3_tryPart 167 = .ok (.invokevirtual 332, 3) := by decide +kernel
theorem dX3_tryPart_170 : decode cX3_tryPart 170 = .ok (.aload_n 0, 1) := by decide +kernel
theorem dX3_tryPart_171 : decode cX3_tryPart 171 = .ok (.getfield 33, 3) := by decide +kernel
theorem dX3_tryPart_174 : decode cX3_tryPart 174 = .ok (.iload_n 1, 1) := by decide +kernel
theorem dX3_tryPart_175 : decode cX3_tryPart 175 = .ok (.iconst 1, 1) := by decide +kernel
theorem dX3_tryPart_176 : decode cX3_tryPart 176 = .ok (.iadd, 1) := by decide +kernel
theorem dX3_tryPart_177 : decode cX3_tryPart 177 = .ok (.invokevirtual 348, 3) := by decide +kernel
theorem dX3_tryPart_180 : decode cX3_tryPart 180 = .ok (.aload_n 0, 1) := by decide +kernel
theorem dX3_tryPart_181 : decode cX3_tryPart 181 = .ok (.getfield 33, 3) := by decide +kernel
theorem dX3_tryPart_184 : decode cX3_tryPart 184 = .ok (.iload_n 1, 1) := by decide +kernel
theorem dX3_tryPart_185 : decode cX3_tryPart 185 = .ok (.iconst 2, 1) := by decide +kernel
theorem dX3_tryPart_186 : decode cX3_tryPart 186 = .ok (.iadd, 1) := by decide +kernel
theorem dX3_tryPart_187 : decode cX3_tryPart 187 = .ok (.invokevirtual 332, 3) := by decide +kernel
theorem dX3_tryPart_190 : decode cX3_tryPart 190 = .ok (.imul, 1) := by decide +kernel
theorem dX3_tryPart_191 : decode cX3_tryPart 191 = .ok (.invokevirtual 351, 3) := by decide +kernel
theorem dX3_tryPart_194 : decode cX3_tryPart 194 = .ok (.ireturn, 1) := by decide +kernel
theorem dX3_tryEntering_0 : decode cX3_tryEntering 0 = .ok (.aload_n 0, 1) := by decide +kernel
theorem dX3_tryEntering_1 : decode cX3_tryEntering 1 = .ok (.getfield 10, 3) := by decide +kernel
theorem dX3_tryEntering_4 : decode cX3_tryEntering 4 = .ok (.iload_n 1, 1) := by decide +kernel
theorem dX3_tryEntering_5 : decode cX3_tryEntering 5 = .ok (.iload_n 2, 1) := by decide +kernel
theorem dX3_tryEntering_6 : decode cX3_tryEntering 6 = .ok (.iload_n 3, 1) := by decide +kernel
theorem dX3_tryEntering_7 : decode cX3_tryEntering 7 = .ok (.invokevirtual 45, 3) := by decide +kernel
theorem dX3_tryEntering_10 : decode cX3_tryEntering 10 = .ok (.ifCond .ne 7, 3) := by decide +kernel
theorem dX3_tryEntering_13 : decode cX3_tryEntering 13 = .ok (.iconst 1, 1) := by decide +kernel
theorem dX3_tryEntering_14 : decode cX3_tryEntering 14 = .ok (.goto 4, 3) := by decide +kernel
theorem dX3_tryEntering_17 : decode cX3_tryEntering 17 = .ok (.iconst 0, 1) := by decide +kernel
theorem dX3_tryEntering_18 : decode cX3_tryEntering 18 = .ok (.istore 4, 2) := by decide +kernel
theorem dX3_tryEntering_20 : decode cX3_tryEntering 20 = .ok (.iload 4, 2) := by decide +kernel
theorem dX3_tryEntering_22 : decode cX3_tryEntering 22 = .ok (.ifCond .eq 14, 3) := by decide +kernel
theorem dX3_tryEntering_25 : decode cX3_tryEntering 25 = .ok (.aload_n 0, 1) := by decide +kernel
theorem dX3_tryEntering_26 : decode cX3_tryEntering 26 = .ok (.getfield 10, 3) := by decide +kernel
theorem dX3_tryEntering_29 : decode cX3_tryEntering 29 = .ok (.iload_n 1, 1) := by decide +kernel
theorem dX3_tryEntering_30 : decode cX3_tryEntering 30 = .ok (.iload_n 2, 1) := by decide +kernel
theorem dX3_tryEntering_31 : decode cX3_tryEntering 31 = .ok (.iload_n 3, 1) := by decide +kernel
theorem dX3_tryEntering_32 : decode cX3_tryEntering 32 = .ok (.invokevirtual 56, 3) := by decide +kernel
theorem dX3_tryEntering_35 : decode cX3_tryEntering 35 = .ok (.pop, 1) := by decide +kernel
theorem dX3_tryEntering_36 : decode cX3_tryEntering 36 = .ok (.iload 4, 2) := by decide +kernel
theorem dX3_tryEntering_38 : decode cX3_tryEntering 38 = .ok (.ireturn, 1) := by decide +kernel
theorem dX3_tryWall_0 : decode cX3_tryWall 0 = .ok (.aload_n 0, 1) := by decide +kernel
theorem dX3_tryWall_1 : decode cX3_tryWall 1 = .ok (.getfield 10, 3) := by decide +kernel
theorem dX3_tryWall_4 : decode cX3_tryWall 4 = .ok (.iload_n 1, 1) := by decide +kernel
theorem dX3_tryWall_5 : decode cX3_tryWall 5 = .ok (.invokevirtual 73, 3) := by decide +kernel
theorem dX3_tryWall_8 : decode cX3_tryWall 8 = .ok (.ifCond .ne 7, 3) := by decide +kernel
theorem dX3_tryWall_11 : decode cX3_tryWall 11 = .ok (.iconst 1, 1) := by decide +kernel
theorem dX3_tryWall_12 : decode cX3_tryWall 12 = .ok (.goto 4, 3) := by decide +kernel
theorem dX3_tryWall_15 : decode cX3_tryWall 15 = .ok (.iconst 0, 1) := by decide +kernel
theorem dX3_tryWall_16 : decode cX3_tryWall 16 = .ok (.istore_n 2, 1) := by decide +kernel
theorem dX3_tryWall_17 : decode cX3_tryWall 17 = .ok (.iload_n 2, 1) := by decide +kernel
theorem dX3_tryWall_18 : decode cX3_tryWall 18 = .ok (.ifCond .eq 12, 3) := by decide +kernel
theorem dX3_tryWall_21 : decode cX3_tryWall 21 = .ok (.aload_n 0, 1) := by decide +kernel
theorem dX3_tryWall_22 : decode cX3_tryWall 22 = .ok (.getfield 10, 3) := by decide +kernel
theorem dX3_tryWall_25 : decode cX3_tryWall 25 = .ok (.iload_n 1, 1) := by decide +kernel
theorem dX3_tryWall_26 : decode cX3_tryWall 26 = .ok (.invokevirtual 77, 3) := by decide +kernel
theorem dX3_tryWall_29 : decode cX3_tryWall 29 = .ok (.pop, 1) := by decide +kernel
theorem dX3_tryWall_30 : decode cX3_tryWall 30 = .ok (.iload_n 2, 1) := by decide +kernel
theorem dX3_tryWall_31 : decode cX3_tryWall 31 = .ok (.ireturn, 1) := by decide +kernel
theorem dX3_trySliding_0 : decode cX3_trySliding 0 = .ok (.aload_n 0, 1) := by decide +kernel
theorem dX3_trySliding_1 : decode cX3_trySliding 1 = .ok (.getfield 10, 3) := by decide +kernel
theorem dX3_trySliding_4 : decode cX3_trySliding 4 = .ok (.iload_n 1, 1) := by decide +kernel
theorem dX3_trySliding_5 : decode cX3_trySliding 5 = .ok (.iload_n 2, 1) := by decide +kernel
theorem dX3_trySliding_6 : decode cX3_trySliding 6 = .ok (.invokevirtual 81, 3) := by decide +kernel
theorem dX3_trySliding_9 : decode cX3_trySliding 9 = .ok (.ifCond .ne 19, 3) := by decide +kernel
theorem dX3_trySliding_12 : decode cX3_trySliding 12 = .ok (.aload_n 0, 1) := by decide +kernel
theorem dX3_trySliding_13 : decode cX3_trySliding 13 = .ok (.getfield 10, 3) := by decide +kernel
theorem dX3_trySliding_16 : decode cX3_trySliding 16 = .ok (.getfield 85, 3) := by decide +kernel
theorem dX3_trySliding_19 : decode cX3_trySliding 19 = .ok (.bipush 60, 2) := by decide +kernel
theorem dX3_trySliding_21 : decode cX3_trySliding 21 = .ok (.if_icmp .ge 7, 3) := by decide +kernel
theorem dX3_trySliding_24 : decode cX3_trySliding 24 = .ok (.iconst 1, 1) := by decide +kernel
theorem dX3_trySliding_25 : decode cX3_trySliding 25 = .ok (.goto 4, 3) := by decide +kernel
theorem dX3_trySliding_28 : decode cX3_trySliding 28 = .ok (.iconst 0, 1) := by decide +kernel
theorem dX3_trySliding_29 : decode cX3_trySliding 29 = .ok (.istore_n 3, 1) := by decide +kernel
theorem dX3_trySliding_30 : decode cX3_trySliding 30 = .ok (.iload_n 3, 1) := by decide +kernel
theorem dX3_trySliding_31 : decode cX3_trySliding 31 = .ok (.ifCond .eq 13, 3) := by decide +kernel
theorem dX3_trySliding_34 : decode cX3_trySliding 34 = .ok (.aload_n 0, 1) := by decide +kernel
theorem dX3_trySliding_35 : decode cX3_trySliding 35 = .ok (.getfield 10, 3) := by decide +kernel
theorem dX3_trySliding_38 : decode cX3_trySliding 38 = .ok (.iload_n 1, 1) := by decide +kernel
theorem dX3_trySliding_39 : decode cX3_trySliding 39 = .ok (.iload_n 2, 1) := by decide +kernel
theorem dX3_trySliding_40 : decode cX3_trySliding 40 = .ok (.invokevirtual 90, 3) := by decide +kernel
theorem dX3_trySliding_43 : decode cX3_trySliding 43 = .ok (.pop, 1) := by decide +kernel
theorem dX3_trySliding_44 : decode cX3_trySliding 44 = .ok (.iload_n 3, 1) := by decide +kernel
theorem dX3_trySliding_45 : decode cX3_trySliding 45 = .ok (.ireturn, 1) := by decide +kernel
theorem dX3_tryTakingBack_0 : decode cX3_tryTakingBack 0 = .ok (.aload_n 0, 1) := by decide +kernel
theorem dX3_tryTakingBack_1 : decode cX3_tryTakingBack 1 = .ok (.getfield 10, 3) := by decide +kernel
theorem dX3_tryTakingBack_4 : decode cX3_tryTakingBack 4 = .ok (.getfield 85, 3) := by decide +kernel
theorem dX3_tryTakingBack_7 : decode cX3_tryTakingBack 7 = .ok (.ifCond .le 7, 3) := by decide +kernel
theorem dX3_tryTakingBack_10 : decode cX3_tryTakingBack 10 = .ok (.iconst 1, 1) := by decide +kernel
theorem dX3_tryTakingBack_11 : decode cX3_tryTakingBack 11 = .ok (.goto 4, 3) := by decide +kernel
theorem dX3_tryTakingBack_14 : decode cX3_tryTakingBack 14 = .ok (.iconst 0, 1) := by decide +kernel
theorem dX3_tryTakingBack_15 : decode cX3_tryTakingBack 15 = .ok (.istore_n 1, 1) := by decide +kernel
theorem dX3_tryTakingBack_16 : decode cX3_tryTakingBack 16 = .ok (.iload_n 1, 1) := by decide +kernel
theorem dX3_tryTakingBack_17 : decode cX3_tryTakingBack 17 = .ok (.ifCond .eq 11, 3) := by decide +kernel
theorem dX3_tryTakingBack_20 : decode cX3_tryTakingBack 20 = .ok (.aload_n 0, 1) := by decide +kernel
theorem dX3_tryTakingBack_21 : decode cX3_tryTakingBack 21 = .ok (.getfield 10, 3) := by decide +kernel
theorem dX3_tryTakingBack_24 : decode cX3_tryTakingBack 24 = .ok (.invokevirtual 95, 3) := by decide +kernel
theorem dX3_tryTakingBack_27 : decode cX3_tryTakingBack 27 = .ok (.pop, 1) := by decide +kernel
theorem dX3_tryTakingBack_28 : decode cX3_tryTakingBack 28 = .ok (.iload_n 1, 1) := by decide +kernel
theorem dX3_tryTakingBack_29 : decode cX3_tryTakingBack 29 = .ok (.ireturn, 1) := by decide +kernel
theorem dX3_isCell_0 : decode cX3_isCell 0 = .ok (.iload_n 0, 1) := by decide +kernel
theorem dX3_isCell_1 : decode cX3_isCell 1 = .ok (.ifCond .lt 13, 3) := by decide +kernel
theorem dX3_isCell_4 : decode cX3_isCell 4 = .ok (.iload_n 0, 1) := by decide +kernel
theorem dX3_isCell_5 : decode cX3_isCell 5 = .ok (.bipush 25, 2) := by decide +kernel
theorem dX3_isCell_7 : decode cX3_isCell 7 = .ok (.if_icmp .ge 7, 3) := by decide +kernel
theorem dX3_isCell_10 : decode cX3_isCell 10 = .ok (.iconst 1, 1) := by decide +kernel
theorem dX3_isCell_11 : decode cX3_isCell 11 = .ok (.goto 4, 3) := by decide +kernel
theorem dX3_isCell_14 : decode cX3_isCell 14 = .ok (.iconst 0, 1) := by decide +kernel
theorem dX3_isCell_15 : decode cX3_isCell 15 = .ok (.ireturn, 1) := by decide +kernel
theorem dX3_bitOf_0 : decode cX3_bitOf 0 = .ok (.iload_n 0, 1) := by decide +kernel
theorem dX3_bitOf_1 : decode cX3_bitOf 1 = .ok (.iconst 5, 1) := by decide +kernel
theorem dX3_bitOf_2 : decode cX3_bitOf 2 = .ok (.if_icmp .ge 13, 3) := by decide +kernel
theorem dX3_bitOf_5 : decode cX3_bitOf 5 = .ok (.iconst 1, 1) := by decide +kernel
theorem dX3_bitOf_6 : decode cX3_bitOf 6 = .ok (.iconst 5, 1) := by decide +kernel
theorem dX3_bitOf_7 : decode cX3_bitOf 7 = .ok (.iload_n 0, 1) := by decide +kernel
theorem dX3_bitOf_8 : decode cX3_bitOf 8 = .ok (.imul, 1) := by decide +kernel
theorem dX3_bitOf_9 : decode cX3_bitOf 9 = .ok (.iload_n 1, 1) := by decide +kernel
theorem dX3_bitOf_10 : decode cX3_bitOf 10 = .ok (.iadd, 1) := by decide +kernel
theorem dX3_bitOf_11 : decode cX3_bitOf 11 = .ok (.ishl, 1) := by decide +kernel
theorem dX3_bitOf_12 : decode cX3_bitOf 12 = .ok (.goto 12, 3) := by decide +kernel
theorem dX3_bitOf_15 : decode cX3_bitOf 15 = .ok (.iconst 1, 1) := by decide +kernel
theorem dX3_bitOf_16 : decode cX3_bitOf 16 = .ok (.iconst 5, 1) := by decide +kernel
theorem dX3_bitOf_17 : decode cX3_bitOf 17 = .ok (.iload_n 1, 1) := by decide +kernel
theorem dX3_bitOf_18 : decode cX3_bitOf 18 = .ok (.imul, 1) := by decide +kernel
theorem dX3_bitOf_19 : decode cX3_bitOf 19 = .ok (.iload_n 0, 1) := by decide +kernel
theorem dX3_bitOf_20 : decode cX3_bitOf 20 = .ok (.iadd, 1) := by decide +kernel
theorem dX3_bitOf_21 : decode cX3_bitOf 21 = .ok (.iconst 5, 1) := by decide +kernel
theorem dX3_bitOf_22 : decode cX3_bitOf 22 = .ok (.isub, 1) := by decide +kernel
theorem dX3_bitOf_23 : decode cX3_bitOf 23 = .ok (.ishl, 1) := by decide +kernel
theorem dX3_bitOf_24 : decode cX3_bitOf 24 = .ok (.ireturn, 1) := by decide +kernel
theorem dX3_cellsOf_0 : decode cX3_cellsOf 0 = .ok (.iload_n 0, 1) := by decide +kernel
theorem dX3_cellsOf_1 : decode cX3_cellsOf 1 = .ok (.iconst 5, 1) := by decide +kernel
theorem dX3_cellsOf_2 : decode cX3_cellsOf 2 = .ok (.if_icmp .ge 15, 3) := by decide +kernel
theorem dX3_cellsOf_5 : decode cX3_cellsOf 5 = .ok (.iconst 1, 1) := by decide +kernel
theorem dX3_cellsOf_6 : decode cX3_cellsOf 6 = .ok (.iload_n 2, 1) := by decide +kernel
theorem dX3_cellsOf_7 : decode cX3_cellsOf 7 = .ok (.ishl, 1) := by decide +kernel
theorem dX3_cellsOf_8 : decode cX3_cellsOf 8 = .ok (.iconst 1, 1) := by decide +kernel
theorem dX3_cellsOf_9 : decode cX3_cellsOf 9 = .ok (.isub, 1) := by decide +kernel
theorem dX3_cellsOf_10 : decode cX3_cellsOf 10 = .ok (.iconst 5, 1) := by decide +kernel
theorem dX3_cellsOf_11 : decode cX3_cellsOf 11 = .ok (.iload_n 0, 1) := by decide +kernel
theorem dX3_cellsOf_12 : decode cX3_cellsOf 12 = .ok (.imul, 1) := by decide +kernel
theorem dX3_cellsOf_13 : decode cX3_cellsOf 13 = .ok (.iload_n 1, 1) := by decide +kernel
theorem dX3_cellsOf_14 : decode cX3_cellsOf 14 = .ok (.iadd, 1) := by decide +kernel
theorem dX3_cellsOf_15 : decode cX3_cellsOf 15 = .ok (.ishl, 1) := by decide +kernel
theorem dX3_cellsOf_16 : decode cX3_cellsOf 16 = .ok (.ireturn, 1) := by decide +kernel
theorem dX3_cellsOf_17 : decode cX3_cellsOf 17 = .ok (.ldc_w 355, 3) := by decide +kernel
theorem dX3_cellsOf_20 : decode cX3_cellsOf 20 = .ok (.iconst 1, 1) := by decide +kernel
theorem dX3_cellsOf_21 : decode cX3_cellsOf 21 = .ok (.iconst 5, 1) := by decide +kernel
theorem dX3_cellsOf_22 : decode cX3_cellsOf 22 = .ok (.iload_n 2, 1) := by decide +kernel
theorem dX3_cellsOf_23 : decode cX3_cellsOf 23 = .ok (.imul, 1) := by decide +kernel
theorem dX3_cellsOf_24 : decode cX3_cellsOf 24 = .ok (.ishl, 1) := by decide +kernel
theorem dX3_cellsOf_25 : decode cX3_cellsOf 25 = .ok (.iconst 1, 1) := by decide +kernel
theorem dX3_cellsOf_26 : decode cX3_cellsOf 26 = .ok (.isub, 1) := by decide +kernel
theorem dX3_cellsOf_27 : decode cX3_cellsOf 27 = .ok (.iand, 1) := by decide +kernel
theorem dX3_cellsOf_28 : decode cX3_cellsOf 28 = .ok (.iconst 5, 1) := by decide +kernel
theorem dX3_cellsOf_29 : decode cX3_cellsOf 29 = .ok (.iload_n 1, 1) := by decide +kernel
theorem dX3_cellsOf_30 : decode cX3_cellsOf 30 = .ok (.imul, 1) := by decide +kernel
theorem dX3_cellsOf_31 : decode cX3_cellsOf 31 = .ok (.iload_n 0, 1) := by decide +kernel
theorem dX3_cellsOf_32 : decode cX3_cellsOf 32 = .ok (.iadd, 1) := by decide +kernel
theorem dX3_cellsOf_33 : decode cX3_cellsOf 33 = .ok (.iconst 5, 1) := by decide +kernel
theorem dX3_cellsOf_34 : decode cX3_cellsOf 34 = .ok (.isub, 1) := by decide +kernel
theorem dX3_cellsOf_35 : decode cX3_cellsOf 35 = .ok (.ishl, 1) := by decide +kernel
theorem dX3_cellsOf_36 : decode cX3_cellsOf 36 = .ok (.ireturn, 1) := by decide +kernel
theorem dX3_share_0 : decode cX3_share 0 = .ok (.iload_n 1, 1) := by decide +kernel
theorem dX3_share_1 : decode cX3_share 1 = .ok (.ifCond .le 11, 3) := by decide +kernel
theorem dX3_share_4 : decode cX3_share 4 = .ok (.iload_n 0, 1) := by decide +kernel
theorem dX3_share_5 : decode cX3_share 5 = .ok (.i2d, 1) := by decide +kernel
theorem dX3_share_6 : decode cX3_share 6 = .ok (.iload_n 1, 1) := by decide +kernel
theorem dX3_share_7 : decode cX3_share 7 = .ok (.i2d, 1) := by decide +kernel
theorem dX3_share_8 : decode cX3_share 8 = .ok (.ddiv, 1) := by decide +kernel
theorem dX3_share_9 : decode cX3_share 9 = .ok (.goto 4, 3) := by decide +kernel
theorem dX3_share_12 : decode cX3_share 12 = .ok (.dconst 0, 1) := by decide +kernel
theorem dX3_share_13 : decode cX3_share 13 = .ok (.dreturn, 1) := by decide +kernel
theorem dX3_mix_0 : decode cX3_mix 0 = .ok (.ldc2_w 356, 3) := by decide +kernel
theorem dX3_mix_3 : decode cX3_mix 3 = .ok (.lload_n 0, 1) := by decide +kernel
theorem dX3_mix_4 : decode cX3_mix 4 = .ok (.lmul, 1) := by decide +kernel
theorem dX3_mix_5 : decode cX3_mix 5 = .ok (.lload_n 2, 1) := by decide +kernel
theorem dX3_mix_6 : decode cX3_mix 6 = .ok (.ladd, 1) := by decide +kernel
theorem dX3_mix_7 : decode cX3_mix 7 = .ok (.lreturn, 1) := by decide +kernel
theorem dX3_bitsOf_0 : decode cX3_bitsOf 0 = .ok (.dload_n 0, 1) := by decide +kernel
theorem dX3_bitsOf_1 : decode cX3_bitsOf 1 = .ok (.dstore_n 2, 1) := by decide +kernel
theorem dX3_bitsOf_2 : decode cX3_bitsOf 2 = .ok (.ldc2_w 358, 3) := by decide +kernel
theorem dX3_bitsOf_5 : decode cX3_bitsOf 5 = .ok (.lstore 4, 2) := by decide +kernel
theorem dX3_bitsOf_7 : decode cX3_bitsOf 7 = .ok (.dload_n 2, 1) := by decide +kernel
theorem dX3_bitsOf_8 : decode cX3_bitsOf 8 = .ok (.dconst 1, 1) := by decide +kernel
theorem dX3_bitsOf_9 : decode cX3_bitsOf 9 = .ok (.dcmp .g, 1) := by decide +kernel
theorem dX3_bitsOf_10 : decode cX3_bitsOf 10 = .ok (.ifCond .ge 25, 3) := by decide +kernel
theorem dX3_bitsOf_13 : decode cX3_bitsOf 13 = .ok (.lload 4, 2) := by decide +kernel
theorem dX3_bitsOf_15 : decode cX3_bitsOf 15 = .ok (.lconst 1, 1) := by decide +kernel
theorem dX3_bitsOf_16 : decode cX3_bitsOf 16 = .ok (.lcmp, 1) := by decide +kernel
theorem dX3_bitsOf_17 : decode cX3_bitsOf 17 = .ok (.ifCond .le 18, 3) := by decide +kernel
theorem dX3_bitsOf_20 : decode cX3_bitsOf 20 = .ok (.dload_n 2, 1) := by decide +kernel
theorem dX3_bitsOf_21 : decode cX3_bitsOf 21 = .ok (.ldc2_w 360, 3) := by decide +kernel
theorem dX3_bitsOf_24 : decode cX3_bitsOf 24 = .ok (.dmul, 1) := by decide +kernel
theorem dX3_bitsOf_25 : decode cX3_bitsOf 25 = .ok (.dstore_n 2, 1) := by decide +kernel
theorem dX3_bitsOf_26 : decode cX3_bitsOf 26 = .ok (.lload 4, 2) := by decide +kernel
theorem dX3_bitsOf_28 : decode cX3_bitsOf 28 = .ok (.lconst 1, 1) := by decide +kernel
theorem dX3_bitsOf_29 : decode cX3_bitsOf 29 = .ok (.lsub, 1) := by decide +kernel
theorem dX3_bitsOf_30 : decode cX3_bitsOf 30 = .ok (.lstore 4, 2) := by decide +kernel
theorem dX3_bitsOf_32 : decode cX3_bitsOf 32 = .ok (.goto (-25), 3) := by decide +kernel
theorem dX3_bitsOf_35 : decode cX3_bitsOf 35 = .ok (.dload_n 2, 1) := by decide +kernel
theorem dX3_bitsOf_36 : decode cX3_bitsOf 36 = .ok (.dconst 1, 1) := by decide +kernel
theorem dX3_bitsOf_37 : decode cX3_bitsOf 37 = .ok (.dsub, 1) := by decide +kernel
theorem dX3_bitsOf_38 : decode cX3_bitsOf 38 = .ok (.ldc2_w 362, 3) := by decide +kernel
theorem dX3_bitsOf_41 : decode cX3_bitsOf 41 = .ok (.dmul, 1) := by decide +kernel
theorem dX3_bitsOf_42 : decode cX3_bitsOf 42 = .ok (.d2l, 1) := by decide +kernel
theorem dX3_bitsOf_43 : decode cX3_bitsOf 43 = .ok (.lstore 6, 2) := by decide +kernel
theorem dX3_bitsOf_45 : decode cX3_bitsOf 45 = .ok (.lload 4, 2) := by decide +kernel
theorem dX3_bitsOf_47 : decode cX3_bitsOf 47 = .ok (.bipush 52, 2) := by decide +kernel
theorem dX3_bitsOf_49 : decode cX3_bitsOf 49 = .ok (.lshl, 1) := by decide +kernel
theorem dX3_bitsOf_50 : decode cX3_bitsOf 50 = .ok (.lload 6, 2) := by decide +kernel
theorem dX3_bitsOf_52 : decode cX3_bitsOf 52 = .ok (.lor, 1) := by decide +kernel
theorem dX3_bitsOf_53 : decode cX3_bitsOf 53 = .ok (.lreturn, 1) := by decide +kernel
theorem dX3_hashOfPark_0 : decode cX3_hashOfPark 0 = .ok (.lload_n 1, 1) := by decide +kernel
theorem dX3_hashOfPark_1 : decode cX3_hashOfPark 1 = .ok (.aload_n 0, 1) := by decide +kernel
theorem dX3_hashOfPark_2 : decode cX3_hashOfPark 2 = .ok (.getfield 10, 3) := by decide +kernel
theorem dX3_hashOfPark_5 : decode cX3_hashOfPark 5 = .ok (.getfield 59, 3) := by decide +kernel
theorem dX3_hashOfPark_8 : decode cX3_hashOfPark 8 = .ok (.i2l, 1) := by decide +kernel
theorem dX3_hashOfPark_9 : decode cX3_hashOfPark 9 = .ok (.invokestatic 293, 3) := by decide +kernel
theorem dX3_hashOfPark_12 : decode cX3_hashOfPark 12 = .ok (.lstore_n 3, 1) := by decide +kernel
theorem dX3_hashOfPark_13 : decode cX3_hashOfPark 13 = .ok (.lload_n 3, 1) := by decide +kernel
theorem dX3_hashOfPark_14 : decode cX3_hashOfPark 14 = .ok (.aload_n 0, 1) := by decide +kernel
theorem dX3_hashOfPark_15 : decode cX3_hashOfPark 15 = .ok (.invokevirtual 364, 3) := by decide +kernel
theorem dX3_hashOfPark_18 : decode cX3_hashOfPark 18 = .ok (.i2l, 1) := by decide +kernel
theorem dX3_hashOfPark_19 : decode cX3_hashOfPark 19 = .ok (.invokestatic 293, 3) := by decide +kernel
theorem dX3_hashOfPark_22 : decode cX3_hashOfPark 22 = .ok (.lstore_n 3, 1) := by decide +kernel
theorem dX3_hashOfPark_23 : decode cX3_hashOfPark 23 = .ok (.lload_n 3, 1) := by decide +kernel
theorem dX3_hashOfPark_24 : decode cX3_hashOfPark 24 = .ok (.aload_n 0, 1) := by decide +kernel
theorem dX3_hashOfPark_25 : decode cX3_hashOfPark 25 = .ok (.invokevirtual 366, 3) := by decide +kernel
theorem dX3_hashOfPark_28 : decode cX3_hashOfPark 28 = .ok (.i2l, 1) := by decide +kernel
theorem dX3_hashOfPark_29 : decode cX3_hashOfPark 29 = .ok (.invokestatic 293, 3) := by decide +kernel
theorem dX3_hashOfPark_32 : decode cX3_hashOfPark 32 = .ok (.lstore_n 3, 1) := by decide +kernel
theorem dX3_hashOfPark_33 : decode cX3_hashOfPark 33 = .ok (.lload_n 3, 1) := by decide +kernel
theorem dX3_hashOfPark_34 : decode cX3_hashOfPark 34 = .ok (.aload_n 0, 1) := by decide +kernel
theorem dX3_hashOfPark_35 : decode cX3_hashOfPark 35 = .ok (.invokevirtual 369, 3) := by decide +kernel
theorem dX3_hashOfPark_38 : decode cX3_hashOfPark 38 = .ok (.ifCond .eq 7, 3) := by decide +kernel
theorem dX3_hashOfPark_41 : decode cX3_hashOfPark 41 = .ok (.lconst 1, 1) := by decide +kernel
theorem dX3_hashOfPark_42 : decode cX3_hashOfPark 42 = .ok (.goto 4, 3) := by decide +kernel
theorem dX3_hashOfPark_45 : decode cX3_hashOfPark 45 = .ok (.lconst 0, 1) := by decide +kernel
theorem dX3_hashOfPark_46 : decode cX3_hashOfPark 46 = .ok (.invokestatic 293, 3) := by decide +kernel
theorem dX3_hashOfPark_49 : decode cX3_hashOfPark 49 = .ok (.lstore_n 3, 1) := by decide +kernel
theorem dX3_hashOfPark_50 : decode cX3_hashOfPark 50 = .ok (.lload_n 3, 1) := by decide +kernel
theorem dX3_hashOfPark_51 : decode cX3_hashOfPark 51 = .ok (.aload_n 0, 1) := by decide +kernel
theorem dX3_hashOfPark_52 : decode cX3_hashOfPark 52 = .ok (.invokevirtual 372, 3) := by decide +kernel
theorem dX3_hashOfPark_55 : decode cX3_hashOfPark 55 = .ok (.i2l, 1) := by decide +kernel
theorem dX3_hashOfPark_56 : decode cX3_hashOfPark 56 = .ok (.invokestatic 293, 3) := by decide +kernel
theorem dX3_hashOfPark_59 : decode cX3_hashOfPark 59 = .ok (.lstore_n 3, 1) := by decide +kernel
theorem dX3_hashOfPark_60 : decode cX3_hashOfPark 60 = .ok (.lload_n 3, 1) := by decide +kernel
theorem dX3_hashOfPark_61 : decode cX3_hashOfPark 61 = .ok (.aload_n 0, 1) := by decide +kernel
theorem dX3_hashOfPark_62 : decode cX3_hashOfPark 62 = .ok (.getfield 10, 3) := by decide +kernel
theorem dX3_hashOfPark_65 : decode cX3_hashOfPark 65 = .ok (.getfield 85, 3) := by decide +kernel
theorem dX3_hashOfPark_68 : decode cX3_hashOfPark 68 = .ok (.i2l, 1) := by decide +kernel
theorem dX3_hashOfPark_69 : decode cX3_hashOfPark 69 = .ok (.invokestatic 293, 3) := by decide +kernel
theorem dX3_hashOfPark_72 : decode cX3_hashOfPark 72 = .ok (.lstore_n 3, 1) := by decide +kernel
theorem dX3_hashOfPark_73 : decode cX3_hashOfPark 73 = .ok (.lload_n 3, 1) := by decide +kernel
theorem dX3_hashOfPark_74 : decode cX3_hashOfPark 74 = .ok (.aload_n 0, 1) := by decide +kernel
theorem dX3_hashOfPark_75 : decode cX3_hashOfPark 75 = .ok (.getfield 10, 3) := by decide +kernel
theorem dX3_hashOfPark_78 : decode cX3_hashOfPark 78 = .ok (.invokevirtual 213, 3) := by decide +kernel
theorem dX3_hashOfPark_81 : decode cX3_hashOfPark 81 = .ok (.i2l, 1) := by decide +kernel
theorem dX3_hashOfPark_82 : decode cX3_hashOfPark 82 = .ok (.invokestatic 293, 3) := by decide +kernel
theorem dX3_hashOfPark_85 : decode cX3_hashOfPark 85 = .ok (.lstore_n 3, 1) := by decide +kernel
theorem dX3_hashOfPark_86 : decode cX3_hashOfPark 86 = .ok (.lload_n 3, 1) := by decide +kernel
theorem dX3_hashOfPark_87 : decode cX3_hashOfPark 87 = .ok (.aload_n 0, 1) := by decide +kernel
theorem dX3_hashOfPark_88 : decode cX3_hashOfPark 88 = .ok (.getfield 10, 3) := by decide +kernel
theorem dX3_hashOfPark_91 : decode cX3_hashOfPark 91 = .ok (.invokevirtual 216, 3) := by decide +kernel
theorem dX3_hashOfPark_94 : decode cX3_hashOfPark 94 = .ok (.i2l, 1) := by decide +kernel
theorem dX3_hashOfPark_95 : decode cX3_hashOfPark 95 = .ok (.invokestatic 293, 3) := by decide +kernel
theorem dX3_hashOfPark_98 : decode cX3_hashOfPark 98 = .ok (.lreturn, 1) := by decide +kernel
theorem dX3_hashOfPlans_0 : decode cX3_hashOfPlans 0 = .ok (.lload_n 1, 1) := by decide +kernel
theorem dX3_hashOfPlans_1 : decode cX3_hashOfPlans 1 = .ok (.aload_n 0, 1) := by decide +kernel
theorem dX3_hashOfPlans_2 : decode cX3_hashOfPlans 2 = .ok (.getfield 26, 3) := by decide +kernel
theorem dX3_hashOfPlans_5 : decode cX3_hashOfPlans 5 = .ok (.invokevirtual 222, 3) := by decide +kernel
theorem dX3_hashOfPlans_8 : decode cX3_hashOfPlans 8 = .ok (.i2l, 1) := by decide +kernel
theorem dX3_hashOfPlans_9 : decode cX3_hashOfPlans 9 = .ok (.invokestatic 293, 3) := by decide +kernel
theorem dX3_hashOfPlans_12 : decode cX3_hashOfPlans 12 = .ok (.lstore_n 3, 1) := by decide +kernel
theorem dX3_hashOfPlans_13 : decode cX3_hashOfPlans 13 = .ok (.lload_n 3, 1) := by decide +kernel
theorem dX3_hashOfPlans_14 : decode cX3_hashOfPlans 14 = .ok (.aload_n 0, 1) := by decide +kernel
theorem dX3_hashOfPlans_15 : decode cX3_hashOfPlans 15 = .ok (.getfield 26, 3) := by decide +kernel
theorem dX3_hashOfPlans_18 : decode cX3_hashOfPlans 18 = .ok (.invokevirtual 225, 3) := by decide +kernel
theorem dX3_hashOfPlans_21 : decode cX3_hashOfPlans 21 = .ok (.i2l, 1) := by decide +kernel
theorem dX3_hashOfPlans_22 : decode cX3_hashOfPlans 22 = .ok (.invokestatic 293, 3) := by decide +kernel
theorem dX3_hashOfPlans_25 : decode cX3_hashOfPlans 25 = .ok (.lstore_n 3, 1) := by decide +kernel
theorem dX3_hashOfPlans_26 : decode cX3_hashOfPlans 26 = .ok (.lload_n 3, 1) := by decide +kernel
theorem dX3_hashOfPlans_27 : decode cX3_hashOfPlans 27 = .ok (.aload_n 0, 1) := by decide +kernel
theorem dX3_hashOfPlans_28 : decode cX3_hashOfPlans 28 = .ok (.getfield 26, 3) := by decide +kernel
theorem dX3_hashOfPlans_31 : decode cX3_hashOfPlans 31 = .ok (.invokevirtual 228, 3) := by decide +kernel
theorem dX3_hashOfPlans_34 : decode cX3_hashOfPlans 34 = .ok (.i2l, 1) := by decide +kernel
theorem dX3_hashOfPlans_35 : decode cX3_hashOfPlans 35 = .ok (.invokestatic 293, 3) := by decide +kernel
theorem dX3_hashOfPlans_38 : decode cX3_hashOfPlans 38 = .ok (.lstore_n 3, 1) := by decide +kernel
theorem dX3_hashOfPlans_39 : decode cX3_hashOfPlans 39 = .ok (.lload_n 3, 1) := by decide +kernel
theorem dX3_hashOfPlans_40 : decode cX3_hashOfPlans 40 = .ok (.aload_n 0, 1) := by decide +kernel
theorem dX3_hashOfPlans_41 : decode cX3_hashOfPlans 41 = .ok (.getfield 26, 3) := by decide +kernel
theorem dX3_hashOfPlans_44 : decode cX3_hashOfPlans 44 = .ok (.invokevirtual 231, 3) := by decide +kernel
theorem dX3_hashOfPlans_47 : decode cX3_hashOfPlans 47 = .ok (.i2l, 1) := by decide +kernel
theorem dX3_hashOfPlans_48 : decode cX3_hashOfPlans 48 = .ok (.invokestatic 293, 3) := by decide +kernel
theorem dX3_hashOfPlans_51 : decode cX3_hashOfPlans 51 = .ok (.lstore_n 3, 1) := by decide +kernel
theorem dX3_hashOfPlans_52 : decode cX3_hashOfPlans 52 = .ok (.lload_n 3, 1) := by decide +kernel
theorem dX3_hashOfPlans_53 : decode cX3_hashOfPlans 53 = .ok (.aload_n 0, 1) := by decide +kernel
theorem dX3_hashOfPlans_54 : decode cX3_hashOfPlans 54 = .ok (.getfield 26, 3) := by decide +kernel
theorem dX3_hashOfPlans_57 : decode cX3_hashOfPlans 57 = .ok (.invokevirtual 234, 3) := by decide +kernel
theorem dX3_hashOfPlans_60 : decode cX3_hashOfPlans 60 = .ok (.i2l, 1) := by decide +kernel
theorem dX3_hashOfPlans_61 : decode cX3_hashOfPlans 61 = .ok (.invokestatic 293, 3) := by decide +kernel
theorem dX3_hashOfPlans_64 : decode cX3_hashOfPlans 64 = .ok (.lreturn, 1) := by decide +kernel
theorem dX3_hashOfArrangements_0 : decode cX3_hashOfArrangements 0 = .ok (.lload_n 1, 1) := by decide +kernel
theorem dX3_hashOfArrangements_1 : decode cX3_hashOfArrangements 1 = .ok (.aload_n 0, 1) := by decide +kernel
theorem dX3_hashOfArrangements_2 : decode cX3_hashOfArrangements 2 = .ok (.getfield 26, 3) := by decide +kernel
theorem dX3_hashOfArrangements_5 : decode cX3_hashOfArrangements 5 = .ok (.getfield 251, 3) := by decide +kernel
theorem dX3_hashOfArrangements_8 : decode cX3_hashOfArrangements 8 = .ok (.i2l, 1) := by decide +kernel
theorem dX3_hashOfArrangements_9 : decode cX3_hashOfArrangements 9 = .ok (.invokestatic 293, 3) := by decide +kernel
theorem dX3_hashOfArrangements_12 : decode cX3_hashOfArrangements 12 = .ok (.lstore_n 3, 1) := by decide +kernel
theorem dX3_hashOfArrangements_13 : decode cX3_hashOfArrangements 13 = .ok (.lload_n 3, 1) := by decide +kernel
theorem dX3_hashOfArrangements_14 : decode cX3_hashOfArrangements 14 = .ok (.aload_n 0, 1) := by decide +kernel
theorem dX3_hashOfArrangements_15 : decode cX3_hashOfArrangements 15 = .ok (.getfield 26, 3) := by decide +kernel
theorem dX3_hashOfArrangements_18 : decode cX3_hashOfArrangements 18 = .ok (.invokevirtual 254, 3) := by decide +kernel
theorem dX3_hashOfArrangements_21 : decode cX3_hashOfArrangements 21 = .ok (.i2l, 1) := by decide +kernel
theorem dX3_hashOfArrangements_22 : decode cX3_hashOfArrangements 22 = .ok (.invokestatic 293, 3) := by decide +kernel
theorem dX3_hashOfArrangements_25 : decode cX3_hashOfArrangements 25 = .ok (.lstore_n 3, 1) := by decide +kernel
theorem dX3_hashOfArrangements_26 : decode cX3_hashOfArrangements 26 = .ok (.lload_n 3, 1) := by decide +kernel
theorem dX3_hashOfArrangements_27 : decode cX3_hashOfArrangements 27 = .ok (.aload_n 0, 1) := by decide +kernel
theorem dX3_hashOfArrangements_28 : decode cX3_hashOfArrangements 28 = .ok (.getfield 26, 3) := by decide +kernel
theorem dX3_hashOfArrangements_31 : decode cX3_hashOfArrangements 31 = .ok (.invokevirtual 257, 3) := by decide +kernel
theorem dX3_hashOfArrangements_34 : decode cX3_hashOfArrangements 34 = .ok (.i2l, 1) := by decide +kernel
theorem dX3_hashOfArrangements_35 : decode cX3_hashOfArrangements 35 = .ok (.invokestatic 293, 3) := by decide +kernel
theorem dX3_hashOfArrangements_38 : decode cX3_hashOfArrangements 38 = .ok (.lstore_n 3, 1) := by decide +kernel
theorem dX3_hashOfArrangements_39 : decode cX3_hashOfArrangements 39 = .ok (.lload_n 3, 1) := by decide +kernel
theorem dX3_hashOfArrangements_40 : decode cX3_hashOfArrangements 40 = .ok (.aload_n 0, 1) := by decide +kernel
theorem dX3_hashOfArrangements_41 : decode cX3_hashOfArrangements 41 = .ok (.getfield 26, 3) := by decide +kernel
theorem dX3_hashOfArrangements_44 : decode cX3_hashOfArrangements 44 = .ok (.invokevirtual 260, 3) := by decide +kernel
theorem dX3_hashOfArrangements_47 : decode cX3_hashOfArrangements 47 = .ok (.i2l, 1) := by decide +kernel
theorem dX3_hashOfArrangements_48 : decode cX3_hashOfArrangements 48 = .ok (.invokestatic 293, 3) := by decide +kernel
theorem dX3_hashOfArrangements_51 : decode cX3_hashOfArrangements 51 = .ok (.lreturn, 1) := by decide +kernel
theorem dX3_hashOfCells_0 : decode cX3_hashOfCells 0 = .ok (.lload_n 1, 1) := by decide +kernel
theorem dX3_hashOfCells_1 : decode cX3_hashOfCells 1 = .ok (.lstore_n 3, 1) := by decide +kernel
theorem dX3_hashOfCells_2 : decode cX3_hashOfCells 2 = .ok (.iconst 0, 1) := by decide +kernel
theorem dX3_hashOfCells_3 : decode cX3_hashOfCells 3 = .ok (.istore 5, 2) := by decide +kernel
theorem dX3_hashOfCells_5 : decode cX3_hashOfCells 5 = .ok (.iload 5, 2) := by decide +kernel
theorem dX3_hashOfCells_7 : decode cX3_hashOfCells 7 = .ok (.bipush 25, 2) := by decide +kernel
theorem dX3_hashOfCells_9 : decode cX3_hashOfCells 9 = .ok (.if_icmp .ge 46, 3) := by decide +kernel
theorem dX3_hashOfCells_12 : decode cX3_hashOfCells 12 = .ok (.lload_n 3, 1) := by decide +kernel
theorem dX3_hashOfCells_13 : decode cX3_hashOfCells 13 = .ok (.aload_n 0, 1) := by decide +kernel
theorem dX3_hashOfCells_14 : decode cX3_hashOfCells 14 = .ok (.getfield 10, 3) := by decide +kernel
theorem dX3_hashOfCells_17 : decode cX3_hashOfCells 17 = .ok (.iload 5, 2) := by decide +kernel
theorem dX3_hashOfCells_19 : decode cX3_hashOfCells 19 = .ok (.invokevirtual 184, 3) := by decide +kernel
theorem dX3_hashOfCells_22 : decode cX3_hashOfCells 22 = .ok (.i2l, 1) := by decide +kernel
theorem dX3_hashOfCells_23 : decode cX3_hashOfCells 23 = .ok (.invokestatic 293, 3) := by decide +kernel
theorem dX3_hashOfCells_26 : decode cX3_hashOfCells 26 = .ok (.lstore_n 3, 1) := by decide +kernel
theorem dX3_hashOfCells_27 : decode cX3_hashOfCells 27 = .ok (.lload_n 3, 1) := by decide +kernel
theorem dX3_hashOfCells_28 : decode cX3_hashOfCells 28 = .ok (.aload_n 0, 1) := by decide +kernel
theorem dX3_hashOfCells_29 : decode cX3_hashOfCells 29 = .ok (.getfield 10, 3) := by decide +kernel
theorem dX3_hashOfCells_32 : decode cX3_hashOfCells 32 = .ok (.iload 5, 2) := by decide +kernel
theorem dX3_hashOfCells_34 : decode cX3_hashOfCells 34 = .ok (.invokevirtual 187, 3) := by decide +kernel
theorem dX3_hashOfCells_37 : decode cX3_hashOfCells 37 = .ok (.ifCond .eq 7, 3) := by decide +kernel
theorem dX3_hashOfCells_40 : decode cX3_hashOfCells 40 = .ok (.lconst 1, 1) := by decide +kernel
theorem dX3_hashOfCells_41 : decode cX3_hashOfCells 41 = .ok (.goto 4, 3) := by decide +kernel
theorem dX3_hashOfCells_44 : decode cX3_hashOfCells 44 = .ok (.lconst 0, 1) := by decide +kernel
theorem dX3_hashOfCells_45 : decode cX3_hashOfCells 45 = .ok (.invokestatic 293, 3) := by decide +kernel
theorem dX3_hashOfCells_48 : decode cX3_hashOfCells 48 = .ok (.lstore_n 3, 1) := by decide +kernel
theorem dX3_hashOfCells_49 : decode cX3_hashOfCells 49 = .ok (.iinc 5 1, 3) := by decide +kernel
theorem dX3_hashOfCells_52 : decode cX3_hashOfCells 52 = .ok (.goto (-47), 3) := by decide +kernel
theorem dX3_hashOfCells_55 : decode cX3_hashOfCells 55 = .ok (.lload_n 3, 1) := by decide +kernel
theorem dX3_hashOfCells_56 : decode cX3_hashOfCells 56 = .ok (.lreturn, 1) := by decide +kernel
theorem dX3_hashOfCars_0 : decode cX3_hashOfCars 0 = .ok (.lload_n 1, 1) := by decide +kernel
theorem dX3_hashOfCars_1 : decode cX3_hashOfCars 1 = .ok (.lstore_n 3, 1) := by decide +kernel
theorem dX3_hashOfCars_2 : decode cX3_hashOfCars 2 = .ok (.iconst 0, 1) := by decide +kernel
theorem dX3_hashOfCars_3 : decode cX3_hashOfCars 3 = .ok (.istore 5, 2) := by decide +kernel
theorem dX3_hashOfCars_5 : decode cX3_hashOfCars 5 = .ok (.iload 5, 2) := by decide +kernel
theorem dX3_hashOfCars_7 : decode cX3_hashOfCars 7 = .ok (.aload_n 0, 1) := by decide +kernel
theorem dX3_hashOfCars_8 : decode cX3_hashOfCars 8 = .ok (.getfield 10, 3) := by decide +kernel
theorem dX3_hashOfCars_11 : decode cX3_hashOfCars 11 = .ok (.getfield 59, 3) := by decide +kernel
theorem dX3_hashOfCars_14 : decode cX3_hashOfCars 14 = .ok (.if_icmp .ge 111, 3) := by decide +kernel
theorem dX3_hashOfCars_17 : decode cX3_hashOfCars 17 = .ok (.iload 5, 2) := by decide +kernel
theorem dX3_hashOfCars_19 : decode cX3_hashOfCars 19 = .ok (.bipush 6, 2) := by decide +kernel
theorem dX3_hashOfCars_21 : decode cX3_hashOfCars 21 = .ok (.if_icmp .ge 104, 3) := by decide +kernel
theorem dX3_hashOfCars_24 : decode cX3_hashOfCars 24 = .ok (.lload_n 3, 1) := by decide +kernel
theorem dX3_hashOfCars_25 : decode cX3_hashOfCars 25 = .ok (.aload_n 0, 1) := by decide +kernel
theorem dX3_hashOfCars_26 : decode cX3_hashOfCars 26 = .ok (.getfield 10, 3) := by decide +kernel
theorem dX3_hashOfCars_29 : decode cX3_hashOfCars 29 = .ok (.getfield 169, 3) := by decide +kernel
theorem dX3_hashOfCars_32 : decode cX3_hashOfCars 32 = .ok (.iload 5, 2) := by decide +kernel
theorem dX3_hashOfCars_34 : decode cX3_hashOfCars 34 = .ok (.iaload, 1) := by decide +kernel
theorem dX3_hashOfCars_35 : decode cX3_hashOfCars 35 = .ok (.i2l, 1) := by decide +kernel
theorem dX3_hashOfCars_36 : decode cX3_hashOfCars 36 = .ok (.invokestatic 293, 3) := by decide +kernel
theorem dX3_hashOfCars_39 : decode cX3_hashOfCars 39 = .ok (.lstore_n 3, 1) := by decide +kernel
theorem dX3_hashOfCars_40 : decode cX3_hashOfCars 40 = .ok (.lload_n 3, 1) := by decide +kernel
theorem dX3_hashOfCars_41 : decode cX3_hashOfCars 41 = .ok (.aload_n 0, 1) := by decide +kernel
theorem dX3_hashOfCars_42 : decode cX3_hashOfCars 42 = .ok (.getfield 10, 3) := by decide +kernel
theorem dX3_hashOfCars_45 : decode cX3_hashOfCars 45 = .ok (.getfield 173, 3) := by decide +kernel
theorem dX3_hashOfCars_48 : decode cX3_hashOfCars 48 = .ok (.iload 5, 2) := by decide +kernel
theorem dX3_hashOfCars_50 : decode cX3_hashOfCars 50 = .ok (.iaload, 1) := by decide +kernel
theorem dX3_hashOfCars_51 : decode cX3_hashOfCars 51 = .ok (.i2l, 1) := by decide +kernel
theorem dX3_hashOfCars_52 : decode cX3_hashOfCars 52 = .ok (.invokestatic 293, 3) := by decide +kernel
theorem dX3_hashOfCars_55 : decode cX3_hashOfCars 55 = .ok (.lstore_n 3, 1) := by decide +kernel
theorem dX3_hashOfCars_56 : decode cX3_hashOfCars 56 = .ok (.lload_n 3, 1) := by decide +kernel
theorem dX3_hashOfCars_57 : decode cX3_hashOfCars 57 = .ok (.aload_n 0, 1) := by decide +kernel
theorem dX3_hashOfCars_58 : decode cX3_hashOfCars 58 = .ok (.getfield 10, 3) := by decide +kernel
theorem dX3_hashOfCars_61 : decode cX3_hashOfCars 61 = .ok (.getfield 176, 3) := by decide +kernel
theorem dX3_hashOfCars_64 : decode cX3_hashOfCars 64 = .ok (.iload 5, 2) := by decide +kernel
theorem dX3_hashOfCars_66 : decode cX3_hashOfCars 66 = .ok (.iaload, 1) := by decide +kernel
theorem dX3_hashOfCars_67 : decode cX3_hashOfCars 67 = .ok (.i2l, 1) := by decide +kernel
theorem dX3_hashOfCars_68 : decode cX3_hashOfCars 68 = .ok (.invokestatic 293, 3) := by decide +kernel
theorem dX3_hashOfCars_71 : decode cX3_hashOfCars 71 = .ok (.lstore_n 3, 1) := by decide +kernel
theorem dX3_hashOfCars_72 : decode cX3_hashOfCars 72 = .ok (.lload_n 3, 1) := by decide +kernel
theorem dX3_hashOfCars_73 : decode cX3_hashOfCars 73 = .ok (.aload_n 0, 1) := by decide +kernel
theorem dX3_hashOfCars_74 : decode cX3_hashOfCars 74 = .ok (.getfield 10, 3) := by decide +kernel
theorem dX3_hashOfCars_77 : decode cX3_hashOfCars 77 = .ok (.iload 5, 2) := by decide +kernel
theorem dX3_hashOfCars_79 : decode cX3_hashOfCars 79 = .ok (.invokevirtual 210, 3) := by decide +kernel
theorem dX3_hashOfCars_82 : decode cX3_hashOfCars 82 = .ok (.i2l, 1) := by decide +kernel
theorem dX3_hashOfCars_83 : decode cX3_hashOfCars 83 = .ok (.invokestatic 293, 3) := by decide +kernel
theorem dX3_hashOfCars_86 : decode cX3_hashOfCars 86 = .ok (.lstore_n 3, 1) := by decide +kernel
theorem dX3_hashOfCars_87 : decode cX3_hashOfCars 87 = .ok (.lload_n 3, 1) := by decide +kernel
theorem dX3_hashOfCars_88 : decode cX3_hashOfCars 88 = .ok (.aload_n 0, 1) := by decide +kernel
theorem dX3_hashOfCars_89 : decode cX3_hashOfCars 89 = .ok (.getfield 10, 3) := by decide +kernel
theorem dX3_hashOfCars_92 : decode cX3_hashOfCars 92 = .ok (.iload 5, 2) := by decide +kernel
theorem dX3_hashOfCars_94 : decode cX3_hashOfCars 94 = .ok (.iconst 1, 1) := by decide +kernel
theorem dX3_hashOfCars_95 : decode cX3_hashOfCars 95 = .ok (.invokevirtual 196, 3) := by decide +kernel
theorem dX3_hashOfCars_98 : decode cX3_hashOfCars 98 = .ok (.i2l, 1) := by decide +kernel
theorem dX3_hashOfCars_99 : decode cX3_hashOfCars 99 = .ok (.invokestatic 293, 3) := by decide +kernel
theorem dX3_hashOfCars_102 : decode cX3_hashOfCars 102 = .ok (.lstore_n 3, 1) := by decide +kernel
theorem dX3_hashOfCars_103 : decode cX3_hashOfCars 103 = .ok (.lload_n 3, 1) := by decide +kernel
theorem dX3_hashOfCars_104 : decode cX3_hashOfCars 104 = .ok (.aload_n 0, 1) := by decide +kernel
theorem dX3_hashOfCars_105 : decode cX3_hashOfCars 105 = .ok (.getfield 10, 3) := by decide +kernel
theorem dX3_hashOfCars_108 : decode cX3_hashOfCars 108 = .ok (.iload 5, 2) := by decide +kernel
theorem dX3_hashOfCars_110 : decode cX3_hashOfCars 110 = .ok (.iconst (-1), 1) := by decide +kernel
theorem dX3_hashOfCars_111 : decode cX3_hashOfCars 111 = .ok (.invokevirtual 196, 3) := by decide +kernel
theorem dX3_hashOfCars_114 : decode cX3_hashOfCars 114 = .ok (.i2l, 1) := by decide +kernel
theorem dX3_hashOfCars_115 : decode cX3_hashOfCars 115 = .ok (.invokestatic 293, 3) := by decide +kernel
theorem dX3_hashOfCars_118 : decode cX3_hashOfCars 118 = .ok (.lstore_n 3, 1) := by decide +kernel
theorem dX3_hashOfCars_119 : decode cX3_hashOfCars 119 = .ok (.iinc 5 1, 3) := by decide +kernel
theorem dX3_hashOfCars_122 : decode cX3_hashOfCars 122 = .ok (.goto (-117), 3) := by decide +kernel
theorem dX3_hashOfCars_125 : decode cX3_hashOfCars 125 = .ok (.lload_n 3, 1) := by decide +kernel
theorem dX3_hashOfCars_126 : decode cX3_hashOfCars 126 = .ok (.lreturn, 1) := by decide +kernel
theorem dX3_hashOfLog_0 : decode cX3_hashOfLog 0 = .ok (.lload_n 1, 1) := by decide +kernel
theorem dX3_hashOfLog_1 : decode cX3_hashOfLog 1 = .ok (.lstore_n 3, 1) := by decide +kernel
theorem dX3_hashOfLog_2 : decode cX3_hashOfLog 2 = .ok (.iconst 0, 1) := by decide +kernel
theorem dX3_hashOfLog_3 : decode cX3_hashOfLog 3 = .ok (.istore 5, 2) := by decide +kernel
theorem dX3_hashOfLog_5 : decode cX3_hashOfLog 5 = .ok (.iload 5, 2) := by decide +kernel
theorem dX3_hashOfLog_7 : decode cX3_hashOfLog 7 = .ok (.aload_n 0, 1) := by decide +kernel
theorem dX3_hashOfLog_8 : decode cX3_hashOfLog 8 = .ok (.getfield 10, 3) := by decide +kernel
theorem dX3_hashOfLog_11 : decode cX3_hashOfLog 11 = .ok (.getfield 85, 3) := by decide +kernel
theorem dX3_hashOfLog_14 : decode cX3_hashOfLog 14 = .ok (.if_icmp .ge 48, 3) := by decide +kernel
theorem dX3_hashOfLog_17 : decode cX3_hashOfLog 17 = .ok (.iload 5, 2) := by decide +kernel
theorem dX3_hashOfLog_19 : decode cX3_hashOfLog 19 = .ok (.bipush 60, 2) := by decide +kernel
theorem dX3_hashOfLog_21 : decode cX3_hashOfLog 21 = .ok (.if_icmp .ge 41, 3) := by decide +kernel
theorem dX3_hashOfLog_24 : decode cX3_hashOfLog 24 = .ok (.lload_n 3, 1) := by decide +kernel
theorem dX3_hashOfLog_25 : decode cX3_hashOfLog 25 = .ok (.aload_n 0, 1) := by decide +kernel
theorem dX3_hashOfLog_26 : decode cX3_hashOfLog 26 = .ok (.getfield 10, 3) := by decide +kernel
theorem dX3_hashOfLog_29 : decode cX3_hashOfLog 29 = .ok (.getfield 204, 3) := by decide +kernel
theorem dX3_hashOfLog_32 : decode cX3_hashOfLog 32 = .ok (.iload 5, 2) := by decide +kernel
theorem dX3_hashOfLog_34 : decode cX3_hashOfLog 34 = .ok (.iaload, 1) := by decide +kernel
theorem dX3_hashOfLog_35 : decode cX3_hashOfLog 35 = .ok (.i2l, 1) := by decide +kernel
theorem dX3_hashOfLog_36 : decode cX3_hashOfLog 36 = .ok (.invokestatic 293, 3) := by decide +kernel
theorem dX3_hashOfLog_39 : decode cX3_hashOfLog 39 = .ok (.lstore_n 3, 1) := by decide +kernel
theorem dX3_hashOfLog_40 : decode cX3_hashOfLog 40 = .ok (.lload_n 3, 1) := by decide +kernel
theorem dX3_hashOfLog_41 : decode cX3_hashOfLog 41 = .ok (.aload_n 0, 1) := by decide +kernel
theorem dX3_hashOfLog_42 : decode cX3_hashOfLog 42 = .ok (.getfield 10, 3) := by decide +kernel
theorem dX3_hashOfLog_45 : decode cX3_hashOfLog 45 = .ok (.getfield 207, 3) := by decide +kernel
theorem dX3_hashOfLog_48 : decode cX3_hashOfLog 48 = .ok (.iload 5, 2) := by decide +kernel
theorem dX3_hashOfLog_50 : decode cX3_hashOfLog 50 = .ok (.iaload, 1) := by decide +kernel
theorem dX3_hashOfLog_51 : decode cX3_hashOfLog 51 = .ok (.i2l, 1) := by decide +kernel
theorem dX3_hashOfLog_52 : decode cX3_hashOfLog 52 = .ok (.invokestatic 293, 3) := by decide +kernel
theorem dX3_hashOfLog_55 : decode cX3_hashOfLog 55 = .ok (.lstore_n 3, 1) := by decide +kernel
theorem dX3_hashOfLog_56 : decode cX3_hashOfLog 56 = .ok (.iinc 5 1, 3) := by decide +kernel
theorem dX3_hashOfLog_59 : decode cX3_hashOfLog 59 = .ok (.goto (-54), 3) := by decide +kernel
theorem dX3_hashOfLog_62 : decode cX3_hashOfLog 62 = .ok (.lload_n 3, 1) := by decide +kernel
theorem dX3_hashOfLog_63 : decode cX3_hashOfLog 63 = .ok (.lreturn, 1) := by decide +kernel
theorem dX3_hashOfText_0 : decode cX3_hashOfText 0 = .ok (.lload_n 1, 1) := by decide +kernel
theorem dX3_hashOfText_1 : decode cX3_hashOfText 1 = .ok (.aload_n 0, 1) := by decide +kernel
theorem dX3_hashOfText_2 : decode cX3_hashOfText 2 = .ok (.getfield 33, 3) := by decide +kernel
theorem dX3_hashOfText_5 : decode cX3_hashOfText 5 = .ok (.getfield 111, 3) := by decide +kernel
theorem dX3_hashOfText_8 : decode cX3_hashOfText 8 = .ok (.i2l, 1) := by decide +kernel
theorem dX3_hashOfText_9 : decode cX3_hashOfText 9 = .ok (.invokestatic 293, 3) := by decide +kernel
theorem dX3_hashOfText_12 : decode cX3_hashOfText 12 = .ok (.lstore_n 3, 1) := by decide +kernel
theorem dX3_hashOfText_13 : decode cX3_hashOfText 13 = .ok (.iconst 0, 1) := by decide +kernel
theorem dX3_hashOfText_14 : decode cX3_hashOfText 14 = .ok (.istore 5, 2) := by decide +kernel
theorem dX3_hashOfText_16 : decode cX3_hashOfText 16 = .ok (.iload 5, 2) := by decide +kernel
theorem dX3_hashOfText_18 : decode cX3_hashOfText 18 = .ok (.aload_n 0, 1) := by decide +kernel
theorem dX3_hashOfText_19 : decode cX3_hashOfText 19 = .ok (.getfield 33, 3) := by decide +kernel
theorem dX3_hashOfText_22 : decode cX3_hashOfText 22 = .ok (.getfield 111, 3) := by decide +kernel
theorem dX3_hashOfText_25 : decode cX3_hashOfText 25 = .ok (.if_icmp .ge 24, 3) := by decide +kernel
theorem dX3_hashOfText_28 : decode cX3_hashOfText 28 = .ok (.lload_n 3, 1) := by decide +kernel
theorem dX3_hashOfText_29 : decode cX3_hashOfText 29 = .ok (.aload_n 0, 1) := by decide +kernel
theorem dX3_hashOfText_30 : decode cX3_hashOfText 30 = .ok (.getfield 33, 3) := by decide +kernel
theorem dX3_hashOfText_33 : decode cX3_hashOfText 33 = .ok (.iload 5, 2) := by decide +kernel
theorem dX3_hashOfText_35 : decode cX3_hashOfText 35 = .ok (.invokevirtual 329, 3) := by decide +kernel
theorem dX3_hashOfText_38 : decode cX3_hashOfText 38 = .ok (.i2l, 1) := by decide +kernel
theorem dX3_hashOfText_39 : decode cX3_hashOfText 39 = .ok (.invokestatic 293, 3) := by decide +kernel
theorem dX3_hashOfText_42 : decode cX3_hashOfText 42 = .ok (.lstore_n 3, 1) := by decide +kernel
theorem dX3_hashOfText_43 : decode cX3_hashOfText 43 = .ok (.iinc 5 1, 3) := by decide +kernel
theorem dX3_hashOfText_46 : decode cX3_hashOfText 46 = .ok (.goto (-30), 3) := by decide +kernel
theorem dX3_hashOfText_49 : decode cX3_hashOfText 49 = .ok (.lload_n 3, 1) := by decide +kernel
theorem dX3_hashOfText_50 : decode cX3_hashOfText 50 = .ok (.lreturn, 1) := by decide +kernel
theorem dJ6_bitCount_0f7a4_0 : decode cJ6_bitCount_0f7a4 0 = .ok (.iload_n 0, 1) := by decide +kernel
theorem dJ6_bitCount_0f7a4_1 : decode cJ6_bitCount_0f7a4 1 = .ok (.iload_n 0, 1) := by decide +kernel
theorem dJ6_bitCount_0f7a4_2 : decode cJ6_bitCount_0f7a4 2 = .ok (.iconst 1, 1) := by decide +kernel
theorem dJ6_bitCount_0f7a4_3 : decode cJ6_bitCount_0f7a4 3 = .ok (.iushr, 1) := by decide +kernel
theorem dJ6_bitCount_0f7a4_4 : decode cJ6_bitCount_0f7a4 4 = .ok (.ldc_w 265, 3) := by decide +kernel
theorem dJ6_bitCount_0f7a4_7 : decode cJ6_bitCount_0f7a4 7 = .ok (.iand, 1) := by decide +kernel
theorem dJ6_bitCount_0f7a4_8 : decode cJ6_bitCount_0f7a4 8 = .ok (.isub, 1) := by decide +kernel
theorem dJ6_bitCount_0f7a4_9 : decode cJ6_bitCount_0f7a4 9 = .ok (.istore_n 0, 1) := by decide +kernel
theorem dJ6_bitCount_0f7a4_10 : decode cJ6_bitCount_0f7a4 10 = .ok (.iload_n 0, 1) := by decide +kernel
theorem dJ6_bitCount_0f7a4_11 : decode cJ6_bitCount_0f7a4 11 = .ok (.ldc_w 266, 3) := by decide +kernel
theorem dJ6_bitCount_0f7a4_14 : decode cJ6_bitCount_0f7a4 14 = .ok (.iand, 1) := by decide +kernel
theorem dJ6_bitCount_0f7a4_15 : decode cJ6_bitCount_0f7a4 15 = .ok (.iload_n 0, 1) := by decide +kernel
theorem dJ6_bitCount_0f7a4_16 : decode cJ6_bitCount_0f7a4 16 = .ok (.iconst 2, 1) := by decide +kernel
theorem dJ6_bitCount_0f7a4_17 : decode cJ6_bitCount_0f7a4 17 = .ok (.iushr, 1) := by decide +kernel
theorem dJ6_bitCount_0f7a4_18 : decode cJ6_bitCount_0f7a4 18 = .ok (.ldc_w 266, 3) := by decide +kernel
theorem dJ6_bitCount_0f7a4_21 : decode cJ6_bitCount_0f7a4 21 = .ok (.iand, 1) := by decide +kernel
theorem dJ6_bitCount_0f7a4_22 : decode cJ6_bitCount_0f7a4 22 = .ok (.iadd, 1) := by decide +kernel
theorem dJ6_bitCount_0f7a4_23 : decode cJ6_bitCount_0f7a4 23 = .ok (.istore_n 0, 1) := by decide +kernel
theorem dJ6_bitCount_0f7a4_24 : decode cJ6_bitCount_0f7a4 24 = .ok (.iload_n 0, 1) := by decide +kernel
theorem dJ6_bitCount_0f7a4_25 : decode cJ6_bitCount_0f7a4 25 = .ok (.iload_n 0, 1) := by decide +kernel
theorem dJ6_bitCount_0f7a4_26 : decode cJ6_bitCount_0f7a4 26 = .ok (.iconst 4, 1) := by decide +kernel
theorem dJ6_bitCount_0f7a4_27 : decode cJ6_bitCount_0f7a4 27 = .ok (.iushr, 1) := by decide +kernel
theorem dJ6_bitCount_0f7a4_28 : decode cJ6_bitCount_0f7a4 28 = .ok (.iadd, 1) := by decide +kernel
theorem dJ6_bitCount_0f7a4_29 : decode cJ6_bitCount_0f7a4 29 = .ok (.ldc_w 267, 3) := by decide +kernel
theorem dJ6_bitCount_0f7a4_32 : decode cJ6_bitCount_0f7a4 32 = .ok (.iand, 1) := by decide +kernel
theorem dJ6_bitCount_0f7a4_33 : decode cJ6_bitCount_0f7a4 33 = .ok (.istore_n 0, 1) := by decide +kernel
theorem dJ6_bitCount_0f7a4_34 : decode cJ6_bitCount_0f7a4 34 = .ok (.iload_n 0, 1) := by decide +kernel
theorem dJ6_bitCount_0f7a4_35 : decode cJ6_bitCount_0f7a4 35 = .ok (.iload_n 0, 1) := by decide +kernel
theorem dJ6_bitCount_0f7a4_36 : decode cJ6_bitCount_0f7a4 36 = .ok (.bipush 8, 2) := by decide +kernel
theorem dJ6_bitCount_0f7a4_38 : decode cJ6_bitCount_0f7a4 38 = .ok (.iushr, 1) := by decide +kernel
theorem dJ6_bitCount_0f7a4_39 : decode cJ6_bitCount_0f7a4 39 = .ok (.iadd, 1) := by decide +kernel
theorem dJ6_bitCount_0f7a4_40 : decode cJ6_bitCount_0f7a4 40 = .ok (.istore_n 0, 1) := by decide +kernel
theorem dJ6_bitCount_0f7a4_41 : decode cJ6_bitCount_0f7a4 41 = .ok (.iload_n 0, 1) := by decide +kernel
theorem dJ6_bitCount_0f7a4_42 : decode cJ6_bitCount_0f7a4 42 = .ok (.iload_n 0, 1) := by decide +kernel
theorem dJ6_bitCount_0f7a4_43 : decode cJ6_bitCount_0f7a4 43 = .ok (.bipush 16, 2) := by decide +kernel
theorem dJ6_bitCount_0f7a4_45 : decode cJ6_bitCount_0f7a4 45 = .ok (.iushr, 1) := by decide +kernel
theorem dJ6_bitCount_0f7a4_46 : decode cJ6_bitCount_0f7a4 46 = .ok (.iadd, 1) := by decide +kernel
theorem dJ6_bitCount_0f7a4_47 : decode cJ6_bitCount_0f7a4 47 = .ok (.istore_n 0, 1) := by decide +kernel
theorem dJ6_bitCount_0f7a4_48 : decode cJ6_bitCount_0f7a4 48 = .ok (.iload_n 0, 1) := by decide +kernel
theorem dJ6_bitCount_0f7a4_49 : decode cJ6_bitCount_0f7a4 49 = .ok (.bipush 63, 2) := by decide +kernel
theorem dJ6_bitCount_0f7a4_51 : decode cJ6_bitCount_0f7a4 51 = .ok (.iand, 1) := by decide +kernel
theorem dJ6_bitCount_0f7a4_52 : decode cJ6_bitCount_0f7a4 52 = .ok (.ireturn, 1) := by decide +kernel
theorem dJ9_abs_0f7a4_0 : decode cJ9_abs_0f7a4 0 = .ok (.iload_n 0, 1) := by decide +kernel
theorem dJ9_abs_0f7a4_1 : decode cJ9_abs_0f7a4 1 = .ok (.ifCond .ge 8, 3) := by decide +kernel
theorem dJ9_abs_0f7a4_4 : decode cJ9_abs_0f7a4 4 = .ok (.iload_n 0, 1) := by decide +kernel
theorem dJ9_abs_0f7a4_5 : decode cJ9_abs_0f7a4 5 = .ok (.ineg, 1) := by decide +kernel
theorem dJ9_abs_0f7a4_6 : decode cJ9_abs_0f7a4 6 = .ok (.goto 4, 3) := by decide +kernel
theorem dJ9_abs_0f7a4_9 : decode cJ9_abs_0f7a4 9 = .ok (.iload_n 0, 1) := by decide +kernel
theorem dJ9_abs_0f7a4_10 : decode cJ9_abs_0f7a4 10 = .ok (.ireturn, 1) := by decide +kernel
theorem dJ9_max_7cf53_0 : decode cJ9_max_7cf53 0 = .ok (.iload_n 0, 1) := by decide +kernel
theorem dJ9_max_7cf53_1 : decode cJ9_max_7cf53 1 = .ok (.iload_n 1, 1) := by decide +kernel
theorem dJ9_max_7cf53_2 : decode cJ9_max_7cf53 2 = .ok (.if_icmp .lt 7, 3) := by decide +kernel
theorem dJ9_max_7cf53_5 : decode cJ9_max_7cf53 5 = .ok (.iload_n 0, 1) := by decide +kernel
theorem dJ9_max_7cf53_6 : decode cJ9_max_7cf53 6 = .ok (.goto 4, 3) := by decide +kernel
theorem dJ9_max_7cf53_9 : decode cJ9_max_7cf53 9 = .ok (.iload_n 1, 1) := by decide +kernel
theorem dJ9_max_7cf53_10 : decode cJ9_max_7cf53 10 = .ok (.ireturn, 1) := by decide +kernel
theorem dJ9_min_7cf53_0 : decode cJ9_min_7cf53 0 = .ok (.iload_n 0, 1) := by decide +kernel
theorem dJ9_min_7cf53_1 : decode cJ9_min_7cf53 1 = .ok (.iload_n 1, 1) := by decide +kernel
theorem dJ9_min_7cf53_2 : decode cJ9_min_7cf53 2 = .ok (.if_icmp .gt 7, 3) := by decide +kernel
theorem dJ9_min_7cf53_5 : decode cJ9_min_7cf53 5 = .ok (.iload_n 0, 1) := by decide +kernel
theorem dJ9_min_7cf53_6 : decode cJ9_min_7cf53 6 = .ok (.goto 4, 3) := by decide +kernel
theorem dJ9_min_7cf53_9 : decode cJ9_min_7cf53 9 = .ok (.iload_n 1, 1) := by decide +kernel
theorem dJ9_min_7cf53_10 : decode cJ9_min_7cf53 10 = .ok (.ireturn, 1) := by decide +kernel
theorem dL_wall_0 : decode cL_wall 0 = .ok (.aload_n 0, 1) := by decide +kernel
theorem dL_wall_1 : decode cL_wall 1 = .ok (.iload_n 1, 1) := by decide +kernel
theorem dL_wall_2 : decode cL_wall 2 = .ok (.invokevirtual 7, 3) := by decide +kernel
theorem dL_wall_5 : decode cL_wall 5 = .ok (.ifCond .eq 7, 3) := by decide +kernel
theorem dL_wall_8 : decode cL_wall 8 = .ok (.iconst 1, 1) := by decide +kernel
theorem dL_wall_9 : decode cL_wall 9 = .ok (.goto 4, 3) := by decide +kernel
theorem dL_wall_12 : decode cL_wall 12 = .ok (.iconst 0, 1) := by decide +kernel
theorem dL_wall_13 : decode cL_wall 13 = .ok (.ireturn, 1) := by decide +kernel
theorem dL_wall_14 : decode cL_wall 14 = .ok (.astore_n 2, 1) := by decide +kernel
theorem dL_wall_15 : decode cL_wall 15 = .ok (.ldc 15, 2) := by decide +kernel
theorem dL_wall_17 : decode cL_wall 17 = .ok (.ireturn, 1) := by decide +kernel
theorem dL_wall_18 : decode cL_wall 18 = .ok (.astore_n 2, 1) := by decide +kernel
theorem dL_wall_19 : decode cL_wall 19 = .ok (.ldc 18, 2) := by decide +kernel
theorem dL_wall_21 : decode cL_wall 21 = .ok (.ireturn, 1) := by decide +kernel
theorem dL_isWall_0 : decode cL_isWall 0 = .ok (.aload_n 0, 1) := by decide +kernel
theorem dL_isWall_1 : decode cL_isWall 1 = .ok (.iload_n 1, 1) := by decide +kernel
theorem dL_isWall_2 : decode cL_isWall 2 = .ok (.invokevirtual 19, 3) := by decide +kernel
theorem dL_isWall_5 : decode cL_isWall 5 = .ok (.ifCond .eq 7, 3) := by decide +kernel
theorem dL_isWall_8 : decode cL_isWall 8 = .ok (.iconst 1, 1) := by decide +kernel
theorem dL_isWall_9 : decode cL_isWall 9 = .ok (.goto 4, 3) := by decide +kernel
theorem dL_isWall_12 : decode cL_isWall 12 = .ok (.iconst 0, 1) := by decide +kernel
theorem dL_isWall_13 : decode cL_isWall 13 = .ok (.ireturn, 1) := by decide +kernel
theorem dL_isWall_14 : decode cL_isWall 14 = .ok (.astore_n 2, 1) := by decide +kernel
theorem dL_isWall_15 : decode cL_isWall 15 = .ok (.ldc 15, 2) := by decide +kernel
theorem dL_isWall_17 : decode cL_isWall 17 = .ok (.ireturn, 1) := by decide +kernel
theorem dL_room_0 : decode cL_room 0 = .ok (.aload_n 0, 1) := by decide +kernel
theorem dL_room_1 : decode cL_room 1 = .ok (.iload_n 1, 1) := by decide +kernel
theorem dL_room_2 : decode cL_room 2 = .ok (.iload_n 2, 1) := by decide +kernel
theorem dL_room_3 : decode cL_room 3 = .ok (.invokevirtual 22, 3) := by decide +kernel
theorem dL_room_6 : decode cL_room 6 = .ok (.ireturn, 1) := by decide +kernel
theorem dL_room_7 : decode cL_room 7 = .ok (.astore_n 3, 1) := by decide +kernel
theorem dL_room_8 : decode cL_room 8 = .ok (.ldc 15, 2) := by decide +kernel
theorem dL_room_10 : decode cL_room 10 = .ok (.ireturn, 1) := by decide +kernel
theorem dL_tryAdd_0 : decode cL_tryAdd 0 = .ok (.aload_n 0, 1) := by decide +kernel
theorem dL_tryAdd_1 : decode cL_tryAdd 1 = .ok (.iload_n 1, 1) := by decide +kernel
theorem dL_tryAdd_2 : decode cL_tryAdd 2 = .ok (.iload_n 2, 1) := by decide +kernel
theorem dL_tryAdd_3 : decode cL_tryAdd 3 = .ok (.iload_n 3, 1) := by decide +kernel
theorem dL_tryAdd_4 : decode cL_tryAdd 4 = .ok (.invokevirtual 26, 3) := by decide +kernel
theorem dL_tryAdd_7 : decode cL_tryAdd 7 = .ok (.ireturn, 1) := by decide +kernel
theorem dL_tryAdd_8 : decode cL_tryAdd 8 = .ok (.astore 4, 2) := by decide +kernel
theorem dL_tryAdd_10 : decode cL_tryAdd 10 = .ok (.ldc 15, 2) := by decide +kernel
theorem dL_tryAdd_12 : decode cL_tryAdd 12 = .ok (.ireturn, 1) := by decide +kernel
theorem dL_tryAdd_13 : decode cL_tryAdd 13 = .ok (.astore 4, 2) := by decide +kernel
theorem dL_tryAdd_15 : decode cL_tryAdd 15 = .ok (.ldc 32, 2) := by decide +kernel
theorem dL_tryAdd_17 : decode cL_tryAdd 17 = .ok (.ireturn, 1) := by decide +kernel
theorem dL_tryAdd_18 : decode cL_tryAdd 18 = .ok (.astore 4, 2) := by decide +kernel
theorem dL_tryAdd_20 : decode cL_tryAdd 20 = .ok (.ldc 18, 2) := by decide +kernel
theorem dL_tryAdd_22 : decode cL_tryAdd 22 = .ok (.ireturn, 1) := by decide +kernel
theorem dL_tryDrop_0 : decode cL_tryDrop 0 = .ok (.aload_n 0, 1) := by decide +kernel
theorem dL_tryDrop_1 : decode cL_tryDrop 1 = .ok (.invokevirtual 33, 3) := by decide +kernel
theorem dL_tryDrop_4 : decode cL_tryDrop 4 = .ok (.ireturn, 1) := by decide +kernel
theorem dL_tryDrop_5 : decode cL_tryDrop 5 = .ok (.astore_n 1, 1) := by decide +kernel
theorem dL_tryDrop_6 : decode cL_tryDrop 6 = .ok (.ldc 18, 2) := by decide +kernel
theorem dL_tryDrop_8 : decode cL_tryDrop 8 = .ok (.ireturn, 1) := by decide +kernel
theorem dL_trySlide_0 : decode cL_trySlide 0 = .ok (.aload_n 0, 1) := by decide +kernel
theorem dL_trySlide_1 : decode cL_trySlide 1 = .ok (.iload_n 1, 1) := by decide +kernel
theorem dL_trySlide_2 : decode cL_trySlide 2 = .ok (.iload_n 2, 1) := by decide +kernel
theorem dL_trySlide_3 : decode cL_trySlide 3 = .ok (.invokevirtual 37, 3) := by decide +kernel
theorem dL_trySlide_6 : decode cL_trySlide 6 = .ok (.ireturn, 1) := by decide +kernel
theorem dL_trySlide_7 : decode cL_trySlide 7 = .ok (.astore_n 3, 1) := by decide +kernel
theorem dL_trySlide_8 : decode cL_trySlide 8 = .ok (.ldc 15, 2) := by decide +kernel
theorem dL_trySlide_10 : decode cL_trySlide 10 = .ok (.ireturn, 1) := by decide +kernel
theorem dL_trySlide_11 : decode cL_trySlide 11 = .ok (.astore_n 3, 1) := by decide +kernel
theorem dL_trySlide_12 : decode cL_trySlide 12 = .ok (.ldc 32, 2) := by decide +kernel
theorem dL_trySlide_14 : decode cL_trySlide 14 = .ok (.ireturn, 1) := by decide +kernel
theorem dL_trySlide_15 : decode cL_trySlide 15 = .ok (.astore_n 3, 1) := by decide +kernel
theorem dL_trySlide_16 : decode cL_trySlide 16 = .ok (.ldc 18, 2) := by decide +kernel
theorem dL_trySlide_18 : decode cL_trySlide 18 = .ok (.ireturn, 1) := by decide +kernel
theorem dL_tryTake_0 : decode cL_tryTake 0 = .ok (.aload_n 0, 1) := by decide +kernel
theorem dL_tryTake_1 : decode cL_tryTake 1 = .ok (.invokevirtual 41, 3) := by decide +kernel
theorem dL_tryTake_4 : decode cL_tryTake 4 = .ok (.ireturn, 1) := by decide +kernel
theorem dL_tryTake_5 : decode cL_tryTake 5 = .ok (.astore_n 1, 1) := by decide +kernel
theorem dL_tryTake_6 : decode cL_tryTake 6 = .ok (.ldc 18, 2) := by decide +kernel
theorem dL_tryTake_8 : decode cL_tryTake 8 = .ok (.ireturn, 1) := by decide +kernel
theorem dL_tryDrive_0 : decode cL_tryDrive 0 = .ok (.aload_n 0, 1) := by decide +kernel
theorem dL_tryDrive_1 : decode cL_tryDrive 1 = .ok (.invokevirtual 44, 3) := by decide +kernel
theorem dL_tryDrive_4 : decode cL_tryDrive 4 = .ok (.ireturn, 1) := by decide +kernel
theorem dL_tryDrive_5 : decode cL_tryDrive 5 = .ok (.astore_n 1, 1) := by decide +kernel
theorem dL_tryDrive_6 : decode cL_tryDrive 6 = .ok (.ldc 18, 2) := by decide +kernel
theorem dL_tryDrive_8 : decode cL_tryDrive 8 = .ok (.ireturn, 1) := by decide +kernel
theorem dL_tryAppend_0 : decode cL_tryAppend 0 = .ok (.aload_n 0, 1) := by decide +kernel
theorem dL_tryAppend_1 : decode cL_tryAppend 1 = .ok (.iload_n 1, 1) := by decide +kernel
theorem dL_tryAppend_2 : decode cL_tryAppend 2 = .ok (.invokevirtual 47, 3) := by decide +kernel
theorem dL_tryAppend_5 : decode cL_tryAppend 5 = .ok (.ireturn, 1) := by decide +kernel
theorem dL_tryAppend_6 : decode cL_tryAppend 6 = .ok (.astore_n 2, 1) := by decide +kernel
theorem dL_tryAppend_7 : decode cL_tryAppend 7 = .ok (.ldc 32, 2) := by decide +kernel
theorem dL_tryAppend_9 : decode cL_tryAppend 9 = .ok (.ireturn, 1) := by decide +kernel
theorem dL_tryAppend_10 : decode cL_tryAppend 10 = .ok (.astore_n 2, 1) := by decide +kernel
theorem dL_tryAppend_11 : decode cL_tryAppend 11 = .ok (.ldc 18, 2) := by decide +kernel
theorem dL_tryAppend_13 : decode cL_tryAppend 13 = .ok (.ireturn, 1) := by decide +kernel
theorem dL_tryWork_0 : decode cL_tryWork 0 = .ok (.aload_n 0, 1) := by decide +kernel
theorem dL_tryWork_1 : decode cL_tryWork 1 = .ok (.invokevirtual 51, 3) := by decide +kernel
theorem dL_tryWork_4 : decode cL_tryWork 4 = .ok (.ireturn, 1) := by decide +kernel
theorem dL_tryWork_5 : decode cL_tryWork 5 = .ok (.astore_n 1, 1) := by decide +kernel
theorem dL_tryWork_6 : decode cL_tryWork 6 = .ok (.ldc 32, 2) := by decide +kernel
theorem dL_tryWork_8 : decode cL_tryWork 8 = .ok (.ireturn, 1) := by decide +kernel
theorem dL_tryStop_0 : decode cL_tryStop 0 = .ok (.aload_n 0, 1) := by decide +kernel
theorem dL_tryStop_1 : decode cL_tryStop 1 = .ok (.invokevirtual 54, 3) := by decide +kernel
theorem dL_tryStop_4 : decode cL_tryStop 4 = .ok (.ireturn, 1) := by decide +kernel
theorem dL_tryStop_5 : decode cL_tryStop 5 = .ok (.astore_n 1, 1) := by decide +kernel
theorem dL_tryStop_6 : decode cL_tryStop 6 = .ok (.ldc 18, 2) := by decide +kernel
theorem dL_tryStop_8 : decode cL_tryStop 8 = .ok (.ireturn, 1) := by decide +kernel
theorem dL_tryUndo_0 : decode cL_tryUndo 0 = .ok (.aload_n 0, 1) := by decide +kernel
theorem dL_tryUndo_1 : decode cL_tryUndo 1 = .ok (.invokevirtual 57, 3) := by decide +kernel
theorem dL_tryUndo_4 : decode cL_tryUndo 4 = .ok (.ireturn, 1) := by decide +kernel
theorem dL_tryUndo_5 : decode cL_tryUndo 5 = .ok (.astore_n 1, 1) := by decide +kernel
theorem dL_tryUndo_6 : decode cL_tryUndo 6 = .ok (.ldc 18, 2) := by decide +kernel
theorem dL_tryUndo_8 : decode cL_tryUndo 8 = .ok (.ireturn, 1) := by decide +kernel
theorem dL_tryBack_0 : decode cL_tryBack 0 = .ok (.aload_n 0, 1) := by decide +kernel
theorem dL_tryBack_1 : decode cL_tryBack 1 = .ok (.invokevirtual 60, 3) := by decide +kernel
theorem dL_tryBack_4 : decode cL_tryBack 4 = .ok (.ireturn, 1) := by decide +kernel
theorem dL_tryBack_5 : decode cL_tryBack 5 = .ok (.astore_n 1, 1) := by decide +kernel
theorem dL_tryBack_6 : decode cL_tryBack 6 = .ok (.ldc 18, 2) := by decide +kernel
theorem dL_tryBack_8 : decode cL_tryBack 8 = .ok (.ireturn, 1) := by decide +kernel
theorem dL_tryLane_0 : decode cL_tryLane 0 = .ok (.aload_n 0, 1) := by decide +kernel
theorem dL_tryLane_1 : decode cL_tryLane 1 = .ok (.iload_n 1, 1) := by decide +kernel
theorem dL_tryLane_2 : decode cL_tryLane 2 = .ok (.invokevirtual 63, 3) := by decide +kernel
theorem dL_tryLane_5 : decode cL_tryLane 5 = .ok (.ireturn, 1) := by decide +kernel
theorem dL_tryLane_6 : decode cL_tryLane 6 = .ok (.astore_n 2, 1) := by decide +kernel
theorem dL_tryLane_7 : decode cL_tryLane 7 = .ok (.ldc 15, 2) := by decide +kernel
theorem dL_tryLane_9 : decode cL_tryLane 9 = .ok (.ireturn, 1) := by decide +kernel
theorem dL_tryPlace_0 : decode cL_tryPlace 0 = .ok (.aload_n 0, 1) := by decide +kernel
theorem dL_tryPlace_1 : decode cL_tryPlace 1 = .ok (.iload_n 1, 1) := by decide +kernel
theorem dL_tryPlace_2 : decode cL_tryPlace 2 = .ok (.invokevirtual 66, 3) := by decide +kernel
theorem dL_tryPlace_5 : decode cL_tryPlace 5 = .ok (.ireturn, 1) := by decide +kernel
theorem dL_tryPlace_6 : decode cL_tryPlace 6 = .ok (.astore_n 2, 1) := by decide +kernel
theorem dL_tryPlace_7 : decode cL_tryPlace 7 = .ok (.ldc 15, 2) := by decide +kernel
theorem dL_tryPlace_9 : decode cL_tryPlace 9 = .ok (.ireturn, 1) := by decide +kernel
theorem dL_tryLength_0 : decode cL_tryLength 0 = .ok (.aload_n 0, 1) := by decide +kernel
theorem dL_tryLength_1 : decode cL_tryLength 1 = .ok (.iload_n 1, 1) := by decide +kernel
theorem dL_tryLength_2 : decode cL_tryLength 2 = .ok (.invokevirtual 69, 3) := by decide +kernel
theorem dL_tryLength_5 : decode cL_tryLength 5 = .ok (.ireturn, 1) := by decide +kernel
theorem dL_tryLength_6 : decode cL_tryLength 6 = .ok (.astore_n 2, 1) := by decide +kernel
theorem dL_tryLength_7 : decode cL_tryLength 7 = .ok (.ldc 15, 2) := by decide +kernel
theorem dL_tryLength_9 : decode cL_tryLength 9 = .ok (.ireturn, 1) := by decide +kernel
theorem dL_tryOn_0 : decode cL_tryOn 0 = .ok (.aload_n 0, 1) := by decide +kernel
theorem dL_tryOn_1 : decode cL_tryOn 1 = .ok (.iload_n 1, 1) := by decide +kernel
theorem dL_tryOn_2 : decode cL_tryOn 2 = .ok (.invokevirtual 72, 3) := by decide +kernel
theorem dL_tryOn_5 : decode cL_tryOn 5 = .ok (.ireturn, 1) := by decide +kernel
theorem dL_tryOn_6 : decode cL_tryOn 6 = .ok (.astore_n 2, 1) := by decide +kernel
theorem dL_tryOn_7 : decode cL_tryOn 7 = .ok (.ldc 15, 2) := by decide +kernel
theorem dL_tryOn_9 : decode cL_tryOn 9 = .ok (.ireturn, 1) := by decide +kernel
theorem dL_tryLogCar_0 : decode cL_tryLogCar 0 = .ok (.aload_n 0, 1) := by decide +kernel
theorem dL_tryLogCar_1 : decode cL_tryLogCar 1 = .ok (.iload_n 1, 1) := by decide +kernel
theorem dL_tryLogCar_2 : decode cL_tryLogCar 2 = .ok (.invokevirtual 75, 3) := by decide +kernel
theorem dL_tryLogCar_5 : decode cL_tryLogCar 5 = .ok (.ireturn, 1) := by decide +kernel
theorem dL_tryLogCar_6 : decode cL_tryLogCar 6 = .ok (.astore_n 2, 1) := by decide +kernel
theorem dL_tryLogCar_7 : decode cL_tryLogCar 7 = .ok (.ldc 15, 2) := by decide +kernel
theorem dL_tryLogCar_9 : decode cL_tryLogCar 9 = .ok (.ireturn, 1) := by decide +kernel
theorem dL_tryLogBy_0 : decode cL_tryLogBy 0 = .ok (.aload_n 0, 1) := by decide +kernel
theorem dL_tryLogBy_1 : decode cL_tryLogBy 1 = .ok (.iload_n 1, 1) := by decide +kernel
theorem dL_tryLogBy_2 : decode cL_tryLogBy 2 = .ok (.invokevirtual 78, 3) := by decide +kernel
theorem dL_tryLogBy_5 : decode cL_tryLogBy 5 = .ok (.ireturn, 1) := by decide +kernel
theorem dL_tryLogBy_6 : decode cL_tryLogBy 6 = .ok (.astore_n 2, 1) := by decide +kernel
theorem dL_tryLogBy_7 : decode cL_tryLogBy 7 = .ok (.ldc 15, 2) := by decide +kernel
theorem dL_tryLogBy_9 : decode cL_tryLogBy 9 = .ok (.ireturn, 1) := by decide +kernel
theorem dL_trySteps_0 : decode cL_trySteps 0 = .ok (.aload_n 0, 1) := by decide +kernel
theorem dL_trySteps_1 : decode cL_trySteps 1 = .ok (.iload_n 1, 1) := by decide +kernel
theorem dL_trySteps_2 : decode cL_trySteps 2 = .ok (.invokevirtual 81, 3) := by decide +kernel
theorem dL_trySteps_5 : decode cL_trySteps 5 = .ok (.ireturn, 1) := by decide +kernel
theorem dL_trySteps_6 : decode cL_trySteps 6 = .ok (.astore_n 2, 1) := by decide +kernel
theorem dL_trySteps_7 : decode cL_trySteps 7 = .ok (.ldc 15, 2) := by decide +kernel
theorem dL_trySteps_9 : decode cL_trySteps 9 = .ok (.ireturn, 1) := by decide +kernel
theorem dL_tryNext_0 : decode cL_tryNext 0 = .ok (.aload_n 0, 1) := by decide +kernel
theorem dL_tryNext_1 : decode cL_tryNext 1 = .ok (.invokevirtual 84, 3) := by decide +kernel
theorem dL_tryNext_4 : decode cL_tryNext 4 = .ok (.ireturn, 1) := by decide +kernel
theorem dL_tryNext_5 : decode cL_tryNext 5 = .ok (.astore_n 1, 1) := by decide +kernel
theorem dL_tryNext_6 : decode cL_tryNext 6 = .ok (.ldc 18, 2) := by decide +kernel
theorem dL_tryNext_8 : decode cL_tryNext 8 = .ok (.ireturn, 1) := by decide +kernel
theorem dL_tryChange_0 : decode cL_tryChange 0 = .ok (.aload_n 0, 1) := by decide +kernel
theorem dL_tryChange_1 : decode cL_tryChange 1 = .ok (.invokevirtual 87, 3) := by decide +kernel
theorem dL_tryChange_4 : decode cL_tryChange 4 = .ok (.ireturn, 1) := by decide +kernel
theorem dL_tryChange_5 : decode cL_tryChange 5 = .ok (.astore_n 1, 1) := by decide +kernel
theorem dL_tryChange_6 : decode cL_tryChange 6 = .ok (.ldc 18, 2) := by decide +kernel
theorem dL_tryChange_8 : decode cL_tryChange 8 = .ok (.ireturn, 1) := by decide +kernel
theorem dL_tryBehind_0 : decode cL_tryBehind 0 = .ok (.aload_n 0, 1) := by decide +kernel
theorem dL_tryBehind_1 : decode cL_tryBehind 1 = .ok (.iload_n 1, 1) := by decide +kernel
theorem dL_tryBehind_2 : decode cL_tryBehind 2 = .ok (.iload_n 2, 1) := by decide +kernel
theorem dL_tryBehind_3 : decode cL_tryBehind 3 = .ok (.invokevirtual 90, 3) := by decide +kernel
theorem dL_tryBehind_6 : decode cL_tryBehind 6 = .ok (.ireturn, 1) := by decide +kernel
theorem dL_tryBehind_7 : decode cL_tryBehind 7 = .ok (.astore_n 3, 1) := by decide +kernel
theorem dL_tryBehind_8 : decode cL_tryBehind 8 = .ok (.ldc 15, 2) := by decide +kernel
theorem dL_tryBehind_10 : decode cL_tryBehind 10 = .ok (.ireturn, 1) := by decide +kernel
theorem dL_tryBehind_11 : decode cL_tryBehind 11 = .ok (.astore_n 3, 1) := by decide +kernel
theorem dL_tryBehind_12 : decode cL_tryBehind 12 = .ok (.ldc 32, 2) := by decide +kernel
theorem dL_tryBehind_14 : decode cL_tryBehind 14 = .ok (.ireturn, 1) := by decide +kernel
theorem dL_tryBehind_15 : decode cL_tryBehind 15 = .ok (.astore_n 3, 1) := by decide +kernel
theorem dL_tryBehind_16 : decode cL_tryBehind 16 = .ok (.ldc 18, 2) := by decide +kernel
theorem dL_tryBehind_18 : decode cL_tryBehind 18 = .ok (.ireturn, 1) := by decide +kernel
theorem dL_tryWithout_0 : decode cL_tryWithout 0 = .ok (.aload_n 0, 1) := by decide +kernel
theorem dL_tryWithout_1 : decode cL_tryWithout 1 = .ok (.invokevirtual 93, 3) := by decide +kernel
theorem dL_tryWithout_4 : decode cL_tryWithout 4 = .ok (.ireturn, 1) := by decide +kernel
theorem dL_tryWithout_5 : decode cL_tryWithout 5 = .ok (.astore_n 1, 1) := by decide +kernel
theorem dL_tryWithout_6 : decode cL_tryWithout 6 = .ok (.ldc 18, 2) := by decide +kernel
theorem dL_tryWithout_8 : decode cL_tryWithout 8 = .ok (.ireturn, 1) := by decide +kernel
theorem dL_tryWithWall_0 : decode cL_tryWithWall 0 = .ok (.aload_n 0, 1) := by decide +kernel
theorem dL_tryWithWall_1 : decode cL_tryWithWall 1 = .ok (.iload_n 1, 1) := by decide +kernel
theorem dL_tryWithWall_2 : decode cL_tryWithWall 2 = .ok (.invokevirtual 96, 3) := by decide +kernel
theorem dL_tryWithWall_5 : decode cL_tryWithWall 5 = .ok (.ireturn, 1) := by decide +kernel
theorem dL_tryWithWall_6 : decode cL_tryWithWall 6 = .ok (.astore_n 2, 1) := by decide +kernel
theorem dL_tryWithWall_7 : decode cL_tryWithWall 7 = .ok (.ldc 15, 2) := by decide +kernel
theorem dL_tryWithWall_9 : decode cL_tryWithWall 9 = .ok (.ireturn, 1) := by decide +kernel
theorem dL_tryWithWall_10 : decode cL_tryWithWall 10 = .ok (.astore_n 2, 1) := by decide +kernel
theorem dL_tryWithWall_11 : decode cL_tryWithWall 11 = .ok (.ldc 18, 2) := by decide +kernel
theorem dL_tryWithWall_13 : decode cL_tryWithWall 13 = .ok (.ireturn, 1) := by decide +kernel
theorem dL_call_0 : decode cL_call 0 = .ok (.iload_n 1, 1) := by decide +kernel
theorem dL_call_1 : decode cL_call 1 = .ok (.tableswitch 220 0 20 #[99, 108, 113, 120, 125, 130, 136, 141, 146, 151, 156, 162, 168, 174, 180, 186, 192, 198, 203, 208, 215], 99) := by decide +kernel
theorem dL_call_100 : decode cL_call 100 = .ok (.aload_n 0, 1) := by decide +kernel
theorem dL_call_101 : decode cL_call 101 = .ok (.iload_n 2, 1) := by decide +kernel
theorem dL_call_102 : decode cL_call 102 = .ok (.iload_n 3, 1) := by decide +kernel
theorem dL_call_103 : decode cL_call 103 = .ok (.iload 4, 2) := by decide +kernel
theorem dL_call_105 : decode cL_call 105 = .ok (.invokestatic 99, 3) := by decide +kernel
theorem dL_call_108 : decode cL_call 108 = .ok (.ireturn, 1) := by decide +kernel
theorem dL_call_109 : decode cL_call 109 = .ok (.aload_n 0, 1) := by decide +kernel
theorem dL_call_110 : decode cL_call 110 = .ok (.invokestatic 105, 3) := by decide +kernel
theorem dL_call_113 : decode cL_call 113 = .ok (.ireturn, 1) := by decide +kernel
theorem dL_call_114 : decode cL_call 114 = .ok (.aload_n 0, 1) := by decide +kernel
theorem dL_call_115 : decode cL_call 115 = .ok (.iload_n 2, 1) := by decide +kernel
theorem dL_call_116 : decode cL_call 116 = .ok (.iload_n 3, 1) := by decide +kernel
theorem dL_call_117 : decode cL_call 117 = .ok (.invokestatic 109, 3) := by decide +kernel
theorem dL_call_120 : decode cL_call 120 = .ok (.ireturn, 1) := by decide +kernel
theorem dL_call_121 : decode cL_call 121 = .ok (.aload_n 0, 1) := by decide +kernel
theorem dL_call_122 : decode cL_call 122 = .ok (.invokestatic 113, 3) := by decide +kernel
theorem dL_call_125 : decode cL_call 125 = .ok (.ireturn, 1) := by decide +kernel
theorem dL_call_126 : decode cL_call 126 = .ok (.aload_n 0, 1) := by decide +kernel
theorem dL_call_127 : decode cL_call 127 = .ok (.invokestatic 116, 3) := by decide +kernel
theorem dL_call_130 : decode cL_call 130 = .ok (.ireturn, 1) := by decide +kernel
theorem dL_call_131 : decode cL_call 131 = .ok (.aload_n 0, 1) := by decide +kernel
theorem dL_call_132 : decode cL_call 132 = .ok (.iload_n 2, 1) := by decide +kernel
theorem dL_call_133 : decode cL_call 133 = .ok (.invokestatic 119, 3) := by decide +kernel
theorem dL_call_136 : decode cL_call 136 = .ok (.ireturn, 1) := by decide +kernel
theorem dL_call_137 : decode cL_call 137 = .ok (.aload_n 0, 1) := by decide +kernel
theorem dL_call_138 : decode cL_call 138 = .ok (.invokestatic 123, 3) := by decide +kernel
theorem dL_call_141 : decode cL_call 141 = .ok (.ireturn, 1) := by decide +kernel
theorem dL_call_142 : decode cL_call 142 = .ok (.aload_n 0, 1) := by decide +kernel
theorem dL_call_143 : decode cL_call 143 = .ok (.invokestatic 126, 3) := by decide +kernel
theorem dL_call_146 : decode cL_call 146 = .ok (.ireturn, 1) := by decide +kernel
theorem dL_call_147 : decode cL_call 147 = .ok (.aload_n 0, 1) := by decide +kernel
theorem dL_call_148 : decode cL_call 148 = .ok (.invokestatic 129, 3) := by decide +kernel
theorem dL_call_151 : decode cL_call 151 = .ok (.ireturn, 1) := by decide +kernel
theorem dL_call_152 : decode cL_call 152 = .ok (.aload_n 0, 1) := by decide +kernel
theorem dL_call_153 : decode cL_call 153 = .ok (.invokestatic 132, 3) := by decide +kernel
theorem dL_call_156 : decode cL_call 156 = .ok (.ireturn, 1) := by decide +kernel
theorem dL_call_157 : decode cL_call 157 = .ok (.aload_n 0, 1) := by decide +kernel
theorem dL_call_158 : decode cL_call 158 = .ok (.iload_n 2, 1) := by decide +kernel
theorem dL_call_159 : decode cL_call 159 = .ok (.invokestatic 135, 3) := by decide +kernel
theorem dL_call_162 : decode cL_call 162 = .ok (.ireturn, 1) := by decide +kernel
theorem dL_call_163 : decode cL_call 163 = .ok (.aload_n 0, 1) := by decide +kernel
theorem dL_call_164 : decode cL_call 164 = .ok (.iload_n 2, 1) := by decide +kernel
theorem dL_call_165 : decode cL_call 165 = .ok (.invokestatic 138, 3) := by decide +kernel
theorem dL_call_168 : decode cL_call 168 = .ok (.ireturn, 1) := by decide +kernel
theorem dL_call_169 : decode cL_call 169 = .ok (.aload_n 0, 1) := by decide +kernel
theorem dL_call_170 : decode cL_call 170 = .ok (.iload_n 2, 1) := by decide +kernel
theorem dL_call_171 : decode cL_call 171 = .ok (.invokestatic 141, 3) := by decide +kernel
theorem dL_call_174 : decode cL_call 174 = .ok (.ireturn, 1) := by decide +kernel
theorem dL_call_175 : decode cL_call 175 = .ok (.aload_n 0, 1) := by decide +kernel
theorem dL_call_176 : decode cL_call 176 = .ok (.iload_n 2, 1) := by decide +kernel
theorem dL_call_177 : decode cL_call 177 = .ok (.invokestatic 144, 3) := by decide +kernel
theorem dL_call_180 : decode cL_call 180 = .ok (.ireturn, 1) := by decide +kernel
theorem dL_call_181 : decode cL_call 181 = .ok (.aload_n 0, 1) := by decide +kernel
theorem dL_call_182 : decode cL_call 182 = .ok (.iload_n 2, 1) := by decide +kernel
theorem dL_call_183 : decode cL_call 183 = .ok (.invokestatic 147, 3) := by decide +kernel
theorem dL_call_186 : decode cL_call 186 = .ok (.ireturn, 1) := by decide +kernel
theorem dL_call_187 : decode cL_call 187 = .ok (.aload_n 0, 1) := by decide +kernel
theorem dL_call_188 : decode cL_call 188 = .ok (.iload_n 2, 1) := by decide +kernel
theorem dL_call_189 : decode cL_call 189 = .ok (.invokestatic 150, 3) := by decide +kernel
theorem dL_call_192 : decode cL_call 192 = .ok (.ireturn, 1) := by decide +kernel
theorem dL_call_193 : decode cL_call 193 = .ok (.aload_n 0, 1) := by decide +kernel
theorem dL_call_194 : decode cL_call 194 = .ok (.iload_n 2, 1) := by decide +kernel
theorem dL_call_195 : decode cL_call 195 = .ok (.invokestatic 153, 3) := by decide +kernel
theorem dL_call_198 : decode cL_call 198 = .ok (.ireturn, 1) := by decide +kernel
theorem dL_call_199 : decode cL_call 199 = .ok (.aload_n 0, 1) := by decide +kernel
theorem dL_call_200 : decode cL_call 200 = .ok (.invokestatic 156, 3) := by decide +kernel
theorem dL_call_203 : decode cL_call 203 = .ok (.ireturn, 1) := by decide +kernel
theorem dL_call_204 : decode cL_call 204 = .ok (.aload_n 0, 1) := by decide +kernel
theorem dL_call_205 : decode cL_call 205 = .ok (.invokestatic 159, 3) := by decide +kernel
theorem dL_call_208 : decode cL_call 208 = .ok (.ireturn, 1) := by decide +kernel
theorem dL_call_209 : decode cL_call 209 = .ok (.aload_n 0, 1) := by decide +kernel
theorem dL_call_210 : decode cL_call 210 = .ok (.iload_n 2, 1) := by decide +kernel
theorem dL_call_211 : decode cL_call 211 = .ok (.iload_n 3, 1) := by decide +kernel
theorem dL_call_212 : decode cL_call 212 = .ok (.invokestatic 162, 3) := by decide +kernel
theorem dL_call_215 : decode cL_call 215 = .ok (.ireturn, 1) := by decide +kernel
theorem dL_call_216 : decode cL_call 216 = .ok (.aload_n 0, 1) := by decide +kernel
theorem dL_call_217 : decode cL_call 217 = .ok (.invokestatic 165, 3) := by decide +kernel
theorem dL_call_220 : decode cL_call 220 = .ok (.ireturn, 1) := by decide +kernel
theorem dL_call_221 : decode cL_call 221 = .ok (.aload_n 0, 1) := by decide +kernel
theorem dL_call_222 : decode cL_call 222 = .ok (.iload_n 2, 1) := by decide +kernel
theorem dL_call_223 : decode cL_call 223 = .ok (.invokestatic 168, 3) := by decide +kernel
theorem dL_call_226 : decode cL_call 226 = .ok (.ireturn, 1) := by decide +kernel
theorem dL_cell_0 : decode cL_cell 0 = .ok (.iload_n 1, 1) := by decide +kernel
theorem dL_cell_1 : decode cL_cell 1 = .ok (.aload_n 0, 1) := by decide +kernel
theorem dL_cell_2 : decode cL_cell 2 = .ok (.arraylength, 1) := by decide +kernel
theorem dL_cell_3 : decode cL_cell 3 = .ok (.if_icmp .ge 9, 3) := by decide +kernel
theorem dL_cell_6 : decode cL_cell 6 = .ok (.aload_n 0, 1) := by decide +kernel
theorem dL_cell_7 : decode cL_cell 7 = .ok (.iload_n 1, 1) := by decide +kernel
theorem dL_cell_8 : decode cL_cell 8 = .ok (.iaload, 1) := by decide +kernel
theorem dL_cell_9 : decode cL_cell 9 = .ok (.goto 13, 3) := by decide +kernel
theorem dL_cell_12 : decode cL_cell 12 = .ok (.ldc 171, 2) := by decide +kernel
theorem dL_cell_14 : decode cL_cell 14 = .ok (.iload_n 1, 1) := by decide +kernel
theorem dL_cell_15 : decode cL_cell 15 = .ok (.iconst 3, 1) := by decide +kernel
theorem dL_cell_16 : decode cL_cell 16 = .ok (.iadd, 1) := by decide +kernel
theorem dL_cell_17 : decode cL_cell 17 = .ok (.imul, 1) := by decide +kernel
theorem dL_cell_18 : decode cL_cell 18 = .ok (.sipush 12653, 3) := by decide +kernel
theorem dL_cell_21 : decode cL_cell 21 = .ok (.iadd, 1) := by decide +kernel
theorem dL_cell_22 : decode cL_cell 22 = .ok (.ldc 172, 2) := by decide +kernel
theorem dL_cell_24 : decode cL_cell 24 = .ok (.iand, 1) := by decide +kernel
theorem dL_cell_25 : decode cL_cell 25 = .ok (.ireturn, 1) := by decide +kernel
theorem dL_thrown_0 : decode cL_thrown 0 = .ok (.iload_n 0, 1) := by decide +kernel
theorem dL_thrown_1 : decode cL_thrown 1 = .ok (.ldc 15, 2) := by decide +kernel
theorem dL_thrown_3 : decode cL_thrown 3 = .ok (.if_icmp .eq 15, 3) := by decide +kernel
theorem dL_thrown_6 : decode cL_thrown 6 = .ok (.iload_n 0, 1) := by decide +kernel
theorem dL_thrown_7 : decode cL_thrown 7 = .ok (.ldc 32, 2) := by decide +kernel
theorem dL_thrown_9 : decode cL_thrown 9 = .ok (.if_icmp .eq 9, 3) := by decide +kernel
theorem dL_thrown_12 : decode cL_thrown 12 = .ok (.iload_n 0, 1) := by decide +kernel
theorem dL_thrown_13 : decode cL_thrown 13 = .ok (.ldc 18, 2) := by decide +kernel
theorem dL_thrown_15 : decode cL_thrown 15 = .ok (.if_icmp .ne 7, 3) := by decide +kernel
theorem dL_thrown_18 : decode cL_thrown 18 = .ok (.iconst 1, 1) := by decide +kernel
theorem dL_thrown_19 : decode cL_thrown 19 = .ok (.goto 4, 3) := by decide +kernel
theorem dL_thrown_22 : decode cL_thrown 22 = .ok (.iconst 0, 1) := by decide +kernel
theorem dL_thrown_23 : decode cL_thrown 23 = .ok (.ireturn, 1) := by decide +kernel
theorem dL_refuses_0 : decode cL_refuses 0 = .ok (.iload_n 1, 1) := by decide +kernel
theorem dL_refuses_1 : decode cL_refuses 1 = .ok (.iconst 2, 1) := by decide +kernel
theorem dL_refuses_2 : decode cL_refuses 2 = .ok (.irem, 1) := by decide +kernel
theorem dL_refuses_3 : decode cL_refuses 3 = .ok (.ifCond .ne 12, 3) := by decide +kernel
theorem dL_refuses_6 : decode cL_refuses 6 = .ok (.iconst (-1), 1) := by decide +kernel
theorem dL_refuses_7 : decode cL_refuses 7 = .ok (.iload_n 1, 1) := by decide +kernel
theorem dL_refuses_8 : decode cL_refuses 8 = .ok (.bipush 99, 2) := by decide +kernel
theorem dL_refuses_10 : decode cL_refuses 10 = .ok (.irem, 1) := by decide +kernel
theorem dL_refuses_11 : decode cL_refuses 11 = .ok (.isub, 1) := by decide +kernel
theorem dL_refuses_12 : decode cL_refuses 12 = .ok (.goto 12, 3) := by decide +kernel
theorem dL_refuses_15 : decode cL_refuses 15 = .ok (.aload_n 0, 1) := by decide +kernel
theorem dL_refuses_16 : decode cL_refuses 16 = .ok (.invokevirtual 173, 3) := by decide +kernel
theorem dL_refuses_19 : decode cL_refuses 19 = .ok (.iload_n 1, 1) := by decide +kernel
theorem dL_refuses_20 : decode cL_refuses 20 = .ok (.bipush 9, 2) := by decide +kernel
theorem dL_refuses_22 : decode cL_refuses 22 = .ok (.irem, 1) := by decide +kernel
theorem dL_refuses_23 : decode cL_refuses 23 = .ok (.iadd, 1) := by decide +kernel
theorem dL_refuses_24 : decode cL_refuses 24 = .ok (.istore_n 2, 1) := by decide +kernel
theorem dL_refuses_25 : decode cL_refuses 25 = .ok (.iload_n 1, 1) := by decide +kernel
theorem dL_refuses_26 : decode cL_refuses 26 = .ok (.iconst 2, 1) := by decide +kernel
theorem dL_refuses_27 : decode cL_refuses 27 = .ok (.irem, 1) := by decide +kernel
theorem dL_refuses_28 : decode cL_refuses 28 = .ok (.ifCond .ne 12, 3) := by decide +kernel
theorem dL_refuses_31 : decode cL_refuses 31 = .ok (.iconst (-1), 1) := by decide +kernel
theorem dL_refuses_32 : decode cL_refuses 32 = .ok (.iload_n 1, 1) := by decide +kernel
theorem dL_refuses_33 : decode cL_refuses 33 = .ok (.bipush 99, 2) := by decide +kernel
theorem dL_refuses_35 : decode cL_refuses 35 = .ok (.irem, 1) := by decide +kernel
theorem dL_refuses_36 : decode cL_refuses 36 = .ok (.isub, 1) := by decide +kernel
theorem dL_refuses_37 : decode cL_refuses 37 = .ok (.goto 10, 3) := by decide +kernel
theorem dL_refuses_40 : decode cL_refuses 40 = .ok (.bipush 25, 2) := by decide +kernel
theorem dL_refuses_42 : decode cL_refuses 42 = .ok (.iload_n 1, 1) := by decide +kernel
theorem dL_refuses_43 : decode cL_refuses 43 = .ok (.bipush 99, 2) := by decide +kernel
theorem dL_refuses_45 : decode cL_refuses 45 = .ok (.irem, 1) := by decide +kernel
theorem dL_refuses_46 : decode cL_refuses 46 = .ok (.iadd, 1) := by decide +kernel
theorem dL_refuses_47 : decode cL_refuses 47 = .ok (.istore_n 3, 1) := by decide +kernel
theorem dL_refuses_48 : decode cL_refuses 48 = .ok (.iload_n 1, 1) := by decide +kernel
theorem dL_refuses_49 : decode cL_refuses 49 = .ok (.bipush 10, 2) := by decide +kernel
theorem dL_refuses_51 : decode cL_refuses 51 = .ok (.irem, 1) := by decide +kernel
theorem dL_refuses_52 : decode cL_refuses 52 = .ok (.istore 4, 2) := by decide +kernel
theorem dL_refuses_54 : decode cL_refuses 54 = .ok (.aload_n 0, 1) := by decide +kernel
theorem dL_refuses_55 : decode cL_refuses 55 = .ok (.iconst 0, 1) := by decide +kernel
theorem dL_refuses_56 : decode cL_refuses 56 = .ok (.iload_n 1, 1) := by decide +kernel
theorem dL_refuses_57 : decode cL_refuses 57 = .ok (.iconst 2, 1) := by decide +kernel
theorem dL_refuses_58 : decode cL_refuses 58 = .ok (.irem, 1) := by decide +kernel
theorem dL_refuses_59 : decode cL_refuses 59 = .ok (.ifCond .ne 12, 3) := by decide +kernel
theorem dL_refuses_62 : decode cL_refuses 62 = .ok (.iconst (-1), 1) := by decide +kernel
theorem dL_refuses_63 : decode cL_refuses 63 = .ok (.iload_n 1, 1) := by decide +kernel
theorem dL_refuses_64 : decode cL_refuses 64 = .ok (.bipush 9, 2) := by decide +kernel
theorem dL_refuses_66 : decode cL_refuses 66 = .ok (.irem, 1) := by decide +kernel
theorem dL_refuses_67 : decode cL_refuses 67 = .ok (.isub, 1) := by decide +kernel
theorem dL_refuses_68 : decode cL_refuses 68 = .ok (.goto 10, 3) := by decide +kernel
theorem dL_refuses_71 : decode cL_refuses 71 = .ok (.bipush 10, 2) := by decide +kernel
theorem dL_refuses_73 : decode cL_refuses 73 = .ok (.iload_n 1, 1) := by decide +kernel
theorem dL_refuses_74 : decode cL_refuses 74 = .ok (.bipush 9, 2) := by decide +kernel
theorem dL_refuses_76 : decode cL_refuses 76 = .ok (.irem, 1) := by decide +kernel
theorem dL_refuses_77 : decode cL_refuses 77 = .ok (.iadd, 1) := by decide +kernel
theorem dL_refuses_78 : decode cL_refuses 78 = .ok (.bipush 9, 2) := by decide +kernel
theorem dL_refuses_80 : decode cL_refuses 80 = .ok (.bipush 9, 2) := by decide +kernel
theorem dL_refuses_82 : decode cL_refuses 82 = .ok (.invokestatic 176, 3) := by decide +kernel
theorem dL_refuses_85 : decode cL_refuses 85 = .ok (.ldc 15, 2) := by decide +kernel
theorem dL_refuses_87 : decode cL_refuses 87 = .ok (.if_icmp .ne 323, 3) := by decide +kernel
theorem dL_refuses_90 : decode cL_refuses 90 = .ok (.aload_n 0, 1) := by decide +kernel
theorem dL_refuses_91 : decode cL_refuses 91 = .ok (.iconst 0, 1) := by decide +kernel
theorem dL_refuses_92 : decode cL_refuses 92 = .ok (.iload 4, 2) := by decide +kernel
theorem dL_refuses_94 : decode cL_refuses 94 = .ok (.iconst 0, 1) := by decide +kernel
theorem dL_refuses_95 : decode cL_refuses 95 = .ok (.iload_n 1, 1) := by decide +kernel
theorem dL_refuses_96 : decode cL_refuses 96 = .ok (.iconst 2, 1) := by decide +kernel
theorem dL_refuses_97 : decode cL_refuses 97 = .ok (.irem, 1) := by decide +kernel
theorem dL_refuses_98 : decode cL_refuses 98 = .ok (.ifCond .ne 7, 3) := by decide +kernel
theorem dL_refuses_101 : decode cL_refuses 101 = .ok (.iconst 1, 1) := by decide +kernel
theorem dL_refuses_102 : decode cL_refuses 102 = .ok (.goto 4, 3) := by decide +kernel
theorem dL_refuses_105 : decode cL_refuses 105 = .ok (.iconst 4, 1) := by decide +kernel
theorem dL_refuses_106 : decode cL_refuses 106 = .ok (.invokestatic 176, 3) := by decide +kernel
theorem dL_refuses_109 : decode cL_refuses 109 = .ok (.ldc 32, 2) := by decide +kernel
theorem dL_refuses_111 : decode cL_refuses 111 = .ok (.if_icmp .ne 299, 3) := by decide +kernel
theorem dL_refuses_114 : decode cL_refuses 114 = .ok (.aload_n 0, 1) := by decide +kernel
theorem dL_refuses_115 : decode cL_refuses 115 = .ok (.iconst 0, 1) := by decide +kernel
theorem dL_refuses_116 : decode cL_refuses 116 = .ok (.iload 4, 2) := by decide +kernel
theorem dL_refuses_118 : decode cL_refuses 118 = .ok (.iconst (-1), 1) := by decide +kernel
theorem dL_refuses_119 : decode cL_refuses 119 = .ok (.iload_n 1, 1) := by decide +kernel
theorem dL_refuses_120 : decode cL_refuses 120 = .ok (.bipush 9, 2) := by decide +kernel
theorem dL_refuses_122 : decode cL_refuses 122 = .ok (.irem, 1) := by decide +kernel
theorem dL_refuses_123 : decode cL_refuses 123 = .ok (.isub, 1) := by decide +kernel
theorem dL_refuses_124 : decode cL_refuses 124 = .ok (.iconst 2, 1) := by decide +kernel
theorem dL_refuses_125 : decode cL_refuses 125 = .ok (.invokestatic 176, 3) := by decide +kernel
theorem dL_refuses_128 : decode cL_refuses 128 = .ok (.ldc 32, 2) := by decide +kernel
theorem dL_refuses_130 : decode cL_refuses 130 = .ok (.if_icmp .ne 280, 3) := by decide +kernel
theorem dL_refuses_133 : decode cL_refuses 133 = .ok (.aload_n 0, 1) := by decide +kernel
theorem dL_refuses_134 : decode cL_refuses 134 = .ok (.iconst 0, 1) := by decide +kernel
theorem dL_refuses_135 : decode cL_refuses 135 = .ok (.iload 4, 2) := by decide +kernel
theorem dL_refuses_137 : decode cL_refuses 137 = .ok (.iconst 3, 1) := by decide +kernel
theorem dL_refuses_138 : decode cL_refuses 138 = .ok (.iload_n 1, 1) := by decide +kernel
theorem dL_refuses_139 : decode cL_refuses 139 = .ok (.bipush 9, 2) := by decide +kernel
theorem dL_refuses_141 : decode cL_refuses 141 = .ok (.irem, 1) := by decide +kernel
theorem dL_refuses_142 : decode cL_refuses 142 = .ok (.iadd, 1) := by decide +kernel
theorem dL_refuses_143 : decode cL_refuses 143 = .ok (.iconst 3, 1) := by decide +kernel
theorem dL_refuses_144 : decode cL_refuses 144 = .ok (.invokestatic 176, 3) := by decide +kernel
theorem dL_refuses_147 : decode cL_refuses 147 = .ok (.ldc 32, 2) := by decide +kernel
theorem dL_refuses_149 : decode cL_refuses 149 = .ok (.if_icmp .ne 261, 3) := by decide +kernel
theorem dL_refuses_152 : decode cL_refuses 152 = .ok (.aload_n 0, 1) := by decide +kernel
theorem dL_refuses_153 : decode cL_refuses 153 = .ok (.iload_n 3, 1) := by decide +kernel
theorem dL_refuses_154 : decode cL_refuses 154 = .ok (.invokestatic 180, 3) := by decide +kernel
theorem dL_refuses_157 : decode cL_refuses 157 = .ok (.ldc 15, 2) := by decide +kernel
theorem dL_refuses_159 : decode cL_refuses 159 = .ok (.if_icmp .ne 251, 3) := by decide +kernel
theorem dL_refuses_162 : decode cL_refuses 162 = .ok (.aload_n 0, 1) := by decide +kernel
theorem dL_refuses_163 : decode cL_refuses 163 = .ok (.iconst 2, 1) := by decide +kernel
theorem dL_refuses_164 : decode cL_refuses 164 = .ok (.iload_n 2, 1) := by decide +kernel
theorem dL_refuses_165 : decode cL_refuses 165 = .ok (.iconst 0, 1) := by decide +kernel
theorem dL_refuses_166 : decode cL_refuses 166 = .ok (.iconst 0, 1) := by decide +kernel
theorem dL_refuses_167 : decode cL_refuses 167 = .ok (.invokestatic 176, 3) := by decide +kernel
theorem dL_refuses_170 : decode cL_refuses 170 = .ok (.ldc 15, 2) := by decide +kernel
theorem dL_refuses_172 : decode cL_refuses 172 = .ok (.if_icmp .ne 238, 3) := by decide +kernel
theorem dL_refuses_175 : decode cL_refuses 175 = .ok (.aload_n 0, 1) := by decide +kernel
theorem dL_refuses_176 : decode cL_refuses 176 = .ok (.bipush 6, 2) := by decide +kernel
theorem dL_refuses_178 : decode cL_refuses 178 = .ok (.iconst 0, 1) := by decide +kernel
theorem dL_refuses_179 : decode cL_refuses 179 = .ok (.iconst 0, 1) := by decide +kernel
theorem dL_refuses_180 : decode cL_refuses 180 = .ok (.iconst 0, 1) := by decide +kernel
theorem dL_refuses_181 : decode cL_refuses 181 = .ok (.invokestatic 176, 3) := by decide +kernel
theorem dL_refuses_184 : decode cL_refuses 184 = .ok (.ldc 32, 2) := by decide +kernel
theorem dL_refuses_186 : decode cL_refuses 186 = .ok (.if_icmp .ne 224, 3) := by decide +kernel
theorem dL_refuses_189 : decode cL_refuses 189 = .ok (.aload_n 0, 1) := by decide +kernel
theorem dL_refuses_190 : decode cL_refuses 190 = .ok (.bipush 7, 2) := by decide +kernel
theorem dL_refuses_192 : decode cL_refuses 192 = .ok (.iconst 0, 1) := by decide +kernel
theorem dL_refuses_193 : decode cL_refuses 193 = .ok (.iconst 0, 1) := by decide +kernel
theorem dL_refuses_194 : decode cL_refuses 194 = .ok (.iconst 0, 1) := by decide +kernel
theorem dL_refuses_195 : decode cL_refuses 195 = .ok (.invokestatic 176, 3) := by decide +kernel
theorem dL_refuses_198 : decode cL_refuses 198 = .ok (.ldc 18, 2) := by decide +kernel
theorem dL_refuses_200 : decode cL_refuses 200 = .ok (.if_icmp .ne 210, 3) := by decide +kernel
theorem dL_refuses_203 : decode cL_refuses 203 = .ok (.aload_n 0, 1) := by decide +kernel
theorem dL_refuses_204 : decode cL_refuses 204 = .ok (.iconst 5, 1) := by decide +kernel
theorem dL_refuses_205 : decode cL_refuses 205 = .ok (.iload_n 1, 1) := by decide +kernel
theorem dL_refuses_206 : decode cL_refuses 206 = .ok (.iconst 2, 1) := by decide +kernel
theorem dL_refuses_207 : decode cL_refuses 207 = .ok (.irem, 1) := by decide +kernel
theorem dL_refuses_208 : decode cL_refuses 208 = .ok (.ifCond .ne 8, 3) := by decide +kernel
theorem dL_refuses_211 : decode cL_refuses 211 = .ok (.bipush 32, 2) := by decide +kernel
theorem dL_refuses_213 : decode cL_refuses 213 = .ok (.goto 5, 3) := by decide +kernel
theorem dL_refuses_216 : decode cL_refuses 216 = .ok (.bipush 127, 2) := by decide +kernel
theorem dL_refuses_218 : decode cL_refuses 218 = .ok (.iconst 0, 1) := by decide +kernel
theorem dL_refuses_219 : decode cL_refuses 219 = .ok (.iconst 0, 1) := by decide +kernel
theorem dL_refuses_220 : decode cL_refuses 220 = .ok (.invokestatic 176, 3) := by decide +kernel
theorem dL_refuses_223 : decode cL_refuses 223 = .ok (.ldc 32, 2) := by decide +kernel
theorem dL_refuses_225 : decode cL_refuses 225 = .ok (.if_icmp .ne 185, 3) := by decide +kernel
theorem dL_refuses_228 : decode cL_refuses 228 = .ok (.aload_n 0, 1) := by decide +kernel
theorem dL_refuses_229 : decode cL_refuses 229 = .ok (.bipush 10, 2) := by decide +kernel
theorem dL_refuses_231 : decode cL_refuses 231 = .ok (.iload_n 2, 1) := by decide +kernel
theorem dL_refuses_232 : decode cL_refuses 232 = .ok (.iconst 0, 1) := by decide +kernel
theorem dL_refuses_233 : decode cL_refuses 233 = .ok (.iconst 0, 1) := by decide +kernel
theorem dL_refuses_234 : decode cL_refuses 234 = .ok (.invokestatic 176, 3) := by decide +kernel
theorem dL_refuses_237 : decode cL_refuses 237 = .ok (.ldc 15, 2) := by decide +kernel
theorem dL_refuses_239 : decode cL_refuses 239 = .ok (.if_icmp .ne 171, 3) := by decide +kernel
theorem dL_refuses_242 : decode cL_refuses 242 = .ok (.aload_n 0, 1) := by decide +kernel
theorem dL_refuses_243 : decode cL_refuses 243 = .ok (.bipush 11, 2) := by decide +kernel
theorem dL_refuses_245 : decode cL_refuses 245 = .ok (.iload_n 2, 1) := by decide +kernel
theorem dL_refuses_246 : decode cL_refuses 246 = .ok (.iconst 0, 1) := by decide +kernel
theorem dL_refuses_247 : decode cL_refuses 247 = .ok (.iconst 0, 1) := by decide +kernel
theorem dL_refuses_248 : decode cL_refuses 248 = .ok (.invokestatic 176, 3) := by decide +kernel
theorem dL_refuses_251 : decode cL_refuses 251 = .ok (.ldc 15, 2) := by decide +kernel
theorem dL_refuses_253 : decode cL_refuses 253 = .ok (.if_icmp .ne 157, 3) := by decide +kernel
theorem dL_refuses_256 : decode cL_refuses 256 = .ok (.aload_n 0, 1) := by decide +kernel
theorem dL_refuses_257 : decode cL_refuses 257 = .ok (.bipush 12, 2) := by decide +kernel
theorem dL_refuses_259 : decode cL_refuses 259 = .ok (.iload_n 2, 1) := by decide +kernel
theorem dL_refuses_260 : decode cL_refuses 260 = .ok (.iconst 0, 1) := by decide +kernel
theorem dL_refuses_261 : decode cL_refuses 261 = .ok (.iconst 0, 1) := by decide +kernel
theorem dL_refuses_262 : decode cL_refuses 262 = .ok (.invokestatic 176, 3) := by decide +kernel
theorem dL_refuses_265 : decode cL_refuses 265 = .ok (.ldc 15, 2) := by decide +kernel
theorem dL_refuses_267 : decode cL_refuses 267 = .ok (.if_icmp .ne 143, 3) := by decide +kernel
theorem dL_refuses_270 : decode cL_refuses 270 = .ok (.aload_n 0, 1) := by decide +kernel
theorem dL_refuses_271 : decode cL_refuses 271 = .ok (.bipush 13, 2) := by decide +kernel
theorem dL_refuses_273 : decode cL_refuses 273 = .ok (.iload_n 3, 1) := by decide +kernel
theorem dL_refuses_274 : decode cL_refuses 274 = .ok (.iconst 0, 1) := by decide +kernel
theorem dL_refuses_275 : decode cL_refuses 275 = .ok (.iconst 0, 1) := by decide +kernel
theorem dL_refuses_276 : decode cL_refuses 276 = .ok (.invokestatic 176, 3) := by decide +kernel
theorem dL_refuses_279 : decode cL_refuses 279 = .ok (.ldc 15, 2) := by decide +kernel
theorem dL_refuses_281 : decode cL_refuses 281 = .ok (.if_icmp .ne 129, 3) := by decide +kernel
theorem dL_refuses_284 : decode cL_refuses 284 = .ok (.aload_n 0, 1) := by decide +kernel
theorem dL_refuses_285 : decode cL_refuses 285 = .ok (.iload_n 3, 1) := by decide +kernel
theorem dL_refuses_286 : decode cL_refuses 286 = .ok (.invokestatic 183, 3) := by decide +kernel
theorem dL_refuses_289 : decode cL_refuses 289 = .ok (.ldc 15, 2) := by decide +kernel
theorem dL_refuses_291 : decode cL_refuses 291 = .ok (.if_icmp .ne 119, 3) := by decide +kernel
theorem dL_refuses_294 : decode cL_refuses 294 = .ok (.aload_n 0, 1) := by decide +kernel
theorem dL_refuses_295 : decode cL_refuses 295 = .ok (.iload_n 2, 1) := by decide +kernel
theorem dL_refuses_296 : decode cL_refuses 296 = .ok (.iload_n 1, 1) := by decide +kernel
theorem dL_refuses_297 : decode cL_refuses 297 = .ok (.iconst 2, 1) := by decide +kernel
theorem dL_refuses_298 : decode cL_refuses 298 = .ok (.irem, 1) := by decide +kernel
theorem dL_refuses_299 : decode cL_refuses 299 = .ok (.ifCond .ne 7, 3) := by decide +kernel
theorem dL_refuses_302 : decode cL_refuses 302 = .ok (.iconst 1, 1) := by decide +kernel
theorem dL_refuses_303 : decode cL_refuses 303 = .ok (.goto 4, 3) := by decide +kernel
theorem dL_refuses_306 : decode cL_refuses 306 = .ok (.iconst 0, 1) := by decide +kernel
theorem dL_refuses_307 : decode cL_refuses 307 = .ok (.invokestatic 185, 3) := by decide +kernel
theorem dL_refuses_310 : decode cL_refuses 310 = .ok (.ldc 15, 2) := by decide +kernel
theorem dL_refuses_312 : decode cL_refuses 312 = .ok (.if_icmp .ne 98, 3) := by decide +kernel
theorem dL_refuses_315 : decode cL_refuses 315 = .ok (.aload_n 0, 1) := by decide +kernel
theorem dL_refuses_316 : decode cL_refuses 316 = .ok (.bipush 14, 2) := by decide +kernel
theorem dL_refuses_318 : decode cL_refuses 318 = .ok (.iload_n 1, 1) := by decide +kernel
theorem dL_refuses_319 : decode cL_refuses 319 = .ok (.iconst 2, 1) := by decide +kernel
theorem dL_refuses_320 : decode cL_refuses 320 = .ok (.irem, 1) := by decide +kernel
theorem dL_refuses_321 : decode cL_refuses 321 = .ok (.ifCond .ne 7, 3) := by decide +kernel
theorem dL_refuses_324 : decode cL_refuses 324 = .ok (.iconst (-1), 1) := by decide +kernel
theorem dL_refuses_325 : decode cL_refuses 325 = .ok (.goto 7, 3) := by decide +kernel
theorem dL_refuses_328 : decode cL_refuses 328 = .ok (.aload_n 0, 1) := by decide +kernel
theorem dL_refuses_329 : decode cL_refuses 329 = .ok (.invokevirtual 188, 3) := by decide +kernel
theorem dL_refuses_332 : decode cL_refuses 332 = .ok (.iconst 0, 1) := by decide +kernel
theorem dL_refuses_333 : decode cL_refuses 333 = .ok (.iconst 0, 1) := by decide +kernel
theorem dL_refuses_334 : decode cL_refuses 334 = .ok (.invokestatic 176, 3) := by decide +kernel
theorem dL_refuses_337 : decode cL_refuses 337 = .ok (.ldc 15, 2) := by decide +kernel
theorem dL_refuses_339 : decode cL_refuses 339 = .ok (.if_icmp .ne 71, 3) := by decide +kernel
theorem dL_refuses_342 : decode cL_refuses 342 = .ok (.aload_n 0, 1) := by decide +kernel
theorem dL_refuses_343 : decode cL_refuses 343 = .ok (.bipush 15, 2) := by decide +kernel
theorem dL_refuses_345 : decode cL_refuses 345 = .ok (.aload_n 0, 1) := by decide +kernel
theorem dL_refuses_346 : decode cL_refuses 346 = .ok (.invokevirtual 188, 3) := by decide +kernel
theorem dL_refuses_349 : decode cL_refuses 349 = .ok (.iload_n 1, 1) := by decide +kernel
theorem dL_refuses_350 : decode cL_refuses 350 = .ok (.bipush 9, 2) := by decide +kernel
theorem dL_refuses_352 : decode cL_refuses 352 = .ok (.irem, 1) := by decide +kernel
theorem dL_refuses_353 : decode cL_refuses 353 = .ok (.iadd, 1) := by decide +kernel
theorem dL_refuses_354 : decode cL_refuses 354 = .ok (.iconst 0, 1) := by decide +kernel
theorem dL_refuses_355 : decode cL_refuses 355 = .ok (.iconst 0, 1) := by decide +kernel
theorem dL_refuses_356 : decode cL_refuses 356 = .ok (.invokestatic 176, 3) := by decide +kernel
theorem dL_refuses_359 : decode cL_refuses 359 = .ok (.ldc 15, 2) := by decide +kernel
theorem dL_refuses_361 : decode cL_refuses 361 = .ok (.if_icmp .ne 49, 3) := by decide +kernel
theorem dL_refuses_364 : decode cL_refuses 364 = .ok (.aload_n 0, 1) := by decide +kernel
theorem dL_refuses_365 : decode cL_refuses 365 = .ok (.bipush 16, 2) := by decide +kernel
theorem dL_refuses_367 : decode cL_refuses 367 = .ok (.iload_n 2, 1) := by decide +kernel
theorem dL_refuses_368 : decode cL_refuses 368 = .ok (.iconst 0, 1) := by decide +kernel
theorem dL_refuses_369 : decode cL_refuses 369 = .ok (.iconst 0, 1) := by decide +kernel
theorem dL_refuses_370 : decode cL_refuses 370 = .ok (.invokestatic 176, 3) := by decide +kernel
theorem dL_refuses_373 : decode cL_refuses 373 = .ok (.ldc 15, 2) := by decide +kernel
theorem dL_refuses_375 : decode cL_refuses 375 = .ok (.if_icmp .ne 35, 3) := by decide +kernel
theorem dL_refuses_378 : decode cL_refuses 378 = .ok (.aload_n 0, 1) := by decide +kernel
theorem dL_refuses_379 : decode cL_refuses 379 = .ok (.bipush 19, 2) := by decide +kernel
theorem dL_refuses_381 : decode cL_refuses 381 = .ok (.iload_n 2, 1) := by decide +kernel
theorem dL_refuses_382 : decode cL_refuses 382 = .ok (.iconst 0, 1) := by decide +kernel
theorem dL_refuses_383 : decode cL_refuses 383 = .ok (.iconst 0, 1) := by decide +kernel
theorem dL_refuses_384 : decode cL_refuses 384 = .ok (.invokestatic 176, 3) := by decide +kernel
theorem dL_refuses_387 : decode cL_refuses 387 = .ok (.ldc 15, 2) := by decide +kernel
theorem dL_refuses_389 : decode cL_refuses 389 = .ok (.if_icmp .ne 21, 3) := by decide +kernel
theorem dL_refuses_392 : decode cL_refuses 392 = .ok (.aload_n 0, 1) := by decide +kernel
theorem dL_refuses_393 : decode cL_refuses 393 = .ok (.bipush 21, 2) := by decide +kernel
theorem dL_refuses_395 : decode cL_refuses 395 = .ok (.iload_n 3, 1) := by decide +kernel
theorem dL_refuses_396 : decode cL_refuses 396 = .ok (.iconst 0, 1) := by decide +kernel
theorem dL_refuses_397 : decode cL_refuses 397 = .ok (.iconst 0, 1) := by decide +kernel
theorem dL_refuses_398 : decode cL_refuses 398 = .ok (.invokestatic 176, 3) := by decide +kernel
theorem dL_refuses_401 : decode cL_refuses 401 = .ok (.ldc 15, 2) := by decide +kernel
theorem dL_refuses_403 : decode cL_refuses 403 = .ok (.if_icmp .ne 7, 3) := by decide +kernel
theorem dL_refuses_406 : decode cL_refuses 406 = .ok (.iconst 1, 1) := by decide +kernel
theorem dL_refuses_407 : decode cL_refuses 407 = .ok (.goto 4, 3) := by decide +kernel
theorem dL_refuses_410 : decode cL_refuses 410 = .ok (.iconst 0, 1) := by decide +kernel
theorem dL_refuses_411 : decode cL_refuses 411 = .ok (.istore 5, 2) := by decide +kernel
theorem dL_refuses_413 : decode cL_refuses 413 = .ok (.iload_n 1, 1) := by decide +kernel
theorem dL_refuses_414 : decode cL_refuses 414 = .ok (.bipush 25, 2) := by decide +kernel
theorem dL_refuses_416 : decode cL_refuses 416 = .ok (.irem, 1) := by decide +kernel
theorem dL_refuses_417 : decode cL_refuses 417 = .ok (.istore 6, 2) := by decide +kernel
theorem dL_refuses_419 : decode cL_refuses 419 = .ok (.aload_n 0, 1) := by decide +kernel
theorem dL_refuses_420 : decode cL_refuses 420 = .ok (.bipush 13, 2) := by decide +kernel
theorem dL_refuses_422 : decode cL_refuses 422 = .ok (.iload 6, 2) := by decide +kernel
theorem dL_refuses_424 : decode cL_refuses 424 = .ok (.iconst 0, 1) := by decide +kernel
theorem dL_refuses_425 : decode cL_refuses 425 = .ok (.iconst 0, 1) := by decide +kernel
theorem dL_refuses_426 : decode cL_refuses 426 = .ok (.invokestatic 176, 3) := by decide +kernel
theorem dL_refuses_429 : decode cL_refuses 429 = .ok (.iconst (-1), 1) := by decide +kernel
theorem dL_refuses_430 : decode cL_refuses 430 = .ok (.if_icmp .eq 7, 3) := by decide +kernel
theorem dL_refuses_433 : decode cL_refuses 433 = .ok (.iconst 1, 1) := by decide +kernel
theorem dL_refuses_434 : decode cL_refuses 434 = .ok (.goto 4, 3) := by decide +kernel
theorem dL_refuses_437 : decode cL_refuses 437 = .ok (.iconst 0, 1) := by decide +kernel
theorem dL_refuses_438 : decode cL_refuses 438 = .ok (.istore 7, 2) := by decide +kernel
theorem dL_refuses_440 : decode cL_refuses 440 = .ok (.iload 5, 2) := by decide +kernel
theorem dL_refuses_442 : decode cL_refuses 442 = .ok (.ifCond .eq 230, 3) := by decide +kernel
theorem dL_refuses_445 : decode cL_refuses 445 = .ok (.iload 7, 2) := by decide +kernel
theorem dL_refuses_447 : decode cL_refuses 447 = .ok (.ifCond .eq 29, 3) := by decide +kernel
theorem dL_refuses_450 : decode cL_refuses 450 = .ok (.aload_n 0, 1) := by decide +kernel
theorem dL_refuses_451 : decode cL_refuses 451 = .ok (.iload 6, 2) := by decide +kernel
theorem dL_refuses_453 : decode cL_refuses 453 = .ok (.invokestatic 180, 3) := by decide +kernel
theorem dL_refuses_456 : decode cL_refuses 456 = .ok (.ldc 18, 2) := by decide +kernel
theorem dL_refuses_458 : decode cL_refuses 458 = .ok (.if_icmp .ne 214, 3) := by decide +kernel
theorem dL_refuses_461 : decode cL_refuses 461 = .ok (.aload_n 0, 1) := by decide +kernel
theorem dL_refuses_462 : decode cL_refuses 462 = .ok (.bipush 21, 2) := by decide +kernel
theorem dL_refuses_464 : decode cL_refuses 464 = .ok (.iload 6, 2) := by decide +kernel
theorem dL_refuses_466 : decode cL_refuses 466 = .ok (.iconst 0, 1) := by decide +kernel
theorem dL_refuses_467 : decode cL_refuses 467 = .ok (.iconst 0, 1) := by decide +kernel
theorem dL_refuses_468 : decode cL_refuses 468 = .ok (.invokestatic 176, 3) := by decide +kernel
theorem dL_refuses_471 : decode cL_refuses 471 = .ok (.ldc 18, 2) := by decide +kernel
theorem dL_refuses_473 : decode cL_refuses 473 = .ok (.if_icmp .ne 199, 3) := by decide +kernel
theorem dL_refuses_476 : decode cL_refuses 476 = .ok (.aload_n 0, 1) := by decide +kernel
theorem dL_refuses_477 : decode cL_refuses 477 = .ok (.iload 6, 2) := by decide +kernel
theorem dL_refuses_479 : decode cL_refuses 479 = .ok (.invokestatic 183, 3) := by decide +kernel
theorem dL_refuses_482 : decode cL_refuses 482 = .ok (.ifCond .eq 18, 3) := by decide +kernel
theorem dL_refuses_485 : decode cL_refuses 485 = .ok (.aload_n 0, 1) := by decide +kernel
theorem dL_refuses_486 : decode cL_refuses 486 = .ok (.bipush 21, 2) := by decide +kernel
theorem dL_refuses_488 : decode cL_refuses 488 = .ok (.iload 6, 2) := by decide +kernel
theorem dL_refuses_490 : decode cL_refuses 490 = .ok (.iconst 0, 1) := by decide +kernel
theorem dL_refuses_491 : decode cL_refuses 491 = .ok (.iconst 0, 1) := by decide +kernel
theorem dL_refuses_492 : decode cL_refuses 492 = .ok (.invokestatic 176, 3) := by decide +kernel
theorem dL_refuses_495 : decode cL_refuses 495 = .ok (.ldc 18, 2) := by decide +kernel
theorem dL_refuses_497 : decode cL_refuses 497 = .ok (.if_icmp .ne 175, 3) := by decide +kernel
theorem dL_refuses_500 : decode cL_refuses 500 = .ok (.aload_n 0, 1) := by decide +kernel
theorem dL_refuses_501 : decode cL_refuses 501 = .ok (.invokevirtual 191, 3) := by decide +kernel
theorem dL_refuses_504 : decode cL_refuses 504 = .ok (.iconst 4, 1) := by decide +kernel
theorem dL_refuses_505 : decode cL_refuses 505 = .ok (.if_icmp .lt 29, 3) := by decide +kernel
theorem dL_refuses_508 : decode cL_refuses 508 = .ok (.iload 7, 2) := by decide +kernel
theorem dL_refuses_510 : decode cL_refuses 510 = .ok (.ifCond .ne 24, 3) := by decide +kernel
theorem dL_refuses_513 : decode cL_refuses 513 = .ok (.aload_n 0, 1) := by decide +kernel
theorem dL_refuses_514 : decode cL_refuses 514 = .ok (.iload 6, 2) := by decide +kernel
theorem dL_refuses_516 : decode cL_refuses 516 = .ok (.invokestatic 183, 3) := by decide +kernel
theorem dL_refuses_519 : decode cL_refuses 519 = .ok (.iconst 1, 1) := by decide +kernel
theorem dL_refuses_520 : decode cL_refuses 520 = .ok (.if_icmp .eq 14, 3) := by decide +kernel
theorem dL_refuses_523 : decode cL_refuses 523 = .ok (.aload_n 0, 1) := by decide +kernel
theorem dL_refuses_524 : decode cL_refuses 524 = .ok (.iload 6, 2) := by decide +kernel
theorem dL_refuses_526 : decode cL_refuses 526 = .ok (.invokestatic 180, 3) := by decide +kernel
theorem dL_refuses_529 : decode cL_refuses 529 = .ok (.ldc 18, 2) := by decide +kernel
theorem dL_refuses_531 : decode cL_refuses 531 = .ok (.if_icmp .ne 141, 3) := by decide +kernel
theorem dL_refuses_534 : decode cL_refuses 534 = .ok (.aload_n 0, 1) := by decide +kernel
theorem dL_refuses_535 : decode cL_refuses 535 = .ok (.invokevirtual 188, 3) := by decide +kernel
theorem dL_refuses_538 : decode cL_refuses 538 = .ok (.ifCond .gt 16, 3) := by decide +kernel
theorem dL_refuses_541 : decode cL_refuses 541 = .ok (.aload_n 0, 1) := by decide +kernel
theorem dL_refuses_542 : decode cL_refuses 542 = .ok (.iconst 3, 1) := by decide +kernel
theorem dL_refuses_543 : decode cL_refuses 543 = .ok (.iconst 0, 1) := by decide +kernel
theorem dL_refuses_544 : decode cL_refuses 544 = .ok (.iconst 0, 1) := by decide +kernel
theorem dL_refuses_545 : decode cL_refuses 545 = .ok (.iconst 0, 1) := by decide +kernel
theorem dL_refuses_546 : decode cL_refuses 546 = .ok (.invokestatic 176, 3) := by decide +kernel
theorem dL_refuses_549 : decode cL_refuses 549 = .ok (.ldc 18, 2) := by decide +kernel
theorem dL_refuses_551 : decode cL_refuses 551 = .ok (.if_icmp .ne 121, 3) := by decide +kernel
theorem dL_refuses_554 : decode cL_refuses 554 = .ok (.aload_n 0, 1) := by decide +kernel
theorem dL_refuses_555 : decode cL_refuses 555 = .ok (.invokevirtual 173, 3) := by decide +kernel
theorem dL_refuses_558 : decode cL_refuses 558 = .ok (.iconst 1, 1) := by decide +kernel
theorem dL_refuses_559 : decode cL_refuses 559 = .ok (.if_icmp .gt 17, 3) := by decide +kernel
theorem dL_refuses_562 : decode cL_refuses 562 = .ok (.aload_n 0, 1) := by decide +kernel
theorem dL_refuses_563 : decode cL_refuses 563 = .ok (.bipush 20, 2) := by decide +kernel
theorem dL_refuses_565 : decode cL_refuses 565 = .ok (.iconst 0, 1) := by decide +kernel
theorem dL_refuses_566 : decode cL_refuses 566 = .ok (.iconst 0, 1) := by decide +kernel
theorem dL_refuses_567 : decode cL_refuses 567 = .ok (.iconst 0, 1) := by decide +kernel
theorem dL_refuses_568 : decode cL_refuses 568 = .ok (.invokestatic 176, 3) := by decide +kernel
theorem dL_refuses_571 : decode cL_refuses 571 = .ok (.ldc 18, 2) := by decide +kernel
theorem dL_refuses_573 : decode cL_refuses 573 = .ok (.if_icmp .ne 99, 3) := by decide +kernel
theorem dL_refuses_576 : decode cL_refuses 576 = .ok (.aload_n 0, 1) := by decide +kernel
theorem dL_refuses_577 : decode cL_refuses 577 = .ok (.invokevirtual 173, 3) := by decide +kernel
theorem dL_refuses_580 : decode cL_refuses 580 = .ok (.ifCond .gt 46, 3) := by decide +kernel
theorem dL_refuses_583 : decode cL_refuses 583 = .ok (.aload_n 0, 1) := by decide +kernel
theorem dL_refuses_584 : decode cL_refuses 584 = .ok (.iconst 1, 1) := by decide +kernel
theorem dL_refuses_585 : decode cL_refuses 585 = .ok (.iconst 0, 1) := by decide +kernel
theorem dL_refuses_586 : decode cL_refuses 586 = .ok (.iconst 0, 1) := by decide +kernel
theorem dL_refuses_587 : decode cL_refuses 587 = .ok (.iconst 0, 1) := by decide +kernel
theorem dL_refuses_588 : decode cL_refuses 588 = .ok (.invokestatic 176, 3) := by decide +kernel
theorem dL_refuses_591 : decode cL_refuses 591 = .ok (.ldc 18, 2) := by decide +kernel
theorem dL_refuses_593 : decode cL_refuses 593 = .ok (.if_icmp .ne 79, 3) := by decide +kernel
theorem dL_refuses_596 : decode cL_refuses 596 = .ok (.aload_n 0, 1) := by decide +kernel
theorem dL_refuses_597 : decode cL_refuses 597 = .ok (.iconst 4, 1) := by decide +kernel
theorem dL_refuses_598 : decode cL_refuses 598 = .ok (.iconst 0, 1) := by decide +kernel
theorem dL_refuses_599 : decode cL_refuses 599 = .ok (.iconst 0, 1) := by decide +kernel
theorem dL_refuses_600 : decode cL_refuses 600 = .ok (.iconst 0, 1) := by decide +kernel
theorem dL_refuses_601 : decode cL_refuses 601 = .ok (.invokestatic 176, 3) := by decide +kernel
theorem dL_refuses_604 : decode cL_refuses 604 = .ok (.ldc 18, 2) := by decide +kernel
theorem dL_refuses_606 : decode cL_refuses 606 = .ok (.if_icmp .ne 66, 3) := by decide +kernel
theorem dL_refuses_609 : decode cL_refuses 609 = .ok (.aload_n 0, 1) := by decide +kernel
theorem dL_refuses_610 : decode cL_refuses 610 = .ok (.iconst 0, 1) := by decide +kernel
theorem dL_refuses_611 : decode cL_refuses 611 = .ok (.iconst 5, 1) := by decide +kernel
theorem dL_refuses_612 : decode cL_refuses 612 = .ok (.iload_n 1, 1) := by decide +kernel
theorem dL_refuses_613 : decode cL_refuses 613 = .ok (.iconst 5, 1) := by decide +kernel
theorem dL_refuses_614 : decode cL_refuses 614 = .ok (.irem, 1) := by decide +kernel
theorem dL_refuses_615 : decode cL_refuses 615 = .ok (.iadd, 1) := by decide +kernel
theorem dL_refuses_616 : decode cL_refuses 616 = .ok (.iconst 0, 1) := by decide +kernel
theorem dL_refuses_617 : decode cL_refuses 617 = .ok (.iconst 2, 1) := by decide +kernel
theorem dL_refuses_618 : decode cL_refuses 618 = .ok (.invokestatic 176, 3) := by decide +kernel
theorem dL_refuses_621 : decode cL_refuses 621 = .ok (.ldc 18, 2) := by decide +kernel
theorem dL_refuses_623 : decode cL_refuses 623 = .ok (.if_icmp .ne 49, 3) := by decide +kernel
theorem dL_refuses_626 : decode cL_refuses 626 = .ok (.aload_n 0, 1) := by decide +kernel
theorem dL_refuses_627 : decode cL_refuses 627 = .ok (.invokevirtual 173, 3) := by decide +kernel
theorem dL_refuses_630 : decode cL_refuses 630 = .ok (.ifCond .le 10, 3) := by decide +kernel
theorem dL_refuses_633 : decode cL_refuses 633 = .ok (.aload_n 0, 1) := by decide +kernel
theorem dL_refuses_634 : decode cL_refuses 634 = .ok (.invokevirtual 194, 3) := by decide +kernel
theorem dL_refuses_637 : decode cL_refuses 637 = .ok (.ifCond .eq 31, 3) := by decide +kernel
theorem dL_refuses_640 : decode cL_refuses 640 = .ok (.aload_n 0, 1) := by decide +kernel
theorem dL_refuses_641 : decode cL_refuses 641 = .ok (.bipush 17, 2) := by decide +kernel
theorem dL_refuses_643 : decode cL_refuses 643 = .ok (.iconst 0, 1) := by decide +kernel
theorem dL_refuses_644 : decode cL_refuses 644 = .ok (.iconst 0, 1) := by decide +kernel
theorem dL_refuses_645 : decode cL_refuses 645 = .ok (.iconst 0, 1) := by decide +kernel
theorem dL_refuses_646 : decode cL_refuses 646 = .ok (.invokestatic 176, 3) := by decide +kernel
theorem dL_refuses_649 : decode cL_refuses 649 = .ok (.ldc 18, 2) := by decide +kernel
theorem dL_refuses_651 : decode cL_refuses 651 = .ok (.if_icmp .ne 21, 3) := by decide +kernel
theorem dL_refuses_654 : decode cL_refuses 654 = .ok (.aload_n 0, 1) := by decide +kernel
theorem dL_refuses_655 : decode cL_refuses 655 = .ok (.bipush 18, 2) := by decide +kernel
theorem dL_refuses_657 : decode cL_refuses 657 = .ok (.iconst 0, 1) := by decide +kernel
theorem dL_refuses_658 : decode cL_refuses 658 = .ok (.iconst 0, 1) := by decide +kernel
theorem dL_refuses_659 : decode cL_refuses 659 = .ok (.iconst 0, 1) := by decide +kernel
theorem dL_refuses_660 : decode cL_refuses 660 = .ok (.invokestatic 176, 3) := by decide +kernel
theorem dL_refuses_663 : decode cL_refuses 663 = .ok (.ldc 18, 2) := by decide +kernel
theorem dL_refuses_665 : decode cL_refuses 665 = .ok (.if_icmp .ne 7, 3) := by decide +kernel
theorem dL_refuses_668 : decode cL_refuses 668 = .ok (.iconst 1, 1) := by decide +kernel
theorem dL_refuses_669 : decode cL_refuses 669 = .ok (.goto 4, 3) := by decide +kernel
theorem dL_refuses_672 : decode cL_refuses 672 = .ok (.iconst 0, 1) := by decide +kernel
theorem dL_refuses_673 : decode cL_refuses 673 = .ok (.istore 5, 2) := by decide +kernel
theorem dL_refuses_675 : decode cL_refuses 675 = .ok (.aload_n 0, 1) := by decide +kernel
theorem dL_refuses_676 : decode cL_refuses 676 = .ok (.invokevirtual 173, 3) := by decide +kernel
theorem dL_refuses_679 : decode cL_refuses 679 = .ok (.ifCond .eq 8, 3) := by decide +kernel
theorem dL_refuses_682 : decode cL_refuses 682 = .ok (.iload 5, 2) := by decide +kernel
theorem dL_refuses_684 : decode cL_refuses 684 = .ok (.ifCond .ne 6, 3) := by decide +kernel
theorem dL_refuses_687 : decode cL_refuses 687 = .ok (.iload 5, 2) := by decide +kernel
theorem dL_refuses_689 : decode cL_refuses 689 = .ok (.ireturn, 1) := by decide +kernel
theorem dL_refuses_690 : decode cL_refuses 690 = .ok (.iload_n 1, 1) := by decide +kernel
theorem dL_refuses_691 : decode cL_refuses 691 = .ok (.bipush 8, 2) := by decide +kernel
theorem dL_refuses_693 : decode cL_refuses 693 = .ok (.idiv, 1) := by decide +kernel
theorem dL_refuses_694 : decode cL_refuses 694 = .ok (.aload_n 0, 1) := by decide +kernel
theorem dL_refuses_695 : decode cL_refuses 695 = .ok (.invokevirtual 173, 3) := by decide +kernel
theorem dL_refuses_698 : decode cL_refuses 698 = .ok (.irem, 1) := by decide +kernel
theorem dL_refuses_699 : decode cL_refuses 699 = .ok (.istore 8, 2) := by decide +kernel
theorem dL_refuses_701 : decode cL_refuses 701 = .ok (.iconst 1, 1) := by decide +kernel
theorem dL_refuses_702 : decode cL_refuses 702 = .ok (.iload_n 1, 1) := by decide +kernel
theorem dL_refuses_703 : decode cL_refuses 703 = .ok (.iconst 3, 1) := by decide +kernel
theorem dL_refuses_704 : decode cL_refuses 704 = .ok (.irem, 1) := by decide +kernel
theorem dL_refuses_705 : decode cL_refuses 705 = .ok (.iadd, 1) := by decide +kernel
theorem dL_refuses_706 : decode cL_refuses 706 = .ok (.istore 9, 2) := by decide +kernel
theorem dL_refuses_708 : decode cL_refuses 708 = .ok (.aload_n 0, 1) := by decide +kernel
theorem dL_refuses_709 : decode cL_refuses 709 = .ok (.iconst 2, 1) := by decide +kernel
theorem dL_refuses_710 : decode cL_refuses 710 = .ok (.iload 8, 2) := by decide +kernel
theorem dL_refuses_712 : decode cL_refuses 712 = .ok (.iconst 0, 1) := by decide +kernel
theorem dL_refuses_713 : decode cL_refuses 713 = .ok (.iconst 0, 1) := by decide +kernel
theorem dL_refuses_714 : decode cL_refuses 714 = .ok (.invokestatic 176, 3) := by decide +kernel
theorem dL_refuses_717 : decode cL_refuses 717 = .ok (.ldc 32, 2) := by decide +kernel
theorem dL_refuses_719 : decode cL_refuses 719 = .ok (.if_icmp .ne 167, 3) := by decide +kernel
theorem dL_refuses_722 : decode cL_refuses 722 = .ok (.aload_n 0, 1) := by decide +kernel
theorem dL_refuses_723 : decode cL_refuses 723 = .ok (.iconst 2, 1) := by decide +kernel
theorem dL_refuses_724 : decode cL_refuses 724 = .ok (.iload 8, 2) := by decide +kernel
theorem dL_refuses_726 : decode cL_refuses 726 = .ok (.iconst 4, 1) := by decide +kernel
theorem dL_refuses_727 : decode cL_refuses 727 = .ok (.iload_n 1, 1) := by decide +kernel
theorem dL_refuses_728 : decode cL_refuses 728 = .ok (.bipush 9, 2) := by decide +kernel
theorem dL_refuses_730 : decode cL_refuses 730 = .ok (.irem, 1) := by decide +kernel
theorem dL_refuses_731 : decode cL_refuses 731 = .ok (.iadd, 1) := by decide +kernel
theorem dL_refuses_732 : decode cL_refuses 732 = .ok (.iconst 0, 1) := by decide +kernel
theorem dL_refuses_733 : decode cL_refuses 733 = .ok (.invokestatic 176, 3) := by decide +kernel
theorem dL_refuses_736 : decode cL_refuses 736 = .ok (.ldc 32, 2) := by decide +kernel
theorem dL_refuses_738 : decode cL_refuses 738 = .ok (.if_icmp .ne 148, 3) := by decide +kernel
theorem dL_refuses_741 : decode cL_refuses 741 = .ok (.aload_n 0, 1) := by decide +kernel
theorem dL_refuses_742 : decode cL_refuses 742 = .ok (.bipush 19, 2) := by decide +kernel
theorem dL_refuses_744 : decode cL_refuses 744 = .ok (.iload 8, 2) := by decide +kernel
theorem dL_refuses_746 : decode cL_refuses 746 = .ok (.bipush (-4), 2) := by decide +kernel
theorem dL_refuses_748 : decode cL_refuses 748 = .ok (.iconst 0, 1) := by decide +kernel
theorem dL_refuses_749 : decode cL_refuses 749 = .ok (.invokestatic 176, 3) := by decide +kernel
theorem dL_refuses_752 : decode cL_refuses 752 = .ok (.ldc 32, 2) := by decide +kernel
theorem dL_refuses_754 : decode cL_refuses 754 = .ok (.if_icmp .ne 132, 3) := by decide +kernel
theorem dL_refuses_757 : decode cL_refuses 757 = .ok (.aload_n 0, 1) := by decide +kernel
theorem dL_refuses_758 : decode cL_refuses 758 = .ok (.iload 8, 2) := by decide +kernel
theorem dL_refuses_760 : decode cL_refuses 760 = .ok (.iconst 1, 1) := by decide +kernel
theorem dL_refuses_761 : decode cL_refuses 761 = .ok (.invokestatic 185, 3) := by decide +kernel
theorem dL_refuses_764 : decode cL_refuses 764 = .ok (.iload 9, 2) := by decide +kernel
theorem dL_refuses_766 : decode cL_refuses 766 = .ok (.if_icmp .ge 34, 3) := by decide +kernel
theorem dL_refuses_769 : decode cL_refuses 769 = .ok (.aload_n 0, 1) := by decide +kernel
theorem dL_refuses_770 : decode cL_refuses 770 = .ok (.iconst 2, 1) := by decide +kernel
theorem dL_refuses_771 : decode cL_refuses 771 = .ok (.iload 8, 2) := by decide +kernel
theorem dL_refuses_773 : decode cL_refuses 773 = .ok (.iload 9, 2) := by decide +kernel
theorem dL_refuses_775 : decode cL_refuses 775 = .ok (.iconst 0, 1) := by decide +kernel
theorem dL_refuses_776 : decode cL_refuses 776 = .ok (.invokestatic 176, 3) := by decide +kernel
