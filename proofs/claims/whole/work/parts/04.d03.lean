theorem dX3_hasNextSlide_17 : decode cX3_hasNextSlide 17 = .ok (.getfield 26, 3) := by decide +kernel
theorem dX3_hasNextSlide_20 : decode cX3_hasNextSlide 20 = .ok (.getfield 263, 3) := by decide +kernel
theorem dX3_hasNextSlide_23 : decode cX3_hasNextSlide 23 = .ok (.invokevirtual 326, 3) := by decide +kernel
theorem dX3_hasNextSlide_26 : decode cX3_hasNextSlide 26 = .ok (.ireturn, 1) := by decide +kernel
theorem dX3_slidesToDriveOut_0 : decode cX3_slidesToDriveOut 0 = .ok (.aload_n 0, 1) := by decide +kernel
theorem dX3_slidesToDriveOut_1 : decode cX3_slidesToDriveOut 1 = .ok (.invokevirtual 219, 3) := by decide +kernel
theorem dX3_slidesToDriveOut_4 : decode cX3_slidesToDriveOut 4 = .ok (.aload_n 0, 1) := by decide +kernel
theorem dX3_slidesToDriveOut_5 : decode cX3_slidesToDriveOut 5 = .ok (.getfield 26, 3) := by decide +kernel
theorem dX3_slidesToDriveOut_8 : decode cX3_slidesToDriveOut 8 = .ok (.invokevirtual 225, 3) := by decide +kernel
theorem dX3_slidesToDriveOut_11 : decode cX3_slidesToDriveOut 11 = .ok (.istore_n 1, 1) := by decide +kernel
theorem dX3_slidesToDriveOut_12 : decode cX3_slidesToDriveOut 12 = .ok (.aload_n 0, 1) := by decide +kernel
theorem dX3_slidesToDriveOut_13 : decode cX3_slidesToDriveOut 13 = .ok (.getfield 10, 3) := by decide +kernel
theorem dX3_slidesToDriveOut_16 : decode cX3_slidesToDriveOut 16 = .ok (.getfield 85, 3) := by decide +kernel
theorem dX3_slidesToDriveOut_19 : decode cX3_slidesToDriveOut 19 = .ok (.iload_n 1, 1) := by decide +kernel
theorem dX3_slidesToDriveOut_20 : decode cX3_slidesToDriveOut 20 = .ok (.iadd, 1) := by decide +kernel
theorem dX3_slidesToDriveOut_21 : decode cX3_slidesToDriveOut 21 = .ok (.bipush 60, 2) := by decide +kernel
theorem dX3_slidesToDriveOut_23 : decode cX3_slidesToDriveOut 23 = .ok (.if_icmp .le 7, 3) := by decide +kernel
theorem dX3_slidesToDriveOut_26 : decode cX3_slidesToDriveOut 26 = .ok (.iconst (-1), 1) := by decide +kernel
theorem dX3_slidesToDriveOut_27 : decode cX3_slidesToDriveOut 27 = .ok (.goto 4, 3) := by decide +kernel
theorem dX3_slidesToDriveOut_30 : decode cX3_slidesToDriveOut 30 = .ok (.iload_n 1, 1) := by decide +kernel
theorem dX3_slidesToDriveOut_31 : decode cX3_slidesToDriveOut 31 = .ok (.ireturn, 1) := by decide +kernel
theorem dX3_makePlan_0 : decode cX3_makePlan 0 = .ok (.aload_n 0, 1) := by decide +kernel
theorem dX3_makePlan_1 : decode cX3_makePlan 1 = .ok (.getfield 26, 3) := by decide +kernel
theorem dX3_makePlan_4 : decode cX3_makePlan 4 = .ok (.getfield 263, 3) := by decide +kernel
theorem dX3_makePlan_7 : decode cX3_makePlan 7 = .ok (.istore_n 2, 1) := by decide +kernel
theorem dX3_makePlan_8 : decode cX3_makePlan 8 = .ok (.iconst 0, 1) := by decide +kernel
theorem dX3_makePlan_9 : decode cX3_makePlan 9 = .ok (.istore_n 3, 1) := by decide +kernel
theorem dX3_makePlan_10 : decode cX3_makePlan 10 = .ok (.iload_n 3, 1) := by decide +kernel
theorem dX3_makePlan_11 : decode cX3_makePlan 11 = .ok (.iload_n 1, 1) := by decide +kernel
theorem dX3_makePlan_12 : decode cX3_makePlan 12 = .ok (.if_icmp .ge 63, 3) := by decide +kernel
theorem dX3_makePlan_15 : decode cX3_makePlan 15 = .ok (.aload_n 0, 1) := by decide +kernel
theorem dX3_makePlan_16 : decode cX3_makePlan 16 = .ok (.getfield 26, 3) := by decide +kernel
theorem dX3_makePlan_19 : decode cX3_makePlan 19 = .ok (.iload_n 2, 1) := by decide +kernel
theorem dX3_makePlan_20 : decode cX3_makePlan 20 = .ok (.invokevirtual 326, 3) := by decide +kernel
theorem dX3_makePlan_23 : decode cX3_makePlan 23 = .ok (.ifCond .eq 52, 3) := by decide +kernel
theorem dX3_makePlan_26 : decode cX3_makePlan 26 = .ok (.aload_n 0, 1) := by decide +kernel
theorem dX3_makePlan_27 : decode cX3_makePlan 27 = .ok (.getfield 26, 3) := by decide +kernel
theorem dX3_makePlan_30 : decode cX3_makePlan 30 = .ok (.getfield 242, 3) := by decide +kernel
theorem dX3_makePlan_33 : decode cX3_makePlan 33 = .ok (.istore 4, 2) := by decide +kernel
theorem dX3_makePlan_35 : decode cX3_makePlan 35 = .ok (.aload_n 0, 1) := by decide +kernel
theorem dX3_makePlan_36 : decode cX3_makePlan 36 = .ok (.getfield 26, 3) := by decide +kernel
theorem dX3_makePlan_39 : decode cX3_makePlan 39 = .ok (.getfield 245, 3) := by decide +kernel
theorem dX3_makePlan_42 : decode cX3_makePlan 42 = .ok (.istore 5, 2) := by decide +kernel
theorem dX3_makePlan_44 : decode cX3_makePlan 44 = .ok (.aload_n 0, 1) := by decide +kernel
theorem dX3_makePlan_45 : decode cX3_makePlan 45 = .ok (.getfield 10, 3) := by decide +kernel
theorem dX3_makePlan_48 : decode cX3_makePlan 48 = .ok (.iload 4, 2) := by decide +kernel
theorem dX3_makePlan_50 : decode cX3_makePlan 50 = .ok (.iload 5, 2) := by decide +kernel
theorem dX3_makePlan_52 : decode cX3_makePlan 52 = .ok (.invokevirtual 90, 3) := by decide +kernel
theorem dX3_makePlan_55 : decode cX3_makePlan 55 = .ok (.pop, 1) := by decide +kernel
theorem dX3_makePlan_56 : decode cX3_makePlan 56 = .ok (.aload_n 0, 1) := by decide +kernel
theorem dX3_makePlan_57 : decode cX3_makePlan 57 = .ok (.getfield 26, 3) := by decide +kernel
theorem dX3_makePlan_60 : decode cX3_makePlan 60 = .ok (.iload_n 2, 1) := by decide +kernel
theorem dX3_makePlan_61 : decode cX3_makePlan 61 = .ok (.iload 4, 2) := by decide +kernel
theorem dX3_makePlan_63 : decode cX3_makePlan 63 = .ok (.iload 5, 2) := by decide +kernel
theorem dX3_makePlan_65 : decode cX3_makePlan 65 = .ok (.invokevirtual 266, 3) := by decide +kernel
theorem dX3_makePlan_68 : decode cX3_makePlan 68 = .ok (.istore_n 2, 1) := by decide +kernel
theorem dX3_makePlan_69 : decode cX3_makePlan 69 = .ok (.iinc 3 1, 3) := by decide +kernel
theorem dX3_makePlan_72 : decode cX3_makePlan 72 = .ok (.goto (-62), 3) := by decide +kernel
theorem dX3_makePlan_75 : decode cX3_makePlan 75 = .ok (.iload_n 1, 1) := by decide +kernel
theorem dX3_makePlan_76 : decode cX3_makePlan 76 = .ok (.ifCond .lt 7, 3) := by decide +kernel
theorem dX3_makePlan_79 : decode cX3_makePlan 79 = .ok (.iconst 1, 1) := by decide +kernel
theorem dX3_makePlan_80 : decode cX3_makePlan 80 = .ok (.goto 4, 3) := by decide +kernel
theorem dX3_makePlan_83 : decode cX3_makePlan 83 = .ok (.iconst 0, 1) := by decide +kernel
theorem dX3_makePlan_84 : decode cX3_makePlan 84 = .ok (.ireturn, 1) := by decide +kernel
theorem dX3_tryPart_0 : decode cX3_tryPart 0 = .ok (.aload_n 0, 1) := by decide +kernel
theorem dX3_tryPart_1 : decode cX3_tryPart 1 = .ok (.getfield 33, 3) := by decide +kernel
theorem dX3_tryPart_4 : decode cX3_tryPart 4 = .ok (.iload_n 1, 1) := by decide +kernel
theorem dX3_tryPart_5 : decode cX3_tryPart 5 = .ok (.invokevirtual 329, 3) := by decide +kernel
theorem dX3_tryPart_8 : decode cX3_tryPart 8 = .ok (.lookupswitch 153 #[(98, 139), (100, 144), (104, 52), (118, 87), (119, 124)], 52) := by decide +kernel
theorem dX3_tryPart_60 : decode cX3_tryPart 60 = .ok (.aload_n 0, 1) := by decide +kernel
theorem dX3_tryPart_61 : decode cX3_tryPart 61 = .ok (.aload_n 0, 1) := by decide +kernel
theorem dX3_tryPart_62 : decode cX3_tryPart 62 = .ok (.getfield 33, 3) := by decide +kernel
theorem dX3_tryPart_65 : decode cX3_tryPart 65 = .ok (.iload_n 1, 1) := by decide +kernel
theorem dX3_tryPart_66 : decode cX3_tryPart 66 = .ok (.iconst 1, 1) := by decide +kernel
theorem dX3_tryPart_67 : decode cX3_tryPart 67 = .ok (.iadd, 1) := by decide +kernel
theorem dX3_tryPart_68 : decode cX3_tryPart 68 = .ok (.invokevirtual 332, 3) := by decide +kernel
theorem dX3_tryPart_71 : decode cX3_tryPart 71 = .ok (.aload_n 0, 1) := by decide +kernel
theorem dX3_tryPart_72 : decode cX3_tryPart 72 = .ok (.getfield 33, 3) := by decide +kernel
theorem dX3_tryPart_75 : decode cX3_tryPart 75 = .ok (.iload_n 1, 1) := by decide +kernel
theorem dX3_tryPart_76 : decode cX3_tryPart 76 = .ok (.iconst 3, 1) := by decide +kernel
theorem dX3_tryPart_77 : decode cX3_tryPart 77 = .ok (.iadd, 1) := by decide +kernel
theorem dX3_tryPart_78 : decode cX3_tryPart 78 = .ok (.invokevirtual 332, 3) := by decide +kernel
theorem dX3_tryPart_81 : decode cX3_tryPart 81 = .ok (.aload_n 0, 1) := by decide +kernel
theorem dX3_tryPart_82 : decode cX3_tryPart 82 = .ok (.getfield 33, 3) := by decide +kernel
theorem dX3_tryPart_85 : decode cX3_tryPart 85 = .ok (.iload_n 1, 1) := by decide +kernel
theorem dX3_tryPart_86 : decode cX3_tryPart 86 = .ok (.iconst 5, 1) := by decide +kernel
theorem dX3_tryPart_87 : decode cX3_tryPart 87 = .ok (.iadd, 1) := by decide +kernel
theorem dX3_tryPart_88 : decode cX3_tryPart 88 = .ok (.invokevirtual 332, 3) := by decide +kernel
theorem dX3_tryPart_91 : decode cX3_tryPart 91 = .ok (.invokevirtual 335, 3) := by decide +kernel
theorem dX3_tryPart_94 : decode cX3_tryPart 94 = .ok (.ireturn, 1) := by decide +kernel
theorem dX3_tryPart_95 : decode cX3_tryPart 95 = .ok (.aload_n 0, 1) := by decide +kernel
theorem dX3_tryPart_96 : decode cX3_tryPart 96 = .ok (.iconst 5, 1) := by decide +kernel
theorem dX3_tryPart_97 : decode cX3_tryPart 97 = .ok (.aload_n 0, 1) := by decide +kernel
theorem dX3_tryPart_98 : decode cX3_tryPart 98 = .ok (.getfield 33, 3) := by decide +kernel
theorem dX3_tryPart_101 : decode cX3_tryPart 101 = .ok (.iload_n 1, 1) := by decide +kernel
theorem dX3_tryPart_102 : decode cX3_tryPart 102 = .ok (.iconst 1, 1) := by decide +kernel
theorem dX3_tryPart_103 : decode cX3_tryPart 103 = .ok (.iadd, 1) := by decide +kernel
theorem dX3_tryPart_104 : decode cX3_tryPart 104 = .ok (.invokevirtual 332, 3) := by decide +kernel
theorem dX3_tryPart_107 : decode cX3_tryPart 107 = .ok (.iadd, 1) := by decide +kernel
theorem dX3_tryPart_108 : decode cX3_tryPart 108 = .ok (.aload_n 0, 1) := by decide +kernel
theorem dX3_tryPart_109 : decode cX3_tryPart 109 = .ok (.getfield 33, 3) := by decide +kernel
theorem dX3_tryPart_112 : decode cX3_tryPart 112 = .ok (.iload_n 1, 1) := by decide +kernel
theorem dX3_tryPart_113 : decode cX3_tryPart 113 = .ok (.iconst 3, 1) := by decide +kernel
theorem dX3_tryPart_114 : decode cX3_tryPart 114 = .ok (.iadd, 1) := by decide +kernel
theorem dX3_tryPart_115 : decode cX3_tryPart 115 = .ok (.invokevirtual 332, 3) := by decide +kernel
theorem dX3_tryPart_118 : decode cX3_tryPart 118 = .ok (.aload_n 0, 1) := by decide +kernel
theorem dX3_tryPart_119 : decode cX3_tryPart 119 = .ok (.getfield 33, 3) := by decide +kernel
theorem dX3_tryPart_122 : decode cX3_tryPart 122 = .ok (.iload_n 1, 1) := by decide +kernel
theorem dX3_tryPart_123 : decode cX3_tryPart 123 = .ok (.iconst 5, 1) := by decide +kernel
theorem dX3_tryPart_124 : decode cX3_tryPart 124 = .ok (.iadd, 1) := by decide +kernel
theorem dX3_tryPart_125 : decode cX3_tryPart 125 = .ok (.invokevirtual 332, 3) := by decide +kernel
theorem dX3_tryPart_128 : decode cX3_tryPart 128 = .ok (.invokevirtual 335, 3) := by decide +kernel
theorem dX3_tryPart_131 : decode cX3_tryPart 131 = .ok (.ireturn, 1) := by decide +kernel
theorem dX3_tryPart_132 : decode cX3_tryPart 132 = .ok (.aload_n 0, 1) := by decide +kernel
theorem dX3_tryPart_133 : decode cX3_tryPart 133 = .ok (.aload_n 0, 1) := by decide +kernel
theorem dX3_tryPart_134 : decode cX3_tryPart 134 = .ok (.getfield 33, 3) := by decide +kernel
theorem dX3_tryPart_137 : decode cX3_tryPart 137 = .ok (.iload_n 1, 1) := by decide +kernel
theorem dX3_tryPart_138 : decode cX3_tryPart 138 = .ok (.iconst 1, 1) := by decide +kernel
theorem dX3_tryPart_139 : decode cX3_tryPart 139 = .ok (.iadd, 1) := by decide +kernel
theorem dX3_tryPart_140 : decode cX3_tryPart 140 = .ok (.invokevirtual 339, 3) := by decide +kernel
theorem dX3_tryPart_143 : decode cX3_tryPart 143 = .ok (.invokevirtual 342, 3) := by decide +kernel
theorem dX3_tryPart_146 : decode cX3_tryPart 146 = .ok (.ireturn, 1) := by decide +kernel
theorem dX3_tryPart_147 : decode cX3_tryPart 147 = .ok (.aload_n 0, 1) := by decide +kernel
theorem dX3_tryPart_148 : decode cX3_tryPart 148 = .ok (.invokevirtual 345, 3) := by decide +kernel
theorem dX3_tryPart_151 : decode cX3_tryPart 151 = .ok (.ireturn, 1) := by decide +kernel
theorem dX3_tryPart_152 : decode cX3_tryPart 152 = .ok (.aload_n 0, 1) := by decide +kernel
theorem dX3_tryPart_153 : decode cX3_tryPart 153 = .ok (.aload_n 0, 1) := by decide +kernel
theorem dX3_tryPart_154 : decode cX3_tryPart 154 = .ok (.invokevirtual 98, 3) := by decide +kernel
theorem dX3_tryPart_157 : decode cX3_tryPart 157 = .ok (.invokevirtual 103, 3) := by decide +kernel
theorem dX3_tryPart_160 : decode cX3_tryPart 160 = .ok (.ireturn, 1) := by decide +kernel
theorem dX3_tryPart_161 : decode cX3_tryPart 161 = .ok (.aload_n 0, 1) := by decide +kernel
theorem dX3_tryPart_162 : decode cX3_tryPart 162 = .ok (.aload_n 0, 1) := by decide +kernel
theorem dX3_tryPart_163 : decode cX3_tryPart 163 = .ok (.getfield 33, 3) := by decide +kernel
theorem dX3_tryPart_166 : decode cX3_tryPart 166 = .ok (.iload_n 1, 1) := by decide +kernel
theorem dX3_tryPart_167 : decode cX3_tryPart 167 = .ok (.invokevirtual 332, 3) := by decide +kernel
theorem dX3_tryPart_170 : decode cX3_tryPart 170 = .ok (.aload_n 0, 1) := by decide +kernel
theorem dX3_tryPart_171 : decode cX3_tryPart 171 = .ok (.getfield 33, 3) := by decide +kernel
theorem dX3_tryPart_174 : decode cX3_tryPart 174 = .ok (.iload_n 1, 1) := by decide +kernel
theorem dX3_tryPart_175 : decode cX3_tryPart 175 = .ok (.iconst 1, 1) := by decide +kernel
theorem dX3_tryPart_176 : decode cX3_tryPart 176 = .ok (.iadd, 1) := by decide +kernel
theorem dX3_tryPart_177 : decode cX3_tryPart 177 = .ok (.invokevirtual 348, 3) := by decide +kernel
theorem dX3_tryPart_180 : decode cX3_tryPart 180 = .ok (.aload_n 0, 1) := by decide +kernel
theorem dX3_tryPart_181 : decode cX3_tryPart 181 = .ok (.getfield 33, 3) := by decide +kernel
theorem dX3_tryPart_184 : decode cX3_tryPart 184 = .ok (.iload_n 1, 1) := by decide +kernel
theorem dX3_tryPart_185 : decode cX3_tryPart 185 = .ok (.iconst 2, 1) := by decide +kernel
theorem dX3_tryPart_186 : decode cX3_tryPart 186 = .ok (.iadd, 1) := by decide +kernel
theorem dX3_tryPart_187 : decode cX3_tryPart 187 = .ok (.invokevirtual 332, 3) := by decide +kernel
theorem dX3_tryPart_190 : decode cX3_tryPart 190 = .ok (.imul, 1) := by decide +kernel
theorem dX3_tryPart_191 : decode cX3_tryPart 191 = .ok (.invokevirtual 351, 3) := by decide +kernel
theorem dX3_tryPart_194 : decode cX3_tryPart 194 = .ok (.ireturn, 1) := by decide +kernel
theorem dX3_tryEntering_0 : decode cX3_tryEntering 0 = .ok (.aload_n 0, 1) := by decide +kernel
theorem dX3_tryEntering_1 : decode cX3_tryEntering 1 = .ok (.getfield 10, 3) := by decide +kernel
theorem dX3_tryEntering_4 : decode cX3_tryEntering 4 = .ok (.iload_n 1, 1) := by decide +kernel
theorem dX3_tryEntering_5 : decode cX3_tryEntering 5 = .ok (.iload_n 2, 1) := by decide +kernel
theorem dX3_tryEntering_6 : decode cX3_tryEntering 6 = .ok (.iload_n 3, 1) := by decide +kernel
theorem dX3_tryEntering_7 : decode cX3_tryEntering 7 = .ok (.invokevirtual 45, 3) := by decide +kernel
theorem dX3_tryEntering_10 : decode cX3_tryEntering 10 = .ok (.ifCond .ne 7, 3) := by decide +kernel
theorem dX3_tryEntering_13 : decode cX3_tryEntering 13 = .ok (.iconst 1, 1) := by decide +kernel
theorem dX3_tryEntering_14 : decode cX3_tryEntering 14 = .ok (.goto 4, 3) := by decide +kernel
theorem dX3_tryEntering_17 : decode cX3_tryEntering 17 = .ok (.iconst 0, 1) := by decide +kernel
theorem dX3_tryEntering_18 : decode cX3_tryEntering 18 = .ok (.istore 4, 2) := by decide +kernel
theorem dX3_tryEntering_20 : decode cX3_tryEntering 20 = .ok (.iload 4, 2) := by decide +kernel
theorem dX3_tryEntering_22 : decode cX3_tryEntering 22 = .ok (.ifCond .eq 14, 3) := by decide +kernel
theorem dX3_tryEntering_25 : decode cX3_tryEntering 25 = .ok (.aload_n 0, 1) := by decide +kernel
theorem dX3_tryEntering_26 : decode cX3_tryEntering 26 = .ok (.getfield 10, 3) := by decide +kernel
theorem dX3_tryEntering_29 : decode cX3_tryEntering 29 = .ok (.iload_n 1, 1) := by decide +kernel
theorem dX3_tryEntering_30 : decode cX3_tryEntering 30 = .ok (.iload_n 2, 1) := by decide +kernel
theorem dX3_tryEntering_31 : decode cX3_tryEntering 31 = .ok (.iload_n 3, 1) := by decide +kernel
theorem dX3_tryEntering_32 : decode cX3_tryEntering 32 = .ok (.invokevirtual 56, 3) := by decide +kernel
theorem dX3_tryEntering_35 : decode cX3_tryEntering 35 = .ok (.pop, 1) := by decide +kernel
theorem dX3_tryEntering_36 : decode cX3_tryEntering 36 = .ok (.iload 4, 2) := by decide +kernel
theorem dX3_tryEntering_38 : decode cX3_tryEntering 38 = .ok (.ireturn, 1) := by decide +kernel
theorem dX3_tryWall_0 : decode cX3_tryWall 0 = .ok (.aload_n 0, 1) := by decide +kernel
theorem dX3_tryWall_1 : decode cX3_tryWall 1 = .ok (.getfield 10, 3) := by decide +kernel
theorem dX3_tryWall_4 : decode cX3_tryWall 4 = .ok (.iload_n 1, 1) := by decide +kernel
theorem dX3_tryWall_5 : decode cX3_tryWall 5 = .ok (.invokevirtual 73, 3) := by decide +kernel
theorem dX3_tryWall_8 : decode cX3_tryWall 8 = .ok (.ifCond .ne 7, 3) := by decide +kernel
theorem dX3_tryWall_11 : decode cX3_tryWall 11 = .ok (.iconst 1, 1) := by decide +kernel
theorem dX3_tryWall_12 : decode cX3_tryWall 12 = .ok (.goto 4, 3) := by decide +kernel
theorem dX3_tryWall_15 : decode cX3_tryWall 15 = .ok (.iconst 0, 1) := by decide +kernel
theorem dX3_tryWall_16 : decode cX3_tryWall 16 = .ok (.istore_n 2, 1) := by decide +kernel
theorem dX3_tryWall_17 : decode cX3_tryWall 17 = .ok (.iload_n 2, 1) := by decide +kernel
theorem dX3_tryWall_18 : decode cX3_tryWall 18 = .ok (.ifCond .eq 12, 3) := by decide +kernel
theorem dX3_tryWall_21 : decode cX3_tryWall 21 = .ok (.aload_n 0, 1) := by decide +kernel
theorem dX3_tryWall_22 : decode cX3_tryWall 22 = .ok (.getfield 10, 3) := by decide +kernel
theorem dX3_tryWall_25 : decode cX3_tryWall 25 = .ok (.iload_n 1, 1) := by decide +kernel
theorem dX3_tryWall_26 : decode cX3_tryWall 26 = .ok (.invokevirtual 77, 3) := by decide +kernel
theorem dX3_tryWall_29 : decode cX3_tryWall 29 = .ok (.pop, 1) := by decide +kernel
theorem dX3_tryWall_30 : decode cX3_tryWall 30 = .ok (.iload_n 2, 1) := by decide +kernel
theorem dX3_tryWall_31 : decode cX3_tryWall 31 = .ok (.ireturn, 1) := by decide +kernel
theorem dX3_trySliding_0 : decode cX3_trySliding 0 = .ok (.aload_n 0, 1) := by decide +kernel
theorem dX3_trySliding_1 : decode cX3_trySliding 1 = .ok (.getfield 10, 3) := by decide +kernel
theorem dX3_trySliding_4 : decode cX3_trySliding 4 = .ok (.iload_n 1, 1) := by decide +kernel
theorem dX3_trySliding_5 : decode cX3_trySliding 5 = .ok (.iload_n 2, 1) := by decide +kernel
theorem dX3_trySliding_6 : decode cX3_trySliding 6 = .ok (.invokevirtual 81, 3) := by decide +kernel
theorem dX3_trySliding_9 : decode cX3_trySliding 9 = .ok (.ifCond .ne 19, 3) := by decide +kernel
theorem dX3_trySliding_12 : decode cX3_trySliding 12 = .ok (.aload_n 0, 1) := by decide +kernel
theorem dX3_trySliding_13 : decode cX3_trySliding 13 = .ok (.getfield 10, 3) := by decide +kernel
theorem dX3_trySliding_16 : decode cX3_trySliding 16 = .ok (.getfield 85, 3) := by decide +kernel
theorem dX3_trySliding_19 : decode cX3_trySliding 19 = .ok (.bipush 60, 2) := by decide +kernel
theorem dX3_trySliding_21 : decode cX3_trySliding 21 = .ok (.if_icmp .ge 7, 3) := by decide +kernel
theorem dX3_trySliding_24 : decode cX3_trySliding 24 = .ok (.iconst 1, 1) := by decide +kernel
theorem dX3_trySliding_25 : decode cX3_trySliding 25 = .ok (.goto 4, 3) := by decide +kernel
theorem dX3_trySliding_28 : decode cX3_trySliding 28 = .ok (.iconst 0, 1) := by decide +kernel
theorem dX3_trySliding_29 : decode cX3_trySliding 29 = .ok (.istore_n 3, 1) := by decide +kernel
theorem dX3_trySliding_30 : decode cX3_trySliding 30 = .ok (.iload_n 3, 1) := by decide +kernel
theorem dX3_trySliding_31 : decode cX3_trySliding 31 = .ok (.ifCond .eq 13, 3) := by decide +kernel
theorem dX3_trySliding_34 : decode cX3_trySliding 34 = .ok (.aload_n 0, 1) := by decide +kernel
theorem dX3_trySliding_35 : decode cX3_trySliding 35 = .ok (.getfield 10, 3) := by decide +kernel
theorem dX3_trySliding_38 : decode cX3_trySliding 38 = .ok (.iload_n 1, 1) := by decide +kernel
theorem dX3_trySliding_39 : decode cX3_trySliding 39 = .ok (.iload_n 2, 1) := by decide +kernel
theorem dX3_trySliding_40 : decode cX3_trySliding 40 = .ok (.invokevirtual 90, 3) := by decide +kernel
theorem dX3_trySliding_43 : decode cX3_trySliding 43 = .ok (.pop, 1) := by decide +kernel
theorem dX3_trySliding_44 : decode cX3_trySliding 44 = .ok (.iload_n 3, 1) := by decide +kernel
theorem dX3_trySliding_45 : decode cX3_trySliding 45 = .ok (.ireturn, 1) := by decide +kernel
theorem dX3_tryTakingBack_0 : decode cX3_tryTakingBack 0 = .ok (.aload_n 0, 1) := by decide +kernel
theorem dX3_tryTakingBack_1 : decode cX3_tryTakingBack 1 = .ok (.getfield 10, 3) := by decide +kernel
theorem dX3_tryTakingBack_4 : decode cX3_tryTakingBack 4 = .ok (.getfield 85, 3) := by decide +kernel
theorem dX3_tryTakingBack_7 : decode cX3_tryTakingBack 7 = .ok (.ifCond .le 7, 3) := by decide +kernel
theorem dX3_tryTakingBack_10 : decode cX3_tryTakingBack 10 = .ok (.iconst 1, 1) := by decide +kernel
theorem dX3_tryTakingBack_11 : decode cX3_tryTakingBack 11 = .ok (.goto 4, 3) := by decide +kernel
theorem dX3_tryTakingBack_14 : decode cX3_tryTakingBack 14 = .ok (.iconst 0, 1) := by decide +kernel
theorem dX3_tryTakingBack_15 : decode cX3_tryTakingBack 15 = .ok (.istore_n 1, 1) := by decide +kernel
theorem dX3_tryTakingBack_16 : decode cX3_tryTakingBack 16 = .ok (.iload_n 1, 1) := by decide +kernel
theorem dX3_tryTakingBack_17 : decode cX3_tryTakingBack 17 = .ok (.ifCond .eq 11, 3) := by decide +kernel
theorem dX3_tryTakingBack_20 : decode cX3_tryTakingBack 20 = .ok (.aload_n 0, 1) := by decide +kernel
theorem dX3_tryTakingBack_21 : decode cX3_tryTakingBack 21 = .ok (.getfield 10, 3) := by decide +kernel
theorem dX3_tryTakingBack_24 : decode cX3_tryTakingBack 24 = .ok (.invokevirtual 95, 3) := by decide +kernel
theorem dX3_tryTakingBack_27 : decode cX3_tryTakingBack 27 = .ok (.pop, 1) := by decide +kernel
theorem dX3_tryTakingBack_28 : decode cX3_tryTakingBack 28 = .ok (.iload_n 1, 1) := by decide +kernel
theorem dX3_tryTakingBack_29 : decode cX3_tryTakingBack 29 = .ok (.ireturn, 1) := by decide +kernel
theorem dX3_isCell_0 : decode cX3_isCell 0 = .ok (.iload_n 0, 1) := by decide +kernel
theorem dX3_isCell_1 : decode cX3_isCell 1 = .ok (.ifCond .lt 13, 3) := by decide +kernel
theorem dX3_isCell_4 : decode cX3_isCell 4 = .ok (.iload_n 0, 1) := by decide +kernel
theorem dX3_isCell_5 : decode cX3_isCell 5 = .ok (.bipush 25, 2) := by decide +kernel
theorem dX3_isCell_7 : decode cX3_isCell 7 = .ok (.if_icmp .ge 7, 3) := by decide +kernel
theorem dX3_isCell_10 : decode cX3_isCell 10 = .ok (.iconst 1, 1) := by decide +kernel
theorem dX3_isCell_11 : decode cX3_isCell 11 = .ok (.goto 4, 3) := by decide +kernel
theorem dX3_isCell_14 : decode cX3_isCell 14 = .ok (.iconst 0, 1) := by decide +kernel
theorem dX3_isCell_15 : decode cX3_isCell 15 = .ok (.ireturn, 1) := by decide +kernel
theorem dX3_bitOf_0 : decode cX3_bitOf 0 = .ok (.iload_n 0, 1) := by decide +kernel
theorem dX3_bitOf_1 : decode cX3_bitOf 1 = .ok (.iconst 5, 1) := by decide +kernel
theorem dX3_bitOf_2 : decode cX3_bitOf 2 = .ok (.if_icmp .ge 13, 3) := by decide +kernel
theorem dX3_bitOf_5 : decode cX3_bitOf 5 = .ok (.iconst 1, 1) := by decide +kernel
theorem dX3_bitOf_6 : decode cX3_bitOf 6 = .ok (.iconst 5, 1) := by decide +kernel
theorem dX3_bitOf_7 : decode cX3_bitOf 7 = .ok (.iload_n 0, 1) := by decide +kernel
theorem dX3_bitOf_8 : decode cX3_bitOf 8 = .ok (.imul, 1) := by decide +kernel
theorem dX3_bitOf_9 : decode cX3_bitOf 9 = .ok (.iload_n 1, 1) := by decide +kernel
theorem dX3_bitOf_10 : decode cX3_bitOf 10 = .ok (.iadd, 1) := by decide +kernel
theorem dX3_bitOf_11 : decode cX3_bitOf 11 = .ok (.ishl, 1) := by decide +kernel
theorem dX3_bitOf_12 : decode cX3_bitOf 12 = .ok (.goto 12, 3) := by decide +kernel
theorem dX3_bitOf_15 : decode cX3_bitOf 15 = .ok (.iconst 1, 1) := by decide +kernel
theorem dX3_bitOf_16 : decode cX3_bitOf 16 = .ok (.iconst 5, 1) := by decide +kernel
theorem dX3_bitOf_17 : decode cX3_bitOf 17 = .ok (.iload_n 1, 1) := by decide +kernel
theorem dX3_bitOf_18 : decode cX3_bitOf 18 = .ok (.imul, 1) := by decide +kernel
theorem dX3_bitOf_19 : decode cX3_bitOf 19 = .ok (.iload_n 0, 1) := by decide +kernel
theorem dX3_bitOf_20 : decode cX3_bitOf 20 = .ok (.iadd, 1) := by decide +kernel
theorem dX3_bitOf_21 : decode cX3_bitOf 21 = .ok (.iconst 5, 1) := by decide +kernel
theorem dX3_bitOf_22 : decode cX3_bitOf 22 = .ok (.isub, 1) := by decide +kernel
theorem dX3_bitOf_23 : decode cX3_bitOf 23 = .ok (.ishl, 1) := by decide +kernel
theorem dX3_bitOf_24 : decode cX3_bitOf 24 = .ok (.ireturn, 1) := by decide +kernel
theorem dX3_cellsOf_0 : decode cX3_cellsOf 0 = .ok (.iload_n 0, 1) := by decide +kernel
theorem dX3_cellsOf_1 : decode cX3_cellsOf 1 = .ok (.iconst 5, 1) := by decide +kernel
theorem dX3_cellsOf_2 : decode cX3_cellsOf 2 = .ok (.if_icmp .ge 15, 3) := by decide +kernel
theorem dX3_cellsOf_5 : decode cX3_cellsOf 5 = .ok (.iconst 1, 1) := by decide +kernel
theorem dX3_cellsOf_6 : decode cX3_cellsOf 6 = .ok (.iload_n 2, 1) := by decide +kernel
theorem dX3_cellsOf_7 : decode cX3_cellsOf 7 = .ok (.ishl, 1) := by decide +kernel
theorem dX3_cellsOf_8 : decode cX3_cellsOf 8 = .ok (.iconst 1, 1) := by decide +kernel
theorem dX3_cellsOf_9 : decode cX3_cellsOf 9 = .ok (.isub, 1) := by decide +kernel
theorem dX3_cellsOf_10 : decode cX3_cellsOf 10 = .ok (.iconst 5, 1) := by decide +kernel
theorem dX3_cellsOf_11 : decode cX3_cellsOf 11 = .ok (.iload_n 0, 1) := by decide +kernel
theorem dX3_cellsOf_12 : decode cX3_cellsOf 12 = .ok (.imul, 1) := by decide +kernel
theorem dX3_cellsOf_13 : decode cX3_cellsOf 13 = .ok (.iload_n 1, 1) := by decide +kernel
theorem dX3_cellsOf_14 : decode cX3_cellsOf 14 = .ok (.iadd, 1) := by decide +kernel
theorem dX3_cellsOf_15 : decode cX3_cellsOf 15 = .ok (.ishl, 1) := by decide +kernel
theorem dX3_cellsOf_16 : decode cX3_cellsOf 16 = .ok (.ireturn, 1) := by decide +kernel
theorem dX3_cellsOf_17 : decode cX3_cellsOf 17 = .ok (.ldc_w 355, 3) := by decide +kernel
theorem dX3_cellsOf_20 : decode cX3_cellsOf 20 = .ok (.iconst 1, 1) := by decide +kernel
theorem dX3_cellsOf_21 : decode cX3_cellsOf 21 = .ok (.iconst 5, 1) := by decide +kernel
theorem dX3_cellsOf_22 : decode cX3_cellsOf 22 = .ok (.iload_n 2, 1) := by decide +kernel
theorem dX3_cellsOf_23 : decode cX3_cellsOf 23 = .ok (.imul, 1) := by decide +kernel
theorem dX3_cellsOf_24 : decode cX3_cellsOf 24 = .ok (.ishl, 1) := by decide +kernel
theorem dX3_cellsOf_25 : decode cX3_cellsOf 25 = .ok (.iconst 1, 1) := by decide +kernel
theorem dX3_cellsOf_26 : decode cX3_cellsOf 26 = .ok (.isub, 1) := by decide +kernel
theorem dX3_cellsOf_27 : decode cX3_cellsOf 27 = .ok (.iand, 1) := by decide +kernel
theorem dX3_cellsOf_28 : decode cX3_cellsOf 28 = .ok (.iconst 5, 1) := by decide +kernel
theorem dX3_cellsOf_29 : decode cX3_cellsOf 29 = .ok (.iload_n 1, 1) := by decide +kernel
theorem dX3_cellsOf_30 : decode cX3_cellsOf 30 = .ok (.imul, 1) := by decide +kernel
theorem dX3_cellsOf_31 : decode cX3_cellsOf 31 = .ok (.iload_n 0, 1) := by decide +kernel
theorem dX3_cellsOf_32 : decode cX3_cellsOf 32 = .ok (.iadd, 1) := by decide +kernel
theorem dX3_cellsOf_33 : decode cX3_cellsOf 33 = .ok (.iconst 5, 1) := by decide +kernel
theorem dX3_cellsOf_34 : decode cX3_cellsOf 34 = .ok (.isub, 1) := by decide +kernel
theorem dX3_cellsOf_35 : decode cX3_cellsOf 35 = .ok (.ishl, 1) := by decide +kernel
theorem dX3_cellsOf_36 : decode cX3_cellsOf 36 = .ok (.ireturn, 1) := by decide +kernel
theorem dX3_share_0 : decode cX3_share 0 = .ok (.iload_n 1, 1) := by decide +kernel
theorem dX3_share_1 : decode cX3_share 1 = .ok (.ifCond .le 11, 3) := by decide +kernel
theorem dX3_share_4 : decode cX3_share 4 = .ok (.iload_n 0, 1) := by decide +kernel
theorem dX3_share_5 : decode cX3_share 5 = .ok (.i2d, 1) := by decide +kernel
theorem dX3_share_6 : decode cX3_share 6 = .ok (.iload_n 1, 1) := by decide +kernel
theorem dX3_share_7 : decode cX3_share 7 = .ok (.i2d, 1) := by decide +kernel
theorem dX3_share_8 : decode cX3_share 8 = .ok (.ddiv, 1) := by decide +kernel
theorem dX3_share_9 : decode cX3_share 9 = .ok (.goto 4, 3) := by decide +kernel
theorem dX3_share_12 : decode cX3_share 12 = .ok (.dconst 0, 1) := by decide +kernel
theorem dX3_share_13 : decode cX3_share 13 = .ok (.dreturn, 1) := by decide +kernel
theorem dX3_mix_0 : decode cX3_mix 0 = .ok (.ldc2_w 356, 3) := by decide +kernel
theorem dX3_mix_3 : decode cX3_mix 3 = .ok (.lload_n 0, 1) := by decide +kernel
theorem dX3_mix_4 : decode cX3_mix 4 = .ok (.lmul, 1) := by decide +kernel
theorem dX3_mix_5 : decode cX3_mix 5 = .ok (.lload_n 2, 1) := by decide +kernel
theorem dX3_mix_6 : decode cX3_mix 6 = .ok (.ladd, 1) := by decide +kernel
theorem dX3_mix_7 : decode cX3_mix 7 = .ok (.lreturn, 1) := by decide +kernel
theorem dX3_bitsOf_0 : decode cX3_bitsOf 0 = .ok (.dload_n 0, 1) := by decide +kernel
theorem dX3_bitsOf_1 : decode cX3_bitsOf 1 = .ok (.dstore_n 2, 1) := by decide +kernel
theorem dX3_bitsOf_2 : decode cX3_bitsOf 2 = .ok (.ldc2_w 358, 3) := by decide +kernel
theorem dX3_bitsOf_5 : decode cX3_bitsOf 5 = .ok (.lstore 4, 2) := by decide +kernel
theorem dX3_bitsOf_7 : decode cX3_bitsOf 7 = .ok (.dload_n 2, 1) := by decide +kernel
theorem dX3_bitsOf_8 : decode cX3_bitsOf 8 = .ok (.dconst 1, 1) := by decide +kernel
theorem dX3_bitsOf_9 : decode cX3_bitsOf 9 = .ok (.dcmp .g, 1) := by decide +kernel
theorem dX3_bitsOf_10 : decode cX3_bitsOf 10 = .ok (.ifCond .ge 25, 3) := by decide +kernel
theorem dX3_bitsOf_13 : decode cX3_bitsOf 13 = .ok (.lload 4, 2) := by decide +kernel
theorem dX3_bitsOf_15 : decode cX3_bitsOf 15 = .ok (.lconst 1, 1) := by decide +kernel
theorem dX3_bitsOf_16 : decode cX3_bitsOf 16 = .ok (.lcmp, 1) := by decide +kernel
theorem dX3_bitsOf_17 : decode cX3_bitsOf 17 = .ok (.ifCond .le 18, 3) := by decide +kernel
theorem dX3_bitsOf_20 : decode cX3_bitsOf 20 = .ok (.dload_n 2, 1) := by decide +kernel
theorem dX3_bitsOf_21 : decode cX3_bitsOf 21 = .ok (.ldc2_w 360, 3) := by decide +kernel
theorem dX3_bitsOf_24 : decode cX3_bitsOf 24 = .ok (.dmul, 1) := by decide +kernel
theorem dX3_bitsOf_25 : decode cX3_bitsOf 25 = .ok (.dstore_n 2, 1) := by decide +kernel
theorem dX3_bitsOf_26 : decode cX3_bitsOf 26 = .ok (.lload 4, 2) := by decide +kernel
theorem dX3_bitsOf_28 : decode cX3_bitsOf 28 = .ok (.lconst 1, 1) := by decide +kernel
theorem dX3_bitsOf_29 : decode cX3_bitsOf 29 = .ok (.lsub, 1) := by decide +kernel
theorem dX3_bitsOf_30 : decode cX3_bitsOf 30 = .ok (.lstore 4, 2) := by decide +kernel
theorem dX3_bitsOf_32 : decode cX3_bitsOf 32 = .ok (.goto (-25), 3) := by decide +kernel
theorem dX3_bitsOf_35 : decode cX3_bitsOf 35 = .ok (.dload_n 2, 1) := by decide +kernel
theorem dX3_bitsOf_36 : decode cX3_bitsOf 36 = .ok (.dconst 1, 1) := by decide +kernel
theorem dX3_bitsOf_37 : decode cX3_bitsOf 37 = .ok (.dsub, 1) := by decide +kernel
theorem dX3_bitsOf_38 : decode cX3_bitsOf 38 = .ok (.ldc2_w 362, 3) := by decide +kernel
theorem dX3_bitsOf_41 : decode cX3_bitsOf 41 = .ok (.dmul, 1) := by decide +kernel
theorem dX3_bitsOf_42 : decode cX3_bitsOf 42 = .ok (.d2l, 1) := by decide +kernel
theorem dX3_bitsOf_43 : decode cX3_bitsOf 43 = .ok (.lstore 6, 2) := by decide +kernel
theorem dX3_bitsOf_45 : decode cX3_bitsOf 45 = .ok (.lload 4, 2) := by decide +kernel
theorem dX3_bitsOf_47 : decode cX3_bitsOf 47 = .ok (.bipush 52, 2) := by decide +kernel
theorem dX3_bitsOf_49 : decode cX3_bitsOf 49 = .ok (.lshl, 1) := by decide +kernel
theorem dX3_bitsOf_50 : decode cX3_bitsOf 50 = .ok (.lload 6, 2) := by decide +kernel
theorem dX3_bitsOf_52 : decode cX3_bitsOf 52 = .ok (.lor, 1) := by decide +kernel
theorem dX3_bitsOf_53 : decode cX3_bitsOf 53 = .ok (.lreturn, 1) := by decide +kernel
theorem dX3_hashOfPark_0 : decode cX3_hashOfPark 0 = .ok (.lload_n 1, 1) := by decide +kernel
theorem dX3_hashOfPark_1 : decode cX3_hashOfPark 1 = .ok (.aload_n 0, 1) := by decide +kernel
theorem dX3_hashOfPark_2 : decode cX3_hashOfPark 2 = .ok (.getfield 10, 3) := by decide +kernel
theorem dX3_hashOfPark_5 : decode cX3_hashOfPark 5 = .ok (.getfield 59, 3) := by decide +kernel
theorem dX3_hashOfPark_8 : decode cX3_hashOfPark 8 = .ok (.i2l, 1) := by decide +kernel
theorem dX3_hashOfPark_9 : decode cX3_hashOfPark 9 = .ok (.invokestatic 293, 3) := by decide +kernel
theorem dX3_hashOfPark_12 : decode cX3_hashOfPark 12 = .ok (.lstore_n 3, 1) := by decide +kernel
theorem dX3_hashOfPark_13 : decode cX3_hashOfPark 13 = .ok (.lload_n 3, 1) := by decide +kernel
theorem dX3_hashOfPark_14 : decode cX3_hashOfPark 14 = .ok (.aload_n 0, 1) := by decide +kernel
theorem dX3_hashOfPark_15 : decode cX3_hashOfPark 15 = .ok (.invokevirtual 364, 3) := by decide +kernel
theorem dX3_hashOfPark_18 : decode cX3_hashOfPark 18 = .ok (.i2l, 1) := by decide +kernel
theorem dX3_hashOfPark_19 : decode cX3_hashOfPark 19 = .ok (.invokestatic 293, 3) := by decide +kernel
theorem dX3_hashOfPark_22 : decode cX3_hashOfPark 22 = .ok (.lstore_n 3, 1) := by decide +kernel
theorem dX3_hashOfPark_23 : decode cX3_hashOfPark 23 = .ok (.lload_n 3, 1) := by decide +kernel
theorem dX3_hashOfPark_24 : decode cX3_hashOfPark 24 = .ok (.aload_n 0, 1) := by decide +kernel
theorem dX3_hashOfPark_25 : decode cX3_hashOfPark 25 = .ok (.invokevirtual 366, 3) := by decide +kernel
theorem dX3_hashOfPark_28 : decode cX3_hashOfPark 28 = .ok (.i2l, 1) := by decide +kernel
theorem dX3_hashOfPark_29 : decode cX3_hashOfPark 29 = .ok (.invokestatic 293, 3) := by decide +kernel
theorem dX3_hashOfPark_32 : decode cX3_hashOfPark 32 = .ok (.lstore_n 3, 1) := by decide +kernel
theorem dX3_hashOfPark_33 : decode cX3_hashOfPark 33 = .ok (.lload_n 3, 1) := by decide +kernel
theorem dX3_hashOfPark_34 : decode cX3_hashOfPark 34 = .ok (.aload_n 0, 1) := by decide +kernel
theorem dX3_hashOfPark_35 : decode cX3_hashOfPark 35 = .ok (.invokevirtual 369, 3) := by decide +kernel
theorem dX3_hashOfPark_38 : decode cX3_hashOfPark 38 = .ok (.ifCond .eq 7, 3) := by decide +kernel
theorem dX3_hashOfPark_41 : decode cX3_hashOfPark 41 = .ok (.lconst 1, 1) := by decide +kernel
theorem dX3_hashOfPark_42 : decode cX3_hashOfPark 42 = .ok (.goto 4, 3) := by decide +kernel
theorem dX3_hashOfPark_45 : decode cX3_hashOfPark 45 = .ok (.lconst 0, 1) := by decide +kernel
theorem dX3_hashOfPark_46 : decode cX3_hashOfPark 46 = .ok (.invokestatic 293, 3) := by decide +kernel
theorem dX3_hashOfPark_49 : decode cX3_hashOfPark 49 = .ok (.lstore_n 3, 1) := by decide +kernel
theorem dX3_hashOfPark_50 : decode cX3_hashOfPark 50 = .ok (.lload_n 3, 1) := by decide +kernel
theorem dX3_hashOfPark_51 : decode cX3_hashOfPark 51 = .ok (.aload_n 0, 1) := by decide +kernel
theorem dX3_hashOfPark_52 : decode cX3_hashOfPark 52 = .ok (.invokevirtual 372, 3) := by decide +kernel
theorem dX3_hashOfPark_55 : decode cX3_hashOfPark 55 = .ok (.i2l, 1) := by decide +kernel
theorem dX3_hashOfPark_56 : decode cX3_hashOfPark 56 = .ok (.invokestatic 293, 3) := by decide +kernel
theorem dX3_hashOfPark_59 : decode cX3_hashOfPark 59 = .ok (.lstore_n 3, 1) := by decide +kernel
theorem dX3_hashOfPark_60 : decode cX3_hashOfPark 60 = .ok (.lload_n 3, 1) := by decide +kernel
theorem dX3_hashOfPark_61 : decode cX3_hashOfPark 61 = .ok (.aload_n 0, 1) := by decide +kernel
theorem dX3_hashOfPark_62 : decode cX3_hashOfPark 62 = .ok (.getfield 10, 3) := by decide +kernel
theorem dX3_hashOfPark_65 : decode cX3_hashOfPark 65 = .ok (.getfield 85, 3) := by decide +kernel
theorem dX3_hashOfPark_68 : decode cX3_hashOfPark 68 = .ok (.i2l, 1) := by decide +kernel
theorem dX3_hashOfPark_69 : decode cX3_hashOfPark 69 = .ok (.invokestatic 293, 3) := by decide +kernel
theorem dX3_hashOfPark_72 : decode cX3_hashOfPark 72 = .ok (.lstore_n 3, 1) := by decide +kernel
theorem dX3_hashOfPark_73 : decode cX3_hashOfPark 73 = .ok (.lload_n 3, 1) := by decide +kernel
theorem dX3_hashOfPark_74 : decode cX3_hashOfPark 74 = .ok (.aload_n 0, 1) := by decide +kernel
theorem dX3_hashOfPark_75 : decode cX3_hashOfPark 75 = .ok (.getfield 10, 3) := by decide +kernel
theorem dX3_hashOfPark_78 : decode cX3_hashOfPark 78 = .ok (.invokevirtual 213, 3) := by decide +kernel
theorem dX3_hashOfPark_81 : decode cX3_hashOfPark 81 = .ok (.i2l, 1) := by decide +kernel
theorem dX3_hashOfPark_82 : decode cX3_hashOfPark 82 = .ok (.invokestatic 293, 3) := by decide +kernel
theorem dX3_hashOfPark_85 : decode cX3_hashOfPark 85 = .ok (.lstore_n 3, 1) := by decide +kernel
theorem dX3_hashOfPark_86 : decode cX3_hashOfPark 86 = .ok (.lload_n 3, 1) := by decide +kernel
theorem dX3_hashOfPark_87 : decode cX3_hashOfPark 87 = .ok (.aload_n 0, 1) := by decide +kernel
theorem dX3_hashOfPark_88 : decode cX3_hashOfPark 88 = .ok (.getfield 10, 3) := by decide +kernel
theorem dX3_hashOfPark_91 : decode cX3_hashOfPark 91 = .ok (.invokevirtual 216, 3) := by decide +kernel
theorem dX3_hashOfPark_94 : decode cX3_hashOfPark 94 = .ok (.i2l, 1) := by decide +kernel
theorem dX3_hashOfPark_95 : decode cX3_hashOfPark 95 = .ok (.invokestatic 293, 3) := by decide +kernel
theorem dX3_hashOfPark_98 : decode cX3_hashOfPark 98 = .ok (.lreturn, 1) := by decide +kernel
theorem dX3_hashOfPlans_0 : decode cX3_hashOfPlans 0 = .ok (.lload_n 1, 1) := by decide +kernel
theorem dX3_hashOfPlans_1 : decode cX3_hashOfPlans 1 = .ok (.aload_n 0, 1) := by decide +kernel
theorem dX3_hashOfPlans_2 : decode cX3_hashOfPlans 2 = .ok (.getfield 26, 3) := by decide +kernel
theorem dX3_hashOfPlans_5 : decode cX3_hashOfPlans 5 = .ok (.invokevirtual 222, 3) := by decide +kernel
theorem dX3_hashOfPlans_8 : decode cX3_hashOfPlans 8 = .ok (.i2l, 1) := by decide +kernel
theorem dX3_hashOfPlans_9 : decode cX3_hashOfPlans 9 = .ok (.invokestatic 293, 3) := by decide +kernel
theorem dX3_hashOfPlans_12 : decode cX3_hashOfPlans 12 = .ok (.lstore_n 3, 1) := by decide +kernel
theorem dX3_hashOfPlans_13 : decode cX3_hashOfPlans 13 = .ok (.lload_n 3, 1) := by decide +kernel
theorem dX3_hashOfPlans_14 : decode cX3_hashOfPlans 14 = .ok (.aload_n 0, 1) := by decide +kernel
theorem dX3_hashOfPlans_15 : decode cX3_hashOfPlans 15 = .ok (.getfield 26, 3) := by decide +kernel
theorem dX3_hashOfPlans_18 : decode cX3_hashOfPlans 18 = .ok (.invokevirtual 225, 3) := by decide +kernel
theorem dX3_hashOfPlans_21 : decode cX3_hashOfPlans 21 = .ok (.i2l, 1) := by decide +kernel
theorem dX3_hashOfPlans_22 : decode cX3_hashOfPlans 22 = .ok (.invokestatic 293, 3) := by decide +kernel
theorem dX3_hashOfPlans_25 : decode cX3_hashOfPlans 25 = .ok (.lstore_n 3, 1) := by decide +kernel
theorem dX3_hashOfPlans_26 : decode cX3_hashOfPlans 26 = .ok (.lload_n 3, 1) := by decide +kernel
theorem dX3_hashOfPlans_27 : decode cX3_hashOfPlans 27 = .ok (.aload_n 0, 1) := by decide +kernel
theorem dX3_hashOfPlans_28 : decode cX3_hashOfPlans 28 = .ok (.getfield 26, 3) := by decide +kernel
theorem dX3_hashOfPlans_31 : decode cX3_hashOfPlans 31 = .ok (.invokevirtual 228, 3) := by decide +kernel
theorem dX3_hashOfPlans_34 : decode cX3_hashOfPlans 34 = .ok (.i2l, 1) := by decide +kernel
theorem dX3_hashOfPlans_35 : decode cX3_hashOfPlans 35 = .ok (.invokestatic 293, 3) := by decide +kernel
theorem dX3_hashOfPlans_38 : decode cX3_hashOfPlans 38 = .ok (.lstore_n 3, 1) := by decide +kernel
theorem dX3_hashOfPlans_39 : decode cX3_hashOfPlans 39 = .ok (.lload_n 3, 1) := by decide +kernel
theorem dX3_hashOfPlans_40 : decode cX3_hashOfPlans 40 = .ok (.aload_n 0, 1) := by decide +kernel
theorem dX3_hashOfPlans_41 : decode cX3_hashOfPlans 41 = .ok (.getfield 26, 3) := by decide +kernel
theorem dX3_hashOfPlans_44 : decode cX3_hashOfPlans 44 = .ok (.invokevirtual 231, 3) := by decide +kernel
theorem dX3_hashOfPlans_47 : decode cX3_hashOfPlans 47 = .ok (.i2l, 1) := by decide +kernel
theorem dX3_hashOfPlans_48 : decode cX3_hashOfPlans 48 = .ok (.invokestatic 293, 3) := by decide +kernel
theorem dX3_hashOfPlans_51 : decode cX3_hashOfPlans 51 = .ok (.lstore_n 3, 1) := by decide +kernel
theorem dX3_hashOfPlans_52 : decode cX3_hashOfPlans 52 = .ok (.lload_n 3, 1) := by decide +kernel
theorem dX3_hashOfPlans_53 : decode cX3_hashOfPlans 53 = .ok (.aload_n 0, 1) := by decide +kernel
theorem dX3_hashOfPlans_54 : decode cX3_hashOfPlans 54 = .ok (.getfield 26, 3) := by decide +kernel
theorem dX3_hashOfPlans_57 : decode cX3_hashOfPlans 57 = .ok (.invokevirtual 234, 3) := by decide +kernel
theorem dX3_hashOfPlans_60 : decode cX3_hashOfPlans 60 = .ok (.i2l, 1) := by decide +kernel
theorem dX3_hashOfPlans_61 : decode cX3_hashOfPlans 61 = .ok (.invokestatic 293, 3) := by decide +kernel
theorem dX3_hashOfPlans_64 : decode cX3_hashOfPlans 64 = .ok (.lreturn, 1) := by decide +kernel
theorem dX3_hashOfArrangements_0 : decode cX3_hashOfArrangements 0 = .ok (.lload_n 1, 1) := by decide +kernel
theorem dX3_hashOfArrangements_1 : decode cX3_hashOfArrangements 1 = .ok (.aload_n 0, 1) := by decide +kernel
theorem dX3_hashOfArrangements_2 : decode cX3_hashOfArrangements 2 = .ok (.getfield 26, 3) := by decide +kernel
theorem dX3_hashOfArrangements_5 : decode cX3_hashOfArrangements 5 = .ok (.getfield 251, 3) := by decide +kernel
theorem dX3_hashOfArrangements_8 : decode cX3_hashOfArrangements 8 = .ok (.i2l, 1) := by decide +kernel
theorem dX3_hashOfArrangements_9 : decode cX3_hashOfArrangements 9 = .ok (.invokestatic 293, 3) := by decide +kernel
theorem dX3_hashOfArrangements_12 : decode cX3_hashOfArrangements 12 = .ok (.lstore_n 3, 1) := by decide +kernel
theorem dX3_hashOfArrangements_13 : decode cX3_hashOfArrangements 13 = .ok (.lload_n 3, 1) := by decide +kernel
theorem dX3_hashOfArrangements_14 : decode cX3_hashOfArrangements 14 = .ok (.aload_n 0, 1) := by decide +kernel
theorem dX3_hashOfArrangements_15 : decode cX3_hashOfArrangements 15 = .ok (.getfield 26, 3) := by decide +kernel
theorem dX3_hashOfArrangements_18 : decode cX3_hashOfArrangements 18 = .ok (.invokevirtual 254, 3) := by decide +kernel
theorem dX3_hashOfArrangements_21 : decode cX3_hashOfArrangements 21 = .ok (.i2l, 1) := by decide +kernel
theorem dX3_hashOfArrangements_22 : decode cX3_hashOfArrangements 22 = .ok (.invokestatic 293, 3) := by decide +kernel
theorem dX3_hashOfArrangements_25 : decode cX3_hashOfArrangements 25 = .ok (.lstore_n 3, 1) := by decide +kernel
theorem dX3_hashOfArrangements_26 : decode cX3_hashOfArrangements 26 = .ok (.lload_n 3, 1) := by decide +kernel
theorem dX3_hashOfArrangements_27 : decode cX3_hashOfArrangements 27 = .ok (.aload_n 0, 1) := by decide +kernel
theorem dX3_hashOfArrangements_28 : decode cX3_hashOfArrangements 28 = .ok (.getfield 26, 3) := by decide +kernel
theorem dX3_hashOfArrangements_31 : decode cX3_hashOfArrangements 31 = .ok (.invokevirtual 257, 3) := by decide +kernel
theorem dX3_hashOfArrangements_34 : decode cX3_hashOfArrangements 34 = .ok (.i2l, 1) := by decide +kernel
theorem dX3_hashOfArrangements_35 : decode cX3_hashOfArrangements 35 = .ok (.invokestatic 293, 3) := by decide +kernel
theorem dX3_hashOfArrangements_38 : decode cX3_hashOfArrangements 38 = .ok (.lstore_n 3, 1) := by decide +kernel
theorem dX3_hashOfArrangements_39 : decode cX3_hashOfArrangements 39 = .ok (.lload_n 3, 1) := by decide +kernel
theorem dX3_hashOfArrangements_40 : decode cX3_hashOfArrangements 40 = .ok (.aload_n 0, 1) := by decide +kernel
theorem dX3_hashOfArrangements_41 : decode cX3_hashOfArrangements 41 = .ok (.getfield 26, 3) := by decide +kernel
theorem dX3_hashOfArrangements_44 : decode cX3_hashOfArrangements 44 = .ok (.invokevirtual 260, 3) := by decide +kernel
theorem dX3_hashOfArrangements_47 : decode cX3_hashOfArrangements 47 = .ok (.i2l, 1) := by decide +kernel
theorem dX3_hashOfArrangements_48 : decode cX3_hashOfArrangements 48 = .ok (.invokestatic 293, 3) := by decide +kernel
theorem dX3_hashOfArrangements_51 : decode cX3_hashOfArrangements 51 = .ok (.lreturn, 1) := by decide +kernel
theorem dX3_hashOfCells_0 : decode cX3_hashOfCells 0 = .ok (.lload_n 1, 1) := by decide +kernel
theorem dX3_hashOfCells_1 : decode cX3_hashOfCells 1 = .ok (.lstore_n 3, 1) := by decide +kernel
theorem dX3_hashOfCells_2 : decode cX3_hashOfCells 2 = .ok (.iconst 0, 1) := by decide +kernel
theorem dX3_hashOfCells_3 : decode cX3_hashOfCells 3 = .ok (.istore 5, 2) := by decide +kernel
theorem dX3_hashOfCells_5 : decode cX3_hashOfCells 5 = .ok (.iload 5, 2) := by decide +kernel
theorem dX3_hashOfCells_7 : decode cX3_hashOfCells 7 = .ok (.bipush 25, 2) := by decide +kernel
theorem dX3_hashOfCells_9 : decode cX3_hashOfCells 9 = .ok (.if_icmp .ge 46, 3) := by decide +kernel
theorem dX3_hashOfCells_12 : decode cX3_hashOfCells 12 = .ok (.lload_n 3, 1) := by decide +kernel
theorem dX3_hashOfCells_13 : decode cX3_hashOfCells 13 = .ok (.aload_n 0, 1) := by decide +kernel
theorem dX3_hashOfCells_14 : decode cX3_hashOfCells 14 = .ok (.getfield 10, 3) := by decide +kernel
theorem dX3_hashOfCells_17 : decode cX3_hashOfCells 17 = .ok (.iload 5, 2) := by decide +kernel
theorem dX3_hashOfCells_19 : decode cX3_hashOfCells 19 = .ok (.invokevirtual 184, 3) := by decide +kernel
theorem dX3_hashOfCells_22 : decode cX3_hashOfCells 22 = .ok (.i2l, 1) := by decide +kernel
theorem dX3_hashOfCells_23 : decode cX3_hashOfCells 23 = .ok (.invokestatic 293, 3) := by decide +kernel
theorem dX3_hashOfCells_26 : decode cX3_hashOfCells 26 = .ok (.lstore_n 3, 1) := by decide +kernel
theorem dX3_hashOfCells_27 : decode cX3_hashOfCells 27 = .ok (.lload_n 3, 1) := by decide +kernel
theorem dX3_hashOfCells_28 : decode cX3_hashOfCells 28 = .ok (.aload_n 0, 1) := by decide +kernel
theorem dX3_hashOfCells_29 : decode cX3_hashOfCells 29 = .ok (.getfield 10, 3) := by decide +kernel
theorem dX3_hashOfCells_32 : decode cX3_hashOfCells 32 = .ok (.iload 5, 2) := by decide +kernel
theorem dX3_hashOfCells_34 : decode cX3_hashOfCells 34 = .ok (.invokevirtual 187, 3) := by decide +kernel
theorem dX3_hashOfCells_37 : decode cX3_hashOfCells 37 = .ok (.ifCond .eq 7, 3) := by decide +kernel
theorem dX3_hashOfCells_40 : decode cX3_hashOfCells 40 = .ok (.lconst 1, 1) := by decide +kernel
theorem dX3_hashOfCells_41 : decode cX3_hashOfCells 41 = .ok (.goto 4, 3) := by decide +kernel
theorem dX3_hashOfCells_44 : decode cX3_hashOfCells 44 = .ok (.lconst 0, 1) := by decide +kernel
theorem dX3_hashOfCells_45 : decode cX3_hashOfCells 45 = .ok (.invokestatic 293, 3) := by decide +kernel
theorem dX3_hashOfCells_48 : decode cX3_hashOfCells 48 = .ok (.lstore_n 3, 1) := by decide +kernel
theorem dX3_hashOfCells_49 : decode cX3_hashOfCells 49 = .ok (.iinc 5 1, 3) := by decide +kernel
theorem dX3_hashOfCells_52 : decode cX3_hashOfCells 52 = .ok (.goto (-47), 3) := by decide +kernel
theorem dX3_hashOfCells_55 : decode cX3_hashOfCells 55 = .ok (.lload_n 3, 1) := by decide +kernel
theorem dX3_hashOfCells_56 : decode cX3_hashOfCells 56 = .ok (.lreturn, 1) := by decide +kernel
theorem dX3_hashOfCars_0 : decode cX3_hashOfCars 0 = .ok (.lload_n 1, 1) := by decide +kernel
theorem dX3_hashOfCars_1 : decode cX3_hashOfCars 1 = .ok (.lstore_n 3, 1) := by decide +kernel
theorem dX3_hashOfCars_2 : decode cX3_hashOfCars 2 = .ok (.iconst 0, 1) := by decide +kernel
theorem dX3_hashOfCars_3 : decode cX3_hashOfCars 3 = .ok (.istore 5, 2) := by decide +kernel
theorem dX3_hashOfCars_5 : decode cX3_hashOfCars 5 = .ok (.iload 5, 2) := by decide +kernel
theorem dX3_hashOfCars_7 : decode cX3_hashOfCars 7 = .ok (.aload_n 0, 1) := by decide +kernel
theorem dX3_hashOfCars_8 : decode cX3_hashOfCars 8 = .ok (.getfield 10, 3) := by decide +kernel
theorem dX3_hashOfCars_11 : decode cX3_hashOfCars 11 = .ok (.getfield 59, 3) := by decide +kernel
theorem dX3_hashOfCars_14 : decode cX3_hashOfCars 14 = .ok (.if_icmp .ge 111, 3) := by decide +kernel
theorem dX3_hashOfCars_17 : decode cX3_hashOfCars 17 = .ok (.iload 5, 2) := by decide +kernel
theorem dX3_hashOfCars_19 : decode cX3_hashOfCars 19 = .ok (.bipush 6, 2) := by decide +kernel
theorem dX3_hashOfCars_21 : decode cX3_hashOfCars 21 = .ok (.if_icmp .ge 104, 3) := by decide +kernel
theorem dX3_hashOfCars_24 : decode cX3_hashOfCars 24 = .ok (.lload_n 3, 1) := by decide +kernel
theorem dX3_hashOfCars_25 : decode cX3_hashOfCars 25 = .ok (.aload_n 0, 1) := by decide +kernel
theorem dX3_hashOfCars_26 : decode cX3_hashOfCars 26 = .ok (.getfield 10, 3) := by decide +kernel
theorem dX3_hashOfCars_29 : decode cX3_hashOfCars 29 = .ok (.getfield 169, 3) := by decide +kernel
theorem dX3_hashOfCars_32 : decode cX3_hashOfCars 32 = .ok (.iload 5, 2) := by decide +kernel
theorem dX3_hashOfCars_34 : decode cX3_hashOfCars 34 = .ok (.iaload, 1) := by decide +kernel
theorem dX3_hashOfCars_35 : decode cX3_hashOfCars 35 = .ok (.i2l, 1) := by decide +kernel
theorem dX3_hashOfCars_36 : decode cX3_hashOfCars 36 = .ok (.invokestatic 293, 3) := by decide +kernel
theorem dX3_hashOfCars_39 : decode cX3_hashOfCars 39 = .ok (.lstore_n 3, 1) := by decide +kernel
theorem dX3_hashOfCars_40 : decode cX3_hashOfCars 40 = .ok (.lload_n 3, 1) := by decide +kernel
theorem dX3_hashOfCars_41 : decode cX3_hashOfCars 41 = .ok (.aload_n 0, 1) := by decide +kernel
theorem dX3_hashOfCars_42 : decode cX3_hashOfCars 42 = .ok (.getfield 10, 3) := by decide +kernel
theorem dX3_hashOfCars_45 : decode cX3_hashOfCars 45 = .ok (.getfield 173, 3) := by decide +kernel
theorem dX3_hashOfCars_48 : decode cX3_hashOfCars 48 = .ok (.iload 5, 2) := by decide +kernel
theorem dX3_hashOfCars_50 : decode cX3_hashOfCars 50 = .ok (.iaload, 1) := by decide +kernel
theorem dX3_hashOfCars_51 : decode cX3_hashOfCars 51 = .ok (.i2l, 1) := by decide +kernel
theorem dX3_hashOfCars_52 : decode cX3_hashOfCars 52 = .ok (.invokestatic 293, 3) := by decide +kernel
theorem dX3_hashOfCars_55 : decode cX3_hashOfCars 55 = .ok (.lstore_n 3, 1) := by decide +kernel
theorem dX3_hashOfCars_56 : decode cX3_hashOfCars 56 = .ok (.lload_n 3, 1) := by decide +kernel
theorem dX3_hashOfCars_57 : decode cX3_hashOfCars 57 = .ok (.aload_n 0, 1) := by decide +kernel
theorem dX3_hashOfCars_58 : decode cX3_hashOfCars 58 = .ok (.getfield 10, 3) := by decide +kernel
theorem dX3_hashOfCars_61 : decode cX3_hashOfCars 61 = .ok (.getfield 176, 3) := by decide +kernel
theorem dX3_hashOfCars_64 : decode cX3_hashOfCars 64 = .ok (.iload 5, 2) := by decide +kernel
theorem dX3_hashOfCars_66 : decode cX3_hashOfCars 66 = .ok (.iaload, 1) := by decide +kernel
theorem dX3_hashOfCars_67 : decode cX3_hashOfCars 67 = .ok (.i2l, 1) := by decide +kernel
theorem dX3_hashOfCars_68 : decode cX3_hashOfCars 68 = .ok (.invokestatic 293, 3) := by decide +kernel
theorem dX3_hashOfCars_71 : decode cX3_hashOfCars 71 = .ok (.lstore_n 3, 1) := by decide +kernel
theorem dX3_hashOfCars_72 : decode cX3_hashOfCars 72 = .ok (.lload_n 3, 1) := by decide +kernel
theorem dX3_hashOfCars_73 : decode cX3_hashOfCars 73 = .ok (.aload_n 0, 1) := by decide +kernel
theorem dX3_hashOfCars_74 : decode cX3_hashOfCars 74 = .ok (.getfield 10, 3) := by decide +kernel
theorem dX3_hashOfCars_77 : decode cX3_hashOfCars 77 = .ok (.iload 5, 2) := by decide +kernel
theorem dX3_hashOfCars_79 : decode cX3_hashOfCars 79 = .ok (.invokevirtual 210, 3) := by decide +kernel
theorem dX3_hashOfCars_82 : decode cX3_hashOfCars 82 = .ok (.i2l, 1) := by decide +kernel
theorem dX3_hashOfCars_83 : decode cX3_hashOfCars 83 = .ok (.invokestatic 293, 3) := by decide +kernel
theorem dX3_hashOfCars_86 : decode cX3_hashOfCars 86 = .ok (.lstore_n 3, 1) := by decide +kernel
theorem dX3_hashOfCars_87 : decode cX3_hashOfCars 87 = .ok (.lload_n 3, 1) := by decide +kernel
theorem dX3_hashOfCars_88 : decode cX3_hashOfCars 88 = .ok (.aload_n 0, 1) := by decide +kernel
theorem dX3_hashOfCars_89 : decode cX3_hashOfCars 89 = .ok (.getfield 10, 3) := by decide +kernel
theorem dX3_hashOfCars_92 : decode cX3_hashOfCars 92 = .ok (.iload 5, 2) := by decide +kernel
theorem dX3_hashOfCars_94 : decode cX3_hashOfCars 94 = .ok (.iconst 1, 1) := by decide +kernel
theorem dX3_hashOfCars_95 : decode cX3_hashOfCars 95 = .ok (.invokevirtual 196, 3) := by decide +kernel
theorem dX3_hashOfCars_98 : decode cX3_hashOfCars 98 = .ok (.i2l, 1) := by decide +kernel
theorem dX3_hashOfCars_99 : decode cX3_hashOfCars 99 = .ok (.invokestatic 293, 3) := by decide +kernel
theorem dX3_hashOfCars_102 : decode cX3_hashOfCars 102 = .ok (.lstore_n 3, 1) := by decide +kernel
theorem dX3_hashOfCars_103 : decode cX3_hashOfCars 103 = .ok (.lload_n 3, 1) := by decide +kernel
theorem dX3_hashOfCars_104 : decode cX3_hashOfCars 104 = .ok (.aload_n 0, 1) := by decide +kernel
theorem dX3_hashOfCars_105 : decode cX3_hashOfCars 105 = .ok (.getfield 10, 3) := by decide +kernel
theorem dX3_hashOfCars_108 : decode cX3_hashOfCars 108 = .ok (.iload 5, 2) := by decide +kernel
theorem dX3_hashOfCars_110 : decode cX3_hashOfCars 110 = .ok (.iconst (-1), 1) := by decide +kernel
theorem dX3_hashOfCars_111 : decode cX3_hashOfCars 111 = .ok (.invokevirtual 196, 3) := by decide +kernel
theorem dX3_hashOfCars_114 : decode cX3_hashOfCars 114 = .ok (.i2l, 1) := by decide +kernel
theorem dX3_hashOfCars_115 : decode cX3_hashOfCars 115 = .ok (.invokestatic 293, 3) := by decide +kernel
theorem dX3_hashOfCars_118 : decode cX3_hashOfCars 118 = .ok (.lstore_n 3, 1) := by decide +kernel
theorem dX3_hashOfCars_119 : decode cX3_hashOfCars 119 = .ok (.iinc 5 1, 3) := by decide +kernel
theorem dX3_hashOfCars_122 : decode cX3_hashOfCars 122 = .ok (.goto (-117), 3) := by decide +kernel
theorem dX3_hashOfCars_125 : decode cX3_hashOfCars 125 = .ok (.lload_n 3, 1) := by decide +kernel
theorem dX3_hashOfCars_126 : decode cX3_hashOfCars 126 = .ok (.lreturn, 1) := by decide +kernel
theorem dX3_hashOfLog_0 : decode cX3_hashOfLog 0 = .ok (.lload_n 1, 1) := by decide +kernel
theorem dX3_hashOfLog_1 : decode cX3_hashOfLog 1 = .ok (.lstore_n 3, 1) := by decide +kernel
theorem dX3_hashOfLog_2 : decode cX3_hashOfLog 2 = .ok (.iconst 0, 1) := by decide +kernel
theorem dX3_hashOfLog_3 : decode cX3_hashOfLog 3 = .ok (.istore 5, 2) := by decide +kernel
theorem dX3_hashOfLog_5 : decode cX3_hashOfLog 5 = .ok (.iload 5, 2) := by decide +kernel
theorem dX3_hashOfLog_7 : decode cX3_hashOfLog 7 = .ok (.aload_n 0, 1) := by decide +kernel
theorem dX3_hashOfLog_8 : decode cX3_hashOfLog 8 = .ok (.getfield 10, 3) := by decide +kernel
theorem dX3_hashOfLog_11 : decode cX3_hashOfLog 11 = .ok (.getfield 85, 3) := by decide +kernel
theorem dX3_hashOfLog_14 : decode cX3_hashOfLog 14 = .ok (.if_icmp .ge 48, 3) := by decide +kernel
theorem dX3_hashOfLog_17 : decode cX3_hashOfLog 17 = .ok (.iload 5, 2) := by decide +kernel
theorem dX3_hashOfLog_19 : decode cX3_hashOfLog 19 = .ok (.bipush 60, 2) := by decide +kernel
theorem dX3_hashOfLog_21 : decode cX3_hashOfLog 21 = .ok (.if_icmp .ge 41, 3) := by decide +kernel
theorem dX3_hashOfLog_24 : decode cX3_hashOfLog 24 = .ok (.lload_n 3, 1) := by decide +kernel
theorem dX3_hashOfLog_25 : decode cX3_hashOfLog 25 = .ok (.aload_n 0, 1) := by decide +kernel
theorem dX3_hashOfLog_26 : decode cX3_hashOfLog 26 = .ok (.getfield 10, 3) := by decide +kernel
theorem dX3_hashOfLog_29 : decode cX3_hashOfLog 29 = .ok (.getfield 204, 3) := by decide +kernel
theorem dX3_hashOfLog_32 : decode cX3_hashOfLog 32 = .ok (.iload 5, 2) := by decide +kernel
theorem dX3_hashOfLog_34 : decode cX3_hashOfLog 34 = .ok (.iaload, 1) := by decide +kernel
theorem dX3_hashOfLog_35 : decode cX3_hashOfLog 35 = .ok (.i2l, 1) := by decide +kernel
theorem dX3_hashOfLog_36 : decode cX3_hashOfLog 36 = .ok (.invokestatic 293, 3) := by decide +kernel
theorem dX3_hashOfLog_39 : decode cX3_hashOfLog 39 = .ok (.lstore_n 3, 1) := by decide +kernel
theorem dX3_hashOfLog_40 : decode cX3_hashOfLog 40 = .ok (.lload_n 3, 1) := by decide +kernel
theorem dX3_hashOfLog_41 : decode cX3_hashOfLog 41 = .ok (.aload_n 0, 1) := by decide +kernel
theorem dX3_hashOfLog_42 : decode cX3_hashOfLog 42 = .ok (.getfield 10, 3) := by decide +kernel
theorem dX3_hashOfLog_45 : decode cX3_hashOfLog 45 = .ok (.getfield 207, 3) := by decide +kernel
theorem dX3_hashOfLog_48 : decode cX3_hashOfLog 48 = .ok (.iload 5, 2) := by decide +kernel
theorem dX3_hashOfLog_50 : decode cX3_hashOfLog 50 = .ok (.iaload, 1) := by decide +kernel
theorem dX3_hashOfLog_51 : decode cX3_hashOfLog 51 = .ok (.i2l, 1) := by decide +kernel
theorem dX3_hashOfLog_52 : decode cX3_hashOfLog 52 = .ok (.invokestatic 293, 3) := by decide +kernel
theorem dX3_hashOfLog_55 : decode cX3_hashOfLog 55 = .ok (.lstore_n 3, 1) := by decide +kernel
theorem dX3_hashOfLog_56 : decode cX3_hashOfLog 56 = .ok (.iinc 5 1, 3) := by decide +kernel
theorem dX3_hashOfLog_59 : decode cX3_hashOfLog 59 = .ok (.goto (-54), 3) := by decide +kernel
theorem dX3_hashOfLog_62 : decode cX3_hashOfLog 62 = .ok (.lload_n 3, 1) := by decide +kernel
theorem dX3_hashOfLog_63 : decode cX3_hashOfLog 63 = .ok (.lreturn, 1) := by decide +kernel
theorem dX3_hashOfText_0 : decode cX3_hashOfText 0 = .ok (.lload_n 1, 1) := by decide +kernel
theorem dX3_hashOfText_1 : decode cX3_hashOfText 1 = .ok (.aload_n 0, 1) := by decide +kernel
theorem dX3_hashOfText_2 : decode cX3_hashOfText 2 = .ok (.getfield 33, 3) := by decide +kernel
theorem dX3_hashOfText_5 : decode cX3_hashOfText 5 = .ok (.getfield 111, 3) := by decide +kernel
theorem dX3_hashOfText_8 : decode cX3_hashOfText 8 = .ok (.i2l, 1) := by decide +kernel
theorem dX3_hashOfText_9 : decode cX3_hashOfText 9 = .ok (.invokestatic 293, 3) := by decide +kernel
theorem dX3_hashOfText_12 : decode cX3_hashOfText 12 = .ok (.lstore_n 3, 1) := by decide +kernel
theorem dX3_hashOfText_13 : decode cX3_hashOfText 13 = .ok (.iconst 0, 1) := by decide +kernel
theorem dX3_hashOfText_14 : decode cX3_hashOfText 14 = .ok (.istore 5, 2) := by decide +kernel
theorem dX3_hashOfText_16 : decode cX3_hashOfText 16 = .ok (.iload 5, 2) := by decide +kernel
theorem dX3_hashOfText_18 : decode cX3_hashOfText 18 = .ok (.aload_n 0, 1) := by decide +kernel
theorem dX3_hashOfText_19 : decode cX3_hashOfText 19 = .ok (.getfield 33, 3) := by decide +kernel
theorem dX3_hashOfText_22 : decode cX3_hashOfText 22 = .ok (.getfield 111, 3) := by decide +kernel
theorem dX3_hashOfText_25 : decode cX3_hashOfText 25 = .ok (.if_icmp .ge 24, 3) := by decide +kernel
theorem dX3_hashOfText_28 : decode cX3_hashOfText 28 = .ok (.lload_n 3, 1) := by decide +kernel
theorem dX3_hashOfText_29 : decode cX3_hashOfText 29 = .ok (.aload_n 0, 1) := by decide +kernel
theorem dX3_hashOfText_30 : decode cX3_hashOfText 30 = .ok (.getfield 33, 3) := by decide +kernel
theorem dX3_hashOfText_33 : decode cX3_hashOfText 33 = .ok (.iload 5, 2) := by decide +kernel
theorem dX3_hashOfText_35 : decode cX3_hashOfText 35 = .ok (.invokevirtual 329, 3) := by decide +kernel
theorem dX3_hashOfText_38 : decode cX3_hashOfText 38 = .ok (.i2l, 1) := by decide +kernel
theorem dX3_hashOfText_39 : decode cX3_hashOfText 39 = .ok (.invokestatic 293, 3) := by decide +kernel
theorem dX3_hashOfText_42 : decode cX3_hashOfText 42 = .ok (.lstore_n 3, 1) := by decide +kernel
theorem dX3_hashOfText_43 : decode cX3_hashOfText 43 = .ok (.iinc 5 1, 3) := by decide +kernel
theorem dX3_hashOfText_46 : decode cX3_hashOfText 46 = .ok (.goto (-30), 3) := by decide +kernel
theorem dX3_hashOfText_49 : decode cX3_hashOfText 49 = .ok (.lload_n 3, 1) := by decide +kernel
theorem dX3_hashOfText_50 : decode cX3_hashOfText 50 = .ok (.lreturn, 1) := by decide +kernel
theorem dX4_init_0 : decode cX4_init 0 = .ok (.aload_n 0, 1) := by decide +kernel
theorem dX4_init_1 : decode cX4_init 1 = .ok (.invokespecial 1, 3) := by decide +kernel
theorem dX4_init_4 : decode cX4_init 4 = .ok (.aload_n 0, 1) := by decide +kernel
theorem dX4_init_5 : decode cX4_init 5 = .ok (.bipush 60, 2) := by decide +kernel
theorem dX4_init_7 : decode cX4_init 7 = .ok (.newarray .int, 2) := by decide +kernel
theorem dX4_init_9 : decode cX4_init 9 = .ok (.putfield 7, 3) := by decide +kernel
theorem dX4_init_12 : decode cX4_init 12 = .ok (.aload_n 0, 1) := by decide +kernel
theorem dX4_init_13 : decode cX4_init 13 = .ok (.bipush 82, 2) := by decide +kernel
theorem dX4_init_15 : decode cX4_init 15 = .ok (.newarray .int, 2) := by decide +kernel
theorem dX4_init_17 : decode cX4_init 17 = .ok (.putfield 13, 3) := by decide +kernel
theorem dX4_init_20 : decode cX4_init 20 = .ok (.aload_n 0, 1) := by decide +kernel
theorem dX4_init_21 : decode cX4_init 21 = .ok (.sipush 410, 3) := by decide +kernel
theorem dX4_init_24 : decode cX4_init 24 = .ok (.newarray .int, 2) := by decide +kernel
theorem dX4_init_26 : decode cX4_init 26 = .ok (.putfield 16, 3) := by decide +kernel
theorem dX4_init_29 : decode cX4_init 29 = .ok (.aload_n 0, 1) := by decide +kernel
theorem dX4_init_30 : decode cX4_init 30 = .ok (.bipush 82, 2) := by decide +kernel
theorem dX4_init_32 : decode cX4_init 32 = .ok (.newarray .int, 2) := by decide +kernel
theorem dX4_init_34 : decode cX4_init 34 = .ok (.putfield 19, 3) := by decide +kernel
theorem dX4_init_37 : decode cX4_init 37 = .ok (.aload_n 0, 1) := by decide +kernel
theorem dX4_init_38 : decode cX4_init 38 = .ok (.bipush 24, 2) := by decide +kernel
theorem dX4_init_40 : decode cX4_init 40 = .ok (.newarray .int, 2) := by decide +kernel
theorem dX4_init_42 : decode cX4_init 42 = .ok (.putfield 22, 3) := by decide +kernel
theorem dX4_init_45 : decode cX4_init 45 = .ok (.aload_n 0, 1) := by decide +kernel
theorem dX4_init_46 : decode cX4_init 46 = .ok (.sipush 4096, 3) := by decide +kernel
theorem dX4_init_49 : decode cX4_init 49 = .ok (.newarray .int, 2) := by decide +kernel
theorem dX4_init_51 : decode cX4_init 51 = .ok (.putfield 25, 3) := by decide +kernel
theorem dX4_init_54 : decode cX4_init 54 = .ok (.aload_n 0, 1) := by decide +kernel
theorem dX4_init_55 : decode cX4_init 55 = .ok (.sipush 4096, 3) := by decide +kernel
theorem dX4_init_58 : decode cX4_init 58 = .ok (.newarray .int, 2) := by decide +kernel
theorem dX4_init_60 : decode cX4_init 60 = .ok (.putfield 28, 3) := by decide +kernel
theorem dX4_init_63 : decode cX4_init 63 = .ok (.aload_n 0, 1) := by decide +kernel
theorem dX4_init_64 : decode cX4_init 64 = .ok (.sipush 4096, 3) := by decide +kernel
theorem dX4_init_67 : decode cX4_init 67 = .ok (.newarray .boolean, 2) := by decide +kernel
theorem dX4_init_69 : decode cX4_init 69 = .ok (.putfield 31, 3) := by decide +kernel
theorem dX4_init_72 : decode cX4_init 72 = .ok (.aload_n 0, 1) := by decide +kernel
theorem dX4_init_73 : decode cX4_init 73 = .ok (.getfield 13, 3) := by decide +kernel
theorem dX4_init_76 : decode cX4_init 76 = .ok (.bipush 81, 2) := by decide +kernel
theorem dX4_init_78 : decode cX4_init 78 = .ok (.iconst (-1), 1) := by decide +kernel
theorem dX4_init_79 : decode cX4_init 79 = .ok (.iastore, 1) := by decide +kernel
theorem dX4_init_80 : decode cX4_init 80 = .ok (.return_, 1) := by decide +kernel
theorem dX4_thrown_0 : decode cX4_thrown 0 = .ok (.aload_n 0, 1) := by decide +kernel
theorem dX4_thrown_1 : decode cX4_thrown 1 = .ok (.getfield 35, 3) := by decide +kernel
theorem dX4_thrown_4 : decode cX4_thrown 4 = .ok (.ireturn, 1) := by decide +kernel
theorem dX4_refused_0 : decode cX4_refused 0 = .ok (.aload_n 0, 1) := by decide +kernel
theorem dX4_refused_1 : decode cX4_refused 1 = .ok (.iload_n 1, 1) := by decide +kernel
theorem dX4_refused_2 : decode cX4_refused 2 = .ok (.putfield 35, 3) := by decide +kernel
theorem dX4_refused_5 : decode cX4_refused 5 = .ok (.iload_n 1, 1) := by decide +kernel
theorem dX4_refused_6 : decode cX4_refused 6 = .ok (.ifCond .le 7, 3) := by decide +kernel
theorem dX4_refused_9 : decode cX4_refused 9 = .ok (.iconst 1, 1) := by decide +kernel
theorem dX4_refused_10 : decode cX4_refused 10 = .ok (.goto 4, 3) := by decide +kernel
theorem dX4_refused_13 : decode cX4_refused 13 = .ok (.iconst 0, 1) := by decide +kernel
theorem dX4_refused_14 : decode cX4_refused 14 = .ok (.ireturn, 1) := by decide +kernel
theorem dX4_in_0 : decode cX4_in 0 = .ok (.lload_n 0, 1) := by decide +kernel
theorem dX4_in_1 : decode cX4_in 1 = .ok (.lload_n 2, 1) := by decide +kernel
theorem dX4_in_2 : decode cX4_in 2 = .ok (.lcmp, 1) := by decide +kernel
theorem dX4_in_3 : decode cX4_in 3 = .ok (.ifCond .lt 14, 3) := by decide +kernel
theorem dX4_in_6 : decode cX4_in 6 = .ok (.lload_n 0, 1) := by decide +kernel
theorem dX4_in_7 : decode cX4_in 7 = .ok (.lload 4, 2) := by decide +kernel
theorem dX4_in_9 : decode cX4_in 9 = .ok (.lcmp, 1) := by decide +kernel
theorem dX4_in_10 : decode cX4_in 10 = .ok (.ifCond .gt 7, 3) := by decide +kernel
theorem dX4_in_13 : decode cX4_in 13 = .ok (.iconst 1, 1) := by decide +kernel
theorem dX4_in_14 : decode cX4_in 14 = .ok (.goto 4, 3) := by decide +kernel
theorem dX4_in_17 : decode cX4_in 17 = .ok (.iconst 0, 1) := by decide +kernel
theorem dX4_in_18 : decode cX4_in 18 = .ok (.ireturn, 1) := by decide +kernel
theorem dX4_copyState_0 : decode cX4_copyState 0 = .ok (.iconst 0, 1) := by decide +kernel
theorem dX4_copyState_1 : decode cX4_copyState 1 = .ok (.istore 4, 2) := by decide +kernel
theorem dX4_copyState_3 : decode cX4_copyState 3 = .ok (.iload 4, 2) := by decide +kernel
theorem dX4_copyState_5 : decode cX4_copyState 5 = .ok (.bipush 82, 2) := by decide +kernel
theorem dX4_copyState_7 : decode cX4_copyState 7 = .ok (.if_icmp .ge 21, 3) := by decide +kernel
theorem dX4_copyState_10 : decode cX4_copyState 10 = .ok (.aload_n 2, 1) := by decide +kernel
theorem dX4_copyState_11 : decode cX4_copyState 11 = .ok (.iload_n 3, 1) := by decide +kernel
theorem dX4_copyState_12 : decode cX4_copyState 12 = .ok (.iload 4, 2) := by decide +kernel
theorem dX4_copyState_14 : decode cX4_copyState 14 = .ok (.iadd, 1) := by decide +kernel
theorem dX4_copyState_15 : decode cX4_copyState 15 = .ok (.aload_n 0, 1) := by decide +kernel
theorem dX4_copyState_16 : decode cX4_copyState 16 = .ok (.iload_n 1, 1) := by decide +kernel
theorem dX4_copyState_17 : decode cX4_copyState 17 = .ok (.iload 4, 2) := by decide +kernel
theorem dX4_copyState_19 : decode cX4_copyState 19 = .ok (.iadd, 1) := by decide +kernel
theorem dX4_copyState_20 : decode cX4_copyState 20 = .ok (.iaload, 1) := by decide +kernel
theorem dX4_copyState_21 : decode cX4_copyState 21 = .ok (.iastore, 1) := by decide +kernel
theorem dX4_copyState_22 : decode cX4_copyState 22 = .ok (.iinc 4 1, 3) := by decide +kernel
theorem dX4_copyState_25 : decode cX4_copyState 25 = .ok (.goto (-22), 3) := by decide +kernel
theorem dX4_copyState_28 : decode cX4_copyState 28 = .ok (.return_, 1) := by decide +kernel
theorem dX4_bits_0 : decode cX4_bits 0 = .ok (.iconst 0, 1) := by decide +kernel
theorem dX4_bits_1 : decode cX4_bits 1 = .ok (.istore_n 1, 1) := by decide +kernel
theorem dX4_bits_2 : decode cX4_bits 2 = .ok (.iload_n 0, 1) := by decide +kernel
theorem dX4_bits_3 : decode cX4_bits 3 = .ok (.istore_n 2, 1) := by decide +kernel
theorem dX4_bits_4 : decode cX4_bits 4 = .ok (.iload_n 2, 1) := by decide +kernel
theorem dX4_bits_5 : decode cX4_bits 5 = .ok (.ifCond .eq 15, 3) := by decide +kernel
theorem dX4_bits_8 : decode cX4_bits 8 = .ok (.iinc 1 1, 3) := by decide +kernel
theorem dX4_bits_11 : decode cX4_bits 11 = .ok (.iload_n 2, 1) := by decide +kernel
theorem dX4_bits_12 : decode cX4_bits 12 = .ok (.iload_n 2, 1) := by decide +kernel
theorem dX4_bits_13 : decode cX4_bits 13 = .ok (.iconst 1, 1) := by decide +kernel
theorem dX4_bits_14 : decode cX4_bits 14 = .ok (.isub, 1) := by decide +kernel
theorem dX4_bits_15 : decode cX4_bits 15 = .ok (.iand, 1) := by decide +kernel
theorem dX4_bits_16 : decode cX4_bits 16 = .ok (.istore_n 2, 1) := by decide +kernel
theorem dX4_bits_17 : decode cX4_bits 17 = .ok (.goto (-13), 3) := by decide +kernel
theorem dX4_bits_20 : decode cX4_bits 20 = .ok (.iload_n 1, 1) := by decide +kernel
theorem dX4_bits_21 : decode cX4_bits 21 = .ok (.ireturn, 1) := by decide +kernel
theorem dX4_cells_0 : decode cX4_cells 0 = .ok (.iconst 0, 1) := by decide +kernel
theorem dX4_cells_1 : decode cX4_cells 1 = .ok (.istore_n 3, 1) := by decide +kernel
theorem dX4_cells_2 : decode cX4_cells 2 = .ok (.iload_n 1, 1) := by decide +kernel
theorem dX4_cells_3 : decode cX4_cells 3 = .ok (.istore 4, 2) := by decide +kernel
theorem dX4_cells_5 : decode cX4_cells 5 = .ok (.iload 4, 2) := by decide +kernel
theorem dX4_cells_7 : decode cX4_cells 7 = .ok (.iload_n 1, 1) := by decide +kernel
theorem dX4_cells_8 : decode cX4_cells 8 = .ok (.iload_n 2, 1) := by decide +kernel
theorem dX4_cells_9 : decode cX4_cells 9 = .ok (.iadd, 1) := by decide +kernel
theorem dX4_cells_10 : decode cX4_cells 10 = .ok (.if_icmp .ge 36, 3) := by decide +kernel
theorem dX4_cells_13 : decode cX4_cells 13 = .ok (.iload_n 3, 1) := by decide +kernel
theorem dX4_cells_14 : decode cX4_cells 14 = .ok (.iconst 1, 1) := by decide +kernel
theorem dX4_cells_15 : decode cX4_cells 15 = .ok (.iload_n 0, 1) := by decide +kernel
theorem dX4_cells_16 : decode cX4_cells 16 = .ok (.iconst 5, 1) := by decide +kernel
theorem dX4_cells_17 : decode cX4_cells 17 = .ok (.if_icmp .ge 12, 3) := by decide +kernel
theorem dX4_cells_20 : decode cX4_cells 20 = .ok (.iconst 5, 1) := by decide +kernel
theorem dX4_cells_21 : decode cX4_cells 21 = .ok (.iload_n 0, 1) := by decide +kernel
theorem dX4_cells_22 : decode cX4_cells 22 = .ok (.imul, 1) := by decide +kernel
theorem dX4_cells_23 : decode cX4_cells 23 = .ok (.iload 4, 2) := by decide +kernel
theorem dX4_cells_25 : decode cX4_cells 25 = .ok (.iadd, 1) := by decide +kernel
theorem dX4_cells_26 : decode cX4_cells 26 = .ok (.goto 11, 3) := by decide +kernel
theorem dX4_cells_29 : decode cX4_cells 29 = .ok (.iconst 5, 1) := by decide +kernel
theorem dX4_cells_30 : decode cX4_cells 30 = .ok (.iload 4, 2) := by decide +kernel
theorem dX4_cells_32 : decode cX4_cells 32 = .ok (.imul, 1) := by decide +kernel
theorem dX4_cells_33 : decode cX4_cells 33 = .ok (.iload_n 0, 1) := by decide +kernel
theorem dX4_cells_34 : decode cX4_cells 34 = .ok (.iadd, 1) := by decide +kernel
theorem dX4_cells_35 : decode cX4_cells 35 = .ok (.iconst 5, 1) := by decide +kernel
theorem dX4_cells_36 : decode cX4_cells 36 = .ok (.isub, 1) := by decide +kernel
theorem dX4_cells_37 : decode cX4_cells 37 = .ok (.ishl, 1) := by decide +kernel
theorem dX4_cells_38 : decode cX4_cells 38 = .ok (.ior, 1) := by decide +kernel
theorem dX4_cells_39 : decode cX4_cells 39 = .ok (.istore_n 3, 1) := by decide +kernel
theorem dX4_cells_40 : decode cX4_cells 40 = .ok (.iinc 4 1, 3) := by decide +kernel
theorem dX4_cells_43 : decode cX4_cells 43 = .ok (.goto (-38), 3) := by decide +kernel
theorem dX4_cells_46 : decode cX4_cells 46 = .ok (.iload_n 3, 1) := by decide +kernel
theorem dX4_cells_47 : decode cX4_cells 47 = .ok (.ireturn, 1) := by decide +kernel
theorem dX4_cellsOf_0 : decode cX4_cellsOf 0 = .ok (.aload_n 0, 1) := by decide +kernel
theorem dX4_cellsOf_1 : decode cX4_cellsOf 1 = .ok (.getfield 13, 3) := by decide +kernel
theorem dX4_cellsOf_4 : decode cX4_cellsOf 4 = .ok (.iconst 1, 1) := by decide +kernel
theorem dX4_cellsOf_5 : decode cX4_cellsOf 5 = .ok (.iload_n 1, 1) := by decide +kernel
theorem dX4_cellsOf_6 : decode cX4_cellsOf 6 = .ok (.iadd, 1) := by decide +kernel
theorem dX4_cellsOf_7 : decode cX4_cellsOf 7 = .ok (.iaload, 1) := by decide +kernel
theorem dX4_cellsOf_8 : decode cX4_cellsOf 8 = .ok (.aload_n 0, 1) := by decide +kernel
theorem dX4_cellsOf_9 : decode cX4_cellsOf 9 = .ok (.getfield 13, 3) := by decide +kernel
theorem dX4_cellsOf_12 : decode cX4_cellsOf 12 = .ok (.bipush 7, 2) := by decide +kernel
theorem dX4_cellsOf_14 : decode cX4_cellsOf 14 = .ok (.iload_n 1, 1) := by decide +kernel
theorem dX4_cellsOf_15 : decode cX4_cellsOf 15 = .ok (.iadd, 1) := by decide +kernel
theorem dX4_cellsOf_16 : decode cX4_cellsOf 16 = .ok (.iaload, 1) := by decide +kernel
theorem dX4_cellsOf_17 : decode cX4_cellsOf 17 = .ok (.aload_n 0, 1) := by decide +kernel
theorem dX4_cellsOf_18 : decode cX4_cellsOf 18 = .ok (.getfield 13, 3) := by decide +kernel
theorem dX4_cellsOf_21 : decode cX4_cellsOf 21 = .ok (.bipush 13, 2) := by decide +kernel
theorem dX4_cellsOf_23 : decode cX4_cellsOf 23 = .ok (.iload_n 1, 1) := by decide +kernel
theorem dX4_cellsOf_24 : decode cX4_cellsOf 24 = .ok (.iadd, 1) := by decide +kernel
theorem dX4_cellsOf_25 : decode cX4_cellsOf 25 = .ok (.iaload, 1) := by decide +kernel
theorem dX4_cellsOf_26 : decode cX4_cellsOf 26 = .ok (.invokestatic 39, 3) := by decide +kernel
theorem dX4_cellsOf_29 : decode cX4_cellsOf 29 = .ok (.ireturn, 1) := by decide +kernel
theorem dX4_occupied_0 : decode cX4_occupied 0 = .ok (.aload_n 0, 1) := by decide +kernel
theorem dX4_occupied_1 : decode cX4_occupied 1 = .ok (.getfield 13, 3) := by decide +kernel
theorem dX4_occupied_4 : decode cX4_occupied 4 = .ok (.bipush 19, 2) := by decide +kernel
theorem dX4_occupied_6 : decode cX4_occupied 6 = .ok (.iaload, 1) := by decide +kernel
theorem dX4_occupied_7 : decode cX4_occupied 7 = .ok (.istore_n 1, 1) := by decide +kernel
theorem dX4_occupied_8 : decode cX4_occupied 8 = .ok (.iconst 0, 1) := by decide +kernel
theorem dX4_occupied_9 : decode cX4_occupied 9 = .ok (.istore_n 2, 1) := by decide +kernel
theorem dX4_occupied_10 : decode cX4_occupied 10 = .ok (.iload_n 2, 1) := by decide +kernel
theorem dX4_occupied_11 : decode cX4_occupied 11 = .ok (.aload_n 0, 1) := by decide +kernel
theorem dX4_occupied_12 : decode cX4_occupied 12 = .ok (.getfield 13, 3) := by decide +kernel
theorem dX4_occupied_15 : decode cX4_occupied 15 = .ok (.iconst 0, 1) := by decide +kernel
theorem dX4_occupied_16 : decode cX4_occupied 16 = .ok (.iaload, 1) := by decide +kernel
theorem dX4_occupied_17 : decode cX4_occupied 17 = .ok (.if_icmp .ge 17, 3) := by decide +kernel
theorem dX4_occupied_20 : decode cX4_occupied 20 = .ok (.iload_n 1, 1) := by decide +kernel
theorem dX4_occupied_21 : decode cX4_occupied 21 = .ok (.aload_n 0, 1) := by decide +kernel
theorem dX4_occupied_22 : decode cX4_occupied 22 = .ok (.iload_n 2, 1) := by decide +kernel
theorem dX4_occupied_23 : decode cX4_occupied 23 = .ok (.invokevirtual 43, 3) := by decide +kernel
theorem dX4_occupied_26 : decode cX4_occupied 26 = .ok (.ior, 1) := by decide +kernel
theorem dX4_occupied_27 : decode cX4_occupied 27 = .ok (.istore_n 1, 1) := by decide +kernel
theorem dX4_occupied_28 : decode cX4_occupied 28 = .ok (.iinc 2 1, 3) := by decide +kernel
theorem dX4_occupied_31 : decode cX4_occupied 31 = .ok (.goto (-21), 3) := by decide +kernel
theorem dX4_occupied_34 : decode cX4_occupied 34 = .ok (.iload_n 1, 1) := by decide +kernel
theorem dX4_occupied_35 : decode cX4_occupied 35 = .ok (.ireturn, 1) := by decide +kernel
theorem dX4_isCar_0 : decode cX4_isCar 0 = .ok (.iload_n 1, 1) := by decide +kernel
theorem dX4_isCar_1 : decode cX4_isCar 1 = .ok (.i2l, 1) := by decide +kernel
theorem dX4_isCar_2 : decode cX4_isCar 2 = .ok (.lconst 0, 1) := by decide +kernel
theorem dX4_isCar_3 : decode cX4_isCar 3 = .ok (.aload_n 0, 1) := by decide +kernel
theorem dX4_isCar_4 : decode cX4_isCar 4 = .ok (.getfield 13, 3) := by decide +kernel
theorem dX4_isCar_7 : decode cX4_isCar 7 = .ok (.iconst 0, 1) := by decide +kernel
theorem dX4_isCar_8 : decode cX4_isCar 8 = .ok (.iaload, 1) := by decide +kernel
theorem dX4_isCar_9 : decode cX4_isCar 9 = .ok (.iconst 1, 1) := by decide +kernel
theorem dX4_isCar_10 : decode cX4_isCar 10 = .ok (.isub, 1) := by decide +kernel
theorem dX4_isCar_11 : decode cX4_isCar 11 = .ok (.i2l, 1) := by decide +kernel
theorem dX4_isCar_12 : decode cX4_isCar 12 = .ok (.invokestatic 47, 3) := by decide +kernel
theorem dX4_isCar_15 : decode cX4_isCar 15 = .ok (.ireturn, 1) := by decide +kernel
theorem dX4_isCell_0 : decode cX4_isCell 0 = .ok (.iload_n 0, 1) := by decide +kernel
theorem dX4_isCell_1 : decode cX4_isCell 1 = .ok (.i2l, 1) := by decide +kernel
theorem dX4_isCell_2 : decode cX4_isCell 2 = .ok (.lconst 0, 1) := by decide +kernel
theorem dX4_isCell_3 : decode cX4_isCell 3 = .ok (.ldc2_w 51, 3) := by decide +kernel
theorem dX4_isCell_6 : decode cX4_isCell 6 = .ok (.invokestatic 47, 3) := by decide +kernel
theorem dX4_isCell_9 : decode cX4_isCell 9 = .ok (.ireturn, 1) := by decide +kernel
theorem dX4_space_0 : decode cX4_space 0 = .ok (.aload_n 0, 1) := by decide +kernel
theorem dX4_space_1 : decode cX4_space 1 = .ok (.invokevirtual 53, 3) := by decide +kernel
theorem dX4_space_4 : decode cX4_space 4 = .ok (.aload_n 0, 1) := by decide +kernel
theorem dX4_space_5 : decode cX4_space 5 = .ok (.iload_n 1, 1) := by decide +kernel
theorem dX4_space_6 : decode cX4_space 6 = .ok (.invokevirtual 43, 3) := by decide +kernel
theorem dX4_space_9 : decode cX4_space 9 = .ok (.iconst (-1), 1) := by decide +kernel
theorem dX4_space_10 : decode cX4_space 10 = .ok (.ixor, 1) := by decide +kernel
theorem dX4_space_11 : decode cX4_space 11 = .ok (.iand, 1) := by decide +kernel
theorem dX4_space_12 : decode cX4_space 12 = .ok (.istore_n 3, 1) := by decide +kernel
theorem dX4_space_13 : decode cX4_space 13 = .ok (.iconst 0, 1) := by decide +kernel
theorem dX4_space_14 : decode cX4_space 14 = .ok (.istore 4, 2) := by decide +kernel
theorem dX4_space_16 : decode cX4_space 16 = .ok (.iconst 1, 1) := by decide +kernel
theorem dX4_space_17 : decode cX4_space 17 = .ok (.istore 5, 2) := by decide +kernel
theorem dX4_space_19 : decode cX4_space 19 = .ok (.iload 5, 2) := by decide +kernel
theorem dX4_space_21 : decode cX4_space 21 = .ok (.ifCond .eq 101, 3) := by decide +kernel
theorem dX4_space_24 : decode cX4_space 24 = .ok (.aload_n 0, 1) := by decide +kernel
theorem dX4_space_25 : decode cX4_space 25 = .ok (.getfield 13, 3) := by decide +kernel
theorem dX4_space_28 : decode cX4_space 28 = .ok (.bipush 7, 2) := by decide +kernel
theorem dX4_space_30 : decode cX4_space 30 = .ok (.iload_n 1, 1) := by decide +kernel
theorem dX4_space_31 : decode cX4_space 31 = .ok (.iadd, 1) := by decide +kernel
theorem dX4_space_32 : decode cX4_space 32 = .ok (.iaload, 1) := by decide +kernel
theorem dX4_space_33 : decode cX4_space 33 = .ok (.iload_n 2, 1) := by decide +kernel
theorem dX4_space_34 : decode cX4_space 34 = .ok (.iload 4, 2) := by decide +kernel
theorem dX4_space_36 : decode cX4_space 36 = .ok (.iconst 1, 1) := by decide +kernel
theorem dX4_space_37 : decode cX4_space 37 = .ok (.iadd, 1) := by decide +kernel
theorem dX4_space_38 : decode cX4_space 38 = .ok (.imul, 1) := by decide +kernel
theorem dX4_space_39 : decode cX4_space 39 = .ok (.iadd, 1) := by decide +kernel
theorem dX4_space_40 : decode cX4_space 40 = .ok (.istore 6, 2) := by decide +kernel
theorem dX4_space_42 : decode cX4_space 42 = .ok (.iload 4, 2) := by decide +kernel
theorem dX4_space_44 : decode cX4_space 44 = .ok (.iconst 3, 1) := by decide +kernel
theorem dX4_space_45 : decode cX4_space 45 = .ok (.if_icmp .ge 56, 3) := by decide +kernel
theorem dX4_space_48 : decode cX4_space 48 = .ok (.iload 6, 2) := by decide +kernel
theorem dX4_space_50 : decode cX4_space 50 = .ok (.i2l, 1) := by decide +kernel
theorem dX4_space_51 : decode cX4_space 51 = .ok (.lconst 0, 1) := by decide +kernel
theorem dX4_space_52 : decode cX4_space 52 = .ok (.iconst 5, 1) := by decide +kernel
theorem dX4_space_53 : decode cX4_space 53 = .ok (.aload_n 0, 1) := by decide +kernel
theorem dX4_space_54 : decode cX4_space 54 = .ok (.getfield 13, 3) := by decide +kernel
theorem dX4_space_57 : decode cX4_space 57 = .ok (.bipush 13, 2) := by decide +kernel
theorem dX4_space_59 : decode cX4_space 59 = .ok (.iload_n 1, 1) := by decide +kernel
theorem dX4_space_60 : decode cX4_space 60 = .ok (.iadd, 1) := by decide +kernel
theorem dX4_space_61 : decode cX4_space 61 = .ok (.iaload, 1) := by decide +kernel
theorem dX4_space_62 : decode cX4_space 62 = .ok (.isub, 1) := by decide +kernel
theorem dX4_space_63 : decode cX4_space 63 = .ok (.i2l, 1) := by decide +kernel
theorem dX4_space_64 : decode cX4_space 64 = .ok (.invokestatic 47, 3) := by decide +kernel
theorem dX4_space_67 : decode cX4_space 67 = .ok (.ifCond .eq 34, 3) := by decide +kernel
theorem dX4_space_70 : decode cX4_space 70 = .ok (.aload_n 0, 1) := by decide +kernel
theorem dX4_space_71 : decode cX4_space 71 = .ok (.getfield 13, 3) := by decide +kernel
theorem dX4_space_74 : decode cX4_space 74 = .ok (.iconst 1, 1) := by decide +kernel
theorem dX4_space_75 : decode cX4_space 75 = .ok (.iload_n 1, 1) := by decide +kernel
theorem dX4_space_76 : decode cX4_space 76 = .ok (.iadd, 1) := by decide +kernel
theorem dX4_space_77 : decode cX4_space 77 = .ok (.iaload, 1) := by decide +kernel
theorem dX4_space_78 : decode cX4_space 78 = .ok (.iload 6, 2) := by decide +kernel
theorem dX4_space_80 : decode cX4_space 80 = .ok (.aload_n 0, 1) := by decide +kernel
theorem dX4_space_81 : decode cX4_space 81 = .ok (.getfield 13, 3) := by decide +kernel
theorem dX4_space_84 : decode cX4_space 84 = .ok (.bipush 13, 2) := by decide +kernel
theorem dX4_space_86 : decode cX4_space 86 = .ok (.iload_n 1, 1) := by decide +kernel
theorem dX4_space_87 : decode cX4_space 87 = .ok (.iadd, 1) := by decide +kernel
theorem dX4_space_88 : decode cX4_space 88 = .ok (.iaload, 1) := by decide +kernel
theorem dX4_space_89 : decode cX4_space 89 = .ok (.invokestatic 39, 3) := by decide +kernel
theorem dX4_space_92 : decode cX4_space 92 = .ok (.iload_n 3, 1) := by decide +kernel
theorem dX4_space_93 : decode cX4_space 93 = .ok (.iand, 1) := by decide +kernel
theorem dX4_space_94 : decode cX4_space 94 = .ok (.ifCond .ne 7, 3) := by decide +kernel
theorem dX4_space_97 : decode cX4_space 97 = .ok (.iconst 1, 1) := by decide +kernel
theorem dX4_space_98 : decode cX4_space 98 = .ok (.goto 4, 3) := by decide +kernel
theorem dX4_space_101 : decode cX4_space 101 = .ok (.iconst 0, 1) := by decide +kernel
theorem dX4_space_102 : decode cX4_space 102 = .ok (.istore 5, 2) := by decide +kernel
theorem dX4_space_104 : decode cX4_space 104 = .ok (.iload 4, 2) := by decide +kernel
theorem dX4_space_106 : decode cX4_space 106 = .ok (.iload 5, 2) := by decide +kernel
theorem dX4_space_108 : decode cX4_space 108 = .ok (.ifCond .eq 7, 3) := by decide +kernel
theorem dX4_space_111 : decode cX4_space 111 = .ok (.iconst 1, 1) := by decide +kernel
theorem dX4_space_112 : decode cX4_space 112 = .ok (.goto 4, 3) := by decide +kernel
theorem dX4_space_115 : decode cX4_space 115 = .ok (.iconst 0, 1) := by decide +kernel
theorem dX4_space_116 : decode cX4_space 116 = .ok (.iadd, 1) := by decide +kernel
theorem dX4_space_117 : decode cX4_space 117 = .ok (.istore 4, 2) := by decide +kernel
theorem dX4_space_119 : decode cX4_space 119 = .ok (.goto (-100), 3) := by decide +kernel
theorem dX4_space_122 : decode cX4_space 122 = .ok (.iload 4, 2) := by decide +kernel
theorem dX4_space_124 : decode cX4_space 124 = .ok (.ireturn, 1) := by decide +kernel
theorem dX4_canSlide_0 : decode cX4_canSlide 0 = .ok (.iload_n 2, 1) := by decide +kernel
theorem dX4_canSlide_1 : decode cX4_canSlide 1 = .ok (.ifCond .le 21, 3) := by decide +kernel
theorem dX4_canSlide_4 : decode cX4_canSlide 4 = .ok (.aload_n 0, 1) := by decide +kernel
theorem dX4_canSlide_5 : decode cX4_canSlide 5 = .ok (.iload_n 1, 1) := by decide +kernel
theorem dX4_canSlide_6 : decode cX4_canSlide 6 = .ok (.iconst 1, 1) := by decide +kernel
theorem dX4_canSlide_7 : decode cX4_canSlide 7 = .ok (.invokevirtual 57, 3) := by decide +kernel
theorem dX4_canSlide_10 : decode cX4_canSlide 10 = .ok (.iload_n 2, 1) := by decide +kernel
theorem dX4_canSlide_11 : decode cX4_canSlide 11 = .ok (.if_icmp .lt 7, 3) := by decide +kernel
theorem dX4_canSlide_14 : decode cX4_canSlide 14 = .ok (.iconst 1, 1) := by decide +kernel
theorem dX4_canSlide_15 : decode cX4_canSlide 15 = .ok (.goto 23, 3) := by decide +kernel
theorem dX4_canSlide_18 : decode cX4_canSlide 18 = .ok (.iconst 0, 1) := by decide +kernel
theorem dX4_canSlide_19 : decode cX4_canSlide 19 = .ok (.goto 19, 3) := by decide +kernel
theorem dX4_canSlide_22 : decode cX4_canSlide 22 = .ok (.aload_n 0, 1) := by decide +kernel
theorem dX4_canSlide_23 : decode cX4_canSlide 23 = .ok (.iload_n 1, 1) := by decide +kernel
theorem dX4_canSlide_24 : decode cX4_canSlide 24 = .ok (.iconst (-1), 1) := by decide +kernel
theorem dX4_canSlide_25 : decode cX4_canSlide 25 = .ok (.invokevirtual 57, 3) := by decide +kernel
theorem dX4_canSlide_28 : decode cX4_canSlide 28 = .ok (.iload_n 2, 1) := by decide +kernel
theorem dX4_canSlide_29 : decode cX4_canSlide 29 = .ok (.ineg, 1) := by decide +kernel
theorem dX4_canSlide_30 : decode cX4_canSlide 30 = .ok (.if_icmp .lt 7, 3) := by decide +kernel
theorem dX4_canSlide_33 : decode cX4_canSlide 33 = .ok (.iconst 1, 1) := by decide +kernel
theorem dX4_canSlide_34 : decode cX4_canSlide 34 = .ok (.goto 4, 3) := by decide +kernel
theorem dX4_canSlide_37 : decode cX4_canSlide 37 = .ok (.iconst 0, 1) := by decide +kernel
theorem dX4_canSlide_38 : decode cX4_canSlide 38 = .ok (.ireturn, 1) := by decide +kernel
theorem dX4_isFree_0 : decode cX4_isFree 0 = .ok (.aload_n 0, 1) := by decide +kernel
theorem dX4_isFree_1 : decode cX4_isFree 1 = .ok (.getfield 13, 3) := by decide +kernel
theorem dX4_isFree_4 : decode cX4_isFree 4 = .ok (.iconst 0, 1) := by decide +kernel
theorem dX4_isFree_5 : decode cX4_isFree 5 = .ok (.iaload, 1) := by decide +kernel
theorem dX4_isFree_6 : decode cX4_isFree 6 = .ok (.ifCond .le 26, 3) := by decide +kernel
theorem dX4_isFree_9 : decode cX4_isFree 9 = .ok (.aload_n 0, 1) := by decide +kernel
theorem dX4_isFree_10 : decode cX4_isFree 10 = .ok (.getfield 13, 3) := by decide +kernel
theorem dX4_isFree_13 : decode cX4_isFree 13 = .ok (.bipush 7, 2) := by decide +kernel
theorem dX4_isFree_15 : decode cX4_isFree 15 = .ok (.iaload, 1) := by decide +kernel
theorem dX4_isFree_16 : decode cX4_isFree 16 = .ok (.aload_n 0, 1) := by decide +kernel
theorem dX4_isFree_17 : decode cX4_isFree 17 = .ok (.getfield 13, 3) := by decide +kernel
theorem dX4_isFree_20 : decode cX4_isFree 20 = .ok (.bipush 13, 2) := by decide +kernel
theorem dX4_isFree_22 : decode cX4_isFree 22 = .ok (.iaload, 1) := by decide +kernel
theorem dX4_isFree_23 : decode cX4_isFree 23 = .ok (.iadd, 1) := by decide +kernel
theorem dX4_isFree_24 : decode cX4_isFree 24 = .ok (.iconst 5, 1) := by decide +kernel
theorem dX4_isFree_25 : decode cX4_isFree 25 = .ok (.if_icmp .ne 7, 3) := by decide +kernel
theorem dX4_isFree_28 : decode cX4_isFree 28 = .ok (.iconst 1, 1) := by decide +kernel
theorem dX4_isFree_29 : decode cX4_isFree 29 = .ok (.goto 4, 3) := by decide +kernel
theorem dX4_isFree_32 : decode cX4_isFree 32 = .ok (.iconst 0, 1) := by decide +kernel
theorem dX4_isFree_33 : decode cX4_isFree 33 = .ok (.ireturn, 1) := by decide +kernel
theorem dX4_prepares_0 : decode cX4_prepares 0 = .ok (.aload_n 0, 1) := by decide +kernel
theorem dX4_prepares_1 : decode cX4_prepares 1 = .ok (.iload_n 1, 1) := by decide +kernel
theorem dX4_prepares_2 : decode cX4_prepares 2 = .ok (.putfield 61, 3) := by decide +kernel
theorem dX4_prepares_5 : decode cX4_prepares 5 = .ok (.aload_n 0, 1) := by decide +kernel
theorem dX4_prepares_6 : decode cX4_prepares 6 = .ok (.iload_n 2, 1) := by decide +kernel
theorem dX4_prepares_7 : decode cX4_prepares 7 = .ok (.putfield 64, 3) := by decide +kernel
theorem dX4_prepares_10 : decode cX4_prepares 10 = .ok (.iconst 0, 1) := by decide +kernel
theorem dX4_prepares_11 : decode cX4_prepares 11 = .ok (.istore_n 3, 1) := by decide +kernel
theorem dX4_prepares_12 : decode cX4_prepares 12 = .ok (.iload_n 3, 1) := by decide +kernel
theorem dX4_prepares_13 : decode cX4_prepares 13 = .ok (.iconst 4, 1) := by decide +kernel
theorem dX4_prepares_14 : decode cX4_prepares 14 = .ok (.iload_n 1, 1) := by decide +kernel
theorem dX4_prepares_15 : decode cX4_prepares 15 = .ok (.imul, 1) := by decide +kernel
theorem dX4_prepares_16 : decode cX4_prepares 16 = .ok (.if_icmp .ge 70, 3) := by decide +kernel
theorem dX4_prepares_19 : decode cX4_prepares 19 = .ok (.iload_n 3, 1) := by decide +kernel
theorem dX4_prepares_20 : decode cX4_prepares 20 = .ok (.iconst 4, 1) := by decide +kernel
theorem dX4_prepares_21 : decode cX4_prepares 21 = .ok (.idiv, 1) := by decide +kernel
theorem dX4_prepares_22 : decode cX4_prepares 22 = .ok (.istore 4, 2) := by decide +kernel
theorem dX4_prepares_24 : decode cX4_prepares 24 = .ok (.iload_n 3, 1) := by decide +kernel
theorem dX4_prepares_25 : decode cX4_prepares 25 = .ok (.iconst 4, 1) := by decide +kernel
theorem dX4_prepares_26 : decode cX4_prepares 26 = .ok (.irem, 1) := by decide +kernel
theorem dX4_prepares_27 : decode cX4_prepares 27 = .ok (.istore 5, 2) := by decide +kernel
theorem dX4_prepares_29 : decode cX4_prepares 29 = .ok (.aload_n 0, 1) := by decide +kernel
theorem dX4_prepares_30 : decode cX4_prepares 30 = .ok (.getfield 22, 3) := by decide +kernel
theorem dX4_prepares_33 : decode cX4_prepares 33 = .ok (.iload_n 3, 1) := by decide +kernel
theorem dX4_prepares_34 : decode cX4_prepares 34 = .ok (.iload 5, 2) := by decide +kernel
theorem dX4_prepares_36 : decode cX4_prepares 36 = .ok (.aload_n 0, 1) := by decide +kernel
theorem dX4_prepares_37 : decode cX4_prepares 37 = .ok (.getfield 13, 3) := by decide +kernel
theorem dX4_prepares_40 : decode cX4_prepares 40 = .ok (.bipush 13, 2) := by decide +kernel
theorem dX4_prepares_42 : decode cX4_prepares 42 = .ok (.iload 4, 2) := by decide +kernel
theorem dX4_prepares_44 : decode cX4_prepares 44 = .ok (.iadd, 1) := by decide +kernel
theorem dX4_prepares_45 : decode cX4_prepares 45 = .ok (.iaload, 1) := by decide +kernel
theorem dX4_prepares_46 : decode cX4_prepares 46 = .ok (.iadd, 1) := by decide +kernel
theorem dX4_prepares_47 : decode cX4_prepares 47 = .ok (.iconst 5, 1) := by decide +kernel
theorem dX4_prepares_48 : decode cX4_prepares 48 = .ok (.if_icmp .gt 30, 3) := by decide +kernel
theorem dX4_prepares_51 : decode cX4_prepares 51 = .ok (.aload_n 0, 1) := by decide +kernel
theorem dX4_prepares_52 : decode cX4_prepares 52 = .ok (.getfield 13, 3) := by decide +kernel
theorem dX4_prepares_55 : decode cX4_prepares 55 = .ok (.iconst 1, 1) := by decide +kernel
theorem dX4_prepares_56 : decode cX4_prepares 56 = .ok (.iload 4, 2) := by decide +kernel
theorem dX4_prepares_58 : decode cX4_prepares 58 = .ok (.iadd, 1) := by decide +kernel
theorem dX4_prepares_59 : decode cX4_prepares 59 = .ok (.iaload, 1) := by decide +kernel
theorem dX4_prepares_60 : decode cX4_prepares 60 = .ok (.iload 5, 2) := by decide +kernel
theorem dX4_prepares_62 : decode cX4_prepares 62 = .ok (.aload_n 0, 1) := by decide +kernel
theorem dX4_prepares_63 : decode cX4_prepares 63 = .ok (.getfield 13, 3) := by decide +kernel
theorem dX4_prepares_66 : decode cX4_prepares 66 = .ok (.bipush 13, 2) := by decide +kernel
theorem dX4_prepares_68 : decode cX4_prepares 68 = .ok (.iload 4, 2) := by decide +kernel
theorem dX4_prepares_70 : decode cX4_prepares 70 = .ok (.iadd, 1) := by decide +kernel
theorem dX4_prepares_71 : decode cX4_prepares 71 = .ok (.iaload, 1) := by decide +kernel
theorem dX4_prepares_72 : decode cX4_prepares 72 = .ok (.invokestatic 39, 3) := by decide +kernel
theorem dX4_prepares_75 : decode cX4_prepares 75 = .ok (.goto 4, 3) := by decide +kernel
theorem dX4_prepares_78 : decode cX4_prepares 78 = .ok (.iconst 0, 1) := by decide +kernel
theorem dX4_prepares_79 : decode cX4_prepares 79 = .ok (.iastore, 1) := by decide +kernel
theorem dX4_prepares_80 : decode cX4_prepares 80 = .ok (.iinc 3 1, 3) := by decide +kernel
theorem dX4_prepares_83 : decode cX4_prepares 83 = .ok (.goto (-71), 3) := by decide +kernel
theorem dX4_prepares_86 : decode cX4_prepares 86 = .ok (.return_, 1) := by decide +kernel
theorem dX4_codeNow_0 : decode cX4_codeNow 0 = .ok (.iconst 0, 1) := by decide +kernel
theorem dX4_codeNow_1 : decode cX4_codeNow 1 = .ok (.istore_n 1, 1) := by decide +kernel
theorem dX4_codeNow_2 : decode cX4_codeNow 2 = .ok (.iconst 0, 1) := by decide +kernel
theorem dX4_codeNow_3 : decode cX4_codeNow 3 = .ok (.istore_n 2, 1) := by decide +kernel
theorem dX4_codeNow_4 : decode cX4_codeNow 4 = .ok (.iload_n 2, 1) := by decide +kernel
theorem dX4_codeNow_5 : decode cX4_codeNow 5 = .ok (.aload_n 0, 1) := by decide +kernel
theorem dX4_codeNow_6 : decode cX4_codeNow 6 = .ok (.getfield 61, 3) := by decide +kernel
theorem dX4_codeNow_9 : decode cX4_codeNow 9 = .ok (.if_icmp .ge 25, 3) := by decide +kernel
theorem dX4_codeNow_12 : decode cX4_codeNow 12 = .ok (.iload_n 1, 1) := by decide +kernel
theorem dX4_codeNow_13 : decode cX4_codeNow 13 = .ok (.aload_n 0, 1) := by decide +kernel
theorem dX4_codeNow_14 : decode cX4_codeNow 14 = .ok (.getfield 13, 3) := by decide +kernel
theorem dX4_codeNow_17 : decode cX4_codeNow 17 = .ok (.bipush 7, 2) := by decide +kernel
theorem dX4_codeNow_19 : decode cX4_codeNow 19 = .ok (.iload_n 2, 1) := by decide +kernel
theorem dX4_codeNow_20 : decode cX4_codeNow 20 = .ok (.iadd, 1) := by decide +kernel
theorem dX4_codeNow_21 : decode cX4_codeNow 21 = .ok (.iaload, 1) := by decide +kernel
theorem dX4_codeNow_22 : decode cX4_codeNow 22 = .ok (.iconst 2, 1) := by decide +kernel
theorem dX4_codeNow_23 : decode cX4_codeNow 23 = .ok (.iload_n 2, 1) := by decide +kernel
theorem dX4_codeNow_24 : decode cX4_codeNow 24 = .ok (.imul, 1) := by decide +kernel
theorem dX4_codeNow_25 : decode cX4_codeNow 25 = .ok (.ishl, 1) := by decide +kernel
theorem dX4_codeNow_26 : decode cX4_codeNow 26 = .ok (.ior, 1) := by decide +kernel
theorem dX4_codeNow_27 : decode cX4_codeNow 27 = .ok (.istore_n 1, 1) := by decide +kernel
theorem dX4_codeNow_28 : decode cX4_codeNow 28 = .ok (.iinc 2 1, 3) := by decide +kernel
theorem dX4_codeNow_31 : decode cX4_codeNow 31 = .ok (.goto (-27), 3) := by decide +kernel
theorem dX4_codeNow_34 : decode cX4_codeNow 34 = .ok (.iload_n 1, 1) := by decide +kernel
theorem dX4_codeNow_35 : decode cX4_codeNow 35 = .ok (.ireturn, 1) := by decide +kernel
theorem dX4_setOf_0 : decode cX4_setOf 0 = .ok (.aload_n 0, 1) := by decide +kernel
theorem dX4_setOf_1 : decode cX4_setOf 1 = .ok (.getfield 64, 3) := by decide +kernel
theorem dX4_setOf_4 : decode cX4_setOf 4 = .ok (.istore_n 2, 1) := by decide +kernel
theorem dX4_setOf_5 : decode cX4_setOf 5 = .ok (.iconst 0, 1) := by decide +kernel
theorem dX4_setOf_6 : decode cX4_setOf 6 = .ok (.istore_n 3, 1) := by decide +kernel
theorem dX4_setOf_7 : decode cX4_setOf 7 = .ok (.iload_n 3, 1) := by decide +kernel
theorem dX4_setOf_8 : decode cX4_setOf 8 = .ok (.aload_n 0, 1) := by decide +kernel
theorem dX4_setOf_9 : decode cX4_setOf 9 = .ok (.getfield 61, 3) := by decide +kernel
theorem dX4_setOf_12 : decode cX4_setOf 12 = .ok (.if_icmp .ge 28, 3) := by decide +kernel
theorem dX4_setOf_15 : decode cX4_setOf 15 = .ok (.iload_n 2, 1) := by decide +kernel
theorem dX4_setOf_16 : decode cX4_setOf 16 = .ok (.aload_n 0, 1) := by decide +kernel
theorem dX4_setOf_17 : decode cX4_setOf 17 = .ok (.getfield 22, 3) := by decide +kernel
theorem dX4_setOf_20 : decode cX4_setOf 20 = .ok (.iconst 4, 1) := by decide +kernel
theorem dX4_setOf_21 : decode cX4_setOf 21 = .ok (.iload_n 3, 1) := by decide +kernel
theorem dX4_setOf_22 : decode cX4_setOf 22 = .ok (.imul, 1) := by decide +kernel
theorem dX4_setOf_23 : decode cX4_setOf 23 = .ok (.iload_n 1, 1) := by decide +kernel
theorem dX4_setOf_24 : decode cX4_setOf 24 = .ok (.iconst 2, 1) := by decide +kernel
theorem dX4_setOf_25 : decode cX4_setOf 25 = .ok (.iload_n 3, 1) := by decide +kernel
theorem dX4_setOf_26 : decode cX4_setOf 26 = .ok (.imul, 1) := by decide +kernel
theorem dX4_setOf_27 : decode cX4_setOf 27 = .ok (.ishr, 1) := by decide +kernel
theorem dX4_setOf_28 : decode cX4_setOf 28 = .ok (.iconst 3, 1) := by decide +kernel
theorem dX4_setOf_29 : decode cX4_setOf 29 = .ok (.iand, 1) := by decide +kernel
theorem dX4_setOf_30 : decode cX4_setOf 30 = .ok (.iadd, 1) := by decide +kernel
theorem dX4_setOf_31 : decode cX4_setOf 31 = .ok (.iaload, 1) := by decide +kernel
theorem dX4_setOf_32 : decode cX4_setOf 32 = .ok (.ior, 1) := by decide +kernel
theorem dX4_setOf_33 : decode cX4_setOf 33 = .ok (.istore_n 2, 1) := by decide +kernel
theorem dX4_setOf_34 : decode cX4_setOf 34 = .ok (.iinc 3 1, 3) := by decide +kernel
theorem dX4_setOf_37 : decode cX4_setOf 37 = .ok (.goto (-30), 3) := by decide +kernel
theorem dX4_setOf_40 : decode cX4_setOf 40 = .ok (.iload_n 2, 1) := by decide +kernel
theorem dX4_setOf_41 : decode cX4_setOf 41 = .ok (.ireturn, 1) := by decide +kernel
theorem dX4_isWhole_0 : decode cX4_isWhole 0 = .ok (.aload_n 0, 1) := by decide +kernel
theorem dX4_isWhole_1 : decode cX4_isWhole 1 = .ok (.getfield 64, 3) := by decide +kernel
theorem dX4_isWhole_4 : decode cX4_isWhole 4 = .ok (.istore_n 2, 1) := by decide +kernel
theorem dX4_isWhole_5 : decode cX4_isWhole 5 = .ok (.iconst 0, 1) := by decide +kernel
theorem dX4_isWhole_6 : decode cX4_isWhole 6 = .ok (.istore_n 3, 1) := by decide +kernel
theorem dX4_isWhole_7 : decode cX4_isWhole 7 = .ok (.iload_n 3, 1) := by decide +kernel
theorem dX4_isWhole_8 : decode cX4_isWhole 8 = .ok (.aload_n 0, 1) := by decide +kernel
theorem dX4_isWhole_9 : decode cX4_isWhole 9 = .ok (.getfield 61, 3) := by decide +kernel
theorem dX4_isWhole_12 : decode cX4_isWhole 12 = .ok (.if_icmp .ge 46, 3) := by decide +kernel
theorem dX4_isWhole_15 : decode cX4_isWhole 15 = .ok (.aload_n 0, 1) := by decide +kernel
theorem dX4_isWhole_16 : decode cX4_isWhole 16 = .ok (.getfield 22, 3) := by decide +kernel
theorem dX4_isWhole_19 : decode cX4_isWhole 19 = .ok (.iconst 4, 1) := by decide +kernel
theorem dX4_isWhole_20 : decode cX4_isWhole 20 = .ok (.iload_n 3, 1) := by decide +kernel
theorem dX4_isWhole_21 : decode cX4_isWhole 21 = .ok (.imul, 1) := by decide +kernel
theorem dX4_isWhole_22 : decode cX4_isWhole 22 = .ok (.iload_n 1, 1) := by decide +kernel
theorem dX4_isWhole_23 : decode cX4_isWhole 23 = .ok (.iconst 2, 1) := by decide +kernel
theorem dX4_isWhole_24 : decode cX4_isWhole 24 = .ok (.iload_n 3, 1) := by decide +kernel
theorem dX4_isWhole_25 : decode cX4_isWhole 25 = .ok (.imul, 1) := by decide +kernel
theorem dX4_isWhole_26 : decode cX4_isWhole 26 = .ok (.ishr, 1) := by decide +kernel
theorem dX4_isWhole_27 : decode cX4_isWhole 27 = .ok (.iconst 3, 1) := by decide +kernel
theorem dX4_isWhole_28 : decode cX4_isWhole 28 = .ok (.iand, 1) := by decide +kernel
theorem dX4_isWhole_29 : decode cX4_isWhole 29 = .ok (.iadd, 1) := by decide +kernel
theorem dX4_isWhole_30 : decode cX4_isWhole 30 = .ok (.iaload, 1) := by decide +kernel
theorem dX4_isWhole_31 : decode cX4_isWhole 31 = .ok (.istore 4, 2) := by decide +kernel
theorem dX4_isWhole_33 : decode cX4_isWhole 33 = .ok (.iload 4, 2) := by decide +kernel
theorem dX4_isWhole_35 : decode cX4_isWhole 35 = .ok (.ifCond .eq 10, 3) := by decide +kernel
theorem dX4_isWhole_38 : decode cX4_isWhole 38 = .ok (.iload 4, 2) := by decide +kernel
theorem dX4_isWhole_40 : decode cX4_isWhole 40 = .ok (.iload_n 2, 1) := by decide +kernel
theorem dX4_isWhole_41 : decode cX4_isWhole 41 = .ok (.iand, 1) := by decide +kernel
theorem dX4_isWhole_42 : decode cX4_isWhole 42 = .ok (.ifCond .eq 5, 3) := by decide +kernel
theorem dX4_isWhole_45 : decode cX4_isWhole 45 = .ok (.iconst 0, 1) := by decide +kernel
theorem dX4_isWhole_46 : decode cX4_isWhole 46 = .ok (.ireturn, 1) := by decide +kernel
theorem dX4_isWhole_47 : decode cX4_isWhole 47 = .ok (.iload_n 2, 1) := by decide +kernel
theorem dX4_isWhole_48 : decode cX4_isWhole 48 = .ok (.iload 4, 2) := by decide +kernel
theorem dX4_isWhole_50 : decode cX4_isWhole 50 = .ok (.ior, 1) := by decide +kernel
theorem dX4_isWhole_51 : decode cX4_isWhole 51 = .ok (.istore_n 2, 1) := by decide +kernel
theorem dX4_isWhole_52 : decode cX4_isWhole 52 = .ok (.iinc 3 1, 3) := by decide +kernel
theorem dX4_isWhole_55 : decode cX4_isWhole 55 = .ok (.goto (-48), 3) := by decide +kernel
theorem dX4_isWhole_58 : decode cX4_isWhole 58 = .ok (.iconst 1, 1) := by decide +kernel
theorem dX4_isWhole_59 : decode cX4_isWhole 59 = .ok (.ireturn, 1) := by decide +kernel
theorem dX4_isEnd_0 : decode cX4_isEnd 0 = .ok (.aload_n 0, 1) := by decide +kernel
theorem dX4_isEnd_1 : decode cX4_isEnd 1 = .ok (.getfield 61, 3) := by decide +kernel
theorem dX4_isEnd_4 : decode cX4_isEnd 4 = .ok (.ifCond .le 22, 3) := by decide +kernel
theorem dX4_isEnd_7 : decode cX4_isEnd 7 = .ok (.iload_n 1, 1) := by decide +kernel
theorem dX4_isEnd_8 : decode cX4_isEnd 8 = .ok (.iconst 3, 1) := by decide +kernel
theorem dX4_isEnd_9 : decode cX4_isEnd 9 = .ok (.iand, 1) := by decide +kernel
theorem dX4_isEnd_10 : decode cX4_isEnd 10 = .ok (.aload_n 0, 1) := by decide +kernel
theorem dX4_isEnd_11 : decode cX4_isEnd 11 = .ok (.getfield 13, 3) := by decide +kernel
theorem dX4_isEnd_14 : decode cX4_isEnd 14 = .ok (.bipush 13, 2) := by decide +kernel
theorem dX4_isEnd_16 : decode cX4_isEnd 16 = .ok (.iaload, 1) := by decide +kernel
theorem dX4_isEnd_17 : decode cX4_isEnd 17 = .ok (.iadd, 1) := by decide +kernel
theorem dX4_isEnd_18 : decode cX4_isEnd 18 = .ok (.iconst 5, 1) := by decide +kernel
theorem dX4_isEnd_19 : decode cX4_isEnd 19 = .ok (.if_icmp .ne 7, 3) := by decide +kernel
theorem dX4_isEnd_22 : decode cX4_isEnd 22 = .ok (.iconst 1, 1) := by decide +kernel
theorem dX4_isEnd_23 : decode cX4_isEnd 23 = .ok (.goto 4, 3) := by decide +kernel
theorem dX4_isEnd_26 : decode cX4_isEnd 26 = .ok (.iconst 0, 1) := by decide +kernel
theorem dX4_isEnd_27 : decode cX4_isEnd 27 = .ok (.ireturn, 1) := by decide +kernel
theorem dX4_reaches_0 : decode cX4_reaches 0 = .ok (.aload_n 0, 1) := by decide +kernel
theorem dX4_reaches_1 : decode cX4_reaches 1 = .ok (.getfield 25, 3) := by decide +kernel
theorem dX4_reaches_4 : decode cX4_reaches 4 = .ok (.iload_n 1, 1) := by decide +kernel
theorem dX4_reaches_5 : decode cX4_reaches 5 = .ok (.iaload, 1) := by decide +kernel
theorem dX4_reaches_6 : decode cX4_reaches 6 = .ok (.iconst (-1), 1) := by decide +kernel
theorem dX4_reaches_7 : decode cX4_reaches 7 = .ok (.if_icmp .ne 30, 3) := by decide +kernel
theorem dX4_reaches_10 : decode cX4_reaches 10 = .ok (.aload_n 0, 1) := by decide +kernel
theorem dX4_reaches_11 : decode cX4_reaches 11 = .ok (.getfield 25, 3) := by decide +kernel
theorem dX4_reaches_14 : decode cX4_reaches 14 = .ok (.iload_n 1, 1) := by decide +kernel
theorem dX4_reaches_15 : decode cX4_reaches 15 = .ok (.iload_n 2, 1) := by decide +kernel
theorem dX4_reaches_16 : decode cX4_reaches 16 = .ok (.iastore, 1) := by decide +kernel
theorem dX4_reaches_17 : decode cX4_reaches 17 = .ok (.aload_n 0, 1) := by decide +kernel
theorem dX4_reaches_18 : decode cX4_reaches 18 = .ok (.getfield 28, 3) := by decide +kernel
theorem dX4_reaches_21 : decode cX4_reaches 21 = .ok (.aload_n 0, 1) := by decide +kernel
theorem dX4_reaches_22 : decode cX4_reaches 22 = .ok (.getfield 67, 3) := by decide +kernel
theorem dX4_reaches_25 : decode cX4_reaches 25 = .ok (.iload_n 1, 1) := by decide +kernel
theorem dX4_reaches_26 : decode cX4_reaches 26 = .ok (.iastore, 1) := by decide +kernel
theorem dX4_reaches_27 : decode cX4_reaches 27 = .ok (.aload_n 0, 1) := by decide +kernel
theorem dX4_reaches_28 : decode cX4_reaches 28 = .ok (.dup, 1) := by decide +kernel
theorem dX4_reaches_29 : decode cX4_reaches 29 = .ok (.getfield 67, 3) := by decide +kernel
theorem dX4_reaches_32 : decode cX4_reaches 32 = .ok (.iconst 1, 1) := by decide +kernel
theorem dX4_reaches_33 : decode cX4_reaches 33 = .ok (.iadd, 1) := by decide +kernel
theorem dX4_reaches_34 : decode cX4_reaches 34 = .ok (.putfield 67, 3) := by decide +kernel
theorem dX4_reaches_37 : decode cX4_reaches 37 = .ok (.return_, 1) := by decide +kernel
theorem dX4_goes_0 : decode cX4_goes 0 = .ok (.iload_n 1, 1) := by decide +kernel
theorem dX4_goes_1 : decode cX4_goes 1 = .ok (.iconst 2, 1) := by decide +kernel
theorem dX4_goes_2 : decode cX4_goes 2 = .ok (.iload_n 2, 1) := by decide +kernel
theorem dX4_goes_3 : decode cX4_goes 3 = .ok (.imul, 1) := by decide +kernel
theorem dX4_goes_4 : decode cX4_goes 4 = .ok (.ishr, 1) := by decide +kernel
theorem dX4_goes_5 : decode cX4_goes 5 = .ok (.iconst 3, 1) := by decide +kernel
theorem dX4_goes_6 : decode cX4_goes 6 = .ok (.iand, 1) := by decide +kernel
theorem dX4_goes_7 : decode cX4_goes 7 = .ok (.istore 5, 2) := by decide +kernel
theorem dX4_goes_9 : decode cX4_goes 9 = .ok (.aload_n 0, 1) := by decide +kernel
theorem dX4_goes_10 : decode cX4_goes 10 = .ok (.iload_n 1, 1) := by decide +kernel
theorem dX4_goes_11 : decode cX4_goes 11 = .ok (.invokevirtual 70, 3) := by decide +kernel
theorem dX4_goes_14 : decode cX4_goes 14 = .ok (.aload_n 0, 1) := by decide +kernel
theorem dX4_goes_15 : decode cX4_goes 15 = .ok (.getfield 22, 3) := by decide +kernel
theorem dX4_goes_18 : decode cX4_goes 18 = .ok (.iconst 4, 1) := by decide +kernel
theorem dX4_goes_19 : decode cX4_goes 19 = .ok (.iload_n 2, 1) := by decide +kernel
theorem dX4_goes_20 : decode cX4_goes 20 = .ok (.imul, 1) := by decide +kernel
theorem dX4_goes_21 : decode cX4_goes 21 = .ok (.iload 5, 2) := by decide +kernel
theorem dX4_goes_23 : decode cX4_goes 23 = .ok (.iadd, 1) := by decide +kernel
theorem dX4_goes_24 : decode cX4_goes 24 = .ok (.iaload, 1) := by decide +kernel
theorem dX4_goes_25 : decode cX4_goes 25 = .ok (.iconst (-1), 1) := by decide +kernel
theorem dX4_goes_26 : decode cX4_goes 26 = .ok (.ixor, 1) := by decide +kernel
theorem dX4_goes_27 : decode cX4_goes 27 = .ok (.iand, 1) := by decide +kernel
theorem dX4_goes_28 : decode cX4_goes 28 = .ok (.istore 6, 2) := by decide +kernel
theorem dX4_goes_30 : decode cX4_goes 30 = .ok (.iload 5, 2) := by decide +kernel
theorem dX4_goes_32 : decode cX4_goes 32 = .ok (.iload_n 3, 1) := by decide +kernel
theorem dX4_goes_33 : decode cX4_goes 33 = .ok (.iadd, 1) := by decide +kernel
theorem dX4_goes_34 : decode cX4_goes 34 = .ok (.istore 7, 2) := by decide +kernel
theorem dX4_goes_36 : decode cX4_goes 36 = .ok (.iload 4, 2) := by decide +kernel
theorem dX4_goes_38 : decode cX4_goes 38 = .ok (.istore 8, 2) := by decide +kernel
theorem dX4_goes_40 : decode cX4_goes 40 = .ok (.iload 8, 2) := by decide +kernel
theorem dX4_goes_42 : decode cX4_goes 42 = .ok (.ifCond .le 87, 3) := by decide +kernel
theorem dX4_goes_45 : decode cX4_goes 45 = .ok (.iload 7, 2) := by decide +kernel
theorem dX4_goes_47 : decode cX4_goes 47 = .ok (.i2l, 1) := by decide +kernel
theorem dX4_goes_48 : decode cX4_goes 48 = .ok (.lconst 0, 1) := by decide +kernel
theorem dX4_goes_49 : decode cX4_goes 49 = .ok (.ldc2_w 73, 3) := by decide +kernel
theorem dX4_goes_52 : decode cX4_goes 52 = .ok (.invokestatic 47, 3) := by decide +kernel
theorem dX4_goes_55 : decode cX4_goes 55 = .ok (.ifCond .eq 74, 3) := by decide +kernel
theorem dX4_goes_58 : decode cX4_goes 58 = .ok (.aload_n 0, 1) := by decide +kernel
theorem dX4_goes_59 : decode cX4_goes 59 = .ok (.getfield 22, 3) := by decide +kernel
theorem dX4_goes_62 : decode cX4_goes 62 = .ok (.iconst 4, 1) := by decide +kernel
theorem dX4_goes_63 : decode cX4_goes 63 = .ok (.iload_n 2, 1) := by decide +kernel
theorem dX4_goes_64 : decode cX4_goes 64 = .ok (.imul, 1) := by decide +kernel
theorem dX4_goes_65 : decode cX4_goes 65 = .ok (.iload 7, 2) := by decide +kernel
theorem dX4_goes_67 : decode cX4_goes 67 = .ok (.iadd, 1) := by decide +kernel
theorem dX4_goes_68 : decode cX4_goes 68 = .ok (.iaload, 1) := by decide +kernel
theorem dX4_goes_69 : decode cX4_goes 69 = .ok (.ifCond .eq 60, 3) := by decide +kernel
theorem dX4_goes_72 : decode cX4_goes 72 = .ok (.aload_n 0, 1) := by decide +kernel
theorem dX4_goes_73 : decode cX4_goes 73 = .ok (.getfield 22, 3) := by decide +kernel
theorem dX4_goes_76 : decode cX4_goes 76 = .ok (.iconst 4, 1) := by decide +kernel
theorem dX4_goes_77 : decode cX4_goes 77 = .ok (.iload_n 2, 1) := by decide +kernel
theorem dX4_goes_78 : decode cX4_goes 78 = .ok (.imul, 1) := by decide +kernel
theorem dX4_goes_79 : decode cX4_goes 79 = .ok (.iload 7, 2) := by decide +kernel
theorem dX4_goes_81 : decode cX4_goes 81 = .ok (.iadd, 1) := by decide +kernel
theorem dX4_goes_82 : decode cX4_goes 82 = .ok (.iaload, 1) := by decide +kernel
theorem dX4_goes_83 : decode cX4_goes 83 = .ok (.iload 6, 2) := by decide +kernel
theorem dX4_goes_85 : decode cX4_goes 85 = .ok (.iand, 1) := by decide +kernel
theorem dX4_goes_86 : decode cX4_goes 86 = .ok (.ifCond .ne 43, 3) := by decide +kernel
theorem dX4_goes_89 : decode cX4_goes 89 = .ok (.aload_n 0, 1) := by decide +kernel
theorem dX4_goes_90 : decode cX4_goes 90 = .ok (.iload_n 1, 1) := by decide +kernel
theorem dX4_goes_91 : decode cX4_goes 91 = .ok (.iconst 3, 1) := by decide +kernel
theorem dX4_goes_92 : decode cX4_goes 92 = .ok (.iconst 2, 1) := by decide +kernel
theorem dX4_goes_93 : decode cX4_goes 93 = .ok (.iload_n 2, 1) := by decide +kernel
theorem dX4_goes_94 : decode cX4_goes 94 = .ok (.imul, 1) := by decide +kernel
theorem dX4_goes_95 : decode cX4_goes 95 = .ok (.ishl, 1) := by decide +kernel
theorem dX4_goes_96 : decode cX4_goes 96 = .ok (.iconst (-1), 1) := by decide +kernel
theorem dX4_goes_97 : decode cX4_goes 97 = .ok (.ixor, 1) := by decide +kernel
theorem dX4_goes_98 : decode cX4_goes 98 = .ok (.iand, 1) := by decide +kernel
theorem dX4_goes_99 : decode cX4_goes 99 = .ok (.iload 7, 2) := by decide +kernel
theorem dX4_goes_101 : decode cX4_goes 101 = .ok (.iconst 2, 1) := by decide +kernel
theorem dX4_goes_102 : decode cX4_goes 102 = .ok (.iload_n 2, 1) := by decide +kernel
theorem dX4_goes_103 : decode cX4_goes 103 = .ok (.imul, 1) := by decide +kernel
theorem dX4_goes_104 : decode cX4_goes 104 = .ok (.ishl, 1) := by decide +kernel
theorem dX4_goes_105 : decode cX4_goes 105 = .ok (.ior, 1) := by decide +kernel
theorem dX4_goes_106 : decode cX4_goes 106 = .ok (.aload_n 0, 1) := by decide +kernel
theorem dX4_goes_107 : decode cX4_goes 107 = .ok (.getfield 25, 3) := by decide +kernel
theorem dX4_goes_110 : decode cX4_goes 110 = .ok (.iload_n 1, 1) := by decide +kernel
theorem dX4_goes_111 : decode cX4_goes 111 = .ok (.iaload, 1) := by decide +kernel
theorem dX4_goes_112 : decode cX4_goes 112 = .ok (.iconst 1, 1) := by decide +kernel
theorem dX4_goes_113 : decode cX4_goes 113 = .ok (.iadd, 1) := by decide +kernel
theorem dX4_goes_114 : decode cX4_goes 114 = .ok (.invokevirtual 75, 3) := by decide +kernel
theorem dX4_goes_117 : decode cX4_goes 117 = .ok (.iload 7, 2) := by decide +kernel
theorem dX4_goes_119 : decode cX4_goes 119 = .ok (.iload_n 3, 1) := by decide +kernel
theorem dX4_goes_120 : decode cX4_goes 120 = .ok (.iadd, 1) := by decide +kernel
theorem dX4_goes_121 : decode cX4_goes 121 = .ok (.istore 7, 2) := by decide +kernel
theorem dX4_goes_123 : decode cX4_goes 123 = .ok (.iinc 8 (-1), 3) := by decide +kernel
theorem dX4_goes_126 : decode cX4_goes 126 = .ok (.goto (-86), 3) := by decide +kernel
theorem dX4_goes_129 : decode cX4_goes 129 = .ok (.return_, 1) := by decide +kernel
theorem dX4_spreads_0 : decode cX4_spreads 0 = .ok (.iconst 0, 1) := by decide +kernel
theorem dX4_spreads_1 : decode cX4_spreads 1 = .ok (.istore_n 2, 1) := by decide +kernel
theorem dX4_spreads_2 : decode cX4_spreads 2 = .ok (.iload_n 2, 1) := by decide +kernel
theorem dX4_spreads_3 : decode cX4_spreads 3 = .ok (.aload_n 0, 1) := by decide +kernel
theorem dX4_spreads_4 : decode cX4_spreads 4 = .ok (.getfield 67, 3) := by decide +kernel
theorem dX4_spreads_7 : decode cX4_spreads 7 = .ok (.if_icmp .ge 51, 3) := by decide +kernel
theorem dX4_spreads_10 : decode cX4_spreads 10 = .ok (.iconst 0, 1) := by decide +kernel
theorem dX4_spreads_11 : decode cX4_spreads 11 = .ok (.istore_n 3, 1) := by decide +kernel
theorem dX4_spreads_12 : decode cX4_spreads 12 = .ok (.iload_n 3, 1) := by decide +kernel
theorem dX4_spreads_13 : decode cX4_spreads 13 = .ok (.aload_n 0, 1) := by decide +kernel
theorem dX4_spreads_14 : decode cX4_spreads 14 = .ok (.getfield 61, 3) := by decide +kernel
theorem dX4_spreads_17 : decode cX4_spreads 17 = .ok (.if_icmp .ge 35, 3) := by decide +kernel
theorem dX4_spreads_20 : decode cX4_spreads 20 = .ok (.aload_n 0, 1) := by decide +kernel
theorem dX4_spreads_21 : decode cX4_spreads 21 = .ok (.aload_n 0, 1) := by decide +kernel
theorem dX4_spreads_22 : decode cX4_spreads 22 = .ok (.getfield 28, 3) := by decide +kernel
theorem dX4_spreads_25 : decode cX4_spreads 25 = .ok (.iload_n 2, 1) := by decide +kernel
theorem dX4_spreads_26 : decode cX4_spreads 26 = .ok (.iaload, 1) := by decide +kernel
theorem dX4_spreads_27 : decode cX4_spreads 27 = .ok (.iload_n 3, 1) := by decide +kernel
theorem dX4_spreads_28 : decode cX4_spreads 28 = .ok (.iconst (-1), 1) := by decide +kernel
theorem dX4_spreads_29 : decode cX4_spreads 29 = .ok (.iload_n 1, 1) := by decide +kernel
theorem dX4_spreads_30 : decode cX4_spreads 30 = .ok (.invokevirtual 79, 3) := by decide +kernel
theorem dX4_spreads_33 : decode cX4_spreads 33 = .ok (.aload_n 0, 1) := by decide +kernel
theorem dX4_spreads_34 : decode cX4_spreads 34 = .ok (.aload_n 0, 1) := by decide +kernel
theorem dX4_spreads_35 : decode cX4_spreads 35 = .ok (.getfield 28, 3) := by decide +kernel
theorem dX4_spreads_38 : decode cX4_spreads 38 = .ok (.iload_n 2, 1) := by decide +kernel
theorem dX4_spreads_39 : decode cX4_spreads 39 = .ok (.iaload, 1) := by decide +kernel
theorem dX4_spreads_40 : decode cX4_spreads 40 = .ok (.iload_n 3, 1) := by decide +kernel
theorem dX4_spreads_41 : decode cX4_spreads 41 = .ok (.iconst 1, 1) := by decide +kernel
theorem dX4_spreads_42 : decode cX4_spreads 42 = .ok (.iload_n 1, 1) := by decide +kernel
theorem dX4_spreads_43 : decode cX4_spreads 43 = .ok (.invokevirtual 79, 3) := by decide +kernel
theorem dX4_spreads_46 : decode cX4_spreads 46 = .ok (.iinc 3 1, 3) := by decide +kernel
theorem dX4_spreads_49 : decode cX4_spreads 49 = .ok (.goto (-37), 3) := by decide +kernel
theorem dX4_spreads_52 : decode cX4_spreads 52 = .ok (.iinc 2 1, 3) := by decide +kernel
theorem dX4_spreads_55 : decode cX4_spreads 55 = .ok (.goto (-53), 3) := by decide +kernel
theorem dX4_spreads_58 : decode cX4_spreads 58 = .ok (.return_, 1) := by decide +kernel
theorem dX4_forgets_0 : decode cX4_forgets 0 = .ok (.iconst 0, 1) := by decide +kernel
theorem dX4_forgets_1 : decode cX4_forgets 1 = .ok (.istore_n 1, 1) := by decide +kernel
theorem dX4_forgets_2 : decode cX4_forgets 2 = .ok (.iload_n 1, 1) := by decide +kernel
theorem dX4_forgets_3 : decode cX4_forgets 3 = .ok (.sipush 4096, 3) := by decide +kernel
theorem dX4_forgets_6 : decode cX4_forgets 6 = .ok (.if_icmp .ge 16, 3) := by decide +kernel
theorem dX4_forgets_9 : decode cX4_forgets 9 = .ok (.aload_n 0, 1) := by decide +kernel
theorem dX4_forgets_10 : decode cX4_forgets 10 = .ok (.getfield 25, 3) := by decide +kernel
theorem dX4_forgets_13 : decode cX4_forgets 13 = .ok (.iload_n 1, 1) := by decide +kernel
theorem dX4_forgets_14 : decode cX4_forgets 14 = .ok (.iconst (-1), 1) := by decide +kernel
theorem dX4_forgets_15 : decode cX4_forgets 15 = .ok (.iastore, 1) := by decide +kernel
theorem dX4_forgets_16 : decode cX4_forgets 16 = .ok (.iinc 1 1, 3) := by decide +kernel
theorem dX4_forgets_19 : decode cX4_forgets 19 = .ok (.goto (-17), 3) := by decide +kernel
theorem dX4_forgets_22 : decode cX4_forgets 22 = .ok (.aload_n 0, 1) := by decide +kernel
theorem dX4_forgets_23 : decode cX4_forgets 23 = .ok (.iconst 0, 1) := by decide +kernel
theorem dX4_forgets_24 : decode cX4_forgets 24 = .ok (.putfield 67, 3) := by decide +kernel
theorem dX4_forgets_27 : decode cX4_forgets 27 = .ok (.return_, 1) := by decide +kernel
theorem dX4_from_0 : decode cX4_from 0 = .ok (.aload_n 0, 1) := by decide +kernel
theorem dX4_from_1 : decode cX4_from 1 = .ok (.invokevirtual 83, 3) := by decide +kernel
theorem dX4_from_4 : decode cX4_from 4 = .ok (.aload_n 0, 1) := by decide +kernel
theorem dX4_from_5 : decode cX4_from 5 = .ok (.iload_n 1, 1) := by decide +kernel
theorem dX4_from_6 : decode cX4_from 6 = .ok (.iconst 0, 1) := by decide +kernel
theorem dX4_from_7 : decode cX4_from 7 = .ok (.invokevirtual 75, 3) := by decide +kernel
theorem dX4_from_10 : decode cX4_from 10 = .ok (.aload_n 0, 1) := by decide +kernel
theorem dX4_from_11 : decode cX4_from 11 = .ok (.iload_n 2, 1) := by decide +kernel
theorem dX4_from_12 : decode cX4_from 12 = .ok (.invokevirtual 86, 3) := by decide +kernel
theorem dX4_from_15 : decode cX4_from 15 = .ok (.return_, 1) := by decide +kernel
theorem dX4_fromEnds_0 : decode cX4_fromEnds 0 = .ok (.aload_n 0, 1) := by decide +kernel
theorem dX4_fromEnds_1 : decode cX4_fromEnds 1 = .ok (.invokevirtual 83, 3) := by decide +kernel
theorem dX4_fromEnds_4 : decode cX4_fromEnds 4 = .ok (.iconst 0, 1) := by decide +kernel
theorem dX4_fromEnds_5 : decode cX4_fromEnds 5 = .ok (.istore_n 1, 1) := by decide +kernel
theorem dX4_fromEnds_6 : decode cX4_fromEnds 6 = .ok (.iload_n 1, 1) := by decide +kernel
theorem dX4_fromEnds_7 : decode cX4_fromEnds 7 = .ok (.iconst 1, 1) := by decide +kernel
theorem dX4_fromEnds_8 : decode cX4_fromEnds 8 = .ok (.iconst 2, 1) := by decide +kernel
theorem dX4_fromEnds_9 : decode cX4_fromEnds 9 = .ok (.aload_n 0, 1) := by decide +kernel
theorem dX4_fromEnds_10 : decode cX4_fromEnds 10 = .ok (.getfield 61, 3) := by decide +kernel
theorem dX4_fromEnds_13 : decode cX4_fromEnds 13 = .ok (.imul, 1) := by decide +kernel
theorem dX4_fromEnds_14 : decode cX4_fromEnds 14 = .ok (.ishl, 1) := by decide +kernel
theorem dX4_fromEnds_15 : decode cX4_fromEnds 15 = .ok (.if_icmp .ge 31, 3) := by decide +kernel
theorem dX4_fromEnds_18 : decode cX4_fromEnds 18 = .ok (.aload_n 0, 1) := by decide +kernel
theorem dX4_fromEnds_19 : decode cX4_fromEnds 19 = .ok (.iload_n 1, 1) := by decide +kernel
theorem dX4_fromEnds_20 : decode cX4_fromEnds 20 = .ok (.invokevirtual 90, 3) := by decide +kernel
theorem dX4_fromEnds_23 : decode cX4_fromEnds 23 = .ok (.ifCond .eq 17, 3) := by decide +kernel
theorem dX4_fromEnds_26 : decode cX4_fromEnds 26 = .ok (.aload_n 0, 1) := by decide +kernel
theorem dX4_fromEnds_27 : decode cX4_fromEnds 27 = .ok (.iload_n 1, 1) := by decide +kernel
theorem dX4_fromEnds_28 : decode cX4_fromEnds 28 = .ok (.invokevirtual 94, 3) := by decide +kernel
theorem dX4_fromEnds_31 : decode cX4_fromEnds 31 = .ok (.ifCond .eq 9, 3) := by decide +kernel
theorem dX4_fromEnds_34 : decode cX4_fromEnds 34 = .ok (.aload_n 0, 1) := by decide +kernel
theorem dX4_fromEnds_35 : decode cX4_fromEnds 35 = .ok (.iload_n 1, 1) := by decide +kernel
theorem dX4_fromEnds_36 : decode cX4_fromEnds 36 = .ok (.iconst 0, 1) := by decide +kernel
theorem dX4_fromEnds_37 : decode cX4_fromEnds 37 = .ok (.invokevirtual 75, 3) := by decide +kernel
theorem dX4_fromEnds_40 : decode cX4_fromEnds 40 = .ok (.iinc 1 1, 3) := by decide +kernel
theorem dX4_fromEnds_43 : decode cX4_fromEnds 43 = .ok (.goto (-37), 3) := by decide +kernel
theorem dX4_fromEnds_46 : decode cX4_fromEnds 46 = .ok (.aload_n 0, 1) := by decide +kernel
theorem dX4_fromEnds_47 : decode cX4_fromEnds 47 = .ok (.iconst 3, 1) := by decide +kernel
theorem dX4_fromEnds_48 : decode cX4_fromEnds 48 = .ok (.invokevirtual 86, 3) := by decide +kernel
theorem dX4_fromEnds_51 : decode cX4_fromEnds 51 = .ok (.return_, 1) := by decide +kernel
theorem dX4_leastEnd_0 : decode cX4_leastEnd 0 = .ok (.iconst (-1), 1) := by decide +kernel
theorem dX4_leastEnd_1 : decode cX4_leastEnd 1 = .ok (.istore_n 1, 1) := by decide +kernel
theorem dX4_leastEnd_2 : decode cX4_leastEnd 2 = .ok (.iconst 0, 1) := by decide +kernel
theorem dX4_leastEnd_3 : decode cX4_leastEnd 3 = .ok (.istore_n 2, 1) := by decide +kernel
theorem dX4_leastEnd_4 : decode cX4_leastEnd 4 = .ok (.iload_n 2, 1) := by decide +kernel
theorem dX4_leastEnd_5 : decode cX4_leastEnd 5 = .ok (.iconst 1, 1) := by decide +kernel
theorem dX4_leastEnd_6 : decode cX4_leastEnd 6 = .ok (.iconst 2, 1) := by decide +kernel
theorem dX4_leastEnd_7 : decode cX4_leastEnd 7 = .ok (.aload_n 0, 1) := by decide +kernel
theorem dX4_leastEnd_8 : decode cX4_leastEnd 8 = .ok (.getfield 61, 3) := by decide +kernel
theorem dX4_leastEnd_11 : decode cX4_leastEnd 11 = .ok (.imul, 1) := by decide +kernel
theorem dX4_leastEnd_12 : decode cX4_leastEnd 12 = .ok (.ishl, 1) := by decide +kernel
theorem dX4_leastEnd_13 : decode cX4_leastEnd 13 = .ok (.if_icmp .ge 53, 3) := by decide +kernel
theorem dX4_leastEnd_16 : decode cX4_leastEnd 16 = .ok (.aload_n 0, 1) := by decide +kernel
theorem dX4_leastEnd_17 : decode cX4_leastEnd 17 = .ok (.iload_n 2, 1) := by decide +kernel
theorem dX4_leastEnd_18 : decode cX4_leastEnd 18 = .ok (.invokevirtual 90, 3) := by decide +kernel
theorem dX4_leastEnd_21 : decode cX4_leastEnd 21 = .ok (.ifCond .eq 37, 3) := by decide +kernel
theorem dX4_leastEnd_24 : decode cX4_leastEnd 24 = .ok (.aload_n 0, 1) := by decide +kernel
theorem dX4_leastEnd_25 : decode cX4_leastEnd 25 = .ok (.getfield 25, 3) := by decide +kernel
theorem dX4_leastEnd_28 : decode cX4_leastEnd 28 = .ok (.iload_n 2, 1) := by decide +kernel
theorem dX4_leastEnd_29 : decode cX4_leastEnd 29 = .ok (.iaload, 1) := by decide +kernel
theorem dX4_leastEnd_30 : decode cX4_leastEnd 30 = .ok (.iconst (-1), 1) := by decide +kernel
theorem dX4_leastEnd_31 : decode cX4_leastEnd 31 = .ok (.if_icmp .eq 27, 3) := by decide +kernel
theorem dX4_leastEnd_34 : decode cX4_leastEnd 34 = .ok (.iload_n 1, 1) := by decide +kernel
theorem dX4_leastEnd_35 : decode cX4_leastEnd 35 = .ok (.iconst (-1), 1) := by decide +kernel
theorem dX4_leastEnd_36 : decode cX4_leastEnd 36 = .ok (.if_icmp .eq 13, 3) := by decide +kernel
theorem dX4_leastEnd_39 : decode cX4_leastEnd 39 = .ok (.aload_n 0, 1) := by decide +kernel
theorem dX4_leastEnd_40 : decode cX4_leastEnd 40 = .ok (.getfield 25, 3) := by decide +kernel
theorem dX4_leastEnd_43 : decode cX4_leastEnd 43 = .ok (.iload_n 2, 1) := by decide +kernel
theorem dX4_leastEnd_44 : decode cX4_leastEnd 44 = .ok (.iaload, 1) := by decide +kernel
theorem dX4_leastEnd_45 : decode cX4_leastEnd 45 = .ok (.iload_n 1, 1) := by decide +kernel
theorem dX4_leastEnd_46 : decode cX4_leastEnd 46 = .ok (.if_icmp .ge 12, 3) := by decide +kernel
theorem dX4_leastEnd_49 : decode cX4_leastEnd 49 = .ok (.aload_n 0, 1) := by decide +kernel
theorem dX4_leastEnd_50 : decode cX4_leastEnd 50 = .ok (.getfield 25, 3) := by decide +kernel
theorem dX4_leastEnd_53 : decode cX4_leastEnd 53 = .ok (.iload_n 2, 1) := by decide +kernel
theorem dX4_leastEnd_54 : decode cX4_leastEnd 54 = .ok (.iaload, 1) := by decide +kernel
theorem dX4_leastEnd_55 : decode cX4_leastEnd 55 = .ok (.goto 4, 3) := by decide +kernel
theorem dX4_leastEnd_58 : decode cX4_leastEnd 58 = .ok (.iload_n 1, 1) := by decide +kernel
theorem dX4_leastEnd_59 : decode cX4_leastEnd 59 = .ok (.istore_n 1, 1) := by decide +kernel
theorem dX4_leastEnd_60 : decode cX4_leastEnd 60 = .ok (.iinc 2 1, 3) := by decide +kernel
theorem dX4_leastEnd_63 : decode cX4_leastEnd 63 = .ok (.goto (-59), 3) := by decide +kernel
theorem dX4_leastEnd_66 : decode cX4_leastEnd 66 = .ok (.iload_n 1, 1) := by decide +kernel
theorem dX4_leastEnd_67 : decode cX4_leastEnd 67 = .ok (.ireturn, 1) := by decide +kernel
theorem dX4_fewest_0 : decode cX4_fewest 0 = .ok (.aload_n 0, 1) := by decide +kernel
theorem dX4_fewest_1 : decode cX4_fewest 1 = .ok (.aload_n 0, 1) := by decide +kernel
theorem dX4_fewest_2 : decode cX4_fewest 2 = .ok (.getfield 13, 3) := by decide +kernel
theorem dX4_fewest_5 : decode cX4_fewest 5 = .ok (.iconst 0, 1) := by decide +kernel
theorem dX4_fewest_6 : decode cX4_fewest 6 = .ok (.iaload, 1) := by decide +kernel
theorem dX4_fewest_7 : decode cX4_fewest 7 = .ok (.aload_n 0, 1) := by decide +kernel
theorem dX4_fewest_8 : decode cX4_fewest 8 = .ok (.getfield 13, 3) := by decide +kernel
theorem dX4_fewest_11 : decode cX4_fewest 11 = .ok (.bipush 19, 2) := by decide +kernel
theorem dX4_fewest_13 : decode cX4_fewest 13 = .ok (.iaload, 1) := by decide +kernel
theorem dX4_fewest_14 : decode cX4_fewest 14 = .ok (.invokevirtual 97, 3) := by decide +kernel
theorem dX4_fewest_17 : decode cX4_fewest 17 = .ok (.aload_n 0, 1) := by decide +kernel
theorem dX4_fewest_18 : decode cX4_fewest 18 = .ok (.getfield 61, 3) := by decide +kernel
theorem dX4_fewest_21 : decode cX4_fewest 21 = .ok (.ifCond .ne 5, 3) := by decide +kernel
theorem dX4_fewest_24 : decode cX4_fewest 24 = .ok (.iconst (-1), 1) := by decide +kernel
theorem dX4_fewest_25 : decode cX4_fewest 25 = .ok (.ireturn, 1) := by decide +kernel
theorem dX4_fewest_26 : decode cX4_fewest 26 = .ok (.aload_n 0, 1) := by decide +kernel
theorem dX4_fewest_27 : decode cX4_fewest 27 = .ok (.aload_n 0, 1) := by decide +kernel
theorem dX4_fewest_28 : decode cX4_fewest 28 = .ok (.invokevirtual 100, 3) := by decide +kernel
theorem dX4_fewest_31 : decode cX4_fewest 31 = .ok (.iload_n 1, 1) := by decide +kernel
theorem dX4_fewest_32 : decode cX4_fewest 32 = .ok (.invokevirtual 103, 3) := by decide +kernel
theorem dX4_fewest_35 : decode cX4_fewest 35 = .ok (.aload_n 0, 1) := by decide +kernel
theorem dX4_fewest_36 : decode cX4_fewest 36 = .ok (.invokevirtual 106, 3) := by decide +kernel
theorem dX4_fewest_39 : decode cX4_fewest 39 = .ok (.ireturn, 1) := by decide +kernel
theorem dX4_fewestEnds_0 : decode cX4_fewestEnds 0 = .ok (.aload_n 0, 1) := by decide +kernel
theorem dX4_fewestEnds_1 : decode cX4_fewestEnds 1 = .ok (.aload_n 0, 1) := by decide +kernel
theorem dX4_fewestEnds_2 : decode cX4_fewestEnds 2 = .ok (.getfield 13, 3) := by decide +kernel
theorem dX4_fewestEnds_5 : decode cX4_fewestEnds 5 = .ok (.iconst 0, 1) := by decide +kernel
theorem dX4_fewestEnds_6 : decode cX4_fewestEnds 6 = .ok (.iaload, 1) := by decide +kernel
theorem dX4_fewestEnds_7 : decode cX4_fewestEnds 7 = .ok (.aload_n 0, 1) := by decide +kernel
theorem dX4_fewestEnds_8 : decode cX4_fewestEnds 8 = .ok (.getfield 13, 3) := by decide +kernel
theorem dX4_fewestEnds_11 : decode cX4_fewestEnds 11 = .ok (.bipush 19, 2) := by decide +kernel
theorem dX4_fewestEnds_13 : decode cX4_fewestEnds 13 = .ok (.iaload, 1) := by decide +kernel
theorem dX4_fewestEnds_14 : decode cX4_fewestEnds 14 = .ok (.invokevirtual 97, 3) := by decide +kernel
theorem dX4_fewestEnds_17 : decode cX4_fewestEnds 17 = .ok (.aload_n 0, 1) := by decide +kernel
theorem dX4_fewestEnds_18 : decode cX4_fewestEnds 18 = .ok (.invokevirtual 109, 3) := by decide +kernel
theorem dX4_fewestEnds_21 : decode cX4_fewestEnds 21 = .ok (.aload_n 0, 1) := by decide +kernel
theorem dX4_fewestEnds_22 : decode cX4_fewestEnds 22 = .ok (.getfield 61, 3) := by decide +kernel
theorem dX4_fewestEnds_25 : decode cX4_fewestEnds 25 = .ok (.ifCond .ne 7, 3) := by decide +kernel
theorem dX4_fewestEnds_28 : decode cX4_fewestEnds 28 = .ok (.iconst (-1), 1) := by decide +kernel
theorem dX4_fewestEnds_29 : decode cX4_fewestEnds 29 = .ok (.goto 12, 3) := by decide +kernel
theorem dX4_fewestEnds_32 : decode cX4_fewestEnds 32 = .ok (.aload_n 0, 1) := by decide +kernel
theorem dX4_fewestEnds_33 : decode cX4_fewestEnds 33 = .ok (.getfield 25, 3) := by decide +kernel
theorem dX4_fewestEnds_36 : decode cX4_fewestEnds 36 = .ok (.aload_n 0, 1) := by decide +kernel
theorem dX4_fewestEnds_37 : decode cX4_fewestEnds 37 = .ok (.invokevirtual 100, 3) := by decide +kernel
theorem dX4_fewestEnds_40 : decode cX4_fewestEnds 40 = .ok (.iaload, 1) := by decide +kernel
theorem dX4_fewestEnds_41 : decode cX4_fewestEnds 41 = .ok (.ireturn, 1) := by decide +kernel
theorem dX4_cheapens_0 : decode cX4_cheapens 0 = .ok (.aload_n 0, 1) := by decide +kernel
theorem dX4_cheapens_1 : decode cX4_cheapens 1 = .ok (.getfield 25, 3) := by decide +kernel
theorem dX4_cheapens_4 : decode cX4_cheapens 4 = .ok (.iload_n 1, 1) := by decide +kernel
theorem dX4_cheapens_5 : decode cX4_cheapens 5 = .ok (.iaload, 1) := by decide +kernel
theorem dX4_cheapens_6 : decode cX4_cheapens 6 = .ok (.iconst (-1), 1) := by decide +kernel
theorem dX4_cheapens_7 : decode cX4_cheapens 7 = .ok (.if_icmp .eq 13, 3) := by decide +kernel
theorem dX4_cheapens_10 : decode cX4_cheapens 10 = .ok (.iload_n 2, 1) := by decide +kernel
theorem dX4_cheapens_11 : decode cX4_cheapens 11 = .ok (.aload_n 0, 1) := by decide +kernel
theorem dX4_cheapens_12 : decode cX4_cheapens 12 = .ok (.getfield 25, 3) := by decide +kernel
theorem dX4_cheapens_15 : decode cX4_cheapens 15 = .ok (.iload_n 1, 1) := by decide +kernel
