theorem dL_refuses_779 : decode cL_refuses 779 = .ok (.ldc 18, 2) := by decide +kernel
theorem dL_refuses_781 : decode cL_refuses 781 = .ok (.if_icmp .ne 105, 3) := by decide +kernel
theorem dL_refuses_784 : decode cL_refuses 784 = .ok (.aload_n 0, 1) := by decide +kernel
theorem dL_refuses_785 : decode cL_refuses 785 = .ok (.bipush 19, 2) := by decide +kernel
theorem dL_refuses_787 : decode cL_refuses 787 = .ok (.iload 8, 2) := by decide +kernel
theorem dL_refuses_789 : decode cL_refuses 789 = .ok (.iload 9, 2) := by decide +kernel
theorem dL_refuses_791 : decode cL_refuses 791 = .ok (.iconst 0, 1) := by decide +kernel
theorem dL_refuses_792 : decode cL_refuses 792 = .ok (.invokestatic 176, 3) := by decide +kernel
theorem dL_refuses_795 : decode cL_refuses 795 = .ok (.ldc 18, 2) := by decide +kernel
theorem dL_refuses_797 : decode cL_refuses 797 = .ok (.if_icmp .ne 89, 3) := by decide +kernel
theorem dL_refuses_800 : decode cL_refuses 800 = .ok (.aload_n 0, 1) := by decide +kernel
theorem dL_refuses_801 : decode cL_refuses 801 = .ok (.iload 8, 2) := by decide +kernel
theorem dL_refuses_803 : decode cL_refuses 803 = .ok (.iconst 0, 1) := by decide +kernel
theorem dL_refuses_804 : decode cL_refuses 804 = .ok (.invokestatic 185, 3) := by decide +kernel
theorem dL_refuses_807 : decode cL_refuses 807 = .ok (.iload 9, 2) := by decide +kernel
theorem dL_refuses_809 : decode cL_refuses 809 = .ok (.if_icmp .ge 19, 3) := by decide +kernel
theorem dL_refuses_812 : decode cL_refuses 812 = .ok (.aload_n 0, 1) := by decide +kernel
theorem dL_refuses_813 : decode cL_refuses 813 = .ok (.iconst 2, 1) := by decide +kernel
theorem dL_refuses_814 : decode cL_refuses 814 = .ok (.iload 8, 2) := by decide +kernel
theorem dL_refuses_816 : decode cL_refuses 816 = .ok (.iload 9, 2) := by decide +kernel
theorem dL_refuses_818 : decode cL_refuses 818 = .ok (.ineg, 1) := by decide +kernel
theorem dL_refuses_819 : decode cL_refuses 819 = .ok (.iconst 0, 1) := by decide +kernel
theorem dL_refuses_820 : decode cL_refuses 820 = .ok (.invokestatic 176, 3) := by decide +kernel
theorem dL_refuses_823 : decode cL_refuses 823 = .ok (.ldc 18, 2) := by decide +kernel
theorem dL_refuses_825 : decode cL_refuses 825 = .ok (.if_icmp .ne 61, 3) := by decide +kernel
theorem dL_refuses_828 : decode cL_refuses 828 = .ok (.aload_n 0, 1) := by decide +kernel
theorem dL_refuses_829 : decode cL_refuses 829 = .ok (.invokevirtual 173, 3) := by decide +kernel
theorem dL_refuses_832 : decode cL_refuses 832 = .ok (.bipush 6, 2) := by decide +kernel
theorem dL_refuses_834 : decode cL_refuses 834 = .ok (.if_icmp .lt 17, 3) := by decide +kernel
theorem dL_refuses_837 : decode cL_refuses 837 = .ok (.aload_n 0, 1) := by decide +kernel
theorem dL_refuses_838 : decode cL_refuses 838 = .ok (.iconst 0, 1) := by decide +kernel
theorem dL_refuses_839 : decode cL_refuses 839 = .ok (.iload 4, 2) := by decide +kernel
theorem dL_refuses_841 : decode cL_refuses 841 = .ok (.iconst 0, 1) := by decide +kernel
theorem dL_refuses_842 : decode cL_refuses 842 = .ok (.iconst 2, 1) := by decide +kernel
theorem dL_refuses_843 : decode cL_refuses 843 = .ok (.invokestatic 176, 3) := by decide +kernel
theorem dL_refuses_846 : decode cL_refuses 846 = .ok (.ldc 18, 2) := by decide +kernel
theorem dL_refuses_848 : decode cL_refuses 848 = .ok (.if_icmp .ne 38, 3) := by decide +kernel
theorem dL_refuses_851 : decode cL_refuses 851 = .ok (.aload_n 0, 1) := by decide +kernel
theorem dL_refuses_852 : decode cL_refuses 852 = .ok (.iconst 0, 1) := by decide +kernel
theorem dL_refuses_853 : decode cL_refuses 853 = .ok (.aload_n 0, 1) := by decide +kernel
theorem dL_refuses_854 : decode cL_refuses 854 = .ok (.bipush 10, 2) := by decide +kernel
theorem dL_refuses_856 : decode cL_refuses 856 = .ok (.iload 8, 2) := by decide +kernel
theorem dL_refuses_858 : decode cL_refuses 858 = .ok (.iconst 0, 1) := by decide +kernel
theorem dL_refuses_859 : decode cL_refuses 859 = .ok (.iconst 0, 1) := by decide +kernel
theorem dL_refuses_860 : decode cL_refuses 860 = .ok (.invokestatic 176, 3) := by decide +kernel
theorem dL_refuses_863 : decode cL_refuses 863 = .ok (.aload_n 0, 1) := by decide +kernel
theorem dL_refuses_864 : decode cL_refuses 864 = .ok (.bipush 11, 2) := by decide +kernel
theorem dL_refuses_866 : decode cL_refuses 866 = .ok (.iload 8, 2) := by decide +kernel
theorem dL_refuses_868 : decode cL_refuses 868 = .ok (.iconst 0, 1) := by decide +kernel
theorem dL_refuses_869 : decode cL_refuses 869 = .ok (.iconst 0, 1) := by decide +kernel
theorem dL_refuses_870 : decode cL_refuses 870 = .ok (.invokestatic 176, 3) := by decide +kernel
theorem dL_refuses_873 : decode cL_refuses 873 = .ok (.iconst 2, 1) := by decide +kernel
theorem dL_refuses_874 : decode cL_refuses 874 = .ok (.invokestatic 176, 3) := by decide +kernel
theorem dL_refuses_877 : decode cL_refuses 877 = .ok (.ldc 18, 2) := by decide +kernel
theorem dL_refuses_879 : decode cL_refuses 879 = .ok (.if_icmp .ne 7, 3) := by decide +kernel
theorem dL_refuses_882 : decode cL_refuses 882 = .ok (.iconst 1, 1) := by decide +kernel
theorem dL_refuses_883 : decode cL_refuses 883 = .ok (.goto 4, 3) := by decide +kernel
theorem dL_refuses_886 : decode cL_refuses 886 = .ok (.iconst 0, 1) := by decide +kernel
theorem dL_refuses_887 : decode cL_refuses 887 = .ok (.ireturn, 1) := by decide +kernel
theorem dL_holds_0 : decode cL_holds 0 = .ok (.aload_n 0, 1) := by decide +kernel
theorem dL_holds_1 : decode cL_holds 1 = .ok (.invokevirtual 173, 3) := by decide +kernel
theorem dL_holds_4 : decode cL_holds 4 = .ok (.istore_n 1, 1) := by decide +kernel
theorem dL_holds_5 : decode cL_holds 5 = .ok (.iconst 0, 1) := by decide +kernel
theorem dL_holds_6 : decode cL_holds 6 = .ok (.istore_n 2, 1) := by decide +kernel
theorem dL_holds_7 : decode cL_holds 7 = .ok (.iconst 0, 1) := by decide +kernel
theorem dL_holds_8 : decode cL_holds 8 = .ok (.istore_n 3, 1) := by decide +kernel
theorem dL_holds_9 : decode cL_holds 9 = .ok (.iconst 0, 1) := by decide +kernel
theorem dL_holds_10 : decode cL_holds 10 = .ok (.istore 4, 2) := by decide +kernel
theorem dL_holds_12 : decode cL_holds 12 = .ok (.iload_n 1, 1) := by decide +kernel
theorem dL_holds_13 : decode cL_holds 13 = .ok (.bipush 6, 2) := by decide +kernel
theorem dL_holds_15 : decode cL_holds 15 = .ok (.if_icmp .gt 24, 3) := by decide +kernel
theorem dL_holds_18 : decode cL_holds 18 = .ok (.aload_n 0, 1) := by decide +kernel
theorem dL_holds_19 : decode cL_holds 19 = .ok (.invokevirtual 191, 3) := by decide +kernel
theorem dL_holds_22 : decode cL_holds 22 = .ok (.iconst 4, 1) := by decide +kernel
theorem dL_holds_23 : decode cL_holds 23 = .ok (.if_icmp .gt 16, 3) := by decide +kernel
theorem dL_holds_26 : decode cL_holds 26 = .ok (.aload_n 0, 1) := by decide +kernel
theorem dL_holds_27 : decode cL_holds 27 = .ok (.invokevirtual 188, 3) := by decide +kernel
theorem dL_holds_30 : decode cL_holds 30 = .ok (.bipush 60, 2) := by decide +kernel
theorem dL_holds_32 : decode cL_holds 32 = .ok (.if_icmp .gt 7, 3) := by decide +kernel
theorem dL_holds_35 : decode cL_holds 35 = .ok (.iconst 1, 1) := by decide +kernel
theorem dL_holds_36 : decode cL_holds 36 = .ok (.goto 4, 3) := by decide +kernel
theorem dL_holds_39 : decode cL_holds 39 = .ok (.iconst 0, 1) := by decide +kernel
theorem dL_holds_40 : decode cL_holds 40 = .ok (.istore 5, 2) := by decide +kernel
theorem dL_holds_42 : decode cL_holds 42 = .ok (.iconst 0, 1) := by decide +kernel
theorem dL_holds_43 : decode cL_holds 43 = .ok (.istore 6, 2) := by decide +kernel
theorem dL_holds_45 : decode cL_holds 45 = .ok (.iload 6, 2) := by decide +kernel
theorem dL_holds_47 : decode cL_holds 47 = .ok (.iload_n 1, 1) := by decide +kernel
theorem dL_holds_48 : decode cL_holds 48 = .ok (.if_icmp .ge 306, 3) := by decide +kernel
theorem dL_holds_51 : decode cL_holds 51 = .ok (.iload 5, 2) := by decide +kernel
theorem dL_holds_53 : decode cL_holds 53 = .ok (.ifCond .eq 301, 3) := by decide +kernel
theorem dL_holds_56 : decode cL_holds 56 = .ok (.aload_n 0, 1) := by decide +kernel
theorem dL_holds_57 : decode cL_holds 57 = .ok (.bipush 10, 2) := by decide +kernel
theorem dL_holds_59 : decode cL_holds 59 = .ok (.iload 6, 2) := by decide +kernel
theorem dL_holds_61 : decode cL_holds 61 = .ok (.iconst 0, 1) := by decide +kernel
theorem dL_holds_62 : decode cL_holds 62 = .ok (.iconst 0, 1) := by decide +kernel
theorem dL_holds_63 : decode cL_holds 63 = .ok (.invokestatic 176, 3) := by decide +kernel
theorem dL_holds_66 : decode cL_holds 66 = .ok (.istore 7, 2) := by decide +kernel
theorem dL_holds_68 : decode cL_holds 68 = .ok (.aload_n 0, 1) := by decide +kernel
theorem dL_holds_69 : decode cL_holds 69 = .ok (.bipush 11, 2) := by decide +kernel
theorem dL_holds_71 : decode cL_holds 71 = .ok (.iload 6, 2) := by decide +kernel
theorem dL_holds_73 : decode cL_holds 73 = .ok (.iconst 0, 1) := by decide +kernel
theorem dL_holds_74 : decode cL_holds 74 = .ok (.iconst 0, 1) := by decide +kernel
theorem dL_holds_75 : decode cL_holds 75 = .ok (.invokestatic 176, 3) := by decide +kernel
theorem dL_holds_78 : decode cL_holds 78 = .ok (.istore 8, 2) := by decide +kernel
theorem dL_holds_80 : decode cL_holds 80 = .ok (.aload_n 0, 1) := by decide +kernel
theorem dL_holds_81 : decode cL_holds 81 = .ok (.bipush 12, 2) := by decide +kernel
theorem dL_holds_83 : decode cL_holds 83 = .ok (.iload 6, 2) := by decide +kernel
theorem dL_holds_85 : decode cL_holds 85 = .ok (.iconst 0, 1) := by decide +kernel
theorem dL_holds_86 : decode cL_holds 86 = .ok (.iconst 0, 1) := by decide +kernel
theorem dL_holds_87 : decode cL_holds 87 = .ok (.invokestatic 176, 3) := by decide +kernel
theorem dL_holds_90 : decode cL_holds 90 = .ok (.istore 9, 2) := by decide +kernel
theorem dL_holds_92 : decode cL_holds 92 = .ok (.iconst 0, 1) := by decide +kernel
theorem dL_holds_93 : decode cL_holds 93 = .ok (.istore 10, 2) := by decide +kernel
theorem dL_holds_95 : decode cL_holds 95 = .ok (.iconst 0, 1) := by decide +kernel
theorem dL_holds_96 : decode cL_holds 96 = .ok (.istore 11, 2) := by decide +kernel
theorem dL_holds_98 : decode cL_holds 98 = .ok (.iload 11, 2) := by decide +kernel
theorem dL_holds_100 : decode cL_holds 100 = .ok (.aload_n 0, 1) := by decide +kernel
theorem dL_holds_101 : decode cL_holds 101 = .ok (.invokevirtual 188, 3) := by decide +kernel
theorem dL_holds_104 : decode cL_holds 104 = .ok (.if_icmp .ge 58, 3) := by decide +kernel
theorem dL_holds_107 : decode cL_holds 107 = .ok (.aload_n 0, 1) := by decide +kernel
theorem dL_holds_108 : decode cL_holds 108 = .ok (.bipush 15, 2) := by decide +kernel
theorem dL_holds_110 : decode cL_holds 110 = .ok (.iload 11, 2) := by decide +kernel
theorem dL_holds_112 : decode cL_holds 112 = .ok (.iconst 0, 1) := by decide +kernel
theorem dL_holds_113 : decode cL_holds 113 = .ok (.iconst 0, 1) := by decide +kernel
theorem dL_holds_114 : decode cL_holds 114 = .ok (.invokestatic 176, 3) := by decide +kernel
theorem dL_holds_117 : decode cL_holds 117 = .ok (.istore 12, 2) := by decide +kernel
theorem dL_holds_119 : decode cL_holds 119 = .ok (.iload 10, 2) := by decide +kernel
theorem dL_holds_121 : decode cL_holds 121 = .ok (.aload_n 0, 1) := by decide +kernel
theorem dL_holds_122 : decode cL_holds 122 = .ok (.bipush 14, 2) := by decide +kernel
theorem dL_holds_124 : decode cL_holds 124 = .ok (.iload 11, 2) := by decide +kernel
theorem dL_holds_126 : decode cL_holds 126 = .ok (.iconst 0, 1) := by decide +kernel
theorem dL_holds_127 : decode cL_holds 127 = .ok (.iconst 0, 1) := by decide +kernel
theorem dL_holds_128 : decode cL_holds 128 = .ok (.invokestatic 176, 3) := by decide +kernel
theorem dL_holds_131 : decode cL_holds 131 = .ok (.iload 6, 2) := by decide +kernel
theorem dL_holds_133 : decode cL_holds 133 = .ok (.if_icmp .eq 7, 3) := by decide +kernel
theorem dL_holds_136 : decode cL_holds 136 = .ok (.iconst 0, 1) := by decide +kernel
theorem dL_holds_137 : decode cL_holds 137 = .ok (.goto 16, 3) := by decide +kernel
theorem dL_holds_140 : decode cL_holds 140 = .ok (.iload 12, 2) := by decide +kernel
theorem dL_holds_142 : decode cL_holds 142 = .ok (.ifCond .ge 9, 3) := by decide +kernel
theorem dL_holds_145 : decode cL_holds 145 = .ok (.iload 12, 2) := by decide +kernel
theorem dL_holds_147 : decode cL_holds 147 = .ok (.ineg, 1) := by decide +kernel
theorem dL_holds_148 : decode cL_holds 148 = .ok (.goto 5, 3) := by decide +kernel
theorem dL_holds_151 : decode cL_holds 151 = .ok (.iload 12, 2) := by decide +kernel
theorem dL_holds_153 : decode cL_holds 153 = .ok (.iadd, 1) := by decide +kernel
theorem dL_holds_154 : decode cL_holds 154 = .ok (.istore 10, 2) := by decide +kernel
theorem dL_holds_156 : decode cL_holds 156 = .ok (.iinc 11 1, 3) := by decide +kernel
theorem dL_holds_159 : decode cL_holds 159 = .ok (.goto (-61), 3) := by decide +kernel
theorem dL_holds_162 : decode cL_holds 162 = .ok (.iconst 0, 1) := by decide +kernel
theorem dL_holds_163 : decode cL_holds 163 = .ok (.istore 11, 2) := by decide +kernel
theorem dL_holds_165 : decode cL_holds 165 = .ok (.iload 11, 2) := by decide +kernel
theorem dL_holds_167 : decode cL_holds 167 = .ok (.iload 9, 2) := by decide +kernel
theorem dL_holds_169 : decode cL_holds 169 = .ok (.if_icmp .ge 65, 3) := by decide +kernel
theorem dL_holds_172 : decode cL_holds 172 = .ok (.iload 5, 2) := by decide +kernel
theorem dL_holds_174 : decode cL_holds 174 = .ok (.ifCond .eq 60, 3) := by decide +kernel
theorem dL_holds_177 : decode cL_holds 177 = .ok (.aload_n 0, 1) := by decide +kernel
theorem dL_holds_178 : decode cL_holds 178 = .ok (.bipush 13, 2) := by decide +kernel
theorem dL_holds_180 : decode cL_holds 180 = .ok (.iload 7, 2) := by decide +kernel
theorem dL_holds_182 : decode cL_holds 182 = .ok (.iconst 5, 1) := by decide +kernel
theorem dL_holds_183 : decode cL_holds 183 = .ok (.if_icmp .ge 16, 3) := by decide +kernel
theorem dL_holds_186 : decode cL_holds 186 = .ok (.iconst 5, 1) := by decide +kernel
theorem dL_holds_187 : decode cL_holds 187 = .ok (.iload 7, 2) := by decide +kernel
theorem dL_holds_189 : decode cL_holds 189 = .ok (.imul, 1) := by decide +kernel
theorem dL_holds_190 : decode cL_holds 190 = .ok (.iload 8, 2) := by decide +kernel
theorem dL_holds_192 : decode cL_holds 192 = .ok (.iadd, 1) := by decide +kernel
theorem dL_holds_193 : decode cL_holds 193 = .ok (.iload 11, 2) := by decide +kernel
theorem dL_holds_195 : decode cL_holds 195 = .ok (.iadd, 1) := by decide +kernel
theorem dL_holds_196 : decode cL_holds 196 = .ok (.goto 15, 3) := by decide +kernel
theorem dL_holds_199 : decode cL_holds 199 = .ok (.iconst 5, 1) := by decide +kernel
theorem dL_holds_200 : decode cL_holds 200 = .ok (.iload 8, 2) := by decide +kernel
theorem dL_holds_202 : decode cL_holds 202 = .ok (.iload 11, 2) := by decide +kernel
theorem dL_holds_204 : decode cL_holds 204 = .ok (.iadd, 1) := by decide +kernel
theorem dL_holds_205 : decode cL_holds 205 = .ok (.imul, 1) := by decide +kernel
theorem dL_holds_206 : decode cL_holds 206 = .ok (.iload 7, 2) := by decide +kernel
theorem dL_holds_208 : decode cL_holds 208 = .ok (.iadd, 1) := by decide +kernel
theorem dL_holds_209 : decode cL_holds 209 = .ok (.iconst 5, 1) := by decide +kernel
theorem dL_holds_210 : decode cL_holds 210 = .ok (.isub, 1) := by decide +kernel
theorem dL_holds_211 : decode cL_holds 211 = .ok (.iconst 0, 1) := by decide +kernel
theorem dL_holds_212 : decode cL_holds 212 = .ok (.iconst 0, 1) := by decide +kernel
theorem dL_holds_213 : decode cL_holds 213 = .ok (.invokestatic 176, 3) := by decide +kernel
theorem dL_holds_216 : decode cL_holds 216 = .ok (.iload 6, 2) := by decide +kernel
theorem dL_holds_218 : decode cL_holds 218 = .ok (.if_icmp .ne 7, 3) := by decide +kernel
theorem dL_holds_221 : decode cL_holds 221 = .ok (.iconst 1, 1) := by decide +kernel
theorem dL_holds_222 : decode cL_holds 222 = .ok (.goto 4, 3) := by decide +kernel
theorem dL_holds_225 : decode cL_holds 225 = .ok (.iconst 0, 1) := by decide +kernel
theorem dL_holds_226 : decode cL_holds 226 = .ok (.istore 5, 2) := by decide +kernel
theorem dL_holds_228 : decode cL_holds 228 = .ok (.iinc 11 1, 3) := by decide +kernel
theorem dL_holds_231 : decode cL_holds 231 = .ok (.goto (-66), 3) := by decide +kernel
theorem dL_holds_234 : decode cL_holds 234 = .ok (.iload_n 2, 1) := by decide +kernel
theorem dL_holds_235 : decode cL_holds 235 = .ok (.iload 9, 2) := by decide +kernel
theorem dL_holds_237 : decode cL_holds 237 = .ok (.iadd, 1) := by decide +kernel
theorem dL_holds_238 : decode cL_holds 238 = .ok (.istore_n 2, 1) := by decide +kernel
theorem dL_holds_239 : decode cL_holds 239 = .ok (.iload 4, 2) := by decide +kernel
theorem dL_holds_241 : decode cL_holds 241 = .ok (.iload 10, 2) := by decide +kernel
theorem dL_holds_243 : decode cL_holds 243 = .ok (.iload 9, 2) := by decide +kernel
theorem dL_holds_245 : decode cL_holds 245 = .ok (.imul, 1) := by decide +kernel
theorem dL_holds_246 : decode cL_holds 246 = .ok (.iadd, 1) := by decide +kernel
theorem dL_holds_247 : decode cL_holds 247 = .ok (.istore 4, 2) := by decide +kernel
theorem dL_holds_249 : decode cL_holds 249 = .ok (.iload_n 3, 1) := by decide +kernel
theorem dL_holds_250 : decode cL_holds 250 = .ok (.aload_n 0, 1) := by decide +kernel
theorem dL_holds_251 : decode cL_holds 251 = .ok (.iload 6, 2) := by decide +kernel
theorem dL_holds_253 : decode cL_holds 253 = .ok (.iconst 1, 1) := by decide +kernel
theorem dL_holds_254 : decode cL_holds 254 = .ok (.invokestatic 185, 3) := by decide +kernel
theorem dL_holds_257 : decode cL_holds 257 = .ok (.aload_n 0, 1) := by decide +kernel
theorem dL_holds_258 : decode cL_holds 258 = .ok (.iload 6, 2) := by decide +kernel
theorem dL_holds_260 : decode cL_holds 260 = .ok (.iconst 0, 1) := by decide +kernel
theorem dL_holds_261 : decode cL_holds 261 = .ok (.invokestatic 185, 3) := by decide +kernel
theorem dL_holds_264 : decode cL_holds 264 = .ok (.iadd, 1) := by decide +kernel
theorem dL_holds_265 : decode cL_holds 265 = .ok (.iadd, 1) := by decide +kernel
theorem dL_holds_266 : decode cL_holds 266 = .ok (.istore_n 3, 1) := by decide +kernel
theorem dL_holds_267 : decode cL_holds 267 = .ok (.iload 5, 2) := by decide +kernel
theorem dL_holds_269 : decode cL_holds 269 = .ok (.ifCond .eq 76, 3) := by decide +kernel
theorem dL_holds_272 : decode cL_holds 272 = .ok (.iload 8, 2) := by decide +kernel
theorem dL_holds_274 : decode cL_holds 274 = .ok (.ifCond .lt 71, 3) := by decide +kernel
theorem dL_holds_277 : decode cL_holds 277 = .ok (.iload 8, 2) := by decide +kernel
theorem dL_holds_279 : decode cL_holds 279 = .ok (.iload 9, 2) := by decide +kernel
theorem dL_holds_281 : decode cL_holds 281 = .ok (.iadd, 1) := by decide +kernel
theorem dL_holds_282 : decode cL_holds 282 = .ok (.iconst 5, 1) := by decide +kernel
theorem dL_holds_283 : decode cL_holds 283 = .ok (.if_icmp .gt 62, 3) := by decide +kernel
theorem dL_holds_286 : decode cL_holds 286 = .ok (.iload 6, 2) := by decide +kernel
theorem dL_holds_288 : decode cL_holds 288 = .ok (.ifCond .gt 9, 3) := by decide +kernel
theorem dL_holds_291 : decode cL_holds 291 = .ok (.iload 7, 2) := by decide +kernel
theorem dL_holds_293 : decode cL_holds 293 = .ok (.iconst 5, 1) := by decide +kernel
theorem dL_holds_294 : decode cL_holds 294 = .ok (.if_icmp .ge 51, 3) := by decide +kernel
theorem dL_holds_297 : decode cL_holds 297 = .ok (.iload 10, 2) := by decide +kernel
theorem dL_holds_299 : decode cL_holds 299 = .ok (.aload_n 0, 1) := by decide +kernel
theorem dL_holds_300 : decode cL_holds 300 = .ok (.bipush 16, 2) := by decide +kernel
theorem dL_holds_302 : decode cL_holds 302 = .ok (.iload 6, 2) := by decide +kernel
theorem dL_holds_304 : decode cL_holds 304 = .ok (.iconst 0, 1) := by decide +kernel
theorem dL_holds_305 : decode cL_holds 305 = .ok (.iconst 0, 1) := by decide +kernel
theorem dL_holds_306 : decode cL_holds 306 = .ok (.invokestatic 176, 3) := by decide +kernel
theorem dL_holds_309 : decode cL_holds 309 = .ok (.if_icmp .ne 36, 3) := by decide +kernel
theorem dL_holds_312 : decode cL_holds 312 = .ok (.aload_n 0, 1) := by decide +kernel
theorem dL_holds_313 : decode cL_holds 313 = .ok (.iload 6, 2) := by decide +kernel
theorem dL_holds_315 : decode cL_holds 315 = .ok (.iconst 1, 1) := by decide +kernel
theorem dL_holds_316 : decode cL_holds 316 = .ok (.invokestatic 185, 3) := by decide +kernel
theorem dL_holds_319 : decode cL_holds 319 = .ok (.iconst 5, 1) := by decide +kernel
theorem dL_holds_320 : decode cL_holds 320 = .ok (.iload 9, 2) := by decide +kernel
theorem dL_holds_322 : decode cL_holds 322 = .ok (.isub, 1) := by decide +kernel
theorem dL_holds_323 : decode cL_holds 323 = .ok (.iload 8, 2) := by decide +kernel
theorem dL_holds_325 : decode cL_holds 325 = .ok (.isub, 1) := by decide +kernel
theorem dL_holds_326 : decode cL_holds 326 = .ok (.if_icmp .gt 19, 3) := by decide +kernel
theorem dL_holds_329 : decode cL_holds 329 = .ok (.aload_n 0, 1) := by decide +kernel
theorem dL_holds_330 : decode cL_holds 330 = .ok (.iload 6, 2) := by decide +kernel
theorem dL_holds_332 : decode cL_holds 332 = .ok (.iconst 0, 1) := by decide +kernel
theorem dL_holds_333 : decode cL_holds 333 = .ok (.invokestatic 185, 3) := by decide +kernel
theorem dL_holds_336 : decode cL_holds 336 = .ok (.iload 8, 2) := by decide +kernel
theorem dL_holds_338 : decode cL_holds 338 = .ok (.if_icmp .gt 7, 3) := by decide +kernel
theorem dL_holds_341 : decode cL_holds 341 = .ok (.iconst 1, 1) := by decide +kernel
theorem dL_holds_342 : decode cL_holds 342 = .ok (.goto 4, 3) := by decide +kernel
theorem dL_holds_345 : decode cL_holds 345 = .ok (.iconst 0, 1) := by decide +kernel
theorem dL_holds_346 : decode cL_holds 346 = .ok (.istore 5, 2) := by decide +kernel
theorem dL_holds_348 : decode cL_holds 348 = .ok (.iinc 6 1, 3) := by decide +kernel
theorem dL_holds_351 : decode cL_holds 351 = .ok (.goto (-306), 3) := by decide +kernel
theorem dL_holds_354 : decode cL_holds 354 = .ok (.iload 5, 2) := by decide +kernel
theorem dL_holds_356 : decode cL_holds 356 = .ok (.ifCond .eq 49, 3) := by decide +kernel
theorem dL_holds_359 : decode cL_holds 359 = .ok (.aload_n 0, 1) := by decide +kernel
theorem dL_holds_360 : decode cL_holds 360 = .ok (.invokevirtual 198, 3) := by decide +kernel
theorem dL_holds_363 : decode cL_holds 363 = .ok (.bipush 25, 2) := by decide +kernel
theorem dL_holds_365 : decode cL_holds 365 = .ok (.iload_n 2, 1) := by decide +kernel
theorem dL_holds_366 : decode cL_holds 366 = .ok (.isub, 1) := by decide +kernel
theorem dL_holds_367 : decode cL_holds 367 = .ok (.aload_n 0, 1) := by decide +kernel
theorem dL_holds_368 : decode cL_holds 368 = .ok (.invokevirtual 191, 3) := by decide +kernel
theorem dL_holds_371 : decode cL_holds 371 = .ok (.isub, 1) := by decide +kernel
theorem dL_holds_372 : decode cL_holds 372 = .ok (.if_icmp .ne 33, 3) := by decide +kernel
theorem dL_holds_375 : decode cL_holds 375 = .ok (.aload_n 0, 1) := by decide +kernel
theorem dL_holds_376 : decode cL_holds 376 = .ok (.invokevirtual 201, 3) := by decide +kernel
theorem dL_holds_379 : decode cL_holds 379 = .ok (.iload_n 3, 1) := by decide +kernel
theorem dL_holds_380 : decode cL_holds 380 = .ok (.if_icmp .ne 25, 3) := by decide +kernel
theorem dL_holds_383 : decode cL_holds 383 = .ok (.aload_n 0, 1) := by decide +kernel
theorem dL_holds_384 : decode cL_holds 384 = .ok (.invokevirtual 204, 3) := by decide +kernel
theorem dL_holds_387 : decode cL_holds 387 = .ok (.iload 4, 2) := by decide +kernel
theorem dL_holds_389 : decode cL_holds 389 = .ok (.if_icmp .ne 16, 3) := by decide +kernel
theorem dL_holds_392 : decode cL_holds 392 = .ok (.aload_n 0, 1) := by decide +kernel
theorem dL_holds_393 : decode cL_holds 393 = .ok (.invokevirtual 207, 3) := by decide +kernel
theorem dL_holds_396 : decode cL_holds 396 = .ok (.iload 4, 2) := by decide +kernel
theorem dL_holds_398 : decode cL_holds 398 = .ok (.if_icmp .ne 7, 3) := by decide +kernel
theorem dL_holds_401 : decode cL_holds 401 = .ok (.iconst 1, 1) := by decide +kernel
theorem dL_holds_402 : decode cL_holds 402 = .ok (.goto 4, 3) := by decide +kernel
theorem dL_holds_405 : decode cL_holds 405 = .ok (.iconst 0, 1) := by decide +kernel
theorem dL_holds_406 : decode cL_holds 406 = .ok (.ireturn, 1) := by decide +kernel
theorem dL_plans_0 : decode cL_plans 0 = .ok (.aload_n 0, 1) := by decide +kernel
theorem dL_plans_1 : decode cL_plans 1 = .ok (.invokevirtual 210, 3) := by decide +kernel
theorem dL_plans_4 : decode cL_plans 4 = .ok (.istore_n 1, 1) := by decide +kernel
theorem dL_plans_5 : decode cL_plans 5 = .ok (.aload_n 0, 1) := by decide +kernel
theorem dL_plans_6 : decode cL_plans 6 = .ok (.invokevirtual 213, 3) := by decide +kernel
theorem dL_plans_9 : decode cL_plans 9 = .ok (.istore_n 2, 1) := by decide +kernel
theorem dL_plans_10 : decode cL_plans 10 = .ok (.aload_n 0, 1) := by decide +kernel
theorem dL_plans_11 : decode cL_plans 11 = .ok (.invokevirtual 216, 3) := by decide +kernel
theorem dL_plans_14 : decode cL_plans 14 = .ok (.istore_n 3, 1) := by decide +kernel
theorem dL_plans_15 : decode cL_plans 15 = .ok (.aload_n 0, 1) := by decide +kernel
theorem dL_plans_16 : decode cL_plans 16 = .ok (.invokevirtual 219, 3) := by decide +kernel
theorem dL_plans_19 : decode cL_plans 19 = .ok (.istore 4, 2) := by decide +kernel
theorem dL_plans_21 : decode cL_plans 21 = .ok (.iload_n 1, 1) := by decide +kernel
theorem dL_plans_22 : decode cL_plans 22 = .ok (.aload_n 0, 1) := by decide +kernel
theorem dL_plans_23 : decode cL_plans 23 = .ok (.invokevirtual 222, 3) := by decide +kernel
theorem dL_plans_26 : decode cL_plans 26 = .ok (.if_icmp .ne 114, 3) := by decide +kernel
theorem dL_plans_29 : decode cL_plans 29 = .ok (.iload_n 3, 1) := by decide +kernel
theorem dL_plans_30 : decode cL_plans 30 = .ok (.aload_n 0, 1) := by decide +kernel
theorem dL_plans_31 : decode cL_plans 31 = .ok (.invokevirtual 225, 3) := by decide +kernel
theorem dL_plans_34 : decode cL_plans 34 = .ok (.if_icmp .ne 106, 3) := by decide +kernel
theorem dL_plans_37 : decode cL_plans 37 = .ok (.iload_n 1, 1) := by decide +kernel
theorem dL_plans_38 : decode cL_plans 38 = .ok (.ifCond .ge 7, 3) := by decide +kernel
theorem dL_plans_41 : decode cL_plans 41 = .ok (.iconst 1, 1) := by decide +kernel
theorem dL_plans_42 : decode cL_plans 42 = .ok (.goto 4, 3) := by decide +kernel
theorem dL_plans_45 : decode cL_plans 45 = .ok (.iconst 0, 1) := by decide +kernel
theorem dL_plans_46 : decode cL_plans 46 = .ok (.iload_n 2, 1) := by decide +kernel
theorem dL_plans_47 : decode cL_plans 47 = .ok (.ifCond .ge 7, 3) := by decide +kernel
theorem dL_plans_50 : decode cL_plans 50 = .ok (.iconst 1, 1) := by decide +kernel
theorem dL_plans_51 : decode cL_plans 51 = .ok (.goto 4, 3) := by decide +kernel
theorem dL_plans_54 : decode cL_plans 54 = .ok (.iconst 0, 1) := by decide +kernel
theorem dL_plans_55 : decode cL_plans 55 = .ok (.if_icmp .ne 85, 3) := by decide +kernel
theorem dL_plans_58 : decode cL_plans 58 = .ok (.iload_n 1, 1) := by decide +kernel
theorem dL_plans_59 : decode cL_plans 59 = .ok (.ifCond .ge 7, 3) := by decide +kernel
theorem dL_plans_62 : decode cL_plans 62 = .ok (.iconst 1, 1) := by decide +kernel
theorem dL_plans_63 : decode cL_plans 63 = .ok (.goto 4, 3) := by decide +kernel
theorem dL_plans_66 : decode cL_plans 66 = .ok (.iconst 0, 1) := by decide +kernel
theorem dL_plans_67 : decode cL_plans 67 = .ok (.iload_n 3, 1) := by decide +kernel
theorem dL_plans_68 : decode cL_plans 68 = .ok (.ifCond .ge 7, 3) := by decide +kernel
theorem dL_plans_71 : decode cL_plans 71 = .ok (.iconst 1, 1) := by decide +kernel
theorem dL_plans_72 : decode cL_plans 72 = .ok (.goto 4, 3) := by decide +kernel
theorem dL_plans_75 : decode cL_plans 75 = .ok (.iconst 0, 1) := by decide +kernel
theorem dL_plans_76 : decode cL_plans 76 = .ok (.if_icmp .ne 64, 3) := by decide +kernel
theorem dL_plans_79 : decode cL_plans 79 = .ok (.aload_n 0, 1) := by decide +kernel
theorem dL_plans_80 : decode cL_plans 80 = .ok (.invokevirtual 228, 3) := by decide +kernel
theorem dL_plans_83 : decode cL_plans 83 = .ok (.ifCond .ne 7, 3) := by decide +kernel
theorem dL_plans_86 : decode cL_plans 86 = .ok (.iconst 1, 1) := by decide +kernel
theorem dL_plans_87 : decode cL_plans 87 = .ok (.goto 4, 3) := by decide +kernel
theorem dL_plans_90 : decode cL_plans 90 = .ok (.iconst 0, 1) := by decide +kernel
theorem dL_plans_91 : decode cL_plans 91 = .ok (.iload_n 1, 1) := by decide +kernel
theorem dL_plans_92 : decode cL_plans 92 = .ok (.ifCond .ge 7, 3) := by decide +kernel
theorem dL_plans_95 : decode cL_plans 95 = .ok (.iconst 1, 1) := by decide +kernel
theorem dL_plans_96 : decode cL_plans 96 = .ok (.goto 4, 3) := by decide +kernel
theorem dL_plans_99 : decode cL_plans 99 = .ok (.iconst 0, 1) := by decide +kernel
theorem dL_plans_100 : decode cL_plans 100 = .ok (.if_icmp .ne 40, 3) := by decide +kernel
theorem dL_plans_103 : decode cL_plans 103 = .ok (.iload 4, 2) := by decide +kernel
theorem dL_plans_105 : decode cL_plans 105 = .ok (.iconst 1, 1) := by decide +kernel
theorem dL_plans_106 : decode cL_plans 106 = .ok (.if_icmp .lt 34, 3) := by decide +kernel
theorem dL_plans_109 : decode cL_plans 109 = .ok (.iload 4, 2) := by decide +kernel
theorem dL_plans_111 : decode cL_plans 111 = .ok (.aload_n 0, 1) := by decide +kernel
theorem dL_plans_112 : decode cL_plans 112 = .ok (.invokevirtual 231, 3) := by decide +kernel
theorem dL_plans_115 : decode cL_plans 115 = .ok (.if_icmp .gt 25, 3) := by decide +kernel
theorem dL_plans_118 : decode cL_plans 118 = .ok (.aload_n 0, 1) := by decide +kernel
theorem dL_plans_119 : decode cL_plans 119 = .ok (.invokevirtual 234, 3) := by decide +kernel
theorem dL_plans_122 : decode cL_plans 122 = .ok (.iload 4, 2) := by decide +kernel
theorem dL_plans_124 : decode cL_plans 124 = .ok (.if_icmp .ge 16, 3) := by decide +kernel
theorem dL_plans_127 : decode cL_plans 127 = .ok (.aload_n 0, 1) := by decide +kernel
theorem dL_plans_128 : decode cL_plans 128 = .ok (.invokevirtual 201, 3) := by decide +kernel
theorem dL_plans_131 : decode cL_plans 131 = .ok (.iload 4, 2) := by decide +kernel
theorem dL_plans_133 : decode cL_plans 133 = .ok (.if_icmp .ge 7, 3) := by decide +kernel
theorem dL_plans_136 : decode cL_plans 136 = .ok (.iconst 1, 1) := by decide +kernel
theorem dL_plans_137 : decode cL_plans 137 = .ok (.goto 4, 3) := by decide +kernel
theorem dL_plans_140 : decode cL_plans 140 = .ok (.iconst 0, 1) := by decide +kernel
theorem dL_plans_141 : decode cL_plans 141 = .ok (.istore 5, 2) := by decide +kernel
theorem dL_plans_143 : decode cL_plans 143 = .ok (.iload 5, 2) := by decide +kernel
theorem dL_plans_145 : decode cL_plans 145 = .ok (.ifCond .eq 61, 3) := by decide +kernel
theorem dL_plans_148 : decode cL_plans 148 = .ok (.iload_n 1, 1) := by decide +kernel
theorem dL_plans_149 : decode cL_plans 149 = .ok (.ifCond .lt 53, 3) := by decide +kernel
theorem dL_plans_152 : decode cL_plans 152 = .ok (.iload_n 2, 1) := by decide +kernel
theorem dL_plans_153 : decode cL_plans 153 = .ok (.iload_n 1, 1) := by decide +kernel
theorem dL_plans_154 : decode cL_plans 154 = .ok (.if_icmp .lt 52, 3) := by decide +kernel
theorem dL_plans_157 : decode cL_plans 157 = .ok (.iload_n 2, 1) := by decide +kernel
theorem dL_plans_158 : decode cL_plans 158 = .ok (.iconst 3, 1) := by decide +kernel
theorem dL_plans_159 : decode cL_plans 159 = .ok (.iload_n 1, 1) := by decide +kernel
theorem dL_plans_160 : decode cL_plans 160 = .ok (.imul, 1) := by decide +kernel
theorem dL_plans_161 : decode cL_plans 161 = .ok (.if_icmp .gt 45, 3) := by decide +kernel
theorem dL_plans_164 : decode cL_plans 164 = .ok (.iload_n 3, 1) := by decide +kernel
theorem dL_plans_165 : decode cL_plans 165 = .ok (.iconst 2, 1) := by decide +kernel
theorem dL_plans_166 : decode cL_plans 166 = .ok (.iload_n 2, 1) := by decide +kernel
theorem dL_plans_167 : decode cL_plans 167 = .ok (.imul, 1) := by decide +kernel
theorem dL_plans_168 : decode cL_plans 168 = .ok (.if_icmp .lt 38, 3) := by decide +kernel
theorem dL_plans_171 : decode cL_plans 171 = .ok (.iload_n 3, 1) := by decide +kernel
theorem dL_plans_172 : decode cL_plans 172 = .ok (.iconst 3, 1) := by decide +kernel
theorem dL_plans_173 : decode cL_plans 173 = .ok (.iload_n 2, 1) := by decide +kernel
theorem dL_plans_174 : decode cL_plans 174 = .ok (.imul, 1) := by decide +kernel
theorem dL_plans_175 : decode cL_plans 175 = .ok (.if_icmp .gt 31, 3) := by decide +kernel
theorem dL_plans_178 : decode cL_plans 178 = .ok (.aload_n 0, 1) := by decide +kernel
theorem dL_plans_179 : decode cL_plans 179 = .ok (.invokevirtual 234, 3) := by decide +kernel
theorem dL_plans_182 : decode cL_plans 182 = .ok (.iload_n 1, 1) := by decide +kernel
theorem dL_plans_183 : decode cL_plans 183 = .ok (.if_icmp .lt 23, 3) := by decide +kernel
theorem dL_plans_186 : decode cL_plans 186 = .ok (.iload_n 1, 1) := by decide +kernel
theorem dL_plans_187 : decode cL_plans 187 = .ok (.ifCond .ne 7, 3) := by decide +kernel
theorem dL_plans_190 : decode cL_plans 190 = .ok (.iconst 1, 1) := by decide +kernel
theorem dL_plans_191 : decode cL_plans 191 = .ok (.goto 4, 3) := by decide +kernel
theorem dL_plans_194 : decode cL_plans 194 = .ok (.iconst 0, 1) := by decide +kernel
theorem dL_plans_195 : decode cL_plans 195 = .ok (.aload_n 0, 1) := by decide +kernel
theorem dL_plans_196 : decode cL_plans 196 = .ok (.invokevirtual 194, 3) := by decide +kernel
theorem dL_plans_199 : decode cL_plans 199 = .ok (.if_icmp .ne 7, 3) := by decide +kernel
theorem dL_plans_202 : decode cL_plans 202 = .ok (.iconst 1, 1) := by decide +kernel
theorem dL_plans_203 : decode cL_plans 203 = .ok (.goto 4, 3) := by decide +kernel
theorem dL_plans_206 : decode cL_plans 206 = .ok (.iconst 0, 1) := by decide +kernel
theorem dL_plans_207 : decode cL_plans 207 = .ok (.ireturn, 1) := by decide +kernel
theorem dL_act_0 : decode cL_act 0 = .ok (.iload_n 1, 1) := by decide +kernel
theorem dL_act_1 : decode cL_act 1 = .ok (.bipush 16, 2) := by decide +kernel
theorem dL_act_3 : decode cL_act 3 = .ok (.idiv, 1) := by decide +kernel
theorem dL_act_4 : decode cL_act 4 = .ok (.istore_n 2, 1) := by decide +kernel
theorem dL_act_5 : decode cL_act 5 = .ok (.iload_n 1, 1) := by decide +kernel
theorem dL_act_6 : decode cL_act 6 = .ok (.bipush 16, 2) := by decide +kernel
theorem dL_act_8 : decode cL_act 8 = .ok (.irem, 1) := by decide +kernel
theorem dL_act_9 : decode cL_act 9 = .ok (.tableswitch 161 0 6 #[43, 43, 43, 80, 106, 128, 138], 43) := by decide +kernel
theorem dL_act_52 : decode cL_act 52 = .ok (.aload_n 0, 1) := by decide +kernel
theorem dL_act_53 : decode cL_act 53 = .ok (.iconst 0, 1) := by decide +kernel
theorem dL_act_54 : decode cL_act 54 = .ok (.aload_n 0, 1) := by decide +kernel
theorem dL_act_55 : decode cL_act 55 = .ok (.invokevirtual 173, 3) := by decide +kernel
theorem dL_act_58 : decode cL_act 58 = .ok (.ifCond .ne 9, 3) := by decide +kernel
theorem dL_act_61 : decode cL_act 61 = .ok (.iload_n 2, 1) := by decide +kernel
theorem dL_act_62 : decode cL_act 62 = .ok (.iconst 5, 1) := by decide +kernel
theorem dL_act_63 : decode cL_act 63 = .ok (.irem, 1) := by decide +kernel
theorem dL_act_64 : decode cL_act 64 = .ok (.goto 7, 3) := by decide +kernel
theorem dL_act_67 : decode cL_act 67 = .ok (.iload_n 2, 1) := by decide +kernel
theorem dL_act_68 : decode cL_act 68 = .ok (.bipush 10, 2) := by decide +kernel
theorem dL_act_70 : decode cL_act 70 = .ok (.irem, 1) := by decide +kernel
theorem dL_act_71 : decode cL_act 71 = .ok (.iload_n 2, 1) := by decide +kernel
theorem dL_act_72 : decode cL_act 72 = .ok (.bipush 20, 2) := by decide +kernel
theorem dL_act_74 : decode cL_act 74 = .ok (.idiv, 1) := by decide +kernel
theorem dL_act_75 : decode cL_act 75 = .ok (.iconst 4, 1) := by decide +kernel
theorem dL_act_76 : decode cL_act 76 = .ok (.irem, 1) := by decide +kernel
theorem dL_act_77 : decode cL_act 77 = .ok (.iconst 2, 1) := by decide +kernel
theorem dL_act_78 : decode cL_act 78 = .ok (.iload_n 2, 1) := by decide +kernel
theorem dL_act_79 : decode cL_act 79 = .ok (.bipush 10, 2) := by decide +kernel
theorem dL_act_81 : decode cL_act 81 = .ok (.idiv, 1) := by decide +kernel
theorem dL_act_82 : decode cL_act 82 = .ok (.iconst 2, 1) := by decide +kernel
theorem dL_act_83 : decode cL_act 83 = .ok (.irem, 1) := by decide +kernel
theorem dL_act_84 : decode cL_act 84 = .ok (.iadd, 1) := by decide +kernel
theorem dL_act_85 : decode cL_act 85 = .ok (.invokestatic 176, 3) := by decide +kernel
theorem dL_act_88 : decode cL_act 88 = .ok (.ireturn, 1) := by decide +kernel
theorem dL_act_89 : decode cL_act 89 = .ok (.iload_n 2, 1) := by decide +kernel
theorem dL_act_90 : decode cL_act 90 = .ok (.iconst 3, 1) := by decide +kernel
theorem dL_act_91 : decode cL_act 91 = .ok (.irem, 1) := by decide +kernel
theorem dL_act_92 : decode cL_act 92 = .ok (.ifCond .ne 14, 3) := by decide +kernel
theorem dL_act_95 : decode cL_act 95 = .ok (.aload_n 0, 1) := by decide +kernel
theorem dL_act_96 : decode cL_act 96 = .ok (.iconst 1, 1) := by decide +kernel
theorem dL_act_97 : decode cL_act 97 = .ok (.iconst 0, 1) := by decide +kernel
theorem dL_act_98 : decode cL_act 98 = .ok (.iconst 0, 1) := by decide +kernel
theorem dL_act_99 : decode cL_act 99 = .ok (.iconst 0, 1) := by decide +kernel
theorem dL_act_100 : decode cL_act 100 = .ok (.invokestatic 176, 3) := by decide +kernel
theorem dL_act_103 : decode cL_act 103 = .ok (.goto 11, 3) := by decide +kernel
theorem dL_act_106 : decode cL_act 106 = .ok (.aload_n 0, 1) := by decide +kernel
theorem dL_act_107 : decode cL_act 107 = .ok (.iload_n 2, 1) := by decide +kernel
theorem dL_act_108 : decode cL_act 108 = .ok (.bipush 25, 2) := by decide +kernel
theorem dL_act_110 : decode cL_act 110 = .ok (.irem, 1) := by decide +kernel
theorem dL_act_111 : decode cL_act 111 = .ok (.invokestatic 180, 3) := by decide +kernel
theorem dL_act_114 : decode cL_act 114 = .ok (.ireturn, 1) := by decide +kernel
theorem dL_act_115 : decode cL_act 115 = .ok (.iload_n 2, 1) := by decide +kernel
theorem dL_act_116 : decode cL_act 116 = .ok (.iconst 2, 1) := by decide +kernel
theorem dL_act_117 : decode cL_act 117 = .ok (.irem, 1) := by decide +kernel
theorem dL_act_118 : decode cL_act 118 = .ok (.ifCond .ne 14, 3) := by decide +kernel
theorem dL_act_121 : decode cL_act 121 = .ok (.aload_n 0, 1) := by decide +kernel
theorem dL_act_122 : decode cL_act 122 = .ok (.iconst 3, 1) := by decide +kernel
theorem dL_act_123 : decode cL_act 123 = .ok (.iconst 0, 1) := by decide +kernel
theorem dL_act_124 : decode cL_act 124 = .ok (.iconst 0, 1) := by decide +kernel
theorem dL_act_125 : decode cL_act 125 = .ok (.iconst 0, 1) := by decide +kernel
theorem dL_act_126 : decode cL_act 126 = .ok (.invokestatic 176, 3) := by decide +kernel
theorem dL_act_129 : decode cL_act 129 = .ok (.goto 7, 3) := by decide +kernel
theorem dL_act_132 : decode cL_act 132 = .ok (.aload_n 0, 1) := by decide +kernel
theorem dL_act_133 : decode cL_act 133 = .ok (.invokevirtual 237, 3) := by decide +kernel
theorem dL_act_136 : decode cL_act 136 = .ok (.ireturn, 1) := by decide +kernel
theorem dL_act_137 : decode cL_act 137 = .ok (.aload_n 0, 1) := by decide +kernel
theorem dL_act_138 : decode cL_act 138 = .ok (.bipush 8, 2) := by decide +kernel
theorem dL_act_140 : decode cL_act 140 = .ok (.iconst 0, 1) := by decide +kernel
theorem dL_act_141 : decode cL_act 141 = .ok (.iconst 0, 1) := by decide +kernel
theorem dL_act_142 : decode cL_act 142 = .ok (.iconst 0, 1) := by decide +kernel
theorem dL_act_143 : decode cL_act 143 = .ok (.invokestatic 176, 3) := by decide +kernel
theorem dL_act_146 : decode cL_act 146 = .ok (.ireturn, 1) := by decide +kernel
theorem dL_act_147 : decode cL_act 147 = .ok (.iload_n 2, 1) := by decide +kernel
theorem dL_act_148 : decode cL_act 148 = .ok (.iconst 2, 1) := by decide +kernel
theorem dL_act_149 : decode cL_act 149 = .ok (.irem, 1) := by decide +kernel
theorem dL_act_150 : decode cL_act 150 = .ok (.ifCond .ne 10, 3) := by decide +kernel
theorem dL_act_153 : decode cL_act 153 = .ok (.aload_n 0, 1) := by decide +kernel
theorem dL_act_154 : decode cL_act 154 = .ok (.invokevirtual 240, 3) := by decide +kernel
theorem dL_act_157 : decode cL_act 157 = .ok (.goto 12, 3) := by decide +kernel
theorem dL_act_160 : decode cL_act 160 = .ok (.aload_n 0, 1) := by decide +kernel
theorem dL_act_161 : decode cL_act 161 = .ok (.bipush 9, 2) := by decide +kernel
theorem dL_act_163 : decode cL_act 163 = .ok (.iconst 0, 1) := by decide +kernel
theorem dL_act_164 : decode cL_act 164 = .ok (.iconst 0, 1) := by decide +kernel
theorem dL_act_165 : decode cL_act 165 = .ok (.iconst 0, 1) := by decide +kernel
theorem dL_act_166 : decode cL_act 166 = .ok (.invokestatic 176, 3) := by decide +kernel
theorem dL_act_169 : decode cL_act 169 = .ok (.ireturn, 1) := by decide +kernel
theorem dL_act_170 : decode cL_act 170 = .ok (.aload_n 0, 1) := by decide +kernel
theorem dL_act_171 : decode cL_act 171 = .ok (.invokevirtual 173, 3) := by decide +kernel
theorem dL_act_174 : decode cL_act 174 = .ok (.ifCond .ne 7, 3) := by decide +kernel
theorem dL_act_177 : decode cL_act 177 = .ok (.iconst (-1), 1) := by decide +kernel
theorem dL_act_178 : decode cL_act 178 = .ok (.goto 43, 3) := by decide +kernel
theorem dL_act_181 : decode cL_act 181 = .ok (.aload_n 0, 1) := by decide +kernel
theorem dL_act_182 : decode cL_act 182 = .ok (.iconst 2, 1) := by decide +kernel
theorem dL_act_183 : decode cL_act 183 = .ok (.iload_n 2, 1) := by decide +kernel
theorem dL_act_184 : decode cL_act 184 = .ok (.aload_n 0, 1) := by decide +kernel
theorem dL_act_185 : decode cL_act 185 = .ok (.invokevirtual 173, 3) := by decide +kernel
theorem dL_act_188 : decode cL_act 188 = .ok (.irem, 1) := by decide +kernel
theorem dL_act_189 : decode cL_act 189 = .ok (.iload_n 2, 1) := by decide +kernel
theorem dL_act_190 : decode cL_act 190 = .ok (.bipush 8, 2) := by decide +kernel
theorem dL_act_192 : decode cL_act 192 = .ok (.idiv, 1) := by decide +kernel
theorem dL_act_193 : decode cL_act 193 = .ok (.iconst 2, 1) := by decide +kernel
theorem dL_act_194 : decode cL_act 194 = .ok (.irem, 1) := by decide +kernel
theorem dL_act_195 : decode cL_act 195 = .ok (.ifCond .ne 14, 3) := by decide +kernel
theorem dL_act_198 : decode cL_act 198 = .ok (.iconst 1, 1) := by decide +kernel
theorem dL_act_199 : decode cL_act 199 = .ok (.iload_n 2, 1) := by decide +kernel
theorem dL_act_200 : decode cL_act 200 = .ok (.bipush 16, 2) := by decide +kernel
theorem dL_act_202 : decode cL_act 202 = .ok (.idiv, 1) := by decide +kernel
theorem dL_act_203 : decode cL_act 203 = .ok (.iconst 3, 1) := by decide +kernel
theorem dL_act_204 : decode cL_act 204 = .ok (.irem, 1) := by decide +kernel
theorem dL_act_205 : decode cL_act 205 = .ok (.iadd, 1) := by decide +kernel
theorem dL_act_206 : decode cL_act 206 = .ok (.goto 11, 3) := by decide +kernel
theorem dL_act_209 : decode cL_act 209 = .ok (.iconst (-1), 1) := by decide +kernel
theorem dL_act_210 : decode cL_act 210 = .ok (.iload_n 2, 1) := by decide +kernel
theorem dL_act_211 : decode cL_act 211 = .ok (.bipush 16, 2) := by decide +kernel
theorem dL_act_213 : decode cL_act 213 = .ok (.idiv, 1) := by decide +kernel
theorem dL_act_214 : decode cL_act 214 = .ok (.iconst 3, 1) := by decide +kernel
theorem dL_act_215 : decode cL_act 215 = .ok (.irem, 1) := by decide +kernel
theorem dL_act_216 : decode cL_act 216 = .ok (.isub, 1) := by decide +kernel
theorem dL_act_217 : decode cL_act 217 = .ok (.iconst 0, 1) := by decide +kernel
theorem dL_act_218 : decode cL_act 218 = .ok (.invokestatic 176, 3) := by decide +kernel
theorem dL_act_221 : decode cL_act 221 = .ok (.ireturn, 1) := by decide +kernel
theorem dL_alike_0 : decode cL_alike 0 = .ok (.aload_n 0, 1) := by decide +kernel
theorem dL_alike_1 : decode cL_alike 1 = .ok (.invokevirtual 173, 3) := by decide +kernel
theorem dL_alike_4 : decode cL_alike 4 = .ok (.aload_n 1, 1) := by decide +kernel
theorem dL_alike_5 : decode cL_alike 5 = .ok (.invokevirtual 173, 3) := by decide +kernel
theorem dL_alike_8 : decode cL_alike 8 = .ok (.if_icmp .ne 51, 3) := by decide +kernel
theorem dL_alike_11 : decode cL_alike 11 = .ok (.aload_n 0, 1) := by decide +kernel
theorem dL_alike_12 : decode cL_alike 12 = .ok (.invokevirtual 191, 3) := by decide +kernel
theorem dL_alike_15 : decode cL_alike 15 = .ok (.aload_n 1, 1) := by decide +kernel
theorem dL_alike_16 : decode cL_alike 16 = .ok (.invokevirtual 191, 3) := by decide +kernel
theorem dL_alike_19 : decode cL_alike 19 = .ok (.if_icmp .ne 40, 3) := by decide +kernel
theorem dL_alike_22 : decode cL_alike 22 = .ok (.aload_n 0, 1) := by decide +kernel
theorem dL_alike_23 : decode cL_alike 23 = .ok (.invokevirtual 188, 3) := by decide +kernel
theorem dL_alike_26 : decode cL_alike 26 = .ok (.aload_n 1, 1) := by decide +kernel
theorem dL_alike_27 : decode cL_alike 27 = .ok (.invokevirtual 188, 3) := by decide +kernel
theorem dL_alike_30 : decode cL_alike 30 = .ok (.if_icmp .ne 29, 3) := by decide +kernel
theorem dL_alike_33 : decode cL_alike 33 = .ok (.aload_n 0, 1) := by decide +kernel
theorem dL_alike_34 : decode cL_alike 34 = .ok (.invokevirtual 243, 3) := by decide +kernel
theorem dL_alike_37 : decode cL_alike 37 = .ok (.aload_n 1, 1) := by decide +kernel
theorem dL_alike_38 : decode cL_alike 38 = .ok (.invokevirtual 243, 3) := by decide +kernel
theorem dL_alike_41 : decode cL_alike 41 = .ok (.if_icmp .ne 18, 3) := by decide +kernel
theorem dL_alike_44 : decode cL_alike 44 = .ok (.aload_n 0, 1) := by decide +kernel
theorem dL_alike_45 : decode cL_alike 45 = .ok (.invokevirtual 204, 3) := by decide +kernel
theorem dL_alike_48 : decode cL_alike 48 = .ok (.aload_n 1, 1) := by decide +kernel
theorem dL_alike_49 : decode cL_alike 49 = .ok (.invokevirtual 204, 3) := by decide +kernel
theorem dL_alike_52 : decode cL_alike 52 = .ok (.if_icmp .ne 7, 3) := by decide +kernel
theorem dL_alike_55 : decode cL_alike 55 = .ok (.iconst 1, 1) := by decide +kernel
theorem dL_alike_56 : decode cL_alike 56 = .ok (.goto 4, 3) := by decide +kernel
theorem dL_alike_59 : decode cL_alike 59 = .ok (.iconst 0, 1) := by decide +kernel
theorem dL_alike_60 : decode cL_alike 60 = .ok (.istore_n 2, 1) := by decide +kernel
theorem dL_alike_61 : decode cL_alike 61 = .ok (.iconst 0, 1) := by decide +kernel
theorem dL_alike_62 : decode cL_alike 62 = .ok (.istore_n 3, 1) := by decide +kernel
theorem dL_alike_63 : decode cL_alike 63 = .ok (.iload_n 3, 1) := by decide +kernel
theorem dL_alike_64 : decode cL_alike 64 = .ok (.bipush 25, 2) := by decide +kernel
theorem dL_alike_66 : decode cL_alike 66 = .ok (.if_icmp .ge 53, 3) := by decide +kernel
theorem dL_alike_69 : decode cL_alike 69 = .ok (.iload_n 2, 1) := by decide +kernel
theorem dL_alike_70 : decode cL_alike 70 = .ok (.ifCond .eq 49, 3) := by decide +kernel
theorem dL_alike_73 : decode cL_alike 73 = .ok (.aload_n 0, 1) := by decide +kernel
theorem dL_alike_74 : decode cL_alike 74 = .ok (.bipush 13, 2) := by decide +kernel
theorem dL_alike_76 : decode cL_alike 76 = .ok (.iload_n 3, 1) := by decide +kernel
theorem dL_alike_77 : decode cL_alike 77 = .ok (.iconst 0, 1) := by decide +kernel
theorem dL_alike_78 : decode cL_alike 78 = .ok (.iconst 0, 1) := by decide +kernel
theorem dL_alike_79 : decode cL_alike 79 = .ok (.invokestatic 176, 3) := by decide +kernel
theorem dL_alike_82 : decode cL_alike 82 = .ok (.aload_n 1, 1) := by decide +kernel
theorem dL_alike_83 : decode cL_alike 83 = .ok (.bipush 13, 2) := by decide +kernel
theorem dL_alike_85 : decode cL_alike 85 = .ok (.iload_n 3, 1) := by decide +kernel
theorem dL_alike_86 : decode cL_alike 86 = .ok (.iconst 0, 1) := by decide +kernel
theorem dL_alike_87 : decode cL_alike 87 = .ok (.iconst 0, 1) := by decide +kernel
theorem dL_alike_88 : decode cL_alike 88 = .ok (.invokestatic 176, 3) := by decide +kernel
theorem dL_alike_91 : decode cL_alike 91 = .ok (.if_icmp .ne 20, 3) := by decide +kernel
theorem dL_alike_94 : decode cL_alike 94 = .ok (.aload_n 0, 1) := by decide +kernel
theorem dL_alike_95 : decode cL_alike 95 = .ok (.iload_n 3, 1) := by decide +kernel
theorem dL_alike_96 : decode cL_alike 96 = .ok (.invokestatic 183, 3) := by decide +kernel
theorem dL_alike_99 : decode cL_alike 99 = .ok (.aload_n 1, 1) := by decide +kernel
theorem dL_alike_100 : decode cL_alike 100 = .ok (.iload_n 3, 1) := by decide +kernel
theorem dL_alike_101 : decode cL_alike 101 = .ok (.invokestatic 183, 3) := by decide +kernel
theorem dL_alike_104 : decode cL_alike 104 = .ok (.if_icmp .ne 7, 3) := by decide +kernel
theorem dL_alike_107 : decode cL_alike 107 = .ok (.iconst 1, 1) := by decide +kernel
theorem dL_alike_108 : decode cL_alike 108 = .ok (.goto 4, 3) := by decide +kernel
theorem dL_alike_111 : decode cL_alike 111 = .ok (.iconst 0, 1) := by decide +kernel
theorem dL_alike_112 : decode cL_alike 112 = .ok (.istore_n 2, 1) := by decide +kernel
theorem dL_alike_113 : decode cL_alike 113 = .ok (.iinc 3 1, 3) := by decide +kernel
theorem dL_alike_116 : decode cL_alike 116 = .ok (.goto (-53), 3) := by decide +kernel
theorem dL_alike_119 : decode cL_alike 119 = .ok (.iconst 0, 1) := by decide +kernel
theorem dL_alike_120 : decode cL_alike 120 = .ok (.istore_n 3, 1) := by decide +kernel
theorem dL_alike_121 : decode cL_alike 121 = .ok (.iload_n 3, 1) := by decide +kernel
theorem dL_alike_122 : decode cL_alike 122 = .ok (.bipush 6, 2) := by decide +kernel
theorem dL_alike_124 : decode cL_alike 124 = .ok (.if_icmp .ge 103, 3) := by decide +kernel
theorem dL_alike_127 : decode cL_alike 127 = .ok (.iload_n 2, 1) := by decide +kernel
theorem dL_alike_128 : decode cL_alike 128 = .ok (.ifCond .eq 99, 3) := by decide +kernel
theorem dL_alike_131 : decode cL_alike 131 = .ok (.aload_n 0, 1) := by decide +kernel
theorem dL_alike_132 : decode cL_alike 132 = .ok (.bipush 10, 2) := by decide +kernel
theorem dL_alike_134 : decode cL_alike 134 = .ok (.iload_n 3, 1) := by decide +kernel
theorem dL_alike_135 : decode cL_alike 135 = .ok (.iconst 0, 1) := by decide +kernel
theorem dL_alike_136 : decode cL_alike 136 = .ok (.iconst 0, 1) := by decide +kernel
theorem dL_alike_137 : decode cL_alike 137 = .ok (.invokestatic 176, 3) := by decide +kernel
theorem dL_alike_140 : decode cL_alike 140 = .ok (.aload_n 1, 1) := by decide +kernel
theorem dL_alike_141 : decode cL_alike 141 = .ok (.bipush 10, 2) := by decide +kernel
theorem dL_alike_143 : decode cL_alike 143 = .ok (.iload_n 3, 1) := by decide +kernel
theorem dL_alike_144 : decode cL_alike 144 = .ok (.iconst 0, 1) := by decide +kernel
theorem dL_alike_145 : decode cL_alike 145 = .ok (.iconst 0, 1) := by decide +kernel
theorem dL_alike_146 : decode cL_alike 146 = .ok (.invokestatic 176, 3) := by decide +kernel
theorem dL_alike_149 : decode cL_alike 149 = .ok (.if_icmp .ne 70, 3) := by decide +kernel
theorem dL_alike_152 : decode cL_alike 152 = .ok (.aload_n 0, 1) := by decide +kernel
theorem dL_alike_153 : decode cL_alike 153 = .ok (.bipush 11, 2) := by decide +kernel
theorem dL_alike_155 : decode cL_alike 155 = .ok (.iload_n 3, 1) := by decide +kernel
theorem dL_alike_156 : decode cL_alike 156 = .ok (.iconst 0, 1) := by decide +kernel
theorem dL_alike_157 : decode cL_alike 157 = .ok (.iconst 0, 1) := by decide +kernel
theorem dL_alike_158 : decode cL_alike 158 = .ok (.invokestatic 176, 3) := by decide +kernel
theorem dL_alike_161 : decode cL_alike 161 = .ok (.aload_n 1, 1) := by decide +kernel
theorem dL_alike_162 : decode cL_alike 162 = .ok (.bipush 11, 2) := by decide +kernel
theorem dL_alike_164 : decode cL_alike 164 = .ok (.iload_n 3, 1) := by decide +kernel
theorem dL_alike_165 : decode cL_alike 165 = .ok (.iconst 0, 1) := by decide +kernel
theorem dL_alike_166 : decode cL_alike 166 = .ok (.iconst 0, 1) := by decide +kernel
theorem dL_alike_167 : decode cL_alike 167 = .ok (.invokestatic 176, 3) := by decide +kernel
theorem dL_alike_170 : decode cL_alike 170 = .ok (.if_icmp .ne 49, 3) := by decide +kernel
theorem dL_alike_173 : decode cL_alike 173 = .ok (.aload_n 0, 1) := by decide +kernel
theorem dL_alike_174 : decode cL_alike 174 = .ok (.bipush 12, 2) := by decide +kernel
theorem dL_alike_176 : decode cL_alike 176 = .ok (.iload_n 3, 1) := by decide +kernel
theorem dL_alike_177 : decode cL_alike 177 = .ok (.iconst 0, 1) := by decide +kernel
theorem dL_alike_178 : decode cL_alike 178 = .ok (.iconst 0, 1) := by decide +kernel
theorem dL_alike_179 : decode cL_alike 179 = .ok (.invokestatic 176, 3) := by decide +kernel
theorem dL_alike_182 : decode cL_alike 182 = .ok (.aload_n 1, 1) := by decide +kernel
theorem dL_alike_183 : decode cL_alike 183 = .ok (.bipush 12, 2) := by decide +kernel
theorem dL_alike_185 : decode cL_alike 185 = .ok (.iload_n 3, 1) := by decide +kernel
theorem dL_alike_186 : decode cL_alike 186 = .ok (.iconst 0, 1) := by decide +kernel
theorem dL_alike_187 : decode cL_alike 187 = .ok (.iconst 0, 1) := by decide +kernel
theorem dL_alike_188 : decode cL_alike 188 = .ok (.invokestatic 176, 3) := by decide +kernel
theorem dL_alike_191 : decode cL_alike 191 = .ok (.if_icmp .ne 28, 3) := by decide +kernel
theorem dL_alike_194 : decode cL_alike 194 = .ok (.aload_n 0, 1) := by decide +kernel
theorem dL_alike_195 : decode cL_alike 195 = .ok (.bipush 16, 2) := by decide +kernel
theorem dL_alike_197 : decode cL_alike 197 = .ok (.iload_n 3, 1) := by decide +kernel
theorem dL_alike_198 : decode cL_alike 198 = .ok (.iconst 0, 1) := by decide +kernel
theorem dL_alike_199 : decode cL_alike 199 = .ok (.iconst 0, 1) := by decide +kernel
theorem dL_alike_200 : decode cL_alike 200 = .ok (.invokestatic 176, 3) := by decide +kernel
theorem dL_alike_203 : decode cL_alike 203 = .ok (.aload_n 1, 1) := by decide +kernel
theorem dL_alike_204 : decode cL_alike 204 = .ok (.bipush 16, 2) := by decide +kernel
theorem dL_alike_206 : decode cL_alike 206 = .ok (.iload_n 3, 1) := by decide +kernel
theorem dL_alike_207 : decode cL_alike 207 = .ok (.iconst 0, 1) := by decide +kernel
theorem dL_alike_208 : decode cL_alike 208 = .ok (.iconst 0, 1) := by decide +kernel
theorem dL_alike_209 : decode cL_alike 209 = .ok (.invokestatic 176, 3) := by decide +kernel
theorem dL_alike_212 : decode cL_alike 212 = .ok (.if_icmp .ne 7, 3) := by decide +kernel
theorem dL_alike_215 : decode cL_alike 215 = .ok (.iconst 1, 1) := by decide +kernel
theorem dL_alike_216 : decode cL_alike 216 = .ok (.goto 4, 3) := by decide +kernel
theorem dL_alike_219 : decode cL_alike 219 = .ok (.iconst 0, 1) := by decide +kernel
theorem dL_alike_220 : decode cL_alike 220 = .ok (.istore_n 2, 1) := by decide +kernel
theorem dL_alike_221 : decode cL_alike 221 = .ok (.iinc 3 1, 3) := by decide +kernel
theorem dL_alike_224 : decode cL_alike 224 = .ok (.goto (-103), 3) := by decide +kernel
theorem dL_alike_227 : decode cL_alike 227 = .ok (.iload_n 2, 1) := by decide +kernel
theorem dL_alike_228 : decode cL_alike 228 = .ok (.ireturn, 1) := by decide +kernel
theorem dL_law_0 : decode cL_law 0 = .ok (.new 8, 3) := by decide +kernel
theorem dL_law_3 : decode cL_law 3 = .ok (.dup, 1) := by decide +kernel
theorem dL_law_4 : decode cL_law 4 = .ok (.invokespecial 246, 3) := by decide +kernel
theorem dL_law_7 : decode cL_law 7 = .ok (.astore_n 1, 1) := by decide +kernel
theorem dL_law_8 : decode cL_law 8 = .ok (.new 8, 3) := by decide +kernel
theorem dL_law_11 : decode cL_law 11 = .ok (.dup, 1) := by decide +kernel
theorem dL_law_12 : decode cL_law 12 = .ok (.invokespecial 246, 3) := by decide +kernel
theorem dL_law_15 : decode cL_law 15 = .ok (.astore_n 2, 1) := by decide +kernel
theorem dL_law_16 : decode cL_law 16 = .ok (.bipush 12, 2) := by decide +kernel
theorem dL_law_18 : decode cL_law 18 = .ok (.aload_n 0, 1) := by decide +kernel
theorem dL_law_19 : decode cL_law 19 = .ok (.iconst 0, 1) := by decide +kernel
theorem dL_law_20 : decode cL_law 20 = .ok (.invokestatic 247, 3) := by decide +kernel
theorem dL_law_23 : decode cL_law 23 = .ok (.bipush 21, 2) := by decide +kernel
theorem dL_law_25 : decode cL_law 25 = .ok (.irem, 1) := by decide +kernel
theorem dL_law_26 : decode cL_law 26 = .ok (.iadd, 1) := by decide +kernel
theorem dL_law_27 : decode cL_law 27 = .ok (.istore_n 3, 1) := by decide +kernel
theorem dL_law_28 : decode cL_law 28 = .ok (.iconst 1, 1) := by decide +kernel
theorem dL_law_29 : decode cL_law 29 = .ok (.istore 4, 2) := by decide +kernel
theorem dL_law_31 : decode cL_law 31 = .ok (.iconst 0, 1) := by decide +kernel
theorem dL_law_32 : decode cL_law 32 = .ok (.istore 5, 2) := by decide +kernel
theorem dL_law_34 : decode cL_law 34 = .ok (.iload 5, 2) := by decide +kernel
theorem dL_law_36 : decode cL_law 36 = .ok (.iload_n 3, 1) := by decide +kernel
theorem dL_law_37 : decode cL_law 37 = .ok (.if_icmp .ge 154, 3) := by decide +kernel
theorem dL_law_40 : decode cL_law 40 = .ok (.iload 4, 2) := by decide +kernel
theorem dL_law_42 : decode cL_law 42 = .ok (.ifCond .eq 149, 3) := by decide +kernel
theorem dL_law_45 : decode cL_law 45 = .ok (.aload_n 0, 1) := by decide +kernel
theorem dL_law_46 : decode cL_law 46 = .ok (.iconst 1, 1) := by decide +kernel
theorem dL_law_47 : decode cL_law 47 = .ok (.iload 5, 2) := by decide +kernel
theorem dL_law_49 : decode cL_law 49 = .ok (.iadd, 1) := by decide +kernel
theorem dL_law_50 : decode cL_law 50 = .ok (.invokestatic 247, 3) := by decide +kernel
theorem dL_law_53 : decode cL_law 53 = .ok (.istore 6, 2) := by decide +kernel
theorem dL_law_55 : decode cL_law 55 = .ok (.aload_n 1, 1) := by decide +kernel
theorem dL_law_56 : decode cL_law 56 = .ok (.iload 6, 2) := by decide +kernel
theorem dL_law_58 : decode cL_law 58 = .ok (.invokestatic 251, 3) := by decide +kernel
theorem dL_law_61 : decode cL_law 61 = .ok (.istore 7, 2) := by decide +kernel
theorem dL_law_63 : decode cL_law 63 = .ok (.aload_n 2, 1) := by decide +kernel
theorem dL_law_64 : decode cL_law 64 = .ok (.iload 6, 2) := by decide +kernel
theorem dL_law_66 : decode cL_law 66 = .ok (.ldc 254, 2) := by decide +kernel
theorem dL_law_68 : decode cL_law 68 = .ok (.irem, 1) := by decide +kernel
theorem dL_law_69 : decode cL_law 69 = .ok (.invokestatic 255, 3) := by decide +kernel
theorem dL_law_72 : decode cL_law 72 = .ok (.ifCond .eq 110, 3) := by decide +kernel
theorem dL_law_75 : decode cL_law 75 = .ok (.aload_n 2, 1) := by decide +kernel
theorem dL_law_76 : decode cL_law 76 = .ok (.iload 6, 2) := by decide +kernel
theorem dL_law_78 : decode cL_law 78 = .ok (.invokestatic 251, 3) := by decide +kernel
theorem dL_law_81 : decode cL_law 81 = .ok (.iload 7, 2) := by decide +kernel
theorem dL_law_83 : decode cL_law 83 = .ok (.if_icmp .ne 99, 3) := by decide +kernel
theorem dL_law_86 : decode cL_law 86 = .ok (.aload_n 2, 1) := by decide +kernel
theorem dL_law_87 : decode cL_law 87 = .ok (.iload 6, 2) := by decide +kernel
theorem dL_law_89 : decode cL_law 89 = .ok (.sipush 1000, 3) := by decide +kernel
theorem dL_law_92 : decode cL_law 92 = .ok (.irem, 1) := by decide +kernel
theorem dL_law_93 : decode cL_law 93 = .ok (.invokestatic 255, 3) := by decide +kernel
theorem dL_law_96 : decode cL_law 96 = .ok (.ifCond .eq 86, 3) := by decide +kernel
theorem dL_law_99 : decode cL_law 99 = .ok (.aload_n 1, 1) := by decide +kernel
theorem dL_law_100 : decode cL_law 100 = .ok (.aload_n 2, 1) := by decide +kernel
theorem dL_law_101 : decode cL_law 101 = .ok (.invokestatic 259, 3) := by decide +kernel
theorem dL_law_104 : decode cL_law 104 = .ok (.ifCond .eq 78, 3) := by decide +kernel
theorem dL_law_107 : decode cL_law 107 = .ok (.iload 5, 2) := by decide +kernel
theorem dL_law_109 : decode cL_law 109 = .ok (.iconst 2, 1) := by decide +kernel
theorem dL_law_110 : decode cL_law 110 = .ok (.irem, 1) := by decide +kernel
theorem dL_law_111 : decode cL_law 111 = .ok (.ifCond .ne 13, 3) := by decide +kernel
theorem dL_law_114 : decode cL_law 114 = .ok (.aload_n 1, 1) := by decide +kernel
theorem dL_law_115 : decode cL_law 115 = .ok (.invokestatic 263, 3) := by decide +kernel
theorem dL_law_118 : decode cL_law 118 = .ok (.ifCond .eq 64, 3) := by decide +kernel
theorem dL_law_121 : decode cL_law 121 = .ok (.goto 10, 3) := by decide +kernel
theorem dL_law_124 : decode cL_law 124 = .ok (.aload_n 2, 1) := by decide +kernel
theorem dL_law_125 : decode cL_law 125 = .ok (.invokestatic 263, 3) := by decide +kernel
theorem dL_law_128 : decode cL_law 128 = .ok (.ifCond .eq 54, 3) := by decide +kernel
theorem dL_law_131 : decode cL_law 131 = .ok (.iload 5, 2) := by decide +kernel
theorem dL_law_133 : decode cL_law 133 = .ok (.iconst 4, 1) := by decide +kernel
theorem dL_law_134 : decode cL_law 134 = .ok (.irem, 1) := by decide +kernel
theorem dL_law_135 : decode cL_law 135 = .ok (.ifCond .gt 30, 3) := by decide +kernel
theorem dL_law_138 : decode cL_law 138 = .ok (.aload_n 1, 1) := by decide +kernel
theorem dL_law_139 : decode cL_law 139 = .ok (.invokestatic 267, 3) := by decide +kernel
theorem dL_law_142 : decode cL_law 142 = .ok (.ifCond .eq 40, 3) := by decide +kernel
theorem dL_law_145 : decode cL_law 145 = .ok (.aload_n 1, 1) := by decide +kernel
theorem dL_law_146 : decode cL_law 146 = .ok (.invokevirtual 270, 3) := by decide +kernel
theorem dL_law_149 : decode cL_law 149 = .ok (.aload_n 2, 1) := by decide +kernel
theorem dL_law_150 : decode cL_law 150 = .ok (.invokevirtual 270, 3) := by decide +kernel
theorem dL_law_153 : decode cL_law 153 = .ok (.lcmp, 1) := by decide +kernel
theorem dL_law_154 : decode cL_law 154 = .ok (.ifCond .ne 28, 3) := by decide +kernel
theorem dL_law_157 : decode cL_law 157 = .ok (.aload_n 1, 1) := by decide +kernel
theorem dL_law_158 : decode cL_law 158 = .ok (.aload_n 2, 1) := by decide +kernel
theorem dL_law_159 : decode cL_law 159 = .ok (.invokestatic 274, 3) := by decide +kernel
theorem dL_law_162 : decode cL_law 162 = .ok (.ifCond .eq 20, 3) := by decide +kernel
theorem dL_law_165 : decode cL_law 165 = .ok (.aload_n 1, 1) := by decide +kernel
theorem dL_law_166 : decode cL_law 166 = .ok (.aload_n 2, 1) := by decide +kernel
theorem dL_law_167 : decode cL_law 167 = .ok (.iload 6, 2) := by decide +kernel
theorem dL_law_169 : decode cL_law 169 = .ok (.bipush 7, 2) := by decide +kernel
theorem dL_law_171 : decode cL_law 171 = .ok (.idiv, 1) := by decide +kernel
theorem dL_law_172 : decode cL_law 172 = .ok (.invokestatic 277, 3) := by decide +kernel
theorem dL_law_175 : decode cL_law 175 = .ok (.ifCond .eq 7, 3) := by decide +kernel
theorem dL_law_178 : decode cL_law 178 = .ok (.iconst 1, 1) := by decide +kernel
theorem dL_law_179 : decode cL_law 179 = .ok (.goto 4, 3) := by decide +kernel
theorem dL_law_182 : decode cL_law 182 = .ok (.iconst 0, 1) := by decide +kernel
theorem dL_law_183 : decode cL_law 183 = .ok (.istore 4, 2) := by decide +kernel
theorem dL_law_185 : decode cL_law 185 = .ok (.iinc 5 1, 3) := by decide +kernel
theorem dL_law_188 : decode cL_law 188 = .ok (.goto (-154), 3) := by decide +kernel
theorem dL_law_191 : decode cL_law 191 = .ok (.iload 4, 2) := by decide +kernel
theorem dL_law_193 : decode cL_law 193 = .ok (.ireturn, 1) := by decide +kernel
theorem dL_undoes_0 : decode cL_undoes 0 = .ok (.iconst 1, 1) := by decide +kernel
theorem dL_undoes_1 : decode cL_undoes 1 = .ok (.istore_n 3, 1) := by decide +kernel
theorem dL_undoes_2 : decode cL_undoes 2 = .ok (.iconst 0, 1) := by decide +kernel
theorem dL_undoes_3 : decode cL_undoes 3 = .ok (.istore 4, 2) := by decide +kernel
theorem dL_undoes_5 : decode cL_undoes 5 = .ok (.iload 4, 2) := by decide +kernel
theorem dL_undoes_7 : decode cL_undoes 7 = .ok (.iload_n 2, 1) := by decide +kernel
theorem dL_undoes_8 : decode cL_undoes 8 = .ok (.if_icmp .ge 49, 3) := by decide +kernel
theorem dL_undoes_11 : decode cL_undoes 11 = .ok (.iload_n 3, 1) := by decide +kernel
theorem dL_undoes_12 : decode cL_undoes 12 = .ok (.ifCond .eq 45, 3) := by decide +kernel
theorem dL_undoes_15 : decode cL_undoes 15 = .ok (.aload_n 0, 1) := by decide +kernel
theorem dL_undoes_16 : decode cL_undoes 16 = .ok (.bipush 8, 2) := by decide +kernel
theorem dL_undoes_18 : decode cL_undoes 18 = .ok (.iconst 0, 1) := by decide +kernel
theorem dL_undoes_19 : decode cL_undoes 19 = .ok (.iconst 0, 1) := by decide +kernel
theorem dL_undoes_20 : decode cL_undoes 20 = .ok (.iconst 0, 1) := by decide +kernel
theorem dL_undoes_21 : decode cL_undoes 21 = .ok (.invokestatic 176, 3) := by decide +kernel
theorem dL_undoes_24 : decode cL_undoes 24 = .ok (.invokestatic 281, 3) := by decide +kernel
theorem dL_undoes_27 : decode cL_undoes 27 = .ok (.ifCond .ne 22, 3) := by decide +kernel
theorem dL_undoes_30 : decode cL_undoes 30 = .ok (.aload_n 1, 1) := by decide +kernel
theorem dL_undoes_31 : decode cL_undoes 31 = .ok (.bipush 8, 2) := by decide +kernel
theorem dL_undoes_33 : decode cL_undoes 33 = .ok (.iconst 0, 1) := by decide +kernel
theorem dL_undoes_34 : decode cL_undoes 34 = .ok (.iconst 0, 1) := by decide +kernel
theorem dL_undoes_35 : decode cL_undoes 35 = .ok (.iconst 0, 1) := by decide +kernel
theorem dL_undoes_36 : decode cL_undoes 36 = .ok (.invokestatic 176, 3) := by decide +kernel
theorem dL_undoes_39 : decode cL_undoes 39 = .ok (.invokestatic 281, 3) := by decide +kernel
theorem dL_undoes_42 : decode cL_undoes 42 = .ok (.ifCond .ne 7, 3) := by decide +kernel
theorem dL_undoes_45 : decode cL_undoes 45 = .ok (.iconst 1, 1) := by decide +kernel
theorem dL_undoes_46 : decode cL_undoes 46 = .ok (.goto 4, 3) := by decide +kernel
theorem dL_undoes_49 : decode cL_undoes 49 = .ok (.iconst 0, 1) := by decide +kernel
theorem dL_undoes_50 : decode cL_undoes 50 = .ok (.istore_n 3, 1) := by decide +kernel
theorem dL_undoes_51 : decode cL_undoes 51 = .ok (.iinc 4 1, 3) := by decide +kernel
theorem dL_undoes_54 : decode cL_undoes 54 = .ok (.goto (-49), 3) := by decide +kernel
theorem dL_undoes_57 : decode cL_undoes 57 = .ok (.iload_n 3, 1) := by decide +kernel
theorem dL_undoes_58 : decode cL_undoes 58 = .ok (.ireturn, 1) := by decide +kernel
theorem dL_slides_0 : decode cL_slides 0 = .ok (.aload_n 0, 1) := by decide +kernel
theorem dL_slides_1 : decode cL_slides 1 = .ok (.invokevirtual 173, 3) := by decide +kernel
theorem dL_slides_4 : decode cL_slides 4 = .ok (.ifCond .eq 12, 3) := by decide +kernel
theorem dL_slides_7 : decode cL_slides 7 = .ok (.aload_n 0, 1) := by decide +kernel
theorem dL_slides_8 : decode cL_slides 8 = .ok (.invokevirtual 188, 3) := by decide +kernel
theorem dL_slides_11 : decode cL_slides 11 = .ok (.bipush 60, 2) := by decide +kernel
theorem dL_slides_13 : decode cL_slides 13 = .ok (.if_icmp .ne 5, 3) := by decide +kernel
theorem dL_slides_16 : decode cL_slides 16 = .ok (.iconst 1, 1) := by decide +kernel
theorem dL_slides_17 : decode cL_slides 17 = .ok (.ireturn, 1) := by decide +kernel
theorem dL_slides_18 : decode cL_slides 18 = .ok (.iload_n 2, 1) := by decide +kernel
theorem dL_slides_19 : decode cL_slides 19 = .ok (.aload_n 0, 1) := by decide +kernel
theorem dL_slides_20 : decode cL_slides 20 = .ok (.invokevirtual 173, 3) := by decide +kernel
theorem dL_slides_23 : decode cL_slides 23 = .ok (.irem, 1) := by decide +kernel
theorem dL_slides_24 : decode cL_slides 24 = .ok (.istore_n 3, 1) := by decide +kernel
theorem dL_slides_25 : decode cL_slides 25 = .ok (.iload_n 2, 1) := by decide +kernel
theorem dL_slides_26 : decode cL_slides 26 = .ok (.bipush 8, 2) := by decide +kernel
theorem dL_slides_28 : decode cL_slides 28 = .ok (.idiv, 1) := by decide +kernel
theorem dL_slides_29 : decode cL_slides 29 = .ok (.iconst 2, 1) := by decide +kernel
theorem dL_slides_30 : decode cL_slides 30 = .ok (.irem, 1) := by decide +kernel
theorem dL_slides_31 : decode cL_slides 31 = .ok (.ifCond .ne 7, 3) := by decide +kernel
theorem dL_slides_34 : decode cL_slides 34 = .ok (.iconst 1, 1) := by decide +kernel
theorem dL_slides_35 : decode cL_slides 35 = .ok (.goto 4, 3) := by decide +kernel
theorem dL_slides_38 : decode cL_slides 38 = .ok (.iconst 0, 1) := by decide +kernel
theorem dL_slides_39 : decode cL_slides 39 = .ok (.istore 4, 2) := by decide +kernel
theorem dL_slides_41 : decode cL_slides 41 = .ok (.aload_n 0, 1) := by decide +kernel
theorem dL_slides_42 : decode cL_slides 42 = .ok (.iload_n 3, 1) := by decide +kernel
theorem dL_slides_43 : decode cL_slides 43 = .ok (.iload 4, 2) := by decide +kernel
theorem dL_slides_45 : decode cL_slides 45 = .ok (.invokestatic 185, 3) := by decide +kernel
theorem dL_slides_48 : decode cL_slides 48 = .ok (.istore 5, 2) := by decide +kernel
theorem dL_slides_50 : decode cL_slides 50 = .ok (.iload 5, 2) := by decide +kernel
theorem dL_slides_52 : decode cL_slides 52 = .ok (.ifCond .ne 53, 3) := by decide +kernel
theorem dL_slides_55 : decode cL_slides 55 = .ok (.aload_n 0, 1) := by decide +kernel
theorem dL_slides_56 : decode cL_slides 56 = .ok (.iconst 2, 1) := by decide +kernel
theorem dL_slides_57 : decode cL_slides 57 = .ok (.iload_n 3, 1) := by decide +kernel
theorem dL_slides_58 : decode cL_slides 58 = .ok (.iload 4, 2) := by decide +kernel
theorem dL_slides_60 : decode cL_slides 60 = .ok (.ifCond .eq 7, 3) := by decide +kernel
theorem dL_slides_63 : decode cL_slides 63 = .ok (.iconst 1, 1) := by decide +kernel
theorem dL_slides_64 : decode cL_slides 64 = .ok (.goto 4, 3) := by decide +kernel
theorem dL_slides_67 : decode cL_slides 67 = .ok (.iconst (-1), 1) := by decide +kernel
theorem dL_slides_68 : decode cL_slides 68 = .ok (.iconst 0, 1) := by decide +kernel
theorem dL_slides_69 : decode cL_slides 69 = .ok (.invokestatic 176, 3) := by decide +kernel
theorem dL_slides_72 : decode cL_slides 72 = .ok (.ldc 18, 2) := by decide +kernel
theorem dL_slides_74 : decode cL_slides 74 = .ok (.if_icmp .ne 29, 3) := by decide +kernel
theorem dL_slides_77 : decode cL_slides 77 = .ok (.aload_n 1, 1) := by decide +kernel
theorem dL_slides_78 : decode cL_slides 78 = .ok (.iconst 2, 1) := by decide +kernel
theorem dL_slides_79 : decode cL_slides 79 = .ok (.iload_n 3, 1) := by decide +kernel
theorem dL_slides_80 : decode cL_slides 80 = .ok (.iload 4, 2) := by decide +kernel
theorem dL_slides_82 : decode cL_slides 82 = .ok (.ifCond .eq 7, 3) := by decide +kernel
theorem dL_slides_85 : decode cL_slides 85 = .ok (.iconst 1, 1) := by decide +kernel
theorem dL_slides_86 : decode cL_slides 86 = .ok (.goto 4, 3) := by decide +kernel
theorem dL_slides_89 : decode cL_slides 89 = .ok (.iconst (-1), 1) := by decide +kernel
theorem dL_slides_90 : decode cL_slides 90 = .ok (.iconst 0, 1) := by decide +kernel
theorem dL_slides_91 : decode cL_slides 91 = .ok (.invokestatic 176, 3) := by decide +kernel
theorem dL_slides_94 : decode cL_slides 94 = .ok (.ldc 18, 2) := by decide +kernel
theorem dL_slides_96 : decode cL_slides 96 = .ok (.if_icmp .ne 7, 3) := by decide +kernel
theorem dL_slides_99 : decode cL_slides 99 = .ok (.iconst 1, 1) := by decide +kernel
theorem dL_slides_100 : decode cL_slides 100 = .ok (.goto 4, 3) := by decide +kernel
theorem dL_slides_103 : decode cL_slides 103 = .ok (.iconst 0, 1) := by decide +kernel
theorem dL_slides_104 : decode cL_slides 104 = .ok (.ireturn, 1) := by decide +kernel
theorem dL_slides_105 : decode cL_slides 105 = .ok (.iconst 1, 1) := by decide +kernel
theorem dL_slides_106 : decode cL_slides 106 = .ok (.iload_n 2, 1) := by decide +kernel
theorem dL_slides_107 : decode cL_slides 107 = .ok (.bipush 16, 2) := by decide +kernel
theorem dL_slides_109 : decode cL_slides 109 = .ok (.idiv, 1) := by decide +kernel
theorem dL_slides_110 : decode cL_slides 110 = .ok (.iload 5, 2) := by decide +kernel
theorem dL_slides_112 : decode cL_slides 112 = .ok (.irem, 1) := by decide +kernel
theorem dL_slides_113 : decode cL_slides 113 = .ok (.iadd, 1) := by decide +kernel
theorem dL_slides_114 : decode cL_slides 114 = .ok (.istore 6, 2) := by decide +kernel
theorem dL_slides_116 : decode cL_slides 116 = .ok (.iload 4, 2) := by decide +kernel
theorem dL_slides_118 : decode cL_slides 118 = .ok (.ifCond .eq 8, 3) := by decide +kernel
theorem dL_slides_121 : decode cL_slides 121 = .ok (.iload 6, 2) := by decide +kernel
theorem dL_slides_123 : decode cL_slides 123 = .ok (.goto 6, 3) := by decide +kernel
theorem dL_slides_126 : decode cL_slides 126 = .ok (.iload 6, 2) := by decide +kernel
theorem dL_slides_128 : decode cL_slides 128 = .ok (.ineg, 1) := by decide +kernel
theorem dL_slides_129 : decode cL_slides 129 = .ok (.istore 7, 2) := by decide +kernel
theorem dL_slides_131 : decode cL_slides 131 = .ok (.aload_n 0, 1) := by decide +kernel
theorem dL_slides_132 : decode cL_slides 132 = .ok (.bipush 11, 2) := by decide +kernel
theorem dL_slides_134 : decode cL_slides 134 = .ok (.iload_n 3, 1) := by decide +kernel
theorem dL_slides_135 : decode cL_slides 135 = .ok (.iconst 0, 1) := by decide +kernel
theorem dL_slides_136 : decode cL_slides 136 = .ok (.iconst 0, 1) := by decide +kernel
theorem dL_slides_137 : decode cL_slides 137 = .ok (.invokestatic 176, 3) := by decide +kernel
theorem dL_slides_140 : decode cL_slides 140 = .ok (.istore 8, 2) := by decide +kernel
theorem dL_slides_142 : decode cL_slides 142 = .ok (.aload_n 0, 1) := by decide +kernel
theorem dL_slides_143 : decode cL_slides 143 = .ok (.invokevirtual 204, 3) := by decide +kernel
theorem dL_slides_146 : decode cL_slides 146 = .ok (.istore 9, 2) := by decide +kernel
theorem dL_slides_148 : decode cL_slides 148 = .ok (.aload_n 0, 1) := by decide +kernel
theorem dL_slides_149 : decode cL_slides 149 = .ok (.invokevirtual 188, 3) := by decide +kernel
theorem dL_slides_152 : decode cL_slides 152 = .ok (.istore 10, 2) := by decide +kernel
theorem dL_slides_154 : decode cL_slides 154 = .ok (.aload_n 0, 1) := by decide +kernel
theorem dL_slides_155 : decode cL_slides 155 = .ok (.iconst 2, 1) := by decide +kernel
theorem dL_slides_156 : decode cL_slides 156 = .ok (.iload_n 3, 1) := by decide +kernel
theorem dL_slides_157 : decode cL_slides 157 = .ok (.iload 7, 2) := by decide +kernel
theorem dL_slides_159 : decode cL_slides 159 = .ok (.iconst 0, 1) := by decide +kernel
theorem dL_slides_160 : decode cL_slides 160 = .ok (.invokestatic 176, 3) := by decide +kernel
theorem dL_slides_163 : decode cL_slides 163 = .ok (.iload 8, 2) := by decide +kernel
theorem dL_slides_165 : decode cL_slides 165 = .ok (.iload 7, 2) := by decide +kernel
theorem dL_slides_167 : decode cL_slides 167 = .ok (.iadd, 1) := by decide +kernel
theorem dL_slides_168 : decode cL_slides 168 = .ok (.if_icmp .ne 153, 3) := by decide +kernel
theorem dL_slides_171 : decode cL_slides 171 = .ok (.aload_n 1, 1) := by decide +kernel
theorem dL_slides_172 : decode cL_slides 172 = .ok (.iconst 2, 1) := by decide +kernel
theorem dL_slides_173 : decode cL_slides 173 = .ok (.iload_n 3, 1) := by decide +kernel
theorem dL_slides_174 : decode cL_slides 174 = .ok (.iload 7, 2) := by decide +kernel
theorem dL_slides_176 : decode cL_slides 176 = .ok (.iconst 0, 1) := by decide +kernel
theorem dL_slides_177 : decode cL_slides 177 = .ok (.invokestatic 176, 3) := by decide +kernel
theorem dL_slides_180 : decode cL_slides 180 = .ok (.iload 8, 2) := by decide +kernel
theorem dL_slides_182 : decode cL_slides 182 = .ok (.iload 7, 2) := by decide +kernel
theorem dL_slides_184 : decode cL_slides 184 = .ok (.iadd, 1) := by decide +kernel
theorem dL_slides_185 : decode cL_slides 185 = .ok (.if_icmp .ne 136, 3) := by decide +kernel
theorem dL_slides_188 : decode cL_slides 188 = .ok (.aload_n 0, 1) := by decide +kernel
theorem dL_slides_189 : decode cL_slides 189 = .ok (.invokevirtual 204, 3) := by decide +kernel
theorem dL_slides_192 : decode cL_slides 192 = .ok (.iload 9, 2) := by decide +kernel
theorem dL_slides_194 : decode cL_slides 194 = .ok (.iload 6, 2) := by decide +kernel
theorem dL_slides_196 : decode cL_slides 196 = .ok (.aload_n 0, 1) := by decide +kernel
theorem dL_slides_197 : decode cL_slides 197 = .ok (.bipush 12, 2) := by decide +kernel
theorem dL_slides_199 : decode cL_slides 199 = .ok (.iload_n 3, 1) := by decide +kernel
theorem dL_slides_200 : decode cL_slides 200 = .ok (.iconst 0, 1) := by decide +kernel
theorem dL_slides_201 : decode cL_slides 201 = .ok (.iconst 0, 1) := by decide +kernel
theorem dL_slides_202 : decode cL_slides 202 = .ok (.invokestatic 176, 3) := by decide +kernel
theorem dL_slides_205 : decode cL_slides 205 = .ok (.imul, 1) := by decide +kernel
theorem dL_slides_206 : decode cL_slides 206 = .ok (.iadd, 1) := by decide +kernel
theorem dL_slides_207 : decode cL_slides 207 = .ok (.if_icmp .ne 114, 3) := by decide +kernel
theorem dL_slides_210 : decode cL_slides 210 = .ok (.aload_n 0, 1) := by decide +kernel
theorem dL_slides_211 : decode cL_slides 211 = .ok (.invokevirtual 188, 3) := by decide +kernel
theorem dL_slides_214 : decode cL_slides 214 = .ok (.iload 10, 2) := by decide +kernel
theorem dL_slides_216 : decode cL_slides 216 = .ok (.iconst 1, 1) := by decide +kernel
theorem dL_slides_217 : decode cL_slides 217 = .ok (.iadd, 1) := by decide +kernel
theorem dL_slides_218 : decode cL_slides 218 = .ok (.if_icmp .ne 103, 3) := by decide +kernel
theorem dL_slides_221 : decode cL_slides 221 = .ok (.aload_n 0, 1) := by decide +kernel
theorem dL_slides_222 : decode cL_slides 222 = .ok (.bipush 14, 2) := by decide +kernel
theorem dL_slides_224 : decode cL_slides 224 = .ok (.iload 10, 2) := by decide +kernel
theorem dL_slides_226 : decode cL_slides 226 = .ok (.iconst 0, 1) := by decide +kernel
theorem dL_slides_227 : decode cL_slides 227 = .ok (.iconst 0, 1) := by decide +kernel
theorem dL_slides_228 : decode cL_slides 228 = .ok (.invokestatic 176, 3) := by decide +kernel
theorem dL_slides_231 : decode cL_slides 231 = .ok (.iload_n 3, 1) := by decide +kernel
theorem dL_slides_232 : decode cL_slides 232 = .ok (.if_icmp .ne 89, 3) := by decide +kernel
theorem dL_slides_235 : decode cL_slides 235 = .ok (.aload_n 0, 1) := by decide +kernel
theorem dL_slides_236 : decode cL_slides 236 = .ok (.bipush 15, 2) := by decide +kernel
theorem dL_slides_238 : decode cL_slides 238 = .ok (.iload 10, 2) := by decide +kernel
theorem dL_slides_240 : decode cL_slides 240 = .ok (.iconst 0, 1) := by decide +kernel
theorem dL_slides_241 : decode cL_slides 241 = .ok (.iconst 0, 1) := by decide +kernel
theorem dL_slides_242 : decode cL_slides 242 = .ok (.invokestatic 176, 3) := by decide +kernel
theorem dL_slides_245 : decode cL_slides 245 = .ok (.iload 7, 2) := by decide +kernel
theorem dL_slides_247 : decode cL_slides 247 = .ok (.if_icmp .ne 74, 3) := by decide +kernel
theorem dL_slides_250 : decode cL_slides 250 = .ok (.aload_n 0, 1) := by decide +kernel
theorem dL_slides_251 : decode cL_slides 251 = .ok (.iload_n 3, 1) := by decide +kernel
theorem dL_slides_252 : decode cL_slides 252 = .ok (.iload 4, 2) := by decide +kernel
theorem dL_slides_254 : decode cL_slides 254 = .ok (.ifCond .ne 7, 3) := by decide +kernel
theorem dL_slides_257 : decode cL_slides 257 = .ok (.iconst 1, 1) := by decide +kernel
theorem dL_slides_258 : decode cL_slides 258 = .ok (.goto 4, 3) := by decide +kernel
theorem dL_slides_261 : decode cL_slides 261 = .ok (.iconst 0, 1) := by decide +kernel
theorem dL_slides_262 : decode cL_slides 262 = .ok (.invokestatic 185, 3) := by decide +kernel
theorem dL_slides_265 : decode cL_slides 265 = .ok (.iload 6, 2) := by decide +kernel
theorem dL_slides_267 : decode cL_slides 267 = .ok (.if_icmp .lt 54, 3) := by decide +kernel
theorem dL_slides_270 : decode cL_slides 270 = .ok (.aload_n 0, 1) := by decide +kernel
theorem dL_slides_271 : decode cL_slides 271 = .ok (.iconst 3, 1) := by decide +kernel
theorem dL_slides_272 : decode cL_slides 272 = .ok (.iconst 0, 1) := by decide +kernel
theorem dL_slides_273 : decode cL_slides 273 = .ok (.iconst 0, 1) := by decide +kernel
theorem dL_slides_274 : decode cL_slides 274 = .ok (.iconst 0, 1) := by decide +kernel
theorem dL_slides_275 : decode cL_slides 275 = .ok (.invokestatic 176, 3) := by decide +kernel
theorem dL_slides_278 : decode cL_slides 278 = .ok (.iload_n 3, 1) := by decide +kernel
theorem dL_slides_279 : decode cL_slides 279 = .ok (.if_icmp .ne 42, 3) := by decide +kernel
theorem dL_slides_282 : decode cL_slides 282 = .ok (.aload_n 1, 1) := by decide +kernel
theorem dL_slides_283 : decode cL_slides 283 = .ok (.iconst 3, 1) := by decide +kernel
theorem dL_slides_284 : decode cL_slides 284 = .ok (.iconst 0, 1) := by decide +kernel
theorem dL_slides_285 : decode cL_slides 285 = .ok (.iconst 0, 1) := by decide +kernel
theorem dL_slides_286 : decode cL_slides 286 = .ok (.iconst 0, 1) := by decide +kernel
theorem dL_slides_287 : decode cL_slides 287 = .ok (.invokestatic 176, 3) := by decide +kernel
theorem dL_slides_290 : decode cL_slides 290 = .ok (.iload_n 3, 1) := by decide +kernel
theorem dL_slides_291 : decode cL_slides 291 = .ok (.if_icmp .ne 30, 3) := by decide +kernel
theorem dL_slides_294 : decode cL_slides 294 = .ok (.aload_n 0, 1) := by decide +kernel
theorem dL_slides_295 : decode cL_slides 295 = .ok (.bipush 11, 2) := by decide +kernel
theorem dL_slides_297 : decode cL_slides 297 = .ok (.iload_n 3, 1) := by decide +kernel
theorem dL_slides_298 : decode cL_slides 298 = .ok (.iconst 0, 1) := by decide +kernel
theorem dL_slides_299 : decode cL_slides 299 = .ok (.iconst 0, 1) := by decide +kernel
theorem dL_slides_300 : decode cL_slides 300 = .ok (.invokestatic 176, 3) := by decide +kernel
theorem dL_slides_303 : decode cL_slides 303 = .ok (.iload 8, 2) := by decide +kernel
theorem dL_slides_305 : decode cL_slides 305 = .ok (.if_icmp .ne 16, 3) := by decide +kernel
theorem dL_slides_308 : decode cL_slides 308 = .ok (.aload_n 0, 1) := by decide +kernel
theorem dL_slides_309 : decode cL_slides 309 = .ok (.invokevirtual 204, 3) := by decide +kernel
theorem dL_slides_312 : decode cL_slides 312 = .ok (.iload 9, 2) := by decide +kernel
theorem dL_slides_314 : decode cL_slides 314 = .ok (.if_icmp .ne 7, 3) := by decide +kernel
theorem dL_slides_317 : decode cL_slides 317 = .ok (.iconst 1, 1) := by decide +kernel
theorem dL_slides_318 : decode cL_slides 318 = .ok (.goto 4, 3) := by decide +kernel
theorem dL_slides_321 : decode cL_slides 321 = .ok (.iconst 0, 1) := by decide +kernel
theorem dL_slides_322 : decode cL_slides 322 = .ok (.istore 11, 2) := by decide +kernel
theorem dL_slides_324 : decode cL_slides 324 = .ok (.iload 11, 2) := by decide +kernel
theorem dL_slides_326 : decode cL_slides 326 = .ok (.ifCond .eq 39, 3) := by decide +kernel
theorem dL_slides_329 : decode cL_slides 329 = .ok (.aload_n 0, 1) := by decide +kernel
theorem dL_slides_330 : decode cL_slides 330 = .ok (.aload_n 1, 1) := by decide +kernel
theorem dL_slides_331 : decode cL_slides 331 = .ok (.iconst 2, 1) := by decide +kernel
theorem dL_slides_332 : decode cL_slides 332 = .ok (.invokestatic 284, 3) := by decide +kernel
theorem dL_slides_335 : decode cL_slides 335 = .ok (.ifCond .eq 30, 3) := by decide +kernel
theorem dL_slides_338 : decode cL_slides 338 = .ok (.aload_n 0, 1) := by decide +kernel
theorem dL_slides_339 : decode cL_slides 339 = .ok (.invokevirtual 188, 3) := by decide +kernel
theorem dL_slides_342 : decode cL_slides 342 = .ok (.iload 10, 2) := by decide +kernel
theorem dL_slides_344 : decode cL_slides 344 = .ok (.if_icmp .ne 21, 3) := by decide +kernel
theorem dL_slides_347 : decode cL_slides 347 = .ok (.aload_n 0, 1) := by decide +kernel
theorem dL_slides_348 : decode cL_slides 348 = .ok (.bipush 11, 2) := by decide +kernel
theorem dL_slides_350 : decode cL_slides 350 = .ok (.iload_n 3, 1) := by decide +kernel
theorem dL_slides_351 : decode cL_slides 351 = .ok (.iconst 0, 1) := by decide +kernel
theorem dL_slides_352 : decode cL_slides 352 = .ok (.iconst 0, 1) := by decide +kernel
theorem dL_slides_353 : decode cL_slides 353 = .ok (.invokestatic 176, 3) := by decide +kernel
theorem dL_slides_356 : decode cL_slides 356 = .ok (.iload 8, 2) := by decide +kernel
theorem dL_slides_358 : decode cL_slides 358 = .ok (.if_icmp .ne 7, 3) := by decide +kernel
theorem dL_slides_361 : decode cL_slides 361 = .ok (.iconst 1, 1) := by decide +kernel
theorem dL_slides_362 : decode cL_slides 362 = .ok (.goto 4, 3) := by decide +kernel
theorem dL_slides_365 : decode cL_slides 365 = .ok (.iconst 0, 1) := by decide +kernel
theorem dL_slides_366 : decode cL_slides 366 = .ok (.ireturn, 1) := by decide +kernel
theorem dL_drives_0 : decode cL_drives 0 = .ok (.aload_n 0, 1) := by decide +kernel
theorem dL_drives_1 : decode cL_drives 1 = .ok (.invokevirtual 210, 3) := by decide +kernel
theorem dL_drives_4 : decode cL_drives 4 = .ok (.istore_n 2, 1) := by decide +kernel
theorem dL_drives_5 : decode cL_drives 5 = .ok (.aload_n 0, 1) := by decide +kernel
theorem dL_drives_6 : decode cL_drives 6 = .ok (.invokevirtual 188, 3) := by decide +kernel
theorem dL_drives_9 : decode cL_drives 9 = .ok (.istore_n 3, 1) := by decide +kernel
theorem dL_drives_10 : decode cL_drives 10 = .ok (.iload_n 2, 1) := by decide +kernel
theorem dL_drives_11 : decode cL_drives 11 = .ok (.ifCond .lt 11, 3) := by decide +kernel
theorem dL_drives_14 : decode cL_drives 14 = .ok (.iload_n 3, 1) := by decide +kernel
theorem dL_drives_15 : decode cL_drives 15 = .ok (.iload_n 2, 1) := by decide +kernel
theorem dL_drives_16 : decode cL_drives 16 = .ok (.iadd, 1) := by decide +kernel
theorem dL_drives_17 : decode cL_drives 17 = .ok (.bipush 60, 2) := by decide +kernel
theorem dL_drives_19 : decode cL_drives 19 = .ok (.if_icmp .le 35, 3) := by decide +kernel
theorem dL_drives_22 : decode cL_drives 22 = .ok (.aload_n 0, 1) := by decide +kernel
theorem dL_drives_23 : decode cL_drives 23 = .ok (.iconst 4, 1) := by decide +kernel
theorem dL_drives_24 : decode cL_drives 24 = .ok (.iconst 0, 1) := by decide +kernel
theorem dL_drives_25 : decode cL_drives 25 = .ok (.iconst 0, 1) := by decide +kernel
theorem dL_drives_26 : decode cL_drives 26 = .ok (.iconst 0, 1) := by decide +kernel
theorem dL_drives_27 : decode cL_drives 27 = .ok (.invokestatic 176, 3) := by decide +kernel
theorem dL_drives_30 : decode cL_drives 30 = .ok (.ldc 18, 2) := by decide +kernel
theorem dL_drives_32 : decode cL_drives 32 = .ok (.if_icmp .ne 20, 3) := by decide +kernel
theorem dL_drives_35 : decode cL_drives 35 = .ok (.aload_n 1, 1) := by decide +kernel
theorem dL_drives_36 : decode cL_drives 36 = .ok (.iconst 4, 1) := by decide +kernel
theorem dL_drives_37 : decode cL_drives 37 = .ok (.iconst 0, 1) := by decide +kernel
theorem dL_drives_38 : decode cL_drives 38 = .ok (.iconst 0, 1) := by decide +kernel
theorem dL_drives_39 : decode cL_drives 39 = .ok (.iconst 0, 1) := by decide +kernel
theorem dL_drives_40 : decode cL_drives 40 = .ok (.invokestatic 176, 3) := by decide +kernel
theorem dL_drives_43 : decode cL_drives 43 = .ok (.ldc 18, 2) := by decide +kernel
theorem dL_drives_45 : decode cL_drives 45 = .ok (.if_icmp .ne 7, 3) := by decide +kernel
theorem dL_drives_48 : decode cL_drives 48 = .ok (.iconst 1, 1) := by decide +kernel
theorem dL_drives_49 : decode cL_drives 49 = .ok (.goto 4, 3) := by decide +kernel
theorem dL_drives_52 : decode cL_drives 52 = .ok (.iconst 0, 1) := by decide +kernel
theorem dL_drives_53 : decode cL_drives 53 = .ok (.ireturn, 1) := by decide +kernel
theorem dL_drives_54 : decode cL_drives 54 = .ok (.aload_n 0, 1) := by decide +kernel
theorem dL_drives_55 : decode cL_drives 55 = .ok (.bipush 17, 2) := by decide +kernel
theorem dL_drives_57 : decode cL_drives 57 = .ok (.iconst 0, 1) := by decide +kernel
theorem dL_drives_58 : decode cL_drives 58 = .ok (.iconst 0, 1) := by decide +kernel
theorem dL_drives_59 : decode cL_drives 59 = .ok (.iconst 0, 1) := by decide +kernel
theorem dL_drives_60 : decode cL_drives 60 = .ok (.invokestatic 176, 3) := by decide +kernel
theorem dL_drives_63 : decode cL_drives 63 = .ok (.istore 4, 2) := by decide +kernel
theorem dL_drives_65 : decode cL_drives 65 = .ok (.aload_n 0, 1) := by decide +kernel
theorem dL_drives_66 : decode cL_drives 66 = .ok (.bipush 18, 2) := by decide +kernel
theorem dL_drives_68 : decode cL_drives 68 = .ok (.iconst 0, 1) := by decide +kernel
theorem dL_drives_69 : decode cL_drives 69 = .ok (.iconst 0, 1) := by decide +kernel
theorem dL_drives_70 : decode cL_drives 70 = .ok (.iconst 0, 1) := by decide +kernel
theorem dL_drives_71 : decode cL_drives 71 = .ok (.invokestatic 176, 3) := by decide +kernel
theorem dL_drives_74 : decode cL_drives 74 = .ok (.istore 5, 2) := by decide +kernel
theorem dL_drives_76 : decode cL_drives 76 = .ok (.iload_n 2, 1) := by decide +kernel
theorem dL_drives_77 : decode cL_drives 77 = .ok (.ifCond .ne 25, 3) := by decide +kernel
theorem dL_drives_80 : decode cL_drives 80 = .ok (.iload 4, 2) := by decide +kernel
theorem dL_drives_82 : decode cL_drives 82 = .ok (.ldc 18, 2) := by decide +kernel
theorem dL_drives_84 : decode cL_drives 84 = .ok (.if_icmp .ne 14, 3) := by decide +kernel
theorem dL_drives_87 : decode cL_drives 87 = .ok (.iload 5, 2) := by decide +kernel
theorem dL_drives_89 : decode cL_drives 89 = .ok (.ldc 18, 2) := by decide +kernel
theorem dL_drives_91 : decode cL_drives 91 = .ok (.if_icmp .ne 7, 3) := by decide +kernel
theorem dL_drives_94 : decode cL_drives 94 = .ok (.iconst 1, 1) := by decide +kernel
theorem dL_drives_95 : decode cL_drives 95 = .ok (.goto 29, 3) := by decide +kernel
theorem dL_drives_98 : decode cL_drives 98 = .ok (.iconst 0, 1) := by decide +kernel
theorem dL_drives_99 : decode cL_drives 99 = .ok (.goto 25, 3) := by decide +kernel
theorem dL_drives_102 : decode cL_drives 102 = .ok (.aload_n 0, 1) := by decide +kernel
theorem dL_drives_103 : decode cL_drives 103 = .ok (.bipush 19, 2) := by decide +kernel
theorem dL_drives_105 : decode cL_drives 105 = .ok (.iload 4, 2) := by decide +kernel
theorem dL_drives_107 : decode cL_drives 107 = .ok (.iload 5, 2) := by decide +kernel
theorem dL_drives_109 : decode cL_drives 109 = .ok (.iconst 0, 1) := by decide +kernel
theorem dL_drives_110 : decode cL_drives 110 = .ok (.invokestatic 176, 3) := by decide +kernel
theorem dL_drives_113 : decode cL_drives 113 = .ok (.iload_n 2, 1) := by decide +kernel
theorem dL_drives_114 : decode cL_drives 114 = .ok (.iconst 1, 1) := by decide +kernel
theorem dL_drives_115 : decode cL_drives 115 = .ok (.isub, 1) := by decide +kernel
theorem dL_drives_116 : decode cL_drives 116 = .ok (.if_icmp .ne 7, 3) := by decide +kernel
theorem dL_drives_119 : decode cL_drives 119 = .ok (.iconst 1, 1) := by decide +kernel
theorem dL_drives_120 : decode cL_drives 120 = .ok (.goto 4, 3) := by decide +kernel
theorem dL_drives_123 : decode cL_drives 123 = .ok (.iconst 0, 1) := by decide +kernel
theorem dL_drives_124 : decode cL_drives 124 = .ok (.istore 6, 2) := by decide +kernel
theorem dL_drives_126 : decode cL_drives 126 = .ok (.iload 6, 2) := by decide +kernel
theorem dL_drives_128 : decode cL_drives 128 = .ok (.ifCond .eq 87, 3) := by decide +kernel
theorem dL_drives_131 : decode cL_drives 131 = .ok (.aload_n 0, 1) := by decide +kernel
theorem dL_drives_132 : decode cL_drives 132 = .ok (.iconst 4, 1) := by decide +kernel
theorem dL_drives_133 : decode cL_drives 133 = .ok (.iconst 0, 1) := by decide +kernel
theorem dL_drives_134 : decode cL_drives 134 = .ok (.iconst 0, 1) := by decide +kernel
theorem dL_drives_135 : decode cL_drives 135 = .ok (.iconst 0, 1) := by decide +kernel
theorem dL_drives_136 : decode cL_drives 136 = .ok (.invokestatic 176, 3) := by decide +kernel
theorem dL_drives_139 : decode cL_drives 139 = .ok (.iload_n 2, 1) := by decide +kernel
theorem dL_drives_140 : decode cL_drives 140 = .ok (.if_icmp .ne 75, 3) := by decide +kernel
theorem dL_drives_143 : decode cL_drives 143 = .ok (.aload_n 1, 1) := by decide +kernel
theorem dL_drives_144 : decode cL_drives 144 = .ok (.iconst 4, 1) := by decide +kernel
theorem dL_drives_145 : decode cL_drives 145 = .ok (.iconst 0, 1) := by decide +kernel
theorem dL_drives_146 : decode cL_drives 146 = .ok (.iconst 0, 1) := by decide +kernel
theorem dL_drives_147 : decode cL_drives 147 = .ok (.iconst 0, 1) := by decide +kernel
theorem dL_drives_148 : decode cL_drives 148 = .ok (.invokestatic 176, 3) := by decide +kernel
theorem dL_drives_151 : decode cL_drives 151 = .ok (.iload_n 2, 1) := by decide +kernel
theorem dL_drives_152 : decode cL_drives 152 = .ok (.if_icmp .ne 63, 3) := by decide +kernel
theorem dL_drives_155 : decode cL_drives 155 = .ok (.aload_n 0, 1) := by decide +kernel
theorem dL_drives_156 : decode cL_drives 156 = .ok (.invokevirtual 194, 3) := by decide +kernel
theorem dL_drives_159 : decode cL_drives 159 = .ok (.ifCond .eq 56, 3) := by decide +kernel
theorem dL_drives_162 : decode cL_drives 162 = .ok (.aload_n 0, 1) := by decide +kernel
theorem dL_drives_163 : decode cL_drives 163 = .ok (.invokevirtual 210, 3) := by decide +kernel
theorem dL_drives_166 : decode cL_drives 166 = .ok (.ifCond .ne 49, 3) := by decide +kernel
theorem dL_drives_169 : decode cL_drives 169 = .ok (.aload_n 0, 1) := by decide +kernel
theorem dL_drives_170 : decode cL_drives 170 = .ok (.invokevirtual 188, 3) := by decide +kernel
theorem dL_drives_173 : decode cL_drives 173 = .ok (.iload_n 3, 1) := by decide +kernel
theorem dL_drives_174 : decode cL_drives 174 = .ok (.iload_n 2, 1) := by decide +kernel
theorem dL_drives_175 : decode cL_drives 175 = .ok (.iadd, 1) := by decide +kernel
theorem dL_drives_176 : decode cL_drives 176 = .ok (.if_icmp .ne 39, 3) := by decide +kernel
theorem dL_drives_179 : decode cL_drives 179 = .ok (.iload_n 2, 1) := by decide +kernel
theorem dL_drives_180 : decode cL_drives 180 = .ok (.ifCond .eq 31, 3) := by decide +kernel
theorem dL_drives_183 : decode cL_drives 183 = .ok (.aload_n 0, 1) := by decide +kernel
theorem dL_drives_184 : decode cL_drives 184 = .ok (.bipush 14, 2) := by decide +kernel
theorem dL_drives_186 : decode cL_drives 186 = .ok (.iload_n 3, 1) := by decide +kernel
theorem dL_drives_187 : decode cL_drives 187 = .ok (.iconst 0, 1) := by decide +kernel
theorem dL_drives_188 : decode cL_drives 188 = .ok (.iconst 0, 1) := by decide +kernel
theorem dL_drives_189 : decode cL_drives 189 = .ok (.invokestatic 176, 3) := by decide +kernel
theorem dL_drives_192 : decode cL_drives 192 = .ok (.iload 4, 2) := by decide +kernel
theorem dL_drives_194 : decode cL_drives 194 = .ok (.if_icmp .ne 21, 3) := by decide +kernel
theorem dL_drives_197 : decode cL_drives 197 = .ok (.aload_n 0, 1) := by decide +kernel
theorem dL_drives_198 : decode cL_drives 198 = .ok (.bipush 15, 2) := by decide +kernel
theorem dL_drives_200 : decode cL_drives 200 = .ok (.iload_n 3, 1) := by decide +kernel
theorem dL_drives_201 : decode cL_drives 201 = .ok (.iconst 0, 1) := by decide +kernel
theorem dL_drives_202 : decode cL_drives 202 = .ok (.iconst 0, 1) := by decide +kernel
theorem dL_drives_203 : decode cL_drives 203 = .ok (.invokestatic 176, 3) := by decide +kernel
theorem dL_drives_206 : decode cL_drives 206 = .ok (.iload 5, 2) := by decide +kernel
theorem dL_drives_208 : decode cL_drives 208 = .ok (.if_icmp .ne 7, 3) := by decide +kernel
theorem dL_drives_211 : decode cL_drives 211 = .ok (.iconst 1, 1) := by decide +kernel
theorem dL_drives_212 : decode cL_drives 212 = .ok (.goto 4, 3) := by decide +kernel
theorem dL_drives_215 : decode cL_drives 215 = .ok (.iconst 0, 1) := by decide +kernel
theorem dL_drives_216 : decode cL_drives 216 = .ok (.istore 6, 2) := by decide +kernel
theorem dL_drives_218 : decode cL_drives 218 = .ok (.iload 6, 2) := by decide +kernel
theorem dL_drives_220 : decode cL_drives 220 = .ok (.ifCond .eq 32, 3) := by decide +kernel
theorem dL_drives_223 : decode cL_drives 223 = .ok (.aload_n 0, 1) := by decide +kernel
theorem dL_drives_224 : decode cL_drives 224 = .ok (.aload_n 1, 1) := by decide +kernel
theorem dL_drives_225 : decode cL_drives 225 = .ok (.iconst 1, 1) := by decide +kernel
theorem dL_drives_226 : decode cL_drives 226 = .ok (.invokestatic 284, 3) := by decide +kernel
theorem dL_drives_229 : decode cL_drives 229 = .ok (.ifCond .eq 23, 3) := by decide +kernel
theorem dL_drives_232 : decode cL_drives 232 = .ok (.aload_n 0, 1) := by decide +kernel
theorem dL_drives_233 : decode cL_drives 233 = .ok (.invokevirtual 188, 3) := by decide +kernel
theorem dL_drives_236 : decode cL_drives 236 = .ok (.iload_n 3, 1) := by decide +kernel
theorem dL_drives_237 : decode cL_drives 237 = .ok (.if_icmp .ne 15, 3) := by decide +kernel
theorem dL_drives_240 : decode cL_drives 240 = .ok (.aload_n 0, 1) := by decide +kernel
theorem dL_drives_241 : decode cL_drives 241 = .ok (.invokevirtual 210, 3) := by decide +kernel
theorem dL_drives_244 : decode cL_drives 244 = .ok (.iload_n 2, 1) := by decide +kernel
theorem dL_drives_245 : decode cL_drives 245 = .ok (.if_icmp .ne 7, 3) := by decide +kernel
theorem dL_drives_248 : decode cL_drives 248 = .ok (.iconst 1, 1) := by decide +kernel
theorem dL_drives_249 : decode cL_drives 249 = .ok (.goto 4, 3) := by decide +kernel
theorem dL_drives_252 : decode cL_drives 252 = .ok (.iconst 0, 1) := by decide +kernel
theorem dL_drives_253 : decode cL_drives 253 = .ok (.ireturn, 1) := by decide +kernel
