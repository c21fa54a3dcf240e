/-! decode rows, by program -/
theorem d_MD_widths_82 : decode M_MD_widths.2.1 82 = .ok (.iload_n 3, 1) := by decide +kernel
theorem d_MD_widths_83 : decode M_MD_widths.2.1 83 = .ok (.iload 5, 2) := by decide +kernel
theorem d_MD_widths_85 : decode M_MD_widths.2.1 85 = .ok (.iadd, 1) := by decide +kernel
theorem d_MD_widths_86 : decode M_MD_widths.2.1 86 = .ok (.istore_n 3, 1) := by decide +kernel
theorem d_MD_widths_87 : decode M_MD_widths.2.1 87 = .ok (.iinc 4 1, 3) := by decide +kernel
theorem d_MD_widths_90 : decode M_MD_widths.2.1 90 = .ok (.goto (-85), 3) := by decide +kernel
theorem d_MD_widths_93 : decode M_MD_widths.2.1 93 = .ok (.iload_n 3, 1) := by decide +kernel
theorem d_MD_widths_94 : decode M_MD_widths.2.1 94 = .ok (.ireturn, 1) := by decide +kernel
theorem d_MD_fits_0 : decode M_MD_fits.2.1 0 = .ok (.iconst 0, 1) := by decide +kernel
theorem d_MD_fits_1 : decode M_MD_fits.2.1 1 = .ok (.istore_n 2, 1) := by decide +kernel
theorem d_MD_fits_2 : decode M_MD_fits.2.1 2 = .ok (.iload_n 2, 1) := by decide +kernel
theorem d_MD_fits_3 : decode M_MD_fits.2.1 3 = .ok (.iload_n 1, 1) := by decide +kernel
theorem d_MD_fits_4 : decode M_MD_fits.2.1 4 = .ok (.if_icmp .ge 45, 3) := by decide +kernel
theorem d_MD_fits_7 : decode M_MD_fits.2.1 7 = .ok (.aload_n 0, 1) := by decide +kernel
theorem d_MD_fits_8 : decode M_MD_fits.2.1 8 = .ok (.getfield 81, 3) := by decide +kernel
theorem d_MD_fits_11 : decode M_MD_fits.2.1 11 = .ok (.iload_n 2, 1) := by decide +kernel
theorem d_MD_fits_12 : decode M_MD_fits.2.1 12 = .ok (.iaload, 1) := by decide +kernel
theorem d_MD_fits_13 : decode M_MD_fits.2.1 13 = .ok (.aload_n 0, 1) := by decide +kernel
theorem d_MD_fits_14 : decode M_MD_fits.2.1 14 = .ok (.getfield 81, 3) := by decide +kernel
theorem d_MD_fits_17 : decode M_MD_fits.2.1 17 = .ok (.iload_n 1, 1) := by decide +kernel
theorem d_MD_fits_18 : decode M_MD_fits.2.1 18 = .ok (.iaload, 1) := by decide +kernel
theorem d_MD_fits_19 : decode M_MD_fits.2.1 19 = .ok (.if_icmp .ne 24, 3) := by decide +kernel
theorem d_MD_fits_22 : decode M_MD_fits.2.1 22 = .ok (.aload_n 0, 1) := by decide +kernel
theorem d_MD_fits_23 : decode M_MD_fits.2.1 23 = .ok (.aload_n 0, 1) := by decide +kernel
theorem d_MD_fits_24 : decode M_MD_fits.2.1 24 = .ok (.getfield 78, 3) := by decide +kernel
theorem d_MD_fits_27 : decode M_MD_fits.2.1 27 = .ok (.iload_n 2, 1) := by decide +kernel
theorem d_MD_fits_28 : decode M_MD_fits.2.1 28 = .ok (.iaload, 1) := by decide +kernel
theorem d_MD_fits_29 : decode M_MD_fits.2.1 29 = .ok (.aload_n 0, 1) := by decide +kernel
theorem d_MD_fits_30 : decode M_MD_fits.2.1 30 = .ok (.getfield 78, 3) := by decide +kernel
theorem d_MD_fits_33 : decode M_MD_fits.2.1 33 = .ok (.iload_n 1, 1) := by decide +kernel
theorem d_MD_fits_34 : decode M_MD_fits.2.1 34 = .ok (.iaload, 1) := by decide +kernel
theorem d_MD_fits_35 : decode M_MD_fits.2.1 35 = .ok (.invokevirtual 165, 3) := by decide +kernel
theorem d_MD_fits_38 : decode M_MD_fits.2.1 38 = .ok (.ifCond .ne 5, 3) := by decide +kernel
theorem d_MD_fits_41 : decode M_MD_fits.2.1 41 = .ok (.iconst 0, 1) := by decide +kernel
theorem d_MD_fits_42 : decode M_MD_fits.2.1 42 = .ok (.ireturn, 1) := by decide +kernel
theorem d_MD_fits_43 : decode M_MD_fits.2.1 43 = .ok (.iinc 2 1, 3) := by decide +kernel
theorem d_MD_fits_46 : decode M_MD_fits.2.1 46 = .ok (.goto (-44), 3) := by decide +kernel
theorem d_MD_fits_49 : decode M_MD_fits.2.1 49 = .ok (.iconst 1, 1) := by decide +kernel
theorem d_MD_fits_50 : decode M_MD_fits.2.1 50 = .ok (.ireturn, 1) := by decide +kernel
theorem d_MD_isFull_0 : decode M_MD_isFull.2.1 0 = .ok (.iconst 0, 1) := by decide +kernel
theorem d_MD_isFull_1 : decode M_MD_isFull.2.1 1 = .ok (.istore_n 2, 1) := by decide +kernel
theorem d_MD_isFull_2 : decode M_MD_isFull.2.1 2 = .ok (.iconst 0, 1) := by decide +kernel
theorem d_MD_isFull_3 : decode M_MD_isFull.2.1 3 = .ok (.istore_n 3, 1) := by decide +kernel
theorem d_MD_isFull_4 : decode M_MD_isFull.2.1 4 = .ok (.iload_n 3, 1) := by decide +kernel
theorem d_MD_isFull_5 : decode M_MD_isFull.2.1 5 = .ok (.iload_n 1, 1) := by decide +kernel
theorem d_MD_isFull_6 : decode M_MD_isFull.2.1 6 = .ok (.if_icmp .ge 20, 3) := by decide +kernel
theorem d_MD_isFull_9 : decode M_MD_isFull.2.1 9 = .ok (.iload_n 2, 1) := by decide +kernel
theorem d_MD_isFull_10 : decode M_MD_isFull.2.1 10 = .ok (.iconst 1, 1) := by decide +kernel
theorem d_MD_isFull_11 : decode M_MD_isFull.2.1 11 = .ok (.aload_n 0, 1) := by decide +kernel
theorem d_MD_isFull_12 : decode M_MD_isFull.2.1 12 = .ok (.getfield 81, 3) := by decide +kernel
theorem d_MD_isFull_15 : decode M_MD_isFull.2.1 15 = .ok (.iload_n 3, 1) := by decide +kernel
theorem d_MD_isFull_16 : decode M_MD_isFull.2.1 16 = .ok (.iaload, 1) := by decide +kernel
theorem d_MD_isFull_17 : decode M_MD_isFull.2.1 17 = .ok (.ishl, 1) := by decide +kernel
theorem d_MD_isFull_18 : decode M_MD_isFull.2.1 18 = .ok (.ior, 1) := by decide +kernel
theorem d_MD_isFull_19 : decode M_MD_isFull.2.1 19 = .ok (.istore_n 2, 1) := by decide +kernel
theorem d_MD_isFull_20 : decode M_MD_isFull.2.1 20 = .ok (.iinc 3 1, 3) := by decide +kernel
theorem d_MD_isFull_23 : decode M_MD_isFull.2.1 23 = .ok (.goto (-19), 3) := by decide +kernel
theorem d_MD_isFull_26 : decode M_MD_isFull.2.1 26 = .ok (.iload_n 2, 1) := by decide +kernel
theorem d_MD_isFull_27 : decode M_MD_isFull.2.1 27 = .ok (.iload_n 2, 1) := by decide +kernel
theorem d_MD_isFull_28 : decode M_MD_isFull.2.1 28 = .ok (.iconst 1, 1) := by decide +kernel
theorem d_MD_isFull_29 : decode M_MD_isFull.2.1 29 = .ok (.iadd, 1) := by decide +kernel
theorem d_MD_isFull_30 : decode M_MD_isFull.2.1 30 = .ok (.iand, 1) := by decide +kernel
theorem d_MD_isFull_31 : decode M_MD_isFull.2.1 31 = .ok (.ifCond .ne 7, 3) := by decide +kernel
theorem d_MD_isFull_34 : decode M_MD_isFull.2.1 34 = .ok (.iconst 1, 1) := by decide +kernel
theorem d_MD_isFull_35 : decode M_MD_isFull.2.1 35 = .ok (.goto 4, 3) := by decide +kernel
theorem d_MD_isFull_38 : decode M_MD_isFull.2.1 38 = .ok (.iconst 0, 1) := by decide +kernel
theorem d_MD_isFull_39 : decode M_MD_isFull.2.1 39 = .ok (.ireturn, 1) := by decide +kernel
theorem d_MD_place_0 : decode M_MD_place.2.1 0 = .ok (.aload_n 0, 1) := by decide +kernel
theorem d_MD_place_1 : decode M_MD_place.2.1 1 = .ok (.getfield 71, 3) := by decide +kernel
theorem d_MD_place_4 : decode M_MD_place.2.1 4 = .ok (.iload_n 1, 1) := by decide +kernel
theorem d_MD_place_5 : decode M_MD_place.2.1 5 = .ok (.iload_n 2, 1) := by decide +kernel
theorem d_MD_place_6 : decode M_MD_place.2.1 6 = .ok (.invokestatic 104, 3) := by decide +kernel
theorem d_MD_place_9 : decode M_MD_place.2.1 9 = .ok (.if_icmp .ne 4, 3) := by decide +kernel
theorem d_MD_place_12 : decode M_MD_place.2.1 12 = .ok (.return_, 1) := by decide +kernel
theorem d_MD_place_13 : decode M_MD_place.2.1 13 = .ok (.aload_n 0, 1) := by decide +kernel
theorem d_MD_place_14 : decode M_MD_place.2.1 14 = .ok (.iload_n 1, 1) := by decide +kernel
theorem d_MD_place_15 : decode M_MD_place.2.1 15 = .ok (.iload_n 2, 1) := by decide +kernel
theorem d_MD_place_16 : decode M_MD_place.2.1 16 = .ok (.invokestatic 104, 3) := by decide +kernel
theorem d_MD_place_19 : decode M_MD_place.2.1 19 = .ok (.putfield 71, 3) := by decide +kernel
theorem d_MD_place_22 : decode M_MD_place.2.1 22 = .ok (.aload_n 0, 1) := by decide +kernel
theorem d_MD_place_23 : decode M_MD_place.2.1 23 = .ok (.iload_n 1, 1) := by decide +kernel
theorem d_MD_place_24 : decode M_MD_place.2.1 24 = .ok (.iload_n 2, 1) := by decide +kernel
theorem d_MD_place_25 : decode M_MD_place.2.1 25 = .ok (.invokevirtual 168, 3) := by decide +kernel
theorem d_MD_place_28 : decode M_MD_place.2.1 28 = .ok (.aload_n 0, 1) := by decide +kernel
theorem d_MD_place_29 : decode M_MD_place.2.1 29 = .ok (.getfield 159, 3) := by decide +kernel
theorem d_MD_place_32 : decode M_MD_place.2.1 32 = .ok (.istore_n 3, 1) := by decide +kernel
theorem d_MD_place_33 : decode M_MD_place.2.1 33 = .ok (.iload_n 3, 1) := by decide +kernel
theorem d_MD_place_34 : decode M_MD_place.2.1 34 = .ok (.bipush 6, 2) := by decide +kernel
theorem d_MD_place_36 : decode M_MD_place.2.1 36 = .ok (.if_icmp .le 64, 3) := by decide +kernel
theorem d_MD_place_39 : decode M_MD_place.2.1 39 = .ok (.iconst 0, 1) := by decide +kernel
theorem d_MD_place_40 : decode M_MD_place.2.1 40 = .ok (.istore 4, 2) := by decide +kernel
theorem d_MD_place_42 : decode M_MD_place.2.1 42 = .ok (.iload 4, 2) := by decide +kernel
theorem d_MD_place_44 : decode M_MD_place.2.1 44 = .ok (.iload_n 3, 1) := by decide +kernel
theorem d_MD_place_45 : decode M_MD_place.2.1 45 = .ok (.if_icmp .ge 54, 3) := by decide +kernel
theorem d_MD_place_48 : decode M_MD_place.2.1 48 = .ok (.aload_n 0, 1) := by decide +kernel
theorem d_MD_place_49 : decode M_MD_place.2.1 49 = .ok (.getfield 81, 3) := by decide +kernel
theorem d_MD_place_52 : decode M_MD_place.2.1 52 = .ok (.iload 4, 2) := by decide +kernel
theorem d_MD_place_54 : decode M_MD_place.2.1 54 = .ok (.iconst 0, 1) := by decide +kernel
theorem d_MD_place_55 : decode M_MD_place.2.1 55 = .ok (.iastore, 1) := by decide +kernel
theorem d_MD_place_56 : decode M_MD_place.2.1 56 = .ok (.aload_n 0, 1) := by decide +kernel
theorem d_MD_place_57 : decode M_MD_place.2.1 57 = .ok (.iload 4, 2) := by decide +kernel
theorem d_MD_place_59 : decode M_MD_place.2.1 59 = .ok (.invokevirtual 171, 3) := by decide +kernel
theorem d_MD_place_62 : decode M_MD_place.2.1 62 = .ok (.ifCond .ne 17, 3) := by decide +kernel
theorem d_MD_place_65 : decode M_MD_place.2.1 65 = .ok (.aload_n 0, 1) := by decide +kernel
theorem d_MD_place_66 : decode M_MD_place.2.1 66 = .ok (.getfield 81, 3) := by decide +kernel
theorem d_MD_place_69 : decode M_MD_place.2.1 69 = .ok (.iload 4, 2) := by decide +kernel
theorem d_MD_place_71 : decode M_MD_place.2.1 71 = .ok (.dup2, 1) := by decide +kernel
theorem d_MD_place_72 : decode M_MD_place.2.1 72 = .ok (.iaload, 1) := by decide +kernel
theorem d_MD_place_73 : decode M_MD_place.2.1 73 = .ok (.iconst 1, 1) := by decide +kernel
theorem d_MD_place_74 : decode M_MD_place.2.1 74 = .ok (.iadd, 1) := by decide +kernel
theorem d_MD_place_75 : decode M_MD_place.2.1 75 = .ok (.iastore, 1) := by decide +kernel
theorem d_MD_place_76 : decode M_MD_place.2.1 76 = .ok (.goto (-20), 3) := by decide +kernel
theorem d_MD_place_79 : decode M_MD_place.2.1 79 = .ok (.aload_n 0, 1) := by decide +kernel
theorem d_MD_place_80 : decode M_MD_place.2.1 80 = .ok (.getfield 84, 3) := by decide +kernel
theorem d_MD_place_83 : decode M_MD_place.2.1 83 = .ok (.iload 4, 2) := by decide +kernel
theorem d_MD_place_85 : decode M_MD_place.2.1 85 = .ok (.aload_n 0, 1) := by decide +kernel
theorem d_MD_place_86 : decode M_MD_place.2.1 86 = .ok (.getfield 81, 3) := by decide +kernel
theorem d_MD_place_89 : decode M_MD_place.2.1 89 = .ok (.iload 4, 2) := by decide +kernel
theorem d_MD_place_91 : decode M_MD_place.2.1 91 = .ok (.iaload, 1) := by decide +kernel
theorem d_MD_place_92 : decode M_MD_place.2.1 92 = .ok (.iastore, 1) := by decide +kernel
theorem d_MD_place_93 : decode M_MD_place.2.1 93 = .ok (.iinc 4 1, 3) := by decide +kernel
theorem d_MD_place_96 : decode M_MD_place.2.1 96 = .ok (.goto (-54), 3) := by decide +kernel
theorem d_MD_place_99 : decode M_MD_place.2.1 99 = .ok (.return_, 1) := by decide +kernel
theorem d_MD_place_100 : decode M_MD_place.2.1 100 = .ok (.iconst (-1), 1) := by decide +kernel
theorem d_MD_place_101 : decode M_MD_place.2.1 101 = .ok (.istore 4, 2) := by decide +kernel
theorem d_MD_place_103 : decode M_MD_place.2.1 103 = .ok (.iconst 0, 1) := by decide +kernel
theorem d_MD_place_104 : decode M_MD_place.2.1 104 = .ok (.istore 5, 2) := by decide +kernel
theorem d_MD_place_106 : decode M_MD_place.2.1 106 = .ok (.iload_n 3, 1) := by decide +kernel
theorem d_MD_place_107 : decode M_MD_place.2.1 107 = .ok (.ifCond .le 10, 3) := by decide +kernel
theorem d_MD_place_110 : decode M_MD_place.2.1 110 = .ok (.aload_n 0, 1) := by decide +kernel
theorem d_MD_place_111 : decode M_MD_place.2.1 111 = .ok (.getfield 81, 3) := by decide +kernel
theorem d_MD_place_114 : decode M_MD_place.2.1 114 = .ok (.iconst 0, 1) := by decide +kernel
theorem d_MD_place_115 : decode M_MD_place.2.1 115 = .ok (.iconst (-1), 1) := by decide +kernel
theorem d_MD_place_116 : decode M_MD_place.2.1 116 = .ok (.iastore, 1) := by decide +kernel
theorem d_MD_place_117 : decode M_MD_place.2.1 117 = .ok (.iload_n 3, 1) := by decide +kernel
theorem d_MD_place_118 : decode M_MD_place.2.1 118 = .ok (.ifCond .le 156, 3) := by decide +kernel
theorem d_MD_place_121 : decode M_MD_place.2.1 121 = .ok (.iload 5, 2) := by decide +kernel
theorem d_MD_place_123 : decode M_MD_place.2.1 123 = .ok (.ifCond .lt 151, 3) := by decide +kernel
theorem d_MD_place_126 : decode M_MD_place.2.1 126 = .ok (.aload_n 0, 1) := by decide +kernel
theorem d_MD_place_127 : decode M_MD_place.2.1 127 = .ok (.getfield 81, 3) := by decide +kernel
theorem d_MD_place_130 : decode M_MD_place.2.1 130 = .ok (.iload 5, 2) := by decide +kernel
theorem d_MD_place_132 : decode M_MD_place.2.1 132 = .ok (.dup2, 1) := by decide +kernel
theorem d_MD_place_133 : decode M_MD_place.2.1 133 = .ok (.iaload, 1) := by decide +kernel
theorem d_MD_place_134 : decode M_MD_place.2.1 134 = .ok (.iconst 1, 1) := by decide +kernel
theorem d_MD_place_135 : decode M_MD_place.2.1 135 = .ok (.iadd, 1) := by decide +kernel
theorem d_MD_place_136 : decode M_MD_place.2.1 136 = .ok (.iastore, 1) := by decide +kernel
theorem d_MD_place_137 : decode M_MD_place.2.1 137 = .ok (.aload_n 0, 1) := by decide +kernel
theorem d_MD_place_138 : decode M_MD_place.2.1 138 = .ok (.getfield 81, 3) := by decide +kernel
theorem d_MD_place_141 : decode M_MD_place.2.1 141 = .ok (.iload 5, 2) := by decide +kernel
theorem d_MD_place_143 : decode M_MD_place.2.1 143 = .ok (.iaload, 1) := by decide +kernel
theorem d_MD_place_144 : decode M_MD_place.2.1 144 = .ok (.iconst 5, 1) := by decide +kernel
theorem d_MD_place_145 : decode M_MD_place.2.1 145 = .ok (.if_icmp .le 9, 3) := by decide +kernel
theorem d_MD_place_148 : decode M_MD_place.2.1 148 = .ok (.iinc 5 (-1), 3) := by decide +kernel
theorem d_MD_place_151 : decode M_MD_place.2.1 151 = .ok (.goto (-34), 3) := by decide +kernel
theorem d_MD_place_154 : decode M_MD_place.2.1 154 = .ok (.aload_n 0, 1) := by decide +kernel
theorem d_MD_place_155 : decode M_MD_place.2.1 155 = .ok (.iload 5, 2) := by decide +kernel
theorem d_MD_place_157 : decode M_MD_place.2.1 157 = .ok (.invokevirtual 171, 3) := by decide +kernel
theorem d_MD_place_160 : decode M_MD_place.2.1 160 = .ok (.ifCond .eq (-43), 3) := by decide +kernel
theorem d_MD_place_163 : decode M_MD_place.2.1 163 = .ok (.iload 4, 2) := by decide +kernel
theorem d_MD_place_165 : decode M_MD_place.2.1 165 = .ok (.ifCond .lt 20, 3) := by decide +kernel
theorem d_MD_place_168 : decode M_MD_place.2.1 168 = .ok (.aload_n 0, 1) := by decide +kernel
theorem d_MD_place_169 : decode M_MD_place.2.1 169 = .ok (.aload_n 0, 1) := by decide +kernel
theorem d_MD_place_170 : decode M_MD_place.2.1 170 = .ok (.getfield 81, 3) := by decide +kernel
theorem d_MD_place_173 : decode M_MD_place.2.1 173 = .ok (.iload 5, 2) := by decide +kernel
theorem d_MD_place_175 : decode M_MD_place.2.1 175 = .ok (.iconst 1, 1) := by decide +kernel
theorem d_MD_place_176 : decode M_MD_place.2.1 176 = .ok (.iadd, 1) := by decide +kernel
theorem d_MD_place_177 : decode M_MD_place.2.1 177 = .ok (.invokevirtual 174, 3) := by decide +kernel
theorem d_MD_place_180 : decode M_MD_place.2.1 180 = .ok (.iload 4, 2) := by decide +kernel
theorem d_MD_place_182 : decode M_MD_place.2.1 182 = .ok (.if_icmp .ge (-65), 3) := by decide +kernel
theorem d_MD_place_185 : decode M_MD_place.2.1 185 = .ok (.iload 5, 2) := by decide +kernel
theorem d_MD_place_187 : decode M_MD_place.2.1 187 = .ok (.iload_n 3, 1) := by decide +kernel
theorem d_MD_place_188 : decode M_MD_place.2.1 188 = .ok (.iconst 1, 1) := by decide +kernel
theorem d_MD_place_189 : decode M_MD_place.2.1 189 = .ok (.isub, 1) := by decide +kernel
theorem d_MD_place_190 : decode M_MD_place.2.1 190 = .ok (.if_icmp .ge 17, 3) := by decide +kernel
theorem d_MD_place_193 : decode M_MD_place.2.1 193 = .ok (.iinc 5 1, 3) := by decide +kernel
theorem d_MD_place_196 : decode M_MD_place.2.1 196 = .ok (.aload_n 0, 1) := by decide +kernel
theorem d_MD_place_197 : decode M_MD_place.2.1 197 = .ok (.getfield 81, 3) := by decide +kernel
theorem d_MD_place_200 : decode M_MD_place.2.1 200 = .ok (.iload 5, 2) := by decide +kernel
theorem d_MD_place_202 : decode M_MD_place.2.1 202 = .ok (.iconst (-1), 1) := by decide +kernel
theorem d_MD_place_203 : decode M_MD_place.2.1 203 = .ok (.iastore, 1) := by decide +kernel
theorem d_MD_place_204 : decode M_MD_place.2.1 204 = .ok (.goto (-87), 3) := by decide +kernel
theorem d_MD_place_207 : decode M_MD_place.2.1 207 = .ok (.aload_n 0, 1) := by decide +kernel
theorem d_MD_place_208 : decode M_MD_place.2.1 208 = .ok (.iload_n 3, 1) := by decide +kernel
theorem d_MD_place_209 : decode M_MD_place.2.1 209 = .ok (.invokevirtual 178, 3) := by decide +kernel
theorem d_MD_place_212 : decode M_MD_place.2.1 212 = .ok (.ifCond .eq (-95), 3) := by decide +kernel
theorem d_MD_place_215 : decode M_MD_place.2.1 215 = .ok (.aload_n 0, 1) := by decide +kernel
theorem d_MD_place_216 : decode M_MD_place.2.1 216 = .ok (.aload_n 0, 1) := by decide +kernel
theorem d_MD_place_217 : decode M_MD_place.2.1 217 = .ok (.getfield 81, 3) := by decide +kernel
theorem d_MD_place_220 : decode M_MD_place.2.1 220 = .ok (.iload_n 3, 1) := by decide +kernel
theorem d_MD_place_221 : decode M_MD_place.2.1 221 = .ok (.invokevirtual 174, 3) := by decide +kernel
theorem d_MD_place_224 : decode M_MD_place.2.1 224 = .ok (.istore 6, 2) := by decide +kernel
theorem d_MD_place_226 : decode M_MD_place.2.1 226 = .ok (.iload 4, 2) := by decide +kernel
theorem d_MD_place_228 : decode M_MD_place.2.1 228 = .ok (.ifCond .lt 10, 3) := by decide +kernel
theorem d_MD_place_231 : decode M_MD_place.2.1 231 = .ok (.iload 6, 2) := by decide +kernel
theorem d_MD_place_233 : decode M_MD_place.2.1 233 = .ok (.iload 4, 2) := by decide +kernel
theorem d_MD_place_235 : decode M_MD_place.2.1 235 = .ok (.if_icmp .ge 36, 3) := by decide +kernel
theorem d_MD_place_238 : decode M_MD_place.2.1 238 = .ok (.iload 6, 2) := by decide +kernel
theorem d_MD_place_240 : decode M_MD_place.2.1 240 = .ok (.istore 4, 2) := by decide +kernel
theorem d_MD_place_242 : decode M_MD_place.2.1 242 = .ok (.iconst 0, 1) := by decide +kernel
theorem d_MD_place_243 : decode M_MD_place.2.1 243 = .ok (.istore 7, 2) := by decide +kernel
theorem d_MD_place_245 : decode M_MD_place.2.1 245 = .ok (.iload 7, 2) := by decide +kernel
theorem d_MD_place_247 : decode M_MD_place.2.1 247 = .ok (.iload_n 3, 1) := by decide +kernel
theorem d_MD_place_248 : decode M_MD_place.2.1 248 = .ok (.if_icmp .ge 23, 3) := by decide +kernel
theorem d_MD_place_251 : decode M_MD_place.2.1 251 = .ok (.aload_n 0, 1) := by decide +kernel
theorem d_MD_place_252 : decode M_MD_place.2.1 252 = .ok (.getfield 84, 3) := by decide +kernel
theorem d_MD_place_255 : decode M_MD_place.2.1 255 = .ok (.iload 7, 2) := by decide +kernel
theorem d_MD_place_257 : decode M_MD_place.2.1 257 = .ok (.aload_n 0, 1) := by decide +kernel
theorem d_MD_place_258 : decode M_MD_place.2.1 258 = .ok (.getfield 81, 3) := by decide +kernel
theorem d_MD_place_261 : decode M_MD_place.2.1 261 = .ok (.iload 7, 2) := by decide +kernel
theorem d_MD_place_263 : decode M_MD_place.2.1 263 = .ok (.iaload, 1) := by decide +kernel
theorem d_MD_place_264 : decode M_MD_place.2.1 264 = .ok (.iastore, 1) := by decide +kernel
theorem d_MD_place_265 : decode M_MD_place.2.1 265 = .ok (.iinc 7 1, 3) := by decide +kernel
theorem d_MD_place_268 : decode M_MD_place.2.1 268 = .ok (.goto (-23), 3) := by decide +kernel
theorem d_MD_place_271 : decode M_MD_place.2.1 271 = .ok (.goto (-154), 3) := by decide +kernel
theorem d_MD_place_274 : decode M_MD_place.2.1 274 = .ok (.return_, 1) := by decide +kernel
theorem d_MD_count_0 : decode M_MD_count.2.1 0 = .ok (.iload_n 1, 1) := by decide +kernel
theorem d_MD_count_1 : decode M_MD_count.2.1 1 = .ok (.iconst 0, 1) := by decide +kernel
theorem d_MD_count_2 : decode M_MD_count.2.1 2 = .ok (.iconst 3, 1) := by decide +kernel
theorem d_MD_count_3 : decode M_MD_count.2.1 3 = .ok (.invokestatic 93, 3) := by decide +kernel
theorem d_MD_count_6 : decode M_MD_count.2.1 6 = .ok (.ifCond .ne 6, 3) := by decide +kernel
theorem d_MD_count_9 : decode M_MD_count.2.1 9 = .ok (.bipush (-3), 2) := by decide +kernel
theorem d_MD_count_11 : decode M_MD_count.2.1 11 = .ok (.ireturn, 1) := by decide +kernel
theorem d_MD_count_12 : decode M_MD_count.2.1 12 = .ok (.aload_n 0, 1) := by decide +kernel
theorem d_MD_count_13 : decode M_MD_count.2.1 13 = .ok (.invokevirtual 181, 3) := by decide +kernel
theorem d_MD_count_16 : decode M_MD_count.2.1 16 = .ok (.iconst 0, 1) := by decide +kernel
theorem d_MD_count_17 : decode M_MD_count.2.1 17 = .ok (.istore_n 2, 1) := by decide +kernel
theorem d_MD_count_18 : decode M_MD_count.2.1 18 = .ok (.iconst 0, 1) := by decide +kernel
theorem d_MD_count_19 : decode M_MD_count.2.1 19 = .ok (.istore_n 3, 1) := by decide +kernel
theorem d_MD_count_20 : decode M_MD_count.2.1 20 = .ok (.iload_n 3, 1) := by decide +kernel
theorem d_MD_count_21 : decode M_MD_count.2.1 21 = .ok (.aload_n 0, 1) := by decide +kernel
theorem d_MD_count_22 : decode M_MD_count.2.1 22 = .ok (.getfield 97, 3) := by decide +kernel
theorem d_MD_count_25 : decode M_MD_count.2.1 25 = .ok (.if_icmp .ge 85, 3) := by decide +kernel
theorem d_MD_count_28 : decode M_MD_count.2.1 28 = .ok (.aload_n 0, 1) := by decide +kernel
theorem d_MD_count_29 : decode M_MD_count.2.1 29 = .ok (.getfield 43, 3) := by decide +kernel
theorem d_MD_count_32 : decode M_MD_count.2.1 32 = .ok (.iload_n 3, 1) := by decide +kernel
theorem d_MD_count_33 : decode M_MD_count.2.1 33 = .ok (.iaload, 1) := by decide +kernel
theorem d_MD_count_34 : decode M_MD_count.2.1 34 = .ok (.istore 4, 2) := by decide +kernel
theorem d_MD_count_36 : decode M_MD_count.2.1 36 = .ok (.iload_n 3, 1) := by decide +kernel
theorem d_MD_count_37 : decode M_MD_count.2.1 37 = .ok (.ifCond .eq 24, 3) := by decide +kernel
theorem d_MD_count_40 : decode M_MD_count.2.1 40 = .ok (.aload_n 0, 1) := by decide +kernel
theorem d_MD_count_41 : decode M_MD_count.2.1 41 = .ok (.aload_n 0, 1) := by decide +kernel
theorem d_MD_count_42 : decode M_MD_count.2.1 42 = .ok (.getfield 43, 3) := by decide +kernel
theorem d_MD_count_45 : decode M_MD_count.2.1 45 = .ok (.iload_n 3, 1) := by decide +kernel
theorem d_MD_count_46 : decode M_MD_count.2.1 46 = .ok (.iconst 1, 1) := by decide +kernel
theorem d_MD_count_47 : decode M_MD_count.2.1 47 = .ok (.isub, 1) := by decide +kernel
theorem d_MD_count_48 : decode M_MD_count.2.1 48 = .ok (.iaload, 1) := by decide +kernel
theorem d_MD_count_49 : decode M_MD_count.2.1 49 = .ok (.invokevirtual 108, 3) := by decide +kernel
theorem d_MD_count_52 : decode M_MD_count.2.1 52 = .ok (.aload_n 0, 1) := by decide +kernel
theorem d_MD_count_53 : decode M_MD_count.2.1 53 = .ok (.iload 4, 2) := by decide +kernel
theorem d_MD_count_55 : decode M_MD_count.2.1 55 = .ok (.invokevirtual 108, 3) := by decide +kernel
theorem d_MD_count_58 : decode M_MD_count.2.1 58 = .ok (.if_icmp .eq 7, 3) := by decide +kernel
theorem d_MD_count_61 : decode M_MD_count.2.1 61 = .ok (.iconst 1, 1) := by decide +kernel
theorem d_MD_count_62 : decode M_MD_count.2.1 62 = .ok (.goto 4, 3) := by decide +kernel
theorem d_MD_count_65 : decode M_MD_count.2.1 65 = .ok (.iconst 0, 1) := by decide +kernel
theorem d_MD_count_66 : decode M_MD_count.2.1 66 = .ok (.istore 5, 2) := by decide +kernel
theorem d_MD_count_68 : decode M_MD_count.2.1 68 = .ok (.iload_n 2, 1) := by decide +kernel
theorem d_MD_count_69 : decode M_MD_count.2.1 69 = .ok (.iload_n 1, 1) := by decide +kernel
theorem d_MD_count_70 : decode M_MD_count.2.1 70 = .ok (.ifCond .eq 27, 3) := by decide +kernel
theorem d_MD_count_73 : decode M_MD_count.2.1 73 = .ok (.iload_n 1, 1) := by decide +kernel
theorem d_MD_count_74 : decode M_MD_count.2.1 74 = .ok (.iconst 3, 1) := by decide +kernel
theorem d_MD_count_75 : decode M_MD_count.2.1 75 = .ok (.if_icmp .ne 11, 3) := by decide +kernel
theorem d_MD_count_78 : decode M_MD_count.2.1 78 = .ok (.iload 5, 2) := by decide +kernel
theorem d_MD_count_80 : decode M_MD_count.2.1 80 = .ok (.ifCond .eq 21, 3) := by decide +kernel
theorem d_MD_count_83 : decode M_MD_count.2.1 83 = .ok (.goto 14, 3) := by decide +kernel
theorem d_MD_count_86 : decode M_MD_count.2.1 86 = .ok (.aload_n 0, 1) := by decide +kernel
theorem d_MD_count_87 : decode M_MD_count.2.1 87 = .ok (.getfield 49, 3) := by decide +kernel
theorem d_MD_count_90 : decode M_MD_count.2.1 90 = .ok (.iload 4, 2) := by decide +kernel
theorem d_MD_count_92 : decode M_MD_count.2.1 92 = .ok (.iaload, 1) := by decide +kernel
theorem d_MD_count_93 : decode M_MD_count.2.1 93 = .ok (.iload_n 1, 1) := by decide +kernel
theorem d_MD_count_94 : decode M_MD_count.2.1 94 = .ok (.if_icmp .ne 7, 3) := by decide +kernel
theorem d_MD_count_97 : decode M_MD_count.2.1 97 = .ok (.iconst 1, 1) := by decide +kernel
theorem d_MD_count_98 : decode M_MD_count.2.1 98 = .ok (.goto 4, 3) := by decide +kernel
theorem d_MD_count_101 : decode M_MD_count.2.1 101 = .ok (.iconst 0, 1) := by decide +kernel
theorem d_MD_count_102 : decode M_MD_count.2.1 102 = .ok (.iadd, 1) := by decide +kernel
theorem d_MD_count_103 : decode M_MD_count.2.1 103 = .ok (.istore_n 2, 1) := by decide +kernel
theorem d_MD_count_104 : decode M_MD_count.2.1 104 = .ok (.iinc 3 1, 3) := by decide +kernel
theorem d_MD_count_107 : decode M_MD_count.2.1 107 = .ok (.goto (-87), 3) := by decide +kernel
theorem d_MD_count_110 : decode M_MD_count.2.1 110 = .ok (.iload_n 2, 1) := by decide +kernel
theorem d_MD_count_111 : decode M_MD_count.2.1 111 = .ok (.ireturn, 1) := by decide +kernel
theorem d_MD_ordered_0 : decode M_MD_ordered.2.1 0 = .ok (.iload_n 1, 1) := by decide +kernel
theorem d_MD_ordered_1 : decode M_MD_ordered.2.1 1 = .ok (.iconst 0, 1) := by decide +kernel
theorem d_MD_ordered_2 : decode M_MD_ordered.2.1 2 = .ok (.aload_n 0, 1) := by decide +kernel
theorem d_MD_ordered_3 : decode M_MD_ordered.2.1 3 = .ok (.getfield 97, 3) := by decide +kernel
theorem d_MD_ordered_6 : decode M_MD_ordered.2.1 6 = .ok (.iconst 1, 1) := by decide +kernel
theorem d_MD_ordered_7 : decode M_MD_ordered.2.1 7 = .ok (.isub, 1) := by decide +kernel
theorem d_MD_ordered_8 : decode M_MD_ordered.2.1 8 = .ok (.invokestatic 93, 3) := by decide +kernel
theorem d_MD_ordered_11 : decode M_MD_ordered.2.1 11 = .ok (.ifCond .ne 6, 3) := by decide +kernel
theorem d_MD_ordered_14 : decode M_MD_ordered.2.1 14 = .ok (.bipush (-2), 2) := by decide +kernel
theorem d_MD_ordered_16 : decode M_MD_ordered.2.1 16 = .ok (.ireturn, 1) := by decide +kernel
theorem d_MD_ordered_17 : decode M_MD_ordered.2.1 17 = .ok (.aload_n 0, 1) := by decide +kernel
theorem d_MD_ordered_18 : decode M_MD_ordered.2.1 18 = .ok (.invokevirtual 181, 3) := by decide +kernel
theorem d_MD_ordered_21 : decode M_MD_ordered.2.1 21 = .ok (.aload_n 0, 1) := by decide +kernel
theorem d_MD_ordered_22 : decode M_MD_ordered.2.1 22 = .ok (.getfield 43, 3) := by decide +kernel
theorem d_MD_ordered_25 : decode M_MD_ordered.2.1 25 = .ok (.iload_n 1, 1) := by decide +kernel
theorem d_MD_ordered_26 : decode M_MD_ordered.2.1 26 = .ok (.iaload, 1) := by decide +kernel
theorem d_MD_ordered_27 : decode M_MD_ordered.2.1 27 = .ok (.ireturn, 1) := by decide +kernel
theorem d_MD_sign_0 : decode M_MD_sign.2.1 0 = .ok (.iload_n 1, 1) := by decide +kernel
theorem d_MD_sign_1 : decode M_MD_sign.2.1 1 = .ok (.iconst 0, 1) := by decide +kernel
theorem d_MD_sign_2 : decode M_MD_sign.2.1 2 = .ok (.aload_n 0, 1) := by decide +kernel
theorem d_MD_sign_3 : decode M_MD_sign.2.1 3 = .ok (.getfield 97, 3) := by decide +kernel
theorem d_MD_sign_6 : decode M_MD_sign.2.1 6 = .ok (.iconst 1, 1) := by decide +kernel
theorem d_MD_sign_7 : decode M_MD_sign.2.1 7 = .ok (.isub, 1) := by decide +kernel
theorem d_MD_sign_8 : decode M_MD_sign.2.1 8 = .ok (.invokestatic 93, 3) := by decide +kernel
theorem d_MD_sign_11 : decode M_MD_sign.2.1 11 = .ok (.ifCond .ne 6, 3) := by decide +kernel
theorem d_MD_sign_14 : decode M_MD_sign.2.1 14 = .ok (.bipush (-2), 2) := by decide +kernel
theorem d_MD_sign_16 : decode M_MD_sign.2.1 16 = .ok (.ireturn, 1) := by decide +kernel
theorem d_MD_sign_17 : decode M_MD_sign.2.1 17 = .ok (.iload_n 2, 1) := by decide +kernel
theorem d_MD_sign_18 : decode M_MD_sign.2.1 18 = .ok (.iconst 0, 1) := by decide +kernel
theorem d_MD_sign_19 : decode M_MD_sign.2.1 19 = .ok (.iconst 5, 1) := by decide +kernel
theorem d_MD_sign_20 : decode M_MD_sign.2.1 20 = .ok (.invokestatic 93, 3) := by decide +kernel
theorem d_MD_sign_23 : decode M_MD_sign.2.1 23 = .ok (.ifCond .ne 6, 3) := by decide +kernel
theorem d_MD_sign_26 : decode M_MD_sign.2.1 26 = .ok (.bipush (-3), 2) := by decide +kernel
theorem d_MD_sign_28 : decode M_MD_sign.2.1 28 = .ok (.ireturn, 1) := by decide +kernel
theorem d_MD_sign_29 : decode M_MD_sign.2.1 29 = .ok (.aload_n 0, 1) := by decide +kernel
theorem d_MD_sign_30 : decode M_MD_sign.2.1 30 = .ok (.invokevirtual 181, 3) := by decide +kernel
theorem d_MD_sign_33 : decode M_MD_sign.2.1 33 = .ok (.iload_n 2, 1) := by decide +kernel
theorem d_MD_sign_34 : decode M_MD_sign.2.1 34 = .ok (.tableswitch 96 0 4 #[34, 41, 56, 71, 90], 34) := by decide +kernel
theorem d_MD_sign_68 : decode M_MD_sign.2.1 68 = .ok (.aload_n 0, 1) := by decide +kernel
theorem d_MD_sign_69 : decode M_MD_sign.2.1 69 = .ok (.getfield 49, 3) := by decide +kernel
theorem d_MD_sign_72 : decode M_MD_sign.2.1 72 = .ok (.iload_n 1, 1) := by decide +kernel
theorem d_MD_sign_73 : decode M_MD_sign.2.1 73 = .ok (.iaload, 1) := by decide +kernel
theorem d_MD_sign_74 : decode M_MD_sign.2.1 74 = .ok (.ireturn, 1) := by decide +kernel
theorem d_MD_sign_75 : decode M_MD_sign.2.1 75 = .ok (.aload_n 0, 1) := by decide +kernel
theorem d_MD_sign_76 : decode M_MD_sign.2.1 76 = .ok (.getfield 46, 3) := by decide +kernel
theorem d_MD_sign_79 : decode M_MD_sign.2.1 79 = .ok (.iload_n 1, 1) := by decide +kernel
theorem d_MD_sign_80 : decode M_MD_sign.2.1 80 = .ok (.iaload, 1) := by decide +kernel
theorem d_MD_sign_81 : decode M_MD_sign.2.1 81 = .ok (.ifCond .lt 7, 3) := by decide +kernel
theorem d_MD_sign_84 : decode M_MD_sign.2.1 84 = .ok (.iconst 1, 1) := by decide +kernel
theorem d_MD_sign_85 : decode M_MD_sign.2.1 85 = .ok (.goto 4, 3) := by decide +kernel
theorem d_MD_sign_88 : decode M_MD_sign.2.1 88 = .ok (.iconst 0, 1) := by decide +kernel
theorem d_MD_sign_89 : decode M_MD_sign.2.1 89 = .ok (.ireturn, 1) := by decide +kernel
theorem d_MD_sign_90 : decode M_MD_sign.2.1 90 = .ok (.aload_n 0, 1) := by decide +kernel
theorem d_MD_sign_91 : decode M_MD_sign.2.1 91 = .ok (.getfield 52, 3) := by decide +kernel
theorem d_MD_sign_94 : decode M_MD_sign.2.1 94 = .ok (.iload_n 1, 1) := by decide +kernel
theorem d_MD_sign_95 : decode M_MD_sign.2.1 95 = .ok (.baload, 1) := by decide +kernel
theorem d_MD_sign_96 : decode M_MD_sign.2.1 96 = .ok (.ifCond .eq 7, 3) := by decide +kernel
theorem d_MD_sign_99 : decode M_MD_sign.2.1 99 = .ok (.iconst 1, 1) := by decide +kernel
theorem d_MD_sign_100 : decode M_MD_sign.2.1 100 = .ok (.goto 4, 3) := by decide +kernel
theorem d_MD_sign_103 : decode M_MD_sign.2.1 103 = .ok (.iconst 0, 1) := by decide +kernel
theorem d_MD_sign_104 : decode M_MD_sign.2.1 104 = .ok (.ireturn, 1) := by decide +kernel
theorem d_MD_sign_105 : decode M_MD_sign.2.1 105 = .ok (.aload_n 0, 1) := by decide +kernel
theorem d_MD_sign_106 : decode M_MD_sign.2.1 106 = .ok (.getfield 49, 3) := by decide +kernel
theorem d_MD_sign_109 : decode M_MD_sign.2.1 109 = .ok (.iload_n 1, 1) := by decide +kernel
theorem d_MD_sign_110 : decode M_MD_sign.2.1 110 = .ok (.iaload, 1) := by decide +kernel
theorem d_MD_sign_111 : decode M_MD_sign.2.1 111 = .ok (.ifCond .ne 7, 3) := by decide +kernel
theorem d_MD_sign_114 : decode M_MD_sign.2.1 114 = .ok (.iconst 0, 1) := by decide +kernel
theorem d_MD_sign_115 : decode M_MD_sign.2.1 115 = .ok (.goto 8, 3) := by decide +kernel
theorem d_MD_sign_118 : decode M_MD_sign.2.1 118 = .ok (.aload_n 0, 1) := by decide +kernel
theorem d_MD_sign_119 : decode M_MD_sign.2.1 119 = .ok (.iload_n 1, 1) := by decide +kernel
theorem d_MD_sign_120 : decode M_MD_sign.2.1 120 = .ok (.invokevirtual 162, 3) := by decide +kernel
theorem d_MD_sign_123 : decode M_MD_sign.2.1 123 = .ok (.ireturn, 1) := by decide +kernel
theorem d_MD_sign_124 : decode M_MD_sign.2.1 124 = .ok (.aload_n 0, 1) := by decide +kernel
theorem d_MD_sign_125 : decode M_MD_sign.2.1 125 = .ok (.iload_n 1, 1) := by decide +kernel
theorem d_MD_sign_126 : decode M_MD_sign.2.1 126 = .ok (.invokevirtual 184, 3) := by decide +kernel
theorem d_MD_sign_129 : decode M_MD_sign.2.1 129 = .ok (.ireturn, 1) := by decide +kernel
theorem d_MD_sign_130 : decode M_MD_sign.2.1 130 = .ok (.aload_n 0, 1) := by decide +kernel
theorem d_MD_sign_131 : decode M_MD_sign.2.1 131 = .ok (.iload_n 1, 1) := by decide +kernel
theorem d_MD_sign_132 : decode M_MD_sign.2.1 132 = .ok (.invokevirtual 153, 3) := by decide +kernel
theorem d_MD_sign_135 : decode M_MD_sign.2.1 135 = .ok (.bipush 100, 2) := by decide +kernel
theorem d_MD_sign_137 : decode M_MD_sign.2.1 137 = .ok (.iadd, 1) := by decide +kernel
theorem d_MD_sign_138 : decode M_MD_sign.2.1 138 = .ok (.ireturn, 1) := by decide +kernel
theorem d_MD_columnOf_0 : decode M_MD_columnOf.2.1 0 = .ok (.aload_n 0, 1) := by decide +kernel
theorem d_MD_columnOf_1 : decode M_MD_columnOf.2.1 1 = .ok (.getfield 49, 3) := by decide +kernel
theorem d_MD_columnOf_4 : decode M_MD_columnOf.2.1 4 = .ok (.iload_n 1, 1) := by decide +kernel
theorem d_MD_columnOf_5 : decode M_MD_columnOf.2.1 5 = .ok (.iaload, 1) := by decide +kernel
theorem d_MD_columnOf_6 : decode M_MD_columnOf.2.1 6 = .ok (.ifCond .ne 5, 3) := by decide +kernel
theorem d_MD_columnOf_9 : decode M_MD_columnOf.2.1 9 = .ok (.iconst (-1), 1) := by decide +kernel
theorem d_MD_columnOf_10 : decode M_MD_columnOf.2.1 10 = .ok (.ireturn, 1) := by decide +kernel
theorem d_MD_columnOf_11 : decode M_MD_columnOf.2.1 11 = .ok (.aload_n 0, 1) := by decide +kernel
theorem d_MD_columnOf_12 : decode M_MD_columnOf.2.1 12 = .ok (.aload_n 0, 1) := by decide +kernel
theorem d_MD_columnOf_13 : decode M_MD_columnOf.2.1 13 = .ok (.getfield 16, 3) := by decide +kernel
theorem d_MD_columnOf_16 : decode M_MD_columnOf.2.1 16 = .ok (.iload_n 1, 1) := by decide +kernel
theorem d_MD_columnOf_17 : decode M_MD_columnOf.2.1 17 = .ok (.iaload, 1) := by decide +kernel
theorem d_MD_columnOf_18 : decode M_MD_columnOf.2.1 18 = .ok (.aload_n 0, 1) := by decide +kernel
theorem d_MD_columnOf_19 : decode M_MD_columnOf.2.1 19 = .ok (.getfield 19, 3) := by decide +kernel
theorem d_MD_columnOf_22 : decode M_MD_columnOf.2.1 22 = .ok (.iload_n 1, 1) := by decide +kernel
theorem d_MD_columnOf_23 : decode M_MD_columnOf.2.1 23 = .ok (.iaload, 1) := by decide +kernel
theorem d_MD_columnOf_24 : decode M_MD_columnOf.2.1 24 = .ok (.invokevirtual 187, 3) := by decide +kernel
theorem d_MD_columnOf_27 : decode M_MD_columnOf.2.1 27 = .ok (.iconst 0, 1) := by decide +kernel
theorem d_MD_columnOf_28 : decode M_MD_columnOf.2.1 28 = .ok (.istore_n 2, 1) := by decide +kernel
theorem d_MD_columnOf_29 : decode M_MD_columnOf.2.1 29 = .ok (.aload_n 0, 1) := by decide +kernel
theorem d_MD_columnOf_30 : decode M_MD_columnOf.2.1 30 = .ok (.getfield 78, 3) := by decide +kernel
theorem d_MD_columnOf_33 : decode M_MD_columnOf.2.1 33 = .ok (.iload_n 2, 1) := by decide +kernel
theorem d_MD_columnOf_34 : decode M_MD_columnOf.2.1 34 = .ok (.iaload, 1) := by decide +kernel
theorem d_MD_columnOf_35 : decode M_MD_columnOf.2.1 35 = .ok (.iload_n 1, 1) := by decide +kernel
theorem d_MD_columnOf_36 : decode M_MD_columnOf.2.1 36 = .ok (.if_icmp .eq 9, 3) := by decide +kernel
theorem d_MD_columnOf_39 : decode M_MD_columnOf.2.1 39 = .ok (.iinc 2 1, 3) := by decide +kernel
theorem d_MD_columnOf_42 : decode M_MD_columnOf.2.1 42 = .ok (.goto (-13), 3) := by decide +kernel
theorem d_MD_columnOf_45 : decode M_MD_columnOf.2.1 45 = .ok (.aload_n 0, 1) := by decide +kernel
theorem d_MD_columnOf_46 : decode M_MD_columnOf.2.1 46 = .ok (.getfield 84, 3) := by decide +kernel
theorem d_MD_columnOf_49 : decode M_MD_columnOf.2.1 49 = .ok (.iload_n 2, 1) := by decide +kernel
theorem d_MD_columnOf_50 : decode M_MD_columnOf.2.1 50 = .ok (.iaload, 1) := by decide +kernel
theorem d_MD_columnOf_51 : decode M_MD_columnOf.2.1 51 = .ok (.ireturn, 1) := by decide +kernel
theorem d_MD_extent_0 : decode M_MD_extent.2.1 0 = .ok (.iconst 0, 1) := by decide +kernel
theorem d_MD_extent_1 : decode M_MD_extent.2.1 1 = .ok (.istore_n 3, 1) := by decide +kernel
theorem d_MD_extent_2 : decode M_MD_extent.2.1 2 = .ok (.iconst 0, 1) := by decide +kernel
theorem d_MD_extent_3 : decode M_MD_extent.2.1 3 = .ok (.istore 4, 2) := by decide +kernel
theorem d_MD_extent_5 : decode M_MD_extent.2.1 5 = .ok (.iload 4, 2) := by decide +kernel
theorem d_MD_extent_7 : decode M_MD_extent.2.1 7 = .ok (.aload_n 0, 1) := by decide +kernel
theorem d_MD_extent_8 : decode M_MD_extent.2.1 8 = .ok (.getfield 97, 3) := by decide +kernel
theorem d_MD_extent_11 : decode M_MD_extent.2.1 11 = .ok (.if_icmp .ge 41, 3) := by decide +kernel
theorem d_MD_extent_14 : decode M_MD_extent.2.1 14 = .ok (.iload_n 3, 1) := by decide +kernel
theorem d_MD_extent_15 : decode M_MD_extent.2.1 15 = .ok (.ifCond .ne 25, 3) := by decide +kernel
theorem d_MD_extent_18 : decode M_MD_extent.2.1 18 = .ok (.aload_n 0, 1) := by decide +kernel
theorem d_MD_extent_19 : decode M_MD_extent.2.1 19 = .ok (.getfield 16, 3) := by decide +kernel
theorem d_MD_extent_22 : decode M_MD_extent.2.1 22 = .ok (.iload 4, 2) := by decide +kernel
theorem d_MD_extent_24 : decode M_MD_extent.2.1 24 = .ok (.iaload, 1) := by decide +kernel
theorem d_MD_extent_25 : decode M_MD_extent.2.1 25 = .ok (.iload_n 1, 1) := by decide +kernel
theorem d_MD_extent_26 : decode M_MD_extent.2.1 26 = .ok (.if_icmp .ne 18, 3) := by decide +kernel
theorem d_MD_extent_29 : decode M_MD_extent.2.1 29 = .ok (.aload_n 0, 1) := by decide +kernel
theorem d_MD_extent_30 : decode M_MD_extent.2.1 30 = .ok (.getfield 19, 3) := by decide +kernel
theorem d_MD_extent_33 : decode M_MD_extent.2.1 33 = .ok (.iload 4, 2) := by decide +kernel
theorem d_MD_extent_35 : decode M_MD_extent.2.1 35 = .ok (.iaload, 1) := by decide +kernel
theorem d_MD_extent_36 : decode M_MD_extent.2.1 36 = .ok (.iload_n 2, 1) := by decide +kernel
theorem d_MD_extent_37 : decode M_MD_extent.2.1 37 = .ok (.if_icmp .ne 7, 3) := by decide +kernel
theorem d_MD_extent_40 : decode M_MD_extent.2.1 40 = .ok (.iconst 1, 1) := by decide +kernel
theorem d_MD_extent_41 : decode M_MD_extent.2.1 41 = .ok (.goto 4, 3) := by decide +kernel
theorem d_MD_extent_44 : decode M_MD_extent.2.1 44 = .ok (.iconst 0, 1) := by decide +kernel
theorem d_MD_extent_45 : decode M_MD_extent.2.1 45 = .ok (.istore_n 3, 1) := by decide +kernel
theorem d_MD_extent_46 : decode M_MD_extent.2.1 46 = .ok (.iinc 4 1, 3) := by decide +kernel
theorem d_MD_extent_49 : decode M_MD_extent.2.1 49 = .ok (.goto (-44), 3) := by decide +kernel
theorem d_MD_extent_52 : decode M_MD_extent.2.1 52 = .ok (.iload_n 3, 1) := by decide +kernel
theorem d_MD_extent_53 : decode M_MD_extent.2.1 53 = .ok (.ifCond .ne 6, 3) := by decide +kernel
theorem d_MD_extent_56 : decode M_MD_extent.2.1 56 = .ok (.bipush (-2), 2) := by decide +kernel
theorem d_MD_extent_58 : decode M_MD_extent.2.1 58 = .ok (.ireturn, 1) := by decide +kernel
theorem d_MD_extent_59 : decode M_MD_extent.2.1 59 = .ok (.aload_n 0, 1) := by decide +kernel
theorem d_MD_extent_60 : decode M_MD_extent.2.1 60 = .ok (.invokevirtual 181, 3) := by decide +kernel
theorem d_MD_extent_63 : decode M_MD_extent.2.1 63 = .ok (.aload_n 0, 1) := by decide +kernel
theorem d_MD_extent_64 : decode M_MD_extent.2.1 64 = .ok (.iload_n 1, 1) := by decide +kernel
theorem d_MD_extent_65 : decode M_MD_extent.2.1 65 = .ok (.iload_n 2, 1) := by decide +kernel
theorem d_MD_extent_66 : decode M_MD_extent.2.1 66 = .ok (.invokevirtual 187, 3) := by decide +kernel
theorem d_MD_extent_69 : decode M_MD_extent.2.1 69 = .ok (.aload_n 0, 1) := by decide +kernel
theorem d_MD_extent_70 : decode M_MD_extent.2.1 70 = .ok (.aload_n 0, 1) := by decide +kernel
theorem d_MD_extent_71 : decode M_MD_extent.2.1 71 = .ok (.getfield 84, 3) := by decide +kernel
theorem d_MD_extent_74 : decode M_MD_extent.2.1 74 = .ok (.aload_n 0, 1) := by decide +kernel
theorem d_MD_extent_75 : decode M_MD_extent.2.1 75 = .ok (.getfield 159, 3) := by decide +kernel
theorem d_MD_extent_78 : decode M_MD_extent.2.1 78 = .ok (.invokevirtual 174, 3) := by decide +kernel
theorem d_MD_extent_81 : decode M_MD_extent.2.1 81 = .ok (.ireturn, 1) := by decide +kernel
theorem d_MD_dot_0 : decode M_MD_dot.2.1 0 = .ok (.iload_n 1, 1) := by decide +kernel
theorem d_MD_dot_1 : decode M_MD_dot.2.1 1 = .ok (.iconst 0, 1) := by decide +kernel
theorem d_MD_dot_2 : decode M_MD_dot.2.1 2 = .ok (.aload_n 0, 1) := by decide +kernel
theorem d_MD_dot_3 : decode M_MD_dot.2.1 3 = .ok (.getfield 97, 3) := by decide +kernel
theorem d_MD_dot_6 : decode M_MD_dot.2.1 6 = .ok (.iconst 1, 1) := by decide +kernel
theorem d_MD_dot_7 : decode M_MD_dot.2.1 7 = .ok (.isub, 1) := by decide +kernel
theorem d_MD_dot_8 : decode M_MD_dot.2.1 8 = .ok (.invokestatic 93, 3) := by decide +kernel
theorem d_MD_dot_11 : decode M_MD_dot.2.1 11 = .ok (.ifCond .ne 6, 3) := by decide +kernel
theorem d_MD_dot_14 : decode M_MD_dot.2.1 14 = .ok (.bipush (-2), 2) := by decide +kernel
theorem d_MD_dot_16 : decode M_MD_dot.2.1 16 = .ok (.ireturn, 1) := by decide +kernel
theorem d_MD_dot_17 : decode M_MD_dot.2.1 17 = .ok (.aload_n 0, 1) := by decide +kernel
theorem d_MD_dot_18 : decode M_MD_dot.2.1 18 = .ok (.getfield 31, 3) := by decide +kernel
theorem d_MD_dot_21 : decode M_MD_dot.2.1 21 = .ok (.iload_n 1, 1) := by decide +kernel
theorem d_MD_dot_22 : decode M_MD_dot.2.1 22 = .ok (.iaload, 1) := by decide +kernel
theorem d_MD_dot_23 : decode M_MD_dot.2.1 23 = .ok (.ifCond .ne 5, 3) := by decide +kernel
theorem d_MD_dot_26 : decode M_MD_dot.2.1 26 = .ok (.iconst (-1), 1) := by decide +kernel
theorem d_MD_dot_27 : decode M_MD_dot.2.1 27 = .ok (.ireturn, 1) := by decide +kernel
theorem d_MD_dot_28 : decode M_MD_dot.2.1 28 = .ok (.iconst 0, 1) := by decide +kernel
theorem d_MD_dot_29 : decode M_MD_dot.2.1 29 = .ok (.istore_n 2, 1) := by decide +kernel
theorem d_MD_dot_30 : decode M_MD_dot.2.1 30 = .ok (.iconst 0, 1) := by decide +kernel
theorem d_MD_dot_31 : decode M_MD_dot.2.1 31 = .ok (.istore_n 3, 1) := by decide +kernel
theorem d_MD_dot_32 : decode M_MD_dot.2.1 32 = .ok (.iload_n 3, 1) := by decide +kernel
theorem d_MD_dot_33 : decode M_MD_dot.2.1 33 = .ok (.aload_n 0, 1) := by decide +kernel
theorem d_MD_dot_34 : decode M_MD_dot.2.1 34 = .ok (.getfield 97, 3) := by decide +kernel
theorem d_MD_dot_37 : decode M_MD_dot.2.1 37 = .ok (.if_icmp .ge 160, 3) := by decide +kernel
theorem d_MD_dot_40 : decode M_MD_dot.2.1 40 = .ok (.aload_n 0, 1) := by decide +kernel
theorem d_MD_dot_41 : decode M_MD_dot.2.1 41 = .ok (.getfield 31, 3) := by decide +kernel
theorem d_MD_dot_44 : decode M_MD_dot.2.1 44 = .ok (.iload_n 3, 1) := by decide +kernel
theorem d_MD_dot_45 : decode M_MD_dot.2.1 45 = .ok (.iaload, 1) := by decide +kernel
theorem d_MD_dot_46 : decode M_MD_dot.2.1 46 = .ok (.ifCond .le 20, 3) := by decide +kernel
theorem d_MD_dot_49 : decode M_MD_dot.2.1 49 = .ok (.aload_n 0, 1) := by decide +kernel
theorem d_MD_dot_50 : decode M_MD_dot.2.1 50 = .ok (.iload_n 3, 1) := by decide +kernel
theorem d_MD_dot_51 : decode M_MD_dot.2.1 51 = .ok (.invokevirtual 108, 3) := by decide +kernel
theorem d_MD_dot_54 : decode M_MD_dot.2.1 54 = .ok (.aload_n 0, 1) := by decide +kernel
theorem d_MD_dot_55 : decode M_MD_dot.2.1 55 = .ok (.iload_n 1, 1) := by decide +kernel
theorem d_MD_dot_56 : decode M_MD_dot.2.1 56 = .ok (.invokevirtual 108, 3) := by decide +kernel
theorem d_MD_dot_59 : decode M_MD_dot.2.1 59 = .ok (.if_icmp .ne 7, 3) := by decide +kernel
theorem d_MD_dot_62 : decode M_MD_dot.2.1 62 = .ok (.iconst 1, 1) := by decide +kernel
theorem d_MD_dot_63 : decode M_MD_dot.2.1 63 = .ok (.goto 4, 3) := by decide +kernel
theorem d_MD_dot_66 : decode M_MD_dot.2.1 66 = .ok (.iconst 0, 1) := by decide +kernel
theorem d_MD_dot_67 : decode M_MD_dot.2.1 67 = .ok (.istore 4, 2) := by decide +kernel
theorem d_MD_dot_69 : decode M_MD_dot.2.1 69 = .ok (.iconst 0, 1) := by decide +kernel
theorem d_MD_dot_70 : decode M_MD_dot.2.1 70 = .ok (.istore 5, 2) := by decide +kernel
theorem d_MD_dot_72 : decode M_MD_dot.2.1 72 = .ok (.iconst 0, 1) := by decide +kernel
theorem d_MD_dot_73 : decode M_MD_dot.2.1 73 = .ok (.istore 6, 2) := by decide +kernel
theorem d_MD_dot_75 : decode M_MD_dot.2.1 75 = .ok (.iload 6, 2) := by decide +kernel
theorem d_MD_dot_77 : decode M_MD_dot.2.1 77 = .ok (.iload_n 2, 1) := by decide +kernel
theorem d_MD_dot_78 : decode M_MD_dot.2.1 78 = .ok (.if_icmp .ge 61, 3) := by decide +kernel
theorem d_MD_dot_81 : decode M_MD_dot.2.1 81 = .ok (.iload 4, 2) := by decide +kernel
theorem d_MD_dot_83 : decode M_MD_dot.2.1 83 = .ok (.ifCond .eq 56, 3) := by decide +kernel
theorem d_MD_dot_86 : decode M_MD_dot.2.1 86 = .ok (.aload_n 0, 1) := by decide +kernel
theorem d_MD_dot_87 : decode M_MD_dot.2.1 87 = .ok (.getfield 87, 3) := by decide +kernel
theorem d_MD_dot_90 : decode M_MD_dot.2.1 90 = .ok (.iload 6, 2) := by decide +kernel
theorem d_MD_dot_92 : decode M_MD_dot.2.1 92 = .ok (.iaload, 1) := by decide +kernel
theorem d_MD_dot_93 : decode M_MD_dot.2.1 93 = .ok (.aload_n 0, 1) := by decide +kernel
theorem d_MD_dot_94 : decode M_MD_dot.2.1 94 = .ok (.iload_n 3, 1) := by decide +kernel
theorem d_MD_dot_95 : decode M_MD_dot.2.1 95 = .ok (.invokevirtual 153, 3) := by decide +kernel
theorem d_MD_dot_98 : decode M_MD_dot.2.1 98 = .ok (.if_icmp .eq 7, 3) := by decide +kernel
theorem d_MD_dot_101 : decode M_MD_dot.2.1 101 = .ok (.iconst 1, 1) := by decide +kernel
theorem d_MD_dot_102 : decode M_MD_dot.2.1 102 = .ok (.goto 4, 3) := by decide +kernel
theorem d_MD_dot_105 : decode M_MD_dot.2.1 105 = .ok (.iconst 0, 1) := by decide +kernel
theorem d_MD_dot_106 : decode M_MD_dot.2.1 106 = .ok (.istore 4, 2) := by decide +kernel
theorem d_MD_dot_108 : decode M_MD_dot.2.1 108 = .ok (.iload 5, 2) := by decide +kernel
theorem d_MD_dot_110 : decode M_MD_dot.2.1 110 = .ok (.aload_n 0, 1) := by decide +kernel
theorem d_MD_dot_111 : decode M_MD_dot.2.1 111 = .ok (.getfield 87, 3) := by decide +kernel
theorem d_MD_dot_114 : decode M_MD_dot.2.1 114 = .ok (.iload 6, 2) := by decide +kernel
theorem d_MD_dot_116 : decode M_MD_dot.2.1 116 = .ok (.iaload, 1) := by decide +kernel
theorem d_MD_dot_117 : decode M_MD_dot.2.1 117 = .ok (.aload_n 0, 1) := by decide +kernel
theorem d_MD_dot_118 : decode M_MD_dot.2.1 118 = .ok (.iload_n 3, 1) := by decide +kernel
theorem d_MD_dot_119 : decode M_MD_dot.2.1 119 = .ok (.invokevirtual 153, 3) := by decide +kernel
theorem d_MD_dot_122 : decode M_MD_dot.2.1 122 = .ok (.if_icmp .le 7, 3) := by decide +kernel
theorem d_MD_dot_125 : decode M_MD_dot.2.1 125 = .ok (.iconst 1, 1) := by decide +kernel
theorem d_MD_dot_126 : decode M_MD_dot.2.1 126 = .ok (.goto 4, 3) := by decide +kernel
theorem d_MD_dot_129 : decode M_MD_dot.2.1 129 = .ok (.iconst 0, 1) := by decide +kernel
theorem d_MD_dot_130 : decode M_MD_dot.2.1 130 = .ok (.iadd, 1) := by decide +kernel
theorem d_MD_dot_131 : decode M_MD_dot.2.1 131 = .ok (.istore 5, 2) := by decide +kernel
theorem d_MD_dot_133 : decode M_MD_dot.2.1 133 = .ok (.iinc 6 1, 3) := by decide +kernel
theorem d_MD_dot_136 : decode M_MD_dot.2.1 136 = .ok (.goto (-61), 3) := by decide +kernel
theorem d_MD_dot_139 : decode M_MD_dot.2.1 139 = .ok (.iload 4, 2) := by decide +kernel
theorem d_MD_dot_141 : decode M_MD_dot.2.1 141 = .ok (.ifCond .eq 50, 3) := by decide +kernel
theorem d_MD_dot_144 : decode M_MD_dot.2.1 144 = .ok (.iload_n 2, 1) := by decide +kernel
theorem d_MD_dot_145 : decode M_MD_dot.2.1 145 = .ok (.istore 6, 2) := by decide +kernel
theorem d_MD_dot_147 : decode M_MD_dot.2.1 147 = .ok (.iload 6, 2) := by decide +kernel
theorem d_MD_dot_149 : decode M_MD_dot.2.1 149 = .ok (.iload 5, 2) := by decide +kernel
theorem d_MD_dot_151 : decode M_MD_dot.2.1 151 = .ok (.if_icmp .le 25, 3) := by decide +kernel
theorem d_MD_dot_154 : decode M_MD_dot.2.1 154 = .ok (.aload_n 0, 1) := by decide +kernel
theorem d_MD_dot_155 : decode M_MD_dot.2.1 155 = .ok (.getfield 87, 3) := by decide +kernel
theorem d_MD_dot_158 : decode M_MD_dot.2.1 158 = .ok (.iload 6, 2) := by decide +kernel
theorem d_MD_dot_160 : decode M_MD_dot.2.1 160 = .ok (.aload_n 0, 1) := by decide +kernel
theorem d_MD_dot_161 : decode M_MD_dot.2.1 161 = .ok (.getfield 87, 3) := by decide +kernel
theorem d_MD_dot_164 : decode M_MD_dot.2.1 164 = .ok (.iload 6, 2) := by decide +kernel
theorem d_MD_dot_166 : decode M_MD_dot.2.1 166 = .ok (.iconst 1, 1) := by decide +kernel
theorem d_MD_dot_167 : decode M_MD_dot.2.1 167 = .ok (.isub, 1) := by decide +kernel
theorem d_MD_dot_168 : decode M_MD_dot.2.1 168 = .ok (.iaload, 1) := by decide +kernel
theorem d_MD_dot_169 : decode M_MD_dot.2.1 169 = .ok (.iastore, 1) := by decide +kernel
theorem d_MD_dot_170 : decode M_MD_dot.2.1 170 = .ok (.iinc 6 (-1), 3) := by decide +kernel
theorem d_MD_dot_173 : decode M_MD_dot.2.1 173 = .ok (.goto (-26), 3) := by decide +kernel
theorem d_MD_dot_176 : decode M_MD_dot.2.1 176 = .ok (.aload_n 0, 1) := by decide +kernel
theorem d_MD_dot_177 : decode M_MD_dot.2.1 177 = .ok (.getfield 87, 3) := by decide +kernel
theorem d_MD_dot_180 : decode M_MD_dot.2.1 180 = .ok (.iload 5, 2) := by decide +kernel
theorem d_MD_dot_182 : decode M_MD_dot.2.1 182 = .ok (.aload_n 0, 1) := by decide +kernel
theorem d_MD_dot_183 : decode M_MD_dot.2.1 183 = .ok (.iload_n 3, 1) := by decide +kernel
theorem d_MD_dot_184 : decode M_MD_dot.2.1 184 = .ok (.invokevirtual 153, 3) := by decide +kernel
theorem d_MD_dot_187 : decode M_MD_dot.2.1 187 = .ok (.iastore, 1) := by decide +kernel
theorem d_MD_dot_188 : decode M_MD_dot.2.1 188 = .ok (.iinc 2 1, 3) := by decide +kernel
theorem d_MD_dot_191 : decode M_MD_dot.2.1 191 = .ok (.iinc 3 1, 3) := by decide +kernel
theorem d_MD_dot_194 : decode M_MD_dot.2.1 194 = .ok (.goto (-162), 3) := by decide +kernel
theorem d_MD_dot_197 : decode M_MD_dot.2.1 197 = .ok (.iload_n 2, 1) := by decide +kernel
theorem d_MD_dot_198 : decode M_MD_dot.2.1 198 = .ok (.iconst 1, 1) := by decide +kernel
theorem d_MD_dot_199 : decode M_MD_dot.2.1 199 = .ok (.isub, 1) := by decide +kernel
theorem d_MD_dot_200 : decode M_MD_dot.2.1 200 = .ok (.istore_n 3, 1) := by decide +kernel
theorem d_MD_dot_201 : decode M_MD_dot.2.1 201 = .ok (.iload_n 3, 1) := by decide +kernel
theorem d_MD_dot_202 : decode M_MD_dot.2.1 202 = .ok (.ifCond .lt 174, 3) := by decide +kernel
theorem d_MD_dot_205 : decode M_MD_dot.2.1 205 = .ok (.ldc 190, 2) := by decide +kernel
theorem d_MD_dot_207 : decode M_MD_dot.2.1 207 = .ok (.istore 4, 2) := by decide +kernel
theorem d_MD_dot_209 : decode M_MD_dot.2.1 209 = .ok (.iconst 0, 1) := by decide +kernel
theorem d_MD_dot_210 : decode M_MD_dot.2.1 210 = .ok (.istore 5, 2) := by decide +kernel
theorem d_MD_dot_212 : decode M_MD_dot.2.1 212 = .ok (.iload 5, 2) := by decide +kernel
theorem d_MD_dot_214 : decode M_MD_dot.2.1 214 = .ok (.sipush 400, 3) := by decide +kernel
theorem d_MD_dot_217 : decode M_MD_dot.2.1 217 = .ok (.if_icmp .ge 153, 3) := by decide +kernel
theorem d_MD_dot_220 : decode M_MD_dot.2.1 220 = .ok (.iload 5, 2) := by decide +kernel
theorem d_MD_dot_222 : decode M_MD_dot.2.1 222 = .ok (.sipush 200, 3) := by decide +kernel
theorem d_MD_dot_225 : decode M_MD_dot.2.1 225 = .ok (.isub, 1) := by decide +kernel
theorem d_MD_dot_226 : decode M_MD_dot.2.1 226 = .ok (.iconst 2, 1) := by decide +kernel
theorem d_MD_dot_227 : decode M_MD_dot.2.1 227 = .ok (.irem, 1) := by decide +kernel
theorem d_MD_dot_228 : decode M_MD_dot.2.1 228 = .ok (.ifCond .eq 7, 3) := by decide +kernel
theorem d_MD_dot_231 : decode M_MD_dot.2.1 231 = .ok (.iconst 1, 1) := by decide +kernel
theorem d_MD_dot_232 : decode M_MD_dot.2.1 232 = .ok (.goto 4, 3) := by decide +kernel
theorem d_MD_dot_235 : decode M_MD_dot.2.1 235 = .ok (.iconst 0, 1) := by decide +kernel
theorem d_MD_dot_236 : decode M_MD_dot.2.1 236 = .ok (.istore 6, 2) := by decide +kernel
theorem d_MD_dot_238 : decode M_MD_dot.2.1 238 = .ok (.iload 5, 2) := by decide +kernel
theorem d_MD_dot_240 : decode M_MD_dot.2.1 240 = .ok (.sipush 200, 3) := by decide +kernel
theorem d_MD_dot_243 : decode M_MD_dot.2.1 243 = .ok (.isub, 1) := by decide +kernel
theorem d_MD_dot_244 : decode M_MD_dot.2.1 244 = .ok (.aload_n 0, 1) := by decide +kernel
theorem d_MD_dot_245 : decode M_MD_dot.2.1 245 = .ok (.getfield 87, 3) := by decide +kernel
theorem d_MD_dot_248 : decode M_MD_dot.2.1 248 = .ok (.iload_n 3, 1) := by decide +kernel
theorem d_MD_dot_249 : decode M_MD_dot.2.1 249 = .ok (.iaload, 1) := by decide +kernel
theorem d_MD_dot_250 : decode M_MD_dot.2.1 250 = .ok (.isub, 1) := by decide +kernel
theorem d_MD_dot_251 : decode M_MD_dot.2.1 251 = .ok (.istore 7, 2) := by decide +kernel
theorem d_MD_dot_253 : decode M_MD_dot.2.1 253 = .ok (.iload 7, 2) := by decide +kernel
theorem d_MD_dot_255 : decode M_MD_dot.2.1 255 = .ok (.ifCond .ge 9, 3) := by decide +kernel
theorem d_MD_dot_258 : decode M_MD_dot.2.1 258 = .ok (.iload 7, 2) := by decide +kernel
theorem d_MD_dot_260 : decode M_MD_dot.2.1 260 = .ok (.ineg, 1) := by decide +kernel
theorem d_MD_dot_261 : decode M_MD_dot.2.1 261 = .ok (.goto 5, 3) := by decide +kernel
theorem d_MD_dot_264 : decode M_MD_dot.2.1 264 = .ok (.iload 7, 2) := by decide +kernel
theorem d_MD_dot_266 : decode M_MD_dot.2.1 266 = .ok (.istore 8, 2) := by decide +kernel
theorem d_MD_dot_268 : decode M_MD_dot.2.1 268 = .ok (.aload_n 0, 1) := by decide +kernel
theorem d_MD_dot_269 : decode M_MD_dot.2.1 269 = .ok (.getfield 90, 3) := by decide +kernel
theorem d_MD_dot_272 : decode M_MD_dot.2.1 272 = .ok (.sipush 400, 3) := by decide +kernel
theorem d_MD_dot_275 : decode M_MD_dot.2.1 275 = .ok (.iload_n 3, 1) := by decide +kernel
theorem d_MD_dot_276 : decode M_MD_dot.2.1 276 = .ok (.imul, 1) := by decide +kernel
theorem d_MD_dot_277 : decode M_MD_dot.2.1 277 = .ok (.iload 5, 2) := by decide +kernel
theorem d_MD_dot_279 : decode M_MD_dot.2.1 279 = .ok (.iadd, 1) := by decide +kernel
theorem d_MD_dot_280 : decode M_MD_dot.2.1 280 = .ok (.iload 6, 2) := by decide +kernel
theorem d_MD_dot_282 : decode M_MD_dot.2.1 282 = .ok (.ifCond .ne 8, 3) := by decide +kernel
theorem d_MD_dot_285 : decode M_MD_dot.2.1 285 = .ok (.ldc 190, 2) := by decide +kernel
theorem d_MD_dot_287 : decode M_MD_dot.2.1 287 = .ok (.goto 32, 3) := by decide +kernel
theorem d_MD_dot_290 : decode M_MD_dot.2.1 290 = .ok (.iload_n 3, 1) := by decide +kernel
theorem d_MD_dot_291 : decode M_MD_dot.2.1 291 = .ok (.iload_n 2, 1) := by decide +kernel
theorem d_MD_dot_292 : decode M_MD_dot.2.1 292 = .ok (.iconst 1, 1) := by decide +kernel
theorem d_MD_dot_293 : decode M_MD_dot.2.1 293 = .ok (.isub, 1) := by decide +kernel
theorem d_MD_dot_294 : decode M_MD_dot.2.1 294 = .ok (.if_icmp .ne 8, 3) := by decide +kernel
theorem d_MD_dot_297 : decode M_MD_dot.2.1 297 = .ok (.iload 8, 2) := by decide +kernel
theorem d_MD_dot_299 : decode M_MD_dot.2.1 299 = .ok (.goto 20, 3) := by decide +kernel
theorem d_MD_dot_302 : decode M_MD_dot.2.1 302 = .ok (.iload 4, 2) := by decide +kernel
theorem d_MD_dot_304 : decode M_MD_dot.2.1 304 = .ok (.ldc 190, 2) := by decide +kernel
theorem d_MD_dot_306 : decode M_MD_dot.2.1 306 = .ok (.if_icmp .ge 11, 3) := by decide +kernel
theorem d_MD_dot_309 : decode M_MD_dot.2.1 309 = .ok (.iload 8, 2) := by decide +kernel
theorem d_MD_dot_311 : decode M_MD_dot.2.1 311 = .ok (.iload 4, 2) := by decide +kernel
theorem d_MD_dot_313 : decode M_MD_dot.2.1 313 = .ok (.iadd, 1) := by decide +kernel
theorem d_MD_dot_314 : decode M_MD_dot.2.1 314 = .ok (.goto 5, 3) := by decide +kernel
theorem d_MD_dot_317 : decode M_MD_dot.2.1 317 = .ok (.ldc 190, 2) := by decide +kernel
theorem d_MD_dot_319 : decode M_MD_dot.2.1 319 = .ok (.iastore, 1) := by decide +kernel
theorem d_MD_dot_320 : decode M_MD_dot.2.1 320 = .ok (.iload_n 3, 1) := by decide +kernel
theorem d_MD_dot_321 : decode M_MD_dot.2.1 321 = .ok (.iload_n 2, 1) := by decide +kernel
theorem d_MD_dot_322 : decode M_MD_dot.2.1 322 = .ok (.iconst 1, 1) := by decide +kernel
theorem d_MD_dot_323 : decode M_MD_dot.2.1 323 = .ok (.isub, 1) := by decide +kernel
theorem d_MD_dot_324 : decode M_MD_dot.2.1 324 = .ok (.if_icmp .ge 40, 3) := by decide +kernel
theorem d_MD_dot_327 : decode M_MD_dot.2.1 327 = .ok (.aload_n 0, 1) := by decide +kernel
theorem d_MD_dot_328 : decode M_MD_dot.2.1 328 = .ok (.getfield 90, 3) := by decide +kernel
theorem d_MD_dot_331 : decode M_MD_dot.2.1 331 = .ok (.sipush 400, 3) := by decide +kernel
theorem d_MD_dot_334 : decode M_MD_dot.2.1 334 = .ok (.iload_n 3, 1) := by decide +kernel
theorem d_MD_dot_335 : decode M_MD_dot.2.1 335 = .ok (.iconst 1, 1) := by decide +kernel
theorem d_MD_dot_336 : decode M_MD_dot.2.1 336 = .ok (.iadd, 1) := by decide +kernel
theorem d_MD_dot_337 : decode M_MD_dot.2.1 337 = .ok (.imul, 1) := by decide +kernel
theorem d_MD_dot_338 : decode M_MD_dot.2.1 338 = .ok (.iload 5, 2) := by decide +kernel
theorem d_MD_dot_340 : decode M_MD_dot.2.1 340 = .ok (.iadd, 1) := by decide +kernel
theorem d_MD_dot_341 : decode M_MD_dot.2.1 341 = .ok (.iaload, 1) := by decide +kernel
theorem d_MD_dot_342 : decode M_MD_dot.2.1 342 = .ok (.iload 4, 2) := by decide +kernel
theorem d_MD_dot_344 : decode M_MD_dot.2.1 344 = .ok (.if_icmp .ge 20, 3) := by decide +kernel
theorem d_MD_dot_347 : decode M_MD_dot.2.1 347 = .ok (.aload_n 0, 1) := by decide +kernel
theorem d_MD_dot_348 : decode M_MD_dot.2.1 348 = .ok (.getfield 90, 3) := by decide +kernel
theorem d_MD_dot_351 : decode M_MD_dot.2.1 351 = .ok (.sipush 400, 3) := by decide +kernel
theorem d_MD_dot_354 : decode M_MD_dot.2.1 354 = .ok (.iload_n 3, 1) := by decide +kernel
theorem d_MD_dot_355 : decode M_MD_dot.2.1 355 = .ok (.iconst 1, 1) := by decide +kernel
theorem d_MD_dot_356 : decode M_MD_dot.2.1 356 = .ok (.iadd, 1) := by decide +kernel
theorem d_MD_dot_357 : decode M_MD_dot.2.1 357 = .ok (.imul, 1) := by decide +kernel
theorem d_MD_dot_358 : decode M_MD_dot.2.1 358 = .ok (.iload 5, 2) := by decide +kernel
theorem d_MD_dot_360 : decode M_MD_dot.2.1 360 = .ok (.iadd, 1) := by decide +kernel
theorem d_MD_dot_361 : decode M_MD_dot.2.1 361 = .ok (.iaload, 1) := by decide +kernel
theorem d_MD_dot_362 : decode M_MD_dot.2.1 362 = .ok (.istore 4, 2) := by decide +kernel
theorem d_MD_dot_364 : decode M_MD_dot.2.1 364 = .ok (.iinc 5 1, 3) := by decide +kernel
theorem d_MD_dot_367 : decode M_MD_dot.2.1 367 = .ok (.goto (-155), 3) := by decide +kernel
theorem d_MD_dot_370 : decode M_MD_dot.2.1 370 = .ok (.iinc 3 (-1), 3) := by decide +kernel
theorem d_MD_dot_373 : decode M_MD_dot.2.1 373 = .ok (.goto (-172), 3) := by decide +kernel
theorem d_MD_dot_376 : decode M_MD_dot.2.1 376 = .ok (.sipush 400, 3) := by decide +kernel
theorem d_MD_dot_379 : decode M_MD_dot.2.1 379 = .ok (.istore_n 3, 1) := by decide +kernel
theorem d_MD_dot_380 : decode M_MD_dot.2.1 380 = .ok (.iconst 0, 1) := by decide +kernel
theorem d_MD_dot_381 : decode M_MD_dot.2.1 381 = .ok (.istore 4, 2) := by decide +kernel
theorem d_MD_dot_383 : decode M_MD_dot.2.1 383 = .ok (.iload 4, 2) := by decide +kernel
theorem d_MD_dot_385 : decode M_MD_dot.2.1 385 = .ok (.iload_n 2, 1) := by decide +kernel
theorem d_MD_dot_386 : decode M_MD_dot.2.1 386 = .ok (.if_icmp .ge 96, 3) := by decide +kernel
theorem d_MD_dot_389 : decode M_MD_dot.2.1 389 = .ok (.iconst (-1), 1) := by decide +kernel
theorem d_MD_dot_390 : decode M_MD_dot.2.1 390 = .ok (.istore 5, 2) := by decide +kernel
theorem d_MD_dot_392 : decode M_MD_dot.2.1 392 = .ok (.iload_n 3, 1) := by decide +kernel
theorem d_MD_dot_393 : decode M_MD_dot.2.1 393 = .ok (.iconst 1, 1) := by decide +kernel
theorem d_MD_dot_394 : decode M_MD_dot.2.1 394 = .ok (.isub, 1) := by decide +kernel
theorem d_MD_dot_395 : decode M_MD_dot.2.1 395 = .ok (.istore 6, 2) := by decide +kernel
theorem d_MD_dot_397 : decode M_MD_dot.2.1 397 = .ok (.iload 6, 2) := by decide +kernel
theorem d_MD_dot_399 : decode M_MD_dot.2.1 399 = .ok (.ifCond .lt 49, 3) := by decide +kernel
theorem d_MD_dot_402 : decode M_MD_dot.2.1 402 = .ok (.iload 5, 2) := by decide +kernel
theorem d_MD_dot_404 : decode M_MD_dot.2.1 404 = .ok (.ifCond .lt 34, 3) := by decide +kernel
theorem d_MD_dot_407 : decode M_MD_dot.2.1 407 = .ok (.aload_n 0, 1) := by decide +kernel
theorem d_MD_dot_408 : decode M_MD_dot.2.1 408 = .ok (.getfield 90, 3) := by decide +kernel
theorem d_MD_dot_411 : decode M_MD_dot.2.1 411 = .ok (.sipush 400, 3) := by decide +kernel
theorem d_MD_dot_414 : decode M_MD_dot.2.1 414 = .ok (.iload 4, 2) := by decide +kernel
theorem d_MD_dot_416 : decode M_MD_dot.2.1 416 = .ok (.imul, 1) := by decide +kernel
theorem d_MD_dot_417 : decode M_MD_dot.2.1 417 = .ok (.iload 6, 2) := by decide +kernel
theorem d_MD_dot_419 : decode M_MD_dot.2.1 419 = .ok (.iadd, 1) := by decide +kernel
theorem d_MD_dot_420 : decode M_MD_dot.2.1 420 = .ok (.iaload, 1) := by decide +kernel
theorem d_MD_dot_421 : decode M_MD_dot.2.1 421 = .ok (.aload_n 0, 1) := by decide +kernel
theorem d_MD_dot_422 : decode M_MD_dot.2.1 422 = .ok (.getfield 90, 3) := by decide +kernel
theorem d_MD_dot_425 : decode M_MD_dot.2.1 425 = .ok (.sipush 400, 3) := by decide +kernel
theorem d_MD_dot_428 : decode M_MD_dot.2.1 428 = .ok (.iload 4, 2) := by decide +kernel
theorem d_MD_dot_430 : decode M_MD_dot.2.1 430 = .ok (.imul, 1) := by decide +kernel
theorem d_MD_dot_431 : decode M_MD_dot.2.1 431 = .ok (.iload 5, 2) := by decide +kernel
theorem d_MD_dot_433 : decode M_MD_dot.2.1 433 = .ok (.iadd, 1) := by decide +kernel
theorem d_MD_dot_434 : decode M_MD_dot.2.1 434 = .ok (.iaload, 1) := by decide +kernel
theorem d_MD_dot_435 : decode M_MD_dot.2.1 435 = .ok (.if_icmp .ge 7, 3) := by decide +kernel
theorem d_MD_dot_438 : decode M_MD_dot.2.1 438 = .ok (.iload 6, 2) := by decide +kernel
theorem d_MD_dot_440 : decode M_MD_dot.2.1 440 = .ok (.istore 5, 2) := by decide +kernel
theorem d_MD_dot_442 : decode M_MD_dot.2.1 442 = .ok (.iinc 6 (-1), 3) := by decide +kernel
theorem d_MD_dot_445 : decode M_MD_dot.2.1 445 = .ok (.goto (-48), 3) := by decide +kernel
theorem d_MD_dot_448 : decode M_MD_dot.2.1 448 = .ok (.aload_n 0, 1) := by decide +kernel
theorem d_MD_dot_449 : decode M_MD_dot.2.1 449 = .ok (.getfield 87, 3) := by decide +kernel
theorem d_MD_dot_452 : decode M_MD_dot.2.1 452 = .ok (.iload 4, 2) := by decide +kernel
theorem d_MD_dot_454 : decode M_MD_dot.2.1 454 = .ok (.iaload, 1) := by decide +kernel
theorem d_MD_dot_455 : decode M_MD_dot.2.1 455 = .ok (.aload_n 0, 1) := by decide +kernel
theorem d_MD_dot_456 : decode M_MD_dot.2.1 456 = .ok (.iload_n 1, 1) := by decide +kernel
theorem d_MD_dot_457 : decode M_MD_dot.2.1 457 = .ok (.invokevirtual 153, 3) := by decide +kernel
theorem d_MD_dot_460 : decode M_MD_dot.2.1 460 = .ok (.if_icmp .ne 13, 3) := by decide +kernel
theorem d_MD_dot_463 : decode M_MD_dot.2.1 463 = .ok (.iload 5, 2) := by decide +kernel
theorem d_MD_dot_465 : decode M_MD_dot.2.1 465 = .ok (.sipush 200, 3) := by decide +kernel
theorem d_MD_dot_468 : decode M_MD_dot.2.1 468 = .ok (.isub, 1) := by decide +kernel
theorem d_MD_dot_469 : decode M_MD_dot.2.1 469 = .ok (.bipush 100, 2) := by decide +kernel
theorem d_MD_dot_471 : decode M_MD_dot.2.1 471 = .ok (.iadd, 1) := by decide +kernel
theorem d_MD_dot_472 : decode M_MD_dot.2.1 472 = .ok (.ireturn, 1) := by decide +kernel
theorem d_MD_dot_473 : decode M_MD_dot.2.1 473 = .ok (.iload 5, 2) := by decide +kernel
theorem d_MD_dot_475 : decode M_MD_dot.2.1 475 = .ok (.istore_n 3, 1) := by decide +kernel
theorem d_MD_dot_476 : decode M_MD_dot.2.1 476 = .ok (.iinc 4 1, 3) := by decide +kernel
theorem d_MD_dot_479 : decode M_MD_dot.2.1 479 = .ok (.goto (-96), 3) := by decide +kernel
theorem d_MD_dot_482 : decode M_MD_dot.2.1 482 = .ok (.iconst (-1), 1) := by decide +kernel
