/-! decode rows, by program -/
theorem d_JA_fill_0 : decode M_JA_fill.2.1 0 = .ok (.iconst 0, 1) := by decide +kernel
theorem d_JA_fill_1 : decode M_JA_fill.2.1 1 = .ok (.istore_n 2, 1) := by decide +kernel
theorem d_JA_fill_2 : decode M_JA_fill.2.1 2 = .ok (.aload_n 0, 1) := by decide +kernel
theorem d_JA_fill_3 : decode M_JA_fill.2.1 3 = .ok (.arraylength, 1) := by decide +kernel
theorem d_JA_fill_4 : decode M_JA_fill.2.1 4 = .ok (.istore_n 3, 1) := by decide +kernel
theorem d_JA_fill_5 : decode M_JA_fill.2.1 5 = .ok (.iload_n 2, 1) := by decide +kernel
theorem d_JA_fill_6 : decode M_JA_fill.2.1 6 = .ok (.iload_n 3, 1) := by decide +kernel
theorem d_JA_fill_7 : decode M_JA_fill.2.1 7 = .ok (.if_icmp .ge 13, 3) := by decide +kernel
theorem d_JA_fill_10 : decode M_JA_fill.2.1 10 = .ok (.aload_n 0, 1) := by decide +kernel
theorem d_JA_fill_11 : decode M_JA_fill.2.1 11 = .ok (.iload_n 2, 1) := by decide +kernel
theorem d_JA_fill_12 : decode M_JA_fill.2.1 12 = .ok (.iload_n 1, 1) := by decide +kernel
theorem d_JA_fill_13 : decode M_JA_fill.2.1 13 = .ok (.iastore, 1) := by decide +kernel
theorem d_JA_fill_14 : decode M_JA_fill.2.1 14 = .ok (.iinc 2 1, 3) := by decide +kernel
theorem d_JA_fill_17 : decode M_JA_fill.2.1 17 = .ok (.goto (-12), 3) := by decide +kernel
theorem d_JA_fill_20 : decode M_JA_fill.2.1 20 = .ok (.return_, 1) := by decide +kernel
theorem d_NO_has_0 : decode M_NO_has.2.1 0 = .ok (.iload_n 1, 1) := by decide +kernel
theorem d_NO_has_1 : decode M_NO_has.2.1 1 = .ok (.ifCond .lt 15, 3) := by decide +kernel
theorem d_NO_has_4 : decode M_NO_has.2.1 4 = .ok (.iload_n 1, 1) := by decide +kernel
theorem d_NO_has_5 : decode M_NO_has.2.1 5 = .ok (.aload_n 0, 1) := by decide +kernel
theorem d_NO_has_6 : decode M_NO_has.2.1 6 = .ok (.getfield 33, 3) := by decide +kernel
theorem d_NO_has_9 : decode M_NO_has.2.1 9 = .ok (.if_icmp .ge 7, 3) := by decide +kernel
theorem d_NO_has_12 : decode M_NO_has.2.1 12 = .ok (.iconst 1, 1) := by decide +kernel
theorem d_NO_has_13 : decode M_NO_has.2.1 13 = .ok (.goto 4, 3) := by decide +kernel
theorem d_NO_has_16 : decode M_NO_has.2.1 16 = .ok (.iconst 0, 1) := by decide +kernel
theorem d_NO_has_17 : decode M_NO_has.2.1 17 = .ok (.ireturn, 1) := by decide +kernel
theorem d_NO_add_0 : decode M_NO_add.2.1 0 = .ok (.aload_n 0, 1) := by decide +kernel
theorem d_NO_add_1 : decode M_NO_add.2.1 1 = .ok (.getfield 33, 3) := by decide +kernel
theorem d_NO_add_4 : decode M_NO_add.2.1 4 = .ok (.istore 6, 2) := by decide +kernel
theorem d_NO_add_6 : decode M_NO_add.2.1 6 = .ok (.aload_n 0, 1) := by decide +kernel
theorem d_NO_add_7 : decode M_NO_add.2.1 7 = .ok (.getfield 9, 3) := by decide +kernel
theorem d_NO_add_10 : decode M_NO_add.2.1 10 = .ok (.iload 6, 2) := by decide +kernel
theorem d_NO_add_12 : decode M_NO_add.2.1 12 = .ok (.iload_n 1, 1) := by decide +kernel
theorem d_NO_add_13 : decode M_NO_add.2.1 13 = .ok (.iastore, 1) := by decide +kernel
theorem d_NO_add_14 : decode M_NO_add.2.1 14 = .ok (.aload_n 0, 1) := by decide +kernel
theorem d_NO_add_15 : decode M_NO_add.2.1 15 = .ok (.getfield 15, 3) := by decide +kernel
theorem d_NO_add_18 : decode M_NO_add.2.1 18 = .ok (.iload 6, 2) := by decide +kernel
theorem d_NO_add_20 : decode M_NO_add.2.1 20 = .ok (.iload_n 2, 1) := by decide +kernel
theorem d_NO_add_21 : decode M_NO_add.2.1 21 = .ok (.iastore, 1) := by decide +kernel
theorem d_NO_add_22 : decode M_NO_add.2.1 22 = .ok (.aload_n 0, 1) := by decide +kernel
theorem d_NO_add_23 : decode M_NO_add.2.1 23 = .ok (.getfield 18, 3) := by decide +kernel
theorem d_NO_add_26 : decode M_NO_add.2.1 26 = .ok (.iload 6, 2) := by decide +kernel
theorem d_NO_add_28 : decode M_NO_add.2.1 28 = .ok (.iload_n 3, 1) := by decide +kernel
theorem d_NO_add_29 : decode M_NO_add.2.1 29 = .ok (.iastore, 1) := by decide +kernel
theorem d_NO_add_30 : decode M_NO_add.2.1 30 = .ok (.aload_n 0, 1) := by decide +kernel
theorem d_NO_add_31 : decode M_NO_add.2.1 31 = .ok (.getfield 21, 3) := by decide +kernel
theorem d_NO_add_34 : decode M_NO_add.2.1 34 = .ok (.iload 6, 2) := by decide +kernel
theorem d_NO_add_36 : decode M_NO_add.2.1 36 = .ok (.iload 4, 2) := by decide +kernel
theorem d_NO_add_38 : decode M_NO_add.2.1 38 = .ok (.iastore, 1) := by decide +kernel
theorem d_NO_add_39 : decode M_NO_add.2.1 39 = .ok (.aload_n 0, 1) := by decide +kernel
theorem d_NO_add_40 : decode M_NO_add.2.1 40 = .ok (.getfield 24, 3) := by decide +kernel
theorem d_NO_add_43 : decode M_NO_add.2.1 43 = .ok (.iload 6, 2) := by decide +kernel
theorem d_NO_add_45 : decode M_NO_add.2.1 45 = .ok (.iload 5, 2) := by decide +kernel
theorem d_NO_add_47 : decode M_NO_add.2.1 47 = .ok (.iastore, 1) := by decide +kernel
theorem d_NO_add_48 : decode M_NO_add.2.1 48 = .ok (.iconst 0, 1) := by decide +kernel
theorem d_NO_add_49 : decode M_NO_add.2.1 49 = .ok (.istore 7, 2) := by decide +kernel
theorem d_NO_add_51 : decode M_NO_add.2.1 51 = .ok (.iload 7, 2) := by decide +kernel
theorem d_NO_add_53 : decode M_NO_add.2.1 53 = .ok (.iconst 3, 1) := by decide +kernel
theorem d_NO_add_54 : decode M_NO_add.2.1 54 = .ok (.if_icmp .ge 22, 3) := by decide +kernel
theorem d_NO_add_57 : decode M_NO_add.2.1 57 = .ok (.aload_n 0, 1) := by decide +kernel
theorem d_NO_add_58 : decode M_NO_add.2.1 58 = .ok (.getfield 30, 3) := by decide +kernel
theorem d_NO_add_61 : decode M_NO_add.2.1 61 = .ok (.iload 6, 2) := by decide +kernel
theorem d_NO_add_63 : decode M_NO_add.2.1 63 = .ok (.iconst 3, 1) := by decide +kernel
theorem d_NO_add_64 : decode M_NO_add.2.1 64 = .ok (.imul, 1) := by decide +kernel
theorem d_NO_add_65 : decode M_NO_add.2.1 65 = .ok (.iload 7, 2) := by decide +kernel
theorem d_NO_add_67 : decode M_NO_add.2.1 67 = .ok (.iadd, 1) := by decide +kernel
theorem d_NO_add_68 : decode M_NO_add.2.1 68 = .ok (.iconst 0, 1) := by decide +kernel
theorem d_NO_add_69 : decode M_NO_add.2.1 69 = .ok (.iastore, 1) := by decide +kernel
theorem d_NO_add_70 : decode M_NO_add.2.1 70 = .ok (.iinc 7 1, 3) := by decide +kernel
theorem d_NO_add_73 : decode M_NO_add.2.1 73 = .ok (.goto (-22), 3) := by decide +kernel
theorem d_NO_add_76 : decode M_NO_add.2.1 76 = .ok (.aload_n 0, 1) := by decide +kernel
theorem d_NO_add_77 : decode M_NO_add.2.1 77 = .ok (.getfield 33, 3) := by decide +kernel
theorem d_NO_add_80 : decode M_NO_add.2.1 80 = .ok (.istore 7, 2) := by decide +kernel
theorem d_NO_add_82 : decode M_NO_add.2.1 82 = .ok (.iload 7, 2) := by decide +kernel
theorem d_NO_add_84 : decode M_NO_add.2.1 84 = .ok (.ifCond .le 43, 3) := by decide +kernel
theorem d_NO_add_87 : decode M_NO_add.2.1 87 = .ok (.aload_n 0, 1) := by decide +kernel
theorem d_NO_add_88 : decode M_NO_add.2.1 88 = .ok (.iload 6, 2) := by decide +kernel
theorem d_NO_add_90 : decode M_NO_add.2.1 90 = .ok (.aload_n 0, 1) := by decide +kernel
theorem d_NO_add_91 : decode M_NO_add.2.1 91 = .ok (.getfield 27, 3) := by decide +kernel
theorem d_NO_add_94 : decode M_NO_add.2.1 94 = .ok (.iload 7, 2) := by decide +kernel
theorem d_NO_add_96 : decode M_NO_add.2.1 96 = .ok (.iconst 1, 1) := by decide +kernel
theorem d_NO_add_97 : decode M_NO_add.2.1 97 = .ok (.isub, 1) := by decide +kernel
theorem d_NO_add_98 : decode M_NO_add.2.1 98 = .ok (.iaload, 1) := by decide +kernel
theorem d_NO_add_99 : decode M_NO_add.2.1 99 = .ok (.invokevirtual 37, 3) := by decide +kernel
theorem d_NO_add_102 : decode M_NO_add.2.1 102 = .ok (.ifCond .eq 25, 3) := by decide +kernel
theorem d_NO_add_105 : decode M_NO_add.2.1 105 = .ok (.aload_n 0, 1) := by decide +kernel
theorem d_NO_add_106 : decode M_NO_add.2.1 106 = .ok (.getfield 27, 3) := by decide +kernel
theorem d_NO_add_109 : decode M_NO_add.2.1 109 = .ok (.iload 7, 2) := by decide +kernel
theorem d_NO_add_111 : decode M_NO_add.2.1 111 = .ok (.aload_n 0, 1) := by decide +kernel
theorem d_NO_add_112 : decode M_NO_add.2.1 112 = .ok (.getfield 27, 3) := by decide +kernel
theorem d_NO_add_115 : decode M_NO_add.2.1 115 = .ok (.iload 7, 2) := by decide +kernel
theorem d_NO_add_117 : decode M_NO_add.2.1 117 = .ok (.iconst 1, 1) := by decide +kernel
theorem d_NO_add_118 : decode M_NO_add.2.1 118 = .ok (.isub, 1) := by decide +kernel
theorem d_NO_add_119 : decode M_NO_add.2.1 119 = .ok (.iaload, 1) := by decide +kernel
theorem d_NO_add_120 : decode M_NO_add.2.1 120 = .ok (.iastore, 1) := by decide +kernel
theorem d_NO_add_121 : decode M_NO_add.2.1 121 = .ok (.iinc 7 (-1), 3) := by decide +kernel
theorem d_NO_add_124 : decode M_NO_add.2.1 124 = .ok (.goto (-42), 3) := by decide +kernel
theorem d_NO_add_127 : decode M_NO_add.2.1 127 = .ok (.aload_n 0, 1) := by decide +kernel
theorem d_NO_add_128 : decode M_NO_add.2.1 128 = .ok (.getfield 27, 3) := by decide +kernel
theorem d_NO_add_131 : decode M_NO_add.2.1 131 = .ok (.iload 7, 2) := by decide +kernel
theorem d_NO_add_133 : decode M_NO_add.2.1 133 = .ok (.iload 6, 2) := by decide +kernel
theorem d_NO_add_135 : decode M_NO_add.2.1 135 = .ok (.iastore, 1) := by decide +kernel
theorem d_NO_add_136 : decode M_NO_add.2.1 136 = .ok (.aload_n 0, 1) := by decide +kernel
theorem d_NO_add_137 : decode M_NO_add.2.1 137 = .ok (.dup, 1) := by decide +kernel
theorem d_NO_add_138 : decode M_NO_add.2.1 138 = .ok (.getfield 33, 3) := by decide +kernel
theorem d_NO_add_141 : decode M_NO_add.2.1 141 = .ok (.iconst 1, 1) := by decide +kernel
theorem d_NO_add_142 : decode M_NO_add.2.1 142 = .ok (.iadd, 1) := by decide +kernel
theorem d_NO_add_143 : decode M_NO_add.2.1 143 = .ok (.putfield 33, 3) := by decide +kernel
theorem d_NO_add_146 : decode M_NO_add.2.1 146 = .ok (.iload 6, 2) := by decide +kernel
theorem d_NO_add_148 : decode M_NO_add.2.1 148 = .ok (.ireturn, 1) := by decide +kernel
theorem d_NO_removeLast_0 : decode M_NO_removeLast.2.1 0 = .ok (.aload_n 0, 1) := by decide +kernel
theorem d_NO_removeLast_1 : decode M_NO_removeLast.2.1 1 = .ok (.aload_n 0, 1) := by decide +kernel
theorem d_NO_removeLast_2 : decode M_NO_removeLast.2.1 2 = .ok (.getfield 33, 3) := by decide +kernel
theorem d_NO_removeLast_5 : decode M_NO_removeLast.2.1 5 = .ok (.iconst 1, 1) := by decide +kernel
theorem d_NO_removeLast_6 : decode M_NO_removeLast.2.1 6 = .ok (.isub, 1) := by decide +kernel
theorem d_NO_removeLast_7 : decode M_NO_removeLast.2.1 7 = .ok (.invokevirtual 41, 3) := by decide +kernel
theorem d_NO_removeLast_10 : decode M_NO_removeLast.2.1 10 = .ok (.istore_n 1, 1) := by decide +kernel
theorem d_NO_removeLast_11 : decode M_NO_removeLast.2.1 11 = .ok (.iload_n 1, 1) := by decide +kernel
theorem d_NO_removeLast_12 : decode M_NO_removeLast.2.1 12 = .ok (.aload_n 0, 1) := by decide +kernel
theorem d_NO_removeLast_13 : decode M_NO_removeLast.2.1 13 = .ok (.getfield 33, 3) := by decide +kernel
theorem d_NO_removeLast_16 : decode M_NO_removeLast.2.1 16 = .ok (.iconst 1, 1) := by decide +kernel
theorem d_NO_removeLast_17 : decode M_NO_removeLast.2.1 17 = .ok (.isub, 1) := by decide +kernel
theorem d_NO_removeLast_18 : decode M_NO_removeLast.2.1 18 = .ok (.if_icmp .ge 23, 3) := by decide +kernel
theorem d_NO_removeLast_21 : decode M_NO_removeLast.2.1 21 = .ok (.aload_n 0, 1) := by decide +kernel
theorem d_NO_removeLast_22 : decode M_NO_removeLast.2.1 22 = .ok (.getfield 27, 3) := by decide +kernel
theorem d_NO_removeLast_25 : decode M_NO_removeLast.2.1 25 = .ok (.iload_n 1, 1) := by decide +kernel
theorem d_NO_removeLast_26 : decode M_NO_removeLast.2.1 26 = .ok (.aload_n 0, 1) := by decide +kernel
theorem d_NO_removeLast_27 : decode M_NO_removeLast.2.1 27 = .ok (.getfield 27, 3) := by decide +kernel
theorem d_NO_removeLast_30 : decode M_NO_removeLast.2.1 30 = .ok (.iload_n 1, 1) := by decide +kernel
theorem d_NO_removeLast_31 : decode M_NO_removeLast.2.1 31 = .ok (.iconst 1, 1) := by decide +kernel
theorem d_NO_removeLast_32 : decode M_NO_removeLast.2.1 32 = .ok (.iadd, 1) := by decide +kernel
theorem d_NO_removeLast_33 : decode M_NO_removeLast.2.1 33 = .ok (.iaload, 1) := by decide +kernel
theorem d_NO_removeLast_34 : decode M_NO_removeLast.2.1 34 = .ok (.iastore, 1) := by decide +kernel
theorem d_NO_removeLast_35 : decode M_NO_removeLast.2.1 35 = .ok (.iinc 1 1, 3) := by decide +kernel
theorem d_NO_removeLast_38 : decode M_NO_removeLast.2.1 38 = .ok (.goto (-27), 3) := by decide +kernel
theorem d_NO_removeLast_41 : decode M_NO_removeLast.2.1 41 = .ok (.aload_n 0, 1) := by decide +kernel
theorem d_NO_removeLast_42 : decode M_NO_removeLast.2.1 42 = .ok (.dup, 1) := by decide +kernel
theorem d_NO_removeLast_43 : decode M_NO_removeLast.2.1 43 = .ok (.getfield 33, 3) := by decide +kernel
theorem d_NO_removeLast_46 : decode M_NO_removeLast.2.1 46 = .ok (.iconst 1, 1) := by decide +kernel
theorem d_NO_removeLast_47 : decode M_NO_removeLast.2.1 47 = .ok (.isub, 1) := by decide +kernel
theorem d_NO_removeLast_48 : decode M_NO_removeLast.2.1 48 = .ok (.putfield 33, 3) := by decide +kernel
theorem d_NO_removeLast_51 : decode M_NO_removeLast.2.1 51 = .ok (.return_, 1) := by decide +kernel
theorem d_NO_markOf_0 : decode M_NO_markOf.2.1 0 = .ok (.aload_n 0, 1) := by decide +kernel
theorem d_NO_markOf_1 : decode M_NO_markOf.2.1 1 = .ok (.getfield 30, 3) := by decide +kernel
theorem d_NO_markOf_4 : decode M_NO_markOf.2.1 4 = .ok (.iload_n 1, 1) := by decide +kernel
theorem d_NO_markOf_5 : decode M_NO_markOf.2.1 5 = .ok (.iconst 3, 1) := by decide +kernel
theorem d_NO_markOf_6 : decode M_NO_markOf.2.1 6 = .ok (.imul, 1) := by decide +kernel
theorem d_NO_markOf_7 : decode M_NO_markOf.2.1 7 = .ok (.iload_n 2, 1) := by decide +kernel
theorem d_NO_markOf_8 : decode M_NO_markOf.2.1 8 = .ok (.iadd, 1) := by decide +kernel
theorem d_NO_markOf_9 : decode M_NO_markOf.2.1 9 = .ok (.iaload, 1) := by decide +kernel
theorem d_NO_markOf_10 : decode M_NO_markOf.2.1 10 = .ok (.ireturn, 1) := by decide +kernel
theorem d_NO_setMark_0 : decode M_NO_setMark.2.1 0 = .ok (.aload_n 0, 1) := by decide +kernel
theorem d_NO_setMark_1 : decode M_NO_setMark.2.1 1 = .ok (.iload_n 1, 1) := by decide +kernel
theorem d_NO_setMark_2 : decode M_NO_setMark.2.1 2 = .ok (.iload_n 2, 1) := by decide +kernel
theorem d_NO_setMark_3 : decode M_NO_setMark.2.1 3 = .ok (.invokevirtual 45, 3) := by decide +kernel
theorem d_NO_setMark_6 : decode M_NO_setMark.2.1 6 = .ok (.istore 4, 2) := by decide +kernel
theorem d_NO_setMark_8 : decode M_NO_setMark.2.1 8 = .ok (.aload_n 0, 1) := by decide +kernel
theorem d_NO_setMark_9 : decode M_NO_setMark.2.1 9 = .ok (.getfield 30, 3) := by decide +kernel
theorem d_NO_setMark_12 : decode M_NO_setMark.2.1 12 = .ok (.iload_n 1, 1) := by decide +kernel
theorem d_NO_setMark_13 : decode M_NO_setMark.2.1 13 = .ok (.iconst 3, 1) := by decide +kernel
theorem d_NO_setMark_14 : decode M_NO_setMark.2.1 14 = .ok (.imul, 1) := by decide +kernel
theorem d_NO_setMark_15 : decode M_NO_setMark.2.1 15 = .ok (.iload_n 2, 1) := by decide +kernel
theorem d_NO_setMark_16 : decode M_NO_setMark.2.1 16 = .ok (.iadd, 1) := by decide +kernel
theorem d_NO_setMark_17 : decode M_NO_setMark.2.1 17 = .ok (.iload_n 3, 1) := by decide +kernel
theorem d_NO_setMark_18 : decode M_NO_setMark.2.1 18 = .ok (.iastore, 1) := by decide +kernel
theorem d_NO_setMark_19 : decode M_NO_setMark.2.1 19 = .ok (.iload 4, 2) := by decide +kernel
theorem d_NO_setMark_21 : decode M_NO_setMark.2.1 21 = .ok (.ireturn, 1) := by decide +kernel
theorem d_NO_possibleTie_0 : decode M_NO_possibleTie.2.1 0 = .ok (.aload_n 0, 1) := by decide +kernel
theorem d_NO_possibleTie_1 : decode M_NO_possibleTie.2.1 1 = .ok (.iload_n 1, 1) := by decide +kernel
theorem d_NO_possibleTie_2 : decode M_NO_possibleTie.2.1 2 = .ok (.invokevirtual 41, 3) := by decide +kernel
theorem d_NO_possibleTie_5 : decode M_NO_possibleTie.2.1 5 = .ok (.iconst 1, 1) := by decide +kernel
theorem d_NO_possibleTie_6 : decode M_NO_possibleTie.2.1 6 = .ok (.isub, 1) := by decide +kernel
theorem d_NO_possibleTie_7 : decode M_NO_possibleTie.2.1 7 = .ok (.istore_n 2, 1) := by decide +kernel
theorem d_NO_possibleTie_8 : decode M_NO_possibleTie.2.1 8 = .ok (.iload_n 2, 1) := by decide +kernel
theorem d_NO_possibleTie_9 : decode M_NO_possibleTie.2.1 9 = .ok (.ifCond .lt 76, 3) := by decide +kernel
theorem d_NO_possibleTie_12 : decode M_NO_possibleTie.2.1 12 = .ok (.aload_n 0, 1) := by decide +kernel
theorem d_NO_possibleTie_13 : decode M_NO_possibleTie.2.1 13 = .ok (.getfield 27, 3) := by decide +kernel
theorem d_NO_possibleTie_16 : decode M_NO_possibleTie.2.1 16 = .ok (.iload_n 2, 1) := by decide +kernel
theorem d_NO_possibleTie_17 : decode M_NO_possibleTie.2.1 17 = .ok (.iaload, 1) := by decide +kernel
theorem d_NO_possibleTie_18 : decode M_NO_possibleTie.2.1 18 = .ok (.istore_n 3, 1) := by decide +kernel
theorem d_NO_possibleTie_19 : decode M_NO_possibleTie.2.1 19 = .ok (.aload_n 0, 1) := by decide +kernel
theorem d_NO_possibleTie_20 : decode M_NO_possibleTie.2.1 20 = .ok (.getfield 24, 3) := by decide +kernel
theorem d_NO_possibleTie_23 : decode M_NO_possibleTie.2.1 23 = .ok (.iload_n 3, 1) := by decide +kernel
theorem d_NO_possibleTie_24 : decode M_NO_possibleTie.2.1 24 = .ok (.iaload, 1) := by decide +kernel
theorem d_NO_possibleTie_25 : decode M_NO_possibleTie.2.1 25 = .ok (.aload_n 0, 1) := by decide +kernel
theorem d_NO_possibleTie_26 : decode M_NO_possibleTie.2.1 26 = .ok (.getfield 24, 3) := by decide +kernel
theorem d_NO_possibleTie_29 : decode M_NO_possibleTie.2.1 29 = .ok (.iload_n 1, 1) := by decide +kernel
theorem d_NO_possibleTie_30 : decode M_NO_possibleTie.2.1 30 = .ok (.iaload, 1) := by decide +kernel
theorem d_NO_possibleTie_31 : decode M_NO_possibleTie.2.1 31 = .ok (.if_icmp .ne 48, 3) := by decide +kernel
theorem d_NO_possibleTie_34 : decode M_NO_possibleTie.2.1 34 = .ok (.aload_n 0, 1) := by decide +kernel
theorem d_NO_possibleTie_35 : decode M_NO_possibleTie.2.1 35 = .ok (.getfield 9, 3) := by decide +kernel
theorem d_NO_possibleTie_38 : decode M_NO_possibleTie.2.1 38 = .ok (.iload_n 3, 1) := by decide +kernel
theorem d_NO_possibleTie_39 : decode M_NO_possibleTie.2.1 39 = .ok (.iaload, 1) := by decide +kernel
theorem d_NO_possibleTie_40 : decode M_NO_possibleTie.2.1 40 = .ok (.aload_n 0, 1) := by decide +kernel
theorem d_NO_possibleTie_41 : decode M_NO_possibleTie.2.1 41 = .ok (.getfield 9, 3) := by decide +kernel
theorem d_NO_possibleTie_44 : decode M_NO_possibleTie.2.1 44 = .ok (.iload_n 1, 1) := by decide +kernel
theorem d_NO_possibleTie_45 : decode M_NO_possibleTie.2.1 45 = .ok (.iaload, 1) := by decide +kernel
theorem d_NO_possibleTie_46 : decode M_NO_possibleTie.2.1 46 = .ok (.if_icmp .ne 33, 3) := by decide +kernel
theorem d_NO_possibleTie_49 : decode M_NO_possibleTie.2.1 49 = .ok (.aload_n 0, 1) := by decide +kernel
theorem d_NO_possibleTie_50 : decode M_NO_possibleTie.2.1 50 = .ok (.iload_n 3, 1) := by decide +kernel
theorem d_NO_possibleTie_51 : decode M_NO_possibleTie.2.1 51 = .ok (.iload_n 1, 1) := by decide +kernel
theorem d_NO_possibleTie_52 : decode M_NO_possibleTie.2.1 52 = .ok (.invokevirtual 37, 3) := by decide +kernel
theorem d_NO_possibleTie_55 : decode M_NO_possibleTie.2.1 55 = .ok (.ifCond .eq 24, 3) := by decide +kernel
theorem d_NO_possibleTie_58 : decode M_NO_possibleTie.2.1 58 = .ok (.aload_n 0, 1) := by decide +kernel
theorem d_NO_possibleTie_59 : decode M_NO_possibleTie.2.1 59 = .ok (.getfield 15, 3) := by decide +kernel
theorem d_NO_possibleTie_62 : decode M_NO_possibleTie.2.1 62 = .ok (.iload_n 3, 1) := by decide +kernel
theorem d_NO_possibleTie_63 : decode M_NO_possibleTie.2.1 63 = .ok (.iaload, 1) := by decide +kernel
theorem d_NO_possibleTie_64 : decode M_NO_possibleTie.2.1 64 = .ok (.aload_n 0, 1) := by decide +kernel
theorem d_NO_possibleTie_65 : decode M_NO_possibleTie.2.1 65 = .ok (.getfield 15, 3) := by decide +kernel
theorem d_NO_possibleTie_68 : decode M_NO_possibleTie.2.1 68 = .ok (.iload_n 1, 1) := by decide +kernel
theorem d_NO_possibleTie_69 : decode M_NO_possibleTie.2.1 69 = .ok (.iaload, 1) := by decide +kernel
theorem d_NO_possibleTie_70 : decode M_NO_possibleTie.2.1 70 = .ok (.if_icmp .ne 7, 3) := by decide +kernel
theorem d_NO_possibleTie_73 : decode M_NO_possibleTie.2.1 73 = .ok (.iload_n 3, 1) := by decide +kernel
theorem d_NO_possibleTie_74 : decode M_NO_possibleTie.2.1 74 = .ok (.goto 4, 3) := by decide +kernel
theorem d_NO_possibleTie_77 : decode M_NO_possibleTie.2.1 77 = .ok (.iconst (-1), 1) := by decide +kernel
theorem d_NO_possibleTie_78 : decode M_NO_possibleTie.2.1 78 = .ok (.ireturn, 1) := by decide +kernel
theorem d_NO_possibleTie_79 : decode M_NO_possibleTie.2.1 79 = .ok (.iinc 2 (-1), 3) := by decide +kernel
theorem d_NO_possibleTie_82 : decode M_NO_possibleTie.2.1 82 = .ok (.goto (-74), 3) := by decide +kernel
theorem d_NO_possibleTie_85 : decode M_NO_possibleTie.2.1 85 = .ok (.iconst (-1), 1) := by decide +kernel
theorem d_NO_possibleTie_86 : decode M_NO_possibleTie.2.1 86 = .ok (.ireturn, 1) := by decide +kernel
theorem d_NO_tieOf_0 : decode M_NO_tieOf.2.1 0 = .ok (.aload_n 0, 1) := by decide +kernel
theorem d_NO_tieOf_1 : decode M_NO_tieOf.2.1 1 = .ok (.iload_n 1, 1) := by decide +kernel
theorem d_NO_tieOf_2 : decode M_NO_tieOf.2.1 2 = .ok (.iconst 0, 1) := by decide +kernel
theorem d_NO_tieOf_3 : decode M_NO_tieOf.2.1 3 = .ok (.invokevirtual 45, 3) := by decide +kernel
theorem d_NO_tieOf_6 : decode M_NO_tieOf.2.1 6 = .ok (.iconst 1, 1) := by decide +kernel
theorem d_NO_tieOf_7 : decode M_NO_tieOf.2.1 7 = .ok (.if_icmp .ne 11, 3) := by decide +kernel
theorem d_NO_tieOf_10 : decode M_NO_tieOf.2.1 10 = .ok (.aload_n 0, 1) := by decide +kernel
theorem d_NO_tieOf_11 : decode M_NO_tieOf.2.1 11 = .ok (.iload_n 1, 1) := by decide +kernel
theorem d_NO_tieOf_12 : decode M_NO_tieOf.2.1 12 = .ok (.invokevirtual 49, 3) := by decide +kernel
theorem d_NO_tieOf_15 : decode M_NO_tieOf.2.1 15 = .ok (.goto 4, 3) := by decide +kernel
theorem d_NO_tieOf_18 : decode M_NO_tieOf.2.1 18 = .ok (.iconst (-1), 1) := by decide +kernel
theorem d_NO_tieOf_19 : decode M_NO_tieOf.2.1 19 = .ok (.ireturn, 1) := by decide +kernel
theorem d_NO_isBefore_0 : decode M_NO_isBefore.2.1 0 = .ok (.aload_n 0, 1) := by decide +kernel
theorem d_NO_isBefore_1 : decode M_NO_isBefore.2.1 1 = .ok (.getfield 18, 3) := by decide +kernel
theorem d_NO_isBefore_4 : decode M_NO_isBefore.2.1 4 = .ok (.iload_n 1, 1) := by decide +kernel
theorem d_NO_isBefore_5 : decode M_NO_isBefore.2.1 5 = .ok (.iaload, 1) := by decide +kernel
theorem d_NO_isBefore_6 : decode M_NO_isBefore.2.1 6 = .ok (.aload_n 0, 1) := by decide +kernel
theorem d_NO_isBefore_7 : decode M_NO_isBefore.2.1 7 = .ok (.getfield 18, 3) := by decide +kernel
theorem d_NO_isBefore_10 : decode M_NO_isBefore.2.1 10 = .ok (.iload_n 2, 1) := by decide +kernel
theorem d_NO_isBefore_11 : decode M_NO_isBefore.2.1 11 = .ok (.iaload, 1) := by decide +kernel
theorem d_NO_isBefore_12 : decode M_NO_isBefore.2.1 12 = .ok (.if_icmp .eq 24, 3) := by decide +kernel
theorem d_NO_isBefore_15 : decode M_NO_isBefore.2.1 15 = .ok (.aload_n 0, 1) := by decide +kernel
theorem d_NO_isBefore_16 : decode M_NO_isBefore.2.1 16 = .ok (.getfield 18, 3) := by decide +kernel
theorem d_NO_isBefore_19 : decode M_NO_isBefore.2.1 19 = .ok (.iload_n 1, 1) := by decide +kernel
theorem d_NO_isBefore_20 : decode M_NO_isBefore.2.1 20 = .ok (.iaload, 1) := by decide +kernel
theorem d_NO_isBefore_21 : decode M_NO_isBefore.2.1 21 = .ok (.aload_n 0, 1) := by decide +kernel
theorem d_NO_isBefore_22 : decode M_NO_isBefore.2.1 22 = .ok (.getfield 18, 3) := by decide +kernel
theorem d_NO_isBefore_25 : decode M_NO_isBefore.2.1 25 = .ok (.iload_n 2, 1) := by decide +kernel
theorem d_NO_isBefore_26 : decode M_NO_isBefore.2.1 26 = .ok (.iaload, 1) := by decide +kernel
theorem d_NO_isBefore_27 : decode M_NO_isBefore.2.1 27 = .ok (.if_icmp .ge 7, 3) := by decide +kernel
theorem d_NO_isBefore_30 : decode M_NO_isBefore.2.1 30 = .ok (.iconst 1, 1) := by decide +kernel
theorem d_NO_isBefore_31 : decode M_NO_isBefore.2.1 31 = .ok (.goto 4, 3) := by decide +kernel
theorem d_NO_isBefore_34 : decode M_NO_isBefore.2.1 34 = .ok (.iconst 0, 1) := by decide +kernel
theorem d_NO_isBefore_35 : decode M_NO_isBefore.2.1 35 = .ok (.ireturn, 1) := by decide +kernel
theorem d_NO_isBefore_36 : decode M_NO_isBefore.2.1 36 = .ok (.aload_n 0, 1) := by decide +kernel
theorem d_NO_isBefore_37 : decode M_NO_isBefore.2.1 37 = .ok (.getfield 21, 3) := by decide +kernel
theorem d_NO_isBefore_40 : decode M_NO_isBefore.2.1 40 = .ok (.iload_n 1, 1) := by decide +kernel
theorem d_NO_isBefore_41 : decode M_NO_isBefore.2.1 41 = .ok (.iaload, 1) := by decide +kernel
theorem d_NO_isBefore_42 : decode M_NO_isBefore.2.1 42 = .ok (.aload_n 0, 1) := by decide +kernel
theorem d_NO_isBefore_43 : decode M_NO_isBefore.2.1 43 = .ok (.getfield 21, 3) := by decide +kernel
theorem d_NO_isBefore_46 : decode M_NO_isBefore.2.1 46 = .ok (.iload_n 2, 1) := by decide +kernel
theorem d_NO_isBefore_47 : decode M_NO_isBefore.2.1 47 = .ok (.iaload, 1) := by decide +kernel
theorem d_NO_isBefore_48 : decode M_NO_isBefore.2.1 48 = .ok (.if_icmp .ge 7, 3) := by decide +kernel
theorem d_NO_isBefore_51 : decode M_NO_isBefore.2.1 51 = .ok (.iconst 1, 1) := by decide +kernel
theorem d_NO_isBefore_52 : decode M_NO_isBefore.2.1 52 = .ok (.goto 4, 3) := by decide +kernel
theorem d_NO_isBefore_55 : decode M_NO_isBefore.2.1 55 = .ok (.iconst 0, 1) := by decide +kernel
theorem d_NO_isBefore_56 : decode M_NO_isBefore.2.1 56 = .ok (.ireturn, 1) := by decide +kernel
theorem d_NO_shareChord_0 : decode M_NO_shareChord.2.1 0 = .ok (.aload_n 0, 1) := by decide +kernel
theorem d_NO_shareChord_1 : decode M_NO_shareChord.2.1 1 = .ok (.getfield 18, 3) := by decide +kernel
theorem d_NO_shareChord_4 : decode M_NO_shareChord.2.1 4 = .ok (.iload_n 1, 1) := by decide +kernel
theorem d_NO_shareChord_5 : decode M_NO_shareChord.2.1 5 = .ok (.iaload, 1) := by decide +kernel
theorem d_NO_shareChord_6 : decode M_NO_shareChord.2.1 6 = .ok (.aload_n 0, 1) := by decide +kernel
theorem d_NO_shareChord_7 : decode M_NO_shareChord.2.1 7 = .ok (.getfield 18, 3) := by decide +kernel
theorem d_NO_shareChord_10 : decode M_NO_shareChord.2.1 10 = .ok (.iload_n 2, 1) := by decide +kernel
theorem d_NO_shareChord_11 : decode M_NO_shareChord.2.1 11 = .ok (.iaload, 1) := by decide +kernel
theorem d_NO_shareChord_12 : decode M_NO_shareChord.2.1 12 = .ok (.if_icmp .ne 22, 3) := by decide +kernel
theorem d_NO_shareChord_15 : decode M_NO_shareChord.2.1 15 = .ok (.aload_n 0, 1) := by decide +kernel
theorem d_NO_shareChord_16 : decode M_NO_shareChord.2.1 16 = .ok (.getfield 21, 3) := by decide +kernel
theorem d_NO_shareChord_19 : decode M_NO_shareChord.2.1 19 = .ok (.iload_n 1, 1) := by decide +kernel
theorem d_NO_shareChord_20 : decode M_NO_shareChord.2.1 20 = .ok (.iaload, 1) := by decide +kernel
theorem d_NO_shareChord_21 : decode M_NO_shareChord.2.1 21 = .ok (.aload_n 0, 1) := by decide +kernel
theorem d_NO_shareChord_22 : decode M_NO_shareChord.2.1 22 = .ok (.getfield 21, 3) := by decide +kernel
theorem d_NO_shareChord_25 : decode M_NO_shareChord.2.1 25 = .ok (.iload_n 2, 1) := by decide +kernel
theorem d_NO_shareChord_26 : decode M_NO_shareChord.2.1 26 = .ok (.iaload, 1) := by decide +kernel
theorem d_NO_shareChord_27 : decode M_NO_shareChord.2.1 27 = .ok (.if_icmp .ne 7, 3) := by decide +kernel
theorem d_NO_shareChord_30 : decode M_NO_shareChord.2.1 30 = .ok (.iconst 1, 1) := by decide +kernel
theorem d_NO_shareChord_31 : decode M_NO_shareChord.2.1 31 = .ok (.goto 4, 3) := by decide +kernel
theorem d_NO_shareChord_34 : decode M_NO_shareChord.2.1 34 = .ok (.iconst 0, 1) := by decide +kernel
theorem d_NO_shareChord_35 : decode M_NO_shareChord.2.1 35 = .ok (.ireturn, 1) := by decide +kernel
theorem d_NO_positionOf_0 : decode M_NO_positionOf.2.1 0 = .ok (.iconst 0, 1) := by decide +kernel
theorem d_NO_positionOf_1 : decode M_NO_positionOf.2.1 1 = .ok (.istore_n 2, 1) := by decide +kernel
theorem d_NO_positionOf_2 : decode M_NO_positionOf.2.1 2 = .ok (.iload_n 2, 1) := by decide +kernel
theorem d_NO_positionOf_3 : decode M_NO_positionOf.2.1 3 = .ok (.aload_n 0, 1) := by decide +kernel
theorem d_NO_positionOf_4 : decode M_NO_positionOf.2.1 4 = .ok (.getfield 33, 3) := by decide +kernel
theorem d_NO_positionOf_7 : decode M_NO_positionOf.2.1 7 = .ok (.if_icmp .ge 21, 3) := by decide +kernel
theorem d_NO_positionOf_10 : decode M_NO_positionOf.2.1 10 = .ok (.aload_n 0, 1) := by decide +kernel
theorem d_NO_positionOf_11 : decode M_NO_positionOf.2.1 11 = .ok (.getfield 27, 3) := by decide +kernel
theorem d_NO_positionOf_14 : decode M_NO_positionOf.2.1 14 = .ok (.iload_n 2, 1) := by decide +kernel
theorem d_NO_positionOf_15 : decode M_NO_positionOf.2.1 15 = .ok (.iaload, 1) := by decide +kernel
theorem d_NO_positionOf_16 : decode M_NO_positionOf.2.1 16 = .ok (.iload_n 1, 1) := by decide +kernel
theorem d_NO_positionOf_17 : decode M_NO_positionOf.2.1 17 = .ok (.if_icmp .ne 5, 3) := by decide +kernel
theorem d_NO_positionOf_20 : decode M_NO_positionOf.2.1 20 = .ok (.iload_n 2, 1) := by decide +kernel
theorem d_NO_positionOf_21 : decode M_NO_positionOf.2.1 21 = .ok (.ireturn, 1) := by decide +kernel
theorem d_NO_positionOf_22 : decode M_NO_positionOf.2.1 22 = .ok (.iinc 2 1, 3) := by decide +kernel
theorem d_NO_positionOf_25 : decode M_NO_positionOf.2.1 25 = .ok (.goto (-23), 3) := by decide +kernel
theorem d_NO_positionOf_28 : decode M_NO_positionOf.2.1 28 = .ok (.aload_n 0, 1) := by decide +kernel
theorem d_NO_positionOf_29 : decode M_NO_positionOf.2.1 29 = .ok (.getfield 33, 3) := by decide +kernel
theorem d_NO_positionOf_32 : decode M_NO_positionOf.2.1 32 = .ok (.ireturn, 1) := by decide +kernel
theorem d_NO_beginsChord_0 : decode M_NO_beginsChord.2.1 0 = .ok (.iload_n 1, 1) := by decide +kernel
theorem d_NO_beginsChord_1 : decode M_NO_beginsChord.2.1 1 = .ok (.ifCond .eq 24, 3) := by decide +kernel
theorem d_NO_beginsChord_4 : decode M_NO_beginsChord.2.1 4 = .ok (.aload_n 0, 1) := by decide +kernel
theorem d_NO_beginsChord_5 : decode M_NO_beginsChord.2.1 5 = .ok (.aload_n 0, 1) := by decide +kernel
theorem d_NO_beginsChord_6 : decode M_NO_beginsChord.2.1 6 = .ok (.getfield 27, 3) := by decide +kernel
theorem d_NO_beginsChord_9 : decode M_NO_beginsChord.2.1 9 = .ok (.iload_n 1, 1) := by decide +kernel
theorem d_NO_beginsChord_10 : decode M_NO_beginsChord.2.1 10 = .ok (.iconst 1, 1) := by decide +kernel
theorem d_NO_beginsChord_11 : decode M_NO_beginsChord.2.1 11 = .ok (.isub, 1) := by decide +kernel
theorem d_NO_beginsChord_12 : decode M_NO_beginsChord.2.1 12 = .ok (.iaload, 1) := by decide +kernel
theorem d_NO_beginsChord_13 : decode M_NO_beginsChord.2.1 13 = .ok (.aload_n 0, 1) := by decide +kernel
theorem d_NO_beginsChord_14 : decode M_NO_beginsChord.2.1 14 = .ok (.getfield 27, 3) := by decide +kernel
theorem d_NO_beginsChord_17 : decode M_NO_beginsChord.2.1 17 = .ok (.iload_n 1, 1) := by decide +kernel
theorem d_NO_beginsChord_18 : decode M_NO_beginsChord.2.1 18 = .ok (.iaload, 1) := by decide +kernel
theorem d_NO_beginsChord_19 : decode M_NO_beginsChord.2.1 19 = .ok (.invokevirtual 52, 3) := by decide +kernel
theorem d_NO_beginsChord_22 : decode M_NO_beginsChord.2.1 22 = .ok (.ifCond .ne 7, 3) := by decide +kernel
theorem d_NO_beginsChord_25 : decode M_NO_beginsChord.2.1 25 = .ok (.iconst 1, 1) := by decide +kernel
theorem d_NO_beginsChord_26 : decode M_NO_beginsChord.2.1 26 = .ok (.goto 4, 3) := by decide +kernel
theorem d_NO_beginsChord_29 : decode M_NO_beginsChord.2.1 29 = .ok (.iconst 0, 1) := by decide +kernel
theorem d_NO_beginsChord_30 : decode M_NO_beginsChord.2.1 30 = .ok (.ireturn, 1) := by decide +kernel
theorem d_NO_chordEnd_0 : decode M_NO_chordEnd.2.1 0 = .ok (.iload_n 1, 1) := by decide +kernel
theorem d_NO_chordEnd_1 : decode M_NO_chordEnd.2.1 1 = .ok (.istore_n 2, 1) := by decide +kernel
theorem d_NO_chordEnd_2 : decode M_NO_chordEnd.2.1 2 = .ok (.iload_n 2, 1) := by decide +kernel
theorem d_NO_chordEnd_3 : decode M_NO_chordEnd.2.1 3 = .ok (.aload_n 0, 1) := by decide +kernel
theorem d_NO_chordEnd_4 : decode M_NO_chordEnd.2.1 4 = .ok (.getfield 33, 3) := by decide +kernel
theorem d_NO_chordEnd_7 : decode M_NO_chordEnd.2.1 7 = .ok (.if_icmp .ge 30, 3) := by decide +kernel
theorem d_NO_chordEnd_10 : decode M_NO_chordEnd.2.1 10 = .ok (.aload_n 0, 1) := by decide +kernel
theorem d_NO_chordEnd_11 : decode M_NO_chordEnd.2.1 11 = .ok (.aload_n 0, 1) := by decide +kernel
theorem d_NO_chordEnd_12 : decode M_NO_chordEnd.2.1 12 = .ok (.getfield 27, 3) := by decide +kernel
theorem d_NO_chordEnd_15 : decode M_NO_chordEnd.2.1 15 = .ok (.iload_n 1, 1) := by decide +kernel
theorem d_NO_chordEnd_16 : decode M_NO_chordEnd.2.1 16 = .ok (.iaload, 1) := by decide +kernel
theorem d_NO_chordEnd_17 : decode M_NO_chordEnd.2.1 17 = .ok (.aload_n 0, 1) := by decide +kernel
theorem d_NO_chordEnd_18 : decode M_NO_chordEnd.2.1 18 = .ok (.getfield 27, 3) := by decide +kernel
theorem d_NO_chordEnd_21 : decode M_NO_chordEnd.2.1 21 = .ok (.iload_n 2, 1) := by decide +kernel
theorem d_NO_chordEnd_22 : decode M_NO_chordEnd.2.1 22 = .ok (.iaload, 1) := by decide +kernel
theorem d_NO_chordEnd_23 : decode M_NO_chordEnd.2.1 23 = .ok (.invokevirtual 52, 3) := by decide +kernel
theorem d_NO_chordEnd_26 : decode M_NO_chordEnd.2.1 26 = .ok (.ifCond .ne 5, 3) := by decide +kernel
theorem d_NO_chordEnd_29 : decode M_NO_chordEnd.2.1 29 = .ok (.iload_n 2, 1) := by decide +kernel
theorem d_NO_chordEnd_30 : decode M_NO_chordEnd.2.1 30 = .ok (.ireturn, 1) := by decide +kernel
theorem d_NO_chordEnd_31 : decode M_NO_chordEnd.2.1 31 = .ok (.iinc 2 1, 3) := by decide +kernel
theorem d_NO_chordEnd_34 : decode M_NO_chordEnd.2.1 34 = .ok (.goto (-32), 3) := by decide +kernel
theorem d_NO_chordEnd_37 : decode M_NO_chordEnd.2.1 37 = .ok (.aload_n 0, 1) := by decide +kernel
theorem d_NO_chordEnd_38 : decode M_NO_chordEnd.2.1 38 = .ok (.getfield 33, 3) := by decide +kernel
theorem d_NO_chordEnd_41 : decode M_NO_chordEnd.2.1 41 = .ok (.ireturn, 1) := by decide +kernel
theorem d_NO_chordStart_0 : decode M_NO_chordStart.2.1 0 = .ok (.aload_n 0, 1) := by decide +kernel
theorem d_NO_chordStart_1 : decode M_NO_chordStart.2.1 1 = .ok (.aload_n 0, 1) := by decide +kernel
theorem d_NO_chordStart_2 : decode M_NO_chordStart.2.1 2 = .ok (.getfield 18, 3) := by decide +kernel
theorem d_NO_chordStart_5 : decode M_NO_chordStart.2.1 5 = .ok (.iload_n 1, 1) := by decide +kernel
theorem d_NO_chordStart_6 : decode M_NO_chordStart.2.1 6 = .ok (.iaload, 1) := by decide +kernel
theorem d_NO_chordStart_7 : decode M_NO_chordStart.2.1 7 = .ok (.aload_n 0, 1) := by decide +kernel
theorem d_NO_chordStart_8 : decode M_NO_chordStart.2.1 8 = .ok (.getfield 21, 3) := by decide +kernel
theorem d_NO_chordStart_11 : decode M_NO_chordStart.2.1 11 = .ok (.iload_n 1, 1) := by decide +kernel
theorem d_NO_chordStart_12 : decode M_NO_chordStart.2.1 12 = .ok (.iaload, 1) := by decide +kernel
theorem d_NO_chordStart_13 : decode M_NO_chordStart.2.1 13 = .ok (.invokevirtual 55, 3) := by decide +kernel
theorem d_NO_chordStart_16 : decode M_NO_chordStart.2.1 16 = .ok (.ireturn, 1) := by decide +kernel
theorem d_NO_chordAt_0 : decode M_NO_chordAt.2.1 0 = .ok (.iconst 0, 1) := by decide +kernel
theorem d_NO_chordAt_1 : decode M_NO_chordAt.2.1 1 = .ok (.istore_n 3, 1) := by decide +kernel
theorem d_NO_chordAt_2 : decode M_NO_chordAt.2.1 2 = .ok (.iload_n 3, 1) := by decide +kernel
theorem d_NO_chordAt_3 : decode M_NO_chordAt.2.1 3 = .ok (.aload_n 0, 1) := by decide +kernel
theorem d_NO_chordAt_4 : decode M_NO_chordAt.2.1 4 = .ok (.getfield 33, 3) := by decide +kernel
theorem d_NO_chordAt_7 : decode M_NO_chordAt.2.1 7 = .ok (.if_icmp .ge 41, 3) := by decide +kernel
theorem d_NO_chordAt_10 : decode M_NO_chordAt.2.1 10 = .ok (.aload_n 0, 1) := by decide +kernel
theorem d_NO_chordAt_11 : decode M_NO_chordAt.2.1 11 = .ok (.getfield 18, 3) := by decide +kernel
theorem d_NO_chordAt_14 : decode M_NO_chordAt.2.1 14 = .ok (.aload_n 0, 1) := by decide +kernel
theorem d_NO_chordAt_15 : decode M_NO_chordAt.2.1 15 = .ok (.getfield 27, 3) := by decide +kernel
theorem d_NO_chordAt_18 : decode M_NO_chordAt.2.1 18 = .ok (.iload_n 3, 1) := by decide +kernel
theorem d_NO_chordAt_19 : decode M_NO_chordAt.2.1 19 = .ok (.iaload, 1) := by decide +kernel
theorem d_NO_chordAt_20 : decode M_NO_chordAt.2.1 20 = .ok (.iaload, 1) := by decide +kernel
theorem d_NO_chordAt_21 : decode M_NO_chordAt.2.1 21 = .ok (.iload_n 1, 1) := by decide +kernel
theorem d_NO_chordAt_22 : decode M_NO_chordAt.2.1 22 = .ok (.if_icmp .ne 20, 3) := by decide +kernel
theorem d_NO_chordAt_25 : decode M_NO_chordAt.2.1 25 = .ok (.aload_n 0, 1) := by decide +kernel
theorem d_NO_chordAt_26 : decode M_NO_chordAt.2.1 26 = .ok (.getfield 21, 3) := by decide +kernel
theorem d_NO_chordAt_29 : decode M_NO_chordAt.2.1 29 = .ok (.aload_n 0, 1) := by decide +kernel
theorem d_NO_chordAt_30 : decode M_NO_chordAt.2.1 30 = .ok (.getfield 27, 3) := by decide +kernel
theorem d_NO_chordAt_33 : decode M_NO_chordAt.2.1 33 = .ok (.iload_n 3, 1) := by decide +kernel
theorem d_NO_chordAt_34 : decode M_NO_chordAt.2.1 34 = .ok (.iaload, 1) := by decide +kernel
theorem d_NO_chordAt_35 : decode M_NO_chordAt.2.1 35 = .ok (.iaload, 1) := by decide +kernel
theorem d_NO_chordAt_36 : decode M_NO_chordAt.2.1 36 = .ok (.iload_n 2, 1) := by decide +kernel
theorem d_NO_chordAt_37 : decode M_NO_chordAt.2.1 37 = .ok (.if_icmp .ne 5, 3) := by decide +kernel
theorem d_NO_chordAt_40 : decode M_NO_chordAt.2.1 40 = .ok (.iload_n 3, 1) := by decide +kernel
theorem d_NO_chordAt_41 : decode M_NO_chordAt.2.1 41 = .ok (.ireturn, 1) := by decide +kernel
theorem d_NO_chordAt_42 : decode M_NO_chordAt.2.1 42 = .ok (.iinc 3 1, 3) := by decide +kernel
theorem d_NO_chordAt_45 : decode M_NO_chordAt.2.1 45 = .ok (.goto (-43), 3) := by decide +kernel
theorem d_NO_chordAt_48 : decode M_NO_chordAt.2.1 48 = .ok (.iconst (-1), 1) := by decide +kernel
theorem d_NO_chordAt_49 : decode M_NO_chordAt.2.1 49 = .ok (.ireturn, 1) := by decide +kernel
theorem d_NO_howManyChords_0 : decode M_NO_howManyChords.2.1 0 = .ok (.iconst 0, 1) := by decide +kernel
theorem d_NO_howManyChords_1 : decode M_NO_howManyChords.2.1 1 = .ok (.istore_n 1, 1) := by decide +kernel
theorem d_NO_howManyChords_2 : decode M_NO_howManyChords.2.1 2 = .ok (.iconst 0, 1) := by decide +kernel
theorem d_NO_howManyChords_3 : decode M_NO_howManyChords.2.1 3 = .ok (.istore_n 2, 1) := by decide +kernel
theorem d_NO_howManyChords_4 : decode M_NO_howManyChords.2.1 4 = .ok (.iload_n 2, 1) := by decide +kernel
theorem d_NO_howManyChords_5 : decode M_NO_howManyChords.2.1 5 = .ok (.aload_n 0, 1) := by decide +kernel
theorem d_NO_howManyChords_6 : decode M_NO_howManyChords.2.1 6 = .ok (.getfield 33, 3) := by decide +kernel
theorem d_NO_howManyChords_9 : decode M_NO_howManyChords.2.1 9 = .ok (.if_icmp .ge 20, 3) := by decide +kernel
theorem d_NO_howManyChords_12 : decode M_NO_howManyChords.2.1 12 = .ok (.aload_n 0, 1) := by decide +kernel
theorem d_NO_howManyChords_13 : decode M_NO_howManyChords.2.1 13 = .ok (.iload_n 2, 1) := by decide +kernel
theorem d_NO_howManyChords_14 : decode M_NO_howManyChords.2.1 14 = .ok (.invokevirtual 58, 3) := by decide +kernel
theorem d_NO_howManyChords_17 : decode M_NO_howManyChords.2.1 17 = .ok (.ifCond .eq 6, 3) := by decide +kernel
theorem d_NO_howManyChords_20 : decode M_NO_howManyChords.2.1 20 = .ok (.iinc 1 1, 3) := by decide +kernel
theorem d_NO_howManyChords_23 : decode M_NO_howManyChords.2.1 23 = .ok (.iinc 2 1, 3) := by decide +kernel
theorem d_NO_howManyChords_26 : decode M_NO_howManyChords.2.1 26 = .ok (.goto (-22), 3) := by decide +kernel
theorem d_NO_howManyChords_29 : decode M_NO_howManyChords.2.1 29 = .ok (.iload_n 1, 1) := by decide +kernel
theorem d_NO_howManyChords_30 : decode M_NO_howManyChords.2.1 30 = .ok (.ireturn, 1) := by decide +kernel
theorem d_BB_at_0 : decode M_BB_at.2.1 0 = .ok (.aload_n 0, 1) := by decide +kernel
theorem d_BB_at_1 : decode M_BB_at.2.1 1 = .ok (.getfield 9, 3) := by decide +kernel
theorem d_BB_at_4 : decode M_BB_at.2.1 4 = .ok (.iload_n 1, 1) := by decide +kernel
theorem d_BB_at_5 : decode M_BB_at.2.1 5 = .ok (.iaload, 1) := by decide +kernel
theorem d_BB_at_6 : decode M_BB_at.2.1 6 = .ok (.ireturn, 1) := by decide +kernel
theorem d_BB_tell_0 : decode M_BB_tell.2.1 0 = .ok (.aload_n 0, 1) := by decide +kernel
theorem d_BB_tell_1 : decode M_BB_tell.2.1 1 = .ok (.getfield 9, 3) := by decide +kernel
theorem d_BB_tell_4 : decode M_BB_tell.2.1 4 = .ok (.iload_n 1, 1) := by decide +kernel
theorem d_BB_tell_5 : decode M_BB_tell.2.1 5 = .ok (.iaload, 1) := by decide +kernel
theorem d_BB_tell_6 : decode M_BB_tell.2.1 6 = .ok (.istore_n 3, 1) := by decide +kernel
theorem d_BB_tell_7 : decode M_BB_tell.2.1 7 = .ok (.aload_n 0, 1) := by decide +kernel
theorem d_BB_tell_8 : decode M_BB_tell.2.1 8 = .ok (.getfield 15, 3) := by decide +kernel
theorem d_BB_tell_11 : decode M_BB_tell.2.1 11 = .ok (.iload_n 1, 1) := by decide +kernel
theorem d_BB_tell_12 : decode M_BB_tell.2.1 12 = .ok (.iconst 1, 1) := by decide +kernel
theorem d_BB_tell_13 : decode M_BB_tell.2.1 13 = .ok (.bastore, 1) := by decide +kernel
theorem d_BB_tell_14 : decode M_BB_tell.2.1 14 = .ok (.aload_n 0, 1) := by decide +kernel
theorem d_BB_tell_15 : decode M_BB_tell.2.1 15 = .ok (.getfield 9, 3) := by decide +kernel
theorem d_BB_tell_18 : decode M_BB_tell.2.1 18 = .ok (.iload_n 1, 1) := by decide +kernel
theorem d_BB_tell_19 : decode M_BB_tell.2.1 19 = .ok (.iload_n 2, 1) := by decide +kernel
theorem d_BB_tell_20 : decode M_BB_tell.2.1 20 = .ok (.iastore, 1) := by decide +kernel
theorem d_BB_tell_21 : decode M_BB_tell.2.1 21 = .ok (.iload_n 1, 1) := by decide +kernel
theorem d_BB_tell_22 : decode M_BB_tell.2.1 22 = .ok (.iconst 1, 1) := by decide +kernel
theorem d_BB_tell_23 : decode M_BB_tell.2.1 23 = .ok (.iadd, 1) := by decide +kernel
theorem d_BB_tell_24 : decode M_BB_tell.2.1 24 = .ok (.istore 4, 2) := by decide +kernel
theorem d_BB_tell_26 : decode M_BB_tell.2.1 26 = .ok (.iload 4, 2) := by decide +kernel
theorem d_BB_tell_28 : decode M_BB_tell.2.1 28 = .ok (.bipush 20, 2) := by decide +kernel
theorem d_BB_tell_30 : decode M_BB_tell.2.1 30 = .ok (.if_icmp .ge 27, 3) := by decide +kernel
theorem d_BB_tell_33 : decode M_BB_tell.2.1 33 = .ok (.aload_n 0, 1) := by decide +kernel
theorem d_BB_tell_34 : decode M_BB_tell.2.1 34 = .ok (.getfield 15, 3) := by decide +kernel
theorem d_BB_tell_37 : decode M_BB_tell.2.1 37 = .ok (.iload 4, 2) := by decide +kernel
theorem d_BB_tell_39 : decode M_BB_tell.2.1 39 = .ok (.baload, 1) := by decide +kernel
theorem d_BB_tell_40 : decode M_BB_tell.2.1 40 = .ok (.ifCond .ne 17, 3) := by decide +kernel
theorem d_BB_tell_43 : decode M_BB_tell.2.1 43 = .ok (.aload_n 0, 1) := by decide +kernel
theorem d_BB_tell_44 : decode M_BB_tell.2.1 44 = .ok (.getfield 9, 3) := by decide +kernel
theorem d_BB_tell_47 : decode M_BB_tell.2.1 47 = .ok (.iload 4, 2) := by decide +kernel
theorem d_BB_tell_49 : decode M_BB_tell.2.1 49 = .ok (.iload_n 2, 1) := by decide +kernel
theorem d_BB_tell_50 : decode M_BB_tell.2.1 50 = .ok (.iastore, 1) := by decide +kernel
theorem d_BB_tell_51 : decode M_BB_tell.2.1 51 = .ok (.iinc 4 1, 3) := by decide +kernel
theorem d_BB_tell_54 : decode M_BB_tell.2.1 54 = .ok (.goto (-28), 3) := by decide +kernel
theorem d_BB_tell_57 : decode M_BB_tell.2.1 57 = .ok (.iload_n 3, 1) := by decide +kernel
theorem d_BB_tell_58 : decode M_BB_tell.2.1 58 = .ok (.ireturn, 1) := by decide +kernel
theorem d_SE_clear_0 : decode M_SE_clear.2.1 0 = .ok (.aload_n 0, 1) := by decide +kernel
theorem d_SE_clear_1 : decode M_SE_clear.2.1 1 = .ok (.getfield 11, 3) := by decide +kernel
theorem d_SE_clear_4 : decode M_SE_clear.2.1 4 = .ok (.iconst (-1), 1) := by decide +kernel
theorem d_SE_clear_5 : decode M_SE_clear.2.1 5 = .ok (.invokestatic 27, 3) := by decide +kernel
theorem d_SE_clear_8 : decode M_SE_clear.2.1 8 = .ok (.aload_n 0, 1) := by decide +kernel
theorem d_SE_clear_9 : decode M_SE_clear.2.1 9 = .ok (.getfield 18, 3) := by decide +kernel
theorem d_SE_clear_12 : decode M_SE_clear.2.1 12 = .ok (.iconst (-1), 1) := by decide +kernel
theorem d_SE_clear_13 : decode M_SE_clear.2.1 13 = .ok (.invokestatic 27, 3) := by decide +kernel
theorem d_SE_clear_16 : decode M_SE_clear.2.1 16 = .ok (.aload_n 0, 1) := by decide +kernel
theorem d_SE_clear_17 : decode M_SE_clear.2.1 17 = .ok (.getfield 24, 3) := by decide +kernel
theorem d_SE_clear_20 : decode M_SE_clear.2.1 20 = .ok (.iconst (-1), 1) := by decide +kernel
theorem d_SE_clear_21 : decode M_SE_clear.2.1 21 = .ok (.invokestatic 27, 3) := by decide +kernel
theorem d_SE_clear_24 : decode M_SE_clear.2.1 24 = .ok (.return_, 1) := by decide +kernel
theorem d_SE_isEntered_0 : decode M_SE_isEntered.2.1 0 = .ok (.aload_n 0, 1) := by decide +kernel
theorem d_SE_isEntered_1 : decode M_SE_isEntered.2.1 1 = .ok (.getfield 11, 3) := by decide +kernel
theorem d_SE_isEntered_4 : decode M_SE_isEntered.2.1 4 = .ok (.iload_n 1, 1) := by decide +kernel
theorem d_SE_isEntered_5 : decode M_SE_isEntered.2.1 5 = .ok (.iaload, 1) := by decide +kernel
theorem d_SE_isEntered_6 : decode M_SE_isEntered.2.1 6 = .ok (.iload_n 2, 1) := by decide +kernel
theorem d_SE_isEntered_7 : decode M_SE_isEntered.2.1 7 = .ok (.if_icmp .ne 7, 3) := by decide +kernel
theorem d_SE_isEntered_10 : decode M_SE_isEntered.2.1 10 = .ok (.iconst 1, 1) := by decide +kernel
theorem d_SE_isEntered_11 : decode M_SE_isEntered.2.1 11 = .ok (.goto 4, 3) := by decide +kernel
theorem d_SE_isEntered_14 : decode M_SE_isEntered.2.1 14 = .ok (.iconst 0, 1) := by decide +kernel
theorem d_SE_isEntered_15 : decode M_SE_isEntered.2.1 15 = .ok (.ireturn, 1) := by decide +kernel
theorem d_SE_stateIn_0 : decode M_SE_stateIn.2.1 0 = .ok (.aload_n 0, 1) := by decide +kernel
theorem d_SE_stateIn_1 : decode M_SE_stateIn.2.1 1 = .ok (.iload_n 1, 1) := by decide +kernel
theorem d_SE_stateIn_2 : decode M_SE_stateIn.2.1 2 = .ok (.iload_n 2, 1) := by decide +kernel
theorem d_SE_stateIn_3 : decode M_SE_stateIn.2.1 3 = .ok (.invokevirtual 33, 3) := by decide +kernel
theorem d_SE_stateIn_6 : decode M_SE_stateIn.2.1 6 = .ok (.ifCond .eq 12, 3) := by decide +kernel
theorem d_SE_stateIn_9 : decode M_SE_stateIn.2.1 9 = .ok (.aload_n 0, 1) := by decide +kernel
theorem d_SE_stateIn_10 : decode M_SE_stateIn.2.1 10 = .ok (.getfield 15, 3) := by decide +kernel
theorem d_SE_stateIn_13 : decode M_SE_stateIn.2.1 13 = .ok (.iload_n 1, 1) := by decide +kernel
theorem d_SE_stateIn_14 : decode M_SE_stateIn.2.1 14 = .ok (.iaload, 1) := by decide +kernel
theorem d_SE_stateIn_15 : decode M_SE_stateIn.2.1 15 = .ok (.goto 4, 3) := by decide +kernel
theorem d_SE_stateIn_18 : decode M_SE_stateIn.2.1 18 = .ok (.iload_n 3, 1) := by decide +kernel
theorem d_SE_stateIn_19 : decode M_SE_stateIn.2.1 19 = .ok (.ireturn, 1) := by decide +kernel
theorem d_SE_stateBefore_0 : decode M_SE_stateBefore.2.1 0 = .ok (.aload_n 0, 1) := by decide +kernel
theorem d_SE_stateBefore_1 : decode M_SE_stateBefore.2.1 1 = .ok (.iload_n 1, 1) := by decide +kernel
theorem d_SE_stateBefore_2 : decode M_SE_stateBefore.2.1 2 = .ok (.iload_n 2, 1) := by decide +kernel
theorem d_SE_stateBefore_3 : decode M_SE_stateBefore.2.1 3 = .ok (.iconst 1, 1) := by decide +kernel
theorem d_SE_stateBefore_4 : decode M_SE_stateBefore.2.1 4 = .ok (.isub, 1) := by decide +kernel
theorem d_SE_stateBefore_5 : decode M_SE_stateBefore.2.1 5 = .ok (.invokevirtual 33, 3) := by decide +kernel
theorem d_SE_stateBefore_8 : decode M_SE_stateBefore.2.1 8 = .ok (.ifCond .eq 10, 3) := by decide +kernel
theorem d_SE_stateBefore_11 : decode M_SE_stateBefore.2.1 11 = .ok (.aload_n 0, 1) := by decide +kernel
theorem d_SE_stateBefore_12 : decode M_SE_stateBefore.2.1 12 = .ok (.getfield 15, 3) := by decide +kernel
theorem d_SE_stateBefore_15 : decode M_SE_stateBefore.2.1 15 = .ok (.iload_n 1, 1) := by decide +kernel
theorem d_SE_stateBefore_16 : decode M_SE_stateBefore.2.1 16 = .ok (.iaload, 1) := by decide +kernel
theorem d_SE_stateBefore_17 : decode M_SE_stateBefore.2.1 17 = .ok (.ireturn, 1) := by decide +kernel
theorem d_SE_stateBefore_18 : decode M_SE_stateBefore.2.1 18 = .ok (.aload_n 0, 1) := by decide +kernel
theorem d_SE_stateBefore_19 : decode M_SE_stateBefore.2.1 19 = .ok (.iload_n 1, 1) := by decide +kernel
theorem d_SE_stateBefore_20 : decode M_SE_stateBefore.2.1 20 = .ok (.iload_n 2, 1) := by decide +kernel
theorem d_SE_stateBefore_21 : decode M_SE_stateBefore.2.1 21 = .ok (.invokevirtual 33, 3) := by decide +kernel
theorem d_SE_stateBefore_24 : decode M_SE_stateBefore.2.1 24 = .ok (.ifCond .eq 19, 3) := by decide +kernel
theorem d_SE_stateBefore_27 : decode M_SE_stateBefore.2.1 27 = .ok (.aload_n 0, 1) := by decide +kernel
theorem d_SE_stateBefore_28 : decode M_SE_stateBefore.2.1 28 = .ok (.getfield 18, 3) := by decide +kernel
theorem d_SE_stateBefore_31 : decode M_SE_stateBefore.2.1 31 = .ok (.iload_n 1, 1) := by decide +kernel
theorem d_SE_stateBefore_32 : decode M_SE_stateBefore.2.1 32 = .ok (.iaload, 1) := by decide +kernel
theorem d_SE_stateBefore_33 : decode M_SE_stateBefore.2.1 33 = .ok (.iload_n 2, 1) := by decide +kernel
theorem d_SE_stateBefore_34 : decode M_SE_stateBefore.2.1 34 = .ok (.iconst 1, 1) := by decide +kernel
theorem d_SE_stateBefore_35 : decode M_SE_stateBefore.2.1 35 = .ok (.isub, 1) := by decide +kernel
theorem d_SE_stateBefore_36 : decode M_SE_stateBefore.2.1 36 = .ok (.if_icmp .ne 7, 3) := by decide +kernel
theorem d_SE_stateBefore_39 : decode M_SE_stateBefore.2.1 39 = .ok (.iconst 1, 1) := by decide +kernel
theorem d_SE_stateBefore_40 : decode M_SE_stateBefore.2.1 40 = .ok (.goto 4, 3) := by decide +kernel
theorem d_SE_stateBefore_43 : decode M_SE_stateBefore.2.1 43 = .ok (.iconst 0, 1) := by decide +kernel
theorem d_SE_stateBefore_44 : decode M_SE_stateBefore.2.1 44 = .ok (.istore 4, 2) := by decide +kernel
theorem d_SE_stateBefore_46 : decode M_SE_stateBefore.2.1 46 = .ok (.iload 4, 2) := by decide +kernel
theorem d_SE_stateBefore_48 : decode M_SE_stateBefore.2.1 48 = .ok (.ifCond .eq 12, 3) := by decide +kernel
theorem d_SE_stateBefore_51 : decode M_SE_stateBefore.2.1 51 = .ok (.aload_n 0, 1) := by decide +kernel
theorem d_SE_stateBefore_52 : decode M_SE_stateBefore.2.1 52 = .ok (.getfield 21, 3) := by decide +kernel
theorem d_SE_stateBefore_55 : decode M_SE_stateBefore.2.1 55 = .ok (.iload_n 1, 1) := by decide +kernel
theorem d_SE_stateBefore_56 : decode M_SE_stateBefore.2.1 56 = .ok (.iaload, 1) := by decide +kernel
theorem d_SE_stateBefore_57 : decode M_SE_stateBefore.2.1 57 = .ok (.goto 4, 3) := by decide +kernel
theorem d_SE_stateBefore_60 : decode M_SE_stateBefore.2.1 60 = .ok (.iload_n 3, 1) := by decide +kernel
theorem d_SE_stateBefore_61 : decode M_SE_stateBefore.2.1 61 = .ok (.ireturn, 1) := by decide +kernel
theorem d_SE_enter_0 : decode M_SE_enter.2.1 0 = .ok (.aload_n 0, 1) := by decide +kernel
theorem d_SE_enter_1 : decode M_SE_enter.2.1 1 = .ok (.iload_n 1, 1) := by decide +kernel
theorem d_SE_enter_2 : decode M_SE_enter.2.1 2 = .ok (.iload_n 2, 1) := by decide +kernel
theorem d_SE_enter_3 : decode M_SE_enter.2.1 3 = .ok (.invokevirtual 33, 3) := by decide +kernel
theorem d_SE_enter_6 : decode M_SE_enter.2.1 6 = .ok (.ifCond .eq 4, 3) := by decide +kernel
theorem d_SE_enter_9 : decode M_SE_enter.2.1 9 = .ok (.return_, 1) := by decide +kernel
theorem d_SE_enter_10 : decode M_SE_enter.2.1 10 = .ok (.aload_n 0, 1) := by decide +kernel
theorem d_SE_enter_11 : decode M_SE_enter.2.1 11 = .ok (.getfield 18, 3) := by decide +kernel
theorem d_SE_enter_14 : decode M_SE_enter.2.1 14 = .ok (.iload_n 1, 1) := by decide +kernel
theorem d_SE_enter_15 : decode M_SE_enter.2.1 15 = .ok (.aload_n 0, 1) := by decide +kernel
theorem d_SE_enter_16 : decode M_SE_enter.2.1 16 = .ok (.getfield 11, 3) := by decide +kernel
theorem d_SE_enter_19 : decode M_SE_enter.2.1 19 = .ok (.iload_n 1, 1) := by decide +kernel
theorem d_SE_enter_20 : decode M_SE_enter.2.1 20 = .ok (.iaload, 1) := by decide +kernel
theorem d_SE_enter_21 : decode M_SE_enter.2.1 21 = .ok (.iastore, 1) := by decide +kernel
theorem d_SE_enter_22 : decode M_SE_enter.2.1 22 = .ok (.aload_n 0, 1) := by decide +kernel
theorem d_SE_enter_23 : decode M_SE_enter.2.1 23 = .ok (.getfield 21, 3) := by decide +kernel
theorem d_SE_enter_26 : decode M_SE_enter.2.1 26 = .ok (.iload_n 1, 1) := by decide +kernel
theorem d_SE_enter_27 : decode M_SE_enter.2.1 27 = .ok (.aload_n 0, 1) := by decide +kernel
theorem d_SE_enter_28 : decode M_SE_enter.2.1 28 = .ok (.getfield 15, 3) := by decide +kernel
theorem d_SE_enter_31 : decode M_SE_enter.2.1 31 = .ok (.iload_n 1, 1) := by decide +kernel
theorem d_SE_enter_32 : decode M_SE_enter.2.1 32 = .ok (.iaload, 1) := by decide +kernel
theorem d_SE_enter_33 : decode M_SE_enter.2.1 33 = .ok (.iastore, 1) := by decide +kernel
theorem d_SE_enter_34 : decode M_SE_enter.2.1 34 = .ok (.aload_n 0, 1) := by decide +kernel
theorem d_SE_enter_35 : decode M_SE_enter.2.1 35 = .ok (.getfield 11, 3) := by decide +kernel
theorem d_SE_enter_38 : decode M_SE_enter.2.1 38 = .ok (.iload_n 1, 1) := by decide +kernel
theorem d_SE_enter_39 : decode M_SE_enter.2.1 39 = .ok (.iload_n 2, 1) := by decide +kernel
theorem d_SE_enter_40 : decode M_SE_enter.2.1 40 = .ok (.iastore, 1) := by decide +kernel
theorem d_SE_enter_41 : decode M_SE_enter.2.1 41 = .ok (.aload_n 0, 1) := by decide +kernel
theorem d_SE_enter_42 : decode M_SE_enter.2.1 42 = .ok (.getfield 15, 3) := by decide +kernel
theorem d_SE_enter_45 : decode M_SE_enter.2.1 45 = .ok (.iload_n 1, 1) := by decide +kernel
theorem d_SE_enter_46 : decode M_SE_enter.2.1 46 = .ok (.iload_n 3, 1) := by decide +kernel
theorem d_SE_enter_47 : decode M_SE_enter.2.1 47 = .ok (.iastore, 1) := by decide +kernel
theorem d_SE_enter_48 : decode M_SE_enter.2.1 48 = .ok (.return_, 1) := by decide +kernel
theorem d_SE_setState_0 : decode M_SE_setState.2.1 0 = .ok (.aload_n 0, 1) := by decide +kernel
theorem d_SE_setState_1 : decode M_SE_setState.2.1 1 = .ok (.getfield 15, 3) := by decide +kernel
theorem d_SE_setState_4 : decode M_SE_setState.2.1 4 = .ok (.iload_n 1, 1) := by decide +kernel
theorem d_SE_setState_5 : decode M_SE_setState.2.1 5 = .ok (.iload_n 2, 1) := by decide +kernel
theorem d_SE_setState_6 : decode M_SE_setState.2.1 6 = .ok (.iastore, 1) := by decide +kernel
theorem d_SE_setState_7 : decode M_SE_setState.2.1 7 = .ok (.return_, 1) := by decide +kernel
theorem d_SE_hasCourtesy_0 : decode M_SE_hasCourtesy.2.1 0 = .ok (.aload_n 0, 1) := by decide +kernel
theorem d_SE_hasCourtesy_1 : decode M_SE_hasCourtesy.2.1 1 = .ok (.getfield 24, 3) := by decide +kernel
theorem d_SE_hasCourtesy_4 : decode M_SE_hasCourtesy.2.1 4 = .ok (.iload_n 1, 1) := by decide +kernel
theorem d_SE_hasCourtesy_5 : decode M_SE_hasCourtesy.2.1 5 = .ok (.iaload, 1) := by decide +kernel
theorem d_SE_hasCourtesy_6 : decode M_SE_hasCourtesy.2.1 6 = .ok (.iload_n 2, 1) := by decide +kernel
theorem d_SE_hasCourtesy_7 : decode M_SE_hasCourtesy.2.1 7 = .ok (.if_icmp .ne 7, 3) := by decide +kernel
theorem d_SE_hasCourtesy_10 : decode M_SE_hasCourtesy.2.1 10 = .ok (.iconst 1, 1) := by decide +kernel
theorem d_SE_hasCourtesy_11 : decode M_SE_hasCourtesy.2.1 11 = .ok (.goto 4, 3) := by decide +kernel
theorem d_SE_hasCourtesy_14 : decode M_SE_hasCourtesy.2.1 14 = .ok (.iconst 0, 1) := by decide +kernel
theorem d_SE_hasCourtesy_15 : decode M_SE_hasCourtesy.2.1 15 = .ok (.ireturn, 1) := by decide +kernel
theorem d_SE_setCourtesy_0 : decode M_SE_setCourtesy.2.1 0 = .ok (.aload_n 0, 1) := by decide +kernel
theorem d_SE_setCourtesy_1 : decode M_SE_setCourtesy.2.1 1 = .ok (.getfield 24, 3) := by decide +kernel
theorem d_SE_setCourtesy_4 : decode M_SE_setCourtesy.2.1 4 = .ok (.iload_n 1, 1) := by decide +kernel
theorem d_SE_setCourtesy_5 : decode M_SE_setCourtesy.2.1 5 = .ok (.iload_n 2, 1) := by decide +kernel
theorem d_SE_setCourtesy_6 : decode M_SE_setCourtesy.2.1 6 = .ok (.iastore, 1) := by decide +kernel
theorem d_SE_setCourtesy_7 : decode M_SE_setCourtesy.2.1 7 = .ok (.return_, 1) := by decide +kernel
theorem d_KR_alterOf_0 : decode M_KR_alterOf.2.1 0 = .ok (.getstatic 21, 3) := by decide +kernel
theorem d_KR_alterOf_3 : decode M_KR_alterOf.2.1 3 = .ok (.iload_n 1, 1) := by decide +kernel
theorem d_KR_alterOf_4 : decode M_KR_alterOf.2.1 4 = .ok (.iaload, 1) := by decide +kernel
theorem d_KR_alterOf_5 : decode M_KR_alterOf.2.1 5 = .ok (.istore_n 2, 1) := by decide +kernel
theorem d_KR_alterOf_6 : decode M_KR_alterOf.2.1 6 = .ok (.iload_n 2, 1) := by decide +kernel
theorem d_KR_alterOf_7 : decode M_KR_alterOf.2.1 7 = .ok (.iload_n 0, 1) := by decide +kernel
theorem d_KR_alterOf_8 : decode M_KR_alterOf.2.1 8 = .ok (.if_icmp .ge 5, 3) := by decide +kernel
theorem d_KR_alterOf_11 : decode M_KR_alterOf.2.1 11 = .ok (.iconst 2, 1) := by decide +kernel
theorem d_KR_alterOf_12 : decode M_KR_alterOf.2.1 12 = .ok (.ireturn, 1) := by decide +kernel
theorem d_KR_alterOf_13 : decode M_KR_alterOf.2.1 13 = .ok (.bipush 6, 2) := by decide +kernel
theorem d_KR_alterOf_15 : decode M_KR_alterOf.2.1 15 = .ok (.iload_n 2, 1) := by decide +kernel
theorem d_KR_alterOf_16 : decode M_KR_alterOf.2.1 16 = .ok (.isub, 1) := by decide +kernel
theorem d_KR_alterOf_17 : decode M_KR_alterOf.2.1 17 = .ok (.iload_n 0, 1) := by decide +kernel
theorem d_KR_alterOf_18 : decode M_KR_alterOf.2.1 18 = .ok (.ineg, 1) := by decide +kernel
theorem d_KR_alterOf_19 : decode M_KR_alterOf.2.1 19 = .ok (.if_icmp .ge 8, 3) := by decide +kernel
theorem d_KR_alterOf_22 : decode M_KR_alterOf.2.1 22 = .ok (.bipush (-2), 2) := by decide +kernel
theorem d_KR_alterOf_24 : decode M_KR_alterOf.2.1 24 = .ok (.goto 4, 3) := by decide +kernel
theorem d_KR_alterOf_27 : decode M_KR_alterOf.2.1 27 = .ok (.iconst 0, 1) := by decide +kernel
theorem d_KR_alterOf_28 : decode M_KR_alterOf.2.1 28 = .ok (.ireturn, 1) := by decide +kernel
theorem d_KR_layOut_0 : decode M_KR_layOut.2.1 0 = .ok (.aload_n 0, 1) := by decide +kernel
theorem d_KR_layOut_1 : decode M_KR_layOut.2.1 1 = .ok (.iconst 0, 1) := by decide +kernel
theorem d_KR_layOut_2 : decode M_KR_layOut.2.1 2 = .ok (.putfield 24, 3) := by decide +kernel
theorem d_KR_layOut_5 : decode M_KR_layOut.2.1 5 = .ok (.iload_n 1, 1) := by decide +kernel
theorem d_KR_layOut_6 : decode M_KR_layOut.2.1 6 = .ok (.iload_n 2, 1) := by decide +kernel
theorem d_KR_layOut_7 : decode M_KR_layOut.2.1 7 = .ok (.if_icmp .ne 4, 3) := by decide +kernel
theorem d_KR_layOut_10 : decode M_KR_layOut.2.1 10 = .ok (.return_, 1) := by decide +kernel
theorem d_KR_layOut_11 : decode M_KR_layOut.2.1 11 = .ok (.iload_n 1, 1) := by decide +kernel
theorem d_KR_layOut_12 : decode M_KR_layOut.2.1 12 = .ok (.ifCond .le 7, 3) := by decide +kernel
theorem d_KR_layOut_15 : decode M_KR_layOut.2.1 15 = .ok (.iload_n 2, 1) := by decide +kernel
theorem d_KR_layOut_16 : decode M_KR_layOut.2.1 16 = .ok (.ifCond .gt 11, 3) := by decide +kernel
theorem d_KR_layOut_19 : decode M_KR_layOut.2.1 19 = .ok (.iload_n 1, 1) := by decide +kernel
theorem d_KR_layOut_20 : decode M_KR_layOut.2.1 20 = .ok (.ifCond .ge 11, 3) := by decide +kernel
theorem d_KR_layOut_23 : decode M_KR_layOut.2.1 23 = .ok (.iload_n 2, 1) := by decide +kernel
theorem d_KR_layOut_24 : decode M_KR_layOut.2.1 24 = .ok (.ifCond .ge 7, 3) := by decide +kernel
theorem d_KR_layOut_27 : decode M_KR_layOut.2.1 27 = .ok (.iconst 1, 1) := by decide +kernel
theorem d_KR_layOut_28 : decode M_KR_layOut.2.1 28 = .ok (.goto 4, 3) := by decide +kernel
theorem d_KR_layOut_31 : decode M_KR_layOut.2.1 31 = .ok (.iconst 0, 1) := by decide +kernel
theorem d_KR_layOut_32 : decode M_KR_layOut.2.1 32 = .ok (.istore 5, 2) := by decide +kernel
theorem d_KR_layOut_34 : decode M_KR_layOut.2.1 34 = .ok (.iload 4, 2) := by decide +kernel
theorem d_KR_layOut_36 : decode M_KR_layOut.2.1 36 = .ok (.iconst 1, 1) := by decide +kernel
theorem d_KR_layOut_37 : decode M_KR_layOut.2.1 37 = .ok (.if_icmp .eq 14, 3) := by decide +kernel
theorem d_KR_layOut_40 : decode M_KR_layOut.2.1 40 = .ok (.iload 4, 2) := by decide +kernel
theorem d_KR_layOut_42 : decode M_KR_layOut.2.1 42 = .ok (.iconst 2, 1) := by decide +kernel
theorem d_KR_layOut_43 : decode M_KR_layOut.2.1 43 = .ok (.if_icmp .ne 15, 3) := by decide +kernel
theorem d_KR_layOut_46 : decode M_KR_layOut.2.1 46 = .ok (.iload 5, 2) := by decide +kernel
theorem d_KR_layOut_48 : decode M_KR_layOut.2.1 48 = .ok (.ifCond .ne 10, 3) := by decide +kernel
theorem d_KR_layOut_51 : decode M_KR_layOut.2.1 51 = .ok (.aload_n 0, 1) := by decide +kernel
theorem d_KR_layOut_52 : decode M_KR_layOut.2.1 52 = .ok (.iload_n 1, 1) := by decide +kernel
theorem d_KR_layOut_53 : decode M_KR_layOut.2.1 53 = .ok (.iload_n 2, 1) := by decide +kernel
theorem d_KR_layOut_54 : decode M_KR_layOut.2.1 54 = .ok (.iload_n 3, 1) := by decide +kernel
theorem d_KR_layOut_55 : decode M_KR_layOut.2.1 55 = .ok (.invokevirtual 28, 3) := by decide +kernel
theorem d_KR_layOut_58 : decode M_KR_layOut.2.1 58 = .ok (.iconst 0, 1) := by decide +kernel
theorem d_KR_layOut_59 : decode M_KR_layOut.2.1 59 = .ok (.istore 6, 2) := by decide +kernel
theorem d_KR_layOut_61 : decode M_KR_layOut.2.1 61 = .ok (.iload 6, 2) := by decide +kernel
theorem d_KR_layOut_63 : decode M_KR_layOut.2.1 63 = .ok (.iload_n 2, 1) := by decide +kernel
theorem d_KR_layOut_64 : decode M_KR_layOut.2.1 64 = .ok (.invokestatic 32, 3) := by decide +kernel
theorem d_KR_layOut_67 : decode M_KR_layOut.2.1 67 = .ok (.if_icmp .ge 36, 3) := by decide +kernel
theorem d_KR_layOut_70 : decode M_KR_layOut.2.1 70 = .ok (.iload_n 2, 1) := by decide +kernel
theorem d_KR_layOut_71 : decode M_KR_layOut.2.1 71 = .ok (.iload 6, 2) := by decide +kernel
theorem d_KR_layOut_73 : decode M_KR_layOut.2.1 73 = .ok (.invokestatic 38, 3) := by decide +kernel
theorem d_KR_layOut_76 : decode M_KR_layOut.2.1 76 = .ok (.istore 7, 2) := by decide +kernel
theorem d_KR_layOut_78 : decode M_KR_layOut.2.1 78 = .ok (.aload_n 0, 1) := by decide +kernel
theorem d_KR_layOut_79 : decode M_KR_layOut.2.1 79 = .ok (.iload 7, 2) := by decide +kernel
theorem d_KR_layOut_81 : decode M_KR_layOut.2.1 81 = .ok (.iload_n 2, 1) := by decide +kernel
theorem d_KR_layOut_82 : decode M_KR_layOut.2.1 82 = .ok (.iload 7, 2) := by decide +kernel
theorem d_KR_layOut_84 : decode M_KR_layOut.2.1 84 = .ok (.invokestatic 42, 3) := by decide +kernel
theorem d_KR_layOut_87 : decode M_KR_layOut.2.1 87 = .ok (.iload 7, 2) := by decide +kernel
theorem d_KR_layOut_89 : decode M_KR_layOut.2.1 89 = .ok (.iload_n 2, 1) := by decide +kernel
theorem d_KR_layOut_90 : decode M_KR_layOut.2.1 90 = .ok (.iload_n 3, 1) := by decide +kernel
theorem d_KR_layOut_91 : decode M_KR_layOut.2.1 91 = .ok (.invokestatic 45, 3) := by decide +kernel
theorem d_KR_layOut_94 : decode M_KR_layOut.2.1 94 = .ok (.invokevirtual 49, 3) := by decide +kernel
theorem d_KR_layOut_97 : decode M_KR_layOut.2.1 97 = .ok (.iinc 6 1, 3) := by decide +kernel
theorem d_KR_layOut_100 : decode M_KR_layOut.2.1 100 = .ok (.goto (-39), 3) := by decide +kernel
theorem d_KR_layOut_103 : decode M_KR_layOut.2.1 103 = .ok (.return_, 1) := by decide +kernel
theorem d_KR_addNaturals_0 : decode M_KR_addNaturals.2.1 0 = .ok (.iconst 0, 1) := by decide +kernel
theorem d_KR_addNaturals_1 : decode M_KR_addNaturals.2.1 1 = .ok (.istore 4, 2) := by decide +kernel
theorem d_KR_addNaturals_3 : decode M_KR_addNaturals.2.1 3 = .ok (.iload 4, 2) := by decide +kernel
theorem d_KR_addNaturals_5 : decode M_KR_addNaturals.2.1 5 = .ok (.iload_n 1, 1) := by decide +kernel
theorem d_KR_addNaturals_6 : decode M_KR_addNaturals.2.1 6 = .ok (.invokestatic 32, 3) := by decide +kernel
theorem d_KR_addNaturals_9 : decode M_KR_addNaturals.2.1 9 = .ok (.if_icmp .ge 40, 3) := by decide +kernel
theorem d_KR_addNaturals_12 : decode M_KR_addNaturals.2.1 12 = .ok (.iload_n 1, 1) := by decide +kernel
theorem d_KR_addNaturals_13 : decode M_KR_addNaturals.2.1 13 = .ok (.iload 4, 2) := by decide +kernel
theorem d_KR_addNaturals_15 : decode M_KR_addNaturals.2.1 15 = .ok (.invokestatic 38, 3) := by decide +kernel
theorem d_KR_addNaturals_18 : decode M_KR_addNaturals.2.1 18 = .ok (.istore 5, 2) := by decide +kernel
theorem d_KR_addNaturals_20 : decode M_KR_addNaturals.2.1 20 = .ok (.iload_n 2, 1) := by decide +kernel
theorem d_KR_addNaturals_21 : decode M_KR_addNaturals.2.1 21 = .ok (.iload 5, 2) := by decide +kernel
theorem d_KR_addNaturals_23 : decode M_KR_addNaturals.2.1 23 = .ok (.invokestatic 42, 3) := by decide +kernel
theorem d_KR_addNaturals_26 : decode M_KR_addNaturals.2.1 26 = .ok (.ifCond .ne 17, 3) := by decide +kernel
theorem d_KR_addNaturals_29 : decode M_KR_addNaturals.2.1 29 = .ok (.aload_n 0, 1) := by decide +kernel
theorem d_KR_addNaturals_30 : decode M_KR_addNaturals.2.1 30 = .ok (.iload 5, 2) := by decide +kernel
theorem d_KR_addNaturals_32 : decode M_KR_addNaturals.2.1 32 = .ok (.iconst 0, 1) := by decide +kernel
theorem d_KR_addNaturals_33 : decode M_KR_addNaturals.2.1 33 = .ok (.iload 5, 2) := by decide +kernel
theorem d_KR_addNaturals_35 : decode M_KR_addNaturals.2.1 35 = .ok (.iload_n 1, 1) := by decide +kernel
theorem d_KR_addNaturals_36 : decode M_KR_addNaturals.2.1 36 = .ok (.iload_n 3, 1) := by decide +kernel
theorem d_KR_addNaturals_37 : decode M_KR_addNaturals.2.1 37 = .ok (.invokestatic 45, 3) := by decide +kernel
theorem d_KR_addNaturals_40 : decode M_KR_addNaturals.2.1 40 = .ok (.invokevirtual 49, 3) := by decide +kernel
theorem d_KR_addNaturals_43 : decode M_KR_addNaturals.2.1 43 = .ok (.iinc 4 1, 3) := by decide +kernel
theorem d_KR_addNaturals_46 : decode M_KR_addNaturals.2.1 46 = .ok (.goto (-43), 3) := by decide +kernel
theorem d_KR_addNaturals_49 : decode M_KR_addNaturals.2.1 49 = .ok (.return_, 1) := by decide +kernel
theorem d_KR_letterOf_0 : decode M_KR_letterOf.2.1 0 = .ok (.iload_n 0, 1) := by decide +kernel
theorem d_KR_letterOf_1 : decode M_KR_letterOf.2.1 1 = .ok (.ifCond .le 11, 3) := by decide +kernel
theorem d_KR_letterOf_4 : decode M_KR_letterOf.2.1 4 = .ok (.getstatic 52, 3) := by decide +kernel
theorem d_KR_letterOf_7 : decode M_KR_letterOf.2.1 7 = .ok (.iload_n 1, 1) := by decide +kernel
theorem d_KR_letterOf_8 : decode M_KR_letterOf.2.1 8 = .ok (.iaload, 1) := by decide +kernel
theorem d_KR_letterOf_9 : decode M_KR_letterOf.2.1 9 = .ok (.goto 8, 3) := by decide +kernel
theorem d_KR_letterOf_12 : decode M_KR_letterOf.2.1 12 = .ok (.getstatic 55, 3) := by decide +kernel
theorem d_KR_letterOf_15 : decode M_KR_letterOf.2.1 15 = .ok (.iload_n 1, 1) := by decide +kernel
theorem d_KR_letterOf_16 : decode M_KR_letterOf.2.1 16 = .ok (.iaload, 1) := by decide +kernel
theorem d_KR_letterOf_17 : decode M_KR_letterOf.2.1 17 = .ok (.ireturn, 1) := by decide +kernel
theorem d_KR_placeFor_0 : decode M_KR_placeFor.2.1 0 = .ok (.iload_n 1, 1) := by decide +kernel
theorem d_KR_placeFor_1 : decode M_KR_placeFor.2.1 1 = .ok (.ifCond .le 11, 3) := by decide +kernel
theorem d_KR_placeFor_4 : decode M_KR_placeFor.2.1 4 = .ok (.getstatic 58, 3) := by decide +kernel
theorem d_KR_placeFor_7 : decode M_KR_placeFor.2.1 7 = .ok (.iload_n 2, 1) := by decide +kernel
theorem d_KR_placeFor_8 : decode M_KR_placeFor.2.1 8 = .ok (.iaload, 1) := by decide +kernel
theorem d_KR_placeFor_9 : decode M_KR_placeFor.2.1 9 = .ok (.goto 8, 3) := by decide +kernel
theorem d_KR_placeFor_12 : decode M_KR_placeFor.2.1 12 = .ok (.getstatic 61, 3) := by decide +kernel
theorem d_KR_placeFor_15 : decode M_KR_placeFor.2.1 15 = .ok (.iload_n 2, 1) := by decide +kernel
theorem d_KR_placeFor_16 : decode M_KR_placeFor.2.1 16 = .ok (.iaload, 1) := by decide +kernel
theorem d_KR_placeFor_17 : decode M_KR_placeFor.2.1 17 = .ok (.istore_n 3, 1) := by decide +kernel
theorem d_KR_placeFor_18 : decode M_KR_placeFor.2.1 18 = .ok (.getstatic 64, 3) := by decide +kernel
theorem d_KR_placeFor_21 : decode M_KR_placeFor.2.1 21 = .ok (.iload_n 2, 1) := by decide +kernel
theorem d_KR_placeFor_22 : decode M_KR_placeFor.2.1 22 = .ok (.iaload, 1) := by decide +kernel
theorem d_KR_placeFor_23 : decode M_KR_placeFor.2.1 23 = .ok (.iload_n 3, 1) := by decide +kernel
