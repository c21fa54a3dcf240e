/-! decode rows, by program -/
theorem d_MD_dot_483 : decode M_MD_dot.2.1 483 = .ok (.ireturn, 1) := by decide +kernel
theorem d_MD_keyBefore_0 : decode M_MD_keyBefore.2.1 0 = .ok (.iload_n 1, 1) := by decide +kernel
theorem d_MD_keyBefore_1 : decode M_MD_keyBefore.2.1 1 = .ok (.ifCond .ne 7, 3) := by decide +kernel
theorem d_MD_keyBefore_4 : decode M_MD_keyBefore.2.1 4 = .ok (.iconst 0, 1) := by decide +kernel
theorem d_MD_keyBefore_5 : decode M_MD_keyBefore.2.1 5 = .ok (.goto 10, 3) := by decide +kernel
theorem d_MD_keyBefore_8 : decode M_MD_keyBefore.2.1 8 = .ok (.aload_n 0, 1) := by decide +kernel
theorem d_MD_keyBefore_9 : decode M_MD_keyBefore.2.1 9 = .ok (.iload_n 1, 1) := by decide +kernel
theorem d_MD_keyBefore_10 : decode M_MD_keyBefore.2.1 10 = .ok (.iconst 1, 1) := by decide +kernel
theorem d_MD_keyBefore_11 : decode M_MD_keyBefore.2.1 11 = .ok (.isub, 1) := by decide +kernel
theorem d_MD_keyBefore_12 : decode M_MD_keyBefore.2.1 12 = .ok (.invokevirtual 115, 3) := by decide +kernel
theorem d_MD_keyBefore_15 : decode M_MD_keyBefore.2.1 15 = .ok (.ireturn, 1) := by decide +kernel
theorem d_MD_naturals_0 : decode M_MD_naturals.2.1 0 = .ok (.aload_n 0, 1) := by decide +kernel
theorem d_MD_naturals_1 : decode M_MD_naturals.2.1 1 = .ok (.iload_n 1, 1) := by decide +kernel
theorem d_MD_naturals_2 : decode M_MD_naturals.2.1 2 = .ok (.invokevirtual 191, 3) := by decide +kernel
theorem d_MD_naturals_5 : decode M_MD_naturals.2.1 5 = .ok (.istore_n 3, 1) := by decide +kernel
theorem d_MD_naturals_6 : decode M_MD_naturals.2.1 6 = .ok (.aload_n 0, 1) := by decide +kernel
theorem d_MD_naturals_7 : decode M_MD_naturals.2.1 7 = .ok (.iload_n 1, 1) := by decide +kernel
theorem d_MD_naturals_8 : decode M_MD_naturals.2.1 8 = .ok (.invokevirtual 115, 3) := by decide +kernel
theorem d_MD_naturals_11 : decode M_MD_naturals.2.1 11 = .ok (.istore 4, 2) := by decide +kernel
theorem d_MD_naturals_13 : decode M_MD_naturals.2.1 13 = .ok (.aload_n 0, 1) := by decide +kernel
theorem d_MD_naturals_14 : decode M_MD_naturals.2.1 14 = .ok (.iconst (-1), 1) := by decide +kernel
theorem d_MD_naturals_15 : decode M_MD_naturals.2.1 15 = .ok (.putfield 194, 3) := by decide +kernel
theorem d_MD_naturals_18 : decode M_MD_naturals.2.1 18 = .ok (.iload 4, 2) := by decide +kernel
theorem d_MD_naturals_20 : decode M_MD_naturals.2.1 20 = .ok (.iload_n 3, 1) := by decide +kernel
theorem d_MD_naturals_21 : decode M_MD_naturals.2.1 21 = .ok (.if_icmp .eq 53, 3) := by decide +kernel
theorem d_MD_naturals_24 : decode M_MD_naturals.2.1 24 = .ok (.aload_n 0, 1) := by decide +kernel
theorem d_MD_naturals_25 : decode M_MD_naturals.2.1 25 = .ok (.getfield 40, 3) := by decide +kernel
theorem d_MD_naturals_28 : decode M_MD_naturals.2.1 28 = .ok (.iconst 4, 1) := by decide +kernel
theorem d_MD_naturals_29 : decode M_MD_naturals.2.1 29 = .ok (.iaload, 1) := by decide +kernel
theorem d_MD_naturals_30 : decode M_MD_naturals.2.1 30 = .ok (.ifCond .eq 44, 3) := by decide +kernel
theorem d_MD_naturals_33 : decode M_MD_naturals.2.1 33 = .ok (.aload_n 0, 1) := by decide +kernel
theorem d_MD_naturals_34 : decode M_MD_naturals.2.1 34 = .ok (.getfield 40, 3) := by decide +kernel
theorem d_MD_naturals_37 : decode M_MD_naturals.2.1 37 = .ok (.iconst 4, 1) := by decide +kernel
theorem d_MD_naturals_38 : decode M_MD_naturals.2.1 38 = .ok (.iaload, 1) := by decide +kernel
theorem d_MD_naturals_39 : decode M_MD_naturals.2.1 39 = .ok (.iconst 2, 1) := by decide +kernel
theorem d_MD_naturals_40 : decode M_MD_naturals.2.1 40 = .ok (.if_icmp .ne 36, 3) := by decide +kernel
theorem d_MD_naturals_43 : decode M_MD_naturals.2.1 43 = .ok (.iload 4, 2) := by decide +kernel
theorem d_MD_naturals_45 : decode M_MD_naturals.2.1 45 = .ok (.ifCond .eq 31, 3) := by decide +kernel
theorem d_MD_naturals_48 : decode M_MD_naturals.2.1 48 = .ok (.iload 4, 2) := by decide +kernel
theorem d_MD_naturals_50 : decode M_MD_naturals.2.1 50 = .ok (.ifCond .le 7, 3) := by decide +kernel
theorem d_MD_naturals_53 : decode M_MD_naturals.2.1 53 = .ok (.iconst 1, 1) := by decide +kernel
theorem d_MD_naturals_54 : decode M_MD_naturals.2.1 54 = .ok (.goto 4, 3) := by decide +kernel
theorem d_MD_naturals_57 : decode M_MD_naturals.2.1 57 = .ok (.iconst 0, 1) := by decide +kernel
theorem d_MD_naturals_58 : decode M_MD_naturals.2.1 58 = .ok (.iload_n 3, 1) := by decide +kernel
theorem d_MD_naturals_59 : decode M_MD_naturals.2.1 59 = .ok (.ifCond .le 7, 3) := by decide +kernel
theorem d_MD_naturals_62 : decode M_MD_naturals.2.1 62 = .ok (.iconst 1, 1) := by decide +kernel
theorem d_MD_naturals_63 : decode M_MD_naturals.2.1 63 = .ok (.goto 4, 3) := by decide +kernel
theorem d_MD_naturals_66 : decode M_MD_naturals.2.1 66 = .ok (.iconst 0, 1) := by decide +kernel
theorem d_MD_naturals_67 : decode M_MD_naturals.2.1 67 = .ok (.if_icmp .ne 9, 3) := by decide +kernel
theorem d_MD_naturals_70 : decode M_MD_naturals.2.1 70 = .ok (.iload_n 3, 1) := by decide +kernel
theorem d_MD_naturals_71 : decode M_MD_naturals.2.1 71 = .ok (.ifCond .eq 5, 3) := by decide +kernel
theorem d_MD_naturals_74 : decode M_MD_naturals.2.1 74 = .ok (.iconst 0, 1) := by decide +kernel
theorem d_MD_naturals_75 : decode M_MD_naturals.2.1 75 = .ok (.ireturn, 1) := by decide +kernel
theorem d_MD_naturals_76 : decode M_MD_naturals.2.1 76 = .ok (.iconst 0, 1) := by decide +kernel
theorem d_MD_naturals_77 : decode M_MD_naturals.2.1 77 = .ok (.istore 5, 2) := by decide +kernel
theorem d_MD_naturals_79 : decode M_MD_naturals.2.1 79 = .ok (.iconst 0, 1) := by decide +kernel
theorem d_MD_naturals_80 : decode M_MD_naturals.2.1 80 = .ok (.istore 6, 2) := by decide +kernel
theorem d_MD_naturals_82 : decode M_MD_naturals.2.1 82 = .ok (.iload 6, 2) := by decide +kernel
theorem d_MD_naturals_84 : decode M_MD_naturals.2.1 84 = .ok (.iload_n 3, 1) := by decide +kernel
theorem d_MD_naturals_85 : decode M_MD_naturals.2.1 85 = .ok (.ifCond .ge 8, 3) := by decide +kernel
theorem d_MD_naturals_88 : decode M_MD_naturals.2.1 88 = .ok (.iload_n 3, 1) := by decide +kernel
theorem d_MD_naturals_89 : decode M_MD_naturals.2.1 89 = .ok (.ineg, 1) := by decide +kernel
theorem d_MD_naturals_90 : decode M_MD_naturals.2.1 90 = .ok (.goto 4, 3) := by decide +kernel
theorem d_MD_naturals_93 : decode M_MD_naturals.2.1 93 = .ok (.iload_n 3, 1) := by decide +kernel
theorem d_MD_naturals_94 : decode M_MD_naturals.2.1 94 = .ok (.if_icmp .ge 57, 3) := by decide +kernel
theorem d_MD_naturals_97 : decode M_MD_naturals.2.1 97 = .ok (.iload 6, 2) := by decide +kernel
theorem d_MD_naturals_99 : decode M_MD_naturals.2.1 99 = .ok (.iload_n 3, 1) := by decide +kernel
theorem d_MD_naturals_100 : decode M_MD_naturals.2.1 100 = .ok (.ifCond .le 7, 3) := by decide +kernel
theorem d_MD_naturals_103 : decode M_MD_naturals.2.1 103 = .ok (.iconst 1, 1) := by decide +kernel
theorem d_MD_naturals_104 : decode M_MD_naturals.2.1 104 = .ok (.goto 4, 3) := by decide +kernel
theorem d_MD_naturals_107 : decode M_MD_naturals.2.1 107 = .ok (.iconst 0, 1) := by decide +kernel
theorem d_MD_naturals_108 : decode M_MD_naturals.2.1 108 = .ok (.invokestatic 121, 3) := by decide +kernel
theorem d_MD_naturals_111 : decode M_MD_naturals.2.1 111 = .ok (.istore 7, 2) := by decide +kernel
theorem d_MD_naturals_113 : decode M_MD_naturals.2.1 113 = .ok (.iload 4, 2) := by decide +kernel
theorem d_MD_naturals_115 : decode M_MD_naturals.2.1 115 = .ok (.iload 7, 2) := by decide +kernel
theorem d_MD_naturals_117 : decode M_MD_naturals.2.1 117 = .ok (.invokestatic 128, 3) := by decide +kernel
theorem d_MD_naturals_120 : decode M_MD_naturals.2.1 120 = .ok (.ifCond .ne 25, 3) := by decide +kernel
theorem d_MD_naturals_123 : decode M_MD_naturals.2.1 123 = .ok (.aload_n 0, 1) := by decide +kernel
theorem d_MD_naturals_124 : decode M_MD_naturals.2.1 124 = .ok (.iload 5, 2) := by decide +kernel
theorem d_MD_naturals_126 : decode M_MD_naturals.2.1 126 = .ok (.iload_n 2, 1) := by decide +kernel
theorem d_MD_naturals_127 : decode M_MD_naturals.2.1 127 = .ok (.if_icmp .ne 8, 3) := by decide +kernel
theorem d_MD_naturals_130 : decode M_MD_naturals.2.1 130 = .ok (.iload 7, 2) := by decide +kernel
theorem d_MD_naturals_132 : decode M_MD_naturals.2.1 132 = .ok (.goto 7, 3) := by decide +kernel
theorem d_MD_naturals_135 : decode M_MD_naturals.2.1 135 = .ok (.aload_n 0, 1) := by decide +kernel
theorem d_MD_naturals_136 : decode M_MD_naturals.2.1 136 = .ok (.getfield 194, 3) := by decide +kernel
theorem d_MD_naturals_139 : decode M_MD_naturals.2.1 139 = .ok (.putfield 194, 3) := by decide +kernel
theorem d_MD_naturals_142 : decode M_MD_naturals.2.1 142 = .ok (.iinc 5 1, 3) := by decide +kernel
theorem d_MD_naturals_145 : decode M_MD_naturals.2.1 145 = .ok (.iinc 6 1, 3) := by decide +kernel
theorem d_MD_naturals_148 : decode M_MD_naturals.2.1 148 = .ok (.goto (-66), 3) := by decide +kernel
theorem d_MD_naturals_151 : decode M_MD_naturals.2.1 151 = .ok (.iload 5, 2) := by decide +kernel
theorem d_MD_naturals_153 : decode M_MD_naturals.2.1 153 = .ok (.ireturn, 1) := by decide +kernel
theorem d_MD_keySigns_0 : decode M_MD_keySigns.2.1 0 = .ok (.iload_n 1, 1) := by decide +kernel
theorem d_MD_keySigns_1 : decode M_MD_keySigns.2.1 1 = .ok (.iconst 0, 1) := by decide +kernel
theorem d_MD_keySigns_2 : decode M_MD_keySigns.2.1 2 = .ok (.bipush 19, 2) := by decide +kernel
theorem d_MD_keySigns_4 : decode M_MD_keySigns.2.1 4 = .ok (.invokestatic 93, 3) := by decide +kernel
theorem d_MD_keySigns_7 : decode M_MD_keySigns.2.1 7 = .ok (.ifCond .ne 6, 3) := by decide +kernel
theorem d_MD_keySigns_10 : decode M_MD_keySigns.2.1 10 = .ok (.bipush (-3), 2) := by decide +kernel
theorem d_MD_keySigns_12 : decode M_MD_keySigns.2.1 12 = .ok (.ireturn, 1) := by decide +kernel
theorem d_MD_keySigns_13 : decode M_MD_keySigns.2.1 13 = .ok (.aload_n 0, 1) := by decide +kernel
theorem d_MD_keySigns_14 : decode M_MD_keySigns.2.1 14 = .ok (.iload_n 1, 1) := by decide +kernel
theorem d_MD_keySigns_15 : decode M_MD_keySigns.2.1 15 = .ok (.invokevirtual 115, 3) := by decide +kernel
theorem d_MD_keySigns_18 : decode M_MD_keySigns.2.1 18 = .ok (.istore_n 2, 1) := by decide +kernel
theorem d_MD_keySigns_19 : decode M_MD_keySigns.2.1 19 = .ok (.iload_n 2, 1) := by decide +kernel
theorem d_MD_keySigns_20 : decode M_MD_keySigns.2.1 20 = .ok (.aload_n 0, 1) := by decide +kernel
theorem d_MD_keySigns_21 : decode M_MD_keySigns.2.1 21 = .ok (.iload_n 1, 1) := by decide +kernel
theorem d_MD_keySigns_22 : decode M_MD_keySigns.2.1 22 = .ok (.invokevirtual 191, 3) := by decide +kernel
theorem d_MD_keySigns_25 : decode M_MD_keySigns.2.1 25 = .ok (.if_icmp .ne 7, 3) := by decide +kernel
theorem d_MD_keySigns_28 : decode M_MD_keySigns.2.1 28 = .ok (.iconst 0, 1) := by decide +kernel
theorem d_MD_keySigns_29 : decode M_MD_keySigns.2.1 29 = .ok (.goto 20, 3) := by decide +kernel
theorem d_MD_keySigns_32 : decode M_MD_keySigns.2.1 32 = .ok (.aload_n 0, 1) := by decide +kernel
theorem d_MD_keySigns_33 : decode M_MD_keySigns.2.1 33 = .ok (.iload_n 1, 1) := by decide +kernel
theorem d_MD_keySigns_34 : decode M_MD_keySigns.2.1 34 = .ok (.iconst (-1), 1) := by decide +kernel
theorem d_MD_keySigns_35 : decode M_MD_keySigns.2.1 35 = .ok (.invokevirtual 197, 3) := by decide +kernel
theorem d_MD_keySigns_38 : decode M_MD_keySigns.2.1 38 = .ok (.iload_n 2, 1) := by decide +kernel
theorem d_MD_keySigns_39 : decode M_MD_keySigns.2.1 39 = .ok (.ifCond .ge 8, 3) := by decide +kernel
theorem d_MD_keySigns_42 : decode M_MD_keySigns.2.1 42 = .ok (.iload_n 2, 1) := by decide +kernel
theorem d_MD_keySigns_43 : decode M_MD_keySigns.2.1 43 = .ok (.ineg, 1) := by decide +kernel
theorem d_MD_keySigns_44 : decode M_MD_keySigns.2.1 44 = .ok (.goto 4, 3) := by decide +kernel
theorem d_MD_keySigns_47 : decode M_MD_keySigns.2.1 47 = .ok (.iload_n 2, 1) := by decide +kernel
theorem d_MD_keySigns_48 : decode M_MD_keySigns.2.1 48 = .ok (.iadd, 1) := by decide +kernel
theorem d_MD_keySigns_49 : decode M_MD_keySigns.2.1 49 = .ok (.ireturn, 1) := by decide +kernel
theorem d_MD_keySign_0 : decode M_MD_keySign.2.1 0 = .ok (.iload_n 1, 1) := by decide +kernel
theorem d_MD_keySign_1 : decode M_MD_keySign.2.1 1 = .ok (.iconst 0, 1) := by decide +kernel
theorem d_MD_keySign_2 : decode M_MD_keySign.2.1 2 = .ok (.bipush 19, 2) := by decide +kernel
theorem d_MD_keySign_4 : decode M_MD_keySign.2.1 4 = .ok (.invokestatic 93, 3) := by decide +kernel
theorem d_MD_keySign_7 : decode M_MD_keySign.2.1 7 = .ok (.ifCond .eq 12, 3) := by decide +kernel
theorem d_MD_keySign_10 : decode M_MD_keySign.2.1 10 = .ok (.iload_n 3, 1) := by decide +kernel
theorem d_MD_keySign_11 : decode M_MD_keySign.2.1 11 = .ok (.iconst 0, 1) := by decide +kernel
theorem d_MD_keySign_12 : decode M_MD_keySign.2.1 12 = .ok (.iconst 2, 1) := by decide +kernel
theorem d_MD_keySign_13 : decode M_MD_keySign.2.1 13 = .ok (.invokestatic 93, 3) := by decide +kernel
theorem d_MD_keySign_16 : decode M_MD_keySign.2.1 16 = .ok (.ifCond .ne 6, 3) := by decide +kernel
theorem d_MD_keySign_19 : decode M_MD_keySign.2.1 19 = .ok (.bipush (-3), 2) := by decide +kernel
theorem d_MD_keySign_21 : decode M_MD_keySign.2.1 21 = .ok (.ireturn, 1) := by decide +kernel
theorem d_MD_keySign_22 : decode M_MD_keySign.2.1 22 = .ok (.iload_n 2, 1) := by decide +kernel
theorem d_MD_keySign_23 : decode M_MD_keySign.2.1 23 = .ok (.iconst 0, 1) := by decide +kernel
theorem d_MD_keySign_24 : decode M_MD_keySign.2.1 24 = .ok (.aload_n 0, 1) := by decide +kernel
theorem d_MD_keySign_25 : decode M_MD_keySign.2.1 25 = .ok (.iload_n 1, 1) := by decide +kernel
theorem d_MD_keySign_26 : decode M_MD_keySign.2.1 26 = .ok (.invokevirtual 200, 3) := by decide +kernel
theorem d_MD_keySign_29 : decode M_MD_keySign.2.1 29 = .ok (.iconst 1, 1) := by decide +kernel
theorem d_MD_keySign_30 : decode M_MD_keySign.2.1 30 = .ok (.isub, 1) := by decide +kernel
theorem d_MD_keySign_31 : decode M_MD_keySign.2.1 31 = .ok (.invokestatic 93, 3) := by decide +kernel
theorem d_MD_keySign_34 : decode M_MD_keySign.2.1 34 = .ok (.ifCond .ne 6, 3) := by decide +kernel
theorem d_MD_keySign_37 : decode M_MD_keySign.2.1 37 = .ok (.bipush (-2), 2) := by decide +kernel
theorem d_MD_keySign_39 : decode M_MD_keySign.2.1 39 = .ok (.ireturn, 1) := by decide +kernel
theorem d_MD_keySign_40 : decode M_MD_keySign.2.1 40 = .ok (.aload_n 0, 1) := by decide +kernel
theorem d_MD_keySign_41 : decode M_MD_keySign.2.1 41 = .ok (.iload_n 1, 1) := by decide +kernel
theorem d_MD_keySign_42 : decode M_MD_keySign.2.1 42 = .ok (.iload_n 2, 1) := by decide +kernel
theorem d_MD_keySign_43 : decode M_MD_keySign.2.1 43 = .ok (.invokevirtual 197, 3) := by decide +kernel
theorem d_MD_keySign_46 : decode M_MD_keySign.2.1 46 = .ok (.istore 4, 2) := by decide +kernel
theorem d_MD_keySign_48 : decode M_MD_keySign.2.1 48 = .ok (.iload_n 2, 1) := by decide +kernel
theorem d_MD_keySign_49 : decode M_MD_keySign.2.1 49 = .ok (.iload 4, 2) := by decide +kernel
theorem d_MD_keySign_51 : decode M_MD_keySign.2.1 51 = .ok (.if_icmp .ge 11, 3) := by decide +kernel
theorem d_MD_keySign_54 : decode M_MD_keySign.2.1 54 = .ok (.aload_n 0, 1) := by decide +kernel
theorem d_MD_keySign_55 : decode M_MD_keySign.2.1 55 = .ok (.iload_n 1, 1) := by decide +kernel
theorem d_MD_keySign_56 : decode M_MD_keySign.2.1 56 = .ok (.invokevirtual 191, 3) := by decide +kernel
theorem d_MD_keySign_59 : decode M_MD_keySign.2.1 59 = .ok (.goto 8, 3) := by decide +kernel
theorem d_MD_keySign_62 : decode M_MD_keySign.2.1 62 = .ok (.aload_n 0, 1) := by decide +kernel
theorem d_MD_keySign_63 : decode M_MD_keySign.2.1 63 = .ok (.iload_n 1, 1) := by decide +kernel
theorem d_MD_keySign_64 : decode M_MD_keySign.2.1 64 = .ok (.invokevirtual 115, 3) := by decide +kernel
theorem d_MD_keySign_67 : decode M_MD_keySign.2.1 67 = .ok (.istore 5, 2) := by decide +kernel
theorem d_MD_keySign_69 : decode M_MD_keySign.2.1 69 = .ok (.iload_n 2, 1) := by decide +kernel
theorem d_MD_keySign_70 : decode M_MD_keySign.2.1 70 = .ok (.iload 4, 2) := by decide +kernel
theorem d_MD_keySign_72 : decode M_MD_keySign.2.1 72 = .ok (.if_icmp .ge 10, 3) := by decide +kernel
theorem d_MD_keySign_75 : decode M_MD_keySign.2.1 75 = .ok (.aload_n 0, 1) := by decide +kernel
theorem d_MD_keySign_76 : decode M_MD_keySign.2.1 76 = .ok (.getfield 194, 3) := by decide +kernel
theorem d_MD_keySign_79 : decode M_MD_keySign.2.1 79 = .ok (.goto 20, 3) := by decide +kernel
theorem d_MD_keySign_82 : decode M_MD_keySign.2.1 82 = .ok (.iload_n 2, 1) := by decide +kernel
theorem d_MD_keySign_83 : decode M_MD_keySign.2.1 83 = .ok (.iload 4, 2) := by decide +kernel
theorem d_MD_keySign_85 : decode M_MD_keySign.2.1 85 = .ok (.isub, 1) := by decide +kernel
theorem d_MD_keySign_86 : decode M_MD_keySign.2.1 86 = .ok (.iload 5, 2) := by decide +kernel
theorem d_MD_keySign_88 : decode M_MD_keySign.2.1 88 = .ok (.ifCond .le 7, 3) := by decide +kernel
theorem d_MD_keySign_91 : decode M_MD_keySign.2.1 91 = .ok (.iconst 1, 1) := by decide +kernel
theorem d_MD_keySign_92 : decode M_MD_keySign.2.1 92 = .ok (.goto 4, 3) := by decide +kernel
theorem d_MD_keySign_95 : decode M_MD_keySign.2.1 95 = .ok (.iconst 0, 1) := by decide +kernel
theorem d_MD_keySign_96 : decode M_MD_keySign.2.1 96 = .ok (.invokestatic 121, 3) := by decide +kernel
theorem d_MD_keySign_99 : decode M_MD_keySign.2.1 99 = .ok (.istore 6, 2) := by decide +kernel
theorem d_MD_keySign_101 : decode M_MD_keySign.2.1 101 = .ok (.iload_n 3, 1) := by decide +kernel
theorem d_MD_keySign_102 : decode M_MD_keySign.2.1 102 = .ok (.ifCond .ne 6, 3) := by decide +kernel
theorem d_MD_keySign_105 : decode M_MD_keySign.2.1 105 = .ok (.iload 6, 2) := by decide +kernel
theorem d_MD_keySign_107 : decode M_MD_keySign.2.1 107 = .ok (.ireturn, 1) := by decide +kernel
theorem d_MD_keySign_108 : decode M_MD_keySign.2.1 108 = .ok (.iload_n 3, 1) := by decide +kernel
theorem d_MD_keySign_109 : decode M_MD_keySign.2.1 109 = .ok (.iconst 1, 1) := by decide +kernel
theorem d_MD_keySign_110 : decode M_MD_keySign.2.1 110 = .ok (.if_icmp .ne 27, 3) := by decide +kernel
theorem d_MD_keySign_113 : decode M_MD_keySign.2.1 113 = .ok (.iload_n 2, 1) := by decide +kernel
theorem d_MD_keySign_114 : decode M_MD_keySign.2.1 114 = .ok (.iload 4, 2) := by decide +kernel
theorem d_MD_keySign_116 : decode M_MD_keySign.2.1 116 = .ok (.if_icmp .ge 8, 3) := by decide +kernel
theorem d_MD_keySign_119 : decode M_MD_keySign.2.1 119 = .ok (.bipush 10, 2) := by decide +kernel
theorem d_MD_keySign_121 : decode M_MD_keySign.2.1 121 = .ok (.goto 15, 3) := by decide +kernel
theorem d_MD_keySign_124 : decode M_MD_keySign.2.1 124 = .ok (.iload 5, 2) := by decide +kernel
theorem d_MD_keySign_126 : decode M_MD_keySign.2.1 126 = .ok (.ifCond .le 8, 3) := by decide +kernel
theorem d_MD_keySign_129 : decode M_MD_keySign.2.1 129 = .ok (.bipush 12, 2) := by decide +kernel
theorem d_MD_keySign_131 : decode M_MD_keySign.2.1 131 = .ok (.goto 5, 3) := by decide +kernel
theorem d_MD_keySign_134 : decode M_MD_keySign.2.1 134 = .ok (.bipush 8, 2) := by decide +kernel
theorem d_MD_keySign_136 : decode M_MD_keySign.2.1 136 = .ok (.ireturn, 1) := by decide +kernel
theorem d_MD_keySign_137 : decode M_MD_keySign.2.1 137 = .ok (.aload_n 0, 1) := by decide +kernel
theorem d_MD_keySign_138 : decode M_MD_keySign.2.1 138 = .ok (.iload_n 1, 1) := by decide +kernel
theorem d_MD_keySign_139 : decode M_MD_keySign.2.1 139 = .ok (.invokevirtual 118, 3) := by decide +kernel
theorem d_MD_keySign_142 : decode M_MD_keySign.2.1 142 = .ok (.istore 7, 2) := by decide +kernel
theorem d_MD_keySign_144 : decode M_MD_keySign.2.1 144 = .ok (.iload 7, 2) := by decide +kernel
theorem d_MD_keySign_146 : decode M_MD_keySign.2.1 146 = .ok (.ifCond .ne 8, 3) := by decide +kernel
theorem d_MD_keySign_149 : decode M_MD_keySign.2.1 149 = .ok (.bipush 30, 2) := by decide +kernel
theorem d_MD_keySign_151 : decode M_MD_keySign.2.1 151 = .ok (.goto 16, 3) := by decide +kernel
theorem d_MD_keySign_154 : decode M_MD_keySign.2.1 154 = .ok (.iload 7, 2) := by decide +kernel
theorem d_MD_keySign_156 : decode M_MD_keySign.2.1 156 = .ok (.iconst 1, 1) := by decide +kernel
theorem d_MD_keySign_157 : decode M_MD_keySign.2.1 157 = .ok (.if_icmp .ne 8, 3) := by decide +kernel
theorem d_MD_keySign_160 : decode M_MD_keySign.2.1 160 = .ok (.bipush 18, 2) := by decide +kernel
theorem d_MD_keySign_162 : decode M_MD_keySign.2.1 162 = .ok (.goto 5, 3) := by decide +kernel
theorem d_MD_keySign_165 : decode M_MD_keySign.2.1 165 = .ok (.bipush 24, 2) := by decide +kernel
theorem d_MD_keySign_167 : decode M_MD_keySign.2.1 167 = .ok (.istore 8, 2) := by decide +kernel
theorem d_MD_keySign_169 : decode M_MD_keySign.2.1 169 = .ok (.iload 5, 2) := by decide +kernel
theorem d_MD_keySign_171 : decode M_MD_keySign.2.1 171 = .ok (.ifCond .le 8, 3) := by decide +kernel
theorem d_MD_keySign_174 : decode M_MD_keySign.2.1 174 = .ok (.bipush 9, 2) := by decide +kernel
theorem d_MD_keySign_176 : decode M_MD_keySign.2.1 176 = .ok (.goto 5, 3) := by decide +kernel
theorem d_MD_keySign_179 : decode M_MD_keySign.2.1 179 = .ok (.bipush 7, 2) := by decide +kernel
theorem d_MD_keySign_181 : decode M_MD_keySign.2.1 181 = .ok (.iload 7, 2) := by decide +kernel
theorem d_MD_keySign_183 : decode M_MD_keySign.2.1 183 = .ok (.ifCond .ne 7, 3) := by decide +kernel
theorem d_MD_keySign_186 : decode M_MD_keySign.2.1 186 = .ok (.iconst 0, 1) := by decide +kernel
theorem d_MD_keySign_187 : decode M_MD_keySign.2.1 187 = .ok (.goto 14, 3) := by decide +kernel
theorem d_MD_keySign_190 : decode M_MD_keySign.2.1 190 = .ok (.iload 7, 2) := by decide +kernel
theorem d_MD_keySign_192 : decode M_MD_keySign.2.1 192 = .ok (.iconst 1, 1) := by decide +kernel
theorem d_MD_keySign_193 : decode M_MD_keySign.2.1 193 = .ok (.if_icmp .ne 7, 3) := by decide +kernel
theorem d_MD_keySign_196 : decode M_MD_keySign.2.1 196 = .ok (.iconst 2, 1) := by decide +kernel
theorem d_MD_keySign_197 : decode M_MD_keySign.2.1 197 = .ok (.goto 4, 3) := by decide +kernel
theorem d_MD_keySign_200 : decode M_MD_keySign.2.1 200 = .ok (.iconst 1, 1) := by decide +kernel
theorem d_MD_keySign_201 : decode M_MD_keySign.2.1 201 = .ok (.isub, 1) := by decide +kernel
theorem d_MD_keySign_202 : decode M_MD_keySign.2.1 202 = .ok (.istore 9, 2) := by decide +kernel
theorem d_MD_keySign_204 : decode M_MD_keySign.2.1 204 = .ok (.iload 9, 2) := by decide +kernel
theorem d_MD_keySign_206 : decode M_MD_keySign.2.1 206 = .ok (.iload 8, 2) := by decide +kernel
theorem d_MD_keySign_208 : decode M_MD_keySign.2.1 208 = .ok (.iadd, 1) := by decide +kernel
theorem d_MD_keySign_209 : decode M_MD_keySign.2.1 209 = .ok (.bipush 7, 2) := by decide +kernel
theorem d_MD_keySign_211 : decode M_MD_keySign.2.1 211 = .ok (.irem, 1) := by decide +kernel
theorem d_MD_keySign_212 : decode M_MD_keySign.2.1 212 = .ok (.iload 6, 2) := by decide +kernel
theorem d_MD_keySign_214 : decode M_MD_keySign.2.1 214 = .ok (.if_icmp .eq 9, 3) := by decide +kernel
theorem d_MD_keySign_217 : decode M_MD_keySign.2.1 217 = .ok (.iinc 9 (-1), 3) := by decide +kernel
theorem d_MD_keySign_220 : decode M_MD_keySign.2.1 220 = .ok (.goto (-16), 3) := by decide +kernel
theorem d_MD_keySign_223 : decode M_MD_keySign.2.1 223 = .ok (.iload 9, 2) := by decide +kernel
theorem d_MD_keySign_225 : decode M_MD_keySign.2.1 225 = .ok (.bipush 100, 2) := by decide +kernel
theorem d_MD_keySign_227 : decode M_MD_keySign.2.1 227 = .ok (.iadd, 1) := by decide +kernel
theorem d_MD_keySign_228 : decode M_MD_keySign.2.1 228 = .ok (.ireturn, 1) := by decide +kernel
