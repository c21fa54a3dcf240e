/-! decode rows, by program -/
theorem d_MD_whenOf_7 : decode M_MD_whenOf.2.1 7 = .ok (.getfield 19, 3) := by decide +kernel
theorem d_MD_whenOf_10 : decode M_MD_whenOf.2.1 10 = .ok (.iload_n 1, 1) := by decide +kernel
theorem d_MD_whenOf_11 : decode M_MD_whenOf.2.1 11 = .ok (.iaload, 1) := by decide +kernel
theorem d_MD_whenOf_12 : decode M_MD_whenOf.2.1 12 = .ok (.invokestatic 104, 3) := by decide +kernel
theorem d_MD_whenOf_15 : decode M_MD_whenOf.2.1 15 = .ok (.ireturn, 1) := by decide +kernel
theorem d_MD_mate_0 : decode M_MD_mate.2.1 0 = .ok (.iconst (-1), 1) := by decide +kernel
theorem d_MD_mate_1 : decode M_MD_mate.2.1 1 = .ok (.istore_n 2, 1) := by decide +kernel
theorem d_MD_mate_2 : decode M_MD_mate.2.1 2 = .ok (.iconst 0, 1) := by decide +kernel
theorem d_MD_mate_3 : decode M_MD_mate.2.1 3 = .ok (.istore_n 3, 1) := by decide +kernel
theorem d_MD_mate_4 : decode M_MD_mate.2.1 4 = .ok (.iload_n 3, 1) := by decide +kernel
theorem d_MD_mate_5 : decode M_MD_mate.2.1 5 = .ok (.aload_n 0, 1) := by decide +kernel
theorem d_MD_mate_6 : decode M_MD_mate.2.1 6 = .ok (.getfield 97, 3) := by decide +kernel
theorem d_MD_mate_9 : decode M_MD_mate.2.1 9 = .ok (.if_icmp .ge 71, 3) := by decide +kernel
theorem d_MD_mate_12 : decode M_MD_mate.2.1 12 = .ok (.aload_n 0, 1) := by decide +kernel
theorem d_MD_mate_13 : decode M_MD_mate.2.1 13 = .ok (.getfield 22, 3) := by decide +kernel
theorem d_MD_mate_16 : decode M_MD_mate.2.1 16 = .ok (.iload_n 3, 1) := by decide +kernel
theorem d_MD_mate_17 : decode M_MD_mate.2.1 17 = .ok (.iaload, 1) := by decide +kernel
theorem d_MD_mate_18 : decode M_MD_mate.2.1 18 = .ok (.aload_n 0, 1) := by decide +kernel
theorem d_MD_mate_19 : decode M_MD_mate.2.1 19 = .ok (.getfield 22, 3) := by decide +kernel
theorem d_MD_mate_22 : decode M_MD_mate.2.1 22 = .ok (.iload_n 1, 1) := by decide +kernel
theorem d_MD_mate_23 : decode M_MD_mate.2.1 23 = .ok (.iaload, 1) := by decide +kernel
theorem d_MD_mate_24 : decode M_MD_mate.2.1 24 = .ok (.if_icmp .ne 50, 3) := by decide +kernel
theorem d_MD_mate_27 : decode M_MD_mate.2.1 27 = .ok (.aload_n 0, 1) := by decide +kernel
theorem d_MD_mate_28 : decode M_MD_mate.2.1 28 = .ok (.getfield 7, 3) := by decide +kernel
theorem d_MD_mate_31 : decode M_MD_mate.2.1 31 = .ok (.iload_n 3, 1) := by decide +kernel
theorem d_MD_mate_32 : decode M_MD_mate.2.1 32 = .ok (.iaload, 1) := by decide +kernel
theorem d_MD_mate_33 : decode M_MD_mate.2.1 33 = .ok (.aload_n 0, 1) := by decide +kernel
theorem d_MD_mate_34 : decode M_MD_mate.2.1 34 = .ok (.getfield 7, 3) := by decide +kernel
theorem d_MD_mate_37 : decode M_MD_mate.2.1 37 = .ok (.iload_n 1, 1) := by decide +kernel
theorem d_MD_mate_38 : decode M_MD_mate.2.1 38 = .ok (.iaload, 1) := by decide +kernel
theorem d_MD_mate_39 : decode M_MD_mate.2.1 39 = .ok (.if_icmp .ne 35, 3) := by decide +kernel
theorem d_MD_mate_42 : decode M_MD_mate.2.1 42 = .ok (.aload_n 0, 1) := by decide +kernel
theorem d_MD_mate_43 : decode M_MD_mate.2.1 43 = .ok (.iload_n 3, 1) := by decide +kernel
theorem d_MD_mate_44 : decode M_MD_mate.2.1 44 = .ok (.invokevirtual 108, 3) := by decide +kernel
theorem d_MD_mate_47 : decode M_MD_mate.2.1 47 = .ok (.aload_n 0, 1) := by decide +kernel
theorem d_MD_mate_48 : decode M_MD_mate.2.1 48 = .ok (.iload_n 1, 1) := by decide +kernel
theorem d_MD_mate_49 : decode M_MD_mate.2.1 49 = .ok (.invokevirtual 108, 3) := by decide +kernel
theorem d_MD_mate_52 : decode M_MD_mate.2.1 52 = .ok (.if_icmp .ge 22, 3) := by decide +kernel
theorem d_MD_mate_55 : decode M_MD_mate.2.1 55 = .ok (.iload_n 2, 1) := by decide +kernel
theorem d_MD_mate_56 : decode M_MD_mate.2.1 56 = .ok (.ifCond .lt 16, 3) := by decide +kernel
theorem d_MD_mate_59 : decode M_MD_mate.2.1 59 = .ok (.aload_n 0, 1) := by decide +kernel
theorem d_MD_mate_60 : decode M_MD_mate.2.1 60 = .ok (.iload_n 3, 1) := by decide +kernel
theorem d_MD_mate_61 : decode M_MD_mate.2.1 61 = .ok (.invokevirtual 108, 3) := by decide +kernel
theorem d_MD_mate_64 : decode M_MD_mate.2.1 64 = .ok (.aload_n 0, 1) := by decide +kernel
theorem d_MD_mate_65 : decode M_MD_mate.2.1 65 = .ok (.iload_n 2, 1) := by decide +kernel
theorem d_MD_mate_66 : decode M_MD_mate.2.1 66 = .ok (.invokevirtual 108, 3) := by decide +kernel
theorem d_MD_mate_69 : decode M_MD_mate.2.1 69 = .ok (.if_icmp .lt 5, 3) := by decide +kernel
theorem d_MD_mate_72 : decode M_MD_mate.2.1 72 = .ok (.iload_n 3, 1) := by decide +kernel
theorem d_MD_mate_73 : decode M_MD_mate.2.1 73 = .ok (.istore_n 2, 1) := by decide +kernel
theorem d_MD_mate_74 : decode M_MD_mate.2.1 74 = .ok (.iinc 3 1, 3) := by decide +kernel
theorem d_MD_mate_77 : decode M_MD_mate.2.1 77 = .ok (.goto (-73), 3) := by decide +kernel
theorem d_MD_mate_80 : decode M_MD_mate.2.1 80 = .ok (.iload_n 2, 1) := by decide +kernel
theorem d_MD_mate_81 : decode M_MD_mate.2.1 81 = .ok (.ifCond .lt 18, 3) := by decide +kernel
theorem d_MD_mate_84 : decode M_MD_mate.2.1 84 = .ok (.aload_n 0, 1) := by decide +kernel
theorem d_MD_mate_85 : decode M_MD_mate.2.1 85 = .ok (.getfield 13, 3) := by decide +kernel
theorem d_MD_mate_88 : decode M_MD_mate.2.1 88 = .ok (.iload_n 2, 1) := by decide +kernel
theorem d_MD_mate_89 : decode M_MD_mate.2.1 89 = .ok (.iaload, 1) := by decide +kernel
theorem d_MD_mate_90 : decode M_MD_mate.2.1 90 = .ok (.aload_n 0, 1) := by decide +kernel
theorem d_MD_mate_91 : decode M_MD_mate.2.1 91 = .ok (.getfield 13, 3) := by decide +kernel
theorem d_MD_mate_94 : decode M_MD_mate.2.1 94 = .ok (.iload_n 1, 1) := by decide +kernel
theorem d_MD_mate_95 : decode M_MD_mate.2.1 95 = .ok (.iaload, 1) := by decide +kernel
theorem d_MD_mate_96 : decode M_MD_mate.2.1 96 = .ok (.if_icmp .eq 7, 3) := by decide +kernel
theorem d_MD_mate_99 : decode M_MD_mate.2.1 99 = .ok (.iconst (-1), 1) := by decide +kernel
theorem d_MD_mate_100 : decode M_MD_mate.2.1 100 = .ok (.goto 4, 3) := by decide +kernel
theorem d_MD_mate_103 : decode M_MD_mate.2.1 103 = .ok (.iload_n 2, 1) := by decide +kernel
theorem d_MD_mate_104 : decode M_MD_mate.2.1 104 = .ok (.ireturn, 1) := by decide +kernel
theorem d_MD_mark_0 : decode M_MD_mark.2.1 0 = .ok (.iload_n 1, 1) := by decide +kernel
theorem d_MD_mark_1 : decode M_MD_mark.2.1 1 = .ok (.iconst 0, 1) := by decide +kernel
theorem d_MD_mark_2 : decode M_MD_mark.2.1 2 = .ok (.aload_n 0, 1) := by decide +kernel
theorem d_MD_mark_3 : decode M_MD_mark.2.1 3 = .ok (.getfield 97, 3) := by decide +kernel
theorem d_MD_mark_6 : decode M_MD_mark.2.1 6 = .ok (.iconst 1, 1) := by decide +kernel
theorem d_MD_mark_7 : decode M_MD_mark.2.1 7 = .ok (.isub, 1) := by decide +kernel
theorem d_MD_mark_8 : decode M_MD_mark.2.1 8 = .ok (.invokestatic 93, 3) := by decide +kernel
theorem d_MD_mark_11 : decode M_MD_mark.2.1 11 = .ok (.ifCond .ne 6, 3) := by decide +kernel
theorem d_MD_mark_14 : decode M_MD_mark.2.1 14 = .ok (.bipush (-2), 2) := by decide +kernel
theorem d_MD_mark_16 : decode M_MD_mark.2.1 16 = .ok (.ireturn, 1) := by decide +kernel
theorem d_MD_mark_17 : decode M_MD_mark.2.1 17 = .ok (.iload_n 2, 1) := by decide +kernel
theorem d_MD_mark_18 : decode M_MD_mark.2.1 18 = .ok (.iconst 0, 1) := by decide +kernel
theorem d_MD_mark_19 : decode M_MD_mark.2.1 19 = .ok (.iconst 2, 1) := by decide +kernel
theorem d_MD_mark_20 : decode M_MD_mark.2.1 20 = .ok (.invokestatic 93, 3) := by decide +kernel
theorem d_MD_mark_23 : decode M_MD_mark.2.1 23 = .ok (.ifCond .eq 21, 3) := by decide +kernel
theorem d_MD_mark_26 : decode M_MD_mark.2.1 26 = .ok (.iload_n 3, 1) := by decide +kernel
theorem d_MD_mark_27 : decode M_MD_mark.2.1 27 = .ok (.iconst 0, 1) := by decide +kernel
theorem d_MD_mark_28 : decode M_MD_mark.2.1 28 = .ok (.iload_n 2, 1) := by decide +kernel
theorem d_MD_mark_29 : decode M_MD_mark.2.1 29 = .ok (.iconst 2, 1) := by decide +kernel
theorem d_MD_mark_30 : decode M_MD_mark.2.1 30 = .ok (.if_icmp .ne 7, 3) := by decide +kernel
theorem d_MD_mark_33 : decode M_MD_mark.2.1 33 = .ok (.iconst 3, 1) := by decide +kernel
theorem d_MD_mark_34 : decode M_MD_mark.2.1 34 = .ok (.goto 4, 3) := by decide +kernel
theorem d_MD_mark_37 : decode M_MD_mark.2.1 37 = .ok (.iconst 1, 1) := by decide +kernel
theorem d_MD_mark_38 : decode M_MD_mark.2.1 38 = .ok (.invokestatic 93, 3) := by decide +kernel
theorem d_MD_mark_41 : decode M_MD_mark.2.1 41 = .ok (.ifCond .ne 6, 3) := by decide +kernel
theorem d_MD_mark_44 : decode M_MD_mark.2.1 44 = .ok (.bipush (-3), 2) := by decide +kernel
theorem d_MD_mark_46 : decode M_MD_mark.2.1 46 = .ok (.ireturn, 1) := by decide +kernel
theorem d_MD_mark_47 : decode M_MD_mark.2.1 47 = .ok (.aload_n 0, 1) := by decide +kernel
theorem d_MD_mark_48 : decode M_MD_mark.2.1 48 = .ok (.iconst 0, 1) := by decide +kernel
theorem d_MD_mark_49 : decode M_MD_mark.2.1 49 = .ok (.putfield 100, 3) := by decide +kernel
theorem d_MD_mark_52 : decode M_MD_mark.2.1 52 = .ok (.iload_n 2, 1) := by decide +kernel
theorem d_MD_mark_53 : decode M_MD_mark.2.1 53 = .ok (.ifCond .ne 12, 3) := by decide +kernel
theorem d_MD_mark_56 : decode M_MD_mark.2.1 56 = .ok (.aload_n 0, 1) := by decide +kernel
theorem d_MD_mark_57 : decode M_MD_mark.2.1 57 = .ok (.getfield 25, 3) := by decide +kernel
theorem d_MD_mark_60 : decode M_MD_mark.2.1 60 = .ok (.iload_n 1, 1) := by decide +kernel
theorem d_MD_mark_61 : decode M_MD_mark.2.1 61 = .ok (.iaload, 1) := by decide +kernel
theorem d_MD_mark_62 : decode M_MD_mark.2.1 62 = .ok (.goto 23, 3) := by decide +kernel
theorem d_MD_mark_65 : decode M_MD_mark.2.1 65 = .ok (.iload_n 2, 1) := by decide +kernel
theorem d_MD_mark_66 : decode M_MD_mark.2.1 66 = .ok (.iconst 1, 1) := by decide +kernel
theorem d_MD_mark_67 : decode M_MD_mark.2.1 67 = .ok (.if_icmp .ne 12, 3) := by decide +kernel
theorem d_MD_mark_70 : decode M_MD_mark.2.1 70 = .ok (.aload_n 0, 1) := by decide +kernel
theorem d_MD_mark_71 : decode M_MD_mark.2.1 71 = .ok (.getfield 28, 3) := by decide +kernel
theorem d_MD_mark_74 : decode M_MD_mark.2.1 74 = .ok (.iload_n 1, 1) := by decide +kernel
theorem d_MD_mark_75 : decode M_MD_mark.2.1 75 = .ok (.iaload, 1) := by decide +kernel
theorem d_MD_mark_76 : decode M_MD_mark.2.1 76 = .ok (.goto 9, 3) := by decide +kernel
theorem d_MD_mark_79 : decode M_MD_mark.2.1 79 = .ok (.aload_n 0, 1) := by decide +kernel
theorem d_MD_mark_80 : decode M_MD_mark.2.1 80 = .ok (.getfield 31, 3) := by decide +kernel
theorem d_MD_mark_83 : decode M_MD_mark.2.1 83 = .ok (.iload_n 1, 1) := by decide +kernel
theorem d_MD_mark_84 : decode M_MD_mark.2.1 84 = .ok (.iaload, 1) := by decide +kernel
theorem d_MD_mark_85 : decode M_MD_mark.2.1 85 = .ok (.istore 4, 2) := by decide +kernel
theorem d_MD_mark_87 : decode M_MD_mark.2.1 87 = .ok (.iload_n 2, 1) := by decide +kernel
theorem d_MD_mark_88 : decode M_MD_mark.2.1 88 = .ok (.ifCond .ne 29, 3) := by decide +kernel
theorem d_MD_mark_91 : decode M_MD_mark.2.1 91 = .ok (.iload_n 3, 1) := by decide +kernel
theorem d_MD_mark_92 : decode M_MD_mark.2.1 92 = .ok (.iconst 1, 1) := by decide +kernel
theorem d_MD_mark_93 : decode M_MD_mark.2.1 93 = .ok (.if_icmp .ne 14, 3) := by decide +kernel
theorem d_MD_mark_96 : decode M_MD_mark.2.1 96 = .ok (.aload_n 0, 1) := by decide +kernel
theorem d_MD_mark_97 : decode M_MD_mark.2.1 97 = .ok (.iload_n 1, 1) := by decide +kernel
theorem d_MD_mark_98 : decode M_MD_mark.2.1 98 = .ok (.invokevirtual 112, 3) := by decide +kernel
theorem d_MD_mark_101 : decode M_MD_mark.2.1 101 = .ok (.ifCond .ge 6, 3) := by decide +kernel
theorem d_MD_mark_104 : decode M_MD_mark.2.1 104 = .ok (.bipush (-4), 2) := by decide +kernel
theorem d_MD_mark_106 : decode M_MD_mark.2.1 106 = .ok (.ireturn, 1) := by decide +kernel
theorem d_MD_mark_107 : decode M_MD_mark.2.1 107 = .ok (.aload_n 0, 1) := by decide +kernel
theorem d_MD_mark_108 : decode M_MD_mark.2.1 108 = .ok (.getfield 25, 3) := by decide +kernel
theorem d_MD_mark_111 : decode M_MD_mark.2.1 111 = .ok (.iload_n 1, 1) := by decide +kernel
theorem d_MD_mark_112 : decode M_MD_mark.2.1 112 = .ok (.iload_n 3, 1) := by decide +kernel
theorem d_MD_mark_113 : decode M_MD_mark.2.1 113 = .ok (.iastore, 1) := by decide +kernel
theorem d_MD_mark_114 : decode M_MD_mark.2.1 114 = .ok (.goto 25, 3) := by decide +kernel
theorem d_MD_mark_117 : decode M_MD_mark.2.1 117 = .ok (.iload_n 2, 1) := by decide +kernel
theorem d_MD_mark_118 : decode M_MD_mark.2.1 118 = .ok (.iconst 1, 1) := by decide +kernel
theorem d_MD_mark_119 : decode M_MD_mark.2.1 119 = .ok (.if_icmp .ne 13, 3) := by decide +kernel
theorem d_MD_mark_122 : decode M_MD_mark.2.1 122 = .ok (.aload_n 0, 1) := by decide +kernel
theorem d_MD_mark_123 : decode M_MD_mark.2.1 123 = .ok (.getfield 28, 3) := by decide +kernel
theorem d_MD_mark_126 : decode M_MD_mark.2.1 126 = .ok (.iload_n 1, 1) := by decide +kernel
theorem d_MD_mark_127 : decode M_MD_mark.2.1 127 = .ok (.iload_n 3, 1) := by decide +kernel
theorem d_MD_mark_128 : decode M_MD_mark.2.1 128 = .ok (.iastore, 1) := by decide +kernel
theorem d_MD_mark_129 : decode M_MD_mark.2.1 129 = .ok (.goto 10, 3) := by decide +kernel
theorem d_MD_mark_132 : decode M_MD_mark.2.1 132 = .ok (.aload_n 0, 1) := by decide +kernel
theorem d_MD_mark_133 : decode M_MD_mark.2.1 133 = .ok (.getfield 31, 3) := by decide +kernel
theorem d_MD_mark_136 : decode M_MD_mark.2.1 136 = .ok (.iload_n 1, 1) := by decide +kernel
theorem d_MD_mark_137 : decode M_MD_mark.2.1 137 = .ok (.iload_n 3, 1) := by decide +kernel
theorem d_MD_mark_138 : decode M_MD_mark.2.1 138 = .ok (.iastore, 1) := by decide +kernel
theorem d_MD_mark_139 : decode M_MD_mark.2.1 139 = .ok (.iload 4, 2) := by decide +kernel
theorem d_MD_mark_141 : decode M_MD_mark.2.1 141 = .ok (.ireturn, 1) := by decide +kernel
theorem d_MD_keyOf_0 : decode M_MD_keyOf.2.1 0 = .ok (.iload_n 1, 1) := by decide +kernel
theorem d_MD_keyOf_1 : decode M_MD_keyOf.2.1 1 = .ok (.istore_n 2, 1) := by decide +kernel
theorem d_MD_keyOf_2 : decode M_MD_keyOf.2.1 2 = .ok (.iload_n 2, 1) := by decide +kernel
theorem d_MD_keyOf_3 : decode M_MD_keyOf.2.1 3 = .ok (.ifCond .le 18, 3) := by decide +kernel
theorem d_MD_keyOf_6 : decode M_MD_keyOf.2.1 6 = .ok (.aload_n 0, 1) := by decide +kernel
theorem d_MD_keyOf_7 : decode M_MD_keyOf.2.1 7 = .ok (.getfield 34, 3) := by decide +kernel
theorem d_MD_keyOf_10 : decode M_MD_keyOf.2.1 10 = .ok (.iload_n 2, 1) := by decide +kernel
theorem d_MD_keyOf_11 : decode M_MD_keyOf.2.1 11 = .ok (.iaload, 1) := by decide +kernel
theorem d_MD_keyOf_12 : decode M_MD_keyOf.2.1 12 = .ok (.ifCond .ne 9, 3) := by decide +kernel
theorem d_MD_keyOf_15 : decode M_MD_keyOf.2.1 15 = .ok (.iinc 2 (-1), 3) := by decide +kernel
theorem d_MD_keyOf_18 : decode M_MD_keyOf.2.1 18 = .ok (.goto (-16), 3) := by decide +kernel
theorem d_MD_keyOf_21 : decode M_MD_keyOf.2.1 21 = .ok (.aload_n 0, 1) := by decide +kernel
theorem d_MD_keyOf_22 : decode M_MD_keyOf.2.1 22 = .ok (.getfield 34, 3) := by decide +kernel
theorem d_MD_keyOf_25 : decode M_MD_keyOf.2.1 25 = .ok (.iload_n 2, 1) := by decide +kernel
theorem d_MD_keyOf_26 : decode M_MD_keyOf.2.1 26 = .ok (.iaload, 1) := by decide +kernel
theorem d_MD_keyOf_27 : decode M_MD_keyOf.2.1 27 = .ok (.ifCond .ne 7, 3) := by decide +kernel
theorem d_MD_keyOf_30 : decode M_MD_keyOf.2.1 30 = .ok (.iconst 0, 1) := by decide +kernel
theorem d_MD_keyOf_31 : decode M_MD_keyOf.2.1 31 = .ok (.goto 12, 3) := by decide +kernel
theorem d_MD_keyOf_34 : decode M_MD_keyOf.2.1 34 = .ok (.aload_n 0, 1) := by decide +kernel
theorem d_MD_keyOf_35 : decode M_MD_keyOf.2.1 35 = .ok (.getfield 34, 3) := by decide +kernel
theorem d_MD_keyOf_38 : decode M_MD_keyOf.2.1 38 = .ok (.iload_n 2, 1) := by decide +kernel
theorem d_MD_keyOf_39 : decode M_MD_keyOf.2.1 39 = .ok (.iaload, 1) := by decide +kernel
theorem d_MD_keyOf_40 : decode M_MD_keyOf.2.1 40 = .ok (.bipush 8, 2) := by decide +kernel
theorem d_MD_keyOf_42 : decode M_MD_keyOf.2.1 42 = .ok (.isub, 1) := by decide +kernel
theorem d_MD_keyOf_43 : decode M_MD_keyOf.2.1 43 = .ok (.ireturn, 1) := by decide +kernel
theorem d_MD_clefOf_0 : decode M_MD_clefOf.2.1 0 = .ok (.iload_n 1, 1) := by decide +kernel
theorem d_MD_clefOf_1 : decode M_MD_clefOf.2.1 1 = .ok (.istore_n 2, 1) := by decide +kernel
theorem d_MD_clefOf_2 : decode M_MD_clefOf.2.1 2 = .ok (.iload_n 2, 1) := by decide +kernel
theorem d_MD_clefOf_3 : decode M_MD_clefOf.2.1 3 = .ok (.ifCond .le 18, 3) := by decide +kernel
theorem d_MD_clefOf_6 : decode M_MD_clefOf.2.1 6 = .ok (.aload_n 0, 1) := by decide +kernel
theorem d_MD_clefOf_7 : decode M_MD_clefOf.2.1 7 = .ok (.getfield 37, 3) := by decide +kernel
theorem d_MD_clefOf_10 : decode M_MD_clefOf.2.1 10 = .ok (.iload_n 2, 1) := by decide +kernel
theorem d_MD_clefOf_11 : decode M_MD_clefOf.2.1 11 = .ok (.iaload, 1) := by decide +kernel
theorem d_MD_clefOf_12 : decode M_MD_clefOf.2.1 12 = .ok (.ifCond .ne 9, 3) := by decide +kernel
theorem d_MD_clefOf_15 : decode M_MD_clefOf.2.1 15 = .ok (.iinc 2 (-1), 3) := by decide +kernel
theorem d_MD_clefOf_18 : decode M_MD_clefOf.2.1 18 = .ok (.goto (-16), 3) := by decide +kernel
theorem d_MD_clefOf_21 : decode M_MD_clefOf.2.1 21 = .ok (.aload_n 0, 1) := by decide +kernel
theorem d_MD_clefOf_22 : decode M_MD_clefOf.2.1 22 = .ok (.getfield 37, 3) := by decide +kernel
theorem d_MD_clefOf_25 : decode M_MD_clefOf.2.1 25 = .ok (.iload_n 2, 1) := by decide +kernel
theorem d_MD_clefOf_26 : decode M_MD_clefOf.2.1 26 = .ok (.iaload, 1) := by decide +kernel
theorem d_MD_clefOf_27 : decode M_MD_clefOf.2.1 27 = .ok (.ifCond .ne 7, 3) := by decide +kernel
theorem d_MD_clefOf_30 : decode M_MD_clefOf.2.1 30 = .ok (.iconst 0, 1) := by decide +kernel
theorem d_MD_clefOf_31 : decode M_MD_clefOf.2.1 31 = .ok (.goto 11, 3) := by decide +kernel
theorem d_MD_clefOf_34 : decode M_MD_clefOf.2.1 34 = .ok (.aload_n 0, 1) := by decide +kernel
theorem d_MD_clefOf_35 : decode M_MD_clefOf.2.1 35 = .ok (.getfield 37, 3) := by decide +kernel
theorem d_MD_clefOf_38 : decode M_MD_clefOf.2.1 38 = .ok (.iload_n 2, 1) := by decide +kernel
theorem d_MD_clefOf_39 : decode M_MD_clefOf.2.1 39 = .ok (.iaload, 1) := by decide +kernel
theorem d_MD_clefOf_40 : decode M_MD_clefOf.2.1 40 = .ok (.iconst 1, 1) := by decide +kernel
theorem d_MD_clefOf_41 : decode M_MD_clefOf.2.1 41 = .ok (.isub, 1) := by decide +kernel
theorem d_MD_clefOf_42 : decode M_MD_clefOf.2.1 42 = .ok (.ireturn, 1) := by decide +kernel
theorem d_MD_key_0 : decode M_MD_key.2.1 0 = .ok (.iload_n 1, 1) := by decide +kernel
theorem d_MD_key_1 : decode M_MD_key.2.1 1 = .ok (.iconst 0, 1) := by decide +kernel
theorem d_MD_key_2 : decode M_MD_key.2.1 2 = .ok (.bipush 19, 2) := by decide +kernel
theorem d_MD_key_4 : decode M_MD_key.2.1 4 = .ok (.invokestatic 93, 3) := by decide +kernel
theorem d_MD_key_7 : decode M_MD_key.2.1 7 = .ok (.ifCond .eq 14, 3) := by decide +kernel
theorem d_MD_key_10 : decode M_MD_key.2.1 10 = .ok (.iload_n 2, 1) := by decide +kernel
theorem d_MD_key_11 : decode M_MD_key.2.1 11 = .ok (.bipush (-7), 2) := by decide +kernel
theorem d_MD_key_13 : decode M_MD_key.2.1 13 = .ok (.bipush 7, 2) := by decide +kernel
theorem d_MD_key_15 : decode M_MD_key.2.1 15 = .ok (.invokestatic 93, 3) := by decide +kernel
theorem d_MD_key_18 : decode M_MD_key.2.1 18 = .ok (.ifCond .ne 6, 3) := by decide +kernel
theorem d_MD_key_21 : decode M_MD_key.2.1 21 = .ok (.bipush (-3), 2) := by decide +kernel
theorem d_MD_key_23 : decode M_MD_key.2.1 23 = .ok (.ireturn, 1) := by decide +kernel
theorem d_MD_key_24 : decode M_MD_key.2.1 24 = .ok (.aload_n 0, 1) := by decide +kernel
theorem d_MD_key_25 : decode M_MD_key.2.1 25 = .ok (.iload_n 1, 1) := by decide +kernel
theorem d_MD_key_26 : decode M_MD_key.2.1 26 = .ok (.invokevirtual 115, 3) := by decide +kernel
theorem d_MD_key_29 : decode M_MD_key.2.1 29 = .ok (.istore_n 3, 1) := by decide +kernel
theorem d_MD_key_30 : decode M_MD_key.2.1 30 = .ok (.aload_n 0, 1) := by decide +kernel
theorem d_MD_key_31 : decode M_MD_key.2.1 31 = .ok (.iconst 0, 1) := by decide +kernel
theorem d_MD_key_32 : decode M_MD_key.2.1 32 = .ok (.putfield 100, 3) := by decide +kernel
theorem d_MD_key_35 : decode M_MD_key.2.1 35 = .ok (.aload_n 0, 1) := by decide +kernel
theorem d_MD_key_36 : decode M_MD_key.2.1 36 = .ok (.getfield 34, 3) := by decide +kernel
theorem d_MD_key_39 : decode M_MD_key.2.1 39 = .ok (.iload_n 1, 1) := by decide +kernel
theorem d_MD_key_40 : decode M_MD_key.2.1 40 = .ok (.iload_n 2, 1) := by decide +kernel
theorem d_MD_key_41 : decode M_MD_key.2.1 41 = .ok (.bipush 8, 2) := by decide +kernel
theorem d_MD_key_43 : decode M_MD_key.2.1 43 = .ok (.iadd, 1) := by decide +kernel
theorem d_MD_key_44 : decode M_MD_key.2.1 44 = .ok (.iastore, 1) := by decide +kernel
theorem d_MD_key_45 : decode M_MD_key.2.1 45 = .ok (.iload_n 3, 1) := by decide +kernel
theorem d_MD_key_46 : decode M_MD_key.2.1 46 = .ok (.ireturn, 1) := by decide +kernel
theorem d_MD_clef_0 : decode M_MD_clef.2.1 0 = .ok (.iload_n 1, 1) := by decide +kernel
theorem d_MD_clef_1 : decode M_MD_clef.2.1 1 = .ok (.iconst 0, 1) := by decide +kernel
theorem d_MD_clef_2 : decode M_MD_clef.2.1 2 = .ok (.bipush 19, 2) := by decide +kernel
theorem d_MD_clef_4 : decode M_MD_clef.2.1 4 = .ok (.invokestatic 93, 3) := by decide +kernel
theorem d_MD_clef_7 : decode M_MD_clef.2.1 7 = .ok (.ifCond .eq 12, 3) := by decide +kernel
theorem d_MD_clef_10 : decode M_MD_clef.2.1 10 = .ok (.iload_n 2, 1) := by decide +kernel
theorem d_MD_clef_11 : decode M_MD_clef.2.1 11 = .ok (.iconst 0, 1) := by decide +kernel
theorem d_MD_clef_12 : decode M_MD_clef.2.1 12 = .ok (.iconst 2, 1) := by decide +kernel
theorem d_MD_clef_13 : decode M_MD_clef.2.1 13 = .ok (.invokestatic 93, 3) := by decide +kernel
theorem d_MD_clef_16 : decode M_MD_clef.2.1 16 = .ok (.ifCond .ne 6, 3) := by decide +kernel
theorem d_MD_clef_19 : decode M_MD_clef.2.1 19 = .ok (.bipush (-3), 2) := by decide +kernel
theorem d_MD_clef_21 : decode M_MD_clef.2.1 21 = .ok (.ireturn, 1) := by decide +kernel
theorem d_MD_clef_22 : decode M_MD_clef.2.1 22 = .ok (.aload_n 0, 1) := by decide +kernel
theorem d_MD_clef_23 : decode M_MD_clef.2.1 23 = .ok (.iload_n 1, 1) := by decide +kernel
theorem d_MD_clef_24 : decode M_MD_clef.2.1 24 = .ok (.invokevirtual 118, 3) := by decide +kernel
theorem d_MD_clef_27 : decode M_MD_clef.2.1 27 = .ok (.istore_n 3, 1) := by decide +kernel
theorem d_MD_clef_28 : decode M_MD_clef.2.1 28 = .ok (.aload_n 0, 1) := by decide +kernel
theorem d_MD_clef_29 : decode M_MD_clef.2.1 29 = .ok (.iconst 0, 1) := by decide +kernel
theorem d_MD_clef_30 : decode M_MD_clef.2.1 30 = .ok (.putfield 100, 3) := by decide +kernel
theorem d_MD_clef_33 : decode M_MD_clef.2.1 33 = .ok (.aload_n 0, 1) := by decide +kernel
theorem d_MD_clef_34 : decode M_MD_clef.2.1 34 = .ok (.getfield 37, 3) := by decide +kernel
theorem d_MD_clef_37 : decode M_MD_clef.2.1 37 = .ok (.iload_n 1, 1) := by decide +kernel
theorem d_MD_clef_38 : decode M_MD_clef.2.1 38 = .ok (.iload_n 2, 1) := by decide +kernel
theorem d_MD_clef_39 : decode M_MD_clef.2.1 39 = .ok (.iconst 1, 1) := by decide +kernel
theorem d_MD_clef_40 : decode M_MD_clef.2.1 40 = .ok (.iadd, 1) := by decide +kernel
theorem d_MD_clef_41 : decode M_MD_clef.2.1 41 = .ok (.iastore, 1) := by decide +kernel
theorem d_MD_clef_42 : decode M_MD_clef.2.1 42 = .ok (.iload_n 3, 1) := by decide +kernel
theorem d_MD_clef_43 : decode M_MD_clef.2.1 43 = .ok (.ireturn, 1) := by decide +kernel
theorem d_MD_rule_0 : decode M_MD_rule.2.1 0 = .ok (.iload_n 1, 1) := by decide +kernel
theorem d_MD_rule_1 : decode M_MD_rule.2.1 1 = .ok (.iconst 0, 1) := by decide +kernel
theorem d_MD_rule_2 : decode M_MD_rule.2.1 2 = .ok (.iconst 4, 1) := by decide +kernel
theorem d_MD_rule_3 : decode M_MD_rule.2.1 3 = .ok (.invokestatic 93, 3) := by decide +kernel
theorem d_MD_rule_6 : decode M_MD_rule.2.1 6 = .ok (.ifCond .eq 31, 3) := by decide +kernel
theorem d_MD_rule_9 : decode M_MD_rule.2.1 9 = .ok (.iload_n 2, 1) := by decide +kernel
theorem d_MD_rule_10 : decode M_MD_rule.2.1 10 = .ok (.iconst 0, 1) := by decide +kernel
theorem d_MD_rule_11 : decode M_MD_rule.2.1 11 = .ok (.iload_n 1, 1) := by decide +kernel
theorem d_MD_rule_12 : decode M_MD_rule.2.1 12 = .ok (.iconst 2, 1) := by decide +kernel
theorem d_MD_rule_13 : decode M_MD_rule.2.1 13 = .ok (.if_icmp .ne 8, 3) := by decide +kernel
theorem d_MD_rule_16 : decode M_MD_rule.2.1 16 = .ok (.bipush 15, 2) := by decide +kernel
theorem d_MD_rule_18 : decode M_MD_rule.2.1 18 = .ok (.goto 13, 3) := by decide +kernel
theorem d_MD_rule_21 : decode M_MD_rule.2.1 21 = .ok (.iload_n 1, 1) := by decide +kernel
theorem d_MD_rule_22 : decode M_MD_rule.2.1 22 = .ok (.iconst 4, 1) := by decide +kernel
theorem d_MD_rule_23 : decode M_MD_rule.2.1 23 = .ok (.if_icmp .ne 7, 3) := by decide +kernel
theorem d_MD_rule_26 : decode M_MD_rule.2.1 26 = .ok (.iconst 2, 1) := by decide +kernel
theorem d_MD_rule_27 : decode M_MD_rule.2.1 27 = .ok (.goto 4, 3) := by decide +kernel
theorem d_MD_rule_30 : decode M_MD_rule.2.1 30 = .ok (.iconst 1, 1) := by decide +kernel
theorem d_MD_rule_31 : decode M_MD_rule.2.1 31 = .ok (.invokestatic 93, 3) := by decide +kernel
theorem d_MD_rule_34 : decode M_MD_rule.2.1 34 = .ok (.ifCond .ne 6, 3) := by decide +kernel
theorem d_MD_rule_37 : decode M_MD_rule.2.1 37 = .ok (.bipush (-3), 2) := by decide +kernel
theorem d_MD_rule_39 : decode M_MD_rule.2.1 39 = .ok (.ireturn, 1) := by decide +kernel
theorem d_MD_rule_40 : decode M_MD_rule.2.1 40 = .ok (.aload_n 0, 1) := by decide +kernel
theorem d_MD_rule_41 : decode M_MD_rule.2.1 41 = .ok (.getfield 40, 3) := by decide +kernel
theorem d_MD_rule_44 : decode M_MD_rule.2.1 44 = .ok (.iload_n 1, 1) := by decide +kernel
theorem d_MD_rule_45 : decode M_MD_rule.2.1 45 = .ok (.iaload, 1) := by decide +kernel
theorem d_MD_rule_46 : decode M_MD_rule.2.1 46 = .ok (.istore_n 3, 1) := by decide +kernel
theorem d_MD_rule_47 : decode M_MD_rule.2.1 47 = .ok (.aload_n 0, 1) := by decide +kernel
theorem d_MD_rule_48 : decode M_MD_rule.2.1 48 = .ok (.iconst 0, 1) := by decide +kernel
theorem d_MD_rule_49 : decode M_MD_rule.2.1 49 = .ok (.putfield 100, 3) := by decide +kernel
theorem d_MD_rule_52 : decode M_MD_rule.2.1 52 = .ok (.aload_n 0, 1) := by decide +kernel
theorem d_MD_rule_53 : decode M_MD_rule.2.1 53 = .ok (.getfield 40, 3) := by decide +kernel
theorem d_MD_rule_56 : decode M_MD_rule.2.1 56 = .ok (.iload_n 1, 1) := by decide +kernel
theorem d_MD_rule_57 : decode M_MD_rule.2.1 57 = .ok (.iload_n 2, 1) := by decide +kernel
theorem d_MD_rule_58 : decode M_MD_rule.2.1 58 = .ok (.iastore, 1) := by decide +kernel
theorem d_MD_rule_59 : decode M_MD_rule.2.1 59 = .ok (.iload_n 3, 1) := by decide +kernel
theorem d_MD_rule_60 : decode M_MD_rule.2.1 60 = .ok (.ireturn, 1) := by decide +kernel
theorem d_MD_drop_0 : decode M_MD_drop.2.1 0 = .ok (.aload_n 0, 1) := by decide +kernel
theorem d_MD_drop_1 : decode M_MD_drop.2.1 1 = .ok (.getfield 97, 3) := by decide +kernel
theorem d_MD_drop_4 : decode M_MD_drop.2.1 4 = .ok (.ifCond .ne 6, 3) := by decide +kernel
theorem d_MD_drop_7 : decode M_MD_drop.2.1 7 = .ok (.bipush (-2), 2) := by decide +kernel
theorem d_MD_drop_9 : decode M_MD_drop.2.1 9 = .ok (.ireturn, 1) := by decide +kernel
theorem d_MD_drop_10 : decode M_MD_drop.2.1 10 = .ok (.aload_n 0, 1) := by decide +kernel
theorem d_MD_drop_11 : decode M_MD_drop.2.1 11 = .ok (.iconst 0, 1) := by decide +kernel
theorem d_MD_drop_12 : decode M_MD_drop.2.1 12 = .ok (.putfield 100, 3) := by decide +kernel
theorem d_MD_drop_15 : decode M_MD_drop.2.1 15 = .ok (.aload_n 0, 1) := by decide +kernel
theorem d_MD_drop_16 : decode M_MD_drop.2.1 16 = .ok (.dup, 1) := by decide +kernel
theorem d_MD_drop_17 : decode M_MD_drop.2.1 17 = .ok (.getfield 97, 3) := by decide +kernel
theorem d_MD_drop_20 : decode M_MD_drop.2.1 20 = .ok (.iconst 1, 1) := by decide +kernel
theorem d_MD_drop_21 : decode M_MD_drop.2.1 21 = .ok (.isub, 1) := by decide +kernel
theorem d_MD_drop_22 : decode M_MD_drop.2.1 22 = .ok (.putfield 97, 3) := by decide +kernel
theorem d_MD_drop_25 : decode M_MD_drop.2.1 25 = .ok (.aload_n 0, 1) := by decide +kernel
theorem d_MD_drop_26 : decode M_MD_drop.2.1 26 = .ok (.getfield 97, 3) := by decide +kernel
theorem d_MD_drop_29 : decode M_MD_drop.2.1 29 = .ok (.ireturn, 1) := by decide +kernel
theorem d_MD_letter_0 : decode M_MD_letter.2.1 0 = .ok (.iload_n 1, 1) := by decide +kernel
theorem d_MD_letter_1 : decode M_MD_letter.2.1 1 = .ok (.ifCond .eq 7, 3) := by decide +kernel
theorem d_MD_letter_4 : decode M_MD_letter.2.1 4 = .ok (.iload_n 0, 1) := by decide +kernel
theorem d_MD_letter_5 : decode M_MD_letter.2.1 5 = .ok (.goto 7, 3) := by decide +kernel
theorem d_MD_letter_8 : decode M_MD_letter.2.1 8 = .ok (.bipush 6, 2) := by decide +kernel
theorem d_MD_letter_10 : decode M_MD_letter.2.1 10 = .ok (.iload_n 0, 1) := by decide +kernel
theorem d_MD_letter_11 : decode M_MD_letter.2.1 11 = .ok (.isub, 1) := by decide +kernel
theorem d_MD_letter_12 : decode M_MD_letter.2.1 12 = .ok (.istore_n 2, 1) := by decide +kernel
theorem d_MD_letter_13 : decode M_MD_letter.2.1 13 = .ok (.iconst 3, 1) := by decide +kernel
theorem d_MD_letter_14 : decode M_MD_letter.2.1 14 = .ok (.iconst 4, 1) := by decide +kernel
theorem d_MD_letter_15 : decode M_MD_letter.2.1 15 = .ok (.iload_n 2, 1) := by decide +kernel
theorem d_MD_letter_16 : decode M_MD_letter.2.1 16 = .ok (.imul, 1) := by decide +kernel
theorem d_MD_letter_17 : decode M_MD_letter.2.1 17 = .ok (.iadd, 1) := by decide +kernel
theorem d_MD_letter_18 : decode M_MD_letter.2.1 18 = .ok (.bipush 7, 2) := by decide +kernel
theorem d_MD_letter_20 : decode M_MD_letter.2.1 20 = .ok (.irem, 1) := by decide +kernel
theorem d_MD_letter_21 : decode M_MD_letter.2.1 21 = .ok (.ireturn, 1) := by decide +kernel
theorem d_MD_keyAlter_0 : decode M_MD_keyAlter.2.1 0 = .ok (.iconst 0, 1) := by decide +kernel
theorem d_MD_keyAlter_1 : decode M_MD_keyAlter.2.1 1 = .ok (.istore_n 2, 1) := by decide +kernel
theorem d_MD_keyAlter_2 : decode M_MD_keyAlter.2.1 2 = .ok (.iload_n 2, 1) := by decide +kernel
theorem d_MD_keyAlter_3 : decode M_MD_keyAlter.2.1 3 = .ok (.iload_n 0, 1) := by decide +kernel
theorem d_MD_keyAlter_4 : decode M_MD_keyAlter.2.1 4 = .ok (.ifCond .ge 8, 3) := by decide +kernel
theorem d_MD_keyAlter_7 : decode M_MD_keyAlter.2.1 7 = .ok (.iload_n 0, 1) := by decide +kernel
theorem d_MD_keyAlter_8 : decode M_MD_keyAlter.2.1 8 = .ok (.ineg, 1) := by decide +kernel
theorem d_MD_keyAlter_9 : decode M_MD_keyAlter.2.1 9 = .ok (.goto 4, 3) := by decide +kernel
theorem d_MD_keyAlter_12 : decode M_MD_keyAlter.2.1 12 = .ok (.iload_n 0, 1) := by decide +kernel
theorem d_MD_keyAlter_13 : decode M_MD_keyAlter.2.1 13 = .ok (.if_icmp .ge 37, 3) := by decide +kernel
theorem d_MD_keyAlter_16 : decode M_MD_keyAlter.2.1 16 = .ok (.iload_n 2, 1) := by decide +kernel
theorem d_MD_keyAlter_17 : decode M_MD_keyAlter.2.1 17 = .ok (.iload_n 0, 1) := by decide +kernel
theorem d_MD_keyAlter_18 : decode M_MD_keyAlter.2.1 18 = .ok (.ifCond .le 7, 3) := by decide +kernel
theorem d_MD_keyAlter_21 : decode M_MD_keyAlter.2.1 21 = .ok (.iconst 1, 1) := by decide +kernel
theorem d_MD_keyAlter_22 : decode M_MD_keyAlter.2.1 22 = .ok (.goto 4, 3) := by decide +kernel
theorem d_MD_keyAlter_25 : decode M_MD_keyAlter.2.1 25 = .ok (.iconst 0, 1) := by decide +kernel
theorem d_MD_keyAlter_26 : decode M_MD_keyAlter.2.1 26 = .ok (.invokestatic 121, 3) := by decide +kernel
theorem d_MD_keyAlter_29 : decode M_MD_keyAlter.2.1 29 = .ok (.iload_n 1, 1) := by decide +kernel
theorem d_MD_keyAlter_30 : decode M_MD_keyAlter.2.1 30 = .ok (.if_icmp .ne 14, 3) := by decide +kernel
theorem d_MD_keyAlter_33 : decode M_MD_keyAlter.2.1 33 = .ok (.iload_n 0, 1) := by decide +kernel
theorem d_MD_keyAlter_34 : decode M_MD_keyAlter.2.1 34 = .ok (.ifCond .le 7, 3) := by decide +kernel
theorem d_MD_keyAlter_37 : decode M_MD_keyAlter.2.1 37 = .ok (.iconst 2, 1) := by decide +kernel
theorem d_MD_keyAlter_38 : decode M_MD_keyAlter.2.1 38 = .ok (.goto 5, 3) := by decide +kernel
theorem d_MD_keyAlter_41 : decode M_MD_keyAlter.2.1 41 = .ok (.bipush (-2), 2) := by decide +kernel
theorem d_MD_keyAlter_43 : decode M_MD_keyAlter.2.1 43 = .ok (.ireturn, 1) := by decide +kernel
theorem d_MD_keyAlter_44 : decode M_MD_keyAlter.2.1 44 = .ok (.iinc 2 1, 3) := by decide +kernel
theorem d_MD_keyAlter_47 : decode M_MD_keyAlter.2.1 47 = .ok (.goto (-45), 3) := by decide +kernel
theorem d_MD_keyAlter_50 : decode M_MD_keyAlter.2.1 50 = .ok (.iconst 0, 1) := by decide +kernel
theorem d_MD_keyAlter_51 : decode M_MD_keyAlter.2.1 51 = .ok (.ireturn, 1) := by decide +kernel
theorem d_MD_seat_0 : decode M_MD_seat.2.1 0 = .ok (.aload_n 0, 1) := by decide +kernel
theorem d_MD_seat_1 : decode M_MD_seat.2.1 1 = .ok (.getfield 40, 3) := by decide +kernel
theorem d_MD_seat_4 : decode M_MD_seat.2.1 4 = .ok (.iconst 0, 1) := by decide +kernel
theorem d_MD_seat_5 : decode M_MD_seat.2.1 5 = .ok (.iaload, 1) := by decide +kernel
theorem d_MD_seat_6 : decode M_MD_seat.2.1 6 = .ok (.iconst 1, 1) := by decide +kernel
theorem d_MD_seat_7 : decode M_MD_seat.2.1 7 = .ok (.if_icmp .ne 15, 3) := by decide +kernel
theorem d_MD_seat_10 : decode M_MD_seat.2.1 10 = .ok (.aload_n 0, 1) := by decide +kernel
theorem d_MD_seat_11 : decode M_MD_seat.2.1 11 = .ok (.getfield 7, 3) := by decide +kernel
theorem d_MD_seat_14 : decode M_MD_seat.2.1 14 = .ok (.iload_n 1, 1) := by decide +kernel
theorem d_MD_seat_15 : decode M_MD_seat.2.1 15 = .ok (.iaload, 1) := by decide +kernel
theorem d_MD_seat_16 : decode M_MD_seat.2.1 16 = .ok (.bipush 7, 2) := by decide +kernel
theorem d_MD_seat_18 : decode M_MD_seat.2.1 18 = .ok (.irem, 1) := by decide +kernel
theorem d_MD_seat_19 : decode M_MD_seat.2.1 19 = .ok (.goto 9, 3) := by decide +kernel
theorem d_MD_seat_22 : decode M_MD_seat.2.1 22 = .ok (.aload_n 0, 1) := by decide +kernel
theorem d_MD_seat_23 : decode M_MD_seat.2.1 23 = .ok (.getfield 7, 3) := by decide +kernel
theorem d_MD_seat_26 : decode M_MD_seat.2.1 26 = .ok (.iload_n 1, 1) := by decide +kernel
theorem d_MD_seat_27 : decode M_MD_seat.2.1 27 = .ok (.iaload, 1) := by decide +kernel
theorem d_MD_seat_28 : decode M_MD_seat.2.1 28 = .ok (.istore_n 2, 1) := by decide +kernel
theorem d_MD_seat_29 : decode M_MD_seat.2.1 29 = .ok (.iconst 4, 1) := by decide +kernel
theorem d_MD_seat_30 : decode M_MD_seat.2.1 30 = .ok (.iload_n 2, 1) := by decide +kernel
theorem d_MD_seat_31 : decode M_MD_seat.2.1 31 = .ok (.imul, 1) := by decide +kernel
theorem d_MD_seat_32 : decode M_MD_seat.2.1 32 = .ok (.aload_n 0, 1) := by decide +kernel
theorem d_MD_seat_33 : decode M_MD_seat.2.1 33 = .ok (.getfield 40, 3) := by decide +kernel
theorem d_MD_seat_36 : decode M_MD_seat.2.1 36 = .ok (.iconst 1, 1) := by decide +kernel
theorem d_MD_seat_37 : decode M_MD_seat.2.1 37 = .ok (.iaload, 1) := by decide +kernel
theorem d_MD_seat_38 : decode M_MD_seat.2.1 38 = .ok (.iconst 1, 1) := by decide +kernel
theorem d_MD_seat_39 : decode M_MD_seat.2.1 39 = .ok (.if_icmp .ne 12, 3) := by decide +kernel
theorem d_MD_seat_42 : decode M_MD_seat.2.1 42 = .ok (.aload_n 0, 1) := by decide +kernel
theorem d_MD_seat_43 : decode M_MD_seat.2.1 43 = .ok (.getfield 22, 3) := by decide +kernel
theorem d_MD_seat_46 : decode M_MD_seat.2.1 46 = .ok (.iload_n 1, 1) := by decide +kernel
theorem d_MD_seat_47 : decode M_MD_seat.2.1 47 = .ok (.iaload, 1) := by decide +kernel
theorem d_MD_seat_48 : decode M_MD_seat.2.1 48 = .ok (.goto 4, 3) := by decide +kernel
theorem d_MD_seat_51 : decode M_MD_seat.2.1 51 = .ok (.iconst 0, 1) := by decide +kernel
theorem d_MD_seat_52 : decode M_MD_seat.2.1 52 = .ok (.iadd, 1) := by decide +kernel
theorem d_MD_seat_53 : decode M_MD_seat.2.1 53 = .ok (.ireturn, 1) := by decide +kernel
theorem d_MD_sort_0 : decode M_MD_sort.2.1 0 = .ok (.iconst 0, 1) := by decide +kernel
theorem d_MD_sort_1 : decode M_MD_sort.2.1 1 = .ok (.istore_n 1, 1) := by decide +kernel
theorem d_MD_sort_2 : decode M_MD_sort.2.1 2 = .ok (.iload_n 1, 1) := by decide +kernel
theorem d_MD_sort_3 : decode M_MD_sort.2.1 3 = .ok (.aload_n 0, 1) := by decide +kernel
theorem d_MD_sort_4 : decode M_MD_sort.2.1 4 = .ok (.getfield 97, 3) := by decide +kernel
theorem d_MD_sort_7 : decode M_MD_sort.2.1 7 = .ok (.if_icmp .ge 101, 3) := by decide +kernel
theorem d_MD_sort_10 : decode M_MD_sort.2.1 10 = .ok (.iload_n 1, 1) := by decide +kernel
theorem d_MD_sort_11 : decode M_MD_sort.2.1 11 = .ok (.istore_n 2, 1) := by decide +kernel
theorem d_MD_sort_12 : decode M_MD_sort.2.1 12 = .ok (.iload_n 2, 1) := by decide +kernel
theorem d_MD_sort_13 : decode M_MD_sort.2.1 13 = .ok (.ifCond .le 43, 3) := by decide +kernel
theorem d_MD_sort_16 : decode M_MD_sort.2.1 16 = .ok (.aload_n 0, 1) := by decide +kernel
theorem d_MD_sort_17 : decode M_MD_sort.2.1 17 = .ok (.aload_n 0, 1) := by decide +kernel
theorem d_MD_sort_18 : decode M_MD_sort.2.1 18 = .ok (.getfield 43, 3) := by decide +kernel
theorem d_MD_sort_21 : decode M_MD_sort.2.1 21 = .ok (.iload_n 2, 1) := by decide +kernel
theorem d_MD_sort_22 : decode M_MD_sort.2.1 22 = .ok (.iconst 1, 1) := by decide +kernel
theorem d_MD_sort_23 : decode M_MD_sort.2.1 23 = .ok (.isub, 1) := by decide +kernel
theorem d_MD_sort_24 : decode M_MD_sort.2.1 24 = .ok (.iaload, 1) := by decide +kernel
theorem d_MD_sort_25 : decode M_MD_sort.2.1 25 = .ok (.invokevirtual 108, 3) := by decide +kernel
theorem d_MD_sort_28 : decode M_MD_sort.2.1 28 = .ok (.aload_n 0, 1) := by decide +kernel
theorem d_MD_sort_29 : decode M_MD_sort.2.1 29 = .ok (.iload_n 1, 1) := by decide +kernel
theorem d_MD_sort_30 : decode M_MD_sort.2.1 30 = .ok (.invokevirtual 108, 3) := by decide +kernel
theorem d_MD_sort_33 : decode M_MD_sort.2.1 33 = .ok (.if_icmp .le 23, 3) := by decide +kernel
theorem d_MD_sort_36 : decode M_MD_sort.2.1 36 = .ok (.aload_n 0, 1) := by decide +kernel
theorem d_MD_sort_37 : decode M_MD_sort.2.1 37 = .ok (.getfield 43, 3) := by decide +kernel
theorem d_MD_sort_40 : decode M_MD_sort.2.1 40 = .ok (.iload_n 2, 1) := by decide +kernel
theorem d_MD_sort_41 : decode M_MD_sort.2.1 41 = .ok (.aload_n 0, 1) := by decide +kernel
theorem d_MD_sort_42 : decode M_MD_sort.2.1 42 = .ok (.getfield 43, 3) := by decide +kernel
theorem d_MD_sort_45 : decode M_MD_sort.2.1 45 = .ok (.iload_n 2, 1) := by decide +kernel
theorem d_MD_sort_46 : decode M_MD_sort.2.1 46 = .ok (.iconst 1, 1) := by decide +kernel
theorem d_MD_sort_47 : decode M_MD_sort.2.1 47 = .ok (.isub, 1) := by decide +kernel
theorem d_MD_sort_48 : decode M_MD_sort.2.1 48 = .ok (.iaload, 1) := by decide +kernel
theorem d_MD_sort_49 : decode M_MD_sort.2.1 49 = .ok (.iastore, 1) := by decide +kernel
theorem d_MD_sort_50 : decode M_MD_sort.2.1 50 = .ok (.iinc 2 (-1), 3) := by decide +kernel
theorem d_MD_sort_53 : decode M_MD_sort.2.1 53 = .ok (.goto (-41), 3) := by decide +kernel
theorem d_MD_sort_56 : decode M_MD_sort.2.1 56 = .ok (.aload_n 0, 1) := by decide +kernel
theorem d_MD_sort_57 : decode M_MD_sort.2.1 57 = .ok (.getfield 43, 3) := by decide +kernel
theorem d_MD_sort_60 : decode M_MD_sort.2.1 60 = .ok (.iload_n 2, 1) := by decide +kernel
theorem d_MD_sort_61 : decode M_MD_sort.2.1 61 = .ok (.iload_n 1, 1) := by decide +kernel
theorem d_MD_sort_62 : decode M_MD_sort.2.1 62 = .ok (.iastore, 1) := by decide +kernel
theorem d_MD_sort_63 : decode M_MD_sort.2.1 63 = .ok (.aload_n 0, 1) := by decide +kernel
theorem d_MD_sort_64 : decode M_MD_sort.2.1 64 = .ok (.getfield 46, 3) := by decide +kernel
theorem d_MD_sort_67 : decode M_MD_sort.2.1 67 = .ok (.iload_n 1, 1) := by decide +kernel
theorem d_MD_sort_68 : decode M_MD_sort.2.1 68 = .ok (.aload_n 0, 1) := by decide +kernel
theorem d_MD_sort_69 : decode M_MD_sort.2.1 69 = .ok (.getfield 25, 3) := by decide +kernel
theorem d_MD_sort_72 : decode M_MD_sort.2.1 72 = .ok (.iload_n 1, 1) := by decide +kernel
theorem d_MD_sort_73 : decode M_MD_sort.2.1 73 = .ok (.iaload, 1) := by decide +kernel
theorem d_MD_sort_74 : decode M_MD_sort.2.1 74 = .ok (.iconst 1, 1) := by decide +kernel
theorem d_MD_sort_75 : decode M_MD_sort.2.1 75 = .ok (.if_icmp .ne 11, 3) := by decide +kernel
theorem d_MD_sort_78 : decode M_MD_sort.2.1 78 = .ok (.aload_n 0, 1) := by decide +kernel
theorem d_MD_sort_79 : decode M_MD_sort.2.1 79 = .ok (.iload_n 1, 1) := by decide +kernel
theorem d_MD_sort_80 : decode M_MD_sort.2.1 80 = .ok (.invokevirtual 112, 3) := by decide +kernel
theorem d_MD_sort_83 : decode M_MD_sort.2.1 83 = .ok (.goto 4, 3) := by decide +kernel
theorem d_MD_sort_86 : decode M_MD_sort.2.1 86 = .ok (.iconst (-1), 1) := by decide +kernel
theorem d_MD_sort_87 : decode M_MD_sort.2.1 87 = .ok (.iastore, 1) := by decide +kernel
theorem d_MD_sort_88 : decode M_MD_sort.2.1 88 = .ok (.aload_n 0, 1) := by decide +kernel
theorem d_MD_sort_89 : decode M_MD_sort.2.1 89 = .ok (.getfield 49, 3) := by decide +kernel
theorem d_MD_sort_92 : decode M_MD_sort.2.1 92 = .ok (.iload_n 1, 1) := by decide +kernel
theorem d_MD_sort_93 : decode M_MD_sort.2.1 93 = .ok (.iconst 0, 1) := by decide +kernel
theorem d_MD_sort_94 : decode M_MD_sort.2.1 94 = .ok (.iastore, 1) := by decide +kernel
theorem d_MD_sort_95 : decode M_MD_sort.2.1 95 = .ok (.aload_n 0, 1) := by decide +kernel
theorem d_MD_sort_96 : decode M_MD_sort.2.1 96 = .ok (.getfield 52, 3) := by decide +kernel
theorem d_MD_sort_99 : decode M_MD_sort.2.1 99 = .ok (.iload_n 1, 1) := by decide +kernel
theorem d_MD_sort_100 : decode M_MD_sort.2.1 100 = .ok (.iconst 0, 1) := by decide +kernel
theorem d_MD_sort_101 : decode M_MD_sort.2.1 101 = .ok (.bastore, 1) := by decide +kernel
theorem d_MD_sort_102 : decode M_MD_sort.2.1 102 = .ok (.iinc 1 1, 3) := by decide +kernel
theorem d_MD_sort_105 : decode M_MD_sort.2.1 105 = .ok (.goto (-103), 3) := by decide +kernel
theorem d_MD_sort_108 : decode M_MD_sort.2.1 108 = .ok (.return_, 1) := by decide +kernel
theorem d_MD_work_0 : decode M_MD_work.2.1 0 = .ok (.aload_n 0, 1) := by decide +kernel
theorem d_MD_work_1 : decode M_MD_work.2.1 1 = .ok (.getfield 100, 3) := by decide +kernel
theorem d_MD_work_4 : decode M_MD_work.2.1 4 = .ok (.ifCond .eq 4, 3) := by decide +kernel
theorem d_MD_work_7 : decode M_MD_work.2.1 7 = .ok (.return_, 1) := by decide +kernel
theorem d_MD_work_8 : decode M_MD_work.2.1 8 = .ok (.aload_n 0, 1) := by decide +kernel
theorem d_MD_work_9 : decode M_MD_work.2.1 9 = .ok (.iconst 1, 1) := by decide +kernel
theorem d_MD_work_10 : decode M_MD_work.2.1 10 = .ok (.putfield 100, 3) := by decide +kernel
theorem d_MD_work_13 : decode M_MD_work.2.1 13 = .ok (.aload_n 0, 1) := by decide +kernel
theorem d_MD_work_14 : decode M_MD_work.2.1 14 = .ok (.iconst (-1), 1) := by decide +kernel
theorem d_MD_work_15 : decode M_MD_work.2.1 15 = .ok (.putfield 71, 3) := by decide +kernel
theorem d_MD_work_18 : decode M_MD_work.2.1 18 = .ok (.aload_n 0, 1) := by decide +kernel
theorem d_MD_work_19 : decode M_MD_work.2.1 19 = .ok (.invokevirtual 125, 3) := by decide +kernel
theorem d_MD_work_22 : decode M_MD_work.2.1 22 = .ok (.iconst 0, 1) := by decide +kernel
theorem d_MD_work_23 : decode M_MD_work.2.1 23 = .ok (.istore_n 1, 1) := by decide +kernel
theorem d_MD_work_24 : decode M_MD_work.2.1 24 = .ok (.iconst 0, 1) := by decide +kernel
theorem d_MD_work_25 : decode M_MD_work.2.1 25 = .ok (.istore_n 2, 1) := by decide +kernel
theorem d_MD_work_26 : decode M_MD_work.2.1 26 = .ok (.iload_n 2, 1) := by decide +kernel
theorem d_MD_work_27 : decode M_MD_work.2.1 27 = .ok (.bipush 20, 2) := by decide +kernel
theorem d_MD_work_29 : decode M_MD_work.2.1 29 = .ok (.if_icmp .ge 143, 3) := by decide +kernel
theorem d_MD_work_32 : decode M_MD_work.2.1 32 = .ok (.iconst 0, 1) := by decide +kernel
theorem d_MD_work_33 : decode M_MD_work.2.1 33 = .ok (.istore_n 3, 1) := by decide +kernel
theorem d_MD_work_34 : decode M_MD_work.2.1 34 = .ok (.iload_n 3, 1) := by decide +kernel
theorem d_MD_work_35 : decode M_MD_work.2.1 35 = .ok (.sipush 280, 3) := by decide +kernel
theorem d_MD_work_38 : decode M_MD_work.2.1 38 = .ok (.if_icmp .ge 55, 3) := by decide +kernel
theorem d_MD_work_41 : decode M_MD_work.2.1 41 = .ok (.aload_n 0, 1) := by decide +kernel
theorem d_MD_work_42 : decode M_MD_work.2.1 42 = .ok (.getfield 59, 3) := by decide +kernel
theorem d_MD_work_45 : decode M_MD_work.2.1 45 = .ok (.iload_n 3, 1) := by decide +kernel
theorem d_MD_work_46 : decode M_MD_work.2.1 46 = .ok (.aload_n 0, 1) := by decide +kernel
theorem d_MD_work_47 : decode M_MD_work.2.1 47 = .ok (.getfield 56, 3) := by decide +kernel
theorem d_MD_work_50 : decode M_MD_work.2.1 50 = .ok (.iload_n 3, 1) := by decide +kernel
theorem d_MD_work_51 : decode M_MD_work.2.1 51 = .ok (.iaload, 1) := by decide +kernel
theorem d_MD_work_52 : decode M_MD_work.2.1 52 = .ok (.iastore, 1) := by decide +kernel
theorem d_MD_work_53 : decode M_MD_work.2.1 53 = .ok (.aload_n 0, 1) := by decide +kernel
theorem d_MD_work_54 : decode M_MD_work.2.1 54 = .ok (.getfield 56, 3) := by decide +kernel
theorem d_MD_work_57 : decode M_MD_work.2.1 57 = .ok (.iload_n 3, 1) := by decide +kernel
theorem d_MD_work_58 : decode M_MD_work.2.1 58 = .ok (.aload_n 0, 1) := by decide +kernel
theorem d_MD_work_59 : decode M_MD_work.2.1 59 = .ok (.iload_n 2, 1) := by decide +kernel
theorem d_MD_work_60 : decode M_MD_work.2.1 60 = .ok (.invokevirtual 115, 3) := by decide +kernel
theorem d_MD_work_63 : decode M_MD_work.2.1 63 = .ok (.iload_n 3, 1) := by decide +kernel
theorem d_MD_work_64 : decode M_MD_work.2.1 64 = .ok (.iconst 4, 1) := by decide +kernel
theorem d_MD_work_65 : decode M_MD_work.2.1 65 = .ok (.idiv, 1) := by decide +kernel
theorem d_MD_work_66 : decode M_MD_work.2.1 66 = .ok (.bipush 7, 2) := by decide +kernel
theorem d_MD_work_68 : decode M_MD_work.2.1 68 = .ok (.irem, 1) := by decide +kernel
theorem d_MD_work_69 : decode M_MD_work.2.1 69 = .ok (.invokestatic 128, 3) := by decide +kernel
theorem d_MD_work_72 : decode M_MD_work.2.1 72 = .ok (.iastore, 1) := by decide +kernel
theorem d_MD_work_73 : decode M_MD_work.2.1 73 = .ok (.aload_n 0, 1) := by decide +kernel
theorem d_MD_work_74 : decode M_MD_work.2.1 74 = .ok (.getfield 65, 3) := by decide +kernel
theorem d_MD_work_77 : decode M_MD_work.2.1 77 = .ok (.iload_n 3, 1) := by decide +kernel
theorem d_MD_work_78 : decode M_MD_work.2.1 78 = .ok (.iconst 0, 1) := by decide +kernel
theorem d_MD_work_79 : decode M_MD_work.2.1 79 = .ok (.bastore, 1) := by decide +kernel
theorem d_MD_work_80 : decode M_MD_work.2.1 80 = .ok (.aload_n 0, 1) := by decide +kernel
theorem d_MD_work_81 : decode M_MD_work.2.1 81 = .ok (.getfield 68, 3) := by decide +kernel
theorem d_MD_work_84 : decode M_MD_work.2.1 84 = .ok (.iload_n 3, 1) := by decide +kernel
theorem d_MD_work_85 : decode M_MD_work.2.1 85 = .ok (.iconst 0, 1) := by decide +kernel
theorem d_MD_work_86 : decode M_MD_work.2.1 86 = .ok (.bastore, 1) := by decide +kernel
theorem d_MD_work_87 : decode M_MD_work.2.1 87 = .ok (.iinc 3 1, 3) := by decide +kernel
theorem d_MD_work_90 : decode M_MD_work.2.1 90 = .ok (.goto (-56), 3) := by decide +kernel
theorem d_MD_work_93 : decode M_MD_work.2.1 93 = .ok (.iload_n 1, 1) := by decide +kernel
theorem d_MD_work_94 : decode M_MD_work.2.1 94 = .ok (.aload_n 0, 1) := by decide +kernel
theorem d_MD_work_95 : decode M_MD_work.2.1 95 = .ok (.getfield 97, 3) := by decide +kernel
theorem d_MD_work_98 : decode M_MD_work.2.1 98 = .ok (.if_icmp .ge 68, 3) := by decide +kernel
theorem d_MD_work_101 : decode M_MD_work.2.1 101 = .ok (.aload_n 0, 1) := by decide +kernel
theorem d_MD_work_102 : decode M_MD_work.2.1 102 = .ok (.getfield 16, 3) := by decide +kernel
theorem d_MD_work_105 : decode M_MD_work.2.1 105 = .ok (.aload_n 0, 1) := by decide +kernel
theorem d_MD_work_106 : decode M_MD_work.2.1 106 = .ok (.getfield 43, 3) := by decide +kernel
theorem d_MD_work_109 : decode M_MD_work.2.1 109 = .ok (.iload_n 1, 1) := by decide +kernel
theorem d_MD_work_110 : decode M_MD_work.2.1 110 = .ok (.iaload, 1) := by decide +kernel
theorem d_MD_work_111 : decode M_MD_work.2.1 111 = .ok (.iaload, 1) := by decide +kernel
theorem d_MD_work_112 : decode M_MD_work.2.1 112 = .ok (.iload_n 2, 1) := by decide +kernel
theorem d_MD_work_113 : decode M_MD_work.2.1 113 = .ok (.if_icmp .ne 53, 3) := by decide +kernel
theorem d_MD_work_116 : decode M_MD_work.2.1 116 = .ok (.iload_n 1, 1) := by decide +kernel
theorem d_MD_work_117 : decode M_MD_work.2.1 117 = .ok (.istore_n 3, 1) := by decide +kernel
theorem d_MD_work_118 : decode M_MD_work.2.1 118 = .ok (.iload_n 3, 1) := by decide +kernel
theorem d_MD_work_119 : decode M_MD_work.2.1 119 = .ok (.aload_n 0, 1) := by decide +kernel
theorem d_MD_work_120 : decode M_MD_work.2.1 120 = .ok (.getfield 97, 3) := by decide +kernel
theorem d_MD_work_123 : decode M_MD_work.2.1 123 = .ok (.if_icmp .ge 32, 3) := by decide +kernel
theorem d_MD_work_126 : decode M_MD_work.2.1 126 = .ok (.aload_n 0, 1) := by decide +kernel
theorem d_MD_work_127 : decode M_MD_work.2.1 127 = .ok (.aload_n 0, 1) := by decide +kernel
theorem d_MD_work_128 : decode M_MD_work.2.1 128 = .ok (.getfield 43, 3) := by decide +kernel
theorem d_MD_work_131 : decode M_MD_work.2.1 131 = .ok (.iload_n 3, 1) := by decide +kernel
theorem d_MD_work_132 : decode M_MD_work.2.1 132 = .ok (.iaload, 1) := by decide +kernel
theorem d_MD_work_133 : decode M_MD_work.2.1 133 = .ok (.invokevirtual 108, 3) := by decide +kernel
theorem d_MD_work_136 : decode M_MD_work.2.1 136 = .ok (.aload_n 0, 1) := by decide +kernel
theorem d_MD_work_137 : decode M_MD_work.2.1 137 = .ok (.aload_n 0, 1) := by decide +kernel
theorem d_MD_work_138 : decode M_MD_work.2.1 138 = .ok (.getfield 43, 3) := by decide +kernel
theorem d_MD_work_141 : decode M_MD_work.2.1 141 = .ok (.iload_n 1, 1) := by decide +kernel
theorem d_MD_work_142 : decode M_MD_work.2.1 142 = .ok (.iaload, 1) := by decide +kernel
theorem d_MD_work_143 : decode M_MD_work.2.1 143 = .ok (.invokevirtual 108, 3) := by decide +kernel
theorem d_MD_work_146 : decode M_MD_work.2.1 146 = .ok (.if_icmp .ne 9, 3) := by decide +kernel
theorem d_MD_work_149 : decode M_MD_work.2.1 149 = .ok (.iinc 3 1, 3) := by decide +kernel
theorem d_MD_work_152 : decode M_MD_work.2.1 152 = .ok (.goto (-34), 3) := by decide +kernel
theorem d_MD_work_155 : decode M_MD_work.2.1 155 = .ok (.aload_n 0, 1) := by decide +kernel
theorem d_MD_work_156 : decode M_MD_work.2.1 156 = .ok (.iload_n 1, 1) := by decide +kernel
theorem d_MD_work_157 : decode M_MD_work.2.1 157 = .ok (.iload_n 3, 1) := by decide +kernel
theorem d_MD_work_158 : decode M_MD_work.2.1 158 = .ok (.invokevirtual 131, 3) := by decide +kernel
theorem d_MD_work_161 : decode M_MD_work.2.1 161 = .ok (.iload_n 3, 1) := by decide +kernel
theorem d_MD_work_162 : decode M_MD_work.2.1 162 = .ok (.istore_n 1, 1) := by decide +kernel
theorem d_MD_work_163 : decode M_MD_work.2.1 163 = .ok (.goto (-70), 3) := by decide +kernel
theorem d_MD_work_166 : decode M_MD_work.2.1 166 = .ok (.iinc 2 1, 3) := by decide +kernel
theorem d_MD_work_169 : decode M_MD_work.2.1 169 = .ok (.goto (-143), 3) := by decide +kernel
theorem d_MD_work_172 : decode M_MD_work.2.1 172 = .ok (.return_, 1) := by decide +kernel
theorem d_MD_chord_0 : decode M_MD_chord.2.1 0 = .ok (.iconst 0, 1) := by decide +kernel
theorem d_MD_chord_1 : decode M_MD_chord.2.1 1 = .ok (.istore_n 3, 1) := by decide +kernel
theorem d_MD_chord_2 : decode M_MD_chord.2.1 2 = .ok (.iload_n 3, 1) := by decide +kernel
theorem d_MD_chord_3 : decode M_MD_chord.2.1 3 = .ok (.sipush 280, 3) := by decide +kernel
theorem d_MD_chord_6 : decode M_MD_chord.2.1 6 = .ok (.if_icmp .ge 21, 3) := by decide +kernel
theorem d_MD_chord_9 : decode M_MD_chord.2.1 9 = .ok (.aload_n 0, 1) := by decide +kernel
theorem d_MD_chord_10 : decode M_MD_chord.2.1 10 = .ok (.getfield 62, 3) := by decide +kernel
theorem d_MD_chord_13 : decode M_MD_chord.2.1 13 = .ok (.iload_n 3, 1) := by decide +kernel
theorem d_MD_chord_14 : decode M_MD_chord.2.1 14 = .ok (.aload_n 0, 1) := by decide +kernel
theorem d_MD_chord_15 : decode M_MD_chord.2.1 15 = .ok (.getfield 56, 3) := by decide +kernel
theorem d_MD_chord_18 : decode M_MD_chord.2.1 18 = .ok (.iload_n 3, 1) := by decide +kernel
theorem d_MD_chord_19 : decode M_MD_chord.2.1 19 = .ok (.iaload, 1) := by decide +kernel
theorem d_MD_chord_20 : decode M_MD_chord.2.1 20 = .ok (.iastore, 1) := by decide +kernel
theorem d_MD_chord_21 : decode M_MD_chord.2.1 21 = .ok (.iinc 3 1, 3) := by decide +kernel
theorem d_MD_chord_24 : decode M_MD_chord.2.1 24 = .ok (.goto (-22), 3) := by decide +kernel
theorem d_MD_chord_27 : decode M_MD_chord.2.1 27 = .ok (.iload_n 1, 1) := by decide +kernel
theorem d_MD_chord_28 : decode M_MD_chord.2.1 28 = .ok (.istore_n 3, 1) := by decide +kernel
theorem d_MD_chord_29 : decode M_MD_chord.2.1 29 = .ok (.iload_n 3, 1) := by decide +kernel
theorem d_MD_chord_30 : decode M_MD_chord.2.1 30 = .ok (.iload_n 2, 1) := by decide +kernel
theorem d_MD_chord_31 : decode M_MD_chord.2.1 31 = .ok (.if_icmp .ge 16, 3) := by decide +kernel
theorem d_MD_chord_34 : decode M_MD_chord.2.1 34 = .ok (.aload_n 0, 1) := by decide +kernel
theorem d_MD_chord_35 : decode M_MD_chord.2.1 35 = .ok (.iload_n 3, 1) := by decide +kernel
theorem d_MD_chord_36 : decode M_MD_chord.2.1 36 = .ok (.iload_n 1, 1) := by decide +kernel
theorem d_MD_chord_37 : decode M_MD_chord.2.1 37 = .ok (.iload_n 2, 1) := by decide +kernel
theorem d_MD_chord_38 : decode M_MD_chord.2.1 38 = .ok (.invokevirtual 135, 3) := by decide +kernel
theorem d_MD_chord_41 : decode M_MD_chord.2.1 41 = .ok (.iinc 3 1, 3) := by decide +kernel
theorem d_MD_chord_44 : decode M_MD_chord.2.1 44 = .ok (.goto (-15), 3) := by decide +kernel
theorem d_MD_chord_47 : decode M_MD_chord.2.1 47 = .ok (.iload_n 1, 1) := by decide +kernel
theorem d_MD_chord_48 : decode M_MD_chord.2.1 48 = .ok (.istore_n 3, 1) := by decide +kernel
theorem d_MD_chord_49 : decode M_MD_chord.2.1 49 = .ok (.iload_n 3, 1) := by decide +kernel
theorem d_MD_chord_50 : decode M_MD_chord.2.1 50 = .ok (.iload_n 2, 1) := by decide +kernel
theorem d_MD_chord_51 : decode M_MD_chord.2.1 51 = .ok (.if_icmp .ge 15, 3) := by decide +kernel
theorem d_MD_chord_54 : decode M_MD_chord.2.1 54 = .ok (.aload_n 0, 1) := by decide +kernel
theorem d_MD_chord_55 : decode M_MD_chord.2.1 55 = .ok (.iload_n 3, 1) := by decide +kernel
theorem d_MD_chord_56 : decode M_MD_chord.2.1 56 = .ok (.iload_n 1, 1) := by decide +kernel
theorem d_MD_chord_57 : decode M_MD_chord.2.1 57 = .ok (.invokevirtual 139, 3) := by decide +kernel
theorem d_MD_chord_60 : decode M_MD_chord.2.1 60 = .ok (.iinc 3 1, 3) := by decide +kernel
theorem d_MD_chord_63 : decode M_MD_chord.2.1 63 = .ok (.goto (-14), 3) := by decide +kernel
theorem d_MD_chord_66 : decode M_MD_chord.2.1 66 = .ok (.iload_n 1, 1) := by decide +kernel
theorem d_MD_chord_67 : decode M_MD_chord.2.1 67 = .ok (.istore_n 3, 1) := by decide +kernel
theorem d_MD_chord_68 : decode M_MD_chord.2.1 68 = .ok (.iload_n 3, 1) := by decide +kernel
theorem d_MD_chord_69 : decode M_MD_chord.2.1 69 = .ok (.iload_n 2, 1) := by decide +kernel
theorem d_MD_chord_70 : decode M_MD_chord.2.1 70 = .ok (.if_icmp .ge 25, 3) := by decide +kernel
theorem d_MD_chord_73 : decode M_MD_chord.2.1 73 = .ok (.aload_n 0, 1) := by decide +kernel
theorem d_MD_chord_74 : decode M_MD_chord.2.1 74 = .ok (.getfield 65, 3) := by decide +kernel
theorem d_MD_chord_77 : decode M_MD_chord.2.1 77 = .ok (.aload_n 0, 1) := by decide +kernel
theorem d_MD_chord_78 : decode M_MD_chord.2.1 78 = .ok (.aload_n 0, 1) := by decide +kernel
theorem d_MD_chord_79 : decode M_MD_chord.2.1 79 = .ok (.getfield 43, 3) := by decide +kernel
theorem d_MD_chord_82 : decode M_MD_chord.2.1 82 = .ok (.iload_n 3, 1) := by decide +kernel
theorem d_MD_chord_83 : decode M_MD_chord.2.1 83 = .ok (.iaload, 1) := by decide +kernel
theorem d_MD_chord_84 : decode M_MD_chord.2.1 84 = .ok (.invokevirtual 142, 3) := by decide +kernel
theorem d_MD_chord_87 : decode M_MD_chord.2.1 87 = .ok (.iconst 1, 1) := by decide +kernel
theorem d_MD_chord_88 : decode M_MD_chord.2.1 88 = .ok (.bastore, 1) := by decide +kernel
theorem d_MD_chord_89 : decode M_MD_chord.2.1 89 = .ok (.iinc 3 1, 3) := by decide +kernel
theorem d_MD_chord_92 : decode M_MD_chord.2.1 92 = .ok (.goto (-24), 3) := by decide +kernel
theorem d_MD_chord_95 : decode M_MD_chord.2.1 95 = .ok (.iconst 0, 1) := by decide +kernel
theorem d_MD_chord_96 : decode M_MD_chord.2.1 96 = .ok (.istore_n 3, 1) := by decide +kernel
theorem d_MD_chord_97 : decode M_MD_chord.2.1 97 = .ok (.iload_n 3, 1) := by decide +kernel
theorem d_MD_chord_98 : decode M_MD_chord.2.1 98 = .ok (.sipush 280, 3) := by decide +kernel
theorem d_MD_chord_101 : decode M_MD_chord.2.1 101 = .ok (.if_icmp .ge 21, 3) := by decide +kernel
theorem d_MD_chord_104 : decode M_MD_chord.2.1 104 = .ok (.aload_n 0, 1) := by decide +kernel
theorem d_MD_chord_105 : decode M_MD_chord.2.1 105 = .ok (.getfield 56, 3) := by decide +kernel
theorem d_MD_chord_108 : decode M_MD_chord.2.1 108 = .ok (.iload_n 3, 1) := by decide +kernel
theorem d_MD_chord_109 : decode M_MD_chord.2.1 109 = .ok (.aload_n 0, 1) := by decide +kernel
theorem d_MD_chord_110 : decode M_MD_chord.2.1 110 = .ok (.getfield 62, 3) := by decide +kernel
theorem d_MD_chord_113 : decode M_MD_chord.2.1 113 = .ok (.iload_n 3, 1) := by decide +kernel
theorem d_MD_chord_114 : decode M_MD_chord.2.1 114 = .ok (.iaload, 1) := by decide +kernel
theorem d_MD_chord_115 : decode M_MD_chord.2.1 115 = .ok (.iastore, 1) := by decide +kernel
theorem d_MD_chord_116 : decode M_MD_chord.2.1 116 = .ok (.iinc 3 1, 3) := by decide +kernel
theorem d_MD_chord_119 : decode M_MD_chord.2.1 119 = .ok (.goto (-22), 3) := by decide +kernel
theorem d_MD_chord_122 : decode M_MD_chord.2.1 122 = .ok (.return_, 1) := by decide +kernel
theorem d_MD_need_0 : decode M_MD_need.2.1 0 = .ok (.aload_n 0, 1) := by decide +kernel
theorem d_MD_need_1 : decode M_MD_need.2.1 1 = .ok (.getfield 43, 3) := by decide +kernel
theorem d_MD_need_4 : decode M_MD_need.2.1 4 = .ok (.iload_n 1, 1) := by decide +kernel
theorem d_MD_need_5 : decode M_MD_need.2.1 5 = .ok (.iaload, 1) := by decide +kernel
theorem d_MD_need_6 : decode M_MD_need.2.1 6 = .ok (.istore 4, 2) := by decide +kernel
theorem d_MD_need_8 : decode M_MD_need.2.1 8 = .ok (.aload_n 0, 1) := by decide +kernel
theorem d_MD_need_9 : decode M_MD_need.2.1 9 = .ok (.iload 4, 2) := by decide +kernel
theorem d_MD_need_11 : decode M_MD_need.2.1 11 = .ok (.invokevirtual 142, 3) := by decide +kernel
theorem d_MD_need_14 : decode M_MD_need.2.1 14 = .ok (.istore 5, 2) := by decide +kernel
theorem d_MD_need_16 : decode M_MD_need.2.1 16 = .ok (.iconst 0, 1) := by decide +kernel
theorem d_MD_need_17 : decode M_MD_need.2.1 17 = .ok (.istore 6, 2) := by decide +kernel
theorem d_MD_need_19 : decode M_MD_need.2.1 19 = .ok (.iconst 1, 1) := by decide +kernel
theorem d_MD_need_20 : decode M_MD_need.2.1 20 = .ok (.istore 7, 2) := by decide +kernel
theorem d_MD_need_22 : decode M_MD_need.2.1 22 = .ok (.iload_n 2, 1) := by decide +kernel
theorem d_MD_need_23 : decode M_MD_need.2.1 23 = .ok (.istore 8, 2) := by decide +kernel
theorem d_MD_need_25 : decode M_MD_need.2.1 25 = .ok (.iload 8, 2) := by decide +kernel
theorem d_MD_need_27 : decode M_MD_need.2.1 27 = .ok (.iload_n 3, 1) := by decide +kernel
theorem d_MD_need_28 : decode M_MD_need.2.1 28 = .ok (.if_icmp .ge 120, 3) := by decide +kernel
theorem d_MD_need_31 : decode M_MD_need.2.1 31 = .ok (.aload_n 0, 1) := by decide +kernel
theorem d_MD_need_32 : decode M_MD_need.2.1 32 = .ok (.getfield 43, 3) := by decide +kernel
theorem d_MD_need_35 : decode M_MD_need.2.1 35 = .ok (.iload 8, 2) := by decide +kernel
theorem d_MD_need_37 : decode M_MD_need.2.1 37 = .ok (.iaload, 1) := by decide +kernel
theorem d_MD_need_38 : decode M_MD_need.2.1 38 = .ok (.istore 9, 2) := by decide +kernel
theorem d_MD_need_40 : decode M_MD_need.2.1 40 = .ok (.aload_n 0, 1) := by decide +kernel
theorem d_MD_need_41 : decode M_MD_need.2.1 41 = .ok (.iload 9, 2) := by decide +kernel
theorem d_MD_need_43 : decode M_MD_need.2.1 43 = .ok (.invokevirtual 142, 3) := by decide +kernel
theorem d_MD_need_46 : decode M_MD_need.2.1 46 = .ok (.iload 5, 2) := by decide +kernel
theorem d_MD_need_48 : decode M_MD_need.2.1 48 = .ok (.if_icmp .ne 94, 3) := by decide +kernel
theorem d_MD_need_51 : decode M_MD_need.2.1 51 = .ok (.iload 6, 2) := by decide +kernel
theorem d_MD_need_53 : decode M_MD_need.2.1 53 = .ok (.ifCond .ne 20, 3) := by decide +kernel
theorem d_MD_need_56 : decode M_MD_need.2.1 56 = .ok (.aload_n 0, 1) := by decide +kernel
theorem d_MD_need_57 : decode M_MD_need.2.1 57 = .ok (.getfield 13, 3) := by decide +kernel
theorem d_MD_need_60 : decode M_MD_need.2.1 60 = .ok (.iload 9, 2) := by decide +kernel
theorem d_MD_need_62 : decode M_MD_need.2.1 62 = .ok (.iaload, 1) := by decide +kernel
theorem d_MD_need_63 : decode M_MD_need.2.1 63 = .ok (.aload_n 0, 1) := by decide +kernel
theorem d_MD_need_64 : decode M_MD_need.2.1 64 = .ok (.getfield 13, 3) := by decide +kernel
theorem d_MD_need_67 : decode M_MD_need.2.1 67 = .ok (.iload 4, 2) := by decide +kernel
theorem d_MD_need_69 : decode M_MD_need.2.1 69 = .ok (.iaload, 1) := by decide +kernel
theorem d_MD_need_70 : decode M_MD_need.2.1 70 = .ok (.if_icmp .eq 7, 3) := by decide +kernel
theorem d_MD_need_73 : decode M_MD_need.2.1 73 = .ok (.iconst 1, 1) := by decide +kernel
theorem d_MD_need_74 : decode M_MD_need.2.1 74 = .ok (.goto 4, 3) := by decide +kernel
theorem d_MD_need_77 : decode M_MD_need.2.1 77 = .ok (.iconst 0, 1) := by decide +kernel
theorem d_MD_need_78 : decode M_MD_need.2.1 78 = .ok (.istore 6, 2) := by decide +kernel
theorem d_MD_need_80 : decode M_MD_need.2.1 80 = .ok (.iload 7, 2) := by decide +kernel
theorem d_MD_need_82 : decode M_MD_need.2.1 82 = .ok (.ifCond .eq 57, 3) := by decide +kernel
theorem d_MD_need_85 : decode M_MD_need.2.1 85 = .ok (.iload 8, 2) := by decide +kernel
theorem d_MD_need_87 : decode M_MD_need.2.1 87 = .ok (.iload_n 1, 1) := by decide +kernel
theorem d_MD_need_88 : decode M_MD_need.2.1 88 = .ok (.if_icmp .ge 47, 3) := by decide +kernel
theorem d_MD_need_91 : decode M_MD_need.2.1 91 = .ok (.aload_n 0, 1) := by decide +kernel
theorem d_MD_need_92 : decode M_MD_need.2.1 92 = .ok (.getfield 46, 3) := by decide +kernel
theorem d_MD_need_95 : decode M_MD_need.2.1 95 = .ok (.iload 9, 2) := by decide +kernel
theorem d_MD_need_97 : decode M_MD_need.2.1 97 = .ok (.iaload, 1) := by decide +kernel
theorem d_MD_need_98 : decode M_MD_need.2.1 98 = .ok (.ifCond .ge 37, 3) := by decide +kernel
theorem d_MD_need_101 : decode M_MD_need.2.1 101 = .ok (.aload_n 0, 1) := by decide +kernel
theorem d_MD_need_102 : decode M_MD_need.2.1 102 = .ok (.getfield 7, 3) := by decide +kernel
theorem d_MD_need_105 : decode M_MD_need.2.1 105 = .ok (.iload 9, 2) := by decide +kernel
theorem d_MD_need_107 : decode M_MD_need.2.1 107 = .ok (.iaload, 1) := by decide +kernel
theorem d_MD_need_108 : decode M_MD_need.2.1 108 = .ok (.aload_n 0, 1) := by decide +kernel
theorem d_MD_need_109 : decode M_MD_need.2.1 109 = .ok (.getfield 7, 3) := by decide +kernel
theorem d_MD_need_112 : decode M_MD_need.2.1 112 = .ok (.iload 4, 2) := by decide +kernel
theorem d_MD_need_114 : decode M_MD_need.2.1 114 = .ok (.iaload, 1) := by decide +kernel
theorem d_MD_need_115 : decode M_MD_need.2.1 115 = .ok (.if_icmp .ne 20, 3) := by decide +kernel
theorem d_MD_need_118 : decode M_MD_need.2.1 118 = .ok (.aload_n 0, 1) := by decide +kernel
theorem d_MD_need_119 : decode M_MD_need.2.1 119 = .ok (.getfield 13, 3) := by decide +kernel
theorem d_MD_need_122 : decode M_MD_need.2.1 122 = .ok (.iload 9, 2) := by decide +kernel
theorem d_MD_need_124 : decode M_MD_need.2.1 124 = .ok (.iaload, 1) := by decide +kernel
theorem d_MD_need_125 : decode M_MD_need.2.1 125 = .ok (.aload_n 0, 1) := by decide +kernel
theorem d_MD_need_126 : decode M_MD_need.2.1 126 = .ok (.getfield 13, 3) := by decide +kernel
theorem d_MD_need_129 : decode M_MD_need.2.1 129 = .ok (.iload 4, 2) := by decide +kernel
theorem d_MD_need_131 : decode M_MD_need.2.1 131 = .ok (.iaload, 1) := by decide +kernel
theorem d_MD_need_132 : decode M_MD_need.2.1 132 = .ok (.if_icmp .eq 7, 3) := by decide +kernel
theorem d_MD_need_135 : decode M_MD_need.2.1 135 = .ok (.iconst 1, 1) := by decide +kernel
