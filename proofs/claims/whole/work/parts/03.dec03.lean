/-! decode rows, by program -/
theorem d_DS_fillCosts_5 : decode M_DS_fillCosts.2.1 5 = .ok (.isub, 1) := by decide +kernel
theorem d_DS_fillCosts_6 : decode M_DS_fillCosts.2.1 6 = .ok (.istore_n 1, 1) := by decide +kernel
theorem d_DS_fillCosts_7 : decode M_DS_fillCosts.2.1 7 = .ok (.iload_n 1, 1) := by decide +kernel
theorem d_DS_fillCosts_8 : decode M_DS_fillCosts.2.1 8 = .ok (.ifCond .lt 123, 3) := by decide +kernel
theorem d_DS_fillCosts_11 : decode M_DS_fillCosts.2.1 11 = .ok (.iload_n 1, 1) := by decide +kernel
theorem d_DS_fillCosts_12 : decode M_DS_fillCosts.2.1 12 = .ok (.aload_n 0, 1) := by decide +kernel
theorem d_DS_fillCosts_13 : decode M_DS_fillCosts.2.1 13 = .ok (.getfield 42, 3) := by decide +kernel
theorem d_DS_fillCosts_16 : decode M_DS_fillCosts.2.1 16 = .ok (.iconst 1, 1) := by decide +kernel
theorem d_DS_fillCosts_17 : decode M_DS_fillCosts.2.1 17 = .ok (.isub, 1) := by decide +kernel
theorem d_DS_fillCosts_18 : decode M_DS_fillCosts.2.1 18 = .ok (.if_icmp .ne 7, 3) := by decide +kernel
theorem d_DS_fillCosts_21 : decode M_DS_fillCosts.2.1 21 = .ok (.iconst 1, 1) := by decide +kernel
theorem d_DS_fillCosts_22 : decode M_DS_fillCosts.2.1 22 = .ok (.goto 4, 3) := by decide +kernel
theorem d_DS_fillCosts_25 : decode M_DS_fillCosts.2.1 25 = .ok (.iconst 0, 1) := by decide +kernel
theorem d_DS_fillCosts_26 : decode M_DS_fillCosts.2.1 26 = .ok (.istore_n 2, 1) := by decide +kernel
theorem d_DS_fillCosts_27 : decode M_DS_fillCosts.2.1 27 = .ok (.iload_n 2, 1) := by decide +kernel
theorem d_DS_fillCosts_28 : decode M_DS_fillCosts.2.1 28 = .ok (.ifCond .eq 7, 3) := by decide +kernel
theorem d_DS_fillCosts_31 : decode M_DS_fillCosts.2.1 31 = .ok (.iconst 0, 1) := by decide +kernel
theorem d_DS_fillCosts_32 : decode M_DS_fillCosts.2.1 32 = .ok (.goto 5, 3) := by decide +kernel
theorem d_DS_fillCosts_35 : decode M_DS_fillCosts.2.1 35 = .ok (.ldc 78, 2) := by decide +kernel
theorem d_DS_fillCosts_37 : decode M_DS_fillCosts.2.1 37 = .ok (.istore_n 3, 1) := by decide +kernel
theorem d_DS_fillCosts_38 : decode M_DS_fillCosts.2.1 38 = .ok (.iconst 0, 1) := by decide +kernel
theorem d_DS_fillCosts_39 : decode M_DS_fillCosts.2.1 39 = .ok (.istore 4, 2) := by decide +kernel
theorem d_DS_fillCosts_41 : decode M_DS_fillCosts.2.1 41 = .ok (.iload 4, 2) := by decide +kernel
theorem d_DS_fillCosts_43 : decode M_DS_fillCosts.2.1 43 = .ok (.aload_n 0, 1) := by decide +kernel
theorem d_DS_fillCosts_44 : decode M_DS_fillCosts.2.1 44 = .ok (.getfield 54, 3) := by decide +kernel
theorem d_DS_fillCosts_47 : decode M_DS_fillCosts.2.1 47 = .ok (.if_icmp .ge 78, 3) := by decide +kernel
theorem d_DS_fillCosts_50 : decode M_DS_fillCosts.2.1 50 = .ok (.iload_n 2, 1) := by decide +kernel
theorem d_DS_fillCosts_51 : decode M_DS_fillCosts.2.1 51 = .ok (.ifCond .ne 29, 3) := by decide +kernel
theorem d_DS_fillCosts_54 : decode M_DS_fillCosts.2.1 54 = .ok (.iload 4, 2) := by decide +kernel
theorem d_DS_fillCosts_56 : decode M_DS_fillCosts.2.1 56 = .ok (.ifCond .le 24, 3) := by decide +kernel
theorem d_DS_fillCosts_59 : decode M_DS_fillCosts.2.1 59 = .ok (.iload_n 3, 1) := by decide +kernel
theorem d_DS_fillCosts_60 : decode M_DS_fillCosts.2.1 60 = .ok (.aload_n 0, 1) := by decide +kernel
theorem d_DS_fillCosts_61 : decode M_DS_fillCosts.2.1 61 = .ok (.getfield 21, 3) := by decide +kernel
theorem d_DS_fillCosts_64 : decode M_DS_fillCosts.2.1 64 = .ok (.iload_n 1, 1) := by decide +kernel
theorem d_DS_fillCosts_65 : decode M_DS_fillCosts.2.1 65 = .ok (.iconst 1, 1) := by decide +kernel
theorem d_DS_fillCosts_66 : decode M_DS_fillCosts.2.1 66 = .ok (.iadd, 1) := by decide +kernel
theorem d_DS_fillCosts_67 : decode M_DS_fillCosts.2.1 67 = .ok (.bipush 96, 2) := by decide +kernel
theorem d_DS_fillCosts_69 : decode M_DS_fillCosts.2.1 69 = .ok (.imul, 1) := by decide +kernel
theorem d_DS_fillCosts_70 : decode M_DS_fillCosts.2.1 70 = .ok (.iload 4, 2) := by decide +kernel
theorem d_DS_fillCosts_72 : decode M_DS_fillCosts.2.1 72 = .ok (.iadd, 1) := by decide +kernel
theorem d_DS_fillCosts_73 : decode M_DS_fillCosts.2.1 73 = .ok (.iconst 1, 1) := by decide +kernel
theorem d_DS_fillCosts_74 : decode M_DS_fillCosts.2.1 74 = .ok (.isub, 1) := by decide +kernel
theorem d_DS_fillCosts_75 : decode M_DS_fillCosts.2.1 75 = .ok (.iaload, 1) := by decide +kernel
theorem d_DS_fillCosts_76 : decode M_DS_fillCosts.2.1 76 = .ok (.invokestatic 48, 3) := by decide +kernel
theorem d_DS_fillCosts_79 : decode M_DS_fillCosts.2.1 79 = .ok (.istore_n 3, 1) := by decide +kernel
theorem d_DS_fillCosts_80 : decode M_DS_fillCosts.2.1 80 = .ok (.aload_n 0, 1) := by decide +kernel
theorem d_DS_fillCosts_81 : decode M_DS_fillCosts.2.1 81 = .ok (.iload 4, 2) := by decide +kernel
theorem d_DS_fillCosts_83 : decode M_DS_fillCosts.2.1 83 = .ok (.invokevirtual 79, 3) := by decide +kernel
theorem d_DS_fillCosts_86 : decode M_DS_fillCosts.2.1 86 = .ok (.aload_n 0, 1) := by decide +kernel
theorem d_DS_fillCosts_87 : decode M_DS_fillCosts.2.1 87 = .ok (.getfield 15, 3) := by decide +kernel
theorem d_DS_fillCosts_90 : decode M_DS_fillCosts.2.1 90 = .ok (.iload_n 1, 1) := by decide +kernel
theorem d_DS_fillCosts_91 : decode M_DS_fillCosts.2.1 91 = .ok (.iaload, 1) := by decide +kernel
theorem d_DS_fillCosts_92 : decode M_DS_fillCosts.2.1 92 = .ok (.isub, 1) := by decide +kernel
theorem d_DS_fillCosts_93 : decode M_DS_fillCosts.2.1 93 = .ok (.invokestatic 82, 3) := by decide +kernel
theorem d_DS_fillCosts_96 : decode M_DS_fillCosts.2.1 96 = .ok (.istore 5, 2) := by decide +kernel
theorem d_DS_fillCosts_98 : decode M_DS_fillCosts.2.1 98 = .ok (.aload_n 0, 1) := by decide +kernel
theorem d_DS_fillCosts_99 : decode M_DS_fillCosts.2.1 99 = .ok (.getfield 21, 3) := by decide +kernel
theorem d_DS_fillCosts_102 : decode M_DS_fillCosts.2.1 102 = .ok (.iload_n 1, 1) := by decide +kernel
theorem d_DS_fillCosts_103 : decode M_DS_fillCosts.2.1 103 = .ok (.bipush 96, 2) := by decide +kernel
theorem d_DS_fillCosts_105 : decode M_DS_fillCosts.2.1 105 = .ok (.imul, 1) := by decide +kernel
theorem d_DS_fillCosts_106 : decode M_DS_fillCosts.2.1 106 = .ok (.iload 4, 2) := by decide +kernel
theorem d_DS_fillCosts_108 : decode M_DS_fillCosts.2.1 108 = .ok (.iadd, 1) := by decide +kernel
theorem d_DS_fillCosts_109 : decode M_DS_fillCosts.2.1 109 = .ok (.iload_n 3, 1) := by decide +kernel
theorem d_DS_fillCosts_110 : decode M_DS_fillCosts.2.1 110 = .ok (.iload 5, 2) := by decide +kernel
theorem d_DS_fillCosts_112 : decode M_DS_fillCosts.2.1 112 = .ok (.iadd, 1) := by decide +kernel
theorem d_DS_fillCosts_113 : decode M_DS_fillCosts.2.1 113 = .ok (.ldc 78, 2) := by decide +kernel
theorem d_DS_fillCosts_115 : decode M_DS_fillCosts.2.1 115 = .ok (.invokestatic 48, 3) := by decide +kernel
theorem d_DS_fillCosts_118 : decode M_DS_fillCosts.2.1 118 = .ok (.iastore, 1) := by decide +kernel
theorem d_DS_fillCosts_119 : decode M_DS_fillCosts.2.1 119 = .ok (.iinc 4 1, 3) := by decide +kernel
theorem d_DS_fillCosts_122 : decode M_DS_fillCosts.2.1 122 = .ok (.goto (-81), 3) := by decide +kernel
theorem d_DS_fillCosts_125 : decode M_DS_fillCosts.2.1 125 = .ok (.iinc 1 (-1), 3) := by decide +kernel
theorem d_DS_fillCosts_128 : decode M_DS_fillCosts.2.1 128 = .ok (.goto (-121), 3) := by decide +kernel
theorem d_DS_fillCosts_131 : decode M_DS_fillCosts.2.1 131 = .ok (.return_, 1) := by decide +kernel
theorem d_DS_chooseSpaces_0 : decode M_DS_chooseSpaces.2.1 0 = .ok (.aload_n 0, 1) := by decide +kernel
theorem d_DS_chooseSpaces_1 : decode M_DS_chooseSpaces.2.1 1 = .ok (.getfield 54, 3) := by decide +kernel
theorem d_DS_chooseSpaces_4 : decode M_DS_chooseSpaces.2.1 4 = .ok (.istore_n 1, 1) := by decide +kernel
theorem d_DS_chooseSpaces_5 : decode M_DS_chooseSpaces.2.1 5 = .ok (.iconst 0, 1) := by decide +kernel
theorem d_DS_chooseSpaces_6 : decode M_DS_chooseSpaces.2.1 6 = .ok (.istore_n 2, 1) := by decide +kernel
theorem d_DS_chooseSpaces_7 : decode M_DS_chooseSpaces.2.1 7 = .ok (.iload_n 2, 1) := by decide +kernel
theorem d_DS_chooseSpaces_8 : decode M_DS_chooseSpaces.2.1 8 = .ok (.aload_n 0, 1) := by decide +kernel
theorem d_DS_chooseSpaces_9 : decode M_DS_chooseSpaces.2.1 9 = .ok (.getfield 42, 3) := by decide +kernel
theorem d_DS_chooseSpaces_12 : decode M_DS_chooseSpaces.2.1 12 = .ok (.if_icmp .ge 71, 3) := by decide +kernel
theorem d_DS_chooseSpaces_15 : decode M_DS_chooseSpaces.2.1 15 = .ok (.iload_n 1, 1) := by decide +kernel
theorem d_DS_chooseSpaces_16 : decode M_DS_chooseSpaces.2.1 16 = .ok (.iconst 1, 1) := by decide +kernel
theorem d_DS_chooseSpaces_17 : decode M_DS_chooseSpaces.2.1 17 = .ok (.isub, 1) := by decide +kernel
theorem d_DS_chooseSpaces_18 : decode M_DS_chooseSpaces.2.1 18 = .ok (.istore_n 3, 1) := by decide +kernel
theorem d_DS_chooseSpaces_19 : decode M_DS_chooseSpaces.2.1 19 = .ok (.iload_n 1, 1) := by decide +kernel
theorem d_DS_chooseSpaces_20 : decode M_DS_chooseSpaces.2.1 20 = .ok (.iconst 2, 1) := by decide +kernel
theorem d_DS_chooseSpaces_21 : decode M_DS_chooseSpaces.2.1 21 = .ok (.isub, 1) := by decide +kernel
theorem d_DS_chooseSpaces_22 : decode M_DS_chooseSpaces.2.1 22 = .ok (.istore 4, 2) := by decide +kernel
theorem d_DS_chooseSpaces_24 : decode M_DS_chooseSpaces.2.1 24 = .ok (.iload 4, 2) := by decide +kernel
theorem d_DS_chooseSpaces_26 : decode M_DS_chooseSpaces.2.1 26 = .ok (.ifCond .lt 38, 3) := by decide +kernel
theorem d_DS_chooseSpaces_29 : decode M_DS_chooseSpaces.2.1 29 = .ok (.aload_n 0, 1) := by decide +kernel
theorem d_DS_chooseSpaces_30 : decode M_DS_chooseSpaces.2.1 30 = .ok (.getfield 21, 3) := by decide +kernel
theorem d_DS_chooseSpaces_33 : decode M_DS_chooseSpaces.2.1 33 = .ok (.iload_n 2, 1) := by decide +kernel
theorem d_DS_chooseSpaces_34 : decode M_DS_chooseSpaces.2.1 34 = .ok (.bipush 96, 2) := by decide +kernel
theorem d_DS_chooseSpaces_36 : decode M_DS_chooseSpaces.2.1 36 = .ok (.imul, 1) := by decide +kernel
theorem d_DS_chooseSpaces_37 : decode M_DS_chooseSpaces.2.1 37 = .ok (.iload 4, 2) := by decide +kernel
theorem d_DS_chooseSpaces_39 : decode M_DS_chooseSpaces.2.1 39 = .ok (.iadd, 1) := by decide +kernel
theorem d_DS_chooseSpaces_40 : decode M_DS_chooseSpaces.2.1 40 = .ok (.iaload, 1) := by decide +kernel
theorem d_DS_chooseSpaces_41 : decode M_DS_chooseSpaces.2.1 41 = .ok (.aload_n 0, 1) := by decide +kernel
theorem d_DS_chooseSpaces_42 : decode M_DS_chooseSpaces.2.1 42 = .ok (.getfield 21, 3) := by decide +kernel
theorem d_DS_chooseSpaces_45 : decode M_DS_chooseSpaces.2.1 45 = .ok (.iload_n 2, 1) := by decide +kernel
theorem d_DS_chooseSpaces_46 : decode M_DS_chooseSpaces.2.1 46 = .ok (.bipush 96, 2) := by decide +kernel
theorem d_DS_chooseSpaces_48 : decode M_DS_chooseSpaces.2.1 48 = .ok (.imul, 1) := by decide +kernel
theorem d_DS_chooseSpaces_49 : decode M_DS_chooseSpaces.2.1 49 = .ok (.iload_n 3, 1) := by decide +kernel
theorem d_DS_chooseSpaces_50 : decode M_DS_chooseSpaces.2.1 50 = .ok (.iadd, 1) := by decide +kernel
theorem d_DS_chooseSpaces_51 : decode M_DS_chooseSpaces.2.1 51 = .ok (.iaload, 1) := by decide +kernel
theorem d_DS_chooseSpaces_52 : decode M_DS_chooseSpaces.2.1 52 = .ok (.if_icmp .ge 6, 3) := by decide +kernel
theorem d_DS_chooseSpaces_55 : decode M_DS_chooseSpaces.2.1 55 = .ok (.iload 4, 2) := by decide +kernel
theorem d_DS_chooseSpaces_57 : decode M_DS_chooseSpaces.2.1 57 = .ok (.istore_n 3, 1) := by decide +kernel
theorem d_DS_chooseSpaces_58 : decode M_DS_chooseSpaces.2.1 58 = .ok (.iinc 4 (-1), 3) := by decide +kernel
theorem d_DS_chooseSpaces_61 : decode M_DS_chooseSpaces.2.1 61 = .ok (.goto (-37), 3) := by decide +kernel
theorem d_DS_chooseSpaces_64 : decode M_DS_chooseSpaces.2.1 64 = .ok (.aload_n 0, 1) := by decide +kernel
theorem d_DS_chooseSpaces_65 : decode M_DS_chooseSpaces.2.1 65 = .ok (.getfield 18, 3) := by decide +kernel
theorem d_DS_chooseSpaces_68 : decode M_DS_chooseSpaces.2.1 68 = .ok (.iload_n 2, 1) := by decide +kernel
theorem d_DS_chooseSpaces_69 : decode M_DS_chooseSpaces.2.1 69 = .ok (.aload_n 0, 1) := by decide +kernel
theorem d_DS_chooseSpaces_70 : decode M_DS_chooseSpaces.2.1 70 = .ok (.iload_n 3, 1) := by decide +kernel
theorem d_DS_chooseSpaces_71 : decode M_DS_chooseSpaces.2.1 71 = .ok (.invokevirtual 79, 3) := by decide +kernel
theorem d_DS_chooseSpaces_74 : decode M_DS_chooseSpaces.2.1 74 = .ok (.iastore, 1) := by decide +kernel
theorem d_DS_chooseSpaces_75 : decode M_DS_chooseSpaces.2.1 75 = .ok (.iload_n 3, 1) := by decide +kernel
theorem d_DS_chooseSpaces_76 : decode M_DS_chooseSpaces.2.1 76 = .ok (.istore_n 1, 1) := by decide +kernel
theorem d_DS_chooseSpaces_77 : decode M_DS_chooseSpaces.2.1 77 = .ok (.iinc 2 1, 3) := by decide +kernel
theorem d_DS_chooseSpaces_80 : decode M_DS_chooseSpaces.2.1 80 = .ok (.goto (-73), 3) := by decide +kernel
theorem d_DS_chooseSpaces_83 : decode M_DS_chooseSpaces.2.1 83 = .ok (.return_, 1) := by decide +kernel
theorem d_SD_note_0 : decode M_SD_note.2.1 0 = .ok (.iload_n 1, 1) := by decide +kernel
theorem d_SD_note_1 : decode M_SD_note.2.1 1 = .ok (.iconst 0, 1) := by decide +kernel
theorem d_SD_note_2 : decode M_SD_note.2.1 2 = .ok (.bipush 69, 2) := by decide +kernel
theorem d_SD_note_4 : decode M_SD_note.2.1 4 = .ok (.invokestatic 64, 3) := by decide +kernel
theorem d_SD_note_7 : decode M_SD_note.2.1 7 = .ok (.ifCond .eq 42, 3) := by decide +kernel
theorem d_SD_note_10 : decode M_SD_note.2.1 10 = .ok (.iload_n 2, 1) := by decide +kernel
theorem d_SD_note_11 : decode M_SD_note.2.1 11 = .ok (.bipush (-4), 2) := by decide +kernel
theorem d_SD_note_13 : decode M_SD_note.2.1 13 = .ok (.iconst 4, 1) := by decide +kernel
theorem d_SD_note_14 : decode M_SD_note.2.1 14 = .ok (.invokestatic 64, 3) := by decide +kernel
theorem d_SD_note_17 : decode M_SD_note.2.1 17 = .ok (.ifCond .eq 32, 3) := by decide +kernel
theorem d_SD_note_20 : decode M_SD_note.2.1 20 = .ok (.iload_n 3, 1) := by decide +kernel
theorem d_SD_note_21 : decode M_SD_note.2.1 21 = .ok (.invokestatic 68, 3) := by decide +kernel
theorem d_SD_note_24 : decode M_SD_note.2.1 24 = .ok (.ifCond .eq 25, 3) := by decide +kernel
theorem d_SD_note_27 : decode M_SD_note.2.1 27 = .ok (.iload 4, 2) := by decide +kernel
theorem d_SD_note_29 : decode M_SD_note.2.1 29 = .ok (.iconst 0, 1) := by decide +kernel
theorem d_SD_note_30 : decode M_SD_note.2.1 30 = .ok (.sipush 999, 3) := by decide +kernel
theorem d_SD_note_33 : decode M_SD_note.2.1 33 = .ok (.invokestatic 64, 3) := by decide +kernel
theorem d_SD_note_36 : decode M_SD_note.2.1 36 = .ok (.ifCond .eq 13, 3) := by decide +kernel
theorem d_SD_note_39 : decode M_SD_note.2.1 39 = .ok (.iload 5, 2) := by decide +kernel
theorem d_SD_note_41 : decode M_SD_note.2.1 41 = .ok (.iconst 0, 1) := by decide +kernel
theorem d_SD_note_42 : decode M_SD_note.2.1 42 = .ok (.iconst 3, 1) := by decide +kernel
theorem d_SD_note_43 : decode M_SD_note.2.1 43 = .ok (.invokestatic 64, 3) := by decide +kernel
theorem d_SD_note_46 : decode M_SD_note.2.1 46 = .ok (.ifCond .ne 6, 3) := by decide +kernel
theorem d_SD_note_49 : decode M_SD_note.2.1 49 = .ok (.bipush (-3), 2) := by decide +kernel
theorem d_SD_note_51 : decode M_SD_note.2.1 51 = .ok (.ireturn, 1) := by decide +kernel
theorem d_SD_note_52 : decode M_SD_note.2.1 52 = .ok (.aload_n 0, 1) := by decide +kernel
theorem d_SD_note_53 : decode M_SD_note.2.1 53 = .ok (.getfield 10, 3) := by decide +kernel
theorem d_SD_note_56 : decode M_SD_note.2.1 56 = .ok (.getfield 72, 3) := by decide +kernel
theorem d_SD_note_59 : decode M_SD_note.2.1 59 = .ok (.bipush 60, 2) := by decide +kernel
theorem d_SD_note_61 : decode M_SD_note.2.1 61 = .ok (.if_icmp .lt 6, 3) := by decide +kernel
theorem d_SD_note_64 : decode M_SD_note.2.1 64 = .ok (.bipush (-5), 2) := by decide +kernel
theorem d_SD_note_66 : decode M_SD_note.2.1 66 = .ok (.ireturn, 1) := by decide +kernel
theorem d_SD_note_67 : decode M_SD_note.2.1 67 = .ok (.aload_n 0, 1) := by decide +kernel
theorem d_SD_note_68 : decode M_SD_note.2.1 68 = .ok (.invokevirtual 76, 3) := by decide +kernel
theorem d_SD_note_71 : decode M_SD_note.2.1 71 = .ok (.aload_n 0, 1) := by decide +kernel
theorem d_SD_note_72 : decode M_SD_note.2.1 72 = .ok (.getfield 10, 3) := by decide +kernel
theorem d_SD_note_75 : decode M_SD_note.2.1 75 = .ok (.iload_n 1, 1) := by decide +kernel
theorem d_SD_note_76 : decode M_SD_note.2.1 76 = .ok (.iload_n 2, 1) := by decide +kernel
theorem d_SD_note_77 : decode M_SD_note.2.1 77 = .ok (.iload_n 3, 1) := by decide +kernel
theorem d_SD_note_78 : decode M_SD_note.2.1 78 = .ok (.iload 4, 2) := by decide +kernel
theorem d_SD_note_80 : decode M_SD_note.2.1 80 = .ok (.iload 5, 2) := by decide +kernel
theorem d_SD_note_82 : decode M_SD_note.2.1 82 = .ok (.invokevirtual 79, 3) := by decide +kernel
theorem d_SD_note_85 : decode M_SD_note.2.1 85 = .ok (.ireturn, 1) := by decide +kernel
theorem d_SD_mark_0 : decode M_SD_mark.2.1 0 = .ok (.aload_n 0, 1) := by decide +kernel
theorem d_SD_mark_1 : decode M_SD_mark.2.1 1 = .ok (.getfield 10, 3) := by decide +kernel
theorem d_SD_mark_4 : decode M_SD_mark.2.1 4 = .ok (.iload_n 1, 1) := by decide +kernel
theorem d_SD_mark_5 : decode M_SD_mark.2.1 5 = .ok (.invokevirtual 83, 3) := by decide +kernel
theorem d_SD_mark_8 : decode M_SD_mark.2.1 8 = .ok (.ifCond .ne 6, 3) := by decide +kernel
theorem d_SD_mark_11 : decode M_SD_mark.2.1 11 = .ok (.bipush (-2), 2) := by decide +kernel
theorem d_SD_mark_13 : decode M_SD_mark.2.1 13 = .ok (.ireturn, 1) := by decide +kernel
theorem d_SD_mark_14 : decode M_SD_mark.2.1 14 = .ok (.iload_n 2, 1) := by decide +kernel
theorem d_SD_mark_15 : decode M_SD_mark.2.1 15 = .ok (.iconst 0, 1) := by decide +kernel
theorem d_SD_mark_16 : decode M_SD_mark.2.1 16 = .ok (.iconst 2, 1) := by decide +kernel
theorem d_SD_mark_17 : decode M_SD_mark.2.1 17 = .ok (.invokestatic 64, 3) := by decide +kernel
theorem d_SD_mark_20 : decode M_SD_mark.2.1 20 = .ok (.ifCond .eq 16, 3) := by decide +kernel
theorem d_SD_mark_23 : decode M_SD_mark.2.1 23 = .ok (.iload_n 3, 1) := by decide +kernel
theorem d_SD_mark_24 : decode M_SD_mark.2.1 24 = .ok (.iconst 0, 1) := by decide +kernel
theorem d_SD_mark_25 : decode M_SD_mark.2.1 25 = .ok (.getstatic 86, 3) := by decide +kernel
theorem d_SD_mark_28 : decode M_SD_mark.2.1 28 = .ok (.iload_n 2, 1) := by decide +kernel
theorem d_SD_mark_29 : decode M_SD_mark.2.1 29 = .ok (.iaload, 1) := by decide +kernel
theorem d_SD_mark_30 : decode M_SD_mark.2.1 30 = .ok (.invokestatic 64, 3) := by decide +kernel
theorem d_SD_mark_33 : decode M_SD_mark.2.1 33 = .ok (.ifCond .ne 6, 3) := by decide +kernel
theorem d_SD_mark_36 : decode M_SD_mark.2.1 36 = .ok (.bipush (-3), 2) := by decide +kernel
theorem d_SD_mark_38 : decode M_SD_mark.2.1 38 = .ok (.ireturn, 1) := by decide +kernel
theorem d_SD_mark_39 : decode M_SD_mark.2.1 39 = .ok (.iload_n 2, 1) := by decide +kernel
theorem d_SD_mark_40 : decode M_SD_mark.2.1 40 = .ok (.ifCond .ne 23, 3) := by decide +kernel
theorem d_SD_mark_43 : decode M_SD_mark.2.1 43 = .ok (.iload_n 3, 1) := by decide +kernel
theorem d_SD_mark_44 : decode M_SD_mark.2.1 44 = .ok (.iconst 1, 1) := by decide +kernel
theorem d_SD_mark_45 : decode M_SD_mark.2.1 45 = .ok (.if_icmp .ne 18, 3) := by decide +kernel
theorem d_SD_mark_48 : decode M_SD_mark.2.1 48 = .ok (.aload_n 0, 1) := by decide +kernel
theorem d_SD_mark_49 : decode M_SD_mark.2.1 49 = .ok (.getfield 10, 3) := by decide +kernel
theorem d_SD_mark_52 : decode M_SD_mark.2.1 52 = .ok (.iload_n 1, 1) := by decide +kernel
theorem d_SD_mark_53 : decode M_SD_mark.2.1 53 = .ok (.invokevirtual 89, 3) := by decide +kernel
theorem d_SD_mark_56 : decode M_SD_mark.2.1 56 = .ok (.iconst (-1), 1) := by decide +kernel
theorem d_SD_mark_57 : decode M_SD_mark.2.1 57 = .ok (.if_icmp .ne 6, 3) := by decide +kernel
theorem d_SD_mark_60 : decode M_SD_mark.2.1 60 = .ok (.bipush (-4), 2) := by decide +kernel
theorem d_SD_mark_62 : decode M_SD_mark.2.1 62 = .ok (.ireturn, 1) := by decide +kernel
theorem d_SD_mark_63 : decode M_SD_mark.2.1 63 = .ok (.aload_n 0, 1) := by decide +kernel
theorem d_SD_mark_64 : decode M_SD_mark.2.1 64 = .ok (.invokevirtual 76, 3) := by decide +kernel
theorem d_SD_mark_67 : decode M_SD_mark.2.1 67 = .ok (.aload_n 0, 1) := by decide +kernel
theorem d_SD_mark_68 : decode M_SD_mark.2.1 68 = .ok (.getfield 10, 3) := by decide +kernel
theorem d_SD_mark_71 : decode M_SD_mark.2.1 71 = .ok (.iload_n 1, 1) := by decide +kernel
theorem d_SD_mark_72 : decode M_SD_mark.2.1 72 = .ok (.iload_n 2, 1) := by decide +kernel
theorem d_SD_mark_73 : decode M_SD_mark.2.1 73 = .ok (.iload_n 3, 1) := by decide +kernel
theorem d_SD_mark_74 : decode M_SD_mark.2.1 74 = .ok (.invokevirtual 93, 3) := by decide +kernel
theorem d_SD_mark_77 : decode M_SD_mark.2.1 77 = .ok (.ireturn, 1) := by decide +kernel
theorem d_SD_key_0 : decode M_SD_key.2.1 0 = .ok (.iload_n 1, 1) := by decide +kernel
theorem d_SD_key_1 : decode M_SD_key.2.1 1 = .ok (.invokestatic 68, 3) := by decide +kernel
theorem d_SD_key_4 : decode M_SD_key.2.1 4 = .ok (.ifCond .eq 14, 3) := by decide +kernel
theorem d_SD_key_7 : decode M_SD_key.2.1 7 = .ok (.iload_n 2, 1) := by decide +kernel
theorem d_SD_key_8 : decode M_SD_key.2.1 8 = .ok (.bipush (-7), 2) := by decide +kernel
theorem d_SD_key_10 : decode M_SD_key.2.1 10 = .ok (.bipush 7, 2) := by decide +kernel
theorem d_SD_key_12 : decode M_SD_key.2.1 12 = .ok (.invokestatic 64, 3) := by decide +kernel
theorem d_SD_key_15 : decode M_SD_key.2.1 15 = .ok (.ifCond .ne 6, 3) := by decide +kernel
theorem d_SD_key_18 : decode M_SD_key.2.1 18 = .ok (.bipush (-3), 2) := by decide +kernel
theorem d_SD_key_20 : decode M_SD_key.2.1 20 = .ok (.ireturn, 1) := by decide +kernel
theorem d_SD_key_21 : decode M_SD_key.2.1 21 = .ok (.aload_n 0, 1) := by decide +kernel
theorem d_SD_key_22 : decode M_SD_key.2.1 22 = .ok (.invokevirtual 76, 3) := by decide +kernel
theorem d_SD_key_25 : decode M_SD_key.2.1 25 = .ok (.aload_n 0, 1) := by decide +kernel
theorem d_SD_key_26 : decode M_SD_key.2.1 26 = .ok (.getfield 19, 3) := by decide +kernel
theorem d_SD_key_29 : decode M_SD_key.2.1 29 = .ok (.iload_n 1, 1) := by decide +kernel
theorem d_SD_key_30 : decode M_SD_key.2.1 30 = .ok (.iload_n 2, 1) := by decide +kernel
theorem d_SD_key_31 : decode M_SD_key.2.1 31 = .ok (.invokevirtual 97, 3) := by decide +kernel
theorem d_SD_key_34 : decode M_SD_key.2.1 34 = .ok (.ireturn, 1) := by decide +kernel
theorem d_SD_clef_0 : decode M_SD_clef.2.1 0 = .ok (.iload_n 1, 1) := by decide +kernel
theorem d_SD_clef_1 : decode M_SD_clef.2.1 1 = .ok (.invokestatic 68, 3) := by decide +kernel
theorem d_SD_clef_4 : decode M_SD_clef.2.1 4 = .ok (.ifCond .eq 17, 3) := by decide +kernel
theorem d_SD_clef_7 : decode M_SD_clef.2.1 7 = .ok (.iload_n 2, 1) := by decide +kernel
theorem d_SD_clef_8 : decode M_SD_clef.2.1 8 = .ok (.iconst 0, 1) := by decide +kernel
theorem d_SD_clef_9 : decode M_SD_clef.2.1 9 = .ok (.getstatic 101, 3) := by decide +kernel
theorem d_SD_clef_12 : decode M_SD_clef.2.1 12 = .ok (.arraylength, 1) := by decide +kernel
theorem d_SD_clef_13 : decode M_SD_clef.2.1 13 = .ok (.iconst 1, 1) := by decide +kernel
theorem d_SD_clef_14 : decode M_SD_clef.2.1 14 = .ok (.isub, 1) := by decide +kernel
theorem d_SD_clef_15 : decode M_SD_clef.2.1 15 = .ok (.invokestatic 64, 3) := by decide +kernel
theorem d_SD_clef_18 : decode M_SD_clef.2.1 18 = .ok (.ifCond .ne 6, 3) := by decide +kernel
theorem d_SD_clef_21 : decode M_SD_clef.2.1 21 = .ok (.bipush (-3), 2) := by decide +kernel
theorem d_SD_clef_23 : decode M_SD_clef.2.1 23 = .ok (.ireturn, 1) := by decide +kernel
theorem d_SD_clef_24 : decode M_SD_clef.2.1 24 = .ok (.aload_n 0, 1) := by decide +kernel
theorem d_SD_clef_25 : decode M_SD_clef.2.1 25 = .ok (.getfield 23, 3) := by decide +kernel
theorem d_SD_clef_28 : decode M_SD_clef.2.1 28 = .ok (.iload_n 1, 1) := by decide +kernel
theorem d_SD_clef_29 : decode M_SD_clef.2.1 29 = .ok (.iload_n 2, 1) := by decide +kernel
theorem d_SD_clef_30 : decode M_SD_clef.2.1 30 = .ok (.invokevirtual 97, 3) := by decide +kernel
theorem d_SD_clef_33 : decode M_SD_clef.2.1 33 = .ok (.ireturn, 1) := by decide +kernel
theorem d_SD_rule_0 : decode M_SD_rule.2.1 0 = .ok (.iload_n 1, 1) := by decide +kernel
theorem d_SD_rule_1 : decode M_SD_rule.2.1 1 = .ok (.iconst 0, 1) := by decide +kernel
theorem d_SD_rule_2 : decode M_SD_rule.2.1 2 = .ok (.iconst 4, 1) := by decide +kernel
theorem d_SD_rule_3 : decode M_SD_rule.2.1 3 = .ok (.invokestatic 64, 3) := by decide +kernel
theorem d_SD_rule_6 : decode M_SD_rule.2.1 6 = .ok (.ifCond .eq 16, 3) := by decide +kernel
theorem d_SD_rule_9 : decode M_SD_rule.2.1 9 = .ok (.iload_n 2, 1) := by decide +kernel
theorem d_SD_rule_10 : decode M_SD_rule.2.1 10 = .ok (.iconst 0, 1) := by decide +kernel
theorem d_SD_rule_11 : decode M_SD_rule.2.1 11 = .ok (.getstatic 104, 3) := by decide +kernel
theorem d_SD_rule_14 : decode M_SD_rule.2.1 14 = .ok (.iload_n 1, 1) := by decide +kernel
theorem d_SD_rule_15 : decode M_SD_rule.2.1 15 = .ok (.iaload, 1) := by decide +kernel
theorem d_SD_rule_16 : decode M_SD_rule.2.1 16 = .ok (.invokestatic 64, 3) := by decide +kernel
theorem d_SD_rule_19 : decode M_SD_rule.2.1 19 = .ok (.ifCond .ne 6, 3) := by decide +kernel
theorem d_SD_rule_22 : decode M_SD_rule.2.1 22 = .ok (.bipush (-3), 2) := by decide +kernel
theorem d_SD_rule_24 : decode M_SD_rule.2.1 24 = .ok (.ireturn, 1) := by decide +kernel
theorem d_SD_rule_25 : decode M_SD_rule.2.1 25 = .ok (.aload_n 0, 1) := by decide +kernel
theorem d_SD_rule_26 : decode M_SD_rule.2.1 26 = .ok (.getfield 26, 3) := by decide +kernel
theorem d_SD_rule_29 : decode M_SD_rule.2.1 29 = .ok (.iload_n 1, 1) := by decide +kernel
theorem d_SD_rule_30 : decode M_SD_rule.2.1 30 = .ok (.iaload, 1) := by decide +kernel
theorem d_SD_rule_31 : decode M_SD_rule.2.1 31 = .ok (.istore_n 3, 1) := by decide +kernel
theorem d_SD_rule_32 : decode M_SD_rule.2.1 32 = .ok (.aload_n 0, 1) := by decide +kernel
theorem d_SD_rule_33 : decode M_SD_rule.2.1 33 = .ok (.getfield 26, 3) := by decide +kernel
theorem d_SD_rule_36 : decode M_SD_rule.2.1 36 = .ok (.iload_n 1, 1) := by decide +kernel
theorem d_SD_rule_37 : decode M_SD_rule.2.1 37 = .ok (.iload_n 2, 1) := by decide +kernel
theorem d_SD_rule_38 : decode M_SD_rule.2.1 38 = .ok (.iastore, 1) := by decide +kernel
theorem d_SD_rule_39 : decode M_SD_rule.2.1 39 = .ok (.aload_n 0, 1) := by decide +kernel
theorem d_SD_rule_40 : decode M_SD_rule.2.1 40 = .ok (.invokevirtual 76, 3) := by decide +kernel
theorem d_SD_rule_43 : decode M_SD_rule.2.1 43 = .ok (.iload_n 3, 1) := by decide +kernel
theorem d_SD_rule_44 : decode M_SD_rule.2.1 44 = .ok (.ireturn, 1) := by decide +kernel
theorem d_SD_drop_0 : decode M_SD_drop.2.1 0 = .ok (.aload_n 0, 1) := by decide +kernel
theorem d_SD_drop_1 : decode M_SD_drop.2.1 1 = .ok (.getfield 10, 3) := by decide +kernel
theorem d_SD_drop_4 : decode M_SD_drop.2.1 4 = .ok (.getfield 72, 3) := by decide +kernel
theorem d_SD_drop_7 : decode M_SD_drop.2.1 7 = .ok (.ifCond .ne 6, 3) := by decide +kernel
theorem d_SD_drop_10 : decode M_SD_drop.2.1 10 = .ok (.bipush (-2), 2) := by decide +kernel
theorem d_SD_drop_12 : decode M_SD_drop.2.1 12 = .ok (.ireturn, 1) := by decide +kernel
theorem d_SD_drop_13 : decode M_SD_drop.2.1 13 = .ok (.aload_n 0, 1) := by decide +kernel
theorem d_SD_drop_14 : decode M_SD_drop.2.1 14 = .ok (.invokevirtual 76, 3) := by decide +kernel
theorem d_SD_drop_17 : decode M_SD_drop.2.1 17 = .ok (.aload_n 0, 1) := by decide +kernel
theorem d_SD_drop_18 : decode M_SD_drop.2.1 18 = .ok (.getfield 10, 3) := by decide +kernel
theorem d_SD_drop_21 : decode M_SD_drop.2.1 21 = .ok (.invokevirtual 107, 3) := by decide +kernel
theorem d_SD_drop_24 : decode M_SD_drop.2.1 24 = .ok (.aload_n 0, 1) := by decide +kernel
theorem d_SD_drop_25 : decode M_SD_drop.2.1 25 = .ok (.getfield 10, 3) := by decide +kernel
theorem d_SD_drop_28 : decode M_SD_drop.2.1 28 = .ok (.getfield 72, 3) := by decide +kernel
theorem d_SD_drop_31 : decode M_SD_drop.2.1 31 = .ok (.ireturn, 1) := by decide +kernel
theorem d_SD_count_0 : decode M_SD_count.2.1 0 = .ok (.iload_n 1, 1) := by decide +kernel
theorem d_SD_count_1 : decode M_SD_count.2.1 1 = .ok (.tableswitch 79 0 3 #[31, 39, 55, 71], 31) := by decide +kernel
theorem d_SD_count_32 : decode M_SD_count.2.1 32 = .ok (.aload_n 0, 1) := by decide +kernel
theorem d_SD_count_33 : decode M_SD_count.2.1 33 = .ok (.getfield 10, 3) := by decide +kernel
theorem d_SD_count_36 : decode M_SD_count.2.1 36 = .ok (.getfield 72, 3) := by decide +kernel
theorem d_SD_count_39 : decode M_SD_count.2.1 39 = .ok (.ireturn, 1) := by decide +kernel
theorem d_SD_count_40 : decode M_SD_count.2.1 40 = .ok (.aload_n 0, 1) := by decide +kernel
theorem d_SD_count_41 : decode M_SD_count.2.1 41 = .ok (.getfield 35, 3) := by decide +kernel
theorem d_SD_count_44 : decode M_SD_count.2.1 44 = .ok (.invokevirtual 110, 3) := by decide +kernel
theorem d_SD_count_47 : decode M_SD_count.2.1 47 = .ok (.aload_n 0, 1) := by decide +kernel
theorem d_SD_count_48 : decode M_SD_count.2.1 48 = .ok (.getfield 35, 3) := by decide +kernel
theorem d_SD_count_51 : decode M_SD_count.2.1 51 = .ok (.iconst 1, 1) := by decide +kernel
theorem d_SD_count_52 : decode M_SD_count.2.1 52 = .ok (.invokevirtual 113, 3) := by decide +kernel
theorem d_SD_count_55 : decode M_SD_count.2.1 55 = .ok (.ireturn, 1) := by decide +kernel
theorem d_SD_count_56 : decode M_SD_count.2.1 56 = .ok (.aload_n 0, 1) := by decide +kernel
theorem d_SD_count_57 : decode M_SD_count.2.1 57 = .ok (.getfield 35, 3) := by decide +kernel
theorem d_SD_count_60 : decode M_SD_count.2.1 60 = .ok (.invokevirtual 110, 3) := by decide +kernel
theorem d_SD_count_63 : decode M_SD_count.2.1 63 = .ok (.aload_n 0, 1) := by decide +kernel
theorem d_SD_count_64 : decode M_SD_count.2.1 64 = .ok (.getfield 35, 3) := by decide +kernel
theorem d_SD_count_67 : decode M_SD_count.2.1 67 = .ok (.iconst 2, 1) := by decide +kernel
theorem d_SD_count_68 : decode M_SD_count.2.1 68 = .ok (.invokevirtual 113, 3) := by decide +kernel
theorem d_SD_count_71 : decode M_SD_count.2.1 71 = .ok (.ireturn, 1) := by decide +kernel
theorem d_SD_count_72 : decode M_SD_count.2.1 72 = .ok (.aload_n 0, 1) := by decide +kernel
theorem d_SD_count_73 : decode M_SD_count.2.1 73 = .ok (.getfield 10, 3) := by decide +kernel
theorem d_SD_count_76 : decode M_SD_count.2.1 76 = .ok (.invokevirtual 116, 3) := by decide +kernel
theorem d_SD_count_79 : decode M_SD_count.2.1 79 = .ok (.ireturn, 1) := by decide +kernel
theorem d_SD_count_80 : decode M_SD_count.2.1 80 = .ok (.bipush (-3), 2) := by decide +kernel
theorem d_SD_count_82 : decode M_SD_count.2.1 82 = .ok (.ireturn, 1) := by decide +kernel
theorem d_SD_ordered_0 : decode M_SD_ordered.2.1 0 = .ok (.aload_n 0, 1) := by decide +kernel
theorem d_SD_ordered_1 : decode M_SD_ordered.2.1 1 = .ok (.getfield 10, 3) := by decide +kernel
theorem d_SD_ordered_4 : decode M_SD_ordered.2.1 4 = .ok (.iload_n 1, 1) := by decide +kernel
theorem d_SD_ordered_5 : decode M_SD_ordered.2.1 5 = .ok (.invokevirtual 83, 3) := by decide +kernel
theorem d_SD_ordered_8 : decode M_SD_ordered.2.1 8 = .ok (.ifCond .eq 15, 3) := by decide +kernel
theorem d_SD_ordered_11 : decode M_SD_ordered.2.1 11 = .ok (.aload_n 0, 1) := by decide +kernel
theorem d_SD_ordered_12 : decode M_SD_ordered.2.1 12 = .ok (.getfield 10, 3) := by decide +kernel
theorem d_SD_ordered_15 : decode M_SD_ordered.2.1 15 = .ok (.getfield 120, 3) := by decide +kernel
theorem d_SD_ordered_18 : decode M_SD_ordered.2.1 18 = .ok (.iload_n 1, 1) := by decide +kernel
theorem d_SD_ordered_19 : decode M_SD_ordered.2.1 19 = .ok (.iaload, 1) := by decide +kernel
theorem d_SD_ordered_20 : decode M_SD_ordered.2.1 20 = .ok (.goto 5, 3) := by decide +kernel
theorem d_SD_ordered_23 : decode M_SD_ordered.2.1 23 = .ok (.bipush (-2), 2) := by decide +kernel
theorem d_SD_ordered_25 : decode M_SD_ordered.2.1 25 = .ok (.ireturn, 1) := by decide +kernel
theorem d_SD_sign_0 : decode M_SD_sign.2.1 0 = .ok (.aload_n 0, 1) := by decide +kernel
theorem d_SD_sign_1 : decode M_SD_sign.2.1 1 = .ok (.getfield 10, 3) := by decide +kernel
theorem d_SD_sign_4 : decode M_SD_sign.2.1 4 = .ok (.iload_n 1, 1) := by decide +kernel
theorem d_SD_sign_5 : decode M_SD_sign.2.1 5 = .ok (.invokevirtual 83, 3) := by decide +kernel
theorem d_SD_sign_8 : decode M_SD_sign.2.1 8 = .ok (.ifCond .ne 6, 3) := by decide +kernel
theorem d_SD_sign_11 : decode M_SD_sign.2.1 11 = .ok (.bipush (-2), 2) := by decide +kernel
theorem d_SD_sign_13 : decode M_SD_sign.2.1 13 = .ok (.ireturn, 1) := by decide +kernel
theorem d_SD_sign_14 : decode M_SD_sign.2.1 14 = .ok (.aload_n 0, 1) := by decide +kernel
theorem d_SD_sign_15 : decode M_SD_sign.2.1 15 = .ok (.getfield 35, 3) := by decide +kernel
theorem d_SD_sign_18 : decode M_SD_sign.2.1 18 = .ok (.invokevirtual 110, 3) := by decide +kernel
theorem d_SD_sign_21 : decode M_SD_sign.2.1 21 = .ok (.iload_n 2, 1) := by decide +kernel
theorem d_SD_sign_22 : decode M_SD_sign.2.1 22 = .ok (.tableswitch 119 0 5 #[38, 48, 67, 77, 86, 110], 38) := by decide +kernel
theorem d_SD_sign_60 : decode M_SD_sign.2.1 60 = .ok (.aload_n 0, 1) := by decide +kernel
theorem d_SD_sign_61 : decode M_SD_sign.2.1 61 = .ok (.getfield 35, 3) := by decide +kernel
theorem d_SD_sign_64 : decode M_SD_sign.2.1 64 = .ok (.getfield 123, 3) := by decide +kernel
theorem d_SD_sign_67 : decode M_SD_sign.2.1 67 = .ok (.iload_n 1, 1) := by decide +kernel
theorem d_SD_sign_68 : decode M_SD_sign.2.1 68 = .ok (.iaload, 1) := by decide +kernel
theorem d_SD_sign_69 : decode M_SD_sign.2.1 69 = .ok (.ireturn, 1) := by decide +kernel
theorem d_SD_sign_70 : decode M_SD_sign.2.1 70 = .ok (.aload_n 0, 1) := by decide +kernel
theorem d_SD_sign_71 : decode M_SD_sign.2.1 71 = .ok (.getfield 35, 3) := by decide +kernel
theorem d_SD_sign_74 : decode M_SD_sign.2.1 74 = .ok (.getfield 126, 3) := by decide +kernel
theorem d_SD_sign_77 : decode M_SD_sign.2.1 77 = .ok (.iload_n 1, 1) := by decide +kernel
theorem d_SD_sign_78 : decode M_SD_sign.2.1 78 = .ok (.iaload, 1) := by decide +kernel
theorem d_SD_sign_79 : decode M_SD_sign.2.1 79 = .ok (.iconst (-1), 1) := by decide +kernel
theorem d_SD_sign_80 : decode M_SD_sign.2.1 80 = .ok (.if_icmp .ne 7, 3) := by decide +kernel
theorem d_SD_sign_83 : decode M_SD_sign.2.1 83 = .ok (.iconst 0, 1) := by decide +kernel
theorem d_SD_sign_84 : decode M_SD_sign.2.1 84 = .ok (.goto 4, 3) := by decide +kernel
theorem d_SD_sign_87 : decode M_SD_sign.2.1 87 = .ok (.iconst 1, 1) := by decide +kernel
theorem d_SD_sign_88 : decode M_SD_sign.2.1 88 = .ok (.ireturn, 1) := by decide +kernel
theorem d_SD_sign_89 : decode M_SD_sign.2.1 89 = .ok (.aload_n 0, 1) := by decide +kernel
theorem d_SD_sign_90 : decode M_SD_sign.2.1 90 = .ok (.getfield 35, 3) := by decide +kernel
theorem d_SD_sign_93 : decode M_SD_sign.2.1 93 = .ok (.getfield 129, 3) := by decide +kernel
theorem d_SD_sign_96 : decode M_SD_sign.2.1 96 = .ok (.iload_n 1, 1) := by decide +kernel
theorem d_SD_sign_97 : decode M_SD_sign.2.1 97 = .ok (.iaload, 1) := by decide +kernel
theorem d_SD_sign_98 : decode M_SD_sign.2.1 98 = .ok (.ireturn, 1) := by decide +kernel
theorem d_SD_sign_99 : decode M_SD_sign.2.1 99 = .ok (.aload_n 0, 1) := by decide +kernel
theorem d_SD_sign_100 : decode M_SD_sign.2.1 100 = .ok (.getfield 35, 3) := by decide +kernel
theorem d_SD_sign_103 : decode M_SD_sign.2.1 103 = .ok (.iload_n 1, 1) := by decide +kernel
theorem d_SD_sign_104 : decode M_SD_sign.2.1 104 = .ok (.invokevirtual 132, 3) := by decide +kernel
theorem d_SD_sign_107 : decode M_SD_sign.2.1 107 = .ok (.ireturn, 1) := by decide +kernel
theorem d_SD_sign_108 : decode M_SD_sign.2.1 108 = .ok (.aload_n 0, 1) := by decide +kernel
theorem d_SD_sign_109 : decode M_SD_sign.2.1 109 = .ok (.getfield 44, 3) := by decide +kernel
theorem d_SD_sign_112 : decode M_SD_sign.2.1 112 = .ok (.aload_n 0, 1) := by decide +kernel
theorem d_SD_sign_113 : decode M_SD_sign.2.1 113 = .ok (.getfield 10, 3) := by decide +kernel
theorem d_SD_sign_116 : decode M_SD_sign.2.1 116 = .ok (.iload_n 1, 1) := by decide +kernel
theorem d_SD_sign_117 : decode M_SD_sign.2.1 117 = .ok (.invokevirtual 135, 3) := by decide +kernel
theorem d_SD_sign_120 : decode M_SD_sign.2.1 120 = .ok (.invokevirtual 138, 3) := by decide +kernel
theorem d_SD_sign_123 : decode M_SD_sign.2.1 123 = .ok (.aload_n 0, 1) := by decide +kernel
theorem d_SD_sign_124 : decode M_SD_sign.2.1 124 = .ok (.getfield 44, 3) := by decide +kernel
theorem d_SD_sign_127 : decode M_SD_sign.2.1 127 = .ok (.iload_n 1, 1) := by decide +kernel
theorem d_SD_sign_128 : decode M_SD_sign.2.1 128 = .ok (.invokevirtual 142, 3) := by decide +kernel
theorem d_SD_sign_131 : decode M_SD_sign.2.1 131 = .ok (.ireturn, 1) := by decide +kernel
theorem d_SD_sign_132 : decode M_SD_sign.2.1 132 = .ok (.aload_n 0, 1) := by decide +kernel
theorem d_SD_sign_133 : decode M_SD_sign.2.1 133 = .ok (.iload_n 1, 1) := by decide +kernel
theorem d_SD_sign_134 : decode M_SD_sign.2.1 134 = .ok (.invokevirtual 145, 3) := by decide +kernel
theorem d_SD_sign_137 : decode M_SD_sign.2.1 137 = .ok (.bipush 100, 2) := by decide +kernel
theorem d_SD_sign_139 : decode M_SD_sign.2.1 139 = .ok (.iadd, 1) := by decide +kernel
theorem d_SD_sign_140 : decode M_SD_sign.2.1 140 = .ok (.ireturn, 1) := by decide +kernel
theorem d_SD_sign_141 : decode M_SD_sign.2.1 141 = .ok (.bipush (-3), 2) := by decide +kernel
theorem d_SD_sign_143 : decode M_SD_sign.2.1 143 = .ok (.ireturn, 1) := by decide +kernel
theorem d_SD_extent_0 : decode M_SD_extent.2.1 0 = .ok (.aload_n 0, 1) := by decide +kernel
theorem d_SD_extent_1 : decode M_SD_extent.2.1 1 = .ok (.getfield 10, 3) := by decide +kernel
theorem d_SD_extent_4 : decode M_SD_extent.2.1 4 = .ok (.iload_n 1, 1) := by decide +kernel
theorem d_SD_extent_5 : decode M_SD_extent.2.1 5 = .ok (.iload_n 2, 1) := by decide +kernel
theorem d_SD_extent_6 : decode M_SD_extent.2.1 6 = .ok (.invokevirtual 148, 3) := by decide +kernel
theorem d_SD_extent_9 : decode M_SD_extent.2.1 9 = .ok (.istore_n 3, 1) := by decide +kernel
theorem d_SD_extent_10 : decode M_SD_extent.2.1 10 = .ok (.iload_n 3, 1) := by decide +kernel
theorem d_SD_extent_11 : decode M_SD_extent.2.1 11 = .ok (.iconst (-1), 1) := by decide +kernel
theorem d_SD_extent_12 : decode M_SD_extent.2.1 12 = .ok (.if_icmp .ne 6, 3) := by decide +kernel
theorem d_SD_extent_15 : decode M_SD_extent.2.1 15 = .ok (.bipush (-2), 2) := by decide +kernel
theorem d_SD_extent_17 : decode M_SD_extent.2.1 17 = .ok (.ireturn, 1) := by decide +kernel
theorem d_SD_extent_18 : decode M_SD_extent.2.1 18 = .ok (.aload_n 0, 1) := by decide +kernel
theorem d_SD_extent_19 : decode M_SD_extent.2.1 19 = .ok (.getfield 35, 3) := by decide +kernel
theorem d_SD_extent_22 : decode M_SD_extent.2.1 22 = .ok (.invokevirtual 110, 3) := by decide +kernel
theorem d_SD_extent_25 : decode M_SD_extent.2.1 25 = .ok (.aload_n 0, 1) := by decide +kernel
theorem d_SD_extent_26 : decode M_SD_extent.2.1 26 = .ok (.getfield 44, 3) := by decide +kernel
theorem d_SD_extent_29 : decode M_SD_extent.2.1 29 = .ok (.iload_n 3, 1) := by decide +kernel
theorem d_SD_extent_30 : decode M_SD_extent.2.1 30 = .ok (.invokevirtual 138, 3) := by decide +kernel
theorem d_SD_extent_33 : decode M_SD_extent.2.1 33 = .ok (.aload_n 0, 1) := by decide +kernel
theorem d_SD_extent_34 : decode M_SD_extent.2.1 34 = .ok (.getfield 44, 3) := by decide +kernel
theorem d_SD_extent_37 : decode M_SD_extent.2.1 37 = .ok (.invokevirtual 151, 3) := by decide +kernel
theorem d_SD_extent_40 : decode M_SD_extent.2.1 40 = .ok (.ireturn, 1) := by decide +kernel
theorem d_SD_dot_0 : decode M_SD_dot.2.1 0 = .ok (.aload_n 0, 1) := by decide +kernel
theorem d_SD_dot_1 : decode M_SD_dot.2.1 1 = .ok (.getfield 10, 3) := by decide +kernel
theorem d_SD_dot_4 : decode M_SD_dot.2.1 4 = .ok (.iload_n 1, 1) := by decide +kernel
theorem d_SD_dot_5 : decode M_SD_dot.2.1 5 = .ok (.invokevirtual 83, 3) := by decide +kernel
theorem d_SD_dot_8 : decode M_SD_dot.2.1 8 = .ok (.ifCond .ne 6, 3) := by decide +kernel
theorem d_SD_dot_11 : decode M_SD_dot.2.1 11 = .ok (.bipush (-2), 2) := by decide +kernel
theorem d_SD_dot_13 : decode M_SD_dot.2.1 13 = .ok (.ireturn, 1) := by decide +kernel
theorem d_SD_dot_14 : decode M_SD_dot.2.1 14 = .ok (.aload_n 0, 1) := by decide +kernel
theorem d_SD_dot_15 : decode M_SD_dot.2.1 15 = .ok (.getfield 10, 3) := by decide +kernel
theorem d_SD_dot_18 : decode M_SD_dot.2.1 18 = .ok (.iload_n 1, 1) := by decide +kernel
theorem d_SD_dot_19 : decode M_SD_dot.2.1 19 = .ok (.iconst 2, 1) := by decide +kernel
theorem d_SD_dot_20 : decode M_SD_dot.2.1 20 = .ok (.invokevirtual 154, 3) := by decide +kernel
theorem d_SD_dot_23 : decode M_SD_dot.2.1 23 = .ok (.ifCond .ne 5, 3) := by decide +kernel
theorem d_SD_dot_26 : decode M_SD_dot.2.1 26 = .ok (.iconst (-1), 1) := by decide +kernel
theorem d_SD_dot_27 : decode M_SD_dot.2.1 27 = .ok (.ireturn, 1) := by decide +kernel
theorem d_SD_dot_28 : decode M_SD_dot.2.1 28 = .ok (.aload_n 0, 1) := by decide +kernel
theorem d_SD_dot_29 : decode M_SD_dot.2.1 29 = .ok (.getfield 53, 3) := by decide +kernel
theorem d_SD_dot_32 : decode M_SD_dot.2.1 32 = .ok (.aload_n 0, 1) := by decide +kernel
theorem d_SD_dot_33 : decode M_SD_dot.2.1 33 = .ok (.getfield 10, 3) := by decide +kernel
theorem d_SD_dot_36 : decode M_SD_dot.2.1 36 = .ok (.iload_n 1, 1) := by decide +kernel
theorem d_SD_dot_37 : decode M_SD_dot.2.1 37 = .ok (.invokevirtual 135, 3) := by decide +kernel
theorem d_SD_dot_40 : decode M_SD_dot.2.1 40 = .ok (.invokevirtual 157, 3) := by decide +kernel
theorem d_SD_dot_43 : decode M_SD_dot.2.1 43 = .ok (.aload_n 0, 1) := by decide +kernel
theorem d_SD_dot_44 : decode M_SD_dot.2.1 44 = .ok (.iload_n 1, 1) := by decide +kernel
theorem d_SD_dot_45 : decode M_SD_dot.2.1 45 = .ok (.invokevirtual 145, 3) := by decide +kernel
theorem d_SD_dot_48 : decode M_SD_dot.2.1 48 = .ok (.aload_n 0, 1) := by decide +kernel
theorem d_SD_dot_49 : decode M_SD_dot.2.1 49 = .ok (.getfield 53, 3) := by decide +kernel
theorem d_SD_dot_52 : decode M_SD_dot.2.1 52 = .ok (.aload_n 0, 1) := by decide +kernel
theorem d_SD_dot_53 : decode M_SD_dot.2.1 53 = .ok (.getfield 10, 3) := by decide +kernel
theorem d_SD_dot_56 : decode M_SD_dot.2.1 56 = .ok (.getfield 158, 3) := by decide +kernel
theorem d_SD_dot_59 : decode M_SD_dot.2.1 59 = .ok (.iload_n 1, 1) := by decide +kernel
theorem d_SD_dot_60 : decode M_SD_dot.2.1 60 = .ok (.iaload, 1) := by decide +kernel
theorem d_SD_dot_61 : decode M_SD_dot.2.1 61 = .ok (.invokevirtual 161, 3) := by decide +kernel
theorem d_SD_dot_64 : decode M_SD_dot.2.1 64 = .ok (.iadd, 1) := by decide +kernel
theorem d_SD_dot_65 : decode M_SD_dot.2.1 65 = .ok (.bipush 100, 2) := by decide +kernel
theorem d_SD_dot_67 : decode M_SD_dot.2.1 67 = .ok (.iadd, 1) := by decide +kernel
theorem d_SD_dot_68 : decode M_SD_dot.2.1 68 = .ok (.ireturn, 1) := by decide +kernel
theorem d_SD_keySigns_0 : decode M_SD_keySigns.2.1 0 = .ok (.iload_n 1, 1) := by decide +kernel
theorem d_SD_keySigns_1 : decode M_SD_keySigns.2.1 1 = .ok (.invokestatic 68, 3) := by decide +kernel
theorem d_SD_keySigns_4 : decode M_SD_keySigns.2.1 4 = .ok (.ifCond .ne 6, 3) := by decide +kernel
theorem d_SD_keySigns_7 : decode M_SD_keySigns.2.1 7 = .ok (.bipush (-3), 2) := by decide +kernel
theorem d_SD_keySigns_9 : decode M_SD_keySigns.2.1 9 = .ok (.ireturn, 1) := by decide +kernel
theorem d_SD_keySigns_10 : decode M_SD_keySigns.2.1 10 = .ok (.aload_n 0, 1) := by decide +kernel
theorem d_SD_keySigns_11 : decode M_SD_keySigns.2.1 11 = .ok (.iload_n 1, 1) := by decide +kernel
theorem d_SD_keySigns_12 : decode M_SD_keySigns.2.1 12 = .ok (.invokevirtual 164, 3) := by decide +kernel
theorem d_SD_keySigns_15 : decode M_SD_keySigns.2.1 15 = .ok (.aload_n 0, 1) := by decide +kernel
theorem d_SD_keySigns_16 : decode M_SD_keySigns.2.1 16 = .ok (.getfield 60, 3) := by decide +kernel
theorem d_SD_keySigns_19 : decode M_SD_keySigns.2.1 19 = .ok (.getfield 167, 3) := by decide +kernel
theorem d_SD_keySigns_22 : decode M_SD_keySigns.2.1 22 = .ok (.ireturn, 1) := by decide +kernel
theorem d_SD_keySign_0 : decode M_SD_keySign.2.1 0 = .ok (.iload_n 1, 1) := by decide +kernel
theorem d_SD_keySign_1 : decode M_SD_keySign.2.1 1 = .ok (.invokestatic 68, 3) := by decide +kernel
theorem d_SD_keySign_4 : decode M_SD_keySign.2.1 4 = .ok (.ifCond .eq 12, 3) := by decide +kernel
theorem d_SD_keySign_7 : decode M_SD_keySign.2.1 7 = .ok (.iload_n 3, 1) := by decide +kernel
theorem d_SD_keySign_8 : decode M_SD_keySign.2.1 8 = .ok (.iconst 0, 1) := by decide +kernel
theorem d_SD_keySign_9 : decode M_SD_keySign.2.1 9 = .ok (.iconst 2, 1) := by decide +kernel
theorem d_SD_keySign_10 : decode M_SD_keySign.2.1 10 = .ok (.invokestatic 64, 3) := by decide +kernel
theorem d_SD_keySign_13 : decode M_SD_keySign.2.1 13 = .ok (.ifCond .ne 6, 3) := by decide +kernel
theorem d_SD_keySign_16 : decode M_SD_keySign.2.1 16 = .ok (.bipush (-3), 2) := by decide +kernel
theorem d_SD_keySign_18 : decode M_SD_keySign.2.1 18 = .ok (.ireturn, 1) := by decide +kernel
theorem d_SD_keySign_19 : decode M_SD_keySign.2.1 19 = .ok (.aload_n 0, 1) := by decide +kernel
theorem d_SD_keySign_20 : decode M_SD_keySign.2.1 20 = .ok (.iload_n 1, 1) := by decide +kernel
theorem d_SD_keySign_21 : decode M_SD_keySign.2.1 21 = .ok (.invokevirtual 164, 3) := by decide +kernel
theorem d_SD_keySign_24 : decode M_SD_keySign.2.1 24 = .ok (.iload_n 2, 1) := by decide +kernel
theorem d_SD_keySign_25 : decode M_SD_keySign.2.1 25 = .ok (.iconst 0, 1) := by decide +kernel
theorem d_SD_keySign_26 : decode M_SD_keySign.2.1 26 = .ok (.aload_n 0, 1) := by decide +kernel
theorem d_SD_keySign_27 : decode M_SD_keySign.2.1 27 = .ok (.getfield 60, 3) := by decide +kernel
theorem d_SD_keySign_30 : decode M_SD_keySign.2.1 30 = .ok (.getfield 167, 3) := by decide +kernel
theorem d_SD_keySign_33 : decode M_SD_keySign.2.1 33 = .ok (.iconst 1, 1) := by decide +kernel
theorem d_SD_keySign_34 : decode M_SD_keySign.2.1 34 = .ok (.isub, 1) := by decide +kernel
theorem d_SD_keySign_35 : decode M_SD_keySign.2.1 35 = .ok (.invokestatic 64, 3) := by decide +kernel
theorem d_SD_keySign_38 : decode M_SD_keySign.2.1 38 = .ok (.ifCond .ne 6, 3) := by decide +kernel
theorem d_SD_keySign_41 : decode M_SD_keySign.2.1 41 = .ok (.bipush (-2), 2) := by decide +kernel
theorem d_SD_keySign_43 : decode M_SD_keySign.2.1 43 = .ok (.ireturn, 1) := by decide +kernel
theorem d_SD_keySign_44 : decode M_SD_keySign.2.1 44 = .ok (.iload_n 3, 1) := by decide +kernel
theorem d_SD_keySign_45 : decode M_SD_keySign.2.1 45 = .ok (.ifCond .ne 13, 3) := by decide +kernel
theorem d_SD_keySign_48 : decode M_SD_keySign.2.1 48 = .ok (.aload_n 0, 1) := by decide +kernel
theorem d_SD_keySign_49 : decode M_SD_keySign.2.1 49 = .ok (.getfield 60, 3) := by decide +kernel
theorem d_SD_keySign_52 : decode M_SD_keySign.2.1 52 = .ok (.getfield 168, 3) := by decide +kernel
theorem d_SD_keySign_55 : decode M_SD_keySign.2.1 55 = .ok (.iload_n 2, 1) := by decide +kernel
theorem d_SD_keySign_56 : decode M_SD_keySign.2.1 56 = .ok (.iaload, 1) := by decide +kernel
theorem d_SD_keySign_57 : decode M_SD_keySign.2.1 57 = .ok (.ireturn, 1) := by decide +kernel
theorem d_SD_keySign_58 : decode M_SD_keySign.2.1 58 = .ok (.iload_n 3, 1) := by decide +kernel
theorem d_SD_keySign_59 : decode M_SD_keySign.2.1 59 = .ok (.iconst 1, 1) := by decide +kernel
theorem d_SD_keySign_60 : decode M_SD_keySign.2.1 60 = .ok (.if_icmp .ne 18, 3) := by decide +kernel
theorem d_SD_keySign_63 : decode M_SD_keySign.2.1 63 = .ok (.aload_n 0, 1) := by decide +kernel
theorem d_SD_keySign_64 : decode M_SD_keySign.2.1 64 = .ok (.getfield 60, 3) := by decide +kernel
theorem d_SD_keySign_67 : decode M_SD_keySign.2.1 67 = .ok (.getfield 171, 3) := by decide +kernel
theorem d_SD_keySign_70 : decode M_SD_keySign.2.1 70 = .ok (.iload_n 2, 1) := by decide +kernel
theorem d_SD_keySign_71 : decode M_SD_keySign.2.1 71 = .ok (.iaload, 1) := by decide +kernel
theorem d_SD_keySign_72 : decode M_SD_keySign.2.1 72 = .ok (.bipush 10, 2) := by decide +kernel
theorem d_SD_keySign_74 : decode M_SD_keySign.2.1 74 = .ok (.iadd, 1) := by decide +kernel
theorem d_SD_keySign_75 : decode M_SD_keySign.2.1 75 = .ok (.goto 15, 3) := by decide +kernel
theorem d_SD_keySign_78 : decode M_SD_keySign.2.1 78 = .ok (.aload_n 0, 1) := by decide +kernel
theorem d_SD_keySign_79 : decode M_SD_keySign.2.1 79 = .ok (.getfield 60, 3) := by decide +kernel
theorem d_SD_keySign_82 : decode M_SD_keySign.2.1 82 = .ok (.getfield 174, 3) := by decide +kernel
theorem d_SD_keySign_85 : decode M_SD_keySign.2.1 85 = .ok (.iload_n 2, 1) := by decide +kernel
theorem d_SD_keySign_86 : decode M_SD_keySign.2.1 86 = .ok (.iaload, 1) := by decide +kernel
theorem d_SD_keySign_87 : decode M_SD_keySign.2.1 87 = .ok (.bipush 100, 2) := by decide +kernel
theorem d_SD_keySign_89 : decode M_SD_keySign.2.1 89 = .ok (.iadd, 1) := by decide +kernel
theorem d_SD_keySign_90 : decode M_SD_keySign.2.1 90 = .ok (.ireturn, 1) := by decide +kernel
theorem d_SD_forgetAnswers_0 : decode M_SD_forgetAnswers.2.1 0 = .ok (.aload_n 0, 1) := by decide +kernel
theorem d_SD_forgetAnswers_1 : decode M_SD_forgetAnswers.2.1 1 = .ok (.getfield 35, 3) := by decide +kernel
theorem d_SD_forgetAnswers_4 : decode M_SD_forgetAnswers.2.1 4 = .ok (.invokevirtual 177, 3) := by decide +kernel
theorem d_SD_forgetAnswers_7 : decode M_SD_forgetAnswers.2.1 7 = .ok (.aload_n 0, 1) := by decide +kernel
theorem d_SD_forgetAnswers_8 : decode M_SD_forgetAnswers.2.1 8 = .ok (.getfield 44, 3) := by decide +kernel
theorem d_SD_forgetAnswers_11 : decode M_SD_forgetAnswers.2.1 11 = .ok (.invokevirtual 180, 3) := by decide +kernel
theorem d_SD_forgetAnswers_14 : decode M_SD_forgetAnswers.2.1 14 = .ok (.aload_n 0, 1) := by decide +kernel
theorem d_SD_forgetAnswers_15 : decode M_SD_forgetAnswers.2.1 15 = .ok (.getfield 53, 3) := by decide +kernel
theorem d_SD_forgetAnswers_18 : decode M_SD_forgetAnswers.2.1 18 = .ok (.invokevirtual 181, 3) := by decide +kernel
theorem d_SD_forgetAnswers_21 : decode M_SD_forgetAnswers.2.1 21 = .ok (.return_, 1) := by decide +kernel
theorem d_SD_layOutKey_0 : decode M_SD_layOutKey.2.1 0 = .ok (.iload_n 1, 1) := by decide +kernel
theorem d_SD_layOutKey_1 : decode M_SD_layOutKey.2.1 1 = .ok (.ifCond .ne 7, 3) := by decide +kernel
theorem d_SD_layOutKey_4 : decode M_SD_layOutKey.2.1 4 = .ok (.iconst 0, 1) := by decide +kernel
theorem d_SD_layOutKey_5 : decode M_SD_layOutKey.2.1 5 = .ok (.goto 13, 3) := by decide +kernel
theorem d_SD_layOutKey_8 : decode M_SD_layOutKey.2.1 8 = .ok (.aload_n 0, 1) := by decide +kernel
theorem d_SD_layOutKey_9 : decode M_SD_layOutKey.2.1 9 = .ok (.getfield 19, 3) := by decide +kernel
theorem d_SD_layOutKey_12 : decode M_SD_layOutKey.2.1 12 = .ok (.iload_n 1, 1) := by decide +kernel
theorem d_SD_layOutKey_13 : decode M_SD_layOutKey.2.1 13 = .ok (.iconst 1, 1) := by decide +kernel
theorem d_SD_layOutKey_14 : decode M_SD_layOutKey.2.1 14 = .ok (.isub, 1) := by decide +kernel
theorem d_SD_layOutKey_15 : decode M_SD_layOutKey.2.1 15 = .ok (.invokevirtual 182, 3) := by decide +kernel
theorem d_SD_layOutKey_18 : decode M_SD_layOutKey.2.1 18 = .ok (.istore_n 2, 1) := by decide +kernel
theorem d_SD_layOutKey_19 : decode M_SD_layOutKey.2.1 19 = .ok (.aload_n 0, 1) := by decide +kernel
theorem d_SD_layOutKey_20 : decode M_SD_layOutKey.2.1 20 = .ok (.getfield 60, 3) := by decide +kernel
theorem d_SD_layOutKey_23 : decode M_SD_layOutKey.2.1 23 = .ok (.iload_n 2, 1) := by decide +kernel
theorem d_SD_layOutKey_24 : decode M_SD_layOutKey.2.1 24 = .ok (.aload_n 0, 1) := by decide +kernel
theorem d_SD_layOutKey_25 : decode M_SD_layOutKey.2.1 25 = .ok (.getfield 19, 3) := by decide +kernel
theorem d_SD_layOutKey_28 : decode M_SD_layOutKey.2.1 28 = .ok (.iload_n 1, 1) := by decide +kernel
theorem d_SD_layOutKey_29 : decode M_SD_layOutKey.2.1 29 = .ok (.invokevirtual 182, 3) := by decide +kernel
theorem d_SD_layOutKey_32 : decode M_SD_layOutKey.2.1 32 = .ok (.aload_n 0, 1) := by decide +kernel
theorem d_SD_layOutKey_33 : decode M_SD_layOutKey.2.1 33 = .ok (.getfield 23, 3) := by decide +kernel
theorem d_SD_layOutKey_36 : decode M_SD_layOutKey.2.1 36 = .ok (.iload_n 1, 1) := by decide +kernel
theorem d_SD_layOutKey_37 : decode M_SD_layOutKey.2.1 37 = .ok (.invokevirtual 182, 3) := by decide +kernel
theorem d_SD_layOutKey_40 : decode M_SD_layOutKey.2.1 40 = .ok (.aload_n 0, 1) := by decide +kernel
theorem d_SD_layOutKey_41 : decode M_SD_layOutKey.2.1 41 = .ok (.getfield 26, 3) := by decide +kernel
theorem d_SD_layOutKey_44 : decode M_SD_layOutKey.2.1 44 = .ok (.iconst 4, 1) := by decide +kernel
theorem d_SD_layOutKey_45 : decode M_SD_layOutKey.2.1 45 = .ok (.iaload, 1) := by decide +kernel
theorem d_SD_layOutKey_46 : decode M_SD_layOutKey.2.1 46 = .ok (.invokevirtual 185, 3) := by decide +kernel
theorem d_SD_layOutKey_49 : decode M_SD_layOutKey.2.1 49 = .ok (.return_, 1) := by decide +kernel
theorem d_SD_placeOf_0 : decode M_SD_placeOf.2.1 0 = .ok (.aload_n 0, 1) := by decide +kernel
theorem d_SD_placeOf_1 : decode M_SD_placeOf.2.1 1 = .ok (.getfield 10, 3) := by decide +kernel
theorem d_SD_placeOf_4 : decode M_SD_placeOf.2.1 4 = .ok (.getfield 158, 3) := by decide +kernel
theorem d_SD_placeOf_7 : decode M_SD_placeOf.2.1 7 = .ok (.iload_n 1, 1) := by decide +kernel
theorem d_SD_placeOf_8 : decode M_SD_placeOf.2.1 8 = .ok (.iaload, 1) := by decide +kernel
theorem d_SD_placeOf_9 : decode M_SD_placeOf.2.1 9 = .ok (.getstatic 101, 3) := by decide +kernel
theorem d_SD_placeOf_12 : decode M_SD_placeOf.2.1 12 = .ok (.aload_n 0, 1) := by decide +kernel
theorem d_SD_placeOf_13 : decode M_SD_placeOf.2.1 13 = .ok (.getfield 23, 3) := by decide +kernel
theorem d_SD_placeOf_16 : decode M_SD_placeOf.2.1 16 = .ok (.aload_n 0, 1) := by decide +kernel
theorem d_SD_placeOf_17 : decode M_SD_placeOf.2.1 17 = .ok (.getfield 10, 3) := by decide +kernel
theorem d_SD_placeOf_20 : decode M_SD_placeOf.2.1 20 = .ok (.getfield 188, 3) := by decide +kernel
theorem d_SD_placeOf_23 : decode M_SD_placeOf.2.1 23 = .ok (.iload_n 1, 1) := by decide +kernel
theorem d_SD_placeOf_24 : decode M_SD_placeOf.2.1 24 = .ok (.iaload, 1) := by decide +kernel
theorem d_SD_placeOf_25 : decode M_SD_placeOf.2.1 25 = .ok (.invokevirtual 182, 3) := by decide +kernel
theorem d_SD_placeOf_28 : decode M_SD_placeOf.2.1 28 = .ok (.iaload, 1) := by decide +kernel
theorem d_SD_placeOf_29 : decode M_SD_placeOf.2.1 29 = .ok (.isub, 1) := by decide +kernel
theorem d_SD_placeOf_30 : decode M_SD_placeOf.2.1 30 = .ok (.ireturn, 1) := by decide +kernel
theorem d_SD_isBar_0 : decode M_SD_isBar.2.1 0 = .ok (.iload_n 0, 1) := by decide +kernel
theorem d_SD_isBar_1 : decode M_SD_isBar.2.1 1 = .ok (.iconst 0, 1) := by decide +kernel
theorem d_SD_isBar_2 : decode M_SD_isBar.2.1 2 = .ok (.bipush 19, 2) := by decide +kernel
theorem d_SD_isBar_4 : decode M_SD_isBar.2.1 4 = .ok (.invokestatic 64, 3) := by decide +kernel
theorem d_SD_isBar_7 : decode M_SD_isBar.2.1 7 = .ok (.ireturn, 1) := by decide +kernel
theorem d_SD_within_0 : decode M_SD_within.2.1 0 = .ok (.iload_n 0, 1) := by decide +kernel
theorem d_SD_within_1 : decode M_SD_within.2.1 1 = .ok (.iload_n 1, 1) := by decide +kernel
theorem d_SD_within_2 : decode M_SD_within.2.1 2 = .ok (.if_icmp .lt 12, 3) := by decide +kernel
theorem d_SD_within_5 : decode M_SD_within.2.1 5 = .ok (.iload_n 0, 1) := by decide +kernel
theorem d_SD_within_6 : decode M_SD_within.2.1 6 = .ok (.iload_n 2, 1) := by decide +kernel
theorem d_SD_within_7 : decode M_SD_within.2.1 7 = .ok (.if_icmp .gt 7, 3) := by decide +kernel
theorem d_SD_within_10 : decode M_SD_within.2.1 10 = .ok (.iconst 1, 1) := by decide +kernel
theorem d_SD_within_11 : decode M_SD_within.2.1 11 = .ok (.goto 4, 3) := by decide +kernel
theorem d_SD_within_14 : decode M_SD_within.2.1 14 = .ok (.iconst 0, 1) := by decide +kernel
theorem d_SD_within_15 : decode M_SD_within.2.1 15 = .ok (.ireturn, 1) := by decide +kernel
theorem d_MD_in_0 : decode M_MD_in.2.1 0 = .ok (.iload_n 0, 1) := by decide +kernel
theorem d_MD_in_1 : decode M_MD_in.2.1 1 = .ok (.iload_n 1, 1) := by decide +kernel
theorem d_MD_in_2 : decode M_MD_in.2.1 2 = .ok (.if_icmp .lt 12, 3) := by decide +kernel
theorem d_MD_in_5 : decode M_MD_in.2.1 5 = .ok (.iload_n 0, 1) := by decide +kernel
theorem d_MD_in_6 : decode M_MD_in.2.1 6 = .ok (.iload_n 2, 1) := by decide +kernel
theorem d_MD_in_7 : decode M_MD_in.2.1 7 = .ok (.if_icmp .gt 7, 3) := by decide +kernel
theorem d_MD_in_10 : decode M_MD_in.2.1 10 = .ok (.iconst 1, 1) := by decide +kernel
theorem d_MD_in_11 : decode M_MD_in.2.1 11 = .ok (.goto 4, 3) := by decide +kernel
theorem d_MD_in_14 : decode M_MD_in.2.1 14 = .ok (.iconst 0, 1) := by decide +kernel
theorem d_MD_in_15 : decode M_MD_in.2.1 15 = .ok (.ireturn, 1) := by decide +kernel
theorem d_MD_note_0 : decode M_MD_note.2.1 0 = .ok (.iload_n 1, 1) := by decide +kernel
theorem d_MD_note_1 : decode M_MD_note.2.1 1 = .ok (.iconst 0, 1) := by decide +kernel
theorem d_MD_note_2 : decode M_MD_note.2.1 2 = .ok (.bipush 69, 2) := by decide +kernel
theorem d_MD_note_4 : decode M_MD_note.2.1 4 = .ok (.invokestatic 93, 3) := by decide +kernel
theorem d_MD_note_7 : decode M_MD_note.2.1 7 = .ok (.ifCond .eq 45, 3) := by decide +kernel
theorem d_MD_note_10 : decode M_MD_note.2.1 10 = .ok (.iload_n 2, 1) := by decide +kernel
theorem d_MD_note_11 : decode M_MD_note.2.1 11 = .ok (.bipush (-4), 2) := by decide +kernel
theorem d_MD_note_13 : decode M_MD_note.2.1 13 = .ok (.iconst 4, 1) := by decide +kernel
theorem d_MD_note_14 : decode M_MD_note.2.1 14 = .ok (.invokestatic 93, 3) := by decide +kernel
theorem d_MD_note_17 : decode M_MD_note.2.1 17 = .ok (.ifCond .eq 35, 3) := by decide +kernel
theorem d_MD_note_20 : decode M_MD_note.2.1 20 = .ok (.iload_n 3, 1) := by decide +kernel
theorem d_MD_note_21 : decode M_MD_note.2.1 21 = .ok (.iconst 0, 1) := by decide +kernel
theorem d_MD_note_22 : decode M_MD_note.2.1 22 = .ok (.bipush 19, 2) := by decide +kernel
theorem d_MD_note_24 : decode M_MD_note.2.1 24 = .ok (.invokestatic 93, 3) := by decide +kernel
theorem d_MD_note_27 : decode M_MD_note.2.1 27 = .ok (.ifCond .eq 25, 3) := by decide +kernel
theorem d_MD_note_30 : decode M_MD_note.2.1 30 = .ok (.iload 4, 2) := by decide +kernel
theorem d_MD_note_32 : decode M_MD_note.2.1 32 = .ok (.iconst 0, 1) := by decide +kernel
theorem d_MD_note_33 : decode M_MD_note.2.1 33 = .ok (.sipush 999, 3) := by decide +kernel
theorem d_MD_note_36 : decode M_MD_note.2.1 36 = .ok (.invokestatic 93, 3) := by decide +kernel
theorem d_MD_note_39 : decode M_MD_note.2.1 39 = .ok (.ifCond .eq 13, 3) := by decide +kernel
theorem d_MD_note_42 : decode M_MD_note.2.1 42 = .ok (.iload 5, 2) := by decide +kernel
theorem d_MD_note_44 : decode M_MD_note.2.1 44 = .ok (.iconst 0, 1) := by decide +kernel
theorem d_MD_note_45 : decode M_MD_note.2.1 45 = .ok (.iconst 3, 1) := by decide +kernel
theorem d_MD_note_46 : decode M_MD_note.2.1 46 = .ok (.invokestatic 93, 3) := by decide +kernel
theorem d_MD_note_49 : decode M_MD_note.2.1 49 = .ok (.ifCond .ne 6, 3) := by decide +kernel
theorem d_MD_note_52 : decode M_MD_note.2.1 52 = .ok (.bipush (-3), 2) := by decide +kernel
theorem d_MD_note_54 : decode M_MD_note.2.1 54 = .ok (.ireturn, 1) := by decide +kernel
theorem d_MD_note_55 : decode M_MD_note.2.1 55 = .ok (.aload_n 0, 1) := by decide +kernel
theorem d_MD_note_56 : decode M_MD_note.2.1 56 = .ok (.getfield 97, 3) := by decide +kernel
theorem d_MD_note_59 : decode M_MD_note.2.1 59 = .ok (.bipush 60, 2) := by decide +kernel
theorem d_MD_note_61 : decode M_MD_note.2.1 61 = .ok (.if_icmp .ne 6, 3) := by decide +kernel
theorem d_MD_note_64 : decode M_MD_note.2.1 64 = .ok (.bipush (-5), 2) := by decide +kernel
theorem d_MD_note_66 : decode M_MD_note.2.1 66 = .ok (.ireturn, 1) := by decide +kernel
theorem d_MD_note_67 : decode M_MD_note.2.1 67 = .ok (.aload_n 0, 1) := by decide +kernel
theorem d_MD_note_68 : decode M_MD_note.2.1 68 = .ok (.getfield 7, 3) := by decide +kernel
theorem d_MD_note_71 : decode M_MD_note.2.1 71 = .ok (.aload_n 0, 1) := by decide +kernel
theorem d_MD_note_72 : decode M_MD_note.2.1 72 = .ok (.getfield 97, 3) := by decide +kernel
theorem d_MD_note_75 : decode M_MD_note.2.1 75 = .ok (.iload_n 1, 1) := by decide +kernel
theorem d_MD_note_76 : decode M_MD_note.2.1 76 = .ok (.iastore, 1) := by decide +kernel
theorem d_MD_note_77 : decode M_MD_note.2.1 77 = .ok (.aload_n 0, 1) := by decide +kernel
theorem d_MD_note_78 : decode M_MD_note.2.1 78 = .ok (.getfield 13, 3) := by decide +kernel
theorem d_MD_note_81 : decode M_MD_note.2.1 81 = .ok (.aload_n 0, 1) := by decide +kernel
theorem d_MD_note_82 : decode M_MD_note.2.1 82 = .ok (.getfield 97, 3) := by decide +kernel
theorem d_MD_note_85 : decode M_MD_note.2.1 85 = .ok (.iload_n 2, 1) := by decide +kernel
theorem d_MD_note_86 : decode M_MD_note.2.1 86 = .ok (.iastore, 1) := by decide +kernel
theorem d_MD_note_87 : decode M_MD_note.2.1 87 = .ok (.aload_n 0, 1) := by decide +kernel
theorem d_MD_note_88 : decode M_MD_note.2.1 88 = .ok (.getfield 16, 3) := by decide +kernel
theorem d_MD_note_91 : decode M_MD_note.2.1 91 = .ok (.aload_n 0, 1) := by decide +kernel
theorem d_MD_note_92 : decode M_MD_note.2.1 92 = .ok (.getfield 97, 3) := by decide +kernel
theorem d_MD_note_95 : decode M_MD_note.2.1 95 = .ok (.iload_n 3, 1) := by decide +kernel
theorem d_MD_note_96 : decode M_MD_note.2.1 96 = .ok (.iastore, 1) := by decide +kernel
theorem d_MD_note_97 : decode M_MD_note.2.1 97 = .ok (.aload_n 0, 1) := by decide +kernel
theorem d_MD_note_98 : decode M_MD_note.2.1 98 = .ok (.getfield 19, 3) := by decide +kernel
theorem d_MD_note_101 : decode M_MD_note.2.1 101 = .ok (.aload_n 0, 1) := by decide +kernel
theorem d_MD_note_102 : decode M_MD_note.2.1 102 = .ok (.getfield 97, 3) := by decide +kernel
theorem d_MD_note_105 : decode M_MD_note.2.1 105 = .ok (.iload 4, 2) := by decide +kernel
theorem d_MD_note_107 : decode M_MD_note.2.1 107 = .ok (.iastore, 1) := by decide +kernel
theorem d_MD_note_108 : decode M_MD_note.2.1 108 = .ok (.aload_n 0, 1) := by decide +kernel
theorem d_MD_note_109 : decode M_MD_note.2.1 109 = .ok (.getfield 22, 3) := by decide +kernel
theorem d_MD_note_112 : decode M_MD_note.2.1 112 = .ok (.aload_n 0, 1) := by decide +kernel
theorem d_MD_note_113 : decode M_MD_note.2.1 113 = .ok (.getfield 97, 3) := by decide +kernel
theorem d_MD_note_116 : decode M_MD_note.2.1 116 = .ok (.iload 5, 2) := by decide +kernel
theorem d_MD_note_118 : decode M_MD_note.2.1 118 = .ok (.iastore, 1) := by decide +kernel
theorem d_MD_note_119 : decode M_MD_note.2.1 119 = .ok (.aload_n 0, 1) := by decide +kernel
theorem d_MD_note_120 : decode M_MD_note.2.1 120 = .ok (.iconst 0, 1) := by decide +kernel
theorem d_MD_note_121 : decode M_MD_note.2.1 121 = .ok (.putfield 100, 3) := by decide +kernel
theorem d_MD_note_124 : decode M_MD_note.2.1 124 = .ok (.aload_n 0, 1) := by decide +kernel
theorem d_MD_note_125 : decode M_MD_note.2.1 125 = .ok (.getfield 25, 3) := by decide +kernel
theorem d_MD_note_128 : decode M_MD_note.2.1 128 = .ok (.aload_n 0, 1) := by decide +kernel
theorem d_MD_note_129 : decode M_MD_note.2.1 129 = .ok (.getfield 97, 3) := by decide +kernel
theorem d_MD_note_132 : decode M_MD_note.2.1 132 = .ok (.iconst 0, 1) := by decide +kernel
theorem d_MD_note_133 : decode M_MD_note.2.1 133 = .ok (.iastore, 1) := by decide +kernel
theorem d_MD_note_134 : decode M_MD_note.2.1 134 = .ok (.aload_n 0, 1) := by decide +kernel
theorem d_MD_note_135 : decode M_MD_note.2.1 135 = .ok (.getfield 28, 3) := by decide +kernel
theorem d_MD_note_138 : decode M_MD_note.2.1 138 = .ok (.aload_n 0, 1) := by decide +kernel
theorem d_MD_note_139 : decode M_MD_note.2.1 139 = .ok (.getfield 97, 3) := by decide +kernel
theorem d_MD_note_142 : decode M_MD_note.2.1 142 = .ok (.iconst 0, 1) := by decide +kernel
theorem d_MD_note_143 : decode M_MD_note.2.1 143 = .ok (.iastore, 1) := by decide +kernel
theorem d_MD_note_144 : decode M_MD_note.2.1 144 = .ok (.aload_n 0, 1) := by decide +kernel
theorem d_MD_note_145 : decode M_MD_note.2.1 145 = .ok (.getfield 31, 3) := by decide +kernel
theorem d_MD_note_148 : decode M_MD_note.2.1 148 = .ok (.aload_n 0, 1) := by decide +kernel
theorem d_MD_note_149 : decode M_MD_note.2.1 149 = .ok (.getfield 97, 3) := by decide +kernel
theorem d_MD_note_152 : decode M_MD_note.2.1 152 = .ok (.iconst 0, 1) := by decide +kernel
theorem d_MD_note_153 : decode M_MD_note.2.1 153 = .ok (.iastore, 1) := by decide +kernel
theorem d_MD_note_154 : decode M_MD_note.2.1 154 = .ok (.aload_n 0, 1) := by decide +kernel
theorem d_MD_note_155 : decode M_MD_note.2.1 155 = .ok (.dup, 1) := by decide +kernel
theorem d_MD_note_156 : decode M_MD_note.2.1 156 = .ok (.getfield 97, 3) := by decide +kernel
theorem d_MD_note_159 : decode M_MD_note.2.1 159 = .ok (.iconst 1, 1) := by decide +kernel
theorem d_MD_note_160 : decode M_MD_note.2.1 160 = .ok (.iadd, 1) := by decide +kernel
theorem d_MD_note_161 : decode M_MD_note.2.1 161 = .ok (.putfield 97, 3) := by decide +kernel
theorem d_MD_note_164 : decode M_MD_note.2.1 164 = .ok (.aload_n 0, 1) := by decide +kernel
theorem d_MD_note_165 : decode M_MD_note.2.1 165 = .ok (.getfield 97, 3) := by decide +kernel
theorem d_MD_note_168 : decode M_MD_note.2.1 168 = .ok (.iconst 1, 1) := by decide +kernel
theorem d_MD_note_169 : decode M_MD_note.2.1 169 = .ok (.isub, 1) := by decide +kernel
theorem d_MD_note_170 : decode M_MD_note.2.1 170 = .ok (.ireturn, 1) := by decide +kernel
theorem d_MD_when_0 : decode M_MD_when.2.1 0 = .ok (.sipush 1000, 3) := by decide +kernel
theorem d_MD_when_3 : decode M_MD_when.2.1 3 = .ok (.iload_n 0, 1) := by decide +kernel
theorem d_MD_when_4 : decode M_MD_when.2.1 4 = .ok (.imul, 1) := by decide +kernel
theorem d_MD_when_5 : decode M_MD_when.2.1 5 = .ok (.iload_n 1, 1) := by decide +kernel
theorem d_MD_when_6 : decode M_MD_when.2.1 6 = .ok (.iadd, 1) := by decide +kernel
theorem d_MD_when_7 : decode M_MD_when.2.1 7 = .ok (.ireturn, 1) := by decide +kernel
theorem d_MD_whenOf_0 : decode M_MD_whenOf.2.1 0 = .ok (.aload_n 0, 1) := by decide +kernel
theorem d_MD_whenOf_1 : decode M_MD_whenOf.2.1 1 = .ok (.getfield 16, 3) := by decide +kernel
theorem d_MD_whenOf_4 : decode M_MD_whenOf.2.1 4 = .ok (.iload_n 1, 1) := by decide +kernel
theorem d_MD_whenOf_5 : decode M_MD_whenOf.2.1 5 = .ok (.iaload, 1) := by decide +kernel
theorem d_MD_whenOf_6 : decode M_MD_whenOf.2.1 6 = .ok (.aload_n 0, 1) := by decide +kernel
