/-! decode rows, by program -/
theorem d_SG_isOtherInOctave_92 : decode M_SG_isOtherInOctave.2.1 92 = .ok (.getfield 31, 3) := by decide +kernel
theorem d_SG_isOtherInOctave_95 : decode M_SG_isOtherInOctave.2.1 95 = .ok (.getfield 91, 3) := by decide +kernel
theorem d_SG_isOtherInOctave_98 : decode M_SG_isOtherInOctave.2.1 98 = .ok (.iload_n 1, 1) := by decide +kernel
theorem d_SG_isOtherInOctave_99 : decode M_SG_isOtherInOctave.2.1 99 = .ok (.iaload, 1) := by decide +kernel
theorem d_SG_isOtherInOctave_100 : decode M_SG_isOtherInOctave.2.1 100 = .ok (.if_icmp .eq 5, 3) := by decide +kernel
theorem d_SG_isOtherInOctave_103 : decode M_SG_isOtherInOctave.2.1 103 = .ok (.iconst 1, 1) := by decide +kernel
theorem d_SG_isOtherInOctave_104 : decode M_SG_isOtherInOctave.2.1 104 = .ok (.ireturn, 1) := by decide +kernel
theorem d_SG_isOtherInOctave_105 : decode M_SG_isOtherInOctave.2.1 105 = .ok (.iinc 3 7, 3) := by decide +kernel
theorem d_SG_isOtherInOctave_108 : decode M_SG_isOtherInOctave.2.1 108 = .ok (.goto (-74), 3) := by decide +kernel
theorem d_SG_isOtherInOctave_111 : decode M_SG_isOtherInOctave.2.1 111 = .ok (.iconst 0, 1) := by decide +kernel
theorem d_SG_isOtherInOctave_112 : decode M_SG_isOtherInOctave.2.1 112 = .ok (.ireturn, 1) := by decide +kernel
theorem d_SG_wasOtherByTie_0 : decode M_SG_wasOtherByTie.2.1 0 = .ok (.aload_n 0, 1) := by decide +kernel
theorem d_SG_wasOtherByTie_1 : decode M_SG_wasOtherByTie.2.1 1 = .ok (.getfield 31, 3) := by decide +kernel
theorem d_SG_wasOtherByTie_4 : decode M_SG_wasOtherByTie.2.1 4 = .ok (.getfield 113, 3) := by decide +kernel
theorem d_SG_wasOtherByTie_7 : decode M_SG_wasOtherByTie.2.1 7 = .ok (.iload_n 1, 1) := by decide +kernel
theorem d_SG_wasOtherByTie_8 : decode M_SG_wasOtherByTie.2.1 8 = .ok (.iaload, 1) := by decide +kernel
theorem d_SG_wasOtherByTie_9 : decode M_SG_wasOtherByTie.2.1 9 = .ok (.istore_n 2, 1) := by decide +kernel
theorem d_SG_wasOtherByTie_10 : decode M_SG_wasOtherByTie.2.1 10 = .ok (.iconst 0, 1) := by decide +kernel
theorem d_SG_wasOtherByTie_11 : decode M_SG_wasOtherByTie.2.1 11 = .ok (.istore_n 3, 1) := by decide +kernel
theorem d_SG_wasOtherByTie_12 : decode M_SG_wasOtherByTie.2.1 12 = .ok (.iload_n 3, 1) := by decide +kernel
theorem d_SG_wasOtherByTie_13 : decode M_SG_wasOtherByTie.2.1 13 = .ok (.aload_n 0, 1) := by decide +kernel
theorem d_SG_wasOtherByTie_14 : decode M_SG_wasOtherByTie.2.1 14 = .ok (.getfield 73, 3) := by decide +kernel
theorem d_SG_wasOtherByTie_17 : decode M_SG_wasOtherByTie.2.1 17 = .ok (.if_icmp .ge 104, 3) := by decide +kernel
theorem d_SG_wasOtherByTie_20 : decode M_SG_wasOtherByTie.2.1 20 = .ok (.aload_n 0, 1) := by decide +kernel
theorem d_SG_wasOtherByTie_21 : decode M_SG_wasOtherByTie.2.1 21 = .ok (.getfield 31, 3) := by decide +kernel
theorem d_SG_wasOtherByTie_24 : decode M_SG_wasOtherByTie.2.1 24 = .ok (.getfield 97, 3) := by decide +kernel
theorem d_SG_wasOtherByTie_27 : decode M_SG_wasOtherByTie.2.1 27 = .ok (.iload_n 3, 1) := by decide +kernel
theorem d_SG_wasOtherByTie_28 : decode M_SG_wasOtherByTie.2.1 28 = .ok (.iaload, 1) := by decide +kernel
theorem d_SG_wasOtherByTie_29 : decode M_SG_wasOtherByTie.2.1 29 = .ok (.istore 4, 2) := by decide +kernel
theorem d_SG_wasOtherByTie_31 : decode M_SG_wasOtherByTie.2.1 31 = .ok (.aload_n 0, 1) := by decide +kernel
theorem d_SG_wasOtherByTie_32 : decode M_SG_wasOtherByTie.2.1 32 = .ok (.getfield 31, 3) := by decide +kernel
theorem d_SG_wasOtherByTie_35 : decode M_SG_wasOtherByTie.2.1 35 = .ok (.getfield 113, 3) := by decide +kernel
theorem d_SG_wasOtherByTie_38 : decode M_SG_wasOtherByTie.2.1 38 = .ok (.iload 4, 2) := by decide +kernel
theorem d_SG_wasOtherByTie_40 : decode M_SG_wasOtherByTie.2.1 40 = .ok (.iaload, 1) := by decide +kernel
theorem d_SG_wasOtherByTie_41 : decode M_SG_wasOtherByTie.2.1 41 = .ok (.iload_n 2, 1) := by decide +kernel
theorem d_SG_wasOtherByTie_42 : decode M_SG_wasOtherByTie.2.1 42 = .ok (.if_icmp .ne 73, 3) := by decide +kernel
theorem d_SG_wasOtherByTie_45 : decode M_SG_wasOtherByTie.2.1 45 = .ok (.aload_n 0, 1) := by decide +kernel
theorem d_SG_wasOtherByTie_46 : decode M_SG_wasOtherByTie.2.1 46 = .ok (.getfield 18, 3) := by decide +kernel
theorem d_SG_wasOtherByTie_49 : decode M_SG_wasOtherByTie.2.1 49 = .ok (.iload 4, 2) := by decide +kernel
theorem d_SG_wasOtherByTie_51 : decode M_SG_wasOtherByTie.2.1 51 = .ok (.iaload, 1) := by decide +kernel
theorem d_SG_wasOtherByTie_52 : decode M_SG_wasOtherByTie.2.1 52 = .ok (.aload_n 0, 1) := by decide +kernel
theorem d_SG_wasOtherByTie_53 : decode M_SG_wasOtherByTie.2.1 53 = .ok (.getfield 18, 3) := by decide +kernel
theorem d_SG_wasOtherByTie_56 : decode M_SG_wasOtherByTie.2.1 56 = .ok (.iload_n 1, 1) := by decide +kernel
theorem d_SG_wasOtherByTie_57 : decode M_SG_wasOtherByTie.2.1 57 = .ok (.iaload, 1) := by decide +kernel
theorem d_SG_wasOtherByTie_58 : decode M_SG_wasOtherByTie.2.1 58 = .ok (.if_icmp .ne 57, 3) := by decide +kernel
theorem d_SG_wasOtherByTie_61 : decode M_SG_wasOtherByTie.2.1 61 = .ok (.aload_n 0, 1) := by decide +kernel
theorem d_SG_wasOtherByTie_62 : decode M_SG_wasOtherByTie.2.1 62 = .ok (.getfield 22, 3) := by decide +kernel
theorem d_SG_wasOtherByTie_65 : decode M_SG_wasOtherByTie.2.1 65 = .ok (.iload 4, 2) := by decide +kernel
theorem d_SG_wasOtherByTie_67 : decode M_SG_wasOtherByTie.2.1 67 = .ok (.iaload, 1) := by decide +kernel
theorem d_SG_wasOtherByTie_68 : decode M_SG_wasOtherByTie.2.1 68 = .ok (.iconst (-1), 1) := by decide +kernel
theorem d_SG_wasOtherByTie_69 : decode M_SG_wasOtherByTie.2.1 69 = .ok (.if_icmp .eq 46, 3) := by decide +kernel
theorem d_SG_wasOtherByTie_72 : decode M_SG_wasOtherByTie.2.1 72 = .ok (.aload_n 0, 1) := by decide +kernel
theorem d_SG_wasOtherByTie_73 : decode M_SG_wasOtherByTie.2.1 73 = .ok (.getfield 31, 3) := by decide +kernel
theorem d_SG_wasOtherByTie_76 : decode M_SG_wasOtherByTie.2.1 76 = .ok (.getfield 113, 3) := by decide +kernel
theorem d_SG_wasOtherByTie_79 : decode M_SG_wasOtherByTie.2.1 79 = .ok (.aload_n 0, 1) := by decide +kernel
theorem d_SG_wasOtherByTie_80 : decode M_SG_wasOtherByTie.2.1 80 = .ok (.getfield 22, 3) := by decide +kernel
theorem d_SG_wasOtherByTie_83 : decode M_SG_wasOtherByTie.2.1 83 = .ok (.iload 4, 2) := by decide +kernel
theorem d_SG_wasOtherByTie_85 : decode M_SG_wasOtherByTie.2.1 85 = .ok (.iaload, 1) := by decide +kernel
theorem d_SG_wasOtherByTie_86 : decode M_SG_wasOtherByTie.2.1 86 = .ok (.iaload, 1) := by decide +kernel
theorem d_SG_wasOtherByTie_87 : decode M_SG_wasOtherByTie.2.1 87 = .ok (.iload_n 2, 1) := by decide +kernel
theorem d_SG_wasOtherByTie_88 : decode M_SG_wasOtherByTie.2.1 88 = .ok (.if_icmp .ge 27, 3) := by decide +kernel
theorem d_SG_wasOtherByTie_91 : decode M_SG_wasOtherByTie.2.1 91 = .ok (.aload_n 0, 1) := by decide +kernel
theorem d_SG_wasOtherByTie_92 : decode M_SG_wasOtherByTie.2.1 92 = .ok (.getfield 31, 3) := by decide +kernel
theorem d_SG_wasOtherByTie_95 : decode M_SG_wasOtherByTie.2.1 95 = .ok (.getfield 91, 3) := by decide +kernel
theorem d_SG_wasOtherByTie_98 : decode M_SG_wasOtherByTie.2.1 98 = .ok (.iload 4, 2) := by decide +kernel
theorem d_SG_wasOtherByTie_100 : decode M_SG_wasOtherByTie.2.1 100 = .ok (.iaload, 1) := by decide +kernel
theorem d_SG_wasOtherByTie_101 : decode M_SG_wasOtherByTie.2.1 101 = .ok (.aload_n 0, 1) := by decide +kernel
theorem d_SG_wasOtherByTie_102 : decode M_SG_wasOtherByTie.2.1 102 = .ok (.getfield 31, 3) := by decide +kernel
theorem d_SG_wasOtherByTie_105 : decode M_SG_wasOtherByTie.2.1 105 = .ok (.getfield 91, 3) := by decide +kernel
theorem d_SG_wasOtherByTie_108 : decode M_SG_wasOtherByTie.2.1 108 = .ok (.iload_n 1, 1) := by decide +kernel
theorem d_SG_wasOtherByTie_109 : decode M_SG_wasOtherByTie.2.1 109 = .ok (.iaload, 1) := by decide +kernel
theorem d_SG_wasOtherByTie_110 : decode M_SG_wasOtherByTie.2.1 110 = .ok (.if_icmp .eq 5, 3) := by decide +kernel
theorem d_SG_wasOtherByTie_113 : decode M_SG_wasOtherByTie.2.1 113 = .ok (.iconst 1, 1) := by decide +kernel
theorem d_SG_wasOtherByTie_114 : decode M_SG_wasOtherByTie.2.1 114 = .ok (.ireturn, 1) := by decide +kernel
theorem d_SG_wasOtherByTie_115 : decode M_SG_wasOtherByTie.2.1 115 = .ok (.iinc 3 1, 3) := by decide +kernel
theorem d_SG_wasOtherByTie_118 : decode M_SG_wasOtherByTie.2.1 118 = .ok (.goto (-106), 3) := by decide +kernel
theorem d_SG_wasOtherByTie_121 : decode M_SG_wasOtherByTie.2.1 121 = .ok (.iconst 0, 1) := by decide +kernel
theorem d_SG_wasOtherByTie_122 : decode M_SG_wasOtherByTie.2.1 122 = .ok (.ireturn, 1) := by decide +kernel
theorem d_SG_wasOtherByKey_0 : decode M_SG_wasOtherByKey.2.1 0 = .ok (.aload_n 0, 1) := by decide +kernel
theorem d_SG_wasOtherByKey_1 : decode M_SG_wasOtherByKey.2.1 1 = .ok (.getfield 31, 3) := by decide +kernel
theorem d_SG_wasOtherByKey_4 : decode M_SG_wasOtherByKey.2.1 4 = .ok (.getfield 113, 3) := by decide +kernel
theorem d_SG_wasOtherByKey_7 : decode M_SG_wasOtherByKey.2.1 7 = .ok (.iload_n 1, 1) := by decide +kernel
theorem d_SG_wasOtherByKey_8 : decode M_SG_wasOtherByKey.2.1 8 = .ok (.iaload, 1) := by decide +kernel
theorem d_SG_wasOtherByKey_9 : decode M_SG_wasOtherByKey.2.1 9 = .ok (.istore_n 2, 1) := by decide +kernel
theorem d_SG_wasOtherByKey_10 : decode M_SG_wasOtherByKey.2.1 10 = .ok (.aload_n 0, 1) := by decide +kernel
theorem d_SG_wasOtherByKey_11 : decode M_SG_wasOtherByKey.2.1 11 = .ok (.getfield 31, 3) := by decide +kernel
theorem d_SG_wasOtherByKey_14 : decode M_SG_wasOtherByKey.2.1 14 = .ok (.getfield 55, 3) := by decide +kernel
theorem d_SG_wasOtherByKey_17 : decode M_SG_wasOtherByKey.2.1 17 = .ok (.iload_n 1, 1) := by decide +kernel
theorem d_SG_wasOtherByKey_18 : decode M_SG_wasOtherByKey.2.1 18 = .ok (.iaload, 1) := by decide +kernel
theorem d_SG_wasOtherByKey_19 : decode M_SG_wasOtherByKey.2.1 19 = .ok (.istore_n 3, 1) := by decide +kernel
theorem d_SG_wasOtherByKey_20 : decode M_SG_wasOtherByKey.2.1 20 = .ok (.iload_n 2, 1) := by decide +kernel
theorem d_SG_wasOtherByKey_21 : decode M_SG_wasOtherByKey.2.1 21 = .ok (.ifCond .le 24, 3) := by decide +kernel
theorem d_SG_wasOtherByKey_24 : decode M_SG_wasOtherByKey.2.1 24 = .ok (.aload_n 0, 1) := by decide +kernel
theorem d_SG_wasOtherByKey_25 : decode M_SG_wasOtherByKey.2.1 25 = .ok (.iload_n 2, 1) := by decide +kernel
theorem d_SG_wasOtherByKey_26 : decode M_SG_wasOtherByKey.2.1 26 = .ok (.iconst 1, 1) := by decide +kernel
theorem d_SG_wasOtherByKey_27 : decode M_SG_wasOtherByKey.2.1 27 = .ok (.isub, 1) := by decide +kernel
theorem d_SG_wasOtherByKey_28 : decode M_SG_wasOtherByKey.2.1 28 = .ok (.iload_n 3, 1) := by decide +kernel
theorem d_SG_wasOtherByKey_29 : decode M_SG_wasOtherByKey.2.1 29 = .ok (.invokevirtual 120, 3) := by decide +kernel
theorem d_SG_wasOtherByKey_32 : decode M_SG_wasOtherByKey.2.1 32 = .ok (.aload_n 0, 1) := by decide +kernel
theorem d_SG_wasOtherByKey_33 : decode M_SG_wasOtherByKey.2.1 33 = .ok (.iload_n 2, 1) := by decide +kernel
theorem d_SG_wasOtherByKey_34 : decode M_SG_wasOtherByKey.2.1 34 = .ok (.iload_n 3, 1) := by decide +kernel
theorem d_SG_wasOtherByKey_35 : decode M_SG_wasOtherByKey.2.1 35 = .ok (.invokevirtual 120, 3) := by decide +kernel
theorem d_SG_wasOtherByKey_38 : decode M_SG_wasOtherByKey.2.1 38 = .ok (.if_icmp .eq 7, 3) := by decide +kernel
theorem d_SG_wasOtherByKey_41 : decode M_SG_wasOtherByKey.2.1 41 = .ok (.iconst 1, 1) := by decide +kernel
theorem d_SG_wasOtherByKey_42 : decode M_SG_wasOtherByKey.2.1 42 = .ok (.goto 4, 3) := by decide +kernel
theorem d_SG_wasOtherByKey_45 : decode M_SG_wasOtherByKey.2.1 45 = .ok (.iconst 0, 1) := by decide +kernel
theorem d_SG_wasOtherByKey_46 : decode M_SG_wasOtherByKey.2.1 46 = .ok (.ireturn, 1) := by decide +kernel
theorem d_CO_forget_0 : decode M_CO_forget.2.1 0 = .ok (.aload_n 0, 1) := by decide +kernel
theorem d_CO_forget_1 : decode M_CO_forget.2.1 1 = .ok (.iconst (-1), 1) := by decide +kernel
theorem d_CO_forget_2 : decode M_CO_forget.2.1 2 = .ok (.putfield 27, 3) := by decide +kernel
theorem d_CO_forget_5 : decode M_CO_forget.2.1 5 = .ok (.return_, 1) := by decide +kernel
theorem d_CO_layOut_0 : decode M_CO_layOut.2.1 0 = .ok (.iload_n 1, 1) := by decide +kernel
theorem d_CO_layOut_1 : decode M_CO_layOut.2.1 1 = .ok (.aload_n 0, 1) := by decide +kernel
theorem d_CO_layOut_2 : decode M_CO_layOut.2.1 2 = .ok (.getfield 27, 3) := by decide +kernel
theorem d_CO_layOut_5 : decode M_CO_layOut.2.1 5 = .ok (.if_icmp .ne 4, 3) := by decide +kernel
theorem d_CO_layOut_8 : decode M_CO_layOut.2.1 8 = .ok (.return_, 1) := by decide +kernel
theorem d_CO_layOut_9 : decode M_CO_layOut.2.1 9 = .ok (.aload_n 0, 1) := by decide +kernel
theorem d_CO_layOut_10 : decode M_CO_layOut.2.1 10 = .ok (.iload_n 1, 1) := by decide +kernel
theorem d_CO_layOut_11 : decode M_CO_layOut.2.1 11 = .ok (.putfield 27, 3) := by decide +kernel
theorem d_CO_layOut_14 : decode M_CO_layOut.2.1 14 = .ok (.aload_n 0, 1) := by decide +kernel
theorem d_CO_layOut_15 : decode M_CO_layOut.2.1 15 = .ok (.iload_n 1, 1) := by decide +kernel
theorem d_CO_layOut_16 : decode M_CO_layOut.2.1 16 = .ok (.aload_n 0, 1) := by decide +kernel
theorem d_CO_layOut_17 : decode M_CO_layOut.2.1 17 = .ok (.getfield 31, 3) := by decide +kernel
theorem d_CO_layOut_20 : decode M_CO_layOut.2.1 20 = .ok (.iload_n 1, 1) := by decide +kernel
theorem d_CO_layOut_21 : decode M_CO_layOut.2.1 21 = .ok (.invokevirtual 39, 3) := by decide +kernel
theorem d_CO_layOut_24 : decode M_CO_layOut.2.1 24 = .ok (.invokevirtual 45, 3) := by decide +kernel
theorem d_CO_layOut_27 : decode M_CO_layOut.2.1 27 = .ok (.aload_n 0, 1) := by decide +kernel
theorem d_CO_layOut_28 : decode M_CO_layOut.2.1 28 = .ok (.invokevirtual 49, 3) := by decide +kernel
theorem d_CO_layOut_31 : decode M_CO_layOut.2.1 31 = .ok (.aload_n 0, 1) := by decide +kernel
theorem d_CO_layOut_32 : decode M_CO_layOut.2.1 32 = .ok (.getfield 24, 3) := by decide +kernel
theorem d_CO_layOut_35 : decode M_CO_layOut.2.1 35 = .ok (.iconst 0, 1) := by decide +kernel
theorem d_CO_layOut_36 : decode M_CO_layOut.2.1 36 = .ok (.invokestatic 52, 3) := by decide +kernel
theorem d_CO_layOut_39 : decode M_CO_layOut.2.1 39 = .ok (.aload_n 0, 1) := by decide +kernel
theorem d_CO_layOut_40 : decode M_CO_layOut.2.1 40 = .ok (.getfield 58, 3) := by decide +kernel
theorem d_CO_layOut_43 : decode M_CO_layOut.2.1 43 = .ok (.bipush 6, 2) := by decide +kernel
theorem d_CO_layOut_45 : decode M_CO_layOut.2.1 45 = .ok (.if_icmp .gt 19, 3) := by decide +kernel
theorem d_CO_layOut_48 : decode M_CO_layOut.2.1 48 = .ok (.aload_n 0, 1) := by decide +kernel
theorem d_CO_layOut_49 : decode M_CO_layOut.2.1 49 = .ok (.ldc 63, 2) := by decide +kernel
theorem d_CO_layOut_51 : decode M_CO_layOut.2.1 51 = .ok (.putfield 64, 3) := by decide +kernel
theorem d_CO_layOut_54 : decode M_CO_layOut.2.1 54 = .ok (.aload_n 0, 1) := by decide +kernel
theorem d_CO_layOut_55 : decode M_CO_layOut.2.1 55 = .ok (.iconst 0, 1) := by decide +kernel
theorem d_CO_layOut_56 : decode M_CO_layOut.2.1 56 = .ok (.iconst 0, 1) := by decide +kernel
theorem d_CO_layOut_57 : decode M_CO_layOut.2.1 57 = .ok (.iconst 0, 1) := by decide +kernel
theorem d_CO_layOut_58 : decode M_CO_layOut.2.1 58 = .ok (.invokevirtual 67, 3) := by decide +kernel
theorem d_CO_layOut_61 : decode M_CO_layOut.2.1 61 = .ok (.goto 7, 3) := by decide +kernel
theorem d_CO_layOut_64 : decode M_CO_layOut.2.1 64 = .ok (.aload_n 0, 1) := by decide +kernel
theorem d_CO_layOut_65 : decode M_CO_layOut.2.1 65 = .ok (.invokevirtual 71, 3) := by decide +kernel
theorem d_CO_layOut_68 : decode M_CO_layOut.2.1 68 = .ok (.return_, 1) := by decide +kernel
theorem d_CO_columnOf_0 : decode M_CO_columnOf.2.1 0 = .ok (.iconst 0, 1) := by decide +kernel
theorem d_CO_columnOf_1 : decode M_CO_columnOf.2.1 1 = .ok (.istore_n 2, 1) := by decide +kernel
theorem d_CO_columnOf_2 : decode M_CO_columnOf.2.1 2 = .ok (.iload_n 2, 1) := by decide +kernel
theorem d_CO_columnOf_3 : decode M_CO_columnOf.2.1 3 = .ok (.aload_n 0, 1) := by decide +kernel
theorem d_CO_columnOf_4 : decode M_CO_columnOf.2.1 4 = .ok (.getfield 58, 3) := by decide +kernel
theorem d_CO_columnOf_7 : decode M_CO_columnOf.2.1 7 = .ok (.if_icmp .ge 26, 3) := by decide +kernel
theorem d_CO_columnOf_10 : decode M_CO_columnOf.2.1 10 = .ok (.aload_n 0, 1) := by decide +kernel
theorem d_CO_columnOf_11 : decode M_CO_columnOf.2.1 11 = .ok (.getfield 15, 3) := by decide +kernel
theorem d_CO_columnOf_14 : decode M_CO_columnOf.2.1 14 = .ok (.iload_n 2, 1) := by decide +kernel
theorem d_CO_columnOf_15 : decode M_CO_columnOf.2.1 15 = .ok (.iaload, 1) := by decide +kernel
theorem d_CO_columnOf_16 : decode M_CO_columnOf.2.1 16 = .ok (.iload_n 1, 1) := by decide +kernel
theorem d_CO_columnOf_17 : decode M_CO_columnOf.2.1 17 = .ok (.if_icmp .ne 10, 3) := by decide +kernel
theorem d_CO_columnOf_20 : decode M_CO_columnOf.2.1 20 = .ok (.aload_n 0, 1) := by decide +kernel
theorem d_CO_columnOf_21 : decode M_CO_columnOf.2.1 21 = .ok (.getfield 18, 3) := by decide +kernel
theorem d_CO_columnOf_24 : decode M_CO_columnOf.2.1 24 = .ok (.iload_n 2, 1) := by decide +kernel
theorem d_CO_columnOf_25 : decode M_CO_columnOf.2.1 25 = .ok (.iaload, 1) := by decide +kernel
theorem d_CO_columnOf_26 : decode M_CO_columnOf.2.1 26 = .ok (.ireturn, 1) := by decide +kernel
theorem d_CO_columnOf_27 : decode M_CO_columnOf.2.1 27 = .ok (.iinc 2 1, 3) := by decide +kernel
theorem d_CO_columnOf_30 : decode M_CO_columnOf.2.1 30 = .ok (.goto (-28), 3) := by decide +kernel
theorem d_CO_columnOf_33 : decode M_CO_columnOf.2.1 33 = .ok (.iconst (-1), 1) := by decide +kernel
theorem d_CO_columnOf_34 : decode M_CO_columnOf.2.1 34 = .ok (.ireturn, 1) := by decide +kernel
theorem d_CO_sumOfWidths_0 : decode M_CO_sumOfWidths.2.1 0 = .ok (.aload_n 0, 1) := by decide +kernel
theorem d_CO_sumOfWidths_1 : decode M_CO_sumOfWidths.2.1 1 = .ok (.getfield 64, 3) := by decide +kernel
theorem d_CO_sumOfWidths_4 : decode M_CO_sumOfWidths.2.1 4 = .ok (.ireturn, 1) := by decide +kernel
theorem d_CO_collectFromTop_0 : decode M_CO_collectFromTop.2.1 0 = .ok (.aload_n 0, 1) := by decide +kernel
theorem d_CO_collectFromTop_1 : decode M_CO_collectFromTop.2.1 1 = .ok (.iconst 0, 1) := by decide +kernel
theorem d_CO_collectFromTop_2 : decode M_CO_collectFromTop.2.1 2 = .ok (.putfield 58, 3) := by decide +kernel
theorem d_CO_collectFromTop_5 : decode M_CO_collectFromTop.2.1 5 = .ok (.iload_n 1, 1) := by decide +kernel
theorem d_CO_collectFromTop_6 : decode M_CO_collectFromTop.2.1 6 = .ok (.istore_n 3, 1) := by decide +kernel
theorem d_CO_collectFromTop_7 : decode M_CO_collectFromTop.2.1 7 = .ok (.iload_n 3, 1) := by decide +kernel
theorem d_CO_collectFromTop_8 : decode M_CO_collectFromTop.2.1 8 = .ok (.iload_n 2, 1) := by decide +kernel
theorem d_CO_collectFromTop_9 : decode M_CO_collectFromTop.2.1 9 = .ok (.if_icmp .ge 118, 3) := by decide +kernel
theorem d_CO_collectFromTop_12 : decode M_CO_collectFromTop.2.1 12 = .ok (.aload_n 0, 1) := by decide +kernel
theorem d_CO_collectFromTop_13 : decode M_CO_collectFromTop.2.1 13 = .ok (.getfield 31, 3) := by decide +kernel
theorem d_CO_collectFromTop_16 : decode M_CO_collectFromTop.2.1 16 = .ok (.getfield 74, 3) := by decide +kernel
theorem d_CO_collectFromTop_19 : decode M_CO_collectFromTop.2.1 19 = .ok (.iload_n 3, 1) := by decide +kernel
theorem d_CO_collectFromTop_20 : decode M_CO_collectFromTop.2.1 20 = .ok (.iaload, 1) := by decide +kernel
theorem d_CO_collectFromTop_21 : decode M_CO_collectFromTop.2.1 21 = .ok (.istore 4, 2) := by decide +kernel
theorem d_CO_collectFromTop_23 : decode M_CO_collectFromTop.2.1 23 = .ok (.aload_n 0, 1) := by decide +kernel
theorem d_CO_collectFromTop_24 : decode M_CO_collectFromTop.2.1 24 = .ok (.getfield 35, 3) := by decide +kernel
theorem d_CO_collectFromTop_27 : decode M_CO_collectFromTop.2.1 27 = .ok (.getfield 77, 3) := by decide +kernel
theorem d_CO_collectFromTop_30 : decode M_CO_collectFromTop.2.1 30 = .ok (.iload 4, 2) := by decide +kernel
theorem d_CO_collectFromTop_32 : decode M_CO_collectFromTop.2.1 32 = .ok (.iaload, 1) := by decide +kernel
theorem d_CO_collectFromTop_33 : decode M_CO_collectFromTop.2.1 33 = .ok (.ifCond .ne 6, 3) := by decide +kernel
theorem d_CO_collectFromTop_36 : decode M_CO_collectFromTop.2.1 36 = .ok (.goto 85, 3) := by decide +kernel
theorem d_CO_collectFromTop_39 : decode M_CO_collectFromTop.2.1 39 = .ok (.aload_n 0, 1) := by decide +kernel
theorem d_CO_collectFromTop_40 : decode M_CO_collectFromTop.2.1 40 = .ok (.getfield 58, 3) := by decide +kernel
theorem d_CO_collectFromTop_43 : decode M_CO_collectFromTop.2.1 43 = .ok (.istore 5, 2) := by decide +kernel
theorem d_CO_collectFromTop_45 : decode M_CO_collectFromTop.2.1 45 = .ok (.iload 5, 2) := by decide +kernel
theorem d_CO_collectFromTop_47 : decode M_CO_collectFromTop.2.1 47 = .ok (.ifCond .le 55, 3) := by decide +kernel
theorem d_CO_collectFromTop_50 : decode M_CO_collectFromTop.2.1 50 = .ok (.aload_n 0, 1) := by decide +kernel
theorem d_CO_collectFromTop_51 : decode M_CO_collectFromTop.2.1 51 = .ok (.getfield 31, 3) := by decide +kernel
theorem d_CO_collectFromTop_54 : decode M_CO_collectFromTop.2.1 54 = .ok (.getfield 82, 3) := by decide +kernel
theorem d_CO_collectFromTop_57 : decode M_CO_collectFromTop.2.1 57 = .ok (.aload_n 0, 1) := by decide +kernel
theorem d_CO_collectFromTop_58 : decode M_CO_collectFromTop.2.1 58 = .ok (.getfield 9, 3) := by decide +kernel
theorem d_CO_collectFromTop_61 : decode M_CO_collectFromTop.2.1 61 = .ok (.iload 5, 2) := by decide +kernel
theorem d_CO_collectFromTop_63 : decode M_CO_collectFromTop.2.1 63 = .ok (.iconst 1, 1) := by decide +kernel
theorem d_CO_collectFromTop_64 : decode M_CO_collectFromTop.2.1 64 = .ok (.isub, 1) := by decide +kernel
theorem d_CO_collectFromTop_65 : decode M_CO_collectFromTop.2.1 65 = .ok (.iaload, 1) := by decide +kernel
theorem d_CO_collectFromTop_66 : decode M_CO_collectFromTop.2.1 66 = .ok (.iaload, 1) := by decide +kernel
theorem d_CO_collectFromTop_67 : decode M_CO_collectFromTop.2.1 67 = .ok (.aload_n 0, 1) := by decide +kernel
theorem d_CO_collectFromTop_68 : decode M_CO_collectFromTop.2.1 68 = .ok (.getfield 31, 3) := by decide +kernel
theorem d_CO_collectFromTop_71 : decode M_CO_collectFromTop.2.1 71 = .ok (.getfield 82, 3) := by decide +kernel
theorem d_CO_collectFromTop_74 : decode M_CO_collectFromTop.2.1 74 = .ok (.iload 4, 2) := by decide +kernel
theorem d_CO_collectFromTop_76 : decode M_CO_collectFromTop.2.1 76 = .ok (.iaload, 1) := by decide +kernel
theorem d_CO_collectFromTop_77 : decode M_CO_collectFromTop.2.1 77 = .ok (.if_icmp .ge 25, 3) := by decide +kernel
theorem d_CO_collectFromTop_80 : decode M_CO_collectFromTop.2.1 80 = .ok (.aload_n 0, 1) := by decide +kernel
theorem d_CO_collectFromTop_81 : decode M_CO_collectFromTop.2.1 81 = .ok (.getfield 9, 3) := by decide +kernel
theorem d_CO_collectFromTop_84 : decode M_CO_collectFromTop.2.1 84 = .ok (.iload 5, 2) := by decide +kernel
theorem d_CO_collectFromTop_86 : decode M_CO_collectFromTop.2.1 86 = .ok (.aload_n 0, 1) := by decide +kernel
theorem d_CO_collectFromTop_87 : decode M_CO_collectFromTop.2.1 87 = .ok (.getfield 9, 3) := by decide +kernel
theorem d_CO_collectFromTop_90 : decode M_CO_collectFromTop.2.1 90 = .ok (.iload 5, 2) := by decide +kernel
theorem d_CO_collectFromTop_92 : decode M_CO_collectFromTop.2.1 92 = .ok (.iconst 1, 1) := by decide +kernel
theorem d_CO_collectFromTop_93 : decode M_CO_collectFromTop.2.1 93 = .ok (.isub, 1) := by decide +kernel
theorem d_CO_collectFromTop_94 : decode M_CO_collectFromTop.2.1 94 = .ok (.iaload, 1) := by decide +kernel
theorem d_CO_collectFromTop_95 : decode M_CO_collectFromTop.2.1 95 = .ok (.iastore, 1) := by decide +kernel
theorem d_CO_collectFromTop_96 : decode M_CO_collectFromTop.2.1 96 = .ok (.iinc 5 (-1), 3) := by decide +kernel
theorem d_CO_collectFromTop_99 : decode M_CO_collectFromTop.2.1 99 = .ok (.goto (-54), 3) := by decide +kernel
theorem d_CO_collectFromTop_102 : decode M_CO_collectFromTop.2.1 102 = .ok (.aload_n 0, 1) := by decide +kernel
theorem d_CO_collectFromTop_103 : decode M_CO_collectFromTop.2.1 103 = .ok (.getfield 9, 3) := by decide +kernel
theorem d_CO_collectFromTop_106 : decode M_CO_collectFromTop.2.1 106 = .ok (.iload 5, 2) := by decide +kernel
theorem d_CO_collectFromTop_108 : decode M_CO_collectFromTop.2.1 108 = .ok (.iload 4, 2) := by decide +kernel
theorem d_CO_collectFromTop_110 : decode M_CO_collectFromTop.2.1 110 = .ok (.iastore, 1) := by decide +kernel
theorem d_CO_collectFromTop_111 : decode M_CO_collectFromTop.2.1 111 = .ok (.aload_n 0, 1) := by decide +kernel
theorem d_CO_collectFromTop_112 : decode M_CO_collectFromTop.2.1 112 = .ok (.dup, 1) := by decide +kernel
theorem d_CO_collectFromTop_113 : decode M_CO_collectFromTop.2.1 113 = .ok (.getfield 58, 3) := by decide +kernel
theorem d_CO_collectFromTop_116 : decode M_CO_collectFromTop.2.1 116 = .ok (.iconst 1, 1) := by decide +kernel
theorem d_CO_collectFromTop_117 : decode M_CO_collectFromTop.2.1 117 = .ok (.iadd, 1) := by decide +kernel
theorem d_CO_collectFromTop_118 : decode M_CO_collectFromTop.2.1 118 = .ok (.putfield 58, 3) := by decide +kernel
theorem d_CO_collectFromTop_121 : decode M_CO_collectFromTop.2.1 121 = .ok (.iinc 3 1, 3) := by decide +kernel
theorem d_CO_collectFromTop_124 : decode M_CO_collectFromTop.2.1 124 = .ok (.goto (-117), 3) := by decide +kernel
theorem d_CO_collectFromTop_127 : decode M_CO_collectFromTop.2.1 127 = .ok (.return_, 1) := by decide +kernel
theorem d_CO_bringToZigzag_0 : decode M_CO_bringToZigzag.2.1 0 = .ok (.iconst 0, 1) := by decide +kernel
theorem d_CO_bringToZigzag_1 : decode M_CO_bringToZigzag.2.1 1 = .ok (.istore_n 1, 1) := by decide +kernel
theorem d_CO_bringToZigzag_2 : decode M_CO_bringToZigzag.2.1 2 = .ok (.iload_n 1, 1) := by decide +kernel
theorem d_CO_bringToZigzag_3 : decode M_CO_bringToZigzag.2.1 3 = .ok (.aload_n 0, 1) := by decide +kernel
theorem d_CO_bringToZigzag_4 : decode M_CO_bringToZigzag.2.1 4 = .ok (.getfield 58, 3) := by decide +kernel
theorem d_CO_bringToZigzag_7 : decode M_CO_bringToZigzag.2.1 7 = .ok (.if_icmp .ge 47, 3) := by decide +kernel
theorem d_CO_bringToZigzag_10 : decode M_CO_bringToZigzag.2.1 10 = .ok (.aload_n 0, 1) := by decide +kernel
theorem d_CO_bringToZigzag_11 : decode M_CO_bringToZigzag.2.1 11 = .ok (.getfield 15, 3) := by decide +kernel
theorem d_CO_bringToZigzag_14 : decode M_CO_bringToZigzag.2.1 14 = .ok (.iload_n 1, 1) := by decide +kernel
theorem d_CO_bringToZigzag_15 : decode M_CO_bringToZigzag.2.1 15 = .ok (.iload_n 1, 1) := by decide +kernel
theorem d_CO_bringToZigzag_16 : decode M_CO_bringToZigzag.2.1 16 = .ok (.iconst 2, 1) := by decide +kernel
theorem d_CO_bringToZigzag_17 : decode M_CO_bringToZigzag.2.1 17 = .ok (.irem, 1) := by decide +kernel
theorem d_CO_bringToZigzag_18 : decode M_CO_bringToZigzag.2.1 18 = .ok (.ifCond .ne 14, 3) := by decide +kernel
theorem d_CO_bringToZigzag_21 : decode M_CO_bringToZigzag.2.1 21 = .ok (.aload_n 0, 1) := by decide +kernel
theorem d_CO_bringToZigzag_22 : decode M_CO_bringToZigzag.2.1 22 = .ok (.getfield 9, 3) := by decide +kernel
theorem d_CO_bringToZigzag_25 : decode M_CO_bringToZigzag.2.1 25 = .ok (.iload_n 1, 1) := by decide +kernel
theorem d_CO_bringToZigzag_26 : decode M_CO_bringToZigzag.2.1 26 = .ok (.iconst 2, 1) := by decide +kernel
theorem d_CO_bringToZigzag_27 : decode M_CO_bringToZigzag.2.1 27 = .ok (.idiv, 1) := by decide +kernel
theorem d_CO_bringToZigzag_28 : decode M_CO_bringToZigzag.2.1 28 = .ok (.iaload, 1) := by decide +kernel
theorem d_CO_bringToZigzag_29 : decode M_CO_bringToZigzag.2.1 29 = .ok (.goto 18, 3) := by decide +kernel
theorem d_CO_bringToZigzag_32 : decode M_CO_bringToZigzag.2.1 32 = .ok (.aload_n 0, 1) := by decide +kernel
theorem d_CO_bringToZigzag_33 : decode M_CO_bringToZigzag.2.1 33 = .ok (.getfield 9, 3) := by decide +kernel
theorem d_CO_bringToZigzag_36 : decode M_CO_bringToZigzag.2.1 36 = .ok (.aload_n 0, 1) := by decide +kernel
theorem d_CO_bringToZigzag_37 : decode M_CO_bringToZigzag.2.1 37 = .ok (.getfield 58, 3) := by decide +kernel
theorem d_CO_bringToZigzag_40 : decode M_CO_bringToZigzag.2.1 40 = .ok (.iconst 1, 1) := by decide +kernel
theorem d_CO_bringToZigzag_41 : decode M_CO_bringToZigzag.2.1 41 = .ok (.isub, 1) := by decide +kernel
theorem d_CO_bringToZigzag_42 : decode M_CO_bringToZigzag.2.1 42 = .ok (.iload_n 1, 1) := by decide +kernel
theorem d_CO_bringToZigzag_43 : decode M_CO_bringToZigzag.2.1 43 = .ok (.iconst 2, 1) := by decide +kernel
theorem d_CO_bringToZigzag_44 : decode M_CO_bringToZigzag.2.1 44 = .ok (.idiv, 1) := by decide +kernel
theorem d_CO_bringToZigzag_45 : decode M_CO_bringToZigzag.2.1 45 = .ok (.isub, 1) := by decide +kernel
theorem d_CO_bringToZigzag_46 : decode M_CO_bringToZigzag.2.1 46 = .ok (.iaload, 1) := by decide +kernel
theorem d_CO_bringToZigzag_47 : decode M_CO_bringToZigzag.2.1 47 = .ok (.iastore, 1) := by decide +kernel
theorem d_CO_bringToZigzag_48 : decode M_CO_bringToZigzag.2.1 48 = .ok (.iinc 1 1, 3) := by decide +kernel
theorem d_CO_bringToZigzag_51 : decode M_CO_bringToZigzag.2.1 51 = .ok (.goto (-49), 3) := by decide +kernel
theorem d_CO_bringToZigzag_54 : decode M_CO_bringToZigzag.2.1 54 = .ok (.return_, 1) := by decide +kernel
theorem d_CO_search_0 : decode M_CO_search.2.1 0 = .ok (.iload_n 3, 1) := by decide +kernel
theorem d_CO_search_1 : decode M_CO_search.2.1 1 = .ok (.aload_n 0, 1) := by decide +kernel
theorem d_CO_search_2 : decode M_CO_search.2.1 2 = .ok (.getfield 64, 3) := by decide +kernel
theorem d_CO_search_5 : decode M_CO_search.2.1 5 = .ok (.if_icmp .lt 4, 3) := by decide +kernel
theorem d_CO_search_8 : decode M_CO_search.2.1 8 = .ok (.return_, 1) := by decide +kernel
theorem d_CO_search_9 : decode M_CO_search.2.1 9 = .ok (.iload_n 1, 1) := by decide +kernel
theorem d_CO_search_10 : decode M_CO_search.2.1 10 = .ok (.aload_n 0, 1) := by decide +kernel
theorem d_CO_search_11 : decode M_CO_search.2.1 11 = .ok (.getfield 58, 3) := by decide +kernel
theorem d_CO_search_14 : decode M_CO_search.2.1 14 = .ok (.if_icmp .lt 26, 3) := by decide +kernel
theorem d_CO_search_17 : decode M_CO_search.2.1 17 = .ok (.aload_n 0, 1) := by decide +kernel
theorem d_CO_search_18 : decode M_CO_search.2.1 18 = .ok (.iload_n 3, 1) := by decide +kernel
theorem d_CO_search_19 : decode M_CO_search.2.1 19 = .ok (.putfield 64, 3) := by decide +kernel
theorem d_CO_search_22 : decode M_CO_search.2.1 22 = .ok (.aload_n 0, 1) := by decide +kernel
theorem d_CO_search_23 : decode M_CO_search.2.1 23 = .ok (.getfield 21, 3) := by decide +kernel
theorem d_CO_search_26 : decode M_CO_search.2.1 26 = .ok (.iconst 0, 1) := by decide +kernel
theorem d_CO_search_27 : decode M_CO_search.2.1 27 = .ok (.aload_n 0, 1) := by decide +kernel
theorem d_CO_search_28 : decode M_CO_search.2.1 28 = .ok (.getfield 18, 3) := by decide +kernel
theorem d_CO_search_31 : decode M_CO_search.2.1 31 = .ok (.iconst 0, 1) := by decide +kernel
theorem d_CO_search_32 : decode M_CO_search.2.1 32 = .ok (.aload_n 0, 1) := by decide +kernel
theorem d_CO_search_33 : decode M_CO_search.2.1 33 = .ok (.getfield 58, 3) := by decide +kernel
theorem d_CO_search_36 : decode M_CO_search.2.1 36 = .ok (.invokestatic 85, 3) := by decide +kernel
theorem d_CO_search_39 : decode M_CO_search.2.1 39 = .ok (.return_, 1) := by decide +kernel
theorem d_CO_search_40 : decode M_CO_search.2.1 40 = .ok (.iconst 0, 1) := by decide +kernel
theorem d_CO_search_41 : decode M_CO_search.2.1 41 = .ok (.istore 4, 2) := by decide +kernel
theorem d_CO_search_43 : decode M_CO_search.2.1 43 = .ok (.iload 4, 2) := by decide +kernel
theorem d_CO_search_45 : decode M_CO_search.2.1 45 = .ok (.iload_n 2, 1) := by decide +kernel
theorem d_CO_search_46 : decode M_CO_search.2.1 46 = .ok (.if_icmp .gt 110, 3) := by decide +kernel
theorem d_CO_search_49 : decode M_CO_search.2.1 49 = .ok (.iload 4, 2) := by decide +kernel
theorem d_CO_search_51 : decode M_CO_search.2.1 51 = .ok (.bipush 6, 2) := by decide +kernel
theorem d_CO_search_53 : decode M_CO_search.2.1 53 = .ok (.if_icmp .ge 103, 3) := by decide +kernel
theorem d_CO_search_56 : decode M_CO_search.2.1 56 = .ok (.aload_n 0, 1) := by decide +kernel
theorem d_CO_search_57 : decode M_CO_search.2.1 57 = .ok (.iload_n 1, 1) := by decide +kernel
theorem d_CO_search_58 : decode M_CO_search.2.1 58 = .ok (.iload 4, 2) := by decide +kernel
theorem d_CO_search_60 : decode M_CO_search.2.1 60 = .ok (.aload_n 0, 1) := by decide +kernel
theorem d_CO_search_61 : decode M_CO_search.2.1 61 = .ok (.getfield 21, 3) := by decide +kernel
theorem d_CO_search_64 : decode M_CO_search.2.1 64 = .ok (.invokevirtual 91, 3) := by decide +kernel
theorem d_CO_search_67 : decode M_CO_search.2.1 67 = .ok (.ifCond .ne 6, 3) := by decide +kernel
theorem d_CO_search_70 : decode M_CO_search.2.1 70 = .ok (.goto 80, 3) := by decide +kernel
theorem d_CO_search_73 : decode M_CO_search.2.1 73 = .ok (.aload_n 0, 1) := by decide +kernel
theorem d_CO_search_74 : decode M_CO_search.2.1 74 = .ok (.getfield 24, 3) := by decide +kernel
theorem d_CO_search_77 : decode M_CO_search.2.1 77 = .ok (.iload 4, 2) := by decide +kernel
theorem d_CO_search_79 : decode M_CO_search.2.1 79 = .ok (.iaload, 1) := by decide +kernel
theorem d_CO_search_80 : decode M_CO_search.2.1 80 = .ok (.istore 5, 2) := by decide +kernel
theorem d_CO_search_82 : decode M_CO_search.2.1 82 = .ok (.iload 5, 2) := by decide +kernel
theorem d_CO_search_84 : decode M_CO_search.2.1 84 = .ok (.aload_n 0, 1) := by decide +kernel
theorem d_CO_search_85 : decode M_CO_search.2.1 85 = .ok (.getfield 35, 3) := by decide +kernel
theorem d_CO_search_88 : decode M_CO_search.2.1 88 = .ok (.aload_n 0, 1) := by decide +kernel
theorem d_CO_search_89 : decode M_CO_search.2.1 89 = .ok (.getfield 15, 3) := by decide +kernel
theorem d_CO_search_92 : decode M_CO_search.2.1 92 = .ok (.iload_n 1, 1) := by decide +kernel
theorem d_CO_search_93 : decode M_CO_search.2.1 93 = .ok (.iaload, 1) := by decide +kernel
theorem d_CO_search_94 : decode M_CO_search.2.1 94 = .ok (.invokevirtual 95, 3) := by decide +kernel
theorem d_CO_search_97 : decode M_CO_search.2.1 97 = .ok (.invokestatic 98, 3) := by decide +kernel
theorem d_CO_search_100 : decode M_CO_search.2.1 100 = .ok (.istore 6, 2) := by decide +kernel
theorem d_CO_search_102 : decode M_CO_search.2.1 102 = .ok (.aload_n 0, 1) := by decide +kernel
theorem d_CO_search_103 : decode M_CO_search.2.1 103 = .ok (.getfield 21, 3) := by decide +kernel
theorem d_CO_search_106 : decode M_CO_search.2.1 106 = .ok (.iload_n 1, 1) := by decide +kernel
theorem d_CO_search_107 : decode M_CO_search.2.1 107 = .ok (.iload 4, 2) := by decide +kernel
theorem d_CO_search_109 : decode M_CO_search.2.1 109 = .ok (.iastore, 1) := by decide +kernel
theorem d_CO_search_110 : decode M_CO_search.2.1 110 = .ok (.aload_n 0, 1) := by decide +kernel
theorem d_CO_search_111 : decode M_CO_search.2.1 111 = .ok (.getfield 24, 3) := by decide +kernel
theorem d_CO_search_114 : decode M_CO_search.2.1 114 = .ok (.iload 4, 2) := by decide +kernel
theorem d_CO_search_116 : decode M_CO_search.2.1 116 = .ok (.iload 6, 2) := by decide +kernel
theorem d_CO_search_118 : decode M_CO_search.2.1 118 = .ok (.iastore, 1) := by decide +kernel
theorem d_CO_search_119 : decode M_CO_search.2.1 119 = .ok (.aload_n 0, 1) := by decide +kernel
theorem d_CO_search_120 : decode M_CO_search.2.1 120 = .ok (.iload_n 1, 1) := by decide +kernel
theorem d_CO_search_121 : decode M_CO_search.2.1 121 = .ok (.iconst 1, 1) := by decide +kernel
theorem d_CO_search_122 : decode M_CO_search.2.1 122 = .ok (.iadd, 1) := by decide +kernel
theorem d_CO_search_123 : decode M_CO_search.2.1 123 = .ok (.iload_n 2, 1) := by decide +kernel
theorem d_CO_search_124 : decode M_CO_search.2.1 124 = .ok (.iload 4, 2) := by decide +kernel
theorem d_CO_search_126 : decode M_CO_search.2.1 126 = .ok (.iconst 1, 1) := by decide +kernel
theorem d_CO_search_127 : decode M_CO_search.2.1 127 = .ok (.iadd, 1) := by decide +kernel
theorem d_CO_search_128 : decode M_CO_search.2.1 128 = .ok (.invokestatic 98, 3) := by decide +kernel
theorem d_CO_search_131 : decode M_CO_search.2.1 131 = .ok (.iload_n 3, 1) := by decide +kernel
theorem d_CO_search_132 : decode M_CO_search.2.1 132 = .ok (.iload 5, 2) := by decide +kernel
theorem d_CO_search_134 : decode M_CO_search.2.1 134 = .ok (.isub, 1) := by decide +kernel
theorem d_CO_search_135 : decode M_CO_search.2.1 135 = .ok (.iload 6, 2) := by decide +kernel
theorem d_CO_search_137 : decode M_CO_search.2.1 137 = .ok (.iadd, 1) := by decide +kernel
theorem d_CO_search_138 : decode M_CO_search.2.1 138 = .ok (.invokevirtual 67, 3) := by decide +kernel
theorem d_CO_search_141 : decode M_CO_search.2.1 141 = .ok (.aload_n 0, 1) := by decide +kernel
theorem d_CO_search_142 : decode M_CO_search.2.1 142 = .ok (.getfield 24, 3) := by decide +kernel
theorem d_CO_search_145 : decode M_CO_search.2.1 145 = .ok (.iload 4, 2) := by decide +kernel
theorem d_CO_search_147 : decode M_CO_search.2.1 147 = .ok (.iload 5, 2) := by decide +kernel
theorem d_CO_search_149 : decode M_CO_search.2.1 149 = .ok (.iastore, 1) := by decide +kernel
theorem d_CO_search_150 : decode M_CO_search.2.1 150 = .ok (.iinc 4 1, 3) := by decide +kernel
theorem d_CO_search_153 : decode M_CO_search.2.1 153 = .ok (.goto (-110), 3) := by decide +kernel
theorem d_CO_search_156 : decode M_CO_search.2.1 156 = .ok (.return_, 1) := by decide +kernel
theorem d_CO_takeInTurn_0 : decode M_CO_takeInTurn.2.1 0 = .ok (.aload_n 0, 1) := by decide +kernel
theorem d_CO_takeInTurn_1 : decode M_CO_takeInTurn.2.1 1 = .ok (.iconst 0, 1) := by decide +kernel
theorem d_CO_takeInTurn_2 : decode M_CO_takeInTurn.2.1 2 = .ok (.putfield 64, 3) := by decide +kernel
theorem d_CO_takeInTurn_5 : decode M_CO_takeInTurn.2.1 5 = .ok (.iconst 0, 1) := by decide +kernel
theorem d_CO_takeInTurn_6 : decode M_CO_takeInTurn.2.1 6 = .ok (.istore_n 1, 1) := by decide +kernel
theorem d_CO_takeInTurn_7 : decode M_CO_takeInTurn.2.1 7 = .ok (.iload_n 1, 1) := by decide +kernel
theorem d_CO_takeInTurn_8 : decode M_CO_takeInTurn.2.1 8 = .ok (.aload_n 0, 1) := by decide +kernel
theorem d_CO_takeInTurn_9 : decode M_CO_takeInTurn.2.1 9 = .ok (.getfield 58, 3) := by decide +kernel
theorem d_CO_takeInTurn_12 : decode M_CO_takeInTurn.2.1 12 = .ok (.if_icmp .ge 89, 3) := by decide +kernel
theorem d_CO_takeInTurn_15 : decode M_CO_takeInTurn.2.1 15 = .ok (.iconst 0, 1) := by decide +kernel
theorem d_CO_takeInTurn_16 : decode M_CO_takeInTurn.2.1 16 = .ok (.istore_n 2, 1) := by decide +kernel
theorem d_CO_takeInTurn_17 : decode M_CO_takeInTurn.2.1 17 = .ok (.iload_n 2, 1) := by decide +kernel
theorem d_CO_takeInTurn_18 : decode M_CO_takeInTurn.2.1 18 = .ok (.iload_n 1, 1) := by decide +kernel
theorem d_CO_takeInTurn_19 : decode M_CO_takeInTurn.2.1 19 = .ok (.if_icmp .ge 22, 3) := by decide +kernel
theorem d_CO_takeInTurn_22 : decode M_CO_takeInTurn.2.1 22 = .ok (.aload_n 0, 1) := by decide +kernel
theorem d_CO_takeInTurn_23 : decode M_CO_takeInTurn.2.1 23 = .ok (.iload_n 1, 1) := by decide +kernel
theorem d_CO_takeInTurn_24 : decode M_CO_takeInTurn.2.1 24 = .ok (.iload_n 2, 1) := by decide +kernel
theorem d_CO_takeInTurn_25 : decode M_CO_takeInTurn.2.1 25 = .ok (.aload_n 0, 1) := by decide +kernel
theorem d_CO_takeInTurn_26 : decode M_CO_takeInTurn.2.1 26 = .ok (.getfield 18, 3) := by decide +kernel
theorem d_CO_takeInTurn_29 : decode M_CO_takeInTurn.2.1 29 = .ok (.invokevirtual 91, 3) := by decide +kernel
theorem d_CO_takeInTurn_32 : decode M_CO_takeInTurn.2.1 32 = .ok (.ifCond .ne 9, 3) := by decide +kernel
theorem d_CO_takeInTurn_35 : decode M_CO_takeInTurn.2.1 35 = .ok (.iinc 2 1, 3) := by decide +kernel
theorem d_CO_takeInTurn_38 : decode M_CO_takeInTurn.2.1 38 = .ok (.goto (-21), 3) := by decide +kernel
theorem d_CO_takeInTurn_41 : decode M_CO_takeInTurn.2.1 41 = .ok (.aload_n 0, 1) := by decide +kernel
theorem d_CO_takeInTurn_42 : decode M_CO_takeInTurn.2.1 42 = .ok (.getfield 24, 3) := by decide +kernel
theorem d_CO_takeInTurn_45 : decode M_CO_takeInTurn.2.1 45 = .ok (.iload_n 2, 1) := by decide +kernel
theorem d_CO_takeInTurn_46 : decode M_CO_takeInTurn.2.1 46 = .ok (.iaload, 1) := by decide +kernel
theorem d_CO_takeInTurn_47 : decode M_CO_takeInTurn.2.1 47 = .ok (.aload_n 0, 1) := by decide +kernel
theorem d_CO_takeInTurn_48 : decode M_CO_takeInTurn.2.1 48 = .ok (.getfield 35, 3) := by decide +kernel
theorem d_CO_takeInTurn_51 : decode M_CO_takeInTurn.2.1 51 = .ok (.aload_n 0, 1) := by decide +kernel
theorem d_CO_takeInTurn_52 : decode M_CO_takeInTurn.2.1 52 = .ok (.getfield 15, 3) := by decide +kernel
theorem d_CO_takeInTurn_55 : decode M_CO_takeInTurn.2.1 55 = .ok (.iload_n 1, 1) := by decide +kernel
theorem d_CO_takeInTurn_56 : decode M_CO_takeInTurn.2.1 56 = .ok (.iaload, 1) := by decide +kernel
theorem d_CO_takeInTurn_57 : decode M_CO_takeInTurn.2.1 57 = .ok (.invokevirtual 95, 3) := by decide +kernel
theorem d_CO_takeInTurn_60 : decode M_CO_takeInTurn.2.1 60 = .ok (.invokestatic 98, 3) := by decide +kernel
theorem d_CO_takeInTurn_63 : decode M_CO_takeInTurn.2.1 63 = .ok (.istore_n 3, 1) := by decide +kernel
theorem d_CO_takeInTurn_64 : decode M_CO_takeInTurn.2.1 64 = .ok (.aload_n 0, 1) := by decide +kernel
theorem d_CO_takeInTurn_65 : decode M_CO_takeInTurn.2.1 65 = .ok (.dup, 1) := by decide +kernel
theorem d_CO_takeInTurn_66 : decode M_CO_takeInTurn.2.1 66 = .ok (.getfield 64, 3) := by decide +kernel
theorem d_CO_takeInTurn_69 : decode M_CO_takeInTurn.2.1 69 = .ok (.iload_n 3, 1) := by decide +kernel
theorem d_CO_takeInTurn_70 : decode M_CO_takeInTurn.2.1 70 = .ok (.aload_n 0, 1) := by decide +kernel
theorem d_CO_takeInTurn_71 : decode M_CO_takeInTurn.2.1 71 = .ok (.getfield 24, 3) := by decide +kernel
theorem d_CO_takeInTurn_74 : decode M_CO_takeInTurn.2.1 74 = .ok (.iload_n 2, 1) := by decide +kernel
theorem d_CO_takeInTurn_75 : decode M_CO_takeInTurn.2.1 75 = .ok (.iaload, 1) := by decide +kernel
theorem d_CO_takeInTurn_76 : decode M_CO_takeInTurn.2.1 76 = .ok (.isub, 1) := by decide +kernel
theorem d_CO_takeInTurn_77 : decode M_CO_takeInTurn.2.1 77 = .ok (.iadd, 1) := by decide +kernel
theorem d_CO_takeInTurn_78 : decode M_CO_takeInTurn.2.1 78 = .ok (.putfield 64, 3) := by decide +kernel
theorem d_CO_takeInTurn_81 : decode M_CO_takeInTurn.2.1 81 = .ok (.aload_n 0, 1) := by decide +kernel
theorem d_CO_takeInTurn_82 : decode M_CO_takeInTurn.2.1 82 = .ok (.getfield 18, 3) := by decide +kernel
theorem d_CO_takeInTurn_85 : decode M_CO_takeInTurn.2.1 85 = .ok (.iload_n 1, 1) := by decide +kernel
theorem d_CO_takeInTurn_86 : decode M_CO_takeInTurn.2.1 86 = .ok (.iload_n 2, 1) := by decide +kernel
theorem d_CO_takeInTurn_87 : decode M_CO_takeInTurn.2.1 87 = .ok (.iastore, 1) := by decide +kernel
theorem d_CO_takeInTurn_88 : decode M_CO_takeInTurn.2.1 88 = .ok (.aload_n 0, 1) := by decide +kernel
theorem d_CO_takeInTurn_89 : decode M_CO_takeInTurn.2.1 89 = .ok (.getfield 24, 3) := by decide +kernel
theorem d_CO_takeInTurn_92 : decode M_CO_takeInTurn.2.1 92 = .ok (.iload_n 2, 1) := by decide +kernel
theorem d_CO_takeInTurn_93 : decode M_CO_takeInTurn.2.1 93 = .ok (.iload_n 3, 1) := by decide +kernel
theorem d_CO_takeInTurn_94 : decode M_CO_takeInTurn.2.1 94 = .ok (.iastore, 1) := by decide +kernel
theorem d_CO_takeInTurn_95 : decode M_CO_takeInTurn.2.1 95 = .ok (.iinc 1 1, 3) := by decide +kernel
theorem d_CO_takeInTurn_98 : decode M_CO_takeInTurn.2.1 98 = .ok (.goto (-91), 3) := by decide +kernel
theorem d_CO_takeInTurn_101 : decode M_CO_takeInTurn.2.1 101 = .ok (.return_, 1) := by decide +kernel
theorem d_CO_canStand_0 : decode M_CO_canStand.2.1 0 = .ok (.iconst 0, 1) := by decide +kernel
theorem d_CO_canStand_1 : decode M_CO_canStand.2.1 1 = .ok (.istore 4, 2) := by decide +kernel
theorem d_CO_canStand_3 : decode M_CO_canStand.2.1 3 = .ok (.iload 4, 2) := by decide +kernel
theorem d_CO_canStand_5 : decode M_CO_canStand.2.1 5 = .ok (.iload_n 1, 1) := by decide +kernel
theorem d_CO_canStand_6 : decode M_CO_canStand.2.1 6 = .ok (.if_icmp .ge 39, 3) := by decide +kernel
theorem d_CO_canStand_9 : decode M_CO_canStand.2.1 9 = .ok (.aload_n 3, 1) := by decide +kernel
theorem d_CO_canStand_10 : decode M_CO_canStand.2.1 10 = .ok (.iload 4, 2) := by decide +kernel
theorem d_CO_canStand_12 : decode M_CO_canStand.2.1 12 = .ok (.iaload, 1) := by decide +kernel
theorem d_CO_canStand_13 : decode M_CO_canStand.2.1 13 = .ok (.iload_n 2, 1) := by decide +kernel
theorem d_CO_canStand_14 : decode M_CO_canStand.2.1 14 = .ok (.if_icmp .ne 25, 3) := by decide +kernel
theorem d_CO_canStand_17 : decode M_CO_canStand.2.1 17 = .ok (.aload_n 0, 1) := by decide +kernel
theorem d_CO_canStand_18 : decode M_CO_canStand.2.1 18 = .ok (.aload_n 0, 1) := by decide +kernel
theorem d_CO_canStand_19 : decode M_CO_canStand.2.1 19 = .ok (.getfield 15, 3) := by decide +kernel
theorem d_CO_canStand_22 : decode M_CO_canStand.2.1 22 = .ok (.iload 4, 2) := by decide +kernel
theorem d_CO_canStand_24 : decode M_CO_canStand.2.1 24 = .ok (.iaload, 1) := by decide +kernel
theorem d_CO_canStand_25 : decode M_CO_canStand.2.1 25 = .ok (.aload_n 0, 1) := by decide +kernel
theorem d_CO_canStand_26 : decode M_CO_canStand.2.1 26 = .ok (.getfield 15, 3) := by decide +kernel
theorem d_CO_canStand_29 : decode M_CO_canStand.2.1 29 = .ok (.iload_n 1, 1) := by decide +kernel
theorem d_CO_canStand_30 : decode M_CO_canStand.2.1 30 = .ok (.iaload, 1) := by decide +kernel
theorem d_CO_canStand_31 : decode M_CO_canStand.2.1 31 = .ok (.invokevirtual 104, 3) := by decide +kernel
theorem d_CO_canStand_34 : decode M_CO_canStand.2.1 34 = .ok (.ifCond .ne 5, 3) := by decide +kernel
theorem d_CO_canStand_37 : decode M_CO_canStand.2.1 37 = .ok (.iconst 0, 1) := by decide +kernel
theorem d_CO_canStand_38 : decode M_CO_canStand.2.1 38 = .ok (.ireturn, 1) := by decide +kernel
theorem d_CO_canStand_39 : decode M_CO_canStand.2.1 39 = .ok (.iinc 4 1, 3) := by decide +kernel
theorem d_CO_canStand_42 : decode M_CO_canStand.2.1 42 = .ok (.goto (-39), 3) := by decide +kernel
theorem d_CO_canStand_45 : decode M_CO_canStand.2.1 45 = .ok (.iconst 1, 1) := by decide +kernel
theorem d_CO_canStand_46 : decode M_CO_canStand.2.1 46 = .ok (.ireturn, 1) := by decide +kernel
theorem d_CO_canShare_0 : decode M_CO_canShare.2.1 0 = .ok (.aload_n 0, 1) := by decide +kernel
theorem d_CO_canShare_1 : decode M_CO_canShare.2.1 1 = .ok (.getfield 31, 3) := by decide +kernel
theorem d_CO_canShare_4 : decode M_CO_canShare.2.1 4 = .ok (.getfield 82, 3) := by decide +kernel
theorem d_CO_canShare_7 : decode M_CO_canShare.2.1 7 = .ok (.iload_n 1, 1) := by decide +kernel
theorem d_CO_canShare_8 : decode M_CO_canShare.2.1 8 = .ok (.iaload, 1) := by decide +kernel
theorem d_CO_canShare_9 : decode M_CO_canShare.2.1 9 = .ok (.aload_n 0, 1) := by decide +kernel
theorem d_CO_canShare_10 : decode M_CO_canShare.2.1 10 = .ok (.getfield 31, 3) := by decide +kernel
theorem d_CO_canShare_13 : decode M_CO_canShare.2.1 13 = .ok (.getfield 82, 3) := by decide +kernel
theorem d_CO_canShare_16 : decode M_CO_canShare.2.1 16 = .ok (.iload_n 2, 1) := by decide +kernel
theorem d_CO_canShare_17 : decode M_CO_canShare.2.1 17 = .ok (.iaload, 1) := by decide +kernel
theorem d_CO_canShare_18 : decode M_CO_canShare.2.1 18 = .ok (.isub, 1) := by decide +kernel
theorem d_CO_canShare_19 : decode M_CO_canShare.2.1 19 = .ok (.istore_n 3, 1) := by decide +kernel
theorem d_CO_canShare_20 : decode M_CO_canShare.2.1 20 = .ok (.iload_n 3, 1) := by decide +kernel
theorem d_CO_canShare_21 : decode M_CO_canShare.2.1 21 = .ok (.ifCond .le 26, 3) := by decide +kernel
theorem d_CO_canShare_24 : decode M_CO_canShare.2.1 24 = .ok (.iload_n 3, 1) := by decide +kernel
theorem d_CO_canShare_25 : decode M_CO_canShare.2.1 25 = .ok (.aload_n 0, 1) := by decide +kernel
theorem d_CO_canShare_26 : decode M_CO_canShare.2.1 26 = .ok (.iload_n 1, 1) := by decide +kernel
theorem d_CO_canShare_27 : decode M_CO_canShare.2.1 27 = .ok (.invokevirtual 108, 3) := by decide +kernel
theorem d_CO_canShare_30 : decode M_CO_canShare.2.1 30 = .ok (.aload_n 0, 1) := by decide +kernel
theorem d_CO_canShare_31 : decode M_CO_canShare.2.1 31 = .ok (.iload_n 2, 1) := by decide +kernel
theorem d_CO_canShare_32 : decode M_CO_canShare.2.1 32 = .ok (.invokevirtual 111, 3) := by decide +kernel
theorem d_CO_canShare_35 : decode M_CO_canShare.2.1 35 = .ok (.iadd, 1) := by decide +kernel
theorem d_CO_canShare_36 : decode M_CO_canShare.2.1 36 = .ok (.if_icmp .lt 7, 3) := by decide +kernel
theorem d_CO_canShare_39 : decode M_CO_canShare.2.1 39 = .ok (.iconst 1, 1) := by decide +kernel
theorem d_CO_canShare_40 : decode M_CO_canShare.2.1 40 = .ok (.goto 28, 3) := by decide +kernel
theorem d_CO_canShare_43 : decode M_CO_canShare.2.1 43 = .ok (.iconst 0, 1) := by decide +kernel
theorem d_CO_canShare_44 : decode M_CO_canShare.2.1 44 = .ok (.goto 24, 3) := by decide +kernel
theorem d_CO_canShare_47 : decode M_CO_canShare.2.1 47 = .ok (.iload_n 3, 1) := by decide +kernel
theorem d_CO_canShare_48 : decode M_CO_canShare.2.1 48 = .ok (.ineg, 1) := by decide +kernel
theorem d_CO_canShare_49 : decode M_CO_canShare.2.1 49 = .ok (.aload_n 0, 1) := by decide +kernel
theorem d_CO_canShare_50 : decode M_CO_canShare.2.1 50 = .ok (.iload_n 2, 1) := by decide +kernel
theorem d_CO_canShare_51 : decode M_CO_canShare.2.1 51 = .ok (.invokevirtual 108, 3) := by decide +kernel
theorem d_CO_canShare_54 : decode M_CO_canShare.2.1 54 = .ok (.aload_n 0, 1) := by decide +kernel
theorem d_CO_canShare_55 : decode M_CO_canShare.2.1 55 = .ok (.iload_n 1, 1) := by decide +kernel
theorem d_CO_canShare_56 : decode M_CO_canShare.2.1 56 = .ok (.invokevirtual 111, 3) := by decide +kernel
theorem d_CO_canShare_59 : decode M_CO_canShare.2.1 59 = .ok (.iadd, 1) := by decide +kernel
theorem d_CO_canShare_60 : decode M_CO_canShare.2.1 60 = .ok (.if_icmp .lt 7, 3) := by decide +kernel
theorem d_CO_canShare_63 : decode M_CO_canShare.2.1 63 = .ok (.iconst 1, 1) := by decide +kernel
theorem d_CO_canShare_64 : decode M_CO_canShare.2.1 64 = .ok (.goto 4, 3) := by decide +kernel
theorem d_CO_canShare_67 : decode M_CO_canShare.2.1 67 = .ok (.iconst 0, 1) := by decide +kernel
theorem d_CO_canShare_68 : decode M_CO_canShare.2.1 68 = .ok (.ireturn, 1) := by decide +kernel
theorem d_CO_up_0 : decode M_CO_up.2.1 0 = .ok (.aload_n 0, 1) := by decide +kernel
theorem d_CO_up_1 : decode M_CO_up.2.1 1 = .ok (.getfield 31, 3) := by decide +kernel
theorem d_CO_up_4 : decode M_CO_up.2.1 4 = .ok (.getfield 114, 3) := by decide +kernel
theorem d_CO_up_7 : decode M_CO_up.2.1 7 = .ok (.iload_n 1, 1) := by decide +kernel
theorem d_CO_up_8 : decode M_CO_up.2.1 8 = .ok (.iaload, 1) := by decide +kernel
theorem d_CO_up_9 : decode M_CO_up.2.1 9 = .ok (.istore_n 2, 1) := by decide +kernel
theorem d_CO_up_10 : decode M_CO_up.2.1 10 = .ok (.iload_n 2, 1) := by decide +kernel
theorem d_CO_up_11 : decode M_CO_up.2.1 11 = .ok (.ifCond .ge 7, 3) := by decide +kernel
theorem d_CO_up_14 : decode M_CO_up.2.1 14 = .ok (.iconst 4, 1) := by decide +kernel
theorem d_CO_up_15 : decode M_CO_up.2.1 15 = .ok (.goto 9, 3) := by decide +kernel
theorem d_CO_up_18 : decode M_CO_up.2.1 18 = .ok (.aload_n 0, 1) := by decide +kernel
theorem d_CO_up_19 : decode M_CO_up.2.1 19 = .ok (.iload_n 1, 1) := by decide +kernel
theorem d_CO_up_20 : decode M_CO_up.2.1 20 = .ok (.iload_n 2, 1) := by decide +kernel
theorem d_CO_up_21 : decode M_CO_up.2.1 21 = .ok (.invokevirtual 117, 3) := by decide +kernel
theorem d_CO_up_24 : decode M_CO_up.2.1 24 = .ok (.ireturn, 1) := by decide +kernel
theorem d_CO_down_0 : decode M_CO_down.2.1 0 = .ok (.aload_n 0, 1) := by decide +kernel
theorem d_CO_down_1 : decode M_CO_down.2.1 1 = .ok (.getfield 31, 3) := by decide +kernel
theorem d_CO_down_4 : decode M_CO_down.2.1 4 = .ok (.getfield 114, 3) := by decide +kernel
theorem d_CO_down_7 : decode M_CO_down.2.1 7 = .ok (.iload_n 1, 1) := by decide +kernel
theorem d_CO_down_8 : decode M_CO_down.2.1 8 = .ok (.iaload, 1) := by decide +kernel
theorem d_CO_down_9 : decode M_CO_down.2.1 9 = .ok (.istore_n 2, 1) := by decide +kernel
theorem d_CO_down_10 : decode M_CO_down.2.1 10 = .ok (.iload_n 2, 1) := by decide +kernel
theorem d_CO_down_11 : decode M_CO_down.2.1 11 = .ok (.ifCond .ge 7, 3) := by decide +kernel
theorem d_CO_down_14 : decode M_CO_down.2.1 14 = .ok (.iconst 2, 1) := by decide +kernel
theorem d_CO_down_15 : decode M_CO_down.2.1 15 = .ok (.goto 9, 3) := by decide +kernel
theorem d_CO_down_18 : decode M_CO_down.2.1 18 = .ok (.aload_n 0, 1) := by decide +kernel
theorem d_CO_down_19 : decode M_CO_down.2.1 19 = .ok (.iload_n 1, 1) := by decide +kernel
theorem d_CO_down_20 : decode M_CO_down.2.1 20 = .ok (.iload_n 2, 1) := by decide +kernel
theorem d_CO_down_21 : decode M_CO_down.2.1 21 = .ok (.invokevirtual 117, 3) := by decide +kernel
theorem d_CO_down_24 : decode M_CO_down.2.1 24 = .ok (.ireturn, 1) := by decide +kernel
theorem d_CO_levelReach_0 : decode M_CO_levelReach.2.1 0 = .ok (.iload_n 2, 1) := by decide +kernel
theorem d_CO_levelReach_1 : decode M_CO_levelReach.2.1 1 = .ok (.iconst 4, 1) := by decide +kernel
theorem d_CO_levelReach_2 : decode M_CO_levelReach.2.1 2 = .ok (.if_icmp .ge 5, 3) := by decide +kernel
theorem d_CO_levelReach_5 : decode M_CO_levelReach.2.1 5 = .ok (.iconst 3, 1) := by decide +kernel
theorem d_CO_levelReach_6 : decode M_CO_levelReach.2.1 6 = .ok (.ireturn, 1) := by decide +kernel
theorem d_CO_levelReach_7 : decode M_CO_levelReach.2.1 7 = .ok (.aload_n 0, 1) := by decide +kernel
theorem d_CO_levelReach_8 : decode M_CO_levelReach.2.1 8 = .ok (.getfield 35, 3) := by decide +kernel
theorem d_CO_levelReach_11 : decode M_CO_levelReach.2.1 11 = .ok (.getfield 77, 3) := by decide +kernel
theorem d_CO_levelReach_14 : decode M_CO_levelReach.2.1 14 = .ok (.iload_n 1, 1) := by decide +kernel
theorem d_CO_levelReach_15 : decode M_CO_levelReach.2.1 15 = .ok (.iaload, 1) := by decide +kernel
theorem d_CO_levelReach_16 : decode M_CO_levelReach.2.1 16 = .ok (.iconst 2, 1) := by decide +kernel
theorem d_CO_levelReach_17 : decode M_CO_levelReach.2.1 17 = .ok (.if_icmp .ne 7, 3) := by decide +kernel
theorem d_CO_levelReach_20 : decode M_CO_levelReach.2.1 20 = .ok (.iconst 2, 1) := by decide +kernel
theorem d_CO_levelReach_21 : decode M_CO_levelReach.2.1 21 = .ok (.goto 4, 3) := by decide +kernel
theorem d_CO_levelReach_24 : decode M_CO_levelReach.2.1 24 = .ok (.iconst 1, 1) := by decide +kernel
theorem d_CO_levelReach_25 : decode M_CO_levelReach.2.1 25 = .ok (.ireturn, 1) := by decide +kernel
theorem d_DS_forget_0 : decode M_DS_forget.2.1 0 = .ok (.aload_n 0, 1) := by decide +kernel
theorem d_DS_forget_1 : decode M_DS_forget.2.1 1 = .ok (.iconst (-1), 1) := by decide +kernel
theorem d_DS_forget_2 : decode M_DS_forget.2.1 2 = .ok (.putfield 24, 3) := by decide +kernel
theorem d_DS_forget_5 : decode M_DS_forget.2.1 5 = .ok (.return_, 1) := by decide +kernel
theorem d_DS_layOut_0 : decode M_DS_layOut.2.1 0 = .ok (.iload_n 1, 1) := by decide +kernel
theorem d_DS_layOut_1 : decode M_DS_layOut.2.1 1 = .ok (.aload_n 0, 1) := by decide +kernel
theorem d_DS_layOut_2 : decode M_DS_layOut.2.1 2 = .ok (.getfield 24, 3) := by decide +kernel
theorem d_DS_layOut_5 : decode M_DS_layOut.2.1 5 = .ok (.if_icmp .ne 4, 3) := by decide +kernel
theorem d_DS_layOut_8 : decode M_DS_layOut.2.1 8 = .ok (.return_, 1) := by decide +kernel
theorem d_DS_layOut_9 : decode M_DS_layOut.2.1 9 = .ok (.aload_n 0, 1) := by decide +kernel
theorem d_DS_layOut_10 : decode M_DS_layOut.2.1 10 = .ok (.iload_n 1, 1) := by decide +kernel
theorem d_DS_layOut_11 : decode M_DS_layOut.2.1 11 = .ok (.putfield 24, 3) := by decide +kernel
theorem d_DS_layOut_14 : decode M_DS_layOut.2.1 14 = .ok (.aload_n 0, 1) := by decide +kernel
theorem d_DS_layOut_15 : decode M_DS_layOut.2.1 15 = .ok (.iload_n 1, 1) := by decide +kernel
theorem d_DS_layOut_16 : decode M_DS_layOut.2.1 16 = .ok (.aload_n 0, 1) := by decide +kernel
theorem d_DS_layOut_17 : decode M_DS_layOut.2.1 17 = .ok (.getfield 28, 3) := by decide +kernel
theorem d_DS_layOut_20 : decode M_DS_layOut.2.1 20 = .ok (.iload_n 1, 1) := by decide +kernel
theorem d_DS_layOut_21 : decode M_DS_layOut.2.1 21 = .ok (.invokevirtual 32, 3) := by decide +kernel
theorem d_DS_layOut_24 : decode M_DS_layOut.2.1 24 = .ok (.invokevirtual 38, 3) := by decide +kernel
theorem d_DS_layOut_27 : decode M_DS_layOut.2.1 27 = .ok (.aload_n 0, 1) := by decide +kernel
theorem d_DS_layOut_28 : decode M_DS_layOut.2.1 28 = .ok (.getfield 42, 3) := by decide +kernel
theorem d_DS_layOut_31 : decode M_DS_layOut.2.1 31 = .ok (.ifCond .ne 4, 3) := by decide +kernel
theorem d_DS_layOut_34 : decode M_DS_layOut.2.1 34 = .ok (.return_, 1) := by decide +kernel
theorem d_DS_layOut_35 : decode M_DS_layOut.2.1 35 = .ok (.aload_n 0, 1) := by decide +kernel
theorem d_DS_layOut_36 : decode M_DS_layOut.2.1 36 = .ok (.getfield 15, 3) := by decide +kernel
theorem d_DS_layOut_39 : decode M_DS_layOut.2.1 39 = .ok (.aload_n 0, 1) := by decide +kernel
theorem d_DS_layOut_40 : decode M_DS_layOut.2.1 40 = .ok (.getfield 42, 3) := by decide +kernel
theorem d_DS_layOut_43 : decode M_DS_layOut.2.1 43 = .ok (.iconst 1, 1) := by decide +kernel
theorem d_DS_layOut_44 : decode M_DS_layOut.2.1 44 = .ok (.isub, 1) := by decide +kernel
theorem d_DS_layOut_45 : decode M_DS_layOut.2.1 45 = .ok (.iaload, 1) := by decide +kernel
theorem d_DS_layOut_46 : decode M_DS_layOut.2.1 46 = .ok (.aload_n 0, 1) := by decide +kernel
theorem d_DS_layOut_47 : decode M_DS_layOut.2.1 47 = .ok (.getfield 42, 3) := by decide +kernel
theorem d_DS_layOut_50 : decode M_DS_layOut.2.1 50 = .ok (.isub, 1) := by decide +kernel
theorem d_DS_layOut_51 : decode M_DS_layOut.2.1 51 = .ok (.istore_n 2, 1) := by decide +kernel
theorem d_DS_layOut_52 : decode M_DS_layOut.2.1 52 = .ok (.aload_n 0, 1) := by decide +kernel
theorem d_DS_layOut_53 : decode M_DS_layOut.2.1 53 = .ok (.iload_n 2, 1) := by decide +kernel
theorem d_DS_layOut_54 : decode M_DS_layOut.2.1 54 = .ok (.iconst 2, 1) := by decide +kernel
theorem d_DS_layOut_55 : decode M_DS_layOut.2.1 55 = .ok (.irem, 1) := by decide +kernel
theorem d_DS_layOut_56 : decode M_DS_layOut.2.1 56 = .ok (.ifCond .ne 9, 3) := by decide +kernel
theorem d_DS_layOut_59 : decode M_DS_layOut.2.1 59 = .ok (.iload_n 2, 1) := by decide +kernel
theorem d_DS_layOut_60 : decode M_DS_layOut.2.1 60 = .ok (.iconst 1, 1) := by decide +kernel
theorem d_DS_layOut_61 : decode M_DS_layOut.2.1 61 = .ok (.iadd, 1) := by decide +kernel
theorem d_DS_layOut_62 : decode M_DS_layOut.2.1 62 = .ok (.goto 4, 3) := by decide +kernel
theorem d_DS_layOut_65 : decode M_DS_layOut.2.1 65 = .ok (.iload_n 2, 1) := by decide +kernel
theorem d_DS_layOut_66 : decode M_DS_layOut.2.1 66 = .ok (.putfield 45, 3) := by decide +kernel
theorem d_DS_layOut_69 : decode M_DS_layOut.2.1 69 = .ok (.aload_n 0, 1) := by decide +kernel
theorem d_DS_layOut_70 : decode M_DS_layOut.2.1 70 = .ok (.aload_n 0, 1) := by decide +kernel
theorem d_DS_layOut_71 : decode M_DS_layOut.2.1 71 = .ok (.getfield 15, 3) := by decide +kernel
theorem d_DS_layOut_74 : decode M_DS_layOut.2.1 74 = .ok (.iconst 0, 1) := by decide +kernel
theorem d_DS_layOut_75 : decode M_DS_layOut.2.1 75 = .ok (.iaload, 1) := by decide +kernel
theorem d_DS_layOut_76 : decode M_DS_layOut.2.1 76 = .ok (.aload_n 0, 1) := by decide +kernel
theorem d_DS_layOut_77 : decode M_DS_layOut.2.1 77 = .ok (.getfield 42, 3) := by decide +kernel
theorem d_DS_layOut_80 : decode M_DS_layOut.2.1 80 = .ok (.iadd, 1) := by decide +kernel
theorem d_DS_layOut_81 : decode M_DS_layOut.2.1 81 = .ok (.aload_n 0, 1) := by decide +kernel
theorem d_DS_layOut_82 : decode M_DS_layOut.2.1 82 = .ok (.getfield 45, 3) := by decide +kernel
theorem d_DS_layOut_85 : decode M_DS_layOut.2.1 85 = .ok (.isub, 1) := by decide +kernel
theorem d_DS_layOut_86 : decode M_DS_layOut.2.1 86 = .ok (.iconst 2, 1) := by decide +kernel
theorem d_DS_layOut_87 : decode M_DS_layOut.2.1 87 = .ok (.idiv, 1) := by decide +kernel
theorem d_DS_layOut_88 : decode M_DS_layOut.2.1 88 = .ok (.iconst 1, 1) := by decide +kernel
theorem d_DS_layOut_89 : decode M_DS_layOut.2.1 89 = .ok (.iadd, 1) := by decide +kernel
theorem d_DS_layOut_90 : decode M_DS_layOut.2.1 90 = .ok (.bipush 96, 2) := by decide +kernel
theorem d_DS_layOut_92 : decode M_DS_layOut.2.1 92 = .ok (.invokestatic 48, 3) := by decide +kernel
theorem d_DS_layOut_95 : decode M_DS_layOut.2.1 95 = .ok (.putfield 54, 3) := by decide +kernel
theorem d_DS_layOut_98 : decode M_DS_layOut.2.1 98 = .ok (.aload_n 0, 1) := by decide +kernel
theorem d_DS_layOut_99 : decode M_DS_layOut.2.1 99 = .ok (.invokevirtual 57, 3) := by decide +kernel
theorem d_DS_layOut_102 : decode M_DS_layOut.2.1 102 = .ok (.aload_n 0, 1) := by decide +kernel
theorem d_DS_layOut_103 : decode M_DS_layOut.2.1 103 = .ok (.invokevirtual 60, 3) := by decide +kernel
theorem d_DS_layOut_106 : decode M_DS_layOut.2.1 106 = .ok (.return_, 1) := by decide +kernel
theorem d_DS_distanceFrom_0 : decode M_DS_distanceFrom.2.1 0 = .ok (.iconst 0, 1) := by decide +kernel
theorem d_DS_distanceFrom_1 : decode M_DS_distanceFrom.2.1 1 = .ok (.istore_n 2, 1) := by decide +kernel
theorem d_DS_distanceFrom_2 : decode M_DS_distanceFrom.2.1 2 = .ok (.iload_n 2, 1) := by decide +kernel
theorem d_DS_distanceFrom_3 : decode M_DS_distanceFrom.2.1 3 = .ok (.aload_n 0, 1) := by decide +kernel
theorem d_DS_distanceFrom_4 : decode M_DS_distanceFrom.2.1 4 = .ok (.getfield 42, 3) := by decide +kernel
theorem d_DS_distanceFrom_7 : decode M_DS_distanceFrom.2.1 7 = .ok (.if_icmp .ge 28, 3) := by decide +kernel
theorem d_DS_distanceFrom_10 : decode M_DS_distanceFrom.2.1 10 = .ok (.aload_n 0, 1) := by decide +kernel
theorem d_DS_distanceFrom_11 : decode M_DS_distanceFrom.2.1 11 = .ok (.getfield 15, 3) := by decide +kernel
theorem d_DS_distanceFrom_14 : decode M_DS_distanceFrom.2.1 14 = .ok (.iload_n 2, 1) := by decide +kernel
theorem d_DS_distanceFrom_15 : decode M_DS_distanceFrom.2.1 15 = .ok (.iaload, 1) := by decide +kernel
theorem d_DS_distanceFrom_16 : decode M_DS_distanceFrom.2.1 16 = .ok (.iload_n 1, 1) := by decide +kernel
theorem d_DS_distanceFrom_17 : decode M_DS_distanceFrom.2.1 17 = .ok (.if_icmp .ne 12, 3) := by decide +kernel
theorem d_DS_distanceFrom_20 : decode M_DS_distanceFrom.2.1 20 = .ok (.aload_n 0, 1) := by decide +kernel
theorem d_DS_distanceFrom_21 : decode M_DS_distanceFrom.2.1 21 = .ok (.getfield 18, 3) := by decide +kernel
theorem d_DS_distanceFrom_24 : decode M_DS_distanceFrom.2.1 24 = .ok (.iload_n 2, 1) := by decide +kernel
theorem d_DS_distanceFrom_25 : decode M_DS_distanceFrom.2.1 25 = .ok (.iaload, 1) := by decide +kernel
theorem d_DS_distanceFrom_26 : decode M_DS_distanceFrom.2.1 26 = .ok (.iload_n 1, 1) := by decide +kernel
theorem d_DS_distanceFrom_27 : decode M_DS_distanceFrom.2.1 27 = .ok (.isub, 1) := by decide +kernel
theorem d_DS_distanceFrom_28 : decode M_DS_distanceFrom.2.1 28 = .ok (.ireturn, 1) := by decide +kernel
theorem d_DS_distanceFrom_29 : decode M_DS_distanceFrom.2.1 29 = .ok (.iinc 2 1, 3) := by decide +kernel
theorem d_DS_distanceFrom_32 : decode M_DS_distanceFrom.2.1 32 = .ok (.goto (-30), 3) := by decide +kernel
theorem d_DS_distanceFrom_35 : decode M_DS_distanceFrom.2.1 35 = .ok (.iconst 0, 1) := by decide +kernel
theorem d_DS_distanceFrom_36 : decode M_DS_distanceFrom.2.1 36 = .ok (.ireturn, 1) := by decide +kernel
theorem d_DS_collectFromTop_0 : decode M_DS_collectFromTop.2.1 0 = .ok (.aload_n 0, 1) := by decide +kernel
theorem d_DS_collectFromTop_1 : decode M_DS_collectFromTop.2.1 1 = .ok (.getfield 9, 3) := by decide +kernel
theorem d_DS_collectFromTop_4 : decode M_DS_collectFromTop.2.1 4 = .ok (.iconst 0, 1) := by decide +kernel
theorem d_DS_collectFromTop_5 : decode M_DS_collectFromTop.2.1 5 = .ok (.invokestatic 63, 3) := by decide +kernel
theorem d_DS_collectFromTop_8 : decode M_DS_collectFromTop.2.1 8 = .ok (.iload_n 1, 1) := by decide +kernel
theorem d_DS_collectFromTop_9 : decode M_DS_collectFromTop.2.1 9 = .ok (.istore_n 3, 1) := by decide +kernel
theorem d_DS_collectFromTop_10 : decode M_DS_collectFromTop.2.1 10 = .ok (.iload_n 3, 1) := by decide +kernel
theorem d_DS_collectFromTop_11 : decode M_DS_collectFromTop.2.1 11 = .ok (.iload_n 2, 1) := by decide +kernel
theorem d_DS_collectFromTop_12 : decode M_DS_collectFromTop.2.1 12 = .ok (.if_icmp .ge 49, 3) := by decide +kernel
theorem d_DS_collectFromTop_15 : decode M_DS_collectFromTop.2.1 15 = .ok (.aload_n 0, 1) := by decide +kernel
theorem d_DS_collectFromTop_16 : decode M_DS_collectFromTop.2.1 16 = .ok (.getfield 28, 3) := by decide +kernel
theorem d_DS_collectFromTop_19 : decode M_DS_collectFromTop.2.1 19 = .ok (.getfield 69, 3) := by decide +kernel
theorem d_DS_collectFromTop_22 : decode M_DS_collectFromTop.2.1 22 = .ok (.iload_n 3, 1) := by decide +kernel
theorem d_DS_collectFromTop_23 : decode M_DS_collectFromTop.2.1 23 = .ok (.iaload, 1) := by decide +kernel
theorem d_DS_collectFromTop_24 : decode M_DS_collectFromTop.2.1 24 = .ok (.istore 4, 2) := by decide +kernel
theorem d_DS_collectFromTop_26 : decode M_DS_collectFromTop.2.1 26 = .ok (.aload_n 0, 1) := by decide +kernel
theorem d_DS_collectFromTop_27 : decode M_DS_collectFromTop.2.1 27 = .ok (.getfield 28, 3) := by decide +kernel
theorem d_DS_collectFromTop_30 : decode M_DS_collectFromTop.2.1 30 = .ok (.iload 4, 2) := by decide +kernel
theorem d_DS_collectFromTop_32 : decode M_DS_collectFromTop.2.1 32 = .ok (.iconst 2, 1) := by decide +kernel
theorem d_DS_collectFromTop_33 : decode M_DS_collectFromTop.2.1 33 = .ok (.invokevirtual 72, 3) := by decide +kernel
theorem d_DS_collectFromTop_36 : decode M_DS_collectFromTop.2.1 36 = .ok (.ifCond .le 19, 3) := by decide +kernel
theorem d_DS_collectFromTop_39 : decode M_DS_collectFromTop.2.1 39 = .ok (.aload_n 0, 1) := by decide +kernel
theorem d_DS_collectFromTop_40 : decode M_DS_collectFromTop.2.1 40 = .ok (.getfield 9, 3) := by decide +kernel
theorem d_DS_collectFromTop_43 : decode M_DS_collectFromTop.2.1 43 = .ok (.aload_n 0, 1) := by decide +kernel
theorem d_DS_collectFromTop_44 : decode M_DS_collectFromTop.2.1 44 = .ok (.getfield 28, 3) := by decide +kernel
theorem d_DS_collectFromTop_47 : decode M_DS_collectFromTop.2.1 47 = .ok (.getfield 75, 3) := by decide +kernel
theorem d_DS_collectFromTop_50 : decode M_DS_collectFromTop.2.1 50 = .ok (.iload 4, 2) := by decide +kernel
theorem d_DS_collectFromTop_52 : decode M_DS_collectFromTop.2.1 52 = .ok (.iaload, 1) := by decide +kernel
theorem d_DS_collectFromTop_53 : decode M_DS_collectFromTop.2.1 53 = .ok (.iconst 1, 1) := by decide +kernel
theorem d_DS_collectFromTop_54 : decode M_DS_collectFromTop.2.1 54 = .ok (.iastore, 1) := by decide +kernel
theorem d_DS_collectFromTop_55 : decode M_DS_collectFromTop.2.1 55 = .ok (.iinc 3 1, 3) := by decide +kernel
theorem d_DS_collectFromTop_58 : decode M_DS_collectFromTop.2.1 58 = .ok (.goto (-48), 3) := by decide +kernel
theorem d_DS_collectFromTop_61 : decode M_DS_collectFromTop.2.1 61 = .ok (.aload_n 0, 1) := by decide +kernel
theorem d_DS_collectFromTop_62 : decode M_DS_collectFromTop.2.1 62 = .ok (.iconst 0, 1) := by decide +kernel
theorem d_DS_collectFromTop_63 : decode M_DS_collectFromTop.2.1 63 = .ok (.putfield 42, 3) := by decide +kernel
theorem d_DS_collectFromTop_66 : decode M_DS_collectFromTop.2.1 66 = .ok (.bipush 69, 2) := by decide +kernel
theorem d_DS_collectFromTop_68 : decode M_DS_collectFromTop.2.1 68 = .ok (.istore_n 3, 1) := by decide +kernel
theorem d_DS_collectFromTop_69 : decode M_DS_collectFromTop.2.1 69 = .ok (.iload_n 3, 1) := by decide +kernel
theorem d_DS_collectFromTop_70 : decode M_DS_collectFromTop.2.1 70 = .ok (.ifCond .lt 48, 3) := by decide +kernel
theorem d_DS_collectFromTop_73 : decode M_DS_collectFromTop.2.1 73 = .ok (.aload_n 0, 1) := by decide +kernel
theorem d_DS_collectFromTop_74 : decode M_DS_collectFromTop.2.1 74 = .ok (.getfield 9, 3) := by decide +kernel
theorem d_DS_collectFromTop_77 : decode M_DS_collectFromTop.2.1 77 = .ok (.iload_n 3, 1) := by decide +kernel
theorem d_DS_collectFromTop_78 : decode M_DS_collectFromTop.2.1 78 = .ok (.iaload, 1) := by decide +kernel
theorem d_DS_collectFromTop_79 : decode M_DS_collectFromTop.2.1 79 = .ok (.iconst 1, 1) := by decide +kernel
theorem d_DS_collectFromTop_80 : decode M_DS_collectFromTop.2.1 80 = .ok (.if_icmp .ne 32, 3) := by decide +kernel
theorem d_DS_collectFromTop_83 : decode M_DS_collectFromTop.2.1 83 = .ok (.aload_n 0, 1) := by decide +kernel
theorem d_DS_collectFromTop_84 : decode M_DS_collectFromTop.2.1 84 = .ok (.getfield 42, 3) := by decide +kernel
theorem d_DS_collectFromTop_87 : decode M_DS_collectFromTop.2.1 87 = .ok (.bipush 60, 2) := by decide +kernel
theorem d_DS_collectFromTop_89 : decode M_DS_collectFromTop.2.1 89 = .ok (.if_icmp .ge 23, 3) := by decide +kernel
theorem d_DS_collectFromTop_92 : decode M_DS_collectFromTop.2.1 92 = .ok (.aload_n 0, 1) := by decide +kernel
theorem d_DS_collectFromTop_93 : decode M_DS_collectFromTop.2.1 93 = .ok (.getfield 15, 3) := by decide +kernel
theorem d_DS_collectFromTop_96 : decode M_DS_collectFromTop.2.1 96 = .ok (.aload_n 0, 1) := by decide +kernel
theorem d_DS_collectFromTop_97 : decode M_DS_collectFromTop.2.1 97 = .ok (.getfield 42, 3) := by decide +kernel
theorem d_DS_collectFromTop_100 : decode M_DS_collectFromTop.2.1 100 = .ok (.iload_n 3, 1) := by decide +kernel
theorem d_DS_collectFromTop_101 : decode M_DS_collectFromTop.2.1 101 = .ok (.iastore, 1) := by decide +kernel
theorem d_DS_collectFromTop_102 : decode M_DS_collectFromTop.2.1 102 = .ok (.aload_n 0, 1) := by decide +kernel
theorem d_DS_collectFromTop_103 : decode M_DS_collectFromTop.2.1 103 = .ok (.dup, 1) := by decide +kernel
theorem d_DS_collectFromTop_104 : decode M_DS_collectFromTop.2.1 104 = .ok (.getfield 42, 3) := by decide +kernel
theorem d_DS_collectFromTop_107 : decode M_DS_collectFromTop.2.1 107 = .ok (.iconst 1, 1) := by decide +kernel
theorem d_DS_collectFromTop_108 : decode M_DS_collectFromTop.2.1 108 = .ok (.iadd, 1) := by decide +kernel
theorem d_DS_collectFromTop_109 : decode M_DS_collectFromTop.2.1 109 = .ok (.putfield 42, 3) := by decide +kernel
theorem d_DS_collectFromTop_112 : decode M_DS_collectFromTop.2.1 112 = .ok (.iinc 3 (-1), 3) := by decide +kernel
theorem d_DS_collectFromTop_115 : decode M_DS_collectFromTop.2.1 115 = .ok (.goto (-46), 3) := by decide +kernel
theorem d_DS_collectFromTop_118 : decode M_DS_collectFromTop.2.1 118 = .ok (.return_, 1) := by decide +kernel
theorem d_DS_spaceAt_0 : decode M_DS_spaceAt.2.1 0 = .ok (.aload_n 0, 1) := by decide +kernel
theorem d_DS_spaceAt_1 : decode M_DS_spaceAt.2.1 1 = .ok (.getfield 45, 3) := by decide +kernel
theorem d_DS_spaceAt_4 : decode M_DS_spaceAt.2.1 4 = .ok (.iconst 2, 1) := by decide +kernel
theorem d_DS_spaceAt_5 : decode M_DS_spaceAt.2.1 5 = .ok (.iload_n 1, 1) := by decide +kernel
theorem d_DS_spaceAt_6 : decode M_DS_spaceAt.2.1 6 = .ok (.imul, 1) := by decide +kernel
theorem d_DS_spaceAt_7 : decode M_DS_spaceAt.2.1 7 = .ok (.iadd, 1) := by decide +kernel
theorem d_DS_spaceAt_8 : decode M_DS_spaceAt.2.1 8 = .ok (.ireturn, 1) := by decide +kernel
theorem d_DS_fillCosts_0 : decode M_DS_fillCosts.2.1 0 = .ok (.aload_n 0, 1) := by decide +kernel
theorem d_DS_fillCosts_1 : decode M_DS_fillCosts.2.1 1 = .ok (.getfield 42, 3) := by decide +kernel
theorem d_DS_fillCosts_4 : decode M_DS_fillCosts.2.1 4 = .ok (.iconst 1, 1) := by decide +kernel
