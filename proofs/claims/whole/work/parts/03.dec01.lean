/-! decode rows, by program -/
theorem d_KR_placeFor_24 : decode M_KR_placeFor.2.1 24 = .ok (.iadd, 1) := by decide +kernel
theorem d_KR_placeFor_25 : decode M_KR_placeFor.2.1 25 = .ok (.bipush 7, 2) := by decide +kernel
theorem d_KR_placeFor_27 : decode M_KR_placeFor.2.1 27 = .ok (.irem, 1) := by decide +kernel
theorem d_KR_placeFor_28 : decode M_KR_placeFor.2.1 28 = .ok (.istore 4, 2) := by decide +kernel
theorem d_KR_placeFor_30 : decode M_KR_placeFor.2.1 30 = .ok (.iload_n 3, 1) := by decide +kernel
theorem d_KR_placeFor_31 : decode M_KR_placeFor.2.1 31 = .ok (.iload 4, 2) := by decide +kernel
theorem d_KR_placeFor_33 : decode M_KR_placeFor.2.1 33 = .ok (.iload_n 0, 1) := by decide +kernel
theorem d_KR_placeFor_34 : decode M_KR_placeFor.2.1 34 = .ok (.isub, 1) := by decide +kernel
theorem d_KR_placeFor_35 : decode M_KR_placeFor.2.1 35 = .ok (.bipush 7, 2) := by decide +kernel
theorem d_KR_placeFor_37 : decode M_KR_placeFor.2.1 37 = .ok (.iadd, 1) := by decide +kernel
theorem d_KR_placeFor_38 : decode M_KR_placeFor.2.1 38 = .ok (.bipush 7, 2) := by decide +kernel
theorem d_KR_placeFor_40 : decode M_KR_placeFor.2.1 40 = .ok (.irem, 1) := by decide +kernel
theorem d_KR_placeFor_41 : decode M_KR_placeFor.2.1 41 = .ok (.isub, 1) := by decide +kernel
theorem d_KR_placeFor_42 : decode M_KR_placeFor.2.1 42 = .ok (.ireturn, 1) := by decide +kernel
theorem d_KR_append_0 : decode M_KR_append.2.1 0 = .ok (.aload_n 0, 1) := by decide +kernel
theorem d_KR_append_1 : decode M_KR_append.2.1 1 = .ok (.getfield 24, 3) := by decide +kernel
theorem d_KR_append_4 : decode M_KR_append.2.1 4 = .ok (.bipush 14, 2) := by decide +kernel
theorem d_KR_append_6 : decode M_KR_append.2.1 6 = .ok (.if_icmp .lt 4, 3) := by decide +kernel
theorem d_KR_append_9 : decode M_KR_append.2.1 9 = .ok (.return_, 1) := by decide +kernel
theorem d_KR_append_10 : decode M_KR_append.2.1 10 = .ok (.aload_n 0, 1) := by decide +kernel
theorem d_KR_append_11 : decode M_KR_append.2.1 11 = .ok (.getfield 11, 3) := by decide +kernel
theorem d_KR_append_14 : decode M_KR_append.2.1 14 = .ok (.aload_n 0, 1) := by decide +kernel
theorem d_KR_append_15 : decode M_KR_append.2.1 15 = .ok (.getfield 24, 3) := by decide +kernel
theorem d_KR_append_18 : decode M_KR_append.2.1 18 = .ok (.iload_n 1, 1) := by decide +kernel
theorem d_KR_append_19 : decode M_KR_append.2.1 19 = .ok (.iastore, 1) := by decide +kernel
theorem d_KR_append_20 : decode M_KR_append.2.1 20 = .ok (.aload_n 0, 1) := by decide +kernel
theorem d_KR_append_21 : decode M_KR_append.2.1 21 = .ok (.getfield 15, 3) := by decide +kernel
theorem d_KR_append_24 : decode M_KR_append.2.1 24 = .ok (.aload_n 0, 1) := by decide +kernel
theorem d_KR_append_25 : decode M_KR_append.2.1 25 = .ok (.getfield 24, 3) := by decide +kernel
theorem d_KR_append_28 : decode M_KR_append.2.1 28 = .ok (.iload_n 2, 1) := by decide +kernel
theorem d_KR_append_29 : decode M_KR_append.2.1 29 = .ok (.iastore, 1) := by decide +kernel
theorem d_KR_append_30 : decode M_KR_append.2.1 30 = .ok (.aload_n 0, 1) := by decide +kernel
theorem d_KR_append_31 : decode M_KR_append.2.1 31 = .ok (.getfield 18, 3) := by decide +kernel
theorem d_KR_append_34 : decode M_KR_append.2.1 34 = .ok (.aload_n 0, 1) := by decide +kernel
theorem d_KR_append_35 : decode M_KR_append.2.1 35 = .ok (.getfield 24, 3) := by decide +kernel
theorem d_KR_append_38 : decode M_KR_append.2.1 38 = .ok (.iload_n 3, 1) := by decide +kernel
theorem d_KR_append_39 : decode M_KR_append.2.1 39 = .ok (.iastore, 1) := by decide +kernel
theorem d_KR_append_40 : decode M_KR_append.2.1 40 = .ok (.aload_n 0, 1) := by decide +kernel
theorem d_KR_append_41 : decode M_KR_append.2.1 41 = .ok (.dup, 1) := by decide +kernel
theorem d_KR_append_42 : decode M_KR_append.2.1 42 = .ok (.getfield 24, 3) := by decide +kernel
theorem d_KR_append_45 : decode M_KR_append.2.1 45 = .ok (.iconst 1, 1) := by decide +kernel
theorem d_KR_append_46 : decode M_KR_append.2.1 46 = .ok (.iadd, 1) := by decide +kernel
theorem d_KR_append_47 : decode M_KR_append.2.1 47 = .ok (.putfield 24, 3) := by decide +kernel
theorem d_KR_append_50 : decode M_KR_append.2.1 50 = .ok (.return_, 1) := by decide +kernel
theorem d_SG_forget_0 : decode M_SG_forget.2.1 0 = .ok (.aload_n 0, 1) := by decide +kernel
theorem d_SG_forget_1 : decode M_SG_forget.2.1 1 = .ok (.iconst 0, 1) := by decide +kernel
theorem d_SG_forget_2 : decode M_SG_forget.2.1 2 = .ok (.putfield 42, 3) := by decide +kernel
theorem d_SG_forget_5 : decode M_SG_forget.2.1 5 = .ok (.return_, 1) := by decide +kernel
theorem d_SG_find_0 : decode M_SG_find.2.1 0 = .ok (.aload_n 0, 1) := by decide +kernel
theorem d_SG_find_1 : decode M_SG_find.2.1 1 = .ok (.getfield 42, 3) := by decide +kernel
theorem d_SG_find_4 : decode M_SG_find.2.1 4 = .ok (.ifCond .eq 4, 3) := by decide +kernel
theorem d_SG_find_7 : decode M_SG_find.2.1 7 = .ok (.return_, 1) := by decide +kernel
theorem d_SG_find_8 : decode M_SG_find.2.1 8 = .ok (.aload_n 0, 1) := by decide +kernel
theorem d_SG_find_9 : decode M_SG_find.2.1 9 = .ok (.iconst 1, 1) := by decide +kernel
theorem d_SG_find_10 : decode M_SG_find.2.1 10 = .ok (.putfield 42, 3) := by decide +kernel
theorem d_SG_find_13 : decode M_SG_find.2.1 13 = .ok (.aload_n 0, 1) := by decide +kernel
theorem d_SG_find_14 : decode M_SG_find.2.1 14 = .ok (.getfield 12, 3) := by decide +kernel
theorem d_SG_find_17 : decode M_SG_find.2.1 17 = .ok (.invokevirtual 46, 3) := by decide +kernel
theorem d_SG_find_20 : decode M_SG_find.2.1 20 = .ok (.iconst 0, 1) := by decide +kernel
theorem d_SG_find_21 : decode M_SG_find.2.1 21 = .ok (.istore_n 1, 1) := by decide +kernel
theorem d_SG_find_22 : decode M_SG_find.2.1 22 = .ok (.iload_n 1, 1) := by decide +kernel
theorem d_SG_find_23 : decode M_SG_find.2.1 23 = .ok (.aload_n 0, 1) := by decide +kernel
theorem d_SG_find_24 : decode M_SG_find.2.1 24 = .ok (.getfield 31, 3) := by decide +kernel
theorem d_SG_find_27 : decode M_SG_find.2.1 27 = .ok (.getfield 49, 3) := by decide +kernel
theorem d_SG_find_30 : decode M_SG_find.2.1 30 = .ok (.if_icmp .ge 51, 3) := by decide +kernel
theorem d_SG_find_33 : decode M_SG_find.2.1 33 = .ok (.aload_n 0, 1) := by decide +kernel
theorem d_SG_find_34 : decode M_SG_find.2.1 34 = .ok (.getfield 18, 3) := by decide +kernel
theorem d_SG_find_37 : decode M_SG_find.2.1 37 = .ok (.iload_n 1, 1) := by decide +kernel
theorem d_SG_find_38 : decode M_SG_find.2.1 38 = .ok (.aload_n 0, 1) := by decide +kernel
theorem d_SG_find_39 : decode M_SG_find.2.1 39 = .ok (.aload_n 0, 1) := by decide +kernel
theorem d_SG_find_40 : decode M_SG_find.2.1 40 = .ok (.getfield 31, 3) := by decide +kernel
theorem d_SG_find_43 : decode M_SG_find.2.1 43 = .ok (.getfield 55, 3) := by decide +kernel
theorem d_SG_find_46 : decode M_SG_find.2.1 46 = .ok (.iload_n 1, 1) := by decide +kernel
theorem d_SG_find_47 : decode M_SG_find.2.1 47 = .ok (.iaload, 1) := by decide +kernel
theorem d_SG_find_48 : decode M_SG_find.2.1 48 = .ok (.aload_n 0, 1) := by decide +kernel
theorem d_SG_find_49 : decode M_SG_find.2.1 49 = .ok (.getfield 31, 3) := by decide +kernel
theorem d_SG_find_52 : decode M_SG_find.2.1 52 = .ok (.getfield 58, 3) := by decide +kernel
theorem d_SG_find_55 : decode M_SG_find.2.1 55 = .ok (.iload_n 1, 1) := by decide +kernel
theorem d_SG_find_56 : decode M_SG_find.2.1 56 = .ok (.iaload, 1) := by decide +kernel
theorem d_SG_find_57 : decode M_SG_find.2.1 57 = .ok (.invokevirtual 61, 3) := by decide +kernel
theorem d_SG_find_60 : decode M_SG_find.2.1 60 = .ok (.iastore, 1) := by decide +kernel
theorem d_SG_find_61 : decode M_SG_find.2.1 61 = .ok (.aload_n 0, 1) := by decide +kernel
theorem d_SG_find_62 : decode M_SG_find.2.1 62 = .ok (.getfield 22, 3) := by decide +kernel
theorem d_SG_find_65 : decode M_SG_find.2.1 65 = .ok (.iload_n 1, 1) := by decide +kernel
theorem d_SG_find_66 : decode M_SG_find.2.1 66 = .ok (.aload_n 0, 1) := by decide +kernel
theorem d_SG_find_67 : decode M_SG_find.2.1 67 = .ok (.getfield 31, 3) := by decide +kernel
theorem d_SG_find_70 : decode M_SG_find.2.1 70 = .ok (.iload_n 1, 1) := by decide +kernel
theorem d_SG_find_71 : decode M_SG_find.2.1 71 = .ok (.invokevirtual 65, 3) := by decide +kernel
theorem d_SG_find_74 : decode M_SG_find.2.1 74 = .ok (.iastore, 1) := by decide +kernel
theorem d_SG_find_75 : decode M_SG_find.2.1 75 = .ok (.iinc 1 1, 3) := by decide +kernel
theorem d_SG_find_78 : decode M_SG_find.2.1 78 = .ok (.goto (-56), 3) := by decide +kernel
theorem d_SG_find_81 : decode M_SG_find.2.1 81 = .ok (.iconst 0, 1) := by decide +kernel
theorem d_SG_find_82 : decode M_SG_find.2.1 82 = .ok (.istore_n 1, 1) := by decide +kernel
theorem d_SG_find_83 : decode M_SG_find.2.1 83 = .ok (.iload_n 1, 1) := by decide +kernel
theorem d_SG_find_84 : decode M_SG_find.2.1 84 = .ok (.aload_n 0, 1) := by decide +kernel
theorem d_SG_find_85 : decode M_SG_find.2.1 85 = .ok (.getfield 31, 3) := by decide +kernel
theorem d_SG_find_88 : decode M_SG_find.2.1 88 = .ok (.getfield 49, 3) := by decide +kernel
theorem d_SG_find_91 : decode M_SG_find.2.1 91 = .ok (.if_icmp .ge 45, 3) := by decide +kernel
theorem d_SG_find_94 : decode M_SG_find.2.1 94 = .ok (.aload_n 0, 1) := by decide +kernel
theorem d_SG_find_95 : decode M_SG_find.2.1 95 = .ok (.getfield 31, 3) := by decide +kernel
theorem d_SG_find_98 : decode M_SG_find.2.1 98 = .ok (.iload_n 1, 1) := by decide +kernel
theorem d_SG_find_99 : decode M_SG_find.2.1 99 = .ok (.invokevirtual 69, 3) := by decide +kernel
theorem d_SG_find_102 : decode M_SG_find.2.1 102 = .ok (.ifCond .eq 28, 3) := by decide +kernel
theorem d_SG_find_105 : decode M_SG_find.2.1 105 = .ok (.aload_n 0, 1) := by decide +kernel
theorem d_SG_find_106 : decode M_SG_find.2.1 106 = .ok (.iload_n 1, 1) := by decide +kernel
theorem d_SG_find_107 : decode M_SG_find.2.1 107 = .ok (.putfield 73, 3) := by decide +kernel
theorem d_SG_find_110 : decode M_SG_find.2.1 110 = .ok (.aload_n 0, 1) := by decide +kernel
theorem d_SG_find_111 : decode M_SG_find.2.1 111 = .ok (.aload_n 0, 1) := by decide +kernel
theorem d_SG_find_112 : decode M_SG_find.2.1 112 = .ok (.getfield 31, 3) := by decide +kernel
theorem d_SG_find_115 : decode M_SG_find.2.1 115 = .ok (.iload_n 1, 1) := by decide +kernel
theorem d_SG_find_116 : decode M_SG_find.2.1 116 = .ok (.invokevirtual 76, 3) := by decide +kernel
theorem d_SG_find_119 : decode M_SG_find.2.1 119 = .ok (.putfield 79, 3) := by decide +kernel
theorem d_SG_find_122 : decode M_SG_find.2.1 122 = .ok (.aload_n 0, 1) := by decide +kernel
theorem d_SG_find_123 : decode M_SG_find.2.1 123 = .ok (.invokevirtual 82, 3) := by decide +kernel
theorem d_SG_find_126 : decode M_SG_find.2.1 126 = .ok (.aload_n 0, 1) := by decide +kernel
theorem d_SG_find_127 : decode M_SG_find.2.1 127 = .ok (.invokevirtual 85, 3) := by decide +kernel
theorem d_SG_find_130 : decode M_SG_find.2.1 130 = .ok (.iinc 1 1, 3) := by decide +kernel
theorem d_SG_find_133 : decode M_SG_find.2.1 133 = .ok (.goto (-50), 3) := by decide +kernel
theorem d_SG_find_136 : decode M_SG_find.2.1 136 = .ok (.return_, 1) := by decide +kernel
theorem d_SG_howMany_0 : decode M_SG_howMany.2.1 0 = .ok (.iconst 0, 1) := by decide +kernel
theorem d_SG_howMany_1 : decode M_SG_howMany.2.1 1 = .ok (.istore_n 2, 1) := by decide +kernel
theorem d_SG_howMany_2 : decode M_SG_howMany.2.1 2 = .ok (.iconst 0, 1) := by decide +kernel
theorem d_SG_howMany_3 : decode M_SG_howMany.2.1 3 = .ok (.istore_n 3, 1) := by decide +kernel
theorem d_SG_howMany_4 : decode M_SG_howMany.2.1 4 = .ok (.iload_n 3, 1) := by decide +kernel
theorem d_SG_howMany_5 : decode M_SG_howMany.2.1 5 = .ok (.aload_n 0, 1) := by decide +kernel
theorem d_SG_howMany_6 : decode M_SG_howMany.2.1 6 = .ok (.getfield 31, 3) := by decide +kernel
theorem d_SG_howMany_9 : decode M_SG_howMany.2.1 9 = .ok (.getfield 49, 3) := by decide +kernel
theorem d_SG_howMany_12 : decode M_SG_howMany.2.1 12 = .ok (.if_icmp .ge 22, 3) := by decide +kernel
theorem d_SG_howMany_15 : decode M_SG_howMany.2.1 15 = .ok (.aload_n 0, 1) := by decide +kernel
theorem d_SG_howMany_16 : decode M_SG_howMany.2.1 16 = .ok (.getfield 25, 3) := by decide +kernel
theorem d_SG_howMany_19 : decode M_SG_howMany.2.1 19 = .ok (.iload_n 3, 1) := by decide +kernel
theorem d_SG_howMany_20 : decode M_SG_howMany.2.1 20 = .ok (.iaload, 1) := by decide +kernel
theorem d_SG_howMany_21 : decode M_SG_howMany.2.1 21 = .ok (.iload_n 1, 1) := by decide +kernel
theorem d_SG_howMany_22 : decode M_SG_howMany.2.1 22 = .ok (.if_icmp .ne 6, 3) := by decide +kernel
theorem d_SG_howMany_25 : decode M_SG_howMany.2.1 25 = .ok (.iinc 2 1, 3) := by decide +kernel
theorem d_SG_howMany_28 : decode M_SG_howMany.2.1 28 = .ok (.iinc 3 1, 3) := by decide +kernel
theorem d_SG_howMany_31 : decode M_SG_howMany.2.1 31 = .ok (.goto (-27), 3) := by decide +kernel
theorem d_SG_howMany_34 : decode M_SG_howMany.2.1 34 = .ok (.iload_n 2, 1) := by decide +kernel
theorem d_SG_howMany_35 : decode M_SG_howMany.2.1 35 = .ok (.ireturn, 1) := by decide +kernel
theorem d_SG_widthOf_0 : decode M_SG_widthOf.2.1 0 = .ok (.aload_n 0, 1) := by decide +kernel
theorem d_SG_widthOf_1 : decode M_SG_widthOf.2.1 1 = .ok (.getfield 25, 3) := by decide +kernel
theorem d_SG_widthOf_4 : decode M_SG_widthOf.2.1 4 = .ok (.iload_n 1, 1) := by decide +kernel
theorem d_SG_widthOf_5 : decode M_SG_widthOf.2.1 5 = .ok (.iaload, 1) := by decide +kernel
theorem d_SG_widthOf_6 : decode M_SG_widthOf.2.1 6 = .ok (.ifCond .ne 5, 3) := by decide +kernel
theorem d_SG_widthOf_9 : decode M_SG_widthOf.2.1 9 = .ok (.iconst 0, 1) := by decide +kernel
theorem d_SG_widthOf_10 : decode M_SG_widthOf.2.1 10 = .ok (.ireturn, 1) := by decide +kernel
theorem d_SG_widthOf_11 : decode M_SG_widthOf.2.1 11 = .ok (.getstatic 88, 3) := by decide +kernel
theorem d_SG_widthOf_14 : decode M_SG_widthOf.2.1 14 = .ok (.aload_n 0, 1) := by decide +kernel
theorem d_SG_widthOf_15 : decode M_SG_widthOf.2.1 15 = .ok (.getfield 31, 3) := by decide +kernel
theorem d_SG_widthOf_18 : decode M_SG_widthOf.2.1 18 = .ok (.getfield 91, 3) := by decide +kernel
theorem d_SG_widthOf_21 : decode M_SG_widthOf.2.1 21 = .ok (.iload_n 1, 1) := by decide +kernel
theorem d_SG_widthOf_22 : decode M_SG_widthOf.2.1 22 = .ok (.iaload, 1) := by decide +kernel
theorem d_SG_widthOf_23 : decode M_SG_widthOf.2.1 23 = .ok (.iconst 4, 1) := by decide +kernel
theorem d_SG_widthOf_24 : decode M_SG_widthOf.2.1 24 = .ok (.iadd, 1) := by decide +kernel
theorem d_SG_widthOf_25 : decode M_SG_widthOf.2.1 25 = .ok (.iaload, 1) := by decide +kernel
theorem d_SG_widthOf_26 : decode M_SG_widthOf.2.1 26 = .ok (.istore_n 2, 1) := by decide +kernel
theorem d_SG_widthOf_27 : decode M_SG_widthOf.2.1 27 = .ok (.aload_n 0, 1) := by decide +kernel
theorem d_SG_widthOf_28 : decode M_SG_widthOf.2.1 28 = .ok (.getfield 25, 3) := by decide +kernel
theorem d_SG_widthOf_31 : decode M_SG_widthOf.2.1 31 = .ok (.iload_n 1, 1) := by decide +kernel
theorem d_SG_widthOf_32 : decode M_SG_widthOf.2.1 32 = .ok (.iaload, 1) := by decide +kernel
theorem d_SG_widthOf_33 : decode M_SG_widthOf.2.1 33 = .ok (.iconst 2, 1) := by decide +kernel
theorem d_SG_widthOf_34 : decode M_SG_widthOf.2.1 34 = .ok (.if_icmp .ne 6, 3) := by decide +kernel
theorem d_SG_widthOf_37 : decode M_SG_widthOf.2.1 37 = .ok (.iinc 2 8, 3) := by decide +kernel
theorem d_SG_widthOf_40 : decode M_SG_widthOf.2.1 40 = .ok (.aload_n 0, 1) := by decide +kernel
theorem d_SG_widthOf_41 : decode M_SG_widthOf.2.1 41 = .ok (.getfield 28, 3) := by decide +kernel
theorem d_SG_widthOf_44 : decode M_SG_widthOf.2.1 44 = .ok (.iload_n 1, 1) := by decide +kernel
theorem d_SG_widthOf_45 : decode M_SG_widthOf.2.1 45 = .ok (.iaload, 1) := by decide +kernel
theorem d_SG_widthOf_46 : decode M_SG_widthOf.2.1 46 = .ok (.iconst 1, 1) := by decide +kernel
theorem d_SG_widthOf_47 : decode M_SG_widthOf.2.1 47 = .ok (.if_icmp .ne 6, 3) := by decide +kernel
theorem d_SG_widthOf_50 : decode M_SG_widthOf.2.1 50 = .ok (.iinc 2 7, 3) := by decide +kernel
theorem d_SG_widthOf_53 : decode M_SG_widthOf.2.1 53 = .ok (.aload_n 0, 1) := by decide +kernel
theorem d_SG_widthOf_54 : decode M_SG_widthOf.2.1 54 = .ok (.getfield 31, 3) := by decide +kernel
theorem d_SG_widthOf_57 : decode M_SG_widthOf.2.1 57 = .ok (.iload_n 1, 1) := by decide +kernel
theorem d_SG_widthOf_58 : decode M_SG_widthOf.2.1 58 = .ok (.iconst 1, 1) := by decide +kernel
theorem d_SG_widthOf_59 : decode M_SG_widthOf.2.1 59 = .ok (.invokevirtual 94, 3) := by decide +kernel
theorem d_SG_widthOf_62 : decode M_SG_widthOf.2.1 62 = .ok (.iconst 1, 1) := by decide +kernel
theorem d_SG_widthOf_63 : decode M_SG_widthOf.2.1 63 = .ok (.if_icmp .ne 13, 3) := by decide +kernel
theorem d_SG_widthOf_66 : decode M_SG_widthOf.2.1 66 = .ok (.iconst 2, 1) := by decide +kernel
theorem d_SG_widthOf_67 : decode M_SG_widthOf.2.1 67 = .ok (.iload_n 2, 1) := by decide +kernel
theorem d_SG_widthOf_68 : decode M_SG_widthOf.2.1 68 = .ok (.imul, 1) := by decide +kernel
theorem d_SG_widthOf_69 : decode M_SG_widthOf.2.1 69 = .ok (.iconst 2, 1) := by decide +kernel
theorem d_SG_widthOf_70 : decode M_SG_widthOf.2.1 70 = .ok (.iadd, 1) := by decide +kernel
theorem d_SG_widthOf_71 : decode M_SG_widthOf.2.1 71 = .ok (.iconst 3, 1) := by decide +kernel
theorem d_SG_widthOf_72 : decode M_SG_widthOf.2.1 72 = .ok (.idiv, 1) := by decide +kernel
theorem d_SG_widthOf_73 : decode M_SG_widthOf.2.1 73 = .ok (.goto 4, 3) := by decide +kernel
theorem d_SG_widthOf_76 : decode M_SG_widthOf.2.1 76 = .ok (.iload_n 2, 1) := by decide +kernel
theorem d_SG_widthOf_77 : decode M_SG_widthOf.2.1 77 = .ok (.ireturn, 1) := by decide +kernel
theorem d_SG_seatFor_0 : decode M_SG_seatFor.2.1 0 = .ok (.aload_n 0, 1) := by decide +kernel
theorem d_SG_seatFor_1 : decode M_SG_seatFor.2.1 1 = .ok (.getfield 39, 3) := by decide +kernel
theorem d_SG_seatFor_4 : decode M_SG_seatFor.2.1 4 = .ok (.iconst 0, 1) := by decide +kernel
theorem d_SG_seatFor_5 : decode M_SG_seatFor.2.1 5 = .ok (.iaload, 1) := by decide +kernel
theorem d_SG_seatFor_6 : decode M_SG_seatFor.2.1 6 = .ok (.ifCond .ne 7, 3) := by decide +kernel
theorem d_SG_seatFor_9 : decode M_SG_seatFor.2.1 9 = .ok (.iload_n 1, 1) := by decide +kernel
theorem d_SG_seatFor_10 : decode M_SG_seatFor.2.1 10 = .ok (.goto 7, 3) := by decide +kernel
theorem d_SG_seatFor_13 : decode M_SG_seatFor.2.1 13 = .ok (.iload_n 1, 1) := by decide +kernel
theorem d_SG_seatFor_14 : decode M_SG_seatFor.2.1 14 = .ok (.bipush 7, 2) := by decide +kernel
theorem d_SG_seatFor_16 : decode M_SG_seatFor.2.1 16 = .ok (.irem, 1) := by decide +kernel
theorem d_SG_seatFor_17 : decode M_SG_seatFor.2.1 17 = .ok (.istore_n 3, 1) := by decide +kernel
theorem d_SG_seatFor_18 : decode M_SG_seatFor.2.1 18 = .ok (.iload_n 3, 1) := by decide +kernel
theorem d_SG_seatFor_19 : decode M_SG_seatFor.2.1 19 = .ok (.iconst 4, 1) := by decide +kernel
theorem d_SG_seatFor_20 : decode M_SG_seatFor.2.1 20 = .ok (.imul, 1) := by decide +kernel
theorem d_SG_seatFor_21 : decode M_SG_seatFor.2.1 21 = .ok (.aload_n 0, 1) := by decide +kernel
theorem d_SG_seatFor_22 : decode M_SG_seatFor.2.1 22 = .ok (.getfield 39, 3) := by decide +kernel
theorem d_SG_seatFor_25 : decode M_SG_seatFor.2.1 25 = .ok (.iconst 1, 1) := by decide +kernel
theorem d_SG_seatFor_26 : decode M_SG_seatFor.2.1 26 = .ok (.iaload, 1) := by decide +kernel
theorem d_SG_seatFor_27 : decode M_SG_seatFor.2.1 27 = .ok (.ifCond .ne 7, 3) := by decide +kernel
theorem d_SG_seatFor_30 : decode M_SG_seatFor.2.1 30 = .ok (.iconst 0, 1) := by decide +kernel
theorem d_SG_seatFor_31 : decode M_SG_seatFor.2.1 31 = .ok (.goto 4, 3) := by decide +kernel
theorem d_SG_seatFor_34 : decode M_SG_seatFor.2.1 34 = .ok (.iload_n 2, 1) := by decide +kernel
theorem d_SG_seatFor_35 : decode M_SG_seatFor.2.1 35 = .ok (.iadd, 1) := by decide +kernel
theorem d_SG_seatFor_36 : decode M_SG_seatFor.2.1 36 = .ok (.ireturn, 1) := by decide +kernel
theorem d_SG_decideChord_0 : decode M_SG_decideChord.2.1 0 = .ok (.aload_n 0, 1) := by decide +kernel
theorem d_SG_decideChord_1 : decode M_SG_decideChord.2.1 1 = .ok (.getfield 73, 3) := by decide +kernel
theorem d_SG_decideChord_4 : decode M_SG_decideChord.2.1 4 = .ok (.istore_n 1, 1) := by decide +kernel
theorem d_SG_decideChord_5 : decode M_SG_decideChord.2.1 5 = .ok (.iload_n 1, 1) := by decide +kernel
theorem d_SG_decideChord_6 : decode M_SG_decideChord.2.1 6 = .ok (.aload_n 0, 1) := by decide +kernel
theorem d_SG_decideChord_7 : decode M_SG_decideChord.2.1 7 = .ok (.getfield 79, 3) := by decide +kernel
theorem d_SG_decideChord_10 : decode M_SG_decideChord.2.1 10 = .ok (.if_icmp .ge 136, 3) := by decide +kernel
theorem d_SG_decideChord_13 : decode M_SG_decideChord.2.1 13 = .ok (.aload_n 0, 1) := by decide +kernel
theorem d_SG_decideChord_14 : decode M_SG_decideChord.2.1 14 = .ok (.getfield 31, 3) := by decide +kernel
theorem d_SG_decideChord_17 : decode M_SG_decideChord.2.1 17 = .ok (.getfield 97, 3) := by decide +kernel
theorem d_SG_decideChord_20 : decode M_SG_decideChord.2.1 20 = .ok (.iload_n 1, 1) := by decide +kernel
theorem d_SG_decideChord_21 : decode M_SG_decideChord.2.1 21 = .ok (.iaload, 1) := by decide +kernel
theorem d_SG_decideChord_22 : decode M_SG_decideChord.2.1 22 = .ok (.istore_n 2, 1) := by decide +kernel
theorem d_SG_decideChord_23 : decode M_SG_decideChord.2.1 23 = .ok (.aload_n 0, 1) := by decide +kernel
theorem d_SG_decideChord_24 : decode M_SG_decideChord.2.1 24 = .ok (.iload_n 2, 1) := by decide +kernel
theorem d_SG_decideChord_25 : decode M_SG_decideChord.2.1 25 = .ok (.invokevirtual 100, 3) := by decide +kernel
theorem d_SG_decideChord_28 : decode M_SG_decideChord.2.1 28 = .ok (.istore_n 3, 1) := by decide +kernel
theorem d_SG_decideChord_29 : decode M_SG_decideChord.2.1 29 = .ok (.aload_n 0, 1) := by decide +kernel
theorem d_SG_decideChord_30 : decode M_SG_decideChord.2.1 30 = .ok (.getfield 25, 3) := by decide +kernel
theorem d_SG_decideChord_33 : decode M_SG_decideChord.2.1 33 = .ok (.iload_n 2, 1) := by decide +kernel
theorem d_SG_decideChord_34 : decode M_SG_decideChord.2.1 34 = .ok (.iconst 0, 1) := by decide +kernel
theorem d_SG_decideChord_35 : decode M_SG_decideChord.2.1 35 = .ok (.iastore, 1) := by decide +kernel
theorem d_SG_decideChord_36 : decode M_SG_decideChord.2.1 36 = .ok (.aload_n 0, 1) := by decide +kernel
theorem d_SG_decideChord_37 : decode M_SG_decideChord.2.1 37 = .ok (.getfield 28, 3) := by decide +kernel
theorem d_SG_decideChord_40 : decode M_SG_decideChord.2.1 40 = .ok (.iload_n 2, 1) := by decide +kernel
theorem d_SG_decideChord_41 : decode M_SG_decideChord.2.1 41 = .ok (.iconst 0, 1) := by decide +kernel
theorem d_SG_decideChord_42 : decode M_SG_decideChord.2.1 42 = .ok (.iastore, 1) := by decide +kernel
theorem d_SG_decideChord_43 : decode M_SG_decideChord.2.1 43 = .ok (.aload_n 0, 1) := by decide +kernel
theorem d_SG_decideChord_44 : decode M_SG_decideChord.2.1 44 = .ok (.getfield 22, 3) := by decide +kernel
theorem d_SG_decideChord_47 : decode M_SG_decideChord.2.1 47 = .ok (.iload_n 2, 1) := by decide +kernel
theorem d_SG_decideChord_48 : decode M_SG_decideChord.2.1 48 = .ok (.iaload, 1) := by decide +kernel
theorem d_SG_decideChord_49 : decode M_SG_decideChord.2.1 49 = .ok (.iconst (-1), 1) := by decide +kernel
theorem d_SG_decideChord_50 : decode M_SG_decideChord.2.1 50 = .ok (.if_icmp .eq 6, 3) := by decide +kernel
theorem d_SG_decideChord_53 : decode M_SG_decideChord.2.1 53 = .ok (.goto 87, 3) := by decide +kernel
theorem d_SG_decideChord_56 : decode M_SG_decideChord.2.1 56 = .ok (.aload_n 0, 1) := by decide +kernel
theorem d_SG_decideChord_57 : decode M_SG_decideChord.2.1 57 = .ok (.iload_n 2, 1) := by decide +kernel
theorem d_SG_decideChord_58 : decode M_SG_decideChord.2.1 58 = .ok (.iload_n 3, 1) := by decide +kernel
theorem d_SG_decideChord_59 : decode M_SG_decideChord.2.1 59 = .ok (.invokevirtual 103, 3) := by decide +kernel
theorem d_SG_decideChord_62 : decode M_SG_decideChord.2.1 62 = .ok (.ifCond .eq 41, 3) := by decide +kernel
theorem d_SG_decideChord_65 : decode M_SG_decideChord.2.1 65 = .ok (.aload_n 0, 1) := by decide +kernel
theorem d_SG_decideChord_66 : decode M_SG_decideChord.2.1 66 = .ok (.getfield 25, 3) := by decide +kernel
theorem d_SG_decideChord_69 : decode M_SG_decideChord.2.1 69 = .ok (.iload_n 2, 1) := by decide +kernel
theorem d_SG_decideChord_70 : decode M_SG_decideChord.2.1 70 = .ok (.iconst 1, 1) := by decide +kernel
theorem d_SG_decideChord_71 : decode M_SG_decideChord.2.1 71 = .ok (.iastore, 1) := by decide +kernel
theorem d_SG_decideChord_72 : decode M_SG_decideChord.2.1 72 = .ok (.aload_n 0, 1) := by decide +kernel
theorem d_SG_decideChord_73 : decode M_SG_decideChord.2.1 73 = .ok (.getfield 28, 3) := by decide +kernel
theorem d_SG_decideChord_76 : decode M_SG_decideChord.2.1 76 = .ok (.iload_n 2, 1) := by decide +kernel
theorem d_SG_decideChord_77 : decode M_SG_decideChord.2.1 77 = .ok (.aload_n 0, 1) := by decide +kernel
theorem d_SG_decideChord_78 : decode M_SG_decideChord.2.1 78 = .ok (.aload_n 0, 1) := by decide +kernel
theorem d_SG_decideChord_79 : decode M_SG_decideChord.2.1 79 = .ok (.getfield 31, 3) := by decide +kernel
theorem d_SG_decideChord_82 : decode M_SG_decideChord.2.1 82 = .ok (.getfield 91, 3) := by decide +kernel
theorem d_SG_decideChord_85 : decode M_SG_decideChord.2.1 85 = .ok (.iload_n 2, 1) := by decide +kernel
theorem d_SG_decideChord_86 : decode M_SG_decideChord.2.1 86 = .ok (.iaload, 1) := by decide +kernel
theorem d_SG_decideChord_87 : decode M_SG_decideChord.2.1 87 = .ok (.iload_n 3, 1) := by decide +kernel
theorem d_SG_decideChord_88 : decode M_SG_decideChord.2.1 88 = .ok (.invokevirtual 107, 3) := by decide +kernel
theorem d_SG_decideChord_91 : decode M_SG_decideChord.2.1 91 = .ok (.ifCond .eq 7, 3) := by decide +kernel
theorem d_SG_decideChord_94 : decode M_SG_decideChord.2.1 94 = .ok (.iconst 1, 1) := by decide +kernel
theorem d_SG_decideChord_95 : decode M_SG_decideChord.2.1 95 = .ok (.goto 4, 3) := by decide +kernel
theorem d_SG_decideChord_98 : decode M_SG_decideChord.2.1 98 = .ok (.iconst 0, 1) := by decide +kernel
theorem d_SG_decideChord_99 : decode M_SG_decideChord.2.1 99 = .ok (.iastore, 1) := by decide +kernel
theorem d_SG_decideChord_100 : decode M_SG_decideChord.2.1 100 = .ok (.goto 40, 3) := by decide +kernel
theorem d_SG_decideChord_103 : decode M_SG_decideChord.2.1 103 = .ok (.aload_n 0, 1) := by decide +kernel
theorem d_SG_decideChord_104 : decode M_SG_decideChord.2.1 104 = .ok (.iload_n 2, 1) := by decide +kernel
theorem d_SG_decideChord_105 : decode M_SG_decideChord.2.1 105 = .ok (.invokevirtual 110, 3) := by decide +kernel
theorem d_SG_decideChord_108 : decode M_SG_decideChord.2.1 108 = .ok (.ifCond .eq 32, 3) := by decide +kernel
theorem d_SG_decideChord_111 : decode M_SG_decideChord.2.1 111 = .ok (.aload_n 0, 1) := by decide +kernel
theorem d_SG_decideChord_112 : decode M_SG_decideChord.2.1 112 = .ok (.getfield 25, 3) := by decide +kernel
theorem d_SG_decideChord_115 : decode M_SG_decideChord.2.1 115 = .ok (.iload_n 2, 1) := by decide +kernel
theorem d_SG_decideChord_116 : decode M_SG_decideChord.2.1 116 = .ok (.iconst 2, 1) := by decide +kernel
theorem d_SG_decideChord_117 : decode M_SG_decideChord.2.1 117 = .ok (.iastore, 1) := by decide +kernel
theorem d_SG_decideChord_118 : decode M_SG_decideChord.2.1 118 = .ok (.aload_n 0, 1) := by decide +kernel
theorem d_SG_decideChord_119 : decode M_SG_decideChord.2.1 119 = .ok (.getfield 12, 3) := by decide +kernel
theorem d_SG_decideChord_122 : decode M_SG_decideChord.2.1 122 = .ok (.aload_n 0, 1) := by decide +kernel
theorem d_SG_decideChord_123 : decode M_SG_decideChord.2.1 123 = .ok (.getfield 18, 3) := by decide +kernel
theorem d_SG_decideChord_126 : decode M_SG_decideChord.2.1 126 = .ok (.iload_n 2, 1) := by decide +kernel
theorem d_SG_decideChord_127 : decode M_SG_decideChord.2.1 127 = .ok (.iaload, 1) := by decide +kernel
theorem d_SG_decideChord_128 : decode M_SG_decideChord.2.1 128 = .ok (.aload_n 0, 1) := by decide +kernel
theorem d_SG_decideChord_129 : decode M_SG_decideChord.2.1 129 = .ok (.getfield 31, 3) := by decide +kernel
theorem d_SG_decideChord_132 : decode M_SG_decideChord.2.1 132 = .ok (.getfield 113, 3) := by decide +kernel
theorem d_SG_decideChord_135 : decode M_SG_decideChord.2.1 135 = .ok (.iload_n 2, 1) := by decide +kernel
theorem d_SG_decideChord_136 : decode M_SG_decideChord.2.1 136 = .ok (.iaload, 1) := by decide +kernel
theorem d_SG_decideChord_137 : decode M_SG_decideChord.2.1 137 = .ok (.invokevirtual 116, 3) := by decide +kernel
theorem d_SG_decideChord_140 : decode M_SG_decideChord.2.1 140 = .ok (.iinc 1 1, 3) := by decide +kernel
theorem d_SG_decideChord_143 : decode M_SG_decideChord.2.1 143 = .ok (.goto (-138), 3) := by decide +kernel
theorem d_SG_decideChord_146 : decode M_SG_decideChord.2.1 146 = .ok (.return_, 1) := by decide +kernel
theorem d_SG_changeStates_0 : decode M_SG_changeStates.2.1 0 = .ok (.aload_n 0, 1) := by decide +kernel
theorem d_SG_changeStates_1 : decode M_SG_changeStates.2.1 1 = .ok (.getfield 73, 3) := by decide +kernel
theorem d_SG_changeStates_4 : decode M_SG_changeStates.2.1 4 = .ok (.istore_n 1, 1) := by decide +kernel
theorem d_SG_changeStates_5 : decode M_SG_changeStates.2.1 5 = .ok (.iload_n 1, 1) := by decide +kernel
theorem d_SG_changeStates_6 : decode M_SG_changeStates.2.1 6 = .ok (.aload_n 0, 1) := by decide +kernel
theorem d_SG_changeStates_7 : decode M_SG_changeStates.2.1 7 = .ok (.getfield 79, 3) := by decide +kernel
theorem d_SG_changeStates_10 : decode M_SG_changeStates.2.1 10 = .ok (.if_icmp .ge 115, 3) := by decide +kernel
theorem d_SG_changeStates_13 : decode M_SG_changeStates.2.1 13 = .ok (.aload_n 0, 1) := by decide +kernel
theorem d_SG_changeStates_14 : decode M_SG_changeStates.2.1 14 = .ok (.getfield 31, 3) := by decide +kernel
theorem d_SG_changeStates_17 : decode M_SG_changeStates.2.1 17 = .ok (.getfield 97, 3) := by decide +kernel
theorem d_SG_changeStates_20 : decode M_SG_changeStates.2.1 20 = .ok (.iload_n 1, 1) := by decide +kernel
theorem d_SG_changeStates_21 : decode M_SG_changeStates.2.1 21 = .ok (.iaload, 1) := by decide +kernel
theorem d_SG_changeStates_22 : decode M_SG_changeStates.2.1 22 = .ok (.istore_n 2, 1) := by decide +kernel
theorem d_SG_changeStates_23 : decode M_SG_changeStates.2.1 23 = .ok (.aload_n 0, 1) := by decide +kernel
theorem d_SG_changeStates_24 : decode M_SG_changeStates.2.1 24 = .ok (.getfield 31, 3) := by decide +kernel
theorem d_SG_changeStates_27 : decode M_SG_changeStates.2.1 27 = .ok (.getfield 113, 3) := by decide +kernel
theorem d_SG_changeStates_30 : decode M_SG_changeStates.2.1 30 = .ok (.iload_n 2, 1) := by decide +kernel
theorem d_SG_changeStates_31 : decode M_SG_changeStates.2.1 31 = .ok (.iaload, 1) := by decide +kernel
theorem d_SG_changeStates_32 : decode M_SG_changeStates.2.1 32 = .ok (.istore_n 3, 1) := by decide +kernel
theorem d_SG_changeStates_33 : decode M_SG_changeStates.2.1 33 = .ok (.aload_n 0, 1) := by decide +kernel
theorem d_SG_changeStates_34 : decode M_SG_changeStates.2.1 34 = .ok (.getfield 12, 3) := by decide +kernel
theorem d_SG_changeStates_37 : decode M_SG_changeStates.2.1 37 = .ok (.aload_n 0, 1) := by decide +kernel
theorem d_SG_changeStates_38 : decode M_SG_changeStates.2.1 38 = .ok (.getfield 18, 3) := by decide +kernel
theorem d_SG_changeStates_41 : decode M_SG_changeStates.2.1 41 = .ok (.iload_n 2, 1) := by decide +kernel
theorem d_SG_changeStates_42 : decode M_SG_changeStates.2.1 42 = .ok (.iaload, 1) := by decide +kernel
theorem d_SG_changeStates_43 : decode M_SG_changeStates.2.1 43 = .ok (.iload_n 3, 1) := by decide +kernel
theorem d_SG_changeStates_44 : decode M_SG_changeStates.2.1 44 = .ok (.aload_n 0, 1) := by decide +kernel
theorem d_SG_changeStates_45 : decode M_SG_changeStates.2.1 45 = .ok (.iload_n 3, 1) := by decide +kernel
theorem d_SG_changeStates_46 : decode M_SG_changeStates.2.1 46 = .ok (.aload_n 0, 1) := by decide +kernel
theorem d_SG_changeStates_47 : decode M_SG_changeStates.2.1 47 = .ok (.getfield 31, 3) := by decide +kernel
theorem d_SG_changeStates_50 : decode M_SG_changeStates.2.1 50 = .ok (.getfield 55, 3) := by decide +kernel
theorem d_SG_changeStates_53 : decode M_SG_changeStates.2.1 53 = .ok (.iload_n 2, 1) := by decide +kernel
theorem d_SG_changeStates_54 : decode M_SG_changeStates.2.1 54 = .ok (.iaload, 1) := by decide +kernel
theorem d_SG_changeStates_55 : decode M_SG_changeStates.2.1 55 = .ok (.invokevirtual 120, 3) := by decide +kernel
theorem d_SG_changeStates_58 : decode M_SG_changeStates.2.1 58 = .ok (.invokevirtual 123, 3) := by decide +kernel
theorem d_SG_changeStates_61 : decode M_SG_changeStates.2.1 61 = .ok (.aload_n 0, 1) := by decide +kernel
theorem d_SG_changeStates_62 : decode M_SG_changeStates.2.1 62 = .ok (.iload_n 2, 1) := by decide +kernel
theorem d_SG_changeStates_63 : decode M_SG_changeStates.2.1 63 = .ok (.invokevirtual 127, 3) := by decide +kernel
theorem d_SG_changeStates_66 : decode M_SG_changeStates.2.1 66 = .ok (.ifCond .eq 21, 3) := by decide +kernel
theorem d_SG_changeStates_69 : decode M_SG_changeStates.2.1 69 = .ok (.aload_n 0, 1) := by decide +kernel
theorem d_SG_changeStates_70 : decode M_SG_changeStates.2.1 70 = .ok (.getfield 12, 3) := by decide +kernel
theorem d_SG_changeStates_73 : decode M_SG_changeStates.2.1 73 = .ok (.aload_n 0, 1) := by decide +kernel
theorem d_SG_changeStates_74 : decode M_SG_changeStates.2.1 74 = .ok (.getfield 18, 3) := by decide +kernel
theorem d_SG_changeStates_77 : decode M_SG_changeStates.2.1 77 = .ok (.iload_n 2, 1) := by decide +kernel
theorem d_SG_changeStates_78 : decode M_SG_changeStates.2.1 78 = .ok (.iaload, 1) := by decide +kernel
theorem d_SG_changeStates_79 : decode M_SG_changeStates.2.1 79 = .ok (.bipush 99, 2) := by decide +kernel
theorem d_SG_changeStates_81 : decode M_SG_changeStates.2.1 81 = .ok (.invokevirtual 130, 3) := by decide +kernel
theorem d_SG_changeStates_84 : decode M_SG_changeStates.2.1 84 = .ok (.goto 35, 3) := by decide +kernel
theorem d_SG_changeStates_87 : decode M_SG_changeStates.2.1 87 = .ok (.aload_n 0, 1) := by decide +kernel
theorem d_SG_changeStates_88 : decode M_SG_changeStates.2.1 88 = .ok (.getfield 22, 3) := by decide +kernel
theorem d_SG_changeStates_91 : decode M_SG_changeStates.2.1 91 = .ok (.iload_n 2, 1) := by decide +kernel
theorem d_SG_changeStates_92 : decode M_SG_changeStates.2.1 92 = .ok (.iaload, 1) := by decide +kernel
theorem d_SG_changeStates_93 : decode M_SG_changeStates.2.1 93 = .ok (.iconst (-1), 1) := by decide +kernel
theorem d_SG_changeStates_94 : decode M_SG_changeStates.2.1 94 = .ok (.if_icmp .ne 25, 3) := by decide +kernel
theorem d_SG_changeStates_97 : decode M_SG_changeStates.2.1 97 = .ok (.aload_n 0, 1) := by decide +kernel
theorem d_SG_changeStates_98 : decode M_SG_changeStates.2.1 98 = .ok (.getfield 12, 3) := by decide +kernel
theorem d_SG_changeStates_101 : decode M_SG_changeStates.2.1 101 = .ok (.aload_n 0, 1) := by decide +kernel
theorem d_SG_changeStates_102 : decode M_SG_changeStates.2.1 102 = .ok (.getfield 18, 3) := by decide +kernel
theorem d_SG_changeStates_105 : decode M_SG_changeStates.2.1 105 = .ok (.iload_n 2, 1) := by decide +kernel
theorem d_SG_changeStates_106 : decode M_SG_changeStates.2.1 106 = .ok (.iaload, 1) := by decide +kernel
theorem d_SG_changeStates_107 : decode M_SG_changeStates.2.1 107 = .ok (.aload_n 0, 1) := by decide +kernel
theorem d_SG_changeStates_108 : decode M_SG_changeStates.2.1 108 = .ok (.getfield 31, 3) := by decide +kernel
theorem d_SG_changeStates_111 : decode M_SG_changeStates.2.1 111 = .ok (.getfield 91, 3) := by decide +kernel
theorem d_SG_changeStates_114 : decode M_SG_changeStates.2.1 114 = .ok (.iload_n 2, 1) := by decide +kernel
theorem d_SG_changeStates_115 : decode M_SG_changeStates.2.1 115 = .ok (.iaload, 1) := by decide +kernel
theorem d_SG_changeStates_116 : decode M_SG_changeStates.2.1 116 = .ok (.invokevirtual 130, 3) := by decide +kernel
theorem d_SG_changeStates_119 : decode M_SG_changeStates.2.1 119 = .ok (.iinc 1 1, 3) := by decide +kernel
theorem d_SG_changeStates_122 : decode M_SG_changeStates.2.1 122 = .ok (.goto (-117), 3) := by decide +kernel
theorem d_SG_changeStates_125 : decode M_SG_changeStates.2.1 125 = .ok (.return_, 1) := by decide +kernel
theorem d_SG_stateAhead_0 : decode M_SG_stateAhead.2.1 0 = .ok (.aload_n 0, 1) := by decide +kernel
theorem d_SG_stateAhead_1 : decode M_SG_stateAhead.2.1 1 = .ok (.getfield 31, 3) := by decide +kernel
theorem d_SG_stateAhead_4 : decode M_SG_stateAhead.2.1 4 = .ok (.getfield 113, 3) := by decide +kernel
theorem d_SG_stateAhead_7 : decode M_SG_stateAhead.2.1 7 = .ok (.iload_n 1, 1) := by decide +kernel
theorem d_SG_stateAhead_8 : decode M_SG_stateAhead.2.1 8 = .ok (.iaload, 1) := by decide +kernel
theorem d_SG_stateAhead_9 : decode M_SG_stateAhead.2.1 9 = .ok (.istore_n 2, 1) := by decide +kernel
theorem d_SG_stateAhead_10 : decode M_SG_stateAhead.2.1 10 = .ok (.aload_n 0, 1) := by decide +kernel
theorem d_SG_stateAhead_11 : decode M_SG_stateAhead.2.1 11 = .ok (.getfield 12, 3) := by decide +kernel
theorem d_SG_stateAhead_14 : decode M_SG_stateAhead.2.1 14 = .ok (.aload_n 0, 1) := by decide +kernel
theorem d_SG_stateAhead_15 : decode M_SG_stateAhead.2.1 15 = .ok (.getfield 18, 3) := by decide +kernel
theorem d_SG_stateAhead_18 : decode M_SG_stateAhead.2.1 18 = .ok (.iload_n 1, 1) := by decide +kernel
theorem d_SG_stateAhead_19 : decode M_SG_stateAhead.2.1 19 = .ok (.iaload, 1) := by decide +kernel
theorem d_SG_stateAhead_20 : decode M_SG_stateAhead.2.1 20 = .ok (.iload_n 2, 1) := by decide +kernel
theorem d_SG_stateAhead_21 : decode M_SG_stateAhead.2.1 21 = .ok (.aload_n 0, 1) := by decide +kernel
theorem d_SG_stateAhead_22 : decode M_SG_stateAhead.2.1 22 = .ok (.iload_n 2, 1) := by decide +kernel
theorem d_SG_stateAhead_23 : decode M_SG_stateAhead.2.1 23 = .ok (.aload_n 0, 1) := by decide +kernel
theorem d_SG_stateAhead_24 : decode M_SG_stateAhead.2.1 24 = .ok (.getfield 31, 3) := by decide +kernel
theorem d_SG_stateAhead_27 : decode M_SG_stateAhead.2.1 27 = .ok (.getfield 55, 3) := by decide +kernel
theorem d_SG_stateAhead_30 : decode M_SG_stateAhead.2.1 30 = .ok (.iload_n 1, 1) := by decide +kernel
theorem d_SG_stateAhead_31 : decode M_SG_stateAhead.2.1 31 = .ok (.iaload, 1) := by decide +kernel
theorem d_SG_stateAhead_32 : decode M_SG_stateAhead.2.1 32 = .ok (.invokevirtual 120, 3) := by decide +kernel
theorem d_SG_stateAhead_35 : decode M_SG_stateAhead.2.1 35 = .ok (.invokevirtual 133, 3) := by decide +kernel
theorem d_SG_stateAhead_38 : decode M_SG_stateAhead.2.1 38 = .ok (.ireturn, 1) := by decide +kernel
theorem d_SG_alterByKey_0 : decode M_SG_alterByKey.2.1 0 = .ok (.aload_n 0, 1) := by decide +kernel
theorem d_SG_alterByKey_1 : decode M_SG_alterByKey.2.1 1 = .ok (.getfield 35, 3) := by decide +kernel
theorem d_SG_alterByKey_4 : decode M_SG_alterByKey.2.1 4 = .ok (.iload_n 1, 1) := by decide +kernel
theorem d_SG_alterByKey_5 : decode M_SG_alterByKey.2.1 5 = .ok (.invokevirtual 137, 3) := by decide +kernel
theorem d_SG_alterByKey_8 : decode M_SG_alterByKey.2.1 8 = .ok (.iload_n 2, 1) := by decide +kernel
theorem d_SG_alterByKey_9 : decode M_SG_alterByKey.2.1 9 = .ok (.bipush 7, 2) := by decide +kernel
theorem d_SG_alterByKey_11 : decode M_SG_alterByKey.2.1 11 = .ok (.irem, 1) := by decide +kernel
theorem d_SG_alterByKey_12 : decode M_SG_alterByKey.2.1 12 = .ok (.invokestatic 142, 3) := by decide +kernel
theorem d_SG_alterByKey_15 : decode M_SG_alterByKey.2.1 15 = .ok (.ireturn, 1) := by decide +kernel
theorem d_SG_needsSign_0 : decode M_SG_needsSign.2.1 0 = .ok (.aload_n 0, 1) := by decide +kernel
theorem d_SG_needsSign_1 : decode M_SG_needsSign.2.1 1 = .ok (.iload_n 1, 1) := by decide +kernel
theorem d_SG_needsSign_2 : decode M_SG_needsSign.2.1 2 = .ok (.invokevirtual 127, 3) := by decide +kernel
theorem d_SG_needsSign_5 : decode M_SG_needsSign.2.1 5 = .ok (.ifCond .eq 10, 3) := by decide +kernel
theorem d_SG_needsSign_8 : decode M_SG_needsSign.2.1 8 = .ok (.aload_n 0, 1) := by decide +kernel
theorem d_SG_needsSign_9 : decode M_SG_needsSign.2.1 9 = .ok (.iload_n 1, 1) := by decide +kernel
theorem d_SG_needsSign_10 : decode M_SG_needsSign.2.1 10 = .ok (.iconst 1, 1) := by decide +kernel
theorem d_SG_needsSign_11 : decode M_SG_needsSign.2.1 11 = .ok (.invokevirtual 147, 3) := by decide +kernel
theorem d_SG_needsSign_14 : decode M_SG_needsSign.2.1 14 = .ok (.ireturn, 1) := by decide +kernel
theorem d_SG_needsSign_15 : decode M_SG_needsSign.2.1 15 = .ok (.iload_n 2, 1) := by decide +kernel
theorem d_SG_needsSign_16 : decode M_SG_needsSign.2.1 16 = .ok (.aload_n 0, 1) := by decide +kernel
theorem d_SG_needsSign_17 : decode M_SG_needsSign.2.1 17 = .ok (.getfield 31, 3) := by decide +kernel
theorem d_SG_needsSign_20 : decode M_SG_needsSign.2.1 20 = .ok (.getfield 91, 3) := by decide +kernel
theorem d_SG_needsSign_23 : decode M_SG_needsSign.2.1 23 = .ok (.iload_n 1, 1) := by decide +kernel
theorem d_SG_needsSign_24 : decode M_SG_needsSign.2.1 24 = .ok (.iaload, 1) := by decide +kernel
theorem d_SG_needsSign_25 : decode M_SG_needsSign.2.1 25 = .ok (.if_icmp .eq 16, 3) := by decide +kernel
theorem d_SG_needsSign_28 : decode M_SG_needsSign.2.1 28 = .ok (.aload_n 0, 1) := by decide +kernel
theorem d_SG_needsSign_29 : decode M_SG_needsSign.2.1 29 = .ok (.iload_n 1, 1) := by decide +kernel
theorem d_SG_needsSign_30 : decode M_SG_needsSign.2.1 30 = .ok (.iconst 0, 1) := by decide +kernel
theorem d_SG_needsSign_31 : decode M_SG_needsSign.2.1 31 = .ok (.invokevirtual 147, 3) := by decide +kernel
theorem d_SG_needsSign_34 : decode M_SG_needsSign.2.1 34 = .ok (.ifCond .eq 7, 3) := by decide +kernel
theorem d_SG_needsSign_37 : decode M_SG_needsSign.2.1 37 = .ok (.iconst 1, 1) := by decide +kernel
theorem d_SG_needsSign_38 : decode M_SG_needsSign.2.1 38 = .ok (.goto 4, 3) := by decide +kernel
theorem d_SG_needsSign_41 : decode M_SG_needsSign.2.1 41 = .ok (.iconst 0, 1) := by decide +kernel
theorem d_SG_needsSign_42 : decode M_SG_needsSign.2.1 42 = .ok (.ireturn, 1) := by decide +kernel
theorem d_SG_wantsNatural_0 : decode M_SG_wantsNatural.2.1 0 = .ok (.aload_n 0, 1) := by decide +kernel
theorem d_SG_wantsNatural_1 : decode M_SG_wantsNatural.2.1 1 = .ok (.getfield 39, 3) := by decide +kernel
theorem d_SG_wantsNatural_4 : decode M_SG_wantsNatural.2.1 4 = .ok (.iconst 3, 1) := by decide +kernel
theorem d_SG_wantsNatural_5 : decode M_SG_wantsNatural.2.1 5 = .ok (.iaload, 1) := by decide +kernel
theorem d_SG_wantsNatural_6 : decode M_SG_wantsNatural.2.1 6 = .ok (.iconst 1, 1) := by decide +kernel
theorem d_SG_wantsNatural_7 : decode M_SG_wantsNatural.2.1 7 = .ok (.if_icmp .ne 25, 3) := by decide +kernel
theorem d_SG_wantsNatural_10 : decode M_SG_wantsNatural.2.1 10 = .ok (.iload_n 1, 1) := by decide +kernel
theorem d_SG_wantsNatural_11 : decode M_SG_wantsNatural.2.1 11 = .ok (.iconst 2, 1) := by decide +kernel
theorem d_SG_wantsNatural_12 : decode M_SG_wantsNatural.2.1 12 = .ok (.if_icmp .eq 9, 3) := by decide +kernel
theorem d_SG_wantsNatural_15 : decode M_SG_wantsNatural.2.1 15 = .ok (.iload_n 1, 1) := by decide +kernel
theorem d_SG_wantsNatural_16 : decode M_SG_wantsNatural.2.1 16 = .ok (.bipush (-2), 2) := by decide +kernel
theorem d_SG_wantsNatural_18 : decode M_SG_wantsNatural.2.1 18 = .ok (.if_icmp .ne 14, 3) := by decide +kernel
theorem d_SG_wantsNatural_21 : decode M_SG_wantsNatural.2.1 21 = .ok (.iload_n 2, 1) := by decide +kernel
theorem d_SG_wantsNatural_22 : decode M_SG_wantsNatural.2.1 22 = .ok (.iconst 2, 1) := by decide +kernel
theorem d_SG_wantsNatural_23 : decode M_SG_wantsNatural.2.1 23 = .ok (.iload_n 1, 1) := by decide +kernel
theorem d_SG_wantsNatural_24 : decode M_SG_wantsNatural.2.1 24 = .ok (.imul, 1) := by decide +kernel
theorem d_SG_wantsNatural_25 : decode M_SG_wantsNatural.2.1 25 = .ok (.if_icmp .ne 7, 3) := by decide +kernel
theorem d_SG_wantsNatural_28 : decode M_SG_wantsNatural.2.1 28 = .ok (.iconst 1, 1) := by decide +kernel
theorem d_SG_wantsNatural_29 : decode M_SG_wantsNatural.2.1 29 = .ok (.goto 4, 3) := by decide +kernel
theorem d_SG_wantsNatural_32 : decode M_SG_wantsNatural.2.1 32 = .ok (.iconst 0, 1) := by decide +kernel
theorem d_SG_wantsNatural_33 : decode M_SG_wantsNatural.2.1 33 = .ok (.ireturn, 1) := by decide +kernel
theorem d_SG_hasUnlike_0 : decode M_SG_hasUnlike.2.1 0 = .ok (.aload_n 0, 1) := by decide +kernel
theorem d_SG_hasUnlike_1 : decode M_SG_hasUnlike.2.1 1 = .ok (.getfield 73, 3) := by decide +kernel
theorem d_SG_hasUnlike_4 : decode M_SG_hasUnlike.2.1 4 = .ok (.istore_n 2, 1) := by decide +kernel
theorem d_SG_hasUnlike_5 : decode M_SG_hasUnlike.2.1 5 = .ok (.iload_n 2, 1) := by decide +kernel
theorem d_SG_hasUnlike_6 : decode M_SG_hasUnlike.2.1 6 = .ok (.aload_n 0, 1) := by decide +kernel
theorem d_SG_hasUnlike_7 : decode M_SG_hasUnlike.2.1 7 = .ok (.getfield 79, 3) := by decide +kernel
theorem d_SG_hasUnlike_10 : decode M_SG_hasUnlike.2.1 10 = .ok (.if_icmp .ge 57, 3) := by decide +kernel
theorem d_SG_hasUnlike_13 : decode M_SG_hasUnlike.2.1 13 = .ok (.aload_n 0, 1) := by decide +kernel
theorem d_SG_hasUnlike_14 : decode M_SG_hasUnlike.2.1 14 = .ok (.getfield 31, 3) := by decide +kernel
theorem d_SG_hasUnlike_17 : decode M_SG_hasUnlike.2.1 17 = .ok (.getfield 97, 3) := by decide +kernel
theorem d_SG_hasUnlike_20 : decode M_SG_hasUnlike.2.1 20 = .ok (.iload_n 2, 1) := by decide +kernel
theorem d_SG_hasUnlike_21 : decode M_SG_hasUnlike.2.1 21 = .ok (.iaload, 1) := by decide +kernel
theorem d_SG_hasUnlike_22 : decode M_SG_hasUnlike.2.1 22 = .ok (.istore_n 3, 1) := by decide +kernel
theorem d_SG_hasUnlike_23 : decode M_SG_hasUnlike.2.1 23 = .ok (.aload_n 0, 1) := by decide +kernel
theorem d_SG_hasUnlike_24 : decode M_SG_hasUnlike.2.1 24 = .ok (.getfield 18, 3) := by decide +kernel
theorem d_SG_hasUnlike_27 : decode M_SG_hasUnlike.2.1 27 = .ok (.iload_n 3, 1) := by decide +kernel
theorem d_SG_hasUnlike_28 : decode M_SG_hasUnlike.2.1 28 = .ok (.iaload, 1) := by decide +kernel
theorem d_SG_hasUnlike_29 : decode M_SG_hasUnlike.2.1 29 = .ok (.aload_n 0, 1) := by decide +kernel
theorem d_SG_hasUnlike_30 : decode M_SG_hasUnlike.2.1 30 = .ok (.getfield 18, 3) := by decide +kernel
theorem d_SG_hasUnlike_33 : decode M_SG_hasUnlike.2.1 33 = .ok (.iload_n 1, 1) := by decide +kernel
theorem d_SG_hasUnlike_34 : decode M_SG_hasUnlike.2.1 34 = .ok (.iaload, 1) := by decide +kernel
theorem d_SG_hasUnlike_35 : decode M_SG_hasUnlike.2.1 35 = .ok (.if_icmp .ne 26, 3) := by decide +kernel
theorem d_SG_hasUnlike_38 : decode M_SG_hasUnlike.2.1 38 = .ok (.aload_n 0, 1) := by decide +kernel
theorem d_SG_hasUnlike_39 : decode M_SG_hasUnlike.2.1 39 = .ok (.getfield 31, 3) := by decide +kernel
theorem d_SG_hasUnlike_42 : decode M_SG_hasUnlike.2.1 42 = .ok (.getfield 91, 3) := by decide +kernel
theorem d_SG_hasUnlike_45 : decode M_SG_hasUnlike.2.1 45 = .ok (.iload_n 3, 1) := by decide +kernel
theorem d_SG_hasUnlike_46 : decode M_SG_hasUnlike.2.1 46 = .ok (.iaload, 1) := by decide +kernel
theorem d_SG_hasUnlike_47 : decode M_SG_hasUnlike.2.1 47 = .ok (.aload_n 0, 1) := by decide +kernel
theorem d_SG_hasUnlike_48 : decode M_SG_hasUnlike.2.1 48 = .ok (.getfield 31, 3) := by decide +kernel
theorem d_SG_hasUnlike_51 : decode M_SG_hasUnlike.2.1 51 = .ok (.getfield 91, 3) := by decide +kernel
theorem d_SG_hasUnlike_54 : decode M_SG_hasUnlike.2.1 54 = .ok (.iload_n 1, 1) := by decide +kernel
theorem d_SG_hasUnlike_55 : decode M_SG_hasUnlike.2.1 55 = .ok (.iaload, 1) := by decide +kernel
theorem d_SG_hasUnlike_56 : decode M_SG_hasUnlike.2.1 56 = .ok (.if_icmp .eq 5, 3) := by decide +kernel
theorem d_SG_hasUnlike_59 : decode M_SG_hasUnlike.2.1 59 = .ok (.iconst 1, 1) := by decide +kernel
theorem d_SG_hasUnlike_60 : decode M_SG_hasUnlike.2.1 60 = .ok (.ireturn, 1) := by decide +kernel
theorem d_SG_hasUnlike_61 : decode M_SG_hasUnlike.2.1 61 = .ok (.iinc 2 1, 3) := by decide +kernel
theorem d_SG_hasUnlike_64 : decode M_SG_hasUnlike.2.1 64 = .ok (.goto (-59), 3) := by decide +kernel
theorem d_SG_hasUnlike_67 : decode M_SG_hasUnlike.2.1 67 = .ok (.iconst 0, 1) := by decide +kernel
theorem d_SG_hasUnlike_68 : decode M_SG_hasUnlike.2.1 68 = .ok (.ireturn, 1) := by decide +kernel
theorem d_SG_isFirst_0 : decode M_SG_isFirst.2.1 0 = .ok (.aload_n 0, 1) := by decide +kernel
theorem d_SG_isFirst_1 : decode M_SG_isFirst.2.1 1 = .ok (.getfield 73, 3) := by decide +kernel
theorem d_SG_isFirst_4 : decode M_SG_isFirst.2.1 4 = .ok (.istore_n 3, 1) := by decide +kernel
theorem d_SG_isFirst_5 : decode M_SG_isFirst.2.1 5 = .ok (.iload_n 3, 1) := by decide +kernel
theorem d_SG_isFirst_6 : decode M_SG_isFirst.2.1 6 = .ok (.aload_n 0, 1) := by decide +kernel
theorem d_SG_isFirst_7 : decode M_SG_isFirst.2.1 7 = .ok (.getfield 79, 3) := by decide +kernel
theorem d_SG_isFirst_10 : decode M_SG_isFirst.2.1 10 = .ok (.if_icmp .ge 110, 3) := by decide +kernel
theorem d_SG_isFirst_13 : decode M_SG_isFirst.2.1 13 = .ok (.aload_n 0, 1) := by decide +kernel
theorem d_SG_isFirst_14 : decode M_SG_isFirst.2.1 14 = .ok (.getfield 31, 3) := by decide +kernel
theorem d_SG_isFirst_17 : decode M_SG_isFirst.2.1 17 = .ok (.getfield 97, 3) := by decide +kernel
theorem d_SG_isFirst_20 : decode M_SG_isFirst.2.1 20 = .ok (.iload_n 3, 1) := by decide +kernel
theorem d_SG_isFirst_21 : decode M_SG_isFirst.2.1 21 = .ok (.iaload, 1) := by decide +kernel
theorem d_SG_isFirst_22 : decode M_SG_isFirst.2.1 22 = .ok (.iload_n 1, 1) := by decide +kernel
theorem d_SG_isFirst_23 : decode M_SG_isFirst.2.1 23 = .ok (.if_icmp .eq 97, 3) := by decide +kernel
theorem d_SG_isFirst_26 : decode M_SG_isFirst.2.1 26 = .ok (.aload_n 0, 1) := by decide +kernel
theorem d_SG_isFirst_27 : decode M_SG_isFirst.2.1 27 = .ok (.getfield 31, 3) := by decide +kernel
theorem d_SG_isFirst_30 : decode M_SG_isFirst.2.1 30 = .ok (.getfield 97, 3) := by decide +kernel
theorem d_SG_isFirst_33 : decode M_SG_isFirst.2.1 33 = .ok (.iload_n 3, 1) := by decide +kernel
theorem d_SG_isFirst_34 : decode M_SG_isFirst.2.1 34 = .ok (.iaload, 1) := by decide +kernel
theorem d_SG_isFirst_35 : decode M_SG_isFirst.2.1 35 = .ok (.istore 4, 2) := by decide +kernel
theorem d_SG_isFirst_37 : decode M_SG_isFirst.2.1 37 = .ok (.aload_n 0, 1) := by decide +kernel
theorem d_SG_isFirst_38 : decode M_SG_isFirst.2.1 38 = .ok (.getfield 22, 3) := by decide +kernel
theorem d_SG_isFirst_41 : decode M_SG_isFirst.2.1 41 = .ok (.iload 4, 2) := by decide +kernel
theorem d_SG_isFirst_43 : decode M_SG_isFirst.2.1 43 = .ok (.iaload, 1) := by decide +kernel
theorem d_SG_isFirst_44 : decode M_SG_isFirst.2.1 44 = .ok (.iconst (-1), 1) := by decide +kernel
theorem d_SG_isFirst_45 : decode M_SG_isFirst.2.1 45 = .ok (.if_icmp .ne 69, 3) := by decide +kernel
theorem d_SG_isFirst_48 : decode M_SG_isFirst.2.1 48 = .ok (.aload_n 0, 1) := by decide +kernel
theorem d_SG_isFirst_49 : decode M_SG_isFirst.2.1 49 = .ok (.getfield 18, 3) := by decide +kernel
theorem d_SG_isFirst_52 : decode M_SG_isFirst.2.1 52 = .ok (.iload 4, 2) := by decide +kernel
theorem d_SG_isFirst_54 : decode M_SG_isFirst.2.1 54 = .ok (.iaload, 1) := by decide +kernel
theorem d_SG_isFirst_55 : decode M_SG_isFirst.2.1 55 = .ok (.aload_n 0, 1) := by decide +kernel
theorem d_SG_isFirst_56 : decode M_SG_isFirst.2.1 56 = .ok (.getfield 18, 3) := by decide +kernel
theorem d_SG_isFirst_59 : decode M_SG_isFirst.2.1 59 = .ok (.iload_n 1, 1) := by decide +kernel
theorem d_SG_isFirst_60 : decode M_SG_isFirst.2.1 60 = .ok (.iaload, 1) := by decide +kernel
theorem d_SG_isFirst_61 : decode M_SG_isFirst.2.1 61 = .ok (.if_icmp .ne 53, 3) := by decide +kernel
theorem d_SG_isFirst_64 : decode M_SG_isFirst.2.1 64 = .ok (.aload_n 0, 1) := by decide +kernel
theorem d_SG_isFirst_65 : decode M_SG_isFirst.2.1 65 = .ok (.getfield 31, 3) := by decide +kernel
theorem d_SG_isFirst_68 : decode M_SG_isFirst.2.1 68 = .ok (.getfield 55, 3) := by decide +kernel
theorem d_SG_isFirst_71 : decode M_SG_isFirst.2.1 71 = .ok (.iload 4, 2) := by decide +kernel
theorem d_SG_isFirst_73 : decode M_SG_isFirst.2.1 73 = .ok (.iaload, 1) := by decide +kernel
theorem d_SG_isFirst_74 : decode M_SG_isFirst.2.1 74 = .ok (.aload_n 0, 1) := by decide +kernel
theorem d_SG_isFirst_75 : decode M_SG_isFirst.2.1 75 = .ok (.getfield 31, 3) := by decide +kernel
theorem d_SG_isFirst_78 : decode M_SG_isFirst.2.1 78 = .ok (.getfield 55, 3) := by decide +kernel
theorem d_SG_isFirst_81 : decode M_SG_isFirst.2.1 81 = .ok (.iload_n 1, 1) := by decide +kernel
theorem d_SG_isFirst_82 : decode M_SG_isFirst.2.1 82 = .ok (.iaload, 1) := by decide +kernel
theorem d_SG_isFirst_83 : decode M_SG_isFirst.2.1 83 = .ok (.if_icmp .ne 31, 3) := by decide +kernel
theorem d_SG_isFirst_86 : decode M_SG_isFirst.2.1 86 = .ok (.iload_n 2, 1) := by decide +kernel
theorem d_SG_isFirst_87 : decode M_SG_isFirst.2.1 87 = .ok (.ifCond .eq 25, 3) := by decide +kernel
theorem d_SG_isFirst_90 : decode M_SG_isFirst.2.1 90 = .ok (.aload_n 0, 1) := by decide +kernel
theorem d_SG_isFirst_91 : decode M_SG_isFirst.2.1 91 = .ok (.getfield 31, 3) := by decide +kernel
theorem d_SG_isFirst_94 : decode M_SG_isFirst.2.1 94 = .ok (.getfield 91, 3) := by decide +kernel
theorem d_SG_isFirst_97 : decode M_SG_isFirst.2.1 97 = .ok (.iload 4, 2) := by decide +kernel
theorem d_SG_isFirst_99 : decode M_SG_isFirst.2.1 99 = .ok (.iaload, 1) := by decide +kernel
theorem d_SG_isFirst_100 : decode M_SG_isFirst.2.1 100 = .ok (.aload_n 0, 1) := by decide +kernel
theorem d_SG_isFirst_101 : decode M_SG_isFirst.2.1 101 = .ok (.getfield 31, 3) := by decide +kernel
theorem d_SG_isFirst_104 : decode M_SG_isFirst.2.1 104 = .ok (.getfield 91, 3) := by decide +kernel
theorem d_SG_isFirst_107 : decode M_SG_isFirst.2.1 107 = .ok (.iload_n 1, 1) := by decide +kernel
theorem d_SG_isFirst_108 : decode M_SG_isFirst.2.1 108 = .ok (.iaload, 1) := by decide +kernel
theorem d_SG_isFirst_109 : decode M_SG_isFirst.2.1 109 = .ok (.if_icmp .ne 5, 3) := by decide +kernel
theorem d_SG_isFirst_112 : decode M_SG_isFirst.2.1 112 = .ok (.iconst 0, 1) := by decide +kernel
theorem d_SG_isFirst_113 : decode M_SG_isFirst.2.1 113 = .ok (.ireturn, 1) := by decide +kernel
theorem d_SG_isFirst_114 : decode M_SG_isFirst.2.1 114 = .ok (.iinc 3 1, 3) := by decide +kernel
theorem d_SG_isFirst_117 : decode M_SG_isFirst.2.1 117 = .ok (.goto (-112), 3) := by decide +kernel
theorem d_SG_isFirst_120 : decode M_SG_isFirst.2.1 120 = .ok (.iconst 1, 1) := by decide +kernel
theorem d_SG_isFirst_121 : decode M_SG_isFirst.2.1 121 = .ok (.ireturn, 1) := by decide +kernel
theorem d_SG_isCourtesy_0 : decode M_SG_isCourtesy.2.1 0 = .ok (.aload_n 0, 1) := by decide +kernel
theorem d_SG_isCourtesy_1 : decode M_SG_isCourtesy.2.1 1 = .ok (.getfield 12, 3) := by decide +kernel
theorem d_SG_isCourtesy_4 : decode M_SG_isCourtesy.2.1 4 = .ok (.aload_n 0, 1) := by decide +kernel
theorem d_SG_isCourtesy_5 : decode M_SG_isCourtesy.2.1 5 = .ok (.getfield 18, 3) := by decide +kernel
theorem d_SG_isCourtesy_8 : decode M_SG_isCourtesy.2.1 8 = .ok (.iload_n 1, 1) := by decide +kernel
theorem d_SG_isCourtesy_9 : decode M_SG_isCourtesy.2.1 9 = .ok (.iaload, 1) := by decide +kernel
theorem d_SG_isCourtesy_10 : decode M_SG_isCourtesy.2.1 10 = .ok (.aload_n 0, 1) := by decide +kernel
theorem d_SG_isCourtesy_11 : decode M_SG_isCourtesy.2.1 11 = .ok (.getfield 31, 3) := by decide +kernel
theorem d_SG_isCourtesy_14 : decode M_SG_isCourtesy.2.1 14 = .ok (.getfield 113, 3) := by decide +kernel
theorem d_SG_isCourtesy_17 : decode M_SG_isCourtesy.2.1 17 = .ok (.iload_n 1, 1) := by decide +kernel
theorem d_SG_isCourtesy_18 : decode M_SG_isCourtesy.2.1 18 = .ok (.iaload, 1) := by decide +kernel
theorem d_SG_isCourtesy_19 : decode M_SG_isCourtesy.2.1 19 = .ok (.invokevirtual 151, 3) := by decide +kernel
theorem d_SG_isCourtesy_22 : decode M_SG_isCourtesy.2.1 22 = .ok (.ifCond .ne 12, 3) := by decide +kernel
theorem d_SG_isCourtesy_25 : decode M_SG_isCourtesy.2.1 25 = .ok (.aload_n 0, 1) := by decide +kernel
theorem d_SG_isCourtesy_26 : decode M_SG_isCourtesy.2.1 26 = .ok (.iload_n 1, 1) := by decide +kernel
theorem d_SG_isCourtesy_27 : decode M_SG_isCourtesy.2.1 27 = .ok (.iconst 0, 1) := by decide +kernel
theorem d_SG_isCourtesy_28 : decode M_SG_isCourtesy.2.1 28 = .ok (.invokevirtual 147, 3) := by decide +kernel
theorem d_SG_isCourtesy_31 : decode M_SG_isCourtesy.2.1 31 = .ok (.ifCond .ne 5, 3) := by decide +kernel
theorem d_SG_isCourtesy_34 : decode M_SG_isCourtesy.2.1 34 = .ok (.iconst 0, 1) := by decide +kernel
theorem d_SG_isCourtesy_35 : decode M_SG_isCourtesy.2.1 35 = .ok (.ireturn, 1) := by decide +kernel
theorem d_SG_isCourtesy_36 : decode M_SG_isCourtesy.2.1 36 = .ok (.aload_n 0, 1) := by decide +kernel
theorem d_SG_isCourtesy_37 : decode M_SG_isCourtesy.2.1 37 = .ok (.getfield 39, 3) := by decide +kernel
theorem d_SG_isCourtesy_40 : decode M_SG_isCourtesy.2.1 40 = .ok (.iconst 2, 1) := by decide +kernel
theorem d_SG_isCourtesy_41 : decode M_SG_isCourtesy.2.1 41 = .ok (.iaload, 1) := by decide +kernel
theorem d_SG_isCourtesy_42 : decode M_SG_isCourtesy.2.1 42 = .ok (.istore_n 2, 1) := by decide +kernel
theorem d_SG_isCourtesy_43 : decode M_SG_isCourtesy.2.1 43 = .ok (.iload_n 2, 1) := by decide +kernel
theorem d_SG_isCourtesy_44 : decode M_SG_isCourtesy.2.1 44 = .ok (.iconst 1, 1) := by decide +kernel
theorem d_SG_isCourtesy_45 : decode M_SG_isCourtesy.2.1 45 = .ok (.iand, 1) := by decide +kernel
theorem d_SG_isCourtesy_46 : decode M_SG_isCourtesy.2.1 46 = .ok (.ifCond .eq 11, 3) := by decide +kernel
theorem d_SG_isCourtesy_49 : decode M_SG_isCourtesy.2.1 49 = .ok (.aload_n 0, 1) := by decide +kernel
theorem d_SG_isCourtesy_50 : decode M_SG_isCourtesy.2.1 50 = .ok (.iload_n 1, 1) := by decide +kernel
theorem d_SG_isCourtesy_51 : decode M_SG_isCourtesy.2.1 51 = .ok (.invokevirtual 154, 3) := by decide +kernel
theorem d_SG_isCourtesy_54 : decode M_SG_isCourtesy.2.1 54 = .ok (.ifCond .ne 46, 3) := by decide +kernel
theorem d_SG_isCourtesy_57 : decode M_SG_isCourtesy.2.1 57 = .ok (.iload_n 2, 1) := by decide +kernel
theorem d_SG_isCourtesy_58 : decode M_SG_isCourtesy.2.1 58 = .ok (.iconst 2, 1) := by decide +kernel
theorem d_SG_isCourtesy_59 : decode M_SG_isCourtesy.2.1 59 = .ok (.iand, 1) := by decide +kernel
theorem d_SG_isCourtesy_60 : decode M_SG_isCourtesy.2.1 60 = .ok (.ifCond .eq 11, 3) := by decide +kernel
theorem d_SG_isCourtesy_63 : decode M_SG_isCourtesy.2.1 63 = .ok (.aload_n 0, 1) := by decide +kernel
theorem d_SG_isCourtesy_64 : decode M_SG_isCourtesy.2.1 64 = .ok (.iload_n 1, 1) := by decide +kernel
theorem d_SG_isCourtesy_65 : decode M_SG_isCourtesy.2.1 65 = .ok (.invokevirtual 157, 3) := by decide +kernel
theorem d_SG_isCourtesy_68 : decode M_SG_isCourtesy.2.1 68 = .ok (.ifCond .ne 32, 3) := by decide +kernel
theorem d_SG_isCourtesy_71 : decode M_SG_isCourtesy.2.1 71 = .ok (.iload_n 2, 1) := by decide +kernel
theorem d_SG_isCourtesy_72 : decode M_SG_isCourtesy.2.1 72 = .ok (.iconst 4, 1) := by decide +kernel
theorem d_SG_isCourtesy_73 : decode M_SG_isCourtesy.2.1 73 = .ok (.iand, 1) := by decide +kernel
theorem d_SG_isCourtesy_74 : decode M_SG_isCourtesy.2.1 74 = .ok (.ifCond .eq 11, 3) := by decide +kernel
theorem d_SG_isCourtesy_77 : decode M_SG_isCourtesy.2.1 77 = .ok (.aload_n 0, 1) := by decide +kernel
theorem d_SG_isCourtesy_78 : decode M_SG_isCourtesy.2.1 78 = .ok (.iload_n 1, 1) := by decide +kernel
theorem d_SG_isCourtesy_79 : decode M_SG_isCourtesy.2.1 79 = .ok (.invokevirtual 160, 3) := by decide +kernel
theorem d_SG_isCourtesy_82 : decode M_SG_isCourtesy.2.1 82 = .ok (.ifCond .ne 18, 3) := by decide +kernel
theorem d_SG_isCourtesy_85 : decode M_SG_isCourtesy.2.1 85 = .ok (.iload_n 2, 1) := by decide +kernel
theorem d_SG_isCourtesy_86 : decode M_SG_isCourtesy.2.1 86 = .ok (.bipush 8, 2) := by decide +kernel
theorem d_SG_isCourtesy_88 : decode M_SG_isCourtesy.2.1 88 = .ok (.iand, 1) := by decide +kernel
theorem d_SG_isCourtesy_89 : decode M_SG_isCourtesy.2.1 89 = .ok (.ifCond .eq 15, 3) := by decide +kernel
theorem d_SG_isCourtesy_92 : decode M_SG_isCourtesy.2.1 92 = .ok (.aload_n 0, 1) := by decide +kernel
theorem d_SG_isCourtesy_93 : decode M_SG_isCourtesy.2.1 93 = .ok (.iload_n 1, 1) := by decide +kernel
theorem d_SG_isCourtesy_94 : decode M_SG_isCourtesy.2.1 94 = .ok (.invokevirtual 163, 3) := by decide +kernel
theorem d_SG_isCourtesy_97 : decode M_SG_isCourtesy.2.1 97 = .ok (.ifCond .eq 7, 3) := by decide +kernel
theorem d_SG_isCourtesy_100 : decode M_SG_isCourtesy.2.1 100 = .ok (.iconst 1, 1) := by decide +kernel
theorem d_SG_isCourtesy_101 : decode M_SG_isCourtesy.2.1 101 = .ok (.goto 4, 3) := by decide +kernel
theorem d_SG_isCourtesy_104 : decode M_SG_isCourtesy.2.1 104 = .ok (.iconst 0, 1) := by decide +kernel
theorem d_SG_isCourtesy_105 : decode M_SG_isCourtesy.2.1 105 = .ok (.ireturn, 1) := by decide +kernel
theorem d_SG_wasOtherInLastBar_0 : decode M_SG_wasOtherInLastBar.2.1 0 = .ok (.aload_n 0, 1) := by decide +kernel
theorem d_SG_wasOtherInLastBar_1 : decode M_SG_wasOtherInLastBar.2.1 1 = .ok (.getfield 31, 3) := by decide +kernel
theorem d_SG_wasOtherInLastBar_4 : decode M_SG_wasOtherInLastBar.2.1 4 = .ok (.getfield 113, 3) := by decide +kernel
theorem d_SG_wasOtherInLastBar_7 : decode M_SG_wasOtherInLastBar.2.1 7 = .ok (.iload_n 1, 1) := by decide +kernel
theorem d_SG_wasOtherInLastBar_8 : decode M_SG_wasOtherInLastBar.2.1 8 = .ok (.iaload, 1) := by decide +kernel
theorem d_SG_wasOtherInLastBar_9 : decode M_SG_wasOtherInLastBar.2.1 9 = .ok (.istore_n 2, 1) := by decide +kernel
theorem d_SG_wasOtherInLastBar_10 : decode M_SG_wasOtherInLastBar.2.1 10 = .ok (.iload_n 2, 1) := by decide +kernel
theorem d_SG_wasOtherInLastBar_11 : decode M_SG_wasOtherInLastBar.2.1 11 = .ok (.ifCond .ne 5, 3) := by decide +kernel
theorem d_SG_wasOtherInLastBar_14 : decode M_SG_wasOtherInLastBar.2.1 14 = .ok (.iconst 0, 1) := by decide +kernel
theorem d_SG_wasOtherInLastBar_15 : decode M_SG_wasOtherInLastBar.2.1 15 = .ok (.ireturn, 1) := by decide +kernel
theorem d_SG_wasOtherInLastBar_16 : decode M_SG_wasOtherInLastBar.2.1 16 = .ok (.aload_n 0, 1) := by decide +kernel
theorem d_SG_wasOtherInLastBar_17 : decode M_SG_wasOtherInLastBar.2.1 17 = .ok (.iload_n 2, 1) := by decide +kernel
theorem d_SG_wasOtherInLastBar_18 : decode M_SG_wasOtherInLastBar.2.1 18 = .ok (.iconst 1, 1) := by decide +kernel
theorem d_SG_wasOtherInLastBar_19 : decode M_SG_wasOtherInLastBar.2.1 19 = .ok (.isub, 1) := by decide +kernel
theorem d_SG_wasOtherInLastBar_20 : decode M_SG_wasOtherInLastBar.2.1 20 = .ok (.aload_n 0, 1) := by decide +kernel
theorem d_SG_wasOtherInLastBar_21 : decode M_SG_wasOtherInLastBar.2.1 21 = .ok (.getfield 31, 3) := by decide +kernel
theorem d_SG_wasOtherInLastBar_24 : decode M_SG_wasOtherInLastBar.2.1 24 = .ok (.getfield 55, 3) := by decide +kernel
theorem d_SG_wasOtherInLastBar_27 : decode M_SG_wasOtherInLastBar.2.1 27 = .ok (.iload_n 1, 1) := by decide +kernel
theorem d_SG_wasOtherInLastBar_28 : decode M_SG_wasOtherInLastBar.2.1 28 = .ok (.iaload, 1) := by decide +kernel
theorem d_SG_wasOtherInLastBar_29 : decode M_SG_wasOtherInLastBar.2.1 29 = .ok (.invokevirtual 120, 3) := by decide +kernel
theorem d_SG_wasOtherInLastBar_32 : decode M_SG_wasOtherInLastBar.2.1 32 = .ok (.istore_n 3, 1) := by decide +kernel
theorem d_SG_wasOtherInLastBar_33 : decode M_SG_wasOtherInLastBar.2.1 33 = .ok (.aload_n 0, 1) := by decide +kernel
theorem d_SG_wasOtherInLastBar_34 : decode M_SG_wasOtherInLastBar.2.1 34 = .ok (.getfield 12, 3) := by decide +kernel
theorem d_SG_wasOtherInLastBar_37 : decode M_SG_wasOtherInLastBar.2.1 37 = .ok (.aload_n 0, 1) := by decide +kernel
theorem d_SG_wasOtherInLastBar_38 : decode M_SG_wasOtherInLastBar.2.1 38 = .ok (.getfield 18, 3) := by decide +kernel
theorem d_SG_wasOtherInLastBar_41 : decode M_SG_wasOtherInLastBar.2.1 41 = .ok (.iload_n 1, 1) := by decide +kernel
theorem d_SG_wasOtherInLastBar_42 : decode M_SG_wasOtherInLastBar.2.1 42 = .ok (.iaload, 1) := by decide +kernel
theorem d_SG_wasOtherInLastBar_43 : decode M_SG_wasOtherInLastBar.2.1 43 = .ok (.iload_n 2, 1) := by decide +kernel
theorem d_SG_wasOtherInLastBar_44 : decode M_SG_wasOtherInLastBar.2.1 44 = .ok (.iload_n 3, 1) := by decide +kernel
theorem d_SG_wasOtherInLastBar_45 : decode M_SG_wasOtherInLastBar.2.1 45 = .ok (.invokevirtual 166, 3) := by decide +kernel
theorem d_SG_wasOtherInLastBar_48 : decode M_SG_wasOtherInLastBar.2.1 48 = .ok (.aload_n 0, 1) := by decide +kernel
theorem d_SG_wasOtherInLastBar_49 : decode M_SG_wasOtherInLastBar.2.1 49 = .ok (.getfield 31, 3) := by decide +kernel
theorem d_SG_wasOtherInLastBar_52 : decode M_SG_wasOtherInLastBar.2.1 52 = .ok (.getfield 91, 3) := by decide +kernel
theorem d_SG_wasOtherInLastBar_55 : decode M_SG_wasOtherInLastBar.2.1 55 = .ok (.iload_n 1, 1) := by decide +kernel
theorem d_SG_wasOtherInLastBar_56 : decode M_SG_wasOtherInLastBar.2.1 56 = .ok (.iaload, 1) := by decide +kernel
theorem d_SG_wasOtherInLastBar_57 : decode M_SG_wasOtherInLastBar.2.1 57 = .ok (.if_icmp .eq 7, 3) := by decide +kernel
theorem d_SG_wasOtherInLastBar_60 : decode M_SG_wasOtherInLastBar.2.1 60 = .ok (.iconst 1, 1) := by decide +kernel
theorem d_SG_wasOtherInLastBar_61 : decode M_SG_wasOtherInLastBar.2.1 61 = .ok (.goto 4, 3) := by decide +kernel
theorem d_SG_wasOtherInLastBar_64 : decode M_SG_wasOtherInLastBar.2.1 64 = .ok (.iconst 0, 1) := by decide +kernel
theorem d_SG_wasOtherInLastBar_65 : decode M_SG_wasOtherInLastBar.2.1 65 = .ok (.ireturn, 1) := by decide +kernel
theorem d_SG_isOtherInOctave_0 : decode M_SG_isOtherInOctave.2.1 0 = .ok (.aload_n 0, 1) := by decide +kernel
theorem d_SG_isOtherInOctave_1 : decode M_SG_isOtherInOctave.2.1 1 = .ok (.getfield 39, 3) := by decide +kernel
theorem d_SG_isOtherInOctave_4 : decode M_SG_isOtherInOctave.2.1 4 = .ok (.iconst 0, 1) := by decide +kernel
theorem d_SG_isOtherInOctave_5 : decode M_SG_isOtherInOctave.2.1 5 = .ok (.iaload, 1) := by decide +kernel
theorem d_SG_isOtherInOctave_6 : decode M_SG_isOtherInOctave.2.1 6 = .ok (.ifCond .eq 5, 3) := by decide +kernel
theorem d_SG_isOtherInOctave_9 : decode M_SG_isOtherInOctave.2.1 9 = .ok (.iconst 0, 1) := by decide +kernel
theorem d_SG_isOtherInOctave_10 : decode M_SG_isOtherInOctave.2.1 10 = .ok (.ireturn, 1) := by decide +kernel
theorem d_SG_isOtherInOctave_11 : decode M_SG_isOtherInOctave.2.1 11 = .ok (.aload_n 0, 1) := by decide +kernel
theorem d_SG_isOtherInOctave_12 : decode M_SG_isOtherInOctave.2.1 12 = .ok (.getfield 31, 3) := by decide +kernel
theorem d_SG_isOtherInOctave_15 : decode M_SG_isOtherInOctave.2.1 15 = .ok (.getfield 113, 3) := by decide +kernel
theorem d_SG_isOtherInOctave_18 : decode M_SG_isOtherInOctave.2.1 18 = .ok (.iload_n 1, 1) := by decide +kernel
theorem d_SG_isOtherInOctave_19 : decode M_SG_isOtherInOctave.2.1 19 = .ok (.iaload, 1) := by decide +kernel
theorem d_SG_isOtherInOctave_20 : decode M_SG_isOtherInOctave.2.1 20 = .ok (.istore_n 2, 1) := by decide +kernel
theorem d_SG_isOtherInOctave_21 : decode M_SG_isOtherInOctave.2.1 21 = .ok (.aload_n 0, 1) := by decide +kernel
theorem d_SG_isOtherInOctave_22 : decode M_SG_isOtherInOctave.2.1 22 = .ok (.getfield 31, 3) := by decide +kernel
theorem d_SG_isOtherInOctave_25 : decode M_SG_isOtherInOctave.2.1 25 = .ok (.getfield 55, 3) := by decide +kernel
theorem d_SG_isOtherInOctave_28 : decode M_SG_isOtherInOctave.2.1 28 = .ok (.iload_n 1, 1) := by decide +kernel
theorem d_SG_isOtherInOctave_29 : decode M_SG_isOtherInOctave.2.1 29 = .ok (.iaload, 1) := by decide +kernel
theorem d_SG_isOtherInOctave_30 : decode M_SG_isOtherInOctave.2.1 30 = .ok (.bipush 7, 2) := by decide +kernel
theorem d_SG_isOtherInOctave_32 : decode M_SG_isOtherInOctave.2.1 32 = .ok (.irem, 1) := by decide +kernel
theorem d_SG_isOtherInOctave_33 : decode M_SG_isOtherInOctave.2.1 33 = .ok (.istore_n 3, 1) := by decide +kernel
theorem d_SG_isOtherInOctave_34 : decode M_SG_isOtherInOctave.2.1 34 = .ok (.iload_n 3, 1) := by decide +kernel
theorem d_SG_isOtherInOctave_35 : decode M_SG_isOtherInOctave.2.1 35 = .ok (.bipush 70, 2) := by decide +kernel
theorem d_SG_isOtherInOctave_37 : decode M_SG_isOtherInOctave.2.1 37 = .ok (.if_icmp .ge 74, 3) := by decide +kernel
theorem d_SG_isOtherInOctave_40 : decode M_SG_isOtherInOctave.2.1 40 = .ok (.aload_n 0, 1) := by decide +kernel
theorem d_SG_isOtherInOctave_41 : decode M_SG_isOtherInOctave.2.1 41 = .ok (.iload_n 3, 1) := by decide +kernel
theorem d_SG_isOtherInOctave_42 : decode M_SG_isOtherInOctave.2.1 42 = .ok (.aload_n 0, 1) := by decide +kernel
theorem d_SG_isOtherInOctave_43 : decode M_SG_isOtherInOctave.2.1 43 = .ok (.getfield 31, 3) := by decide +kernel
theorem d_SG_isOtherInOctave_46 : decode M_SG_isOtherInOctave.2.1 46 = .ok (.getfield 58, 3) := by decide +kernel
theorem d_SG_isOtherInOctave_49 : decode M_SG_isOtherInOctave.2.1 49 = .ok (.iload_n 1, 1) := by decide +kernel
theorem d_SG_isOtherInOctave_50 : decode M_SG_isOtherInOctave.2.1 50 = .ok (.iaload, 1) := by decide +kernel
theorem d_SG_isOtherInOctave_51 : decode M_SG_isOtherInOctave.2.1 51 = .ok (.invokevirtual 61, 3) := by decide +kernel
theorem d_SG_isOtherInOctave_54 : decode M_SG_isOtherInOctave.2.1 54 = .ok (.istore 4, 2) := by decide +kernel
theorem d_SG_isOtherInOctave_56 : decode M_SG_isOtherInOctave.2.1 56 = .ok (.iload 4, 2) := by decide +kernel
theorem d_SG_isOtherInOctave_58 : decode M_SG_isOtherInOctave.2.1 58 = .ok (.aload_n 0, 1) := by decide +kernel
theorem d_SG_isOtherInOctave_59 : decode M_SG_isOtherInOctave.2.1 59 = .ok (.getfield 18, 3) := by decide +kernel
theorem d_SG_isOtherInOctave_62 : decode M_SG_isOtherInOctave.2.1 62 = .ok (.iload_n 1, 1) := by decide +kernel
theorem d_SG_isOtherInOctave_63 : decode M_SG_isOtherInOctave.2.1 63 = .ok (.iaload, 1) := by decide +kernel
theorem d_SG_isOtherInOctave_64 : decode M_SG_isOtherInOctave.2.1 64 = .ok (.if_icmp .eq 41, 3) := by decide +kernel
theorem d_SG_isOtherInOctave_67 : decode M_SG_isOtherInOctave.2.1 67 = .ok (.aload_n 0, 1) := by decide +kernel
theorem d_SG_isOtherInOctave_68 : decode M_SG_isOtherInOctave.2.1 68 = .ok (.getfield 12, 3) := by decide +kernel
theorem d_SG_isOtherInOctave_71 : decode M_SG_isOtherInOctave.2.1 71 = .ok (.iload 4, 2) := by decide +kernel
theorem d_SG_isOtherInOctave_73 : decode M_SG_isOtherInOctave.2.1 73 = .ok (.iload_n 2, 1) := by decide +kernel
theorem d_SG_isOtherInOctave_74 : decode M_SG_isOtherInOctave.2.1 74 = .ok (.invokevirtual 169, 3) := by decide +kernel
theorem d_SG_isOtherInOctave_77 : decode M_SG_isOtherInOctave.2.1 77 = .ok (.ifCond .eq 28, 3) := by decide +kernel
theorem d_SG_isOtherInOctave_80 : decode M_SG_isOtherInOctave.2.1 80 = .ok (.aload_n 0, 1) := by decide +kernel
theorem d_SG_isOtherInOctave_81 : decode M_SG_isOtherInOctave.2.1 81 = .ok (.getfield 12, 3) := by decide +kernel
theorem d_SG_isOtherInOctave_84 : decode M_SG_isOtherInOctave.2.1 84 = .ok (.iload 4, 2) := by decide +kernel
theorem d_SG_isOtherInOctave_86 : decode M_SG_isOtherInOctave.2.1 86 = .ok (.iload_n 2, 1) := by decide +kernel
theorem d_SG_isOtherInOctave_87 : decode M_SG_isOtherInOctave.2.1 87 = .ok (.iconst 0, 1) := by decide +kernel
theorem d_SG_isOtherInOctave_88 : decode M_SG_isOtherInOctave.2.1 88 = .ok (.invokevirtual 133, 3) := by decide +kernel
theorem d_SG_isOtherInOctave_91 : decode M_SG_isOtherInOctave.2.1 91 = .ok (.aload_n 0, 1) := by decide +kernel
