theorem dX7_edgeOf_44 : decode cX7_edgeOf 44 = .ok (.aload_n 0, 1) := by decide +kernel
theorem dX7_edgeOf_45 : decode cX7_edgeOf 45 = .ok (.iload_n 1, 1) := by decide +kernel
theorem dX7_edgeOf_46 : decode cX7_edgeOf 46 = .ok (.iload 5, 2) := by decide +kernel
theorem dX7_edgeOf_48 : decode cX7_edgeOf 48 = .ok (.invokevirtual 44, 3) := by decide +kernel
theorem dX7_edgeOf_51 : decode cX7_edgeOf 51 = .ok (.istore 6, 2) := by decide +kernel
theorem dX7_edgeOf_53 : decode cX7_edgeOf 53 = .ok (.iload 5, 2) := by decide +kernel
theorem dX7_edgeOf_55 : decode cX7_edgeOf 55 = .ok (.ifCond .eq 24, 3) := by decide +kernel
theorem dX7_edgeOf_58 : decode cX7_edgeOf 58 = .ok (.iload_n 3, 1) := by decide +kernel
theorem dX7_edgeOf_59 : decode cX7_edgeOf 59 = .ok (.ifCond .eq 13, 3) := by decide +kernel
theorem dX7_edgeOf_62 : decode cX7_edgeOf 62 = .ok (.iload 6, 2) := by decide +kernel
theorem dX7_edgeOf_64 : decode cX7_edgeOf 64 = .ok (.iload 4, 2) := by decide +kernel
theorem dX7_edgeOf_66 : decode cX7_edgeOf 66 = .ok (.if_icmp .le 17, 3) := by decide +kernel
theorem dX7_edgeOf_69 : decode cX7_edgeOf 69 = .ok (.goto 10, 3) := by decide +kernel
theorem dX7_edgeOf_72 : decode cX7_edgeOf 72 = .ok (.iload 6, 2) := by decide +kernel
theorem dX7_edgeOf_74 : decode cX7_edgeOf 74 = .ok (.iload 4, 2) := by decide +kernel
theorem dX7_edgeOf_76 : decode cX7_edgeOf 76 = .ok (.if_icmp .ge 7, 3) := by decide +kernel
theorem dX7_edgeOf_79 : decode cX7_edgeOf 79 = .ok (.iload 6, 2) := by decide +kernel
theorem dX7_edgeOf_81 : decode cX7_edgeOf 81 = .ok (.istore 4, 2) := by decide +kernel
theorem dX7_edgeOf_83 : decode cX7_edgeOf 83 = .ok (.iinc 5 1, 3) := by decide +kernel
theorem dX7_edgeOf_86 : decode cX7_edgeOf 86 = .ok (.goto (-67), 3) := by decide +kernel
theorem dX7_edgeOf_89 : decode cX7_edgeOf 89 = .ok (.aload_n 0, 1) := by decide +kernel
theorem dX7_edgeOf_90 : decode cX7_edgeOf 90 = .ok (.iload_n 1, 1) := by decide +kernel
theorem dX7_edgeOf_91 : decode cX7_edgeOf 91 = .ok (.invokevirtual 31, 3) := by decide +kernel
theorem dX7_edgeOf_94 : decode cX7_edgeOf 94 = .ok (.iconst 3, 1) := by decide +kernel
theorem dX7_edgeOf_95 : decode cX7_edgeOf 95 = .ok (.if_icmp .ne 10, 3) := by decide +kernel
theorem dX7_edgeOf_98 : decode cX7_edgeOf 98 = .ok (.aload_n 0, 1) := by decide +kernel
theorem dX7_edgeOf_99 : decode cX7_edgeOf 99 = .ok (.getfield 25, 3) := by decide +kernel
theorem dX7_edgeOf_102 : decode cX7_edgeOf 102 = .ok (.goto 4, 3) := by decide +kernel
theorem dX7_edgeOf_105 : decode cX7_edgeOf 105 = .ok (.iconst 0, 1) := by decide +kernel
theorem dX7_edgeOf_106 : decode cX7_edgeOf 106 = .ok (.istore 5, 2) := by decide +kernel
theorem dX7_edgeOf_108 : decode cX7_edgeOf 108 = .ok (.iload_n 3, 1) := by decide +kernel
theorem dX7_edgeOf_109 : decode cX7_edgeOf 109 = .ok (.ifCond .eq 11, 3) := by decide +kernel
theorem dX7_edgeOf_112 : decode cX7_edgeOf 112 = .ok (.iload 4, 2) := by decide +kernel
theorem dX7_edgeOf_114 : decode cX7_edgeOf 114 = .ok (.iload 5, 2) := by decide +kernel
theorem dX7_edgeOf_116 : decode cX7_edgeOf 116 = .ok (.iadd, 1) := by decide +kernel
theorem dX7_edgeOf_117 : decode cX7_edgeOf 117 = .ok (.goto 8, 3) := by decide +kernel
theorem dX7_edgeOf_120 : decode cX7_edgeOf 120 = .ok (.iload 4, 2) := by decide +kernel
theorem dX7_edgeOf_122 : decode cX7_edgeOf 122 = .ok (.iload 5, 2) := by decide +kernel
theorem dX7_edgeOf_124 : decode cX7_edgeOf 124 = .ok (.isub, 1) := by decide +kernel
theorem dX7_edgeOf_125 : decode cX7_edgeOf 125 = .ok (.ireturn, 1) := by decide +kernel
theorem dX7_edgeOfAll_0 : decode cX7_edgeOfAll 0 = .ok (.iload_n 1, 1) := by decide +kernel
theorem dX7_edgeOfAll_1 : decode cX7_edgeOfAll 1 = .ok (.iconst 1, 1) := by decide +kernel
theorem dX7_edgeOfAll_2 : decode cX7_edgeOfAll 2 = .ok (.iand, 1) := by decide +kernel
theorem dX7_edgeOfAll_3 : decode cX7_edgeOfAll 3 = .ok (.iconst 1, 1) := by decide +kernel
theorem dX7_edgeOfAll_4 : decode cX7_edgeOfAll 4 = .ok (.if_icmp .ne 7, 3) := by decide +kernel
theorem dX7_edgeOfAll_7 : decode cX7_edgeOfAll 7 = .ok (.iconst 1, 1) := by decide +kernel
theorem dX7_edgeOfAll_8 : decode cX7_edgeOfAll 8 = .ok (.goto 4, 3) := by decide +kernel
theorem dX7_edgeOfAll_11 : decode cX7_edgeOfAll 11 = .ok (.iconst 0, 1) := by decide +kernel
theorem dX7_edgeOfAll_12 : decode cX7_edgeOfAll 12 = .ok (.istore_n 2, 1) := by decide +kernel
theorem dX7_edgeOfAll_13 : decode cX7_edgeOfAll 13 = .ok (.aload_n 0, 1) := by decide +kernel
theorem dX7_edgeOfAll_14 : decode cX7_edgeOfAll 14 = .ok (.iconst 0, 1) := by decide +kernel
theorem dX7_edgeOfAll_15 : decode cX7_edgeOfAll 15 = .ok (.iload_n 1, 1) := by decide +kernel
theorem dX7_edgeOfAll_16 : decode cX7_edgeOfAll 16 = .ok (.invokevirtual 55, 3) := by decide +kernel
theorem dX7_edgeOfAll_19 : decode cX7_edgeOfAll 19 = .ok (.istore_n 3, 1) := by decide +kernel
theorem dX7_edgeOfAll_20 : decode cX7_edgeOfAll 20 = .ok (.iconst 1, 1) := by decide +kernel
theorem dX7_edgeOfAll_21 : decode cX7_edgeOfAll 21 = .ok (.istore 4, 2) := by decide +kernel
theorem dX7_edgeOfAll_23 : decode cX7_edgeOfAll 23 = .ok (.iload 4, 2) := by decide +kernel
theorem dX7_edgeOfAll_25 : decode cX7_edgeOfAll 25 = .ok (.aload_n 0, 1) := by decide +kernel
theorem dX7_edgeOfAll_26 : decode cX7_edgeOfAll 26 = .ok (.getfield 21, 3) := by decide +kernel
theorem dX7_edgeOfAll_29 : decode cX7_edgeOfAll 29 = .ok (.if_icmp .ge 38, 3) := by decide +kernel
theorem dX7_edgeOfAll_32 : decode cX7_edgeOfAll 32 = .ok (.aload_n 0, 1) := by decide +kernel
theorem dX7_edgeOfAll_33 : decode cX7_edgeOfAll 33 = .ok (.iload 4, 2) := by decide +kernel
theorem dX7_edgeOfAll_35 : decode cX7_edgeOfAll 35 = .ok (.iload_n 1, 1) := by decide +kernel
theorem dX7_edgeOfAll_36 : decode cX7_edgeOfAll 36 = .ok (.invokevirtual 55, 3) := by decide +kernel
theorem dX7_edgeOfAll_39 : decode cX7_edgeOfAll 39 = .ok (.istore 5, 2) := by decide +kernel
theorem dX7_edgeOfAll_41 : decode cX7_edgeOfAll 41 = .ok (.iload_n 2, 1) := by decide +kernel
theorem dX7_edgeOfAll_42 : decode cX7_edgeOfAll 42 = .ok (.ifCond .eq 12, 3) := by decide +kernel
theorem dX7_edgeOfAll_45 : decode cX7_edgeOfAll 45 = .ok (.iload_n 3, 1) := by decide +kernel
theorem dX7_edgeOfAll_46 : decode cX7_edgeOfAll 46 = .ok (.iload 5, 2) := by decide +kernel
theorem dX7_edgeOfAll_48 : decode cX7_edgeOfAll 48 = .ok (.invokestatic 58, 3) := by decide +kernel
theorem dX7_edgeOfAll_51 : decode cX7_edgeOfAll 51 = .ok (.goto 9, 3) := by decide +kernel
theorem dX7_edgeOfAll_54 : decode cX7_edgeOfAll 54 = .ok (.iload_n 3, 1) := by decide +kernel
theorem dX7_edgeOfAll_55 : decode cX7_edgeOfAll 55 = .ok (.iload 5, 2) := by decide +kernel
theorem dX7_edgeOfAll_57 : decode cX7_edgeOfAll 57 = .ok (.invokestatic 61, 3) := by decide +kernel
theorem dX7_edgeOfAll_60 : decode cX7_edgeOfAll 60 = .ok (.istore_n 3, 1) := by decide +kernel
theorem dX7_edgeOfAll_61 : decode cX7_edgeOfAll 61 = .ok (.iinc 4 1, 3) := by decide +kernel
theorem dX7_edgeOfAll_64 : decode cX7_edgeOfAll 64 = .ok (.goto (-41), 3) := by decide +kernel
theorem dX7_edgeOfAll_67 : decode cX7_edgeOfAll 67 = .ok (.iload_n 3, 1) := by decide +kernel
theorem dX7_edgeOfAll_68 : decode cX7_edgeOfAll 68 = .ok (.ireturn, 1) := by decide +kernel
theorem dX7_countAround_0 : decode cX7_countAround 0 = .ok (.iconst 0, 1) := by decide +kernel
theorem dX7_countAround_1 : decode cX7_countAround 1 = .ok (.istore_n 3, 1) := by decide +kernel
theorem dX7_countAround_2 : decode cX7_countAround 2 = .ok (.iconst 0, 1) := by decide +kernel
theorem dX7_countAround_3 : decode cX7_countAround 3 = .ok (.istore 4, 2) := by decide +kernel
theorem dX7_countAround_5 : decode cX7_countAround 5 = .ok (.iload 4, 2) := by decide +kernel
theorem dX7_countAround_7 : decode cX7_countAround 7 = .ok (.aload_n 0, 1) := by decide +kernel
theorem dX7_countAround_8 : decode cX7_countAround 8 = .ok (.getfield 21, 3) := by decide +kernel
theorem dX7_countAround_11 : decode cX7_countAround 11 = .ok (.if_icmp .ge 23, 3) := by decide +kernel
theorem dX7_countAround_14 : decode cX7_countAround 14 = .ok (.aload_n 0, 1) := by decide +kernel
theorem dX7_countAround_15 : decode cX7_countAround 15 = .ok (.iload 4, 2) := by decide +kernel
theorem dX7_countAround_17 : decode cX7_countAround 17 = .ok (.iload_n 1, 1) := by decide +kernel
theorem dX7_countAround_18 : decode cX7_countAround 18 = .ok (.iload_n 2, 1) := by decide +kernel
theorem dX7_countAround_19 : decode cX7_countAround 19 = .ok (.invokevirtual 64, 3) := by decide +kernel
theorem dX7_countAround_22 : decode cX7_countAround 22 = .ok (.ifCond .eq 6, 3) := by decide +kernel
theorem dX7_countAround_25 : decode cX7_countAround 25 = .ok (.iinc 3 1, 3) := by decide +kernel
theorem dX7_countAround_28 : decode cX7_countAround 28 = .ok (.iinc 4 1, 3) := by decide +kernel
theorem dX7_countAround_31 : decode cX7_countAround 31 = .ok (.goto (-26), 3) := by decide +kernel
theorem dX7_countAround_34 : decode cX7_countAround 34 = .ok (.iload_n 3, 1) := by decide +kernel
theorem dX7_countAround_35 : decode cX7_countAround 35 = .ok (.ireturn, 1) := by decide +kernel
theorem dX7_covers_0 : decode cX7_covers 0 = .ok (.aload_n 0, 1) := by decide +kernel
theorem dX7_covers_1 : decode cX7_covers 1 = .ok (.iload_n 1, 1) := by decide +kernel
theorem dX7_covers_2 : decode cX7_covers 2 = .ok (.invokevirtual 31, 3) := by decide +kernel
theorem dX7_covers_5 : decode cX7_covers 5 = .ok (.iconst 3, 1) := by decide +kernel
theorem dX7_covers_6 : decode cX7_covers 6 = .ok (.if_icmp .ne 57, 3) := by decide +kernel
theorem dX7_covers_9 : decode cX7_covers 9 = .ok (.iload_n 2, 1) := by decide +kernel
theorem dX7_covers_10 : decode cX7_covers 10 = .ok (.aload_n 0, 1) := by decide +kernel
theorem dX7_covers_11 : decode cX7_covers 11 = .ok (.iload_n 1, 1) := by decide +kernel
theorem dX7_covers_12 : decode cX7_covers 12 = .ok (.iconst 0, 1) := by decide +kernel
theorem dX7_covers_13 : decode cX7_covers 13 = .ok (.invokevirtual 44, 3) := by decide +kernel
theorem dX7_covers_16 : decode cX7_covers 16 = .ok (.isub, 1) := by decide +kernel
theorem dX7_covers_17 : decode cX7_covers 17 = .ok (.i2l, 1) := by decide +kernel
theorem dX7_covers_18 : decode cX7_covers 18 = .ok (.lstore 4, 2) := by decide +kernel
theorem dX7_covers_20 : decode cX7_covers 20 = .ok (.iload_n 3, 1) := by decide +kernel
theorem dX7_covers_21 : decode cX7_covers 21 = .ok (.aload_n 0, 1) := by decide +kernel
theorem dX7_covers_22 : decode cX7_covers 22 = .ok (.iload_n 1, 1) := by decide +kernel
theorem dX7_covers_23 : decode cX7_covers 23 = .ok (.iconst 0, 1) := by decide +kernel
theorem dX7_covers_24 : decode cX7_covers 24 = .ok (.invokevirtual 47, 3) := by decide +kernel
theorem dX7_covers_27 : decode cX7_covers 27 = .ok (.isub, 1) := by decide +kernel
theorem dX7_covers_28 : decode cX7_covers 28 = .ok (.i2l, 1) := by decide +kernel
theorem dX7_covers_29 : decode cX7_covers 29 = .ok (.lstore 6, 2) := by decide +kernel
theorem dX7_covers_31 : decode cX7_covers 31 = .ok (.lload 4, 2) := by decide +kernel
theorem dX7_covers_33 : decode cX7_covers 33 = .ok (.lload 4, 2) := by decide +kernel
theorem dX7_covers_35 : decode cX7_covers 35 = .ok (.lmul, 1) := by decide +kernel
theorem dX7_covers_36 : decode cX7_covers 36 = .ok (.lload 6, 2) := by decide +kernel
theorem dX7_covers_38 : decode cX7_covers 38 = .ok (.lload 6, 2) := by decide +kernel
theorem dX7_covers_40 : decode cX7_covers 40 = .ok (.lmul, 1) := by decide +kernel
theorem dX7_covers_41 : decode cX7_covers 41 = .ok (.ladd, 1) := by decide +kernel
theorem dX7_covers_42 : decode cX7_covers 42 = .ok (.aload_n 0, 1) := by decide +kernel
theorem dX7_covers_43 : decode cX7_covers 43 = .ok (.getfield 25, 3) := by decide +kernel
theorem dX7_covers_46 : decode cX7_covers 46 = .ok (.i2l, 1) := by decide +kernel
theorem dX7_covers_47 : decode cX7_covers 47 = .ok (.aload_n 0, 1) := by decide +kernel
theorem dX7_covers_48 : decode cX7_covers 48 = .ok (.getfield 25, 3) := by decide +kernel
theorem dX7_covers_51 : decode cX7_covers 51 = .ok (.i2l, 1) := by decide +kernel
theorem dX7_covers_52 : decode cX7_covers 52 = .ok (.lmul, 1) := by decide +kernel
theorem dX7_covers_53 : decode cX7_covers 53 = .ok (.lcmp, 1) := by decide +kernel
theorem dX7_covers_54 : decode cX7_covers 54 = .ok (.ifCond .gt 7, 3) := by decide +kernel
theorem dX7_covers_57 : decode cX7_covers 57 = .ok (.iconst 1, 1) := by decide +kernel
theorem dX7_covers_58 : decode cX7_covers 58 = .ok (.goto 4, 3) := by decide +kernel
theorem dX7_covers_61 : decode cX7_covers 61 = .ok (.iconst 0, 1) := by decide +kernel
theorem dX7_covers_62 : decode cX7_covers 62 = .ok (.ireturn, 1) := by decide +kernel
theorem dX7_covers_63 : decode cX7_covers 63 = .ok (.aload_n 0, 1) := by decide +kernel
theorem dX7_covers_64 : decode cX7_covers 64 = .ok (.iload_n 1, 1) := by decide +kernel
theorem dX7_covers_65 : decode cX7_covers 65 = .ok (.iload_n 2, 1) := by decide +kernel
theorem dX7_covers_66 : decode cX7_covers 66 = .ok (.iload_n 3, 1) := by decide +kernel
theorem dX7_covers_67 : decode cX7_covers 67 = .ok (.invokevirtual 68, 3) := by decide +kernel
theorem dX7_covers_70 : decode cX7_covers 70 = .ok (.ifCond .eq 17, 3) := by decide +kernel
theorem dX7_covers_73 : decode cX7_covers 73 = .ok (.aload_n 0, 1) := by decide +kernel
theorem dX7_covers_74 : decode cX7_covers 74 = .ok (.iload_n 1, 1) := by decide +kernel
theorem dX7_covers_75 : decode cX7_covers 75 = .ok (.iload_n 2, 1) := by decide +kernel
theorem dX7_covers_76 : decode cX7_covers 76 = .ok (.iload_n 3, 1) := by decide +kernel
theorem dX7_covers_77 : decode cX7_covers 77 = .ok (.invokevirtual 71, 3) := by decide +kernel
theorem dX7_covers_80 : decode cX7_covers 80 = .ok (.ifCond .eq 7, 3) := by decide +kernel
theorem dX7_covers_83 : decode cX7_covers 83 = .ok (.iconst 1, 1) := by decide +kernel
theorem dX7_covers_84 : decode cX7_covers 84 = .ok (.goto 4, 3) := by decide +kernel
theorem dX7_covers_87 : decode cX7_covers 87 = .ok (.iconst 0, 1) := by decide +kernel
theorem dX7_covers_88 : decode cX7_covers 88 = .ok (.ireturn, 1) := by decide +kernel
theorem dX7_isInBox_0 : decode cX7_isInBox 0 = .ok (.iload_n 2, 1) := by decide +kernel
theorem dX7_isInBox_1 : decode cX7_isInBox 1 = .ok (.aload_n 0, 1) := by decide +kernel
theorem dX7_isInBox_2 : decode cX7_isInBox 2 = .ok (.iload_n 1, 1) := by decide +kernel
theorem dX7_isInBox_3 : decode cX7_isInBox 3 = .ok (.iconst 0, 1) := by decide +kernel
theorem dX7_isInBox_4 : decode cX7_isInBox 4 = .ok (.invokevirtual 55, 3) := by decide +kernel
theorem dX7_isInBox_7 : decode cX7_isInBox 7 = .ok (.if_icmp .lt 37, 3) := by decide +kernel
theorem dX7_isInBox_10 : decode cX7_isInBox 10 = .ok (.iload_n 2, 1) := by decide +kernel
theorem dX7_isInBox_11 : decode cX7_isInBox 11 = .ok (.aload_n 0, 1) := by decide +kernel
theorem dX7_isInBox_12 : decode cX7_isInBox 12 = .ok (.iload_n 1, 1) := by decide +kernel
theorem dX7_isInBox_13 : decode cX7_isInBox 13 = .ok (.iconst 1, 1) := by decide +kernel
theorem dX7_isInBox_14 : decode cX7_isInBox 14 = .ok (.invokevirtual 55, 3) := by decide +kernel
theorem dX7_isInBox_17 : decode cX7_isInBox 17 = .ok (.if_icmp .gt 27, 3) := by decide +kernel
theorem dX7_isInBox_20 : decode cX7_isInBox 20 = .ok (.iload_n 3, 1) := by decide +kernel
theorem dX7_isInBox_21 : decode cX7_isInBox 21 = .ok (.aload_n 0, 1) := by decide +kernel
theorem dX7_isInBox_22 : decode cX7_isInBox 22 = .ok (.iload_n 1, 1) := by decide +kernel
theorem dX7_isInBox_23 : decode cX7_isInBox 23 = .ok (.iconst 2, 1) := by decide +kernel
theorem dX7_isInBox_24 : decode cX7_isInBox 24 = .ok (.invokevirtual 55, 3) := by decide +kernel
theorem dX7_isInBox_27 : decode cX7_isInBox 27 = .ok (.if_icmp .lt 17, 3) := by decide +kernel
theorem dX7_isInBox_30 : decode cX7_isInBox 30 = .ok (.iload_n 3, 1) := by decide +kernel
theorem dX7_isInBox_31 : decode cX7_isInBox 31 = .ok (.aload_n 0, 1) := by decide +kernel
theorem dX7_isInBox_32 : decode cX7_isInBox 32 = .ok (.iload_n 1, 1) := by decide +kernel
theorem dX7_isInBox_33 : decode cX7_isInBox 33 = .ok (.iconst 3, 1) := by decide +kernel
theorem dX7_isInBox_34 : decode cX7_isInBox 34 = .ok (.invokevirtual 55, 3) := by decide +kernel
theorem dX7_isInBox_37 : decode cX7_isInBox 37 = .ok (.if_icmp .gt 7, 3) := by decide +kernel
theorem dX7_isInBox_40 : decode cX7_isInBox 40 = .ok (.iconst 1, 1) := by decide +kernel
theorem dX7_isInBox_41 : decode cX7_isInBox 41 = .ok (.goto 4, 3) := by decide +kernel
theorem dX7_isInBox_44 : decode cX7_isInBox 44 = .ok (.iconst 0, 1) := by decide +kernel
theorem dX7_isInBox_45 : decode cX7_isInBox 45 = .ok (.ireturn, 1) := by decide +kernel
theorem dX7_isOnOneSide_0 : decode cX7_isOnOneSide 0 = .ok (.iconst 0, 1) := by decide +kernel
theorem dX7_isOnOneSide_1 : decode cX7_isOnOneSide 1 = .ok (.istore 4, 2) := by decide +kernel
theorem dX7_isOnOneSide_3 : decode cX7_isOnOneSide 3 = .ok (.iconst 0, 1) := by decide +kernel
theorem dX7_isOnOneSide_4 : decode cX7_isOnOneSide 4 = .ok (.istore 5, 2) := by decide +kernel
theorem dX7_isOnOneSide_6 : decode cX7_isOnOneSide 6 = .ok (.aload_n 0, 1) := by decide +kernel
theorem dX7_isOnOneSide_7 : decode cX7_isOnOneSide 7 = .ok (.iload_n 1, 1) := by decide +kernel
theorem dX7_isOnOneSide_8 : decode cX7_isOnOneSide 8 = .ok (.invokevirtual 41, 3) := by decide +kernel
theorem dX7_isOnOneSide_11 : decode cX7_isOnOneSide 11 = .ok (.istore 6, 2) := by decide +kernel
theorem dX7_isOnOneSide_13 : decode cX7_isOnOneSide 13 = .ok (.iconst 0, 1) := by decide +kernel
theorem dX7_isOnOneSide_14 : decode cX7_isOnOneSide 14 = .ok (.istore 7, 2) := by decide +kernel
theorem dX7_isOnOneSide_16 : decode cX7_isOnOneSide 16 = .ok (.iload 7, 2) := by decide +kernel
theorem dX7_isOnOneSide_18 : decode cX7_isOnOneSide 18 = .ok (.iload 6, 2) := by decide +kernel
theorem dX7_isOnOneSide_20 : decode cX7_isOnOneSide 20 = .ok (.if_icmp .ge 143, 3) := by decide +kernel
theorem dX7_isOnOneSide_23 : decode cX7_isOnOneSide 23 = .ok (.iload 7, 2) := by decide +kernel
theorem dX7_isOnOneSide_25 : decode cX7_isOnOneSide 25 = .ok (.iconst 1, 1) := by decide +kernel
theorem dX7_isOnOneSide_26 : decode cX7_isOnOneSide 26 = .ok (.iadd, 1) := by decide +kernel
theorem dX7_isOnOneSide_27 : decode cX7_isOnOneSide 27 = .ok (.iload 6, 2) := by decide +kernel
theorem dX7_isOnOneSide_29 : decode cX7_isOnOneSide 29 = .ok (.if_icmp .ge 10, 3) := by decide +kernel
theorem dX7_isOnOneSide_32 : decode cX7_isOnOneSide 32 = .ok (.iload 7, 2) := by decide +kernel
theorem dX7_isOnOneSide_34 : decode cX7_isOnOneSide 34 = .ok (.iconst 1, 1) := by decide +kernel
theorem dX7_isOnOneSide_35 : decode cX7_isOnOneSide 35 = .ok (.iadd, 1) := by decide +kernel
theorem dX7_isOnOneSide_36 : decode cX7_isOnOneSide 36 = .ok (.goto 4, 3) := by decide +kernel
theorem dX7_isOnOneSide_39 : decode cX7_isOnOneSide 39 = .ok (.iconst 0, 1) := by decide +kernel
theorem dX7_isOnOneSide_40 : decode cX7_isOnOneSide 40 = .ok (.istore 8, 2) := by decide +kernel
theorem dX7_isOnOneSide_42 : decode cX7_isOnOneSide 42 = .ok (.aload_n 0, 1) := by decide +kernel
theorem dX7_isOnOneSide_43 : decode cX7_isOnOneSide 43 = .ok (.iload_n 1, 1) := by decide +kernel
theorem dX7_isOnOneSide_44 : decode cX7_isOnOneSide 44 = .ok (.iload 8, 2) := by decide +kernel
theorem dX7_isOnOneSide_46 : decode cX7_isOnOneSide 46 = .ok (.invokevirtual 44, 3) := by decide +kernel
theorem dX7_isOnOneSide_49 : decode cX7_isOnOneSide 49 = .ok (.aload_n 0, 1) := by decide +kernel
theorem dX7_isOnOneSide_50 : decode cX7_isOnOneSide 50 = .ok (.iload_n 1, 1) := by decide +kernel
theorem dX7_isOnOneSide_51 : decode cX7_isOnOneSide 51 = .ok (.iload 7, 2) := by decide +kernel
theorem dX7_isOnOneSide_53 : decode cX7_isOnOneSide 53 = .ok (.invokevirtual 44, 3) := by decide +kernel
theorem dX7_isOnOneSide_56 : decode cX7_isOnOneSide 56 = .ok (.isub, 1) := by decide +kernel
theorem dX7_isOnOneSide_57 : decode cX7_isOnOneSide 57 = .ok (.i2l, 1) := by decide +kernel
theorem dX7_isOnOneSide_58 : decode cX7_isOnOneSide 58 = .ok (.lstore 9, 2) := by decide +kernel
theorem dX7_isOnOneSide_60 : decode cX7_isOnOneSide 60 = .ok (.aload_n 0, 1) := by decide +kernel
theorem dX7_isOnOneSide_61 : decode cX7_isOnOneSide 61 = .ok (.iload_n 1, 1) := by decide +kernel
theorem dX7_isOnOneSide_62 : decode cX7_isOnOneSide 62 = .ok (.iload 8, 2) := by decide +kernel
theorem dX7_isOnOneSide_64 : decode cX7_isOnOneSide 64 = .ok (.invokevirtual 47, 3) := by decide +kernel
theorem dX7_isOnOneSide_67 : decode cX7_isOnOneSide 67 = .ok (.aload_n 0, 1) := by decide +kernel
theorem dX7_isOnOneSide_68 : decode cX7_isOnOneSide 68 = .ok (.iload_n 1, 1) := by decide +kernel
theorem dX7_isOnOneSide_69 : decode cX7_isOnOneSide 69 = .ok (.iload 7, 2) := by decide +kernel
theorem dX7_isOnOneSide_71 : decode cX7_isOnOneSide 71 = .ok (.invokevirtual 47, 3) := by decide +kernel
theorem dX7_isOnOneSide_74 : decode cX7_isOnOneSide 74 = .ok (.isub, 1) := by decide +kernel
theorem dX7_isOnOneSide_75 : decode cX7_isOnOneSide 75 = .ok (.i2l, 1) := by decide +kernel
theorem dX7_isOnOneSide_76 : decode cX7_isOnOneSide 76 = .ok (.lstore 11, 2) := by decide +kernel
theorem dX7_isOnOneSide_78 : decode cX7_isOnOneSide 78 = .ok (.lload 9, 2) := by decide +kernel
theorem dX7_isOnOneSide_80 : decode cX7_isOnOneSide 80 = .ok (.iload_n 3, 1) := by decide +kernel
theorem dX7_isOnOneSide_81 : decode cX7_isOnOneSide 81 = .ok (.aload_n 0, 1) := by decide +kernel
theorem dX7_isOnOneSide_82 : decode cX7_isOnOneSide 82 = .ok (.iload_n 1, 1) := by decide +kernel
theorem dX7_isOnOneSide_83 : decode cX7_isOnOneSide 83 = .ok (.iload 7, 2) := by decide +kernel
theorem dX7_isOnOneSide_85 : decode cX7_isOnOneSide 85 = .ok (.invokevirtual 47, 3) := by decide +kernel
theorem dX7_isOnOneSide_88 : decode cX7_isOnOneSide 88 = .ok (.isub, 1) := by decide +kernel
theorem dX7_isOnOneSide_89 : decode cX7_isOnOneSide 89 = .ok (.i2l, 1) := by decide +kernel
theorem dX7_isOnOneSide_90 : decode cX7_isOnOneSide 90 = .ok (.lmul, 1) := by decide +kernel
theorem dX7_isOnOneSide_91 : decode cX7_isOnOneSide 91 = .ok (.lload 11, 2) := by decide +kernel
theorem dX7_isOnOneSide_93 : decode cX7_isOnOneSide 93 = .ok (.iload_n 2, 1) := by decide +kernel
theorem dX7_isOnOneSide_94 : decode cX7_isOnOneSide 94 = .ok (.aload_n 0, 1) := by decide +kernel
theorem dX7_isOnOneSide_95 : decode cX7_isOnOneSide 95 = .ok (.iload_n 1, 1) := by decide +kernel
theorem dX7_isOnOneSide_96 : decode cX7_isOnOneSide 96 = .ok (.iload 7, 2) := by decide +kernel
theorem dX7_isOnOneSide_98 : decode cX7_isOnOneSide 98 = .ok (.invokevirtual 44, 3) := by decide +kernel
theorem dX7_isOnOneSide_101 : decode cX7_isOnOneSide 101 = .ok (.isub, 1) := by decide +kernel
theorem dX7_isOnOneSide_102 : decode cX7_isOnOneSide 102 = .ok (.i2l, 1) := by decide +kernel
theorem dX7_isOnOneSide_103 : decode cX7_isOnOneSide 103 = .ok (.lmul, 1) := by decide +kernel
theorem dX7_isOnOneSide_104 : decode cX7_isOnOneSide 104 = .ok (.lsub, 1) := by decide +kernel
theorem dX7_isOnOneSide_105 : decode cX7_isOnOneSide 105 = .ok (.lstore 13, 2) := by decide +kernel
theorem dX7_isOnOneSide_107 : decode cX7_isOnOneSide 107 = .ok (.iload 4, 2) := by decide +kernel
theorem dX7_isOnOneSide_109 : decode cX7_isOnOneSide 109 = .ok (.ifCond .ne 10, 3) := by decide +kernel
theorem dX7_isOnOneSide_112 : decode cX7_isOnOneSide 112 = .ok (.lload 13, 2) := by decide +kernel
theorem dX7_isOnOneSide_114 : decode cX7_isOnOneSide 114 = .ok (.lconst 0, 1) := by decide +kernel
theorem dX7_isOnOneSide_115 : decode cX7_isOnOneSide 115 = .ok (.lcmp, 1) := by decide +kernel
theorem dX7_isOnOneSide_116 : decode cX7_isOnOneSide 116 = .ok (.ifCond .le 7, 3) := by decide +kernel
theorem dX7_isOnOneSide_119 : decode cX7_isOnOneSide 119 = .ok (.iconst 1, 1) := by decide +kernel
theorem dX7_isOnOneSide_120 : decode cX7_isOnOneSide 120 = .ok (.goto 4, 3) := by decide +kernel
theorem dX7_isOnOneSide_123 : decode cX7_isOnOneSide 123 = .ok (.iconst 0, 1) := by decide +kernel
theorem dX7_isOnOneSide_124 : decode cX7_isOnOneSide 124 = .ok (.istore 4, 2) := by decide +kernel
theorem dX7_isOnOneSide_126 : decode cX7_isOnOneSide 126 = .ok (.iload 5, 2) := by decide +kernel
theorem dX7_isOnOneSide_128 : decode cX7_isOnOneSide 128 = .ok (.ifCond .ne 10, 3) := by decide +kernel
theorem dX7_isOnOneSide_131 : decode cX7_isOnOneSide 131 = .ok (.lload 13, 2) := by decide +kernel
theorem dX7_isOnOneSide_133 : decode cX7_isOnOneSide 133 = .ok (.lconst 0, 1) := by decide +kernel
theorem dX7_isOnOneSide_134 : decode cX7_isOnOneSide 134 = .ok (.lcmp, 1) := by decide +kernel
theorem dX7_isOnOneSide_135 : decode cX7_isOnOneSide 135 = .ok (.ifCond .ge 7, 3) := by decide +kernel
theorem dX7_isOnOneSide_138 : decode cX7_isOnOneSide 138 = .ok (.iconst 1, 1) := by decide +kernel
theorem dX7_isOnOneSide_139 : decode cX7_isOnOneSide 139 = .ok (.goto 4, 3) := by decide +kernel
theorem dX7_isOnOneSide_142 : decode cX7_isOnOneSide 142 = .ok (.iconst 0, 1) := by decide +kernel
theorem dX7_isOnOneSide_143 : decode cX7_isOnOneSide 143 = .ok (.istore 5, 2) := by decide +kernel
theorem dX7_isOnOneSide_145 : decode cX7_isOnOneSide 145 = .ok (.iload 4, 2) := by decide +kernel
theorem dX7_isOnOneSide_147 : decode cX7_isOnOneSide 147 = .ok (.ifCond .eq 10, 3) := by decide +kernel
theorem dX7_isOnOneSide_150 : decode cX7_isOnOneSide 150 = .ok (.iload 5, 2) := by decide +kernel
theorem dX7_isOnOneSide_152 : decode cX7_isOnOneSide 152 = .ok (.ifCond .eq 5, 3) := by decide +kernel
theorem dX7_isOnOneSide_155 : decode cX7_isOnOneSide 155 = .ok (.iconst 0, 1) := by decide +kernel
theorem dX7_isOnOneSide_156 : decode cX7_isOnOneSide 156 = .ok (.ireturn, 1) := by decide +kernel
theorem dX7_isOnOneSide_157 : decode cX7_isOnOneSide 157 = .ok (.iinc 7 1, 3) := by decide +kernel
theorem dX7_isOnOneSide_160 : decode cX7_isOnOneSide 160 = .ok (.goto (-144), 3) := by decide +kernel
theorem dX7_isOnOneSide_163 : decode cX7_isOnOneSide 163 = .ok (.iconst 1, 1) := by decide +kernel
theorem dX7_isOnOneSide_164 : decode cX7_isOnOneSide 164 = .ok (.ireturn, 1) := by decide +kernel
theorem dX8_init_0 : decode cX8_init 0 = .ok (.aload_n 0, 1) := by decide +kernel
theorem dX8_init_1 : decode cX8_init 1 = .ok (.invokespecial 3, 3) := by decide +kernel
theorem dX8_init_4 : decode cX8_init 4 = .ok (.aload_n 0, 1) := by decide +kernel
theorem dX8_init_5 : decode cX8_init 5 = .ok (.new 9, 3) := by decide +kernel
theorem dX8_init_8 : decode cX8_init 8 = .ok (.dup, 1) := by decide +kernel
theorem dX8_init_9 : decode cX8_init 9 = .ok (.invokespecial 11, 3) := by decide +kernel
theorem dX8_init_12 : decode cX8_init 12 = .ok (.putfield 12, 3) := by decide +kernel
theorem dX8_init_15 : decode cX8_init 15 = .ok (.aload_n 0, 1) := by decide +kernel
theorem dX8_init_16 : decode cX8_init 16 = .ok (.iconst 5, 1) := by decide +kernel
theorem dX8_init_17 : decode cX8_init 17 = .ok (.newarray .int, 2) := by decide +kernel
theorem dX8_init_19 : decode cX8_init 19 = .ok (.putfield 18, 3) := by decide +kernel
theorem dX8_init_22 : decode cX8_init 22 = .ok (.aload_n 0, 1) := by decide +kernel
theorem dX8_init_23 : decode cX8_init 23 = .ok (.sipush 928, 3) := by decide +kernel
theorem dX8_init_26 : decode cX8_init 26 = .ok (.newarray .int, 2) := by decide +kernel
theorem dX8_init_28 : decode cX8_init 28 = .ok (.putfield 22, 3) := by decide +kernel
theorem dX8_init_31 : decode cX8_init 31 = .ok (.aload_n 0, 1) := by decide +kernel
theorem dX8_init_32 : decode cX8_init 32 = .ok (.sipush 928, 3) := by decide +kernel
theorem dX8_init_35 : decode cX8_init 35 = .ok (.newarray .int, 2) := by decide +kernel
theorem dX8_init_37 : decode cX8_init 37 = .ok (.putfield 25, 3) := by decide +kernel
theorem dX8_init_40 : decode cX8_init 40 = .ok (.aload_n 0, 1) := by decide +kernel
theorem dX8_init_41 : decode cX8_init 41 = .ok (.sipush 928, 3) := by decide +kernel
theorem dX8_init_44 : decode cX8_init 44 = .ok (.newarray .int, 2) := by decide +kernel
theorem dX8_init_46 : decode cX8_init 46 = .ok (.putfield 28, 3) := by decide +kernel
theorem dX8_init_49 : decode cX8_init 49 = .ok (.aload_n 0, 1) := by decide +kernel
theorem dX8_init_50 : decode cX8_init 50 = .ok (.sipush 928, 3) := by decide +kernel
theorem dX8_init_53 : decode cX8_init 53 = .ok (.newarray .int, 2) := by decide +kernel
theorem dX8_init_55 : decode cX8_init 55 = .ok (.putfield 31, 3) := by decide +kernel
theorem dX8_init_58 : decode cX8_init 58 = .ok (.aload_n 0, 1) := by decide +kernel
theorem dX8_init_59 : decode cX8_init 59 = .ok (.sipush 928, 3) := by decide +kernel
theorem dX8_init_62 : decode cX8_init 62 = .ok (.newarray .int, 2) := by decide +kernel
theorem dX8_init_64 : decode cX8_init 64 = .ok (.putfield 34, 3) := by decide +kernel
theorem dX8_init_67 : decode cX8_init 67 = .ok (.aload_n 0, 1) := by decide +kernel
theorem dX8_init_68 : decode cX8_init 68 = .ok (.sipush 1024, 3) := by decide +kernel
theorem dX8_init_71 : decode cX8_init 71 = .ok (.newarray .int, 2) := by decide +kernel
theorem dX8_init_73 : decode cX8_init 73 = .ok (.putfield 37, 3) := by decide +kernel
theorem dX8_init_76 : decode cX8_init 76 = .ok (.aload_n 0, 1) := by decide +kernel
theorem dX8_init_77 : decode cX8_init 77 = .ok (.sipush 1024, 3) := by decide +kernel
theorem dX8_init_80 : decode cX8_init 80 = .ok (.newarray .int, 2) := by decide +kernel
theorem dX8_init_82 : decode cX8_init 82 = .ok (.putfield 40, 3) := by decide +kernel
theorem dX8_init_85 : decode cX8_init 85 = .ok (.aload_n 0, 1) := by decide +kernel
theorem dX8_init_86 : decode cX8_init 86 = .ok (.sipush 1024, 3) := by decide +kernel
theorem dX8_init_89 : decode cX8_init 89 = .ok (.newarray .int, 2) := by decide +kernel
theorem dX8_init_91 : decode cX8_init 91 = .ok (.putfield 43, 3) := by decide +kernel
theorem dX8_init_94 : decode cX8_init 94 = .ok (.return_, 1) := by decide +kernel
theorem dX8_walk_0 : decode cX8_walk 0 = .ok (.aload_n 0, 1) := by decide +kernel
theorem dX8_walk_1 : decode cX8_walk 1 = .ok (.iconst 0, 1) := by decide +kernel
theorem dX8_walk_2 : decode cX8_walk 2 = .ok (.putfield 46, 3) := by decide +kernel
theorem dX8_walk_5 : decode cX8_walk 5 = .ok (.aload_n 0, 1) := by decide +kernel
theorem dX8_walk_6 : decode cX8_walk 6 = .ok (.iconst 0, 1) := by decide +kernel
theorem dX8_walk_7 : decode cX8_walk 7 = .ok (.putfield 50, 3) := by decide +kernel
theorem dX8_walk_10 : decode cX8_walk 10 = .ok (.aload_n 0, 1) := by decide +kernel
theorem dX8_walk_11 : decode cX8_walk 11 = .ok (.getfield 12, 3) := by decide +kernel
theorem dX8_walk_14 : decode cX8_walk 14 = .ok (.aload_n 1, 1) := by decide +kernel
theorem dX8_walk_15 : decode cX8_walk 15 = .ok (.invokevirtual 53, 3) := by decide +kernel
theorem dX8_walk_18 : decode cX8_walk 18 = .ok (.iconst 0, 1) := by decide +kernel
theorem dX8_walk_19 : decode cX8_walk 19 = .ok (.istore_n 3, 1) := by decide +kernel
theorem dX8_walk_20 : decode cX8_walk 20 = .ok (.iload_n 3, 1) := by decide +kernel
theorem dX8_walk_21 : decode cX8_walk 21 = .ok (.iconst 4, 1) := by decide +kernel
theorem dX8_walk_22 : decode cX8_walk 22 = .ok (.if_icmp .ge 62, 3) := by decide +kernel
theorem dX8_walk_25 : decode cX8_walk 25 = .ok (.aload_n 0, 1) := by decide +kernel
theorem dX8_walk_26 : decode cX8_walk 26 = .ok (.getfield 18, 3) := by decide +kernel
theorem dX8_walk_29 : decode cX8_walk 29 = .ok (.iload_n 3, 1) := by decide +kernel
theorem dX8_walk_30 : decode cX8_walk 30 = .ok (.aload_n 0, 1) := by decide +kernel
theorem dX8_walk_31 : decode cX8_walk 31 = .ok (.getfield 46, 3) := by decide +kernel
theorem dX8_walk_34 : decode cX8_walk 34 = .ok (.iastore, 1) := by decide +kernel
theorem dX8_walk_35 : decode cX8_walk 35 = .ok (.iload_n 3, 1) := by decide +kernel
theorem dX8_walk_36 : decode cX8_walk 36 = .ok (.ifCond .eq 11, 3) := by decide +kernel
theorem dX8_walk_39 : decode cX8_walk 39 = .ok (.aload_n 1, 1) := by decide +kernel
theorem dX8_walk_40 : decode cX8_walk 40 = .ok (.iconst 5, 1) := by decide +kernel
theorem dX8_walk_41 : decode cX8_walk 41 = .ok (.invokevirtual 59, 3) := by decide +kernel
theorem dX8_walk_44 : decode cX8_walk 44 = .ok (.ifCond .ne 10, 3) := by decide +kernel
theorem dX8_walk_47 : decode cX8_walk 47 = .ok (.aload_n 0, 1) := by decide +kernel
theorem dX8_walk_48 : decode cX8_walk 48 = .ok (.getfield 12, 3) := by decide +kernel
theorem dX8_walk_51 : decode cX8_walk 51 = .ok (.invokevirtual 63, 3) := by decide +kernel
theorem dX8_walk_54 : decode cX8_walk 54 = .ok (.aload_n 0, 1) := by decide +kernel
theorem dX8_walk_55 : decode cX8_walk 55 = .ok (.aload_n 2, 1) := by decide +kernel
theorem dX8_walk_56 : decode cX8_walk 56 = .ok (.iload_n 3, 1) := by decide +kernel
theorem dX8_walk_57 : decode cX8_walk 57 = .ok (.invokevirtual 66, 3) := by decide +kernel
theorem dX8_walk_60 : decode cX8_walk 60 = .ok (.aload_n 1, 1) := by decide +kernel
theorem dX8_walk_61 : decode cX8_walk 61 = .ok (.iload_n 3, 1) := by decide +kernel
theorem dX8_walk_62 : decode cX8_walk 62 = .ok (.invokevirtual 70, 3) := by decide +kernel
theorem dX8_walk_65 : decode cX8_walk 65 = .ok (.ifCond .eq 13, 3) := by decide +kernel
theorem dX8_walk_68 : decode cX8_walk 68 = .ok (.aload_n 0, 1) := by decide +kernel
theorem dX8_walk_69 : decode cX8_walk 69 = .ok (.iload_n 3, 1) := by decide +kernel
theorem dX8_walk_70 : decode cX8_walk 70 = .ok (.aload_n 2, 1) := by decide +kernel
theorem dX8_walk_71 : decode cX8_walk 71 = .ok (.iload_n 3, 1) := by decide +kernel
theorem dX8_walk_72 : decode cX8_walk 72 = .ok (.invokevirtual 74, 3) := by decide +kernel
theorem dX8_walk_75 : decode cX8_walk 75 = .ok (.invokevirtual 79, 3) := by decide +kernel
theorem dX8_walk_78 : decode cX8_walk 78 = .ok (.iinc 3 1, 3) := by decide +kernel
theorem dX8_walk_81 : decode cX8_walk 81 = .ok (.goto (-61), 3) := by decide +kernel
theorem dX8_walk_84 : decode cX8_walk 84 = .ok (.aload_n 0, 1) := by decide +kernel
theorem dX8_walk_85 : decode cX8_walk 85 = .ok (.getfield 18, 3) := by decide +kernel
theorem dX8_walk_88 : decode cX8_walk 88 = .ok (.iconst 4, 1) := by decide +kernel
theorem dX8_walk_89 : decode cX8_walk 89 = .ok (.aload_n 0, 1) := by decide +kernel
theorem dX8_walk_90 : decode cX8_walk 90 = .ok (.getfield 46, 3) := by decide +kernel
theorem dX8_walk_93 : decode cX8_walk 93 = .ok (.iastore, 1) := by decide +kernel
theorem dX8_walk_94 : decode cX8_walk 94 = .ok (.return_, 1) := by decide +kernel
theorem dX8_walkSubpath_0 : decode cX8_walkSubpath 0 = .ok (.iconst 0, 1) := by decide +kernel
theorem dX8_walkSubpath_1 : decode cX8_walkSubpath 1 = .ok (.istore_n 3, 1) := by decide +kernel
theorem dX8_walkSubpath_2 : decode cX8_walkSubpath 2 = .ok (.iconst 0, 1) := by decide +kernel
theorem dX8_walkSubpath_3 : decode cX8_walkSubpath 3 = .ok (.istore 4, 2) := by decide +kernel
theorem dX8_walkSubpath_5 : decode cX8_walkSubpath 5 = .ok (.aload_n 1, 1) := by decide +kernel
theorem dX8_walkSubpath_6 : decode cX8_walkSubpath 6 = .ok (.iload_n 2, 1) := by decide +kernel
theorem dX8_walkSubpath_7 : decode cX8_walkSubpath 7 = .ok (.invokevirtual 83, 3) := by decide +kernel
theorem dX8_walkSubpath_10 : decode cX8_walkSubpath 10 = .ok (.istore 5, 2) := by decide +kernel
theorem dX8_walkSubpath_12 : decode cX8_walkSubpath 12 = .ok (.iload 5, 2) := by decide +kernel
theorem dX8_walkSubpath_14 : decode cX8_walkSubpath 14 = .ok (.aload_n 1, 1) := by decide +kernel
theorem dX8_walkSubpath_15 : decode cX8_walkSubpath 15 = .ok (.iload_n 2, 1) := by decide +kernel
theorem dX8_walkSubpath_16 : decode cX8_walkSubpath 16 = .ok (.invokevirtual 86, 3) := by decide +kernel
theorem dX8_walkSubpath_19 : decode cX8_walkSubpath 19 = .ok (.if_icmp .ge 120, 3) := by decide +kernel
theorem dX8_walkSubpath_22 : decode cX8_walkSubpath 22 = .ok (.aload_n 1, 1) := by decide +kernel
theorem dX8_walkSubpath_23 : decode cX8_walkSubpath 23 = .ok (.iload 5, 2) := by decide +kernel
theorem dX8_walkSubpath_25 : decode cX8_walkSubpath 25 = .ok (.invokevirtual 89, 3) := by decide +kernel
theorem dX8_walkSubpath_28 : decode cX8_walkSubpath 28 = .ok (.istore 6, 2) := by decide +kernel
theorem dX8_walkSubpath_30 : decode cX8_walkSubpath 30 = .ok (.iconst 1, 1) := by decide +kernel
theorem dX8_walkSubpath_31 : decode cX8_walkSubpath 31 = .ok (.istore 7, 2) := by decide +kernel
theorem dX8_walkSubpath_33 : decode cX8_walkSubpath 33 = .ok (.iconst 0, 1) := by decide +kernel
theorem dX8_walkSubpath_34 : decode cX8_walkSubpath 34 = .ok (.istore 8, 2) := by decide +kernel
theorem dX8_walkSubpath_36 : decode cX8_walkSubpath 36 = .ok (.iload 8, 2) := by decide +kernel
theorem dX8_walkSubpath_38 : decode cX8_walkSubpath 38 = .ok (.iload 6, 2) := by decide +kernel
theorem dX8_walkSubpath_40 : decode cX8_walkSubpath 40 = .ok (.if_icmp .ge 86, 3) := by decide +kernel
theorem dX8_walkSubpath_43 : decode cX8_walkSubpath 43 = .ok (.iconst 1, 1) := by decide +kernel
theorem dX8_walkSubpath_44 : decode cX8_walkSubpath 44 = .ok (.aload_n 0, 1) := by decide +kernel
theorem dX8_walkSubpath_45 : decode cX8_walkSubpath 45 = .ok (.getfield 12, 3) := by decide +kernel
theorem dX8_walkSubpath_48 : decode cX8_walkSubpath 48 = .ok (.invokevirtual 92, 3) := by decide +kernel
theorem dX8_walkSubpath_51 : decode cX8_walkSubpath 51 = .ok (.iload 6, 2) := by decide +kernel
theorem dX8_walkSubpath_53 : decode cX8_walkSubpath 53 = .ok (.iload 8, 2) := by decide +kernel
theorem dX8_walkSubpath_55 : decode cX8_walkSubpath 55 = .ok (.isub, 1) := by decide +kernel
theorem dX8_walkSubpath_56 : decode cX8_walkSubpath 56 = .ok (.invokestatic 96, 3) := by decide +kernel
theorem dX8_walkSubpath_59 : decode cX8_walkSubpath 59 = .ok (.invokestatic 102, 3) := by decide +kernel
theorem dX8_walkSubpath_62 : decode cX8_walkSubpath 62 = .ok (.istore 7, 2) := by decide +kernel
theorem dX8_walkSubpath_64 : decode cX8_walkSubpath 64 = .ok (.aload_n 0, 1) := by decide +kernel
theorem dX8_walkSubpath_65 : decode cX8_walkSubpath 65 = .ok (.getfield 12, 3) := by decide +kernel
theorem dX8_walkSubpath_68 : decode cX8_walkSubpath 68 = .ok (.invokevirtual 105, 3) := by decide +kernel
theorem dX8_walkSubpath_71 : decode cX8_walkSubpath 71 = .ok (.ifCond .eq 31, 3) := by decide +kernel
theorem dX8_walkSubpath_74 : decode cX8_walkSubpath 74 = .ok (.iload_n 3, 1) := by decide +kernel
theorem dX8_walkSubpath_75 : decode cX8_walkSubpath 75 = .ok (.ifCond .ne 12, 3) := by decide +kernel
theorem dX8_walkSubpath_78 : decode cX8_walkSubpath 78 = .ok (.aload_n 0, 1) := by decide +kernel
theorem dX8_walkSubpath_79 : decode cX8_walkSubpath 79 = .ok (.iload 4, 2) := by decide +kernel
theorem dX8_walkSubpath_81 : decode cX8_walkSubpath 81 = .ok (.iload 8, 2) := by decide +kernel
theorem dX8_walkSubpath_83 : decode cX8_walkSubpath 83 = .ok (.iadd, 1) := by decide +kernel
theorem dX8_walkSubpath_84 : decode cX8_walkSubpath 84 = .ok (.invokevirtual 109, 3) := by decide +kernel
theorem dX8_walkSubpath_87 : decode cX8_walkSubpath 87 = .ok (.aload_n 0, 1) := by decide +kernel
theorem dX8_walkSubpath_88 : decode cX8_walkSubpath 88 = .ok (.iload 5, 2) := by decide +kernel
theorem dX8_walkSubpath_90 : decode cX8_walkSubpath 90 = .ok (.iload 8, 2) := by decide +kernel
theorem dX8_walkSubpath_92 : decode cX8_walkSubpath 92 = .ok (.iload 8, 2) := by decide +kernel
theorem dX8_walkSubpath_94 : decode cX8_walkSubpath 94 = .ok (.iload 7, 2) := by decide +kernel
theorem dX8_walkSubpath_96 : decode cX8_walkSubpath 96 = .ok (.iadd, 1) := by decide +kernel
theorem dX8_walkSubpath_97 : decode cX8_walkSubpath 97 = .ok (.invokevirtual 113, 3) := by decide +kernel
theorem dX8_walkSubpath_100 : decode cX8_walkSubpath 100 = .ok (.iconst 1, 1) := by decide +kernel
theorem dX8_walkSubpath_101 : decode cX8_walkSubpath 101 = .ok (.istore_n 3, 1) := by decide +kernel
theorem dX8_walkSubpath_102 : decode cX8_walkSubpath 102 = .ok (.aload_n 0, 1) := by decide +kernel
theorem dX8_walkSubpath_103 : decode cX8_walkSubpath 103 = .ok (.getfield 12, 3) := by decide +kernel
theorem dX8_walkSubpath_106 : decode cX8_walkSubpath 106 = .ok (.iload 7, 2) := by decide +kernel
theorem dX8_walkSubpath_108 : decode cX8_walkSubpath 108 = .ok (.invokevirtual 117, 3) := by decide +kernel
theorem dX8_walkSubpath_111 : decode cX8_walkSubpath 111 = .ok (.ifCond .eq 5, 3) := by decide +kernel
theorem dX8_walkSubpath_114 : decode cX8_walkSubpath 114 = .ok (.iconst 0, 1) := by decide +kernel
theorem dX8_walkSubpath_115 : decode cX8_walkSubpath 115 = .ok (.istore_n 3, 1) := by decide +kernel
theorem dX8_walkSubpath_116 : decode cX8_walkSubpath 116 = .ok (.iload 8, 2) := by decide +kernel
theorem dX8_walkSubpath_118 : decode cX8_walkSubpath 118 = .ok (.iload 7, 2) := by decide +kernel
theorem dX8_walkSubpath_120 : decode cX8_walkSubpath 120 = .ok (.iadd, 1) := by decide +kernel
theorem dX8_walkSubpath_121 : decode cX8_walkSubpath 121 = .ok (.istore 8, 2) := by decide +kernel
theorem dX8_walkSubpath_123 : decode cX8_walkSubpath 123 = .ok (.goto (-87), 3) := by decide +kernel
theorem dX8_walkSubpath_126 : decode cX8_walkSubpath 126 = .ok (.iload 4, 2) := by decide +kernel
theorem dX8_walkSubpath_128 : decode cX8_walkSubpath 128 = .ok (.iload 6, 2) := by decide +kernel
theorem dX8_walkSubpath_130 : decode cX8_walkSubpath 130 = .ok (.iadd, 1) := by decide +kernel
theorem dX8_walkSubpath_131 : decode cX8_walkSubpath 131 = .ok (.istore 4, 2) := by decide +kernel
theorem dX8_walkSubpath_133 : decode cX8_walkSubpath 133 = .ok (.iinc 5 1, 3) := by decide +kernel
theorem dX8_walkSubpath_136 : decode cX8_walkSubpath 136 = .ok (.goto (-124), 3) := by decide +kernel
theorem dX8_walkSubpath_139 : decode cX8_walkSubpath 139 = .ok (.return_, 1) := by decide +kernel
theorem dX8_addRun_0 : decode cX8_addRun 0 = .ok (.aload_n 0, 1) := by decide +kernel
theorem dX8_addRun_1 : decode cX8_addRun 1 = .ok (.getfield 46, 3) := by decide +kernel
theorem dX8_addRun_4 : decode cX8_addRun 4 = .ok (.ifCond .lt 76, 3) := by decide +kernel
theorem dX8_addRun_7 : decode cX8_addRun 7 = .ok (.aload_n 0, 1) := by decide +kernel
theorem dX8_addRun_8 : decode cX8_addRun 8 = .ok (.getfield 46, 3) := by decide +kernel
theorem dX8_addRun_11 : decode cX8_addRun 11 = .ok (.sipush 928, 3) := by decide +kernel
theorem dX8_addRun_14 : decode cX8_addRun 14 = .ok (.if_icmp .ge 66, 3) := by decide +kernel
theorem dX8_addRun_17 : decode cX8_addRun 17 = .ok (.aload_n 0, 1) := by decide +kernel
theorem dX8_addRun_18 : decode cX8_addRun 18 = .ok (.getfield 22, 3) := by decide +kernel
theorem dX8_addRun_21 : decode cX8_addRun 21 = .ok (.aload_n 0, 1) := by decide +kernel
theorem dX8_addRun_22 : decode cX8_addRun 22 = .ok (.getfield 46, 3) := by decide +kernel
theorem dX8_addRun_25 : decode cX8_addRun 25 = .ok (.iload_n 1, 1) := by decide +kernel
theorem dX8_addRun_26 : decode cX8_addRun 26 = .ok (.iastore, 1) := by decide +kernel
theorem dX8_addRun_27 : decode cX8_addRun 27 = .ok (.aload_n 0, 1) := by decide +kernel
theorem dX8_addRun_28 : decode cX8_addRun 28 = .ok (.getfield 25, 3) := by decide +kernel
theorem dX8_addRun_31 : decode cX8_addRun 31 = .ok (.aload_n 0, 1) := by decide +kernel
theorem dX8_addRun_32 : decode cX8_addRun 32 = .ok (.getfield 46, 3) := by decide +kernel
theorem dX8_addRun_35 : decode cX8_addRun 35 = .ok (.iconst 0, 1) := by decide +kernel
theorem dX8_addRun_36 : decode cX8_addRun 36 = .ok (.iastore, 1) := by decide +kernel
theorem dX8_addRun_37 : decode cX8_addRun 37 = .ok (.aload_n 0, 1) := by decide +kernel
theorem dX8_addRun_38 : decode cX8_addRun 38 = .ok (.getfield 28, 3) := by decide +kernel
theorem dX8_addRun_41 : decode cX8_addRun 41 = .ok (.aload_n 0, 1) := by decide +kernel
theorem dX8_addRun_42 : decode cX8_addRun 42 = .ok (.getfield 46, 3) := by decide +kernel
theorem dX8_addRun_45 : decode cX8_addRun 45 = .ok (.iconst 0, 1) := by decide +kernel
theorem dX8_addRun_46 : decode cX8_addRun 46 = .ok (.iastore, 1) := by decide +kernel
theorem dX8_addRun_47 : decode cX8_addRun 47 = .ok (.aload_n 0, 1) := by decide +kernel
theorem dX8_addRun_48 : decode cX8_addRun 48 = .ok (.getfield 31, 3) := by decide +kernel
theorem dX8_addRun_51 : decode cX8_addRun 51 = .ok (.aload_n 0, 1) := by decide +kernel
theorem dX8_addRun_52 : decode cX8_addRun 52 = .ok (.getfield 46, 3) := by decide +kernel
theorem dX8_addRun_55 : decode cX8_addRun 55 = .ok (.aload_n 0, 1) := by decide +kernel
theorem dX8_addRun_56 : decode cX8_addRun 56 = .ok (.getfield 50, 3) := by decide +kernel
theorem dX8_addRun_59 : decode cX8_addRun 59 = .ok (.iastore, 1) := by decide +kernel
theorem dX8_addRun_60 : decode cX8_addRun 60 = .ok (.aload_n 0, 1) := by decide +kernel
theorem dX8_addRun_61 : decode cX8_addRun 61 = .ok (.getfield 34, 3) := by decide +kernel
theorem dX8_addRun_64 : decode cX8_addRun 64 = .ok (.aload_n 0, 1) := by decide +kernel
theorem dX8_addRun_65 : decode cX8_addRun 65 = .ok (.getfield 46, 3) := by decide +kernel
theorem dX8_addRun_68 : decode cX8_addRun 68 = .ok (.iconst 0, 1) := by decide +kernel
theorem dX8_addRun_69 : decode cX8_addRun 69 = .ok (.iastore, 1) := by decide +kernel
theorem dX8_addRun_70 : decode cX8_addRun 70 = .ok (.aload_n 0, 1) := by decide +kernel
theorem dX8_addRun_71 : decode cX8_addRun 71 = .ok (.dup, 1) := by decide +kernel
theorem dX8_addRun_72 : decode cX8_addRun 72 = .ok (.getfield 46, 3) := by decide +kernel
theorem dX8_addRun_75 : decode cX8_addRun 75 = .ok (.iconst 1, 1) := by decide +kernel
theorem dX8_addRun_76 : decode cX8_addRun 76 = .ok (.iadd, 1) := by decide +kernel
theorem dX8_addRun_77 : decode cX8_addRun 77 = .ok (.putfield 46, 3) := by decide +kernel
theorem dX8_addRun_80 : decode cX8_addRun 80 = .ok (.return_, 1) := by decide +kernel
theorem dX8_addSpan_0 : decode cX8_addSpan 0 = .ok (.aload_n 0, 1) := by decide +kernel
theorem dX8_addSpan_1 : decode cX8_addSpan 1 = .ok (.getfield 46, 3) := by decide +kernel
theorem dX8_addSpan_4 : decode cX8_addSpan 4 = .ok (.iconst 1, 1) := by decide +kernel
theorem dX8_addSpan_5 : decode cX8_addSpan 5 = .ok (.isub, 1) := by decide +kernel
theorem dX8_addSpan_6 : decode cX8_addSpan 6 = .ok (.istore 4, 2) := by decide +kernel
theorem dX8_addSpan_8 : decode cX8_addSpan 8 = .ok (.iload 4, 2) := by decide +kernel
theorem dX8_addSpan_10 : decode cX8_addSpan 10 = .ok (.ifCond .lt 92, 3) := by decide +kernel
theorem dX8_addSpan_13 : decode cX8_addSpan 13 = .ok (.iload 4, 2) := by decide +kernel
theorem dX8_addSpan_15 : decode cX8_addSpan 15 = .ok (.sipush 928, 3) := by decide +kernel
theorem dX8_addSpan_18 : decode cX8_addSpan 18 = .ok (.if_icmp .ge 84, 3) := by decide +kernel
theorem dX8_addSpan_21 : decode cX8_addSpan 21 = .ok (.aload_n 0, 1) := by decide +kernel
theorem dX8_addSpan_22 : decode cX8_addSpan 22 = .ok (.getfield 50, 3) := by decide +kernel
theorem dX8_addSpan_25 : decode cX8_addSpan 25 = .ok (.ifCond .lt 77, 3) := by decide +kernel
theorem dX8_addSpan_28 : decode cX8_addSpan 28 = .ok (.aload_n 0, 1) := by decide +kernel
theorem dX8_addSpan_29 : decode cX8_addSpan 29 = .ok (.getfield 50, 3) := by decide +kernel
theorem dX8_addSpan_32 : decode cX8_addSpan 32 = .ok (.sipush 1024, 3) := by decide +kernel
theorem dX8_addSpan_35 : decode cX8_addSpan 35 = .ok (.if_icmp .ge 67, 3) := by decide +kernel
theorem dX8_addSpan_38 : decode cX8_addSpan 38 = .ok (.aload_n 0, 1) := by decide +kernel
theorem dX8_addSpan_39 : decode cX8_addSpan 39 = .ok (.getfield 37, 3) := by decide +kernel
theorem dX8_addSpan_42 : decode cX8_addSpan 42 = .ok (.aload_n 0, 1) := by decide +kernel
theorem dX8_addSpan_43 : decode cX8_addSpan 43 = .ok (.getfield 50, 3) := by decide +kernel
theorem dX8_addSpan_46 : decode cX8_addSpan 46 = .ok (.iload_n 1, 1) := by decide +kernel
theorem dX8_addSpan_47 : decode cX8_addSpan 47 = .ok (.iastore, 1) := by decide +kernel
theorem dX8_addSpan_48 : decode cX8_addSpan 48 = .ok (.aload_n 0, 1) := by decide +kernel
theorem dX8_addSpan_49 : decode cX8_addSpan 49 = .ok (.getfield 40, 3) := by decide +kernel
theorem dX8_addSpan_52 : decode cX8_addSpan 52 = .ok (.aload_n 0, 1) := by decide +kernel
theorem dX8_addSpan_53 : decode cX8_addSpan 53 = .ok (.getfield 50, 3) := by decide +kernel
theorem dX8_addSpan_56 : decode cX8_addSpan 56 = .ok (.iload_n 2, 1) := by decide +kernel
theorem dX8_addSpan_57 : decode cX8_addSpan 57 = .ok (.iastore, 1) := by decide +kernel
theorem dX8_addSpan_58 : decode cX8_addSpan 58 = .ok (.aload_n 0, 1) := by decide +kernel
theorem dX8_addSpan_59 : decode cX8_addSpan 59 = .ok (.getfield 43, 3) := by decide +kernel
theorem dX8_addSpan_62 : decode cX8_addSpan 62 = .ok (.aload_n 0, 1) := by decide +kernel
theorem dX8_addSpan_63 : decode cX8_addSpan 63 = .ok (.getfield 50, 3) := by decide +kernel
theorem dX8_addSpan_66 : decode cX8_addSpan 66 = .ok (.iload_n 3, 1) := by decide +kernel
theorem dX8_addSpan_67 : decode cX8_addSpan 67 = .ok (.iastore, 1) := by decide +kernel
theorem dX8_addSpan_68 : decode cX8_addSpan 68 = .ok (.aload_n 0, 1) := by decide +kernel
theorem dX8_addSpan_69 : decode cX8_addSpan 69 = .ok (.dup, 1) := by decide +kernel
theorem dX8_addSpan_70 : decode cX8_addSpan 70 = .ok (.getfield 50, 3) := by decide +kernel
theorem dX8_addSpan_73 : decode cX8_addSpan 73 = .ok (.iconst 1, 1) := by decide +kernel
theorem dX8_addSpan_74 : decode cX8_addSpan 74 = .ok (.iadd, 1) := by decide +kernel
theorem dX8_addSpan_75 : decode cX8_addSpan 75 = .ok (.putfield 50, 3) := by decide +kernel
theorem dX8_addSpan_78 : decode cX8_addSpan 78 = .ok (.aload_n 0, 1) := by decide +kernel
theorem dX8_addSpan_79 : decode cX8_addSpan 79 = .ok (.getfield 25, 3) := by decide +kernel
theorem dX8_addSpan_82 : decode cX8_addSpan 82 = .ok (.iload 4, 2) := by decide +kernel
theorem dX8_addSpan_84 : decode cX8_addSpan 84 = .ok (.dup2, 1) := by decide +kernel
theorem dX8_addSpan_85 : decode cX8_addSpan 85 = .ok (.iaload, 1) := by decide +kernel
theorem dX8_addSpan_86 : decode cX8_addSpan 86 = .ok (.iload_n 3, 1) := by decide +kernel
theorem dX8_addSpan_87 : decode cX8_addSpan 87 = .ok (.iload_n 2, 1) := by decide +kernel
theorem dX8_addSpan_88 : decode cX8_addSpan 88 = .ok (.isub, 1) := by decide +kernel
theorem dX8_addSpan_89 : decode cX8_addSpan 89 = .ok (.iadd, 1) := by decide +kernel
theorem dX8_addSpan_90 : decode cX8_addSpan 90 = .ok (.iastore, 1) := by decide +kernel
theorem dX8_addSpan_91 : decode cX8_addSpan 91 = .ok (.aload_n 0, 1) := by decide +kernel
theorem dX8_addSpan_92 : decode cX8_addSpan 92 = .ok (.getfield 34, 3) := by decide +kernel
theorem dX8_addSpan_95 : decode cX8_addSpan 95 = .ok (.iload 4, 2) := by decide +kernel
theorem dX8_addSpan_97 : decode cX8_addSpan 97 = .ok (.dup2, 1) := by decide +kernel
theorem dX8_addSpan_98 : decode cX8_addSpan 98 = .ok (.iaload, 1) := by decide +kernel
theorem dX8_addSpan_99 : decode cX8_addSpan 99 = .ok (.iconst 1, 1) := by decide +kernel
theorem dX8_addSpan_100 : decode cX8_addSpan 100 = .ok (.iadd, 1) := by decide +kernel
theorem dX8_addSpan_101 : decode cX8_addSpan 101 = .ok (.iastore, 1) := by decide +kernel
theorem dX8_addSpan_102 : decode cX8_addSpan 102 = .ok (.return_, 1) := by decide +kernel
theorem dX8_joinEnds_0 : decode cX8_joinEnds 0 = .ok (.aload_n 0, 1) := by decide +kernel
theorem dX8_joinEnds_1 : decode cX8_joinEnds 1 = .ok (.iload_n 1, 1) := by decide +kernel
theorem dX8_joinEnds_2 : decode cX8_joinEnds 2 = .ok (.invokevirtual 120, 3) := by decide +kernel
theorem dX8_joinEnds_5 : decode cX8_joinEnds 5 = .ok (.istore_n 3, 1) := by decide +kernel
theorem dX8_joinEnds_6 : decode cX8_joinEnds 6 = .ok (.aload_n 0, 1) := by decide +kernel
theorem dX8_joinEnds_7 : decode cX8_joinEnds 7 = .ok (.getfield 46, 3) := by decide +kernel
theorem dX8_joinEnds_10 : decode cX8_joinEnds 10 = .ok (.iconst 1, 1) := by decide +kernel
theorem dX8_joinEnds_11 : decode cX8_joinEnds 11 = .ok (.isub, 1) := by decide +kernel
theorem dX8_joinEnds_12 : decode cX8_joinEnds 12 = .ok (.istore 4, 2) := by decide +kernel
theorem dX8_joinEnds_14 : decode cX8_joinEnds 14 = .ok (.iload_n 3, 1) := by decide +kernel
theorem dX8_joinEnds_15 : decode cX8_joinEnds 15 = .ok (.ifCond .lt 45, 3) := by decide +kernel
theorem dX8_joinEnds_18 : decode cX8_joinEnds 18 = .ok (.iload 4, 2) := by decide +kernel
theorem dX8_joinEnds_20 : decode cX8_joinEnds 20 = .ok (.iload_n 3, 1) := by decide +kernel
theorem dX8_joinEnds_21 : decode cX8_joinEnds 21 = .ok (.if_icmp .lt 39, 3) := by decide +kernel
theorem dX8_joinEnds_24 : decode cX8_joinEnds 24 = .ok (.iload 4, 2) := by decide +kernel
theorem dX8_joinEnds_26 : decode cX8_joinEnds 26 = .ok (.sipush 928, 3) := by decide +kernel
theorem dX8_joinEnds_29 : decode cX8_joinEnds 29 = .ok (.if_icmp .ge 31, 3) := by decide +kernel
theorem dX8_joinEnds_32 : decode cX8_joinEnds 32 = .ok (.aload_n 0, 1) := by decide +kernel
theorem dX8_joinEnds_33 : decode cX8_joinEnds 33 = .ok (.getfield 22, 3) := by decide +kernel
theorem dX8_joinEnds_36 : decode cX8_joinEnds 36 = .ok (.iload_n 3, 1) := by decide +kernel
theorem dX8_joinEnds_37 : decode cX8_joinEnds 37 = .ok (.iaload, 1) := by decide +kernel
theorem dX8_joinEnds_38 : decode cX8_joinEnds 38 = .ok (.ifCond .ne 22, 3) := by decide +kernel
theorem dX8_joinEnds_41 : decode cX8_joinEnds 41 = .ok (.aload_n 0, 1) := by decide +kernel
theorem dX8_joinEnds_42 : decode cX8_joinEnds 42 = .ok (.getfield 22, 3) := by decide +kernel
theorem dX8_joinEnds_45 : decode cX8_joinEnds 45 = .ok (.iload 4, 2) := by decide +kernel
theorem dX8_joinEnds_47 : decode cX8_joinEnds 47 = .ok (.iaload, 1) := by decide +kernel
theorem dX8_joinEnds_48 : decode cX8_joinEnds 48 = .ok (.aload_n 0, 1) := by decide +kernel
theorem dX8_joinEnds_49 : decode cX8_joinEnds 49 = .ok (.getfield 25, 3) := by decide +kernel
theorem dX8_joinEnds_52 : decode cX8_joinEnds 52 = .ok (.iload 4, 2) := by decide +kernel
theorem dX8_joinEnds_54 : decode cX8_joinEnds 54 = .ok (.iaload, 1) := by decide +kernel
theorem dX8_joinEnds_55 : decode cX8_joinEnds 55 = .ok (.iadd, 1) := by decide +kernel
theorem dX8_joinEnds_56 : decode cX8_joinEnds 56 = .ok (.iload_n 2, 1) := by decide +kernel
theorem dX8_joinEnds_57 : decode cX8_joinEnds 57 = .ok (.if_icmp .eq 4, 3) := by decide +kernel
theorem dX8_joinEnds_60 : decode cX8_joinEnds 60 = .ok (.return_, 1) := by decide +kernel
theorem dX8_joinEnds_61 : decode cX8_joinEnds 61 = .ok (.iload_n 3, 1) := by decide +kernel
theorem dX8_joinEnds_62 : decode cX8_joinEnds 62 = .ok (.iload 4, 2) := by decide +kernel
theorem dX8_joinEnds_64 : decode cX8_joinEnds 64 = .ok (.if_icmp .ne 11, 3) := by decide +kernel
theorem dX8_joinEnds_67 : decode cX8_joinEnds 67 = .ok (.aload_n 0, 1) := by decide +kernel
theorem dX8_joinEnds_68 : decode cX8_joinEnds 68 = .ok (.getfield 28, 3) := by decide +kernel
theorem dX8_joinEnds_71 : decode cX8_joinEnds 71 = .ok (.iload_n 3, 1) := by decide +kernel
theorem dX8_joinEnds_72 : decode cX8_joinEnds 72 = .ok (.iconst 1, 1) := by decide +kernel
theorem dX8_joinEnds_73 : decode cX8_joinEnds 73 = .ok (.iastore, 1) := by decide +kernel
theorem dX8_joinEnds_74 : decode cX8_joinEnds 74 = .ok (.return_, 1) := by decide +kernel
theorem dX8_joinEnds_75 : decode cX8_joinEnds 75 = .ok (.aload_n 0, 1) := by decide +kernel
theorem dX8_joinEnds_76 : decode cX8_joinEnds 76 = .ok (.getfield 31, 3) := by decide +kernel
theorem dX8_joinEnds_79 : decode cX8_joinEnds 79 = .ok (.iload_n 3, 1) := by decide +kernel
theorem dX8_joinEnds_80 : decode cX8_joinEnds 80 = .ok (.iaload, 1) := by decide +kernel
theorem dX8_joinEnds_81 : decode cX8_joinEnds 81 = .ok (.istore 5, 2) := by decide +kernel
theorem dX8_joinEnds_83 : decode cX8_joinEnds 83 = .ok (.iload 5, 2) := by decide +kernel
theorem dX8_joinEnds_85 : decode cX8_joinEnds 85 = .ok (.aload_n 0, 1) := by decide +kernel
theorem dX8_joinEnds_86 : decode cX8_joinEnds 86 = .ok (.getfield 34, 3) := by decide +kernel
theorem dX8_joinEnds_89 : decode cX8_joinEnds 89 = .ok (.iload_n 3, 1) := by decide +kernel
theorem dX8_joinEnds_90 : decode cX8_joinEnds 90 = .ok (.iaload, 1) := by decide +kernel
theorem dX8_joinEnds_91 : decode cX8_joinEnds 91 = .ok (.iadd, 1) := by decide +kernel
theorem dX8_joinEnds_92 : decode cX8_joinEnds 92 = .ok (.istore 6, 2) := by decide +kernel
theorem dX8_joinEnds_94 : decode cX8_joinEnds 94 = .ok (.iload 5, 2) := by decide +kernel
theorem dX8_joinEnds_96 : decode cX8_joinEnds 96 = .ok (.istore 7, 2) := by decide +kernel
theorem dX8_joinEnds_98 : decode cX8_joinEnds 98 = .ok (.iload 7, 2) := by decide +kernel
theorem dX8_joinEnds_100 : decode cX8_joinEnds 100 = .ok (.iload 6, 2) := by decide +kernel
theorem dX8_joinEnds_102 : decode cX8_joinEnds 102 = .ok (.if_icmp .ge 31, 3) := by decide +kernel
theorem dX8_joinEnds_105 : decode cX8_joinEnds 105 = .ok (.aload_n 0, 1) := by decide +kernel
theorem dX8_joinEnds_106 : decode cX8_joinEnds 106 = .ok (.aload_n 0, 1) := by decide +kernel
theorem dX8_joinEnds_107 : decode cX8_joinEnds 107 = .ok (.iload 7, 2) := by decide +kernel
theorem dX8_joinEnds_109 : decode cX8_joinEnds 109 = .ok (.invokevirtual 121, 3) := by decide +kernel
theorem dX8_joinEnds_112 : decode cX8_joinEnds 112 = .ok (.aload_n 0, 1) := by decide +kernel
theorem dX8_joinEnds_113 : decode cX8_joinEnds 113 = .ok (.iload 7, 2) := by decide +kernel
theorem dX8_joinEnds_115 : decode cX8_joinEnds 115 = .ok (.invokevirtual 124, 3) := by decide +kernel
theorem dX8_joinEnds_118 : decode cX8_joinEnds 118 = .ok (.aload_n 0, 1) := by decide +kernel
theorem dX8_joinEnds_119 : decode cX8_joinEnds 119 = .ok (.iload 7, 2) := by decide +kernel
theorem dX8_joinEnds_121 : decode cX8_joinEnds 121 = .ok (.invokevirtual 127, 3) := by decide +kernel
theorem dX8_joinEnds_124 : decode cX8_joinEnds 124 = .ok (.invokevirtual 113, 3) := by decide +kernel
theorem dX8_joinEnds_127 : decode cX8_joinEnds 127 = .ok (.iinc 7 1, 3) := by decide +kernel
theorem dX8_joinEnds_130 : decode cX8_joinEnds 130 = .ok (.goto (-32), 3) := by decide +kernel
theorem dX8_joinEnds_133 : decode cX8_joinEnds 133 = .ok (.aload_n 0, 1) := by decide +kernel
theorem dX8_joinEnds_134 : decode cX8_joinEnds 134 = .ok (.getfield 22, 3) := by decide +kernel
theorem dX8_joinEnds_137 : decode cX8_joinEnds 137 = .ok (.iload_n 3, 1) := by decide +kernel
theorem dX8_joinEnds_138 : decode cX8_joinEnds 138 = .ok (.aload_n 0, 1) := by decide +kernel
theorem dX8_joinEnds_139 : decode cX8_joinEnds 139 = .ok (.getfield 22, 3) := by decide +kernel
theorem dX8_joinEnds_142 : decode cX8_joinEnds 142 = .ok (.iload 4, 2) := by decide +kernel
theorem dX8_joinEnds_144 : decode cX8_joinEnds 144 = .ok (.iaload, 1) := by decide +kernel
theorem dX8_joinEnds_145 : decode cX8_joinEnds 145 = .ok (.iastore, 1) := by decide +kernel
theorem dX8_joinEnds_146 : decode cX8_joinEnds 146 = .ok (.aload_n 0, 1) := by decide +kernel
theorem dX8_joinEnds_147 : decode cX8_joinEnds 147 = .ok (.getfield 25, 3) := by decide +kernel
theorem dX8_joinEnds_150 : decode cX8_joinEnds 150 = .ok (.iload_n 3, 1) := by decide +kernel
theorem dX8_joinEnds_151 : decode cX8_joinEnds 151 = .ok (.aload_n 0, 1) := by decide +kernel
theorem dX8_joinEnds_152 : decode cX8_joinEnds 152 = .ok (.getfield 25, 3) := by decide +kernel
theorem dX8_joinEnds_155 : decode cX8_joinEnds 155 = .ok (.iload 4, 2) := by decide +kernel
theorem dX8_joinEnds_157 : decode cX8_joinEnds 157 = .ok (.iaload, 1) := by decide +kernel
theorem dX8_joinEnds_158 : decode cX8_joinEnds 158 = .ok (.iastore, 1) := by decide +kernel
theorem dX8_joinEnds_159 : decode cX8_joinEnds 159 = .ok (.aload_n 0, 1) := by decide +kernel
theorem dX8_joinEnds_160 : decode cX8_joinEnds 160 = .ok (.getfield 31, 3) := by decide +kernel
theorem dX8_joinEnds_163 : decode cX8_joinEnds 163 = .ok (.iload_n 3, 1) := by decide +kernel
theorem dX8_joinEnds_164 : decode cX8_joinEnds 164 = .ok (.aload_n 0, 1) := by decide +kernel
theorem dX8_joinEnds_165 : decode cX8_joinEnds 165 = .ok (.getfield 31, 3) := by decide +kernel
theorem dX8_joinEnds_168 : decode cX8_joinEnds 168 = .ok (.iload 4, 2) := by decide +kernel
theorem dX8_joinEnds_170 : decode cX8_joinEnds 170 = .ok (.iaload, 1) := by decide +kernel
theorem dX8_joinEnds_171 : decode cX8_joinEnds 171 = .ok (.iastore, 1) := by decide +kernel
theorem dX8_joinEnds_172 : decode cX8_joinEnds 172 = .ok (.aload_n 0, 1) := by decide +kernel
theorem dX8_joinEnds_173 : decode cX8_joinEnds 173 = .ok (.getfield 34, 3) := by decide +kernel
theorem dX8_joinEnds_176 : decode cX8_joinEnds 176 = .ok (.iload_n 3, 1) := by decide +kernel
theorem dX8_joinEnds_177 : decode cX8_joinEnds 177 = .ok (.aload_n 0, 1) := by decide +kernel
theorem dX8_joinEnds_178 : decode cX8_joinEnds 178 = .ok (.getfield 34, 3) := by decide +kernel
theorem dX8_joinEnds_181 : decode cX8_joinEnds 181 = .ok (.iload 4, 2) := by decide +kernel
theorem dX8_joinEnds_183 : decode cX8_joinEnds 183 = .ok (.iaload, 1) := by decide +kernel
theorem dX8_joinEnds_184 : decode cX8_joinEnds 184 = .ok (.iastore, 1) := by decide +kernel
theorem dX8_joinEnds_185 : decode cX8_joinEnds 185 = .ok (.aload_n 0, 1) := by decide +kernel
theorem dX8_joinEnds_186 : decode cX8_joinEnds 186 = .ok (.dup, 1) := by decide +kernel
theorem dX8_joinEnds_187 : decode cX8_joinEnds 187 = .ok (.getfield 46, 3) := by decide +kernel
theorem dX8_joinEnds_190 : decode cX8_joinEnds 190 = .ok (.iconst 1, 1) := by decide +kernel
theorem dX8_joinEnds_191 : decode cX8_joinEnds 191 = .ok (.isub, 1) := by decide +kernel
theorem dX8_joinEnds_192 : decode cX8_joinEnds 192 = .ok (.putfield 46, 3) := by decide +kernel
theorem dX8_joinEnds_195 : decode cX8_joinEnds 195 = .ok (.return_, 1) := by decide +kernel
theorem dX8_firstOf_0 : decode cX8_firstOf 0 = .ok (.aload_n 0, 1) := by decide +kernel
theorem dX8_firstOf_1 : decode cX8_firstOf 1 = .ok (.getfield 18, 3) := by decide +kernel
theorem dX8_firstOf_4 : decode cX8_firstOf 4 = .ok (.iload_n 1, 1) := by decide +kernel
theorem dX8_firstOf_5 : decode cX8_firstOf 5 = .ok (.invokestatic 130, 3) := by decide +kernel
theorem dX8_firstOf_8 : decode cX8_firstOf 8 = .ok (.ireturn, 1) := by decide +kernel
theorem dX8_countOf_0 : decode cX8_countOf 0 = .ok (.aload_n 0, 1) := by decide +kernel
theorem dX8_countOf_1 : decode cX8_countOf 1 = .ok (.getfield 18, 3) := by decide +kernel
theorem dX8_countOf_4 : decode cX8_countOf 4 = .ok (.iload_n 1, 1) := by decide +kernel
theorem dX8_countOf_5 : decode cX8_countOf 5 = .ok (.iconst 1, 1) := by decide +kernel
theorem dX8_countOf_6 : decode cX8_countOf 6 = .ok (.iadd, 1) := by decide +kernel
theorem dX8_countOf_7 : decode cX8_countOf 7 = .ok (.invokestatic 130, 3) := by decide +kernel
theorem dX8_countOf_10 : decode cX8_countOf 10 = .ok (.aload_n 0, 1) := by decide +kernel
theorem dX8_countOf_11 : decode cX8_countOf 11 = .ok (.iload_n 1, 1) := by decide +kernel
theorem dX8_countOf_12 : decode cX8_countOf 12 = .ok (.invokevirtual 120, 3) := by decide +kernel
theorem dX8_countOf_15 : decode cX8_countOf 15 = .ok (.isub, 1) := by decide +kernel
theorem dX8_countOf_16 : decode cX8_countOf 16 = .ok (.ireturn, 1) := by decide +kernel
theorem dX8_about_0 : decode cX8_about 0 = .ok (.iload_n 2, 1) := by decide +kernel
theorem dX8_about_1 : decode cX8_about 1 = .ok (.ifCond .ne 12, 3) := by decide +kernel
theorem dX8_about_4 : decode cX8_about 4 = .ok (.aload_n 0, 1) := by decide +kernel
theorem dX8_about_5 : decode cX8_about 5 = .ok (.getfield 22, 3) := by decide +kernel
theorem dX8_about_8 : decode cX8_about 8 = .ok (.iload_n 1, 1) := by decide +kernel
theorem dX8_about_9 : decode cX8_about 9 = .ok (.invokestatic 130, 3) := by decide +kernel
theorem dX8_about_12 : decode cX8_about 12 = .ok (.ireturn, 1) := by decide +kernel
theorem dX8_about_13 : decode cX8_about 13 = .ok (.iload_n 2, 1) := by decide +kernel
theorem dX8_about_14 : decode cX8_about 14 = .ok (.iconst 1, 1) := by decide +kernel
theorem dX8_about_15 : decode cX8_about 15 = .ok (.if_icmp .ne 12, 3) := by decide +kernel
theorem dX8_about_18 : decode cX8_about 18 = .ok (.aload_n 0, 1) := by decide +kernel
theorem dX8_about_19 : decode cX8_about 19 = .ok (.getfield 25, 3) := by decide +kernel
theorem dX8_about_22 : decode cX8_about 22 = .ok (.iload_n 1, 1) := by decide +kernel
theorem dX8_about_23 : decode cX8_about 23 = .ok (.invokestatic 130, 3) := by decide +kernel
theorem dX8_about_26 : decode cX8_about 26 = .ok (.ireturn, 1) := by decide +kernel
theorem dX8_about_27 : decode cX8_about 27 = .ok (.iload_n 2, 1) := by decide +kernel
theorem dX8_about_28 : decode cX8_about 28 = .ok (.iconst 2, 1) := by decide +kernel
theorem dX8_about_29 : decode cX8_about 29 = .ok (.if_icmp .ne 11, 3) := by decide +kernel
theorem dX8_about_32 : decode cX8_about 32 = .ok (.aload_n 0, 1) := by decide +kernel
theorem dX8_about_33 : decode cX8_about 33 = .ok (.iload_n 1, 1) := by decide +kernel
theorem dX8_about_34 : decode cX8_about 34 = .ok (.invokevirtual 136, 3) := by decide +kernel
theorem dX8_about_37 : decode cX8_about 37 = .ok (.goto 11, 3) := by decide +kernel
theorem dX8_about_40 : decode cX8_about 40 = .ok (.aload_n 0, 1) := by decide +kernel
theorem dX8_about_41 : decode cX8_about 41 = .ok (.getfield 28, 3) := by decide +kernel
theorem dX8_about_44 : decode cX8_about 44 = .ok (.iload_n 1, 1) := by decide +kernel
theorem dX8_about_45 : decode cX8_about 45 = .ok (.invokestatic 130, 3) := by decide +kernel
theorem dX8_about_48 : decode cX8_about 48 = .ok (.ireturn, 1) := by decide +kernel
theorem dX8_isRing_0 : decode cX8_isRing 0 = .ok (.aload_n 0, 1) := by decide +kernel
theorem dX8_isRing_1 : decode cX8_isRing 1 = .ok (.getfield 28, 3) := by decide +kernel
theorem dX8_isRing_4 : decode cX8_isRing 4 = .ok (.iload_n 1, 1) := by decide +kernel
theorem dX8_isRing_5 : decode cX8_isRing 5 = .ok (.invokestatic 130, 3) := by decide +kernel
theorem dX8_isRing_8 : decode cX8_isRing 8 = .ok (.iconst 1, 1) := by decide +kernel
theorem dX8_isRing_9 : decode cX8_isRing 9 = .ok (.if_icmp .ne 7, 3) := by decide +kernel
theorem dX8_isRing_12 : decode cX8_isRing 12 = .ok (.iconst 1, 1) := by decide +kernel
theorem dX8_isRing_13 : decode cX8_isRing 13 = .ok (.goto 4, 3) := by decide +kernel
theorem dX8_isRing_16 : decode cX8_isRing 16 = .ok (.iconst 0, 1) := by decide +kernel
theorem dX8_isRing_17 : decode cX8_isRing 17 = .ok (.ireturn, 1) := by decide +kernel
theorem dX8_totalLength_0 : decode cX8_totalLength 0 = .ok (.iconst 0, 1) := by decide +kernel
theorem dX8_totalLength_1 : decode cX8_totalLength 1 = .ok (.istore_n 1, 1) := by decide +kernel
theorem dX8_totalLength_2 : decode cX8_totalLength 2 = .ok (.iconst 0, 1) := by decide +kernel
theorem dX8_totalLength_3 : decode cX8_totalLength 3 = .ok (.istore_n 2, 1) := by decide +kernel
theorem dX8_totalLength_4 : decode cX8_totalLength 4 = .ok (.iload_n 2, 1) := by decide +kernel
theorem dX8_totalLength_5 : decode cX8_totalLength 5 = .ok (.aload_n 0, 1) := by decide +kernel
theorem dX8_totalLength_6 : decode cX8_totalLength 6 = .ok (.getfield 46, 3) := by decide +kernel
theorem dX8_totalLength_9 : decode cX8_totalLength 9 = .ok (.if_icmp .ge 20, 3) := by decide +kernel
theorem dX8_totalLength_12 : decode cX8_totalLength 12 = .ok (.iload_n 1, 1) := by decide +kernel
theorem dX8_totalLength_13 : decode cX8_totalLength 13 = .ok (.aload_n 0, 1) := by decide +kernel
theorem dX8_totalLength_14 : decode cX8_totalLength 14 = .ok (.getfield 25, 3) := by decide +kernel
theorem dX8_totalLength_17 : decode cX8_totalLength 17 = .ok (.iload_n 2, 1) := by decide +kernel
theorem dX8_totalLength_18 : decode cX8_totalLength 18 = .ok (.invokestatic 130, 3) := by decide +kernel
theorem dX8_totalLength_21 : decode cX8_totalLength 21 = .ok (.iadd, 1) := by decide +kernel
theorem dX8_totalLength_22 : decode cX8_totalLength 22 = .ok (.istore_n 1, 1) := by decide +kernel
theorem dX8_totalLength_23 : decode cX8_totalLength 23 = .ok (.iinc 2 1, 3) := by decide +kernel
theorem dX8_totalLength_26 : decode cX8_totalLength 26 = .ok (.goto (-22), 3) := by decide +kernel
theorem dX8_totalLength_29 : decode cX8_totalLength 29 = .ok (.iload_n 1, 1) := by decide +kernel
theorem dX8_totalLength_30 : decode cX8_totalLength 30 = .ok (.ireturn, 1) := by decide +kernel
theorem dX8_firstSpanOf_0 : decode cX8_firstSpanOf 0 = .ok (.aload_n 0, 1) := by decide +kernel
theorem dX8_firstSpanOf_1 : decode cX8_firstSpanOf 1 = .ok (.getfield 31, 3) := by decide +kernel
theorem dX8_firstSpanOf_4 : decode cX8_firstSpanOf 4 = .ok (.iload_n 1, 1) := by decide +kernel
theorem dX8_firstSpanOf_5 : decode cX8_firstSpanOf 5 = .ok (.invokestatic 130, 3) := by decide +kernel
theorem dX8_firstSpanOf_8 : decode cX8_firstSpanOf 8 = .ok (.ireturn, 1) := by decide +kernel
theorem dX8_spansOf_0 : decode cX8_spansOf 0 = .ok (.aload_n 0, 1) := by decide +kernel
theorem dX8_spansOf_1 : decode cX8_spansOf 1 = .ok (.getfield 34, 3) := by decide +kernel
theorem dX8_spansOf_4 : decode cX8_spansOf 4 = .ok (.iload_n 1, 1) := by decide +kernel
theorem dX8_spansOf_5 : decode cX8_spansOf 5 = .ok (.invokestatic 130, 3) := by decide +kernel
theorem dX8_spansOf_8 : decode cX8_spansOf 8 = .ok (.ireturn, 1) := by decide +kernel
theorem dX8_segmentOf_0 : decode cX8_segmentOf 0 = .ok (.aload_n 0, 1) := by decide +kernel
theorem dX8_segmentOf_1 : decode cX8_segmentOf 1 = .ok (.getfield 37, 3) := by decide +kernel
theorem dX8_segmentOf_4 : decode cX8_segmentOf 4 = .ok (.iload_n 1, 1) := by decide +kernel
theorem dX8_segmentOf_5 : decode cX8_segmentOf 5 = .ok (.invokestatic 130, 3) := by decide +kernel
theorem dX8_segmentOf_8 : decode cX8_segmentOf 8 = .ok (.ireturn, 1) := by decide +kernel
theorem dX8_fromOf_0 : decode cX8_fromOf 0 = .ok (.aload_n 0, 1) := by decide +kernel
theorem dX8_fromOf_1 : decode cX8_fromOf 1 = .ok (.getfield 40, 3) := by decide +kernel
theorem dX8_fromOf_4 : decode cX8_fromOf 4 = .ok (.iload_n 1, 1) := by decide +kernel
theorem dX8_fromOf_5 : decode cX8_fromOf 5 = .ok (.invokestatic 130, 3) := by decide +kernel
theorem dX8_fromOf_8 : decode cX8_fromOf 8 = .ok (.ireturn, 1) := by decide +kernel
theorem dX8_toOf_0 : decode cX8_toOf 0 = .ok (.aload_n 0, 1) := by decide +kernel
theorem dX8_toOf_1 : decode cX8_toOf 1 = .ok (.getfield 43, 3) := by decide +kernel
theorem dX8_toOf_4 : decode cX8_toOf 4 = .ok (.iload_n 1, 1) := by decide +kernel
theorem dX8_toOf_5 : decode cX8_toOf 5 = .ok (.invokestatic 130, 3) := by decide +kernel
theorem dX8_toOf_8 : decode cX8_toOf 8 = .ok (.ireturn, 1) := by decide +kernel
theorem dX9_init_0 : decode cX9_init 0 = .ok (.aload_n 0, 1) := by decide +kernel
theorem dX9_init_1 : decode cX9_init 1 = .ok (.invokespecial 3, 3) := by decide +kernel
theorem dX9_init_4 : decode cX9_init 4 = .ok (.aload_n 0, 1) := by decide +kernel
theorem dX9_init_5 : decode cX9_init 5 = .ok (.iconst 5, 1) := by decide +kernel
theorem dX9_init_6 : decode cX9_init 6 = .ok (.newarray .int, 2) := by decide +kernel
theorem dX9_init_8 : decode cX9_init 8 = .ok (.putfield 9, 3) := by decide +kernel
theorem dX9_init_11 : decode cX9_init 11 = .ok (.aload_n 0, 1) := by decide +kernel
theorem dX9_init_12 : decode cX9_init 12 = .ok (.bipush 32, 2) := by decide +kernel
theorem dX9_init_14 : decode cX9_init 14 = .ok (.newarray .int, 2) := by decide +kernel
theorem dX9_init_16 : decode cX9_init 16 = .ok (.putfield 15, 3) := by decide +kernel
theorem dX9_init_19 : decode cX9_init 19 = .ok (.aload_n 0, 1) := by decide +kernel
theorem dX9_init_20 : decode cX9_init 20 = .ok (.bipush 32, 2) := by decide +kernel
theorem dX9_init_22 : decode cX9_init 22 = .ok (.newarray .int, 2) := by decide +kernel
theorem dX9_init_24 : decode cX9_init 24 = .ok (.putfield 18, 3) := by decide +kernel
theorem dX9_init_27 : decode cX9_init 27 = .ok (.aload_n 0, 1) := by decide +kernel
theorem dX9_init_28 : decode cX9_init 28 = .ok (.bipush 32, 2) := by decide +kernel
theorem dX9_init_30 : decode cX9_init 30 = .ok (.newarray .int, 2) := by decide +kernel
theorem dX9_init_32 : decode cX9_init 32 = .ok (.putfield 21, 3) := by decide +kernel
theorem dX9_init_35 : decode cX9_init 35 = .ok (.aload_n 0, 1) := by decide +kernel
theorem dX9_init_36 : decode cX9_init 36 = .ok (.bipush 32, 2) := by decide +kernel
theorem dX9_init_38 : decode cX9_init 38 = .ok (.newarray .int, 2) := by decide +kernel
theorem dX9_init_40 : decode cX9_init 40 = .ok (.putfield 24, 3) := by decide +kernel
theorem dX9_init_43 : decode cX9_init 43 = .ok (.aload_n 0, 1) := by decide +kernel
theorem dX9_init_44 : decode cX9_init 44 = .ok (.bipush 32, 2) := by decide +kernel
theorem dX9_init_46 : decode cX9_init 46 = .ok (.newarray .int, 2) := by decide +kernel
theorem dX9_init_48 : decode cX9_init 48 = .ok (.putfield 27, 3) := by decide +kernel
theorem dX9_init_51 : decode cX9_init 51 = .ok (.aload_n 0, 1) := by decide +kernel
theorem dX9_init_52 : decode cX9_init 52 = .ok (.bipush 32, 2) := by decide +kernel
theorem dX9_init_54 : decode cX9_init 54 = .ok (.newarray .int, 2) := by decide +kernel
theorem dX9_init_56 : decode cX9_init 56 = .ok (.putfield 30, 3) := by decide +kernel
theorem dX9_init_59 : decode cX9_init 59 = .ok (.aload_n 0, 1) := by decide +kernel
theorem dX9_init_60 : decode cX9_init 60 = .ok (.bipush 32, 2) := by decide +kernel
theorem dX9_init_62 : decode cX9_init 62 = .ok (.newarray .int, 2) := by decide +kernel
theorem dX9_init_64 : decode cX9_init 64 = .ok (.putfield 33, 3) := by decide +kernel
theorem dX9_init_67 : decode cX9_init 67 = .ok (.aload_n 0, 1) := by decide +kernel
theorem dX9_init_68 : decode cX9_init 68 = .ok (.bipush 32, 2) := by decide +kernel
theorem dX9_init_70 : decode cX9_init 70 = .ok (.newarray .int, 2) := by decide +kernel
theorem dX9_init_72 : decode cX9_init 72 = .ok (.putfield 36, 3) := by decide +kernel
theorem dX9_init_75 : decode cX9_init 75 = .ok (.aload_n 0, 1) := by decide +kernel
theorem dX9_init_76 : decode cX9_init 76 = .ok (.bipush 32, 2) := by decide +kernel
theorem dX9_init_78 : decode cX9_init 78 = .ok (.newarray .int, 2) := by decide +kernel
theorem dX9_init_80 : decode cX9_init 80 = .ok (.putfield 39, 3) := by decide +kernel
theorem dX9_init_83 : decode cX9_init 83 = .ok (.return_, 1) := by decide +kernel
theorem dX9_measure_0 : decode cX9_measure 0 = .ok (.bipush 64, 2) := by decide +kernel
theorem dX9_measure_2 : decode cX9_measure 2 = .ok (.aload_n 1, 1) := by decide +kernel
theorem dX9_measure_3 : decode cX9_measure 3 = .ok (.invokevirtual 42, 3) := by decide +kernel
theorem dX9_measure_6 : decode cX9_measure 6 = .ok (.imul, 1) := by decide +kernel
theorem dX9_measure_7 : decode cX9_measure 7 = .ok (.istore_n 2, 1) := by decide +kernel
theorem dX9_measure_8 : decode cX9_measure 8 = .ok (.aload_n 0, 1) := by decide +kernel
theorem dX9_measure_9 : decode cX9_measure 9 = .ok (.iconst 0, 1) := by decide +kernel
theorem dX9_measure_10 : decode cX9_measure 10 = .ok (.putfield 48, 3) := by decide +kernel
theorem dX9_measure_13 : decode cX9_measure 13 = .ok (.iconst 0, 1) := by decide +kernel
theorem dX9_measure_14 : decode cX9_measure 14 = .ok (.istore_n 3, 1) := by decide +kernel
theorem dX9_measure_15 : decode cX9_measure 15 = .ok (.iload_n 3, 1) := by decide +kernel
theorem dX9_measure_16 : decode cX9_measure 16 = .ok (.iconst 4, 1) := by decide +kernel
theorem dX9_measure_17 : decode cX9_measure 17 = .ok (.if_icmp .ge 136, 3) := by decide +kernel
theorem dX9_measure_20 : decode cX9_measure 20 = .ok (.aload_n 0, 1) := by decide +kernel
theorem dX9_measure_21 : decode cX9_measure 21 = .ok (.getfield 9, 3) := by decide +kernel
theorem dX9_measure_24 : decode cX9_measure 24 = .ok (.iload_n 3, 1) := by decide +kernel
theorem dX9_measure_25 : decode cX9_measure 25 = .ok (.aload_n 0, 1) := by decide +kernel
theorem dX9_measure_26 : decode cX9_measure 26 = .ok (.getfield 48, 3) := by decide +kernel
theorem dX9_measure_29 : decode cX9_measure 29 = .ok (.iastore, 1) := by decide +kernel
theorem dX9_measure_30 : decode cX9_measure 30 = .ok (.aload_n 1, 1) := by decide +kernel
theorem dX9_measure_31 : decode cX9_measure 31 = .ok (.iload_n 3, 1) := by decide +kernel
theorem dX9_measure_32 : decode cX9_measure 32 = .ok (.invokevirtual 52, 3) := by decide +kernel
theorem dX9_measure_35 : decode cX9_measure 35 = .ok (.istore 4, 2) := by decide +kernel
theorem dX9_measure_37 : decode cX9_measure 37 = .ok (.aload_n 1, 1) := by decide +kernel
theorem dX9_measure_38 : decode cX9_measure 38 = .ok (.iload_n 3, 1) := by decide +kernel
theorem dX9_measure_39 : decode cX9_measure 39 = .ok (.invokevirtual 56, 3) := by decide +kernel
theorem dX9_measure_42 : decode cX9_measure 42 = .ok (.ifCond .eq 8, 3) := by decide +kernel
theorem dX9_measure_45 : decode cX9_measure 45 = .ok (.iload 4, 2) := by decide +kernel
theorem dX9_measure_47 : decode cX9_measure 47 = .ok (.goto 7, 3) := by decide +kernel
theorem dX9_measure_50 : decode cX9_measure 50 = .ok (.iload 4, 2) := by decide +kernel
theorem dX9_measure_52 : decode cX9_measure 52 = .ok (.iconst 1, 1) := by decide +kernel
theorem dX9_measure_53 : decode cX9_measure 53 = .ok (.isub, 1) := by decide +kernel
theorem dX9_measure_54 : decode cX9_measure 54 = .ok (.istore 5, 2) := by decide +kernel
theorem dX9_measure_56 : decode cX9_measure 56 = .ok (.iconst 0, 1) := by decide +kernel
theorem dX9_measure_57 : decode cX9_measure 57 = .ok (.istore 6, 2) := by decide +kernel
theorem dX9_measure_59 : decode cX9_measure 59 = .ok (.iload 6, 2) := by decide +kernel
theorem dX9_measure_61 : decode cX9_measure 61 = .ok (.iload 5, 2) := by decide +kernel
theorem dX9_measure_63 : decode cX9_measure 63 = .ok (.if_icmp .ge 84, 3) := by decide +kernel
theorem dX9_measure_66 : decode cX9_measure 66 = .ok (.iload 6, 2) := by decide +kernel
theorem dX9_measure_68 : decode cX9_measure 68 = .ok (.iconst 1, 1) := by decide +kernel
theorem dX9_measure_69 : decode cX9_measure 69 = .ok (.iadd, 1) := by decide +kernel
theorem dX9_measure_70 : decode cX9_measure 70 = .ok (.iload 4, 2) := by decide +kernel
theorem dX9_measure_72 : decode cX9_measure 72 = .ok (.if_icmp .ge 10, 3) := by decide +kernel
theorem dX9_measure_75 : decode cX9_measure 75 = .ok (.iload 6, 2) := by decide +kernel
theorem dX9_measure_77 : decode cX9_measure 77 = .ok (.iconst 1, 1) := by decide +kernel
theorem dX9_measure_78 : decode cX9_measure 78 = .ok (.iadd, 1) := by decide +kernel
theorem dX9_measure_79 : decode cX9_measure 79 = .ok (.goto 4, 3) := by decide +kernel
theorem dX9_measure_82 : decode cX9_measure 82 = .ok (.iconst 0, 1) := by decide +kernel
theorem dX9_measure_83 : decode cX9_measure 83 = .ok (.istore 7, 2) := by decide +kernel
theorem dX9_measure_85 : decode cX9_measure 85 = .ok (.aload_n 1, 1) := by decide +kernel
theorem dX9_measure_86 : decode cX9_measure 86 = .ok (.iload_n 3, 1) := by decide +kernel
theorem dX9_measure_87 : decode cX9_measure 87 = .ok (.iload 6, 2) := by decide +kernel
theorem dX9_measure_89 : decode cX9_measure 89 = .ok (.invokevirtual 60, 3) := by decide +kernel
theorem dX9_measure_92 : decode cX9_measure 92 = .ok (.istore 8, 2) := by decide +kernel
theorem dX9_measure_94 : decode cX9_measure 94 = .ok (.aload_n 1, 1) := by decide +kernel
theorem dX9_measure_95 : decode cX9_measure 95 = .ok (.iload_n 3, 1) := by decide +kernel
theorem dX9_measure_96 : decode cX9_measure 96 = .ok (.iload 6, 2) := by decide +kernel
theorem dX9_measure_98 : decode cX9_measure 98 = .ok (.invokevirtual 64, 3) := by decide +kernel
theorem dX9_measure_101 : decode cX9_measure 101 = .ok (.istore 9, 2) := by decide +kernel
theorem dX9_measure_103 : decode cX9_measure 103 = .ok (.aload_n 1, 1) := by decide +kernel
theorem dX9_measure_104 : decode cX9_measure 104 = .ok (.iload_n 3, 1) := by decide +kernel
theorem dX9_measure_105 : decode cX9_measure 105 = .ok (.iload 7, 2) := by decide +kernel
theorem dX9_measure_107 : decode cX9_measure 107 = .ok (.invokevirtual 60, 3) := by decide +kernel
theorem dX9_measure_110 : decode cX9_measure 110 = .ok (.iload 8, 2) := by decide +kernel
theorem dX9_measure_112 : decode cX9_measure 112 = .ok (.isub, 1) := by decide +kernel
theorem dX9_measure_113 : decode cX9_measure 113 = .ok (.istore 10, 2) := by decide +kernel
theorem dX9_measure_115 : decode cX9_measure 115 = .ok (.aload_n 1, 1) := by decide +kernel
theorem dX9_measure_116 : decode cX9_measure 116 = .ok (.iload_n 3, 1) := by decide +kernel
theorem dX9_measure_117 : decode cX9_measure 117 = .ok (.iload 7, 2) := by decide +kernel
theorem dX9_measure_119 : decode cX9_measure 119 = .ok (.invokevirtual 64, 3) := by decide +kernel
theorem dX9_measure_122 : decode cX9_measure 122 = .ok (.iload 9, 2) := by decide +kernel
theorem dX9_measure_124 : decode cX9_measure 124 = .ok (.isub, 1) := by decide +kernel
theorem dX9_measure_125 : decode cX9_measure 125 = .ok (.istore 11, 2) := by decide +kernel
theorem dX9_measure_127 : decode cX9_measure 127 = .ok (.aload_n 0, 1) := by decide +kernel
theorem dX9_measure_128 : decode cX9_measure 128 = .ok (.iload 8, 2) := by decide +kernel
theorem dX9_measure_130 : decode cX9_measure 130 = .ok (.iload 9, 2) := by decide +kernel
theorem dX9_measure_132 : decode cX9_measure 132 = .ok (.iload 10, 2) := by decide +kernel
theorem dX9_measure_134 : decode cX9_measure 134 = .ok (.iload 11, 2) := by decide +kernel
theorem dX9_measure_136 : decode cX9_measure 136 = .ok (.iload_n 2, 1) := by decide +kernel
theorem dX9_measure_137 : decode cX9_measure 137 = .ok (.i2l, 1) := by decide +kernel
theorem dX9_measure_138 : decode cX9_measure 138 = .ok (.invokevirtual 67, 3) := by decide +kernel
theorem dX9_measure_141 : decode cX9_measure 141 = .ok (.iinc 6 1, 3) := by decide +kernel
theorem dX9_measure_144 : decode cX9_measure 144 = .ok (.goto (-85), 3) := by decide +kernel
theorem dX9_measure_147 : decode cX9_measure 147 = .ok (.iinc 3 1, 3) := by decide +kernel
theorem dX9_measure_150 : decode cX9_measure 150 = .ok (.goto (-135), 3) := by decide +kernel
theorem dX9_measure_153 : decode cX9_measure 153 = .ok (.aload_n 0, 1) := by decide +kernel
theorem dX9_measure_154 : decode cX9_measure 154 = .ok (.getfield 9, 3) := by decide +kernel
theorem dX9_measure_157 : decode cX9_measure 157 = .ok (.iconst 4, 1) := by decide +kernel
theorem dX9_measure_158 : decode cX9_measure 158 = .ok (.aload_n 0, 1) := by decide +kernel
theorem dX9_measure_159 : decode cX9_measure 159 = .ok (.getfield 48, 3) := by decide +kernel
theorem dX9_measure_162 : decode cX9_measure 162 = .ok (.iastore, 1) := by decide +kernel
theorem dX9_measure_163 : decode cX9_measure 163 = .ok (.return_, 1) := by decide +kernel
theorem dX9_addSegment_0 : decode cX9_addSegment 0 = .ok (.aload_n 0, 1) := by decide +kernel
theorem dX9_addSegment_1 : decode cX9_addSegment 1 = .ok (.getfield 48, 3) := by decide +kernel
theorem dX9_addSegment_4 : decode cX9_addSegment 4 = .ok (.istore 7, 2) := by decide +kernel
theorem dX9_addSegment_6 : decode cX9_addSegment 6 = .ok (.iload_n 3, 1) := by decide +kernel
theorem dX9_addSegment_7 : decode cX9_addSegment 7 = .ok (.ifCond .ne 8, 3) := by decide +kernel
theorem dX9_addSegment_10 : decode cX9_addSegment 10 = .ok (.iload 4, 2) := by decide +kernel
theorem dX9_addSegment_12 : decode cX9_addSegment 12 = .ok (.ifCond .eq 15, 3) := by decide +kernel
theorem dX9_addSegment_15 : decode cX9_addSegment 15 = .ok (.iload 7, 2) := by decide +kernel
theorem dX9_addSegment_17 : decode cX9_addSegment 17 = .ok (.ifCond .lt 10, 3) := by decide +kernel
theorem dX9_addSegment_20 : decode cX9_addSegment 20 = .ok (.iload 7, 2) := by decide +kernel
theorem dX9_addSegment_22 : decode cX9_addSegment 22 = .ok (.bipush 32, 2) := by decide +kernel
theorem dX9_addSegment_24 : decode cX9_addSegment 24 = .ok (.if_icmp .lt 4, 3) := by decide +kernel
theorem dX9_addSegment_27 : decode cX9_addSegment 27 = .ok (.return_, 1) := by decide +kernel
theorem dX9_addSegment_28 : decode cX9_addSegment 28 = .ok (.aload_n 0, 1) := by decide +kernel
theorem dX9_addSegment_29 : decode cX9_addSegment 29 = .ok (.getfield 15, 3) := by decide +kernel
theorem dX9_addSegment_32 : decode cX9_addSegment 32 = .ok (.iload 7, 2) := by decide +kernel
theorem dX9_addSegment_34 : decode cX9_addSegment 34 = .ok (.bipush 64, 2) := by decide +kernel
theorem dX9_addSegment_36 : decode cX9_addSegment 36 = .ok (.iload_n 1, 1) := by decide +kernel
theorem dX9_addSegment_37 : decode cX9_addSegment 37 = .ok (.imul, 1) := by decide +kernel
theorem dX9_addSegment_38 : decode cX9_addSegment 38 = .ok (.iastore, 1) := by decide +kernel
theorem dX9_addSegment_39 : decode cX9_addSegment 39 = .ok (.aload_n 0, 1) := by decide +kernel
theorem dX9_addSegment_40 : decode cX9_addSegment 40 = .ok (.getfield 18, 3) := by decide +kernel
theorem dX9_addSegment_43 : decode cX9_addSegment 43 = .ok (.iload 7, 2) := by decide +kernel
theorem dX9_addSegment_45 : decode cX9_addSegment 45 = .ok (.bipush 64, 2) := by decide +kernel
theorem dX9_addSegment_47 : decode cX9_addSegment 47 = .ok (.iload_n 2, 1) := by decide +kernel
theorem dX9_addSegment_48 : decode cX9_addSegment 48 = .ok (.imul, 1) := by decide +kernel
theorem dX9_addSegment_49 : decode cX9_addSegment 49 = .ok (.iastore, 1) := by decide +kernel
theorem dX9_addSegment_50 : decode cX9_addSegment 50 = .ok (.aload_n 0, 1) := by decide +kernel
theorem dX9_addSegment_51 : decode cX9_addSegment 51 = .ok (.getfield 21, 3) := by decide +kernel
theorem dX9_addSegment_54 : decode cX9_addSegment 54 = .ok (.iload 7, 2) := by decide +kernel
theorem dX9_addSegment_56 : decode cX9_addSegment 56 = .ok (.iload_n 3, 1) := by decide +kernel
theorem dX9_addSegment_57 : decode cX9_addSegment 57 = .ok (.iastore, 1) := by decide +kernel
theorem dX9_addSegment_58 : decode cX9_addSegment 58 = .ok (.aload_n 0, 1) := by decide +kernel
theorem dX9_addSegment_59 : decode cX9_addSegment 59 = .ok (.getfield 24, 3) := by decide +kernel
theorem dX9_addSegment_62 : decode cX9_addSegment 62 = .ok (.iload 7, 2) := by decide +kernel
theorem dX9_addSegment_64 : decode cX9_addSegment 64 = .ok (.iload 4, 2) := by decide +kernel
theorem dX9_addSegment_66 : decode cX9_addSegment 66 = .ok (.iastore, 1) := by decide +kernel
theorem dX9_addSegment_67 : decode cX9_addSegment 67 = .ok (.aload_n 0, 1) := by decide +kernel
theorem dX9_addSegment_68 : decode cX9_addSegment 68 = .ok (.getfield 27, 3) := by decide +kernel
theorem dX9_addSegment_71 : decode cX9_addSegment 71 = .ok (.iload 7, 2) := by decide +kernel
theorem dX9_addSegment_73 : decode cX9_addSegment 73 = .ok (.sipush 4096, 3) := by decide +kernel
theorem dX9_addSegment_76 : decode cX9_addSegment 76 = .ok (.iload_n 3, 1) := by decide +kernel
theorem dX9_addSegment_77 : decode cX9_addSegment 77 = .ok (.iload_n 3, 1) := by decide +kernel
theorem dX9_addSegment_78 : decode cX9_addSegment 78 = .ok (.imul, 1) := by decide +kernel
theorem dX9_addSegment_79 : decode cX9_addSegment 79 = .ok (.iload 4, 2) := by decide +kernel
theorem dX9_addSegment_81 : decode cX9_addSegment 81 = .ok (.iload 4, 2) := by decide +kernel
theorem dX9_addSegment_83 : decode cX9_addSegment 83 = .ok (.imul, 1) := by decide +kernel
theorem dX9_addSegment_84 : decode cX9_addSegment 84 = .ok (.iadd, 1) := by decide +kernel
theorem dX9_addSegment_85 : decode cX9_addSegment 85 = .ok (.imul, 1) := by decide +kernel
theorem dX9_addSegment_86 : decode cX9_addSegment 86 = .ok (.i2l, 1) := by decide +kernel
theorem dX9_addSegment_87 : decode cX9_addSegment 87 = .ok (.invokestatic 71, 3) := by decide +kernel
theorem dX9_addSegment_90 : decode cX9_addSegment 90 = .ok (.iastore, 1) := by decide +kernel
theorem dX9_addSegment_91 : decode cX9_addSegment 91 = .ok (.aload_n 0, 1) := by decide +kernel
theorem dX9_addSegment_92 : decode cX9_addSegment 92 = .ok (.getfield 30, 3) := by decide +kernel
theorem dX9_addSegment_95 : decode cX9_addSegment 95 = .ok (.iload 7, 2) := by decide +kernel
theorem dX9_addSegment_97 : decode cX9_addSegment 97 = .ok (.iload 4, 2) := by decide +kernel
theorem dX9_addSegment_99 : decode cX9_addSegment 99 = .ok (.ineg, 1) := by decide +kernel
theorem dX9_addSegment_100 : decode cX9_addSegment 100 = .ok (.i2l, 1) := by decide +kernel
theorem dX9_addSegment_101 : decode cX9_addSegment 101 = .ok (.lload 5, 2) := by decide +kernel
theorem dX9_addSegment_103 : decode cX9_addSegment 103 = .ok (.lmul, 1) := by decide +kernel
theorem dX9_addSegment_104 : decode cX9_addSegment 104 = .ok (.aload_n 0, 1) := by decide +kernel
theorem dX9_addSegment_105 : decode cX9_addSegment 105 = .ok (.getfield 27, 3) := by decide +kernel
theorem dX9_addSegment_108 : decode cX9_addSegment 108 = .ok (.iload 7, 2) := by decide +kernel
theorem dX9_addSegment_110 : decode cX9_addSegment 110 = .ok (.iaload, 1) := by decide +kernel
theorem dX9_addSegment_111 : decode cX9_addSegment 111 = .ok (.i2l, 1) := by decide +kernel
theorem dX9_addSegment_112 : decode cX9_addSegment 112 = .ok (.invokestatic 77, 3) := by decide +kernel
theorem dX9_addSegment_115 : decode cX9_addSegment 115 = .ok (.iastore, 1) := by decide +kernel
theorem dX9_addSegment_116 : decode cX9_addSegment 116 = .ok (.aload_n 0, 1) := by decide +kernel
theorem dX9_addSegment_117 : decode cX9_addSegment 117 = .ok (.getfield 33, 3) := by decide +kernel
theorem dX9_addSegment_120 : decode cX9_addSegment 120 = .ok (.iload 7, 2) := by decide +kernel
theorem dX9_addSegment_122 : decode cX9_addSegment 122 = .ok (.iload_n 3, 1) := by decide +kernel
theorem dX9_addSegment_123 : decode cX9_addSegment 123 = .ok (.i2l, 1) := by decide +kernel
theorem dX9_addSegment_124 : decode cX9_addSegment 124 = .ok (.lload 5, 2) := by decide +kernel
theorem dX9_addSegment_126 : decode cX9_addSegment 126 = .ok (.lmul, 1) := by decide +kernel
theorem dX9_addSegment_127 : decode cX9_addSegment 127 = .ok (.aload_n 0, 1) := by decide +kernel
theorem dX9_addSegment_128 : decode cX9_addSegment 128 = .ok (.getfield 27, 3) := by decide +kernel
theorem dX9_addSegment_131 : decode cX9_addSegment 131 = .ok (.iload 7, 2) := by decide +kernel
theorem dX9_addSegment_133 : decode cX9_addSegment 133 = .ok (.iaload, 1) := by decide +kernel
theorem dX9_addSegment_134 : decode cX9_addSegment 134 = .ok (.i2l, 1) := by decide +kernel
theorem dX9_addSegment_135 : decode cX9_addSegment 135 = .ok (.invokestatic 77, 3) := by decide +kernel
theorem dX9_addSegment_138 : decode cX9_addSegment 138 = .ok (.iastore, 1) := by decide +kernel
theorem dX9_addSegment_139 : decode cX9_addSegment 139 = .ok (.aload_n 0, 1) := by decide +kernel
theorem dX9_addSegment_140 : decode cX9_addSegment 140 = .ok (.getfield 36, 3) := by decide +kernel
theorem dX9_addSegment_143 : decode cX9_addSegment 143 = .ok (.iload 7, 2) := by decide +kernel
theorem dX9_addSegment_145 : decode cX9_addSegment 145 = .ok (.iload_n 3, 1) := by decide +kernel
theorem dX9_addSegment_146 : decode cX9_addSegment 146 = .ok (.i2l, 1) := by decide +kernel
theorem dX9_addSegment_147 : decode cX9_addSegment 147 = .ok (.lload 5, 2) := by decide +kernel
theorem dX9_addSegment_149 : decode cX9_addSegment 149 = .ok (.lmul, 1) := by decide +kernel
theorem dX9_addSegment_150 : decode cX9_addSegment 150 = .ok (.aload_n 0, 1) := by decide +kernel
theorem dX9_addSegment_151 : decode cX9_addSegment 151 = .ok (.getfield 27, 3) := by decide +kernel
theorem dX9_addSegment_154 : decode cX9_addSegment 154 = .ok (.iload 7, 2) := by decide +kernel
theorem dX9_addSegment_156 : decode cX9_addSegment 156 = .ok (.iaload, 1) := by decide +kernel
theorem dX9_addSegment_157 : decode cX9_addSegment 157 = .ok (.i2l, 1) := by decide +kernel
theorem dX9_addSegment_158 : decode cX9_addSegment 158 = .ok (.invokestatic 77, 3) := by decide +kernel
theorem dX9_addSegment_161 : decode cX9_addSegment 161 = .ok (.iastore, 1) := by decide +kernel
theorem dX9_addSegment_162 : decode cX9_addSegment 162 = .ok (.aload_n 0, 1) := by decide +kernel
theorem dX9_addSegment_163 : decode cX9_addSegment 163 = .ok (.getfield 39, 3) := by decide +kernel
theorem dX9_addSegment_166 : decode cX9_addSegment 166 = .ok (.iload 7, 2) := by decide +kernel
theorem dX9_addSegment_168 : decode cX9_addSegment 168 = .ok (.iload 4, 2) := by decide +kernel
theorem dX9_addSegment_170 : decode cX9_addSegment 170 = .ok (.i2l, 1) := by decide +kernel
theorem dX9_addSegment_171 : decode cX9_addSegment 171 = .ok (.lload 5, 2) := by decide +kernel
theorem dX9_addSegment_173 : decode cX9_addSegment 173 = .ok (.lmul, 1) := by decide +kernel
theorem dX9_addSegment_174 : decode cX9_addSegment 174 = .ok (.aload_n 0, 1) := by decide +kernel
theorem dX9_addSegment_175 : decode cX9_addSegment 175 = .ok (.getfield 27, 3) := by decide +kernel
theorem dX9_addSegment_178 : decode cX9_addSegment 178 = .ok (.iload 7, 2) := by decide +kernel
theorem dX9_addSegment_180 : decode cX9_addSegment 180 = .ok (.iaload, 1) := by decide +kernel
theorem dX9_addSegment_181 : decode cX9_addSegment 181 = .ok (.i2l, 1) := by decide +kernel
theorem dX9_addSegment_182 : decode cX9_addSegment 182 = .ok (.invokestatic 77, 3) := by decide +kernel
theorem dX9_addSegment_185 : decode cX9_addSegment 185 = .ok (.iastore, 1) := by decide +kernel
theorem dX9_addSegment_186 : decode cX9_addSegment 186 = .ok (.aload_n 0, 1) := by decide +kernel
theorem dX9_addSegment_187 : decode cX9_addSegment 187 = .ok (.dup, 1) := by decide +kernel
theorem dX9_addSegment_188 : decode cX9_addSegment 188 = .ok (.getfield 48, 3) := by decide +kernel
theorem dX9_addSegment_191 : decode cX9_addSegment 191 = .ok (.iconst 1, 1) := by decide +kernel
theorem dX9_addSegment_192 : decode cX9_addSegment 192 = .ok (.iadd, 1) := by decide +kernel
theorem dX9_addSegment_193 : decode cX9_addSegment 193 = .ok (.putfield 48, 3) := by decide +kernel
theorem dX9_addSegment_196 : decode cX9_addSegment 196 = .ok (.return_, 1) := by decide +kernel
theorem dX9_firstOf_0 : decode cX9_firstOf 0 = .ok (.aload_n 0, 1) := by decide +kernel
theorem dX9_firstOf_1 : decode cX9_firstOf 1 = .ok (.getfield 9, 3) := by decide +kernel
theorem dX9_firstOf_4 : decode cX9_firstOf 4 = .ok (.iload_n 1, 1) := by decide +kernel
theorem dX9_firstOf_5 : decode cX9_firstOf 5 = .ok (.invokestatic 81, 3) := by decide +kernel
theorem dX9_firstOf_8 : decode cX9_firstOf 8 = .ok (.ireturn, 1) := by decide +kernel
theorem dX9_endOf_0 : decode cX9_endOf 0 = .ok (.aload_n 0, 1) := by decide +kernel
theorem dX9_endOf_1 : decode cX9_endOf 1 = .ok (.getfield 9, 3) := by decide +kernel
theorem dX9_endOf_4 : decode cX9_endOf 4 = .ok (.iload_n 1, 1) := by decide +kernel
theorem dX9_endOf_5 : decode cX9_endOf 5 = .ok (.iconst 1, 1) := by decide +kernel
theorem dX9_endOf_6 : decode cX9_endOf 6 = .ok (.iadd, 1) := by decide +kernel
theorem dX9_endOf_7 : decode cX9_endOf 7 = .ok (.invokestatic 81, 3) := by decide +kernel
theorem dX9_endOf_10 : decode cX9_endOf 10 = .ok (.ireturn, 1) := by decide +kernel
theorem dX9_countOf_0 : decode cX9_countOf 0 = .ok (.aload_n 0, 1) := by decide +kernel
theorem dX9_countOf_1 : decode cX9_countOf 1 = .ok (.iload_n 1, 1) := by decide +kernel
theorem dX9_countOf_2 : decode cX9_countOf 2 = .ok (.invokevirtual 85, 3) := by decide +kernel
theorem dX9_countOf_5 : decode cX9_countOf 5 = .ok (.aload_n 0, 1) := by decide +kernel
theorem dX9_countOf_6 : decode cX9_countOf 6 = .ok (.iload_n 1, 1) := by decide +kernel
theorem dX9_countOf_7 : decode cX9_countOf 7 = .ok (.invokevirtual 88, 3) := by decide +kernel
theorem dX9_countOf_10 : decode cX9_countOf 10 = .ok (.isub, 1) := by decide +kernel
theorem dX9_countOf_11 : decode cX9_countOf 11 = .ok (.ireturn, 1) := by decide +kernel
theorem dX9_size_0 : decode cX9_size 0 = .ok (.aload_n 0, 1) := by decide +kernel
theorem dX9_size_1 : decode cX9_size 1 = .ok (.getfield 27, 3) := by decide +kernel
theorem dX9_size_4 : decode cX9_size 4 = .ok (.iload_n 1, 1) := by decide +kernel
theorem dX9_size_5 : decode cX9_size 5 = .ok (.invokestatic 81, 3) := by decide +kernel
theorem dX9_size_8 : decode cX9_size 8 = .ok (.ireturn, 1) := by decide +kernel
theorem dX9_lengthOf_0 : decode cX9_lengthOf 0 = .ok (.aload_n 0, 1) := by decide +kernel
theorem dX9_lengthOf_1 : decode cX9_lengthOf 1 = .ok (.iload_n 1, 1) := by decide +kernel
theorem dX9_lengthOf_2 : decode cX9_lengthOf 2 = .ok (.aload_n 0, 1) := by decide +kernel
theorem dX9_lengthOf_3 : decode cX9_lengthOf 3 = .ok (.iload_n 1, 1) := by decide +kernel
theorem dX9_lengthOf_4 : decode cX9_lengthOf 4 = .ok (.invokevirtual 85, 3) := by decide +kernel
theorem dX9_lengthOf_7 : decode cX9_lengthOf 7 = .ok (.invokevirtual 91, 3) := by decide +kernel
theorem dX9_lengthOf_10 : decode cX9_lengthOf 10 = .ok (.ireturn, 1) := by decide +kernel
theorem dX9_totalLength_0 : decode cX9_totalLength 0 = .ok (.iconst 0, 1) := by decide +kernel
theorem dX9_totalLength_1 : decode cX9_totalLength 1 = .ok (.istore_n 1, 1) := by decide +kernel
theorem dX9_totalLength_2 : decode cX9_totalLength 2 = .ok (.iconst 0, 1) := by decide +kernel
theorem dX9_totalLength_3 : decode cX9_totalLength 3 = .ok (.istore_n 2, 1) := by decide +kernel
theorem dX9_totalLength_4 : decode cX9_totalLength 4 = .ok (.iload_n 2, 1) := by decide +kernel
theorem dX9_totalLength_5 : decode cX9_totalLength 5 = .ok (.aload_n 0, 1) := by decide +kernel
theorem dX9_totalLength_6 : decode cX9_totalLength 6 = .ok (.getfield 48, 3) := by decide +kernel
theorem dX9_totalLength_9 : decode cX9_totalLength 9 = .ok (.if_icmp .ge 17, 3) := by decide +kernel
theorem dX9_totalLength_12 : decode cX9_totalLength 12 = .ok (.iload_n 1, 1) := by decide +kernel
theorem dX9_totalLength_13 : decode cX9_totalLength 13 = .ok (.aload_n 0, 1) := by decide +kernel
theorem dX9_totalLength_14 : decode cX9_totalLength 14 = .ok (.iload_n 2, 1) := by decide +kernel
theorem dX9_totalLength_15 : decode cX9_totalLength 15 = .ok (.invokevirtual 94, 3) := by decide +kernel
theorem dX9_totalLength_18 : decode cX9_totalLength 18 = .ok (.iadd, 1) := by decide +kernel
theorem dX9_totalLength_19 : decode cX9_totalLength 19 = .ok (.istore_n 1, 1) := by decide +kernel
theorem dX9_totalLength_20 : decode cX9_totalLength 20 = .ok (.iinc 2 1, 3) := by decide +kernel
theorem dX9_totalLength_23 : decode cX9_totalLength 23 = .ok (.goto (-19), 3) := by decide +kernel
theorem dX9_totalLength_26 : decode cX9_totalLength 26 = .ok (.iload_n 1, 1) := by decide +kernel
theorem dX9_totalLength_27 : decode cX9_totalLength 27 = .ok (.ireturn, 1) := by decide +kernel
theorem dX9_startOf_0 : decode cX9_startOf 0 = .ok (.iconst 0, 1) := by decide +kernel
theorem dX9_startOf_1 : decode cX9_startOf 1 = .ok (.istore_n 3, 1) := by decide +kernel
theorem dX9_startOf_2 : decode cX9_startOf 2 = .ok (.aload_n 0, 1) := by decide +kernel
theorem dX9_startOf_3 : decode cX9_startOf 3 = .ok (.getfield 9, 3) := by decide +kernel
theorem dX9_startOf_6 : decode cX9_startOf 6 = .ok (.iload_n 1, 1) := by decide +kernel
theorem dX9_startOf_7 : decode cX9_startOf 7 = .ok (.invokestatic 81, 3) := by decide +kernel
theorem dX9_startOf_10 : decode cX9_startOf 10 = .ok (.istore 4, 2) := by decide +kernel
theorem dX9_startOf_12 : decode cX9_startOf 12 = .ok (.iload 4, 2) := by decide +kernel
theorem dX9_startOf_14 : decode cX9_startOf 14 = .ok (.iload_n 2, 1) := by decide +kernel
theorem dX9_startOf_15 : decode cX9_startOf 15 = .ok (.if_icmp .ge 21, 3) := by decide +kernel
theorem dX9_startOf_18 : decode cX9_startOf 18 = .ok (.iload_n 3, 1) := by decide +kernel
theorem dX9_startOf_19 : decode cX9_startOf 19 = .ok (.aload_n 0, 1) := by decide +kernel
theorem dX9_startOf_20 : decode cX9_startOf 20 = .ok (.getfield 27, 3) := by decide +kernel
theorem dX9_startOf_23 : decode cX9_startOf 23 = .ok (.iload 4, 2) := by decide +kernel
theorem dX9_startOf_25 : decode cX9_startOf 25 = .ok (.invokestatic 81, 3) := by decide +kernel
theorem dX9_startOf_28 : decode cX9_startOf 28 = .ok (.iadd, 1) := by decide +kernel
theorem dX9_startOf_29 : decode cX9_startOf 29 = .ok (.istore_n 3, 1) := by decide +kernel
theorem dX9_startOf_30 : decode cX9_startOf 30 = .ok (.iinc 4 1, 3) := by decide +kernel
theorem dX9_startOf_33 : decode cX9_startOf 33 = .ok (.goto (-21), 3) := by decide +kernel
theorem dX9_startOf_36 : decode cX9_startOf 36 = .ok (.iload_n 3, 1) := by decide +kernel
theorem dX9_startOf_37 : decode cX9_startOf 37 = .ok (.ireturn, 1) := by decide +kernel
theorem dX9_segmentAt_0 : decode cX9_segmentAt 0 = .ok (.iconst 0, 1) := by decide +kernel
theorem dX9_segmentAt_1 : decode cX9_segmentAt 1 = .ok (.istore_n 3, 1) := by decide +kernel
theorem dX9_segmentAt_2 : decode cX9_segmentAt 2 = .ok (.aload_n 0, 1) := by decide +kernel
theorem dX9_segmentAt_3 : decode cX9_segmentAt 3 = .ok (.iload_n 1, 1) := by decide +kernel
theorem dX9_segmentAt_4 : decode cX9_segmentAt 4 = .ok (.invokevirtual 88, 3) := by decide +kernel
theorem dX9_segmentAt_7 : decode cX9_segmentAt 7 = .ok (.istore 4, 2) := by decide +kernel
theorem dX9_segmentAt_9 : decode cX9_segmentAt 9 = .ok (.iload 4, 2) := by decide +kernel
theorem dX9_segmentAt_11 : decode cX9_segmentAt 11 = .ok (.aload_n 0, 1) := by decide +kernel
theorem dX9_segmentAt_12 : decode cX9_segmentAt 12 = .ok (.iload_n 1, 1) := by decide +kernel
theorem dX9_segmentAt_13 : decode cX9_segmentAt 13 = .ok (.invokevirtual 85, 3) := by decide +kernel
theorem dX9_segmentAt_16 : decode cX9_segmentAt 16 = .ok (.if_icmp .ge 26, 3) := by decide +kernel
theorem dX9_segmentAt_19 : decode cX9_segmentAt 19 = .ok (.iload_n 3, 1) := by decide +kernel
theorem dX9_segmentAt_20 : decode cX9_segmentAt 20 = .ok (.aload_n 0, 1) := by decide +kernel
theorem dX9_segmentAt_21 : decode cX9_segmentAt 21 = .ok (.iload 4, 2) := by decide +kernel
theorem dX9_segmentAt_23 : decode cX9_segmentAt 23 = .ok (.invokevirtual 94, 3) := by decide +kernel
theorem dX9_segmentAt_26 : decode cX9_segmentAt 26 = .ok (.iadd, 1) := by decide +kernel
theorem dX9_segmentAt_27 : decode cX9_segmentAt 27 = .ok (.istore_n 3, 1) := by decide +kernel
theorem dX9_segmentAt_28 : decode cX9_segmentAt 28 = .ok (.iload_n 2, 1) := by decide +kernel
theorem dX9_segmentAt_29 : decode cX9_segmentAt 29 = .ok (.iload_n 3, 1) := by decide +kernel
theorem dX9_segmentAt_30 : decode cX9_segmentAt 30 = .ok (.if_icmp .gt 6, 3) := by decide +kernel
theorem dX9_segmentAt_33 : decode cX9_segmentAt 33 = .ok (.iload 4, 2) := by decide +kernel
theorem dX9_segmentAt_35 : decode cX9_segmentAt 35 = .ok (.ireturn, 1) := by decide +kernel
theorem dX9_segmentAt_36 : decode cX9_segmentAt 36 = .ok (.iinc 4 1, 3) := by decide +kernel
theorem dX9_segmentAt_39 : decode cX9_segmentAt 39 = .ok (.goto (-30), 3) := by decide +kernel
theorem dX9_segmentAt_42 : decode cX9_segmentAt 42 = .ok (.iconst (-1), 1) := by decide +kernel
theorem dX9_segmentAt_43 : decode cX9_segmentAt 43 = .ok (.ireturn, 1) := by decide +kernel
theorem dX9_xAt_0 : decode cX9_xAt 0 = .ok (.ldc2_w 97, 3) := by decide +kernel
theorem dX9_xAt_3 : decode cX9_xAt 3 = .ok (.aload_n 0, 1) := by decide +kernel
theorem dX9_xAt_4 : decode cX9_xAt 4 = .ok (.getfield 21, 3) := by decide +kernel
theorem dX9_xAt_7 : decode cX9_xAt 7 = .ok (.iload_n 1, 1) := by decide +kernel
theorem dX9_xAt_8 : decode cX9_xAt 8 = .ok (.invokestatic 81, 3) := by decide +kernel
theorem dX9_xAt_11 : decode cX9_xAt 11 = .ok (.i2l, 1) := by decide +kernel
theorem dX9_xAt_12 : decode cX9_xAt 12 = .ok (.lmul, 1) := by decide +kernel
theorem dX9_xAt_13 : decode cX9_xAt 13 = .ok (.iload_n 2, 1) := by decide +kernel
theorem dX9_xAt_14 : decode cX9_xAt 14 = .ok (.i2l, 1) := by decide +kernel
theorem dX9_xAt_15 : decode cX9_xAt 15 = .ok (.lmul, 1) := by decide +kernel
theorem dX9_xAt_16 : decode cX9_xAt 16 = .ok (.lstore_n 3, 1) := by decide +kernel
theorem dX9_xAt_17 : decode cX9_xAt 17 = .ok (.aload_n 0, 1) := by decide +kernel
theorem dX9_xAt_18 : decode cX9_xAt 18 = .ok (.getfield 15, 3) := by decide +kernel
theorem dX9_xAt_21 : decode cX9_xAt 21 = .ok (.iload_n 1, 1) := by decide +kernel
theorem dX9_xAt_22 : decode cX9_xAt 22 = .ok (.invokestatic 81, 3) := by decide +kernel
theorem dX9_xAt_25 : decode cX9_xAt 25 = .ok (.lload_n 3, 1) := by decide +kernel
theorem dX9_xAt_26 : decode cX9_xAt 26 = .ok (.aload_n 0, 1) := by decide +kernel
theorem dX9_xAt_27 : decode cX9_xAt 27 = .ok (.getfield 27, 3) := by decide +kernel
theorem dX9_xAt_30 : decode cX9_xAt 30 = .ok (.iload_n 1, 1) := by decide +kernel
theorem dX9_xAt_31 : decode cX9_xAt 31 = .ok (.invokestatic 81, 3) := by decide +kernel
theorem dX9_xAt_34 : decode cX9_xAt 34 = .ok (.i2l, 1) := by decide +kernel
theorem dX9_xAt_35 : decode cX9_xAt 35 = .ok (.invokestatic 77, 3) := by decide +kernel
theorem dX9_xAt_38 : decode cX9_xAt 38 = .ok (.iadd, 1) := by decide +kernel
theorem dX9_xAt_39 : decode cX9_xAt 39 = .ok (.ireturn, 1) := by decide +kernel
theorem dX9_yAt_0 : decode cX9_yAt 0 = .ok (.ldc2_w 97, 3) := by decide +kernel
theorem dX9_yAt_3 : decode cX9_yAt 3 = .ok (.aload_n 0, 1) := by decide +kernel
theorem dX9_yAt_4 : decode cX9_yAt 4 = .ok (.getfield 24, 3) := by decide +kernel
theorem dX9_yAt_7 : decode cX9_yAt 7 = .ok (.iload_n 1, 1) := by decide +kernel
theorem dX9_yAt_8 : decode cX9_yAt 8 = .ok (.invokestatic 81, 3) := by decide +kernel
theorem dX9_yAt_11 : decode cX9_yAt 11 = .ok (.i2l, 1) := by decide +kernel
theorem dX9_yAt_12 : decode cX9_yAt 12 = .ok (.lmul, 1) := by decide +kernel
theorem dX9_yAt_13 : decode cX9_yAt 13 = .ok (.iload_n 2, 1) := by decide +kernel
theorem dX9_yAt_14 : decode cX9_yAt 14 = .ok (.i2l, 1) := by decide +kernel
theorem dX9_yAt_15 : decode cX9_yAt 15 = .ok (.lmul, 1) := by decide +kernel
theorem dX9_yAt_16 : decode cX9_yAt 16 = .ok (.lstore_n 3, 1) := by decide +kernel
theorem dX9_yAt_17 : decode cX9_yAt 17 = .ok (.aload_n 0, 1) := by decide +kernel
theorem dX9_yAt_18 : decode cX9_yAt 18 = .ok (.getfield 18, 3) := by decide +kernel
theorem dX9_yAt_21 : decode cX9_yAt 21 = .ok (.iload_n 1, 1) := by decide +kernel
theorem dX9_yAt_22 : decode cX9_yAt 22 = .ok (.invokestatic 81, 3) := by decide +kernel
theorem dX9_yAt_25 : decode cX9_yAt 25 = .ok (.lload_n 3, 1) := by decide +kernel
theorem dX9_yAt_26 : decode cX9_yAt 26 = .ok (.aload_n 0, 1) := by decide +kernel
theorem dX9_yAt_27 : decode cX9_yAt 27 = .ok (.getfield 27, 3) := by decide +kernel
theorem dX9_yAt_30 : decode cX9_yAt 30 = .ok (.iload_n 1, 1) := by decide +kernel
theorem dX9_yAt_31 : decode cX9_yAt 31 = .ok (.invokestatic 81, 3) := by decide +kernel
theorem dX9_yAt_34 : decode cX9_yAt 34 = .ok (.i2l, 1) := by decide +kernel
theorem dX9_yAt_35 : decode cX9_yAt 35 = .ok (.invokestatic 77, 3) := by decide +kernel
theorem dX9_yAt_38 : decode cX9_yAt 38 = .ok (.iadd, 1) := by decide +kernel
theorem dX9_yAt_39 : decode cX9_yAt 39 = .ok (.ireturn, 1) := by decide +kernel
theorem dX9_normalX_0 : decode cX9_normalX 0 = .ok (.aload_n 0, 1) := by decide +kernel
theorem dX9_normalX_1 : decode cX9_normalX 1 = .ok (.getfield 30, 3) := by decide +kernel
theorem dX9_normalX_4 : decode cX9_normalX 4 = .ok (.iload_n 1, 1) := by decide +kernel
theorem dX9_normalX_5 : decode cX9_normalX 5 = .ok (.invokestatic 81, 3) := by decide +kernel
theorem dX9_normalX_8 : decode cX9_normalX 8 = .ok (.ireturn, 1) := by decide +kernel
theorem dX9_normalY_0 : decode cX9_normalY 0 = .ok (.aload_n 0, 1) := by decide +kernel
theorem dX9_normalY_1 : decode cX9_normalY 1 = .ok (.getfield 33, 3) := by decide +kernel
theorem dX9_normalY_4 : decode cX9_normalY 4 = .ok (.iload_n 1, 1) := by decide +kernel
theorem dX9_normalY_5 : decode cX9_normalY 5 = .ok (.invokestatic 81, 3) := by decide +kernel
theorem dX9_normalY_8 : decode cX9_normalY 8 = .ok (.ireturn, 1) := by decide +kernel
theorem dX9_alongX_0 : decode cX9_alongX 0 = .ok (.aload_n 0, 1) := by decide +kernel
theorem dX9_alongX_1 : decode cX9_alongX 1 = .ok (.getfield 36, 3) := by decide +kernel
theorem dX9_alongX_4 : decode cX9_alongX 4 = .ok (.iload_n 1, 1) := by decide +kernel
theorem dX9_alongX_5 : decode cX9_alongX 5 = .ok (.invokestatic 81, 3) := by decide +kernel
theorem dX9_alongX_8 : decode cX9_alongX 8 = .ok (.ireturn, 1) := by decide +kernel
theorem dX9_alongY_0 : decode cX9_alongY 0 = .ok (.aload_n 0, 1) := by decide +kernel
theorem dX9_alongY_1 : decode cX9_alongY 1 = .ok (.getfield 39, 3) := by decide +kernel
theorem dX9_alongY_4 : decode cX9_alongY 4 = .ok (.iload_n 1, 1) := by decide +kernel
theorem dX9_alongY_5 : decode cX9_alongY 5 = .ok (.invokestatic 81, 3) := by decide +kernel
theorem dX9_alongY_8 : decode cX9_alongY 8 = .ok (.ireturn, 1) := by decide +kernel
theorem dX9_cross_0 : decode cX9_cross 0 = .ok (.aload_n 0, 1) := by decide +kernel
theorem dX9_cross_1 : decode cX9_cross 1 = .ok (.getfield 21, 3) := by decide +kernel
theorem dX9_cross_4 : decode cX9_cross 4 = .ok (.iload_n 1, 1) := by decide +kernel
theorem dX9_cross_5 : decode cX9_cross 5 = .ok (.invokestatic 81, 3) := by decide +kernel
theorem dX9_cross_8 : decode cX9_cross 8 = .ok (.i2l, 1) := by decide +kernel
theorem dX9_cross_9 : decode cX9_cross 9 = .ok (.aload_n 0, 1) := by decide +kernel
theorem dX9_cross_10 : decode cX9_cross 10 = .ok (.getfield 24, 3) := by decide +kernel
theorem dX9_cross_13 : decode cX9_cross 13 = .ok (.iload_n 2, 1) := by decide +kernel
theorem dX9_cross_14 : decode cX9_cross 14 = .ok (.invokestatic 81, 3) := by decide +kernel
theorem dX9_cross_17 : decode cX9_cross 17 = .ok (.i2l, 1) := by decide +kernel
theorem dX9_cross_18 : decode cX9_cross 18 = .ok (.lmul, 1) := by decide +kernel
theorem dX9_cross_19 : decode cX9_cross 19 = .ok (.aload_n 0, 1) := by decide +kernel
theorem dX9_cross_20 : decode cX9_cross 20 = .ok (.getfield 24, 3) := by decide +kernel
theorem dX9_cross_23 : decode cX9_cross 23 = .ok (.iload_n 1, 1) := by decide +kernel
theorem dX9_cross_24 : decode cX9_cross 24 = .ok (.invokestatic 81, 3) := by decide +kernel
theorem dX9_cross_27 : decode cX9_cross 27 = .ok (.i2l, 1) := by decide +kernel
theorem dX9_cross_28 : decode cX9_cross 28 = .ok (.aload_n 0, 1) := by decide +kernel
theorem dX9_cross_29 : decode cX9_cross 29 = .ok (.getfield 21, 3) := by decide +kernel
theorem dX9_cross_32 : decode cX9_cross 32 = .ok (.iload_n 2, 1) := by decide +kernel
theorem dX9_cross_33 : decode cX9_cross 33 = .ok (.invokestatic 81, 3) := by decide +kernel
theorem dX9_cross_36 : decode cX9_cross 36 = .ok (.i2l, 1) := by decide +kernel
theorem dX9_cross_37 : decode cX9_cross 37 = .ok (.lmul, 1) := by decide +kernel
theorem dX9_cross_38 : decode cX9_cross 38 = .ok (.lsub, 1) := by decide +kernel
theorem dX9_cross_39 : decode cX9_cross 39 = .ok (.lreturn, 1) := by decide +kernel
theorem dX9_dot_0 : decode cX9_dot 0 = .ok (.aload_n 0, 1) := by decide +kernel
theorem dX9_dot_1 : decode cX9_dot 1 = .ok (.getfield 21, 3) := by decide +kernel
theorem dX9_dot_4 : decode cX9_dot 4 = .ok (.iload_n 1, 1) := by decide +kernel
theorem dX9_dot_5 : decode cX9_dot 5 = .ok (.invokestatic 81, 3) := by decide +kernel
theorem dX9_dot_8 : decode cX9_dot 8 = .ok (.i2l, 1) := by decide +kernel
theorem dX9_dot_9 : decode cX9_dot 9 = .ok (.aload_n 0, 1) := by decide +kernel
theorem dX9_dot_10 : decode cX9_dot 10 = .ok (.getfield 21, 3) := by decide +kernel
theorem dX9_dot_13 : decode cX9_dot 13 = .ok (.iload_n 2, 1) := by decide +kernel
theorem dX9_dot_14 : decode cX9_dot 14 = .ok (.invokestatic 81, 3) := by decide +kernel
theorem dX9_dot_17 : decode cX9_dot 17 = .ok (.i2l, 1) := by decide +kernel
theorem dX9_dot_18 : decode cX9_dot 18 = .ok (.lmul, 1) := by decide +kernel
theorem dX9_dot_19 : decode cX9_dot 19 = .ok (.aload_n 0, 1) := by decide +kernel
theorem dX9_dot_20 : decode cX9_dot 20 = .ok (.getfield 24, 3) := by decide +kernel
theorem dX9_dot_23 : decode cX9_dot 23 = .ok (.iload_n 1, 1) := by decide +kernel
theorem dX9_dot_24 : decode cX9_dot 24 = .ok (.invokestatic 81, 3) := by decide +kernel
theorem dX9_dot_27 : decode cX9_dot 27 = .ok (.i2l, 1) := by decide +kernel
theorem dX9_dot_28 : decode cX9_dot 28 = .ok (.aload_n 0, 1) := by decide +kernel
theorem dX9_dot_29 : decode cX9_dot 29 = .ok (.getfield 24, 3) := by decide +kernel
theorem dX9_dot_32 : decode cX9_dot 32 = .ok (.iload_n 2, 1) := by decide +kernel
theorem dX9_dot_33 : decode cX9_dot 33 = .ok (.invokestatic 81, 3) := by decide +kernel
theorem dX9_dot_36 : decode cX9_dot 36 = .ok (.i2l, 1) := by decide +kernel
theorem dX9_dot_37 : decode cX9_dot 37 = .ok (.lmul, 1) := by decide +kernel
theorem dX9_dot_38 : decode cX9_dot 38 = .ok (.ladd, 1) := by decide +kernel
theorem dX9_dot_39 : decode cX9_dot 39 = .ok (.lreturn, 1) := by decide +kernel
theorem dX10_init_0 : decode cX10_init 0 = .ok (.aload_n 0, 1) := by decide +kernel
theorem dX10_init_1 : decode cX10_init 1 = .ok (.invokespecial 3, 3) := by decide +kernel
theorem dX10_init_4 : decode cX10_init 4 = .ok (.aload_n 0, 1) := by decide +kernel
theorem dX10_init_5 : decode cX10_init 5 = .ok (.new 9, 3) := by decide +kernel
theorem dX10_init_8 : decode cX10_init 8 = .ok (.dup, 1) := by decide +kernel
theorem dX10_init_9 : decode cX10_init 9 = .ok (.invokespecial 11, 3) := by decide +kernel
theorem dX10_init_12 : decode cX10_init 12 = .ok (.putfield 12, 3) := by decide +kernel
theorem dX10_init_15 : decode cX10_init 15 = .ok (.aload_n 0, 1) := by decide +kernel
theorem dX10_init_16 : decode cX10_init 16 = .ok (.new 18, 3) := by decide +kernel
theorem dX10_init_19 : decode cX10_init 19 = .ok (.dup, 1) := by decide +kernel
theorem dX10_init_20 : decode cX10_init 20 = .ok (.invokespecial 20, 3) := by decide +kernel
theorem dX10_init_23 : decode cX10_init 23 = .ok (.putfield 21, 3) := by decide +kernel
theorem dX10_init_26 : decode cX10_init 26 = .ok (.aload_n 0, 1) := by decide +kernel
theorem dX10_init_27 : decode cX10_init 27 = .ok (.new 25, 3) := by decide +kernel
theorem dX10_init_30 : decode cX10_init 30 = .ok (.dup, 1) := by decide +kernel
theorem dX10_init_31 : decode cX10_init 31 = .ok (.invokespecial 27, 3) := by decide +kernel
theorem dX10_init_34 : decode cX10_init 34 = .ok (.putfield 28, 3) := by decide +kernel
theorem dX10_init_37 : decode cX10_init 37 = .ok (.return_, 1) := by decide +kernel
theorem dX10_forget_0 : decode cX10_forget 0 = .ok (.aload_n 0, 1) := by decide +kernel
theorem dX10_forget_1 : decode cX10_forget 1 = .ok (.iconst 0, 1) := by decide +kernel
theorem dX10_forget_2 : decode cX10_forget 2 = .ok (.putfield 32, 3) := by decide +kernel
theorem dX10_forget_5 : decode cX10_forget 5 = .ok (.return_, 1) := by decide +kernel
theorem dX10_measured_0 : decode cX10_measured 0 = .ok (.aload_n 0, 1) := by decide +kernel
theorem dX10_measured_1 : decode cX10_measured 1 = .ok (.getfield 32, 3) := by decide +kernel
theorem dX10_measured_4 : decode cX10_measured 4 = .ok (.iconst 1, 1) := by decide +kernel
theorem dX10_measured_5 : decode cX10_measured 5 = .ok (.if_icmp .ge 16, 3) := by decide +kernel
theorem dX10_measured_8 : decode cX10_measured 8 = .ok (.aload_n 0, 1) := by decide +kernel
theorem dX10_measured_9 : decode cX10_measured 9 = .ok (.getfield 12, 3) := by decide +kernel
theorem dX10_measured_12 : decode cX10_measured 12 = .ok (.aload_n 1, 1) := by decide +kernel
theorem dX10_measured_13 : decode cX10_measured 13 = .ok (.invokevirtual 36, 3) := by decide +kernel
theorem dX10_measured_16 : decode cX10_measured 16 = .ok (.aload_n 0, 1) := by decide +kernel
theorem dX10_measured_17 : decode cX10_measured 17 = .ok (.iconst 1, 1) := by decide +kernel
theorem dX10_measured_18 : decode cX10_measured 18 = .ok (.putfield 32, 3) := by decide +kernel
theorem dX10_measured_21 : decode cX10_measured 21 = .ok (.aload_n 0, 1) := by decide +kernel
theorem dX10_measured_22 : decode cX10_measured 22 = .ok (.getfield 12, 3) := by decide +kernel
theorem dX10_measured_25 : decode cX10_measured 25 = .ok (.areturn, 1) := by decide +kernel
theorem dX10_walked_0 : decode cX10_walked 0 = .ok (.aload_n 0, 1) := by decide +kernel
theorem dX10_walked_1 : decode cX10_walked 1 = .ok (.getfield 32, 3) := by decide +kernel
theorem dX10_walked_4 : decode cX10_walked 4 = .ok (.iconst 2, 1) := by decide +kernel
theorem dX10_walked_5 : decode cX10_walked 5 = .ok (.if_icmp .ge 21, 3) := by decide +kernel
theorem dX10_walked_8 : decode cX10_walked 8 = .ok (.aload_n 0, 1) := by decide +kernel
theorem dX10_walked_9 : decode cX10_walked 9 = .ok (.getfield 21, 3) := by decide +kernel
theorem dX10_walked_12 : decode cX10_walked 12 = .ok (.aload_n 1, 1) := by decide +kernel
theorem dX10_walked_13 : decode cX10_walked 13 = .ok (.aload_n 0, 1) := by decide +kernel
theorem dX10_walked_14 : decode cX10_walked 14 = .ok (.aload_n 1, 1) := by decide +kernel
theorem dX10_walked_15 : decode cX10_walked 15 = .ok (.invokevirtual 40, 3) := by decide +kernel
theorem dX10_walked_18 : decode cX10_walked 18 = .ok (.invokevirtual 44, 3) := by decide +kernel
theorem dX10_walked_21 : decode cX10_walked 21 = .ok (.aload_n 0, 1) := by decide +kernel
theorem dX10_walked_22 : decode cX10_walked 22 = .ok (.iconst 2, 1) := by decide +kernel
theorem dX10_walked_23 : decode cX10_walked 23 = .ok (.putfield 32, 3) := by decide +kernel
theorem dX10_walked_26 : decode cX10_walked 26 = .ok (.aload_n 0, 1) := by decide +kernel
theorem dX10_walked_27 : decode cX10_walked 27 = .ok (.getfield 21, 3) := by decide +kernel
theorem dX10_walked_30 : decode cX10_walked 30 = .ok (.areturn, 1) := by decide +kernel
theorem dX10_outlined_0 : decode cX10_outlined 0 = .ok (.aload_n 0, 1) := by decide +kernel
theorem dX10_outlined_1 : decode cX10_outlined 1 = .ok (.getfield 32, 3) := by decide +kernel
theorem dX10_outlined_4 : decode cX10_outlined 4 = .ok (.iconst 3, 1) := by decide +kernel
theorem dX10_outlined_5 : decode cX10_outlined 5 = .ok (.if_icmp .ge 19, 3) := by decide +kernel
theorem dX10_outlined_8 : decode cX10_outlined 8 = .ok (.aload_n 0, 1) := by decide +kernel
theorem dX10_outlined_9 : decode cX10_outlined 9 = .ok (.aload_n 1, 1) := by decide +kernel
theorem dX10_outlined_10 : decode cX10_outlined 10 = .ok (.invokevirtual 48, 3) := by decide +kernel
theorem dX10_outlined_13 : decode cX10_outlined 13 = .ok (.pop, 1) := by decide +kernel
theorem dX10_outlined_14 : decode cX10_outlined 14 = .ok (.aload_n 0, 1) := by decide +kernel
theorem dX10_outlined_15 : decode cX10_outlined 15 = .ok (.aload_n 1, 1) := by decide +kernel
theorem dX10_outlined_16 : decode cX10_outlined 16 = .ok (.invokevirtual 52, 3) := by decide +kernel
theorem dX10_outlined_19 : decode cX10_outlined 19 = .ok (.aload_n 0, 1) := by decide +kernel
theorem dX10_outlined_20 : decode cX10_outlined 20 = .ok (.iconst 3, 1) := by decide +kernel
theorem dX10_outlined_21 : decode cX10_outlined 21 = .ok (.putfield 32, 3) := by decide +kernel
theorem dX10_outlined_24 : decode cX10_outlined 24 = .ok (.aload_n 0, 1) := by decide +kernel
theorem dX10_outlined_25 : decode cX10_outlined 25 = .ok (.getfield 28, 3) := by decide +kernel
theorem dX10_outlined_28 : decode cX10_outlined 28 = .ok (.areturn, 1) := by decide +kernel
theorem dX10_outline_0 : decode cX10_outline 0 = .ok (.aload_n 0, 1) := by decide +kernel
theorem dX10_outline_1 : decode cX10_outline 1 = .ok (.aload_n 1, 1) := by decide +kernel
theorem dX10_outline_2 : decode cX10_outline 2 = .ok (.invokevirtual 55, 3) := by decide +kernel
theorem dX10_outline_5 : decode cX10_outline 5 = .ok (.putfield 61, 3) := by decide +kernel
theorem dX10_outline_8 : decode cX10_outline 8 = .ok (.aload_n 0, 1) := by decide +kernel
theorem dX10_outline_9 : decode cX10_outline 9 = .ok (.aload_n 1, 1) := by decide +kernel
theorem dX10_outline_10 : decode cX10_outline 10 = .ok (.iconst 1, 1) := by decide +kernel
theorem dX10_outline_11 : decode cX10_outline 11 = .ok (.invokevirtual 64, 3) := by decide +kernel
theorem dX10_outline_14 : decode cX10_outline 14 = .ok (.putfield 68, 3) := by decide +kernel
theorem dX10_outline_17 : decode cX10_outline 17 = .ok (.aload_n 0, 1) := by decide +kernel
theorem dX10_outline_18 : decode cX10_outline 18 = .ok (.aload_n 1, 1) := by decide +kernel
theorem dX10_outline_19 : decode cX10_outline 19 = .ok (.iconst 2, 1) := by decide +kernel
theorem dX10_outline_20 : decode cX10_outline 20 = .ok (.invokevirtual 64, 3) := by decide +kernel
theorem dX10_outline_23 : decode cX10_outline 23 = .ok (.putfield 71, 3) := by decide +kernel
theorem dX10_outline_26 : decode cX10_outline 26 = .ok (.aload_n 0, 1) := by decide +kernel
theorem dX10_outline_27 : decode cX10_outline 27 = .ok (.aload_n 1, 1) := by decide +kernel
theorem dX10_outline_28 : decode cX10_outline 28 = .ok (.iconst 3, 1) := by decide +kernel
theorem dX10_outline_29 : decode cX10_outline 29 = .ok (.invokevirtual 64, 3) := by decide +kernel
theorem dX10_outline_32 : decode cX10_outline 32 = .ok (.putfield 74, 3) := by decide +kernel
theorem dX10_outline_35 : decode cX10_outline 35 = .ok (.aload_n 0, 1) := by decide +kernel
theorem dX10_outline_36 : decode cX10_outline 36 = .ok (.getfield 28, 3) := by decide +kernel
theorem dX10_outline_39 : decode cX10_outline 39 = .ok (.aload_n 0, 1) := by decide +kernel
theorem dX10_outline_40 : decode cX10_outline 40 = .ok (.getfield 61, 3) := by decide +kernel
theorem dX10_outline_43 : decode cX10_outline 43 = .ok (.invokevirtual 77, 3) := by decide +kernel
theorem dX10_outline_46 : decode cX10_outline 46 = .ok (.iconst 0, 1) := by decide +kernel
theorem dX10_outline_47 : decode cX10_outline 47 = .ok (.istore_n 2, 1) := by decide +kernel
theorem dX10_outline_48 : decode cX10_outline 48 = .ok (.iload_n 2, 1) := by decide +kernel
theorem dX10_outline_49 : decode cX10_outline 49 = .ok (.aload_n 1, 1) := by decide +kernel
theorem dX10_outline_50 : decode cX10_outline 50 = .ok (.invokevirtual 81, 3) := by decide +kernel
theorem dX10_outline_53 : decode cX10_outline 53 = .ok (.if_icmp .ge 88, 3) := by decide +kernel
theorem dX10_outline_56 : decode cX10_outline 56 = .ok (.aload_n 0, 1) := by decide +kernel
theorem dX10_outline_57 : decode cX10_outline 57 = .ok (.getfield 12, 3) := by decide +kernel
theorem dX10_outline_60 : decode cX10_outline 60 = .ok (.iload_n 2, 1) := by decide +kernel
theorem dX10_outline_61 : decode cX10_outline 61 = .ok (.invokevirtual 84, 3) := by decide +kernel
theorem dX10_outline_64 : decode cX10_outline 64 = .ok (.ifCond .ne 25, 3) := by decide +kernel
theorem dX10_outline_67 : decode cX10_outline 67 = .ok (.aload_n 0, 1) := by decide +kernel
theorem dX10_outline_68 : decode cX10_outline 68 = .ok (.bipush 64, 2) := by decide +kernel
theorem dX10_outline_70 : decode cX10_outline 70 = .ok (.aload_n 1, 1) := by decide +kernel
theorem dX10_outline_71 : decode cX10_outline 71 = .ok (.iload_n 2, 1) := by decide +kernel
theorem dX10_outline_72 : decode cX10_outline 72 = .ok (.iconst 0, 1) := by decide +kernel
theorem dX10_outline_73 : decode cX10_outline 73 = .ok (.invokevirtual 87, 3) := by decide +kernel
theorem dX10_outline_76 : decode cX10_outline 76 = .ok (.imul, 1) := by decide +kernel
theorem dX10_outline_77 : decode cX10_outline 77 = .ok (.bipush 64, 2) := by decide +kernel
theorem dX10_outline_79 : decode cX10_outline 79 = .ok (.aload_n 1, 1) := by decide +kernel
theorem dX10_outline_80 : decode cX10_outline 80 = .ok (.iload_n 2, 1) := by decide +kernel
theorem dX10_outline_81 : decode cX10_outline 81 = .ok (.iconst 0, 1) := by decide +kernel
theorem dX10_outline_82 : decode cX10_outline 82 = .ok (.invokevirtual 91, 3) := by decide +kernel
theorem dX10_outline_85 : decode cX10_outline 85 = .ok (.imul, 1) := by decide +kernel
theorem dX10_outline_86 : decode cX10_outline 86 = .ok (.invokevirtual 94, 3) := by decide +kernel
theorem dX10_outline_89 : decode cX10_outline 89 = .ok (.aload_n 0, 1) := by decide +kernel
theorem dX10_outline_90 : decode cX10_outline 90 = .ok (.getfield 21, 3) := by decide +kernel
theorem dX10_outline_93 : decode cX10_outline 93 = .ok (.iload_n 2, 1) := by decide +kernel
theorem dX10_outline_94 : decode cX10_outline 94 = .ok (.invokevirtual 98, 3) := by decide +kernel
theorem dX10_outline_97 : decode cX10_outline 97 = .ok (.aload_n 0, 1) := by decide +kernel
theorem dX10_outline_98 : decode cX10_outline 98 = .ok (.getfield 21, 3) := by decide +kernel
theorem dX10_outline_101 : decode cX10_outline 101 = .ok (.iload_n 2, 1) := by decide +kernel
theorem dX10_outline_102 : decode cX10_outline 102 = .ok (.invokevirtual 101, 3) := by decide +kernel
theorem dX10_outline_105 : decode cX10_outline 105 = .ok (.iadd, 1) := by decide +kernel
theorem dX10_outline_106 : decode cX10_outline 106 = .ok (.istore_n 3, 1) := by decide +kernel
theorem dX10_outline_107 : decode cX10_outline 107 = .ok (.aload_n 0, 1) := by decide +kernel
theorem dX10_outline_108 : decode cX10_outline 108 = .ok (.getfield 21, 3) := by decide +kernel
theorem dX10_outline_111 : decode cX10_outline 111 = .ok (.iload_n 2, 1) := by decide +kernel
theorem dX10_outline_112 : decode cX10_outline 112 = .ok (.invokevirtual 98, 3) := by decide +kernel
theorem dX10_outline_115 : decode cX10_outline 115 = .ok (.istore 4, 2) := by decide +kernel
theorem dX10_outline_117 : decode cX10_outline 117 = .ok (.iload 4, 2) := by decide +kernel
theorem dX10_outline_119 : decode cX10_outline 119 = .ok (.iload_n 3, 1) := by decide +kernel
theorem dX10_outline_120 : decode cX10_outline 120 = .ok (.if_icmp .ge 15, 3) := by decide +kernel
theorem dX10_outline_123 : decode cX10_outline 123 = .ok (.aload_n 0, 1) := by decide +kernel
theorem dX10_outline_124 : decode cX10_outline 124 = .ok (.iload 4, 2) := by decide +kernel
theorem dX10_outline_126 : decode cX10_outline 126 = .ok (.invokevirtual 102, 3) := by decide +kernel
theorem dX10_outline_129 : decode cX10_outline 129 = .ok (.iinc 4 1, 3) := by decide +kernel
theorem dX10_outline_132 : decode cX10_outline 132 = .ok (.goto (-15), 3) := by decide +kernel
theorem dX10_outline_135 : decode cX10_outline 135 = .ok (.iinc 2 1, 3) := by decide +kernel
theorem dX10_outline_138 : decode cX10_outline 138 = .ok (.goto (-90), 3) := by decide +kernel
theorem dX10_outline_141 : decode cX10_outline 141 = .ok (.return_, 1) := by decide +kernel
theorem dX10_addDot_0 : decode cX10_addDot 0 = .ok (.aload_n 0, 1) := by decide +kernel
theorem dX10_addDot_1 : decode cX10_addDot 1 = .ok (.getfield 74, 3) := by decide +kernel
theorem dX10_addDot_4 : decode cX10_addDot 4 = .ok (.iconst 1, 1) := by decide +kernel
theorem dX10_addDot_5 : decode cX10_addDot 5 = .ok (.if_icmp .ne 12, 3) := by decide +kernel
theorem dX10_addDot_8 : decode cX10_addDot 8 = .ok (.aload_n 0, 1) := by decide +kernel
theorem dX10_addDot_9 : decode cX10_addDot 9 = .ok (.iload_n 1, 1) := by decide +kernel
theorem dX10_addDot_10 : decode cX10_addDot 10 = .ok (.iload_n 2, 1) := by decide +kernel
theorem dX10_addDot_11 : decode cX10_addDot 11 = .ok (.invokevirtual 105, 3) := by decide +kernel
theorem dX10_addDot_14 : decode cX10_addDot 14 = .ok (.goto 95, 3) := by decide +kernel
theorem dX10_addDot_17 : decode cX10_addDot 17 = .ok (.aload_n 0, 1) := by decide +kernel
theorem dX10_addDot_18 : decode cX10_addDot 18 = .ok (.getfield 74, 3) := by decide +kernel
theorem dX10_addDot_21 : decode cX10_addDot 21 = .ok (.iconst 2, 1) := by decide +kernel
theorem dX10_addDot_22 : decode cX10_addDot 22 = .ok (.if_icmp .ne 87, 3) := by decide +kernel
theorem dX10_addDot_25 : decode cX10_addDot 25 = .ok (.aload_n 0, 1) := by decide +kernel
theorem dX10_addDot_26 : decode cX10_addDot 26 = .ok (.getfield 28, 3) := by decide +kernel
theorem dX10_addDot_29 : decode cX10_addDot 29 = .ok (.iconst 4, 1) := by decide +kernel
theorem dX10_addDot_30 : decode cX10_addDot 30 = .ok (.invokevirtual 108, 3) := by decide +kernel
theorem dX10_addDot_33 : decode cX10_addDot 33 = .ok (.aload_n 0, 1) := by decide +kernel
theorem dX10_addDot_34 : decode cX10_addDot 34 = .ok (.getfield 28, 3) := by decide +kernel
theorem dX10_addDot_37 : decode cX10_addDot 37 = .ok (.iload_n 1, 1) := by decide +kernel
theorem dX10_addDot_38 : decode cX10_addDot 38 = .ok (.aload_n 0, 1) := by decide +kernel
theorem dX10_addDot_39 : decode cX10_addDot 39 = .ok (.getfield 61, 3) := by decide +kernel
theorem dX10_addDot_42 : decode cX10_addDot 42 = .ok (.isub, 1) := by decide +kernel
theorem dX10_addDot_43 : decode cX10_addDot 43 = .ok (.iload_n 2, 1) := by decide +kernel
theorem dX10_addDot_44 : decode cX10_addDot 44 = .ok (.aload_n 0, 1) := by decide +kernel
theorem dX10_addDot_45 : decode cX10_addDot 45 = .ok (.getfield 61, 3) := by decide +kernel
theorem dX10_addDot_48 : decode cX10_addDot 48 = .ok (.isub, 1) := by decide +kernel
theorem dX10_addDot_49 : decode cX10_addDot 49 = .ok (.invokevirtual 111, 3) := by decide +kernel
theorem dX10_addDot_52 : decode cX10_addDot 52 = .ok (.aload_n 0, 1) := by decide +kernel
theorem dX10_addDot_53 : decode cX10_addDot 53 = .ok (.getfield 28, 3) := by decide +kernel
theorem dX10_addDot_56 : decode cX10_addDot 56 = .ok (.iload_n 1, 1) := by decide +kernel
theorem dX10_addDot_57 : decode cX10_addDot 57 = .ok (.aload_n 0, 1) := by decide +kernel
theorem dX10_addDot_58 : decode cX10_addDot 58 = .ok (.getfield 61, 3) := by decide +kernel
theorem dX10_addDot_61 : decode cX10_addDot 61 = .ok (.iadd, 1) := by decide +kernel
theorem dX10_addDot_62 : decode cX10_addDot 62 = .ok (.iload_n 2, 1) := by decide +kernel
theorem dX10_addDot_63 : decode cX10_addDot 63 = .ok (.aload_n 0, 1) := by decide +kernel
theorem dX10_addDot_64 : decode cX10_addDot 64 = .ok (.getfield 61, 3) := by decide +kernel
theorem dX10_addDot_67 : decode cX10_addDot 67 = .ok (.isub, 1) := by decide +kernel
theorem dX10_addDot_68 : decode cX10_addDot 68 = .ok (.invokevirtual 111, 3) := by decide +kernel
theorem dX10_addDot_71 : decode cX10_addDot 71 = .ok (.aload_n 0, 1) := by decide +kernel
theorem dX10_addDot_72 : decode cX10_addDot 72 = .ok (.getfield 28, 3) := by decide +kernel
theorem dX10_addDot_75 : decode cX10_addDot 75 = .ok (.iload_n 1, 1) := by decide +kernel
theorem dX10_addDot_76 : decode cX10_addDot 76 = .ok (.aload_n 0, 1) := by decide +kernel
theorem dX10_addDot_77 : decode cX10_addDot 77 = .ok (.getfield 61, 3) := by decide +kernel
theorem dX10_addDot_80 : decode cX10_addDot 80 = .ok (.iadd, 1) := by decide +kernel
theorem dX10_addDot_81 : decode cX10_addDot 81 = .ok (.iload_n 2, 1) := by decide +kernel
theorem dX10_addDot_82 : decode cX10_addDot 82 = .ok (.aload_n 0, 1) := by decide +kernel
theorem dX10_addDot_83 : decode cX10_addDot 83 = .ok (.getfield 61, 3) := by decide +kernel
theorem dX10_addDot_86 : decode cX10_addDot 86 = .ok (.iadd, 1) := by decide +kernel
theorem dX10_addDot_87 : decode cX10_addDot 87 = .ok (.invokevirtual 111, 3) := by decide +kernel
theorem dX10_addDot_90 : decode cX10_addDot 90 = .ok (.aload_n 0, 1) := by decide +kernel
theorem dX10_addDot_91 : decode cX10_addDot 91 = .ok (.getfield 28, 3) := by decide +kernel
theorem dX10_addDot_94 : decode cX10_addDot 94 = .ok (.iload_n 1, 1) := by decide +kernel
theorem dX10_addDot_95 : decode cX10_addDot 95 = .ok (.aload_n 0, 1) := by decide +kernel
theorem dX10_addDot_96 : decode cX10_addDot 96 = .ok (.getfield 61, 3) := by decide +kernel
theorem dX10_addDot_99 : decode cX10_addDot 99 = .ok (.isub, 1) := by decide +kernel
theorem dX10_addDot_100 : decode cX10_addDot 100 = .ok (.iload_n 2, 1) := by decide +kernel
theorem dX10_addDot_101 : decode cX10_addDot 101 = .ok (.aload_n 0, 1) := by decide +kernel
theorem dX10_addDot_102 : decode cX10_addDot 102 = .ok (.getfield 61, 3) := by decide +kernel
theorem dX10_addDot_105 : decode cX10_addDot 105 = .ok (.iadd, 1) := by decide +kernel
theorem dX10_addDot_106 : decode cX10_addDot 106 = .ok (.invokevirtual 111, 3) := by decide +kernel
theorem dX10_addDot_109 : decode cX10_addDot 109 = .ok (.return_, 1) := by decide +kernel
theorem dX10_outlineRun_0 : decode cX10_outlineRun 0 = .ok (.aload_n 0, 1) := by decide +kernel
theorem dX10_outlineRun_1 : decode cX10_outlineRun 1 = .ok (.getfield 21, 3) := by decide +kernel
theorem dX10_outlineRun_4 : decode cX10_outlineRun 4 = .ok (.iload_n 1, 1) := by decide +kernel
theorem dX10_outlineRun_5 : decode cX10_outlineRun 5 = .ok (.invokevirtual 114, 3) := by decide +kernel
theorem dX10_outlineRun_8 : decode cX10_outlineRun 8 = .ok (.istore_n 2, 1) := by decide +kernel
theorem dX10_outlineRun_9 : decode cX10_outlineRun 9 = .ok (.iload_n 2, 1) := by decide +kernel
theorem dX10_outlineRun_10 : decode cX10_outlineRun 10 = .ok (.aload_n 0, 1) := by decide +kernel
theorem dX10_outlineRun_11 : decode cX10_outlineRun 11 = .ok (.getfield 21, 3) := by decide +kernel
theorem dX10_outlineRun_14 : decode cX10_outlineRun 14 = .ok (.iload_n 1, 1) := by decide +kernel
theorem dX10_outlineRun_15 : decode cX10_outlineRun 15 = .ok (.invokevirtual 117, 3) := by decide +kernel
theorem dX10_outlineRun_18 : decode cX10_outlineRun 18 = .ok (.iadd, 1) := by decide +kernel
theorem dX10_outlineRun_19 : decode cX10_outlineRun 19 = .ok (.istore_n 3, 1) := by decide +kernel
theorem dX10_outlineRun_20 : decode cX10_outlineRun 20 = .ok (.aload_n 0, 1) := by decide +kernel
theorem dX10_outlineRun_21 : decode cX10_outlineRun 21 = .ok (.getfield 21, 3) := by decide +kernel
theorem dX10_outlineRun_24 : decode cX10_outlineRun 24 = .ok (.iload_n 1, 1) := by decide +kernel
theorem dX10_outlineRun_25 : decode cX10_outlineRun 25 = .ok (.invokevirtual 120, 3) := by decide +kernel
theorem dX10_outlineRun_28 : decode cX10_outlineRun 28 = .ok (.istore 4, 2) := by decide +kernel
theorem dX10_outlineRun_30 : decode cX10_outlineRun 30 = .ok (.iload_n 2, 1) := by decide +kernel
theorem dX10_outlineRun_31 : decode cX10_outlineRun 31 = .ok (.istore 5, 2) := by decide +kernel
theorem dX10_outlineRun_33 : decode cX10_outlineRun 33 = .ok (.iload 5, 2) := by decide +kernel
theorem dX10_outlineRun_35 : decode cX10_outlineRun 35 = .ok (.iload_n 3, 1) := by decide +kernel
theorem dX10_outlineRun_36 : decode cX10_outlineRun 36 = .ok (.if_icmp .ge 48, 3) := by decide +kernel
theorem dX10_outlineRun_39 : decode cX10_outlineRun 39 = .ok (.aload_n 0, 1) := by decide +kernel
theorem dX10_outlineRun_40 : decode cX10_outlineRun 40 = .ok (.iload 5, 2) := by decide +kernel
theorem dX10_outlineRun_42 : decode cX10_outlineRun 42 = .ok (.invokevirtual 124, 3) := by decide +kernel
theorem dX10_outlineRun_45 : decode cX10_outlineRun 45 = .ok (.iload 5, 2) := by decide +kernel
theorem dX10_outlineRun_47 : decode cX10_outlineRun 47 = .ok (.iconst 1, 1) := by decide +kernel
theorem dX10_outlineRun_48 : decode cX10_outlineRun 48 = .ok (.iadd, 1) := by decide +kernel
theorem dX10_outlineRun_49 : decode cX10_outlineRun 49 = .ok (.iload_n 3, 1) := by decide +kernel
theorem dX10_outlineRun_50 : decode cX10_outlineRun 50 = .ok (.if_icmp .ge 16, 3) := by decide +kernel
theorem dX10_outlineRun_53 : decode cX10_outlineRun 53 = .ok (.aload_n 0, 1) := by decide +kernel
theorem dX10_outlineRun_54 : decode cX10_outlineRun 54 = .ok (.iload 5, 2) := by decide +kernel
theorem dX10_outlineRun_56 : decode cX10_outlineRun 56 = .ok (.iload 5, 2) := by decide +kernel
theorem dX10_outlineRun_58 : decode cX10_outlineRun 58 = .ok (.iconst 1, 1) := by decide +kernel
theorem dX10_outlineRun_59 : decode cX10_outlineRun 59 = .ok (.iadd, 1) := by decide +kernel
theorem dX10_outlineRun_60 : decode cX10_outlineRun 60 = .ok (.invokevirtual 127, 3) := by decide +kernel
theorem dX10_outlineRun_63 : decode cX10_outlineRun 63 = .ok (.goto 15, 3) := by decide +kernel
theorem dX10_outlineRun_66 : decode cX10_outlineRun 66 = .ok (.iload 4, 2) := by decide +kernel
theorem dX10_outlineRun_68 : decode cX10_outlineRun 68 = .ok (.ifCond .eq 10, 3) := by decide +kernel
theorem dX10_outlineRun_71 : decode cX10_outlineRun 71 = .ok (.aload_n 0, 1) := by decide +kernel
theorem dX10_outlineRun_72 : decode cX10_outlineRun 72 = .ok (.iload 5, 2) := by decide +kernel
theorem dX10_outlineRun_74 : decode cX10_outlineRun 74 = .ok (.iload_n 2, 1) := by decide +kernel
theorem dX10_outlineRun_75 : decode cX10_outlineRun 75 = .ok (.invokevirtual 127, 3) := by decide +kernel
theorem dX10_outlineRun_78 : decode cX10_outlineRun 78 = .ok (.iinc 5 1, 3) := by decide +kernel
theorem dX10_outlineRun_81 : decode cX10_outlineRun 81 = .ok (.goto (-48), 3) := by decide +kernel
theorem dX10_outlineRun_84 : decode cX10_outlineRun 84 = .ok (.iload 4, 2) := by decide +kernel
theorem dX10_outlineRun_86 : decode cX10_outlineRun 86 = .ok (.ifCond .ne 54, 3) := by decide +kernel
theorem dX10_outlineRun_89 : decode cX10_outlineRun 89 = .ok (.iload_n 2, 1) := by decide +kernel
theorem dX10_outlineRun_90 : decode cX10_outlineRun 90 = .ok (.iload_n 3, 1) := by decide +kernel
theorem dX10_outlineRun_91 : decode cX10_outlineRun 91 = .ok (.if_icmp .ge 49, 3) := by decide +kernel
theorem dX10_outlineRun_94 : decode cX10_outlineRun 94 = .ok (.aload_n 0, 1) := by decide +kernel
theorem dX10_outlineRun_95 : decode cX10_outlineRun 95 = .ok (.aload_n 0, 1) := by decide +kernel
theorem dX10_outlineRun_96 : decode cX10_outlineRun 96 = .ok (.getfield 21, 3) := by decide +kernel
theorem dX10_outlineRun_99 : decode cX10_outlineRun 99 = .ok (.iload_n 2, 1) := by decide +kernel
theorem dX10_outlineRun_100 : decode cX10_outlineRun 100 = .ok (.invokevirtual 130, 3) := by decide +kernel
theorem dX10_outlineRun_103 : decode cX10_outlineRun 103 = .ok (.aload_n 0, 1) := by decide +kernel
theorem dX10_outlineRun_104 : decode cX10_outlineRun 104 = .ok (.getfield 21, 3) := by decide +kernel
theorem dX10_outlineRun_107 : decode cX10_outlineRun 107 = .ok (.iload_n 2, 1) := by decide +kernel
theorem dX10_outlineRun_108 : decode cX10_outlineRun 108 = .ok (.invokevirtual 133, 3) := by decide +kernel
theorem dX10_outlineRun_111 : decode cX10_outlineRun 111 = .ok (.iconst (-1), 1) := by decide +kernel
theorem dX10_outlineRun_112 : decode cX10_outlineRun 112 = .ok (.invokevirtual 136, 3) := by decide +kernel
theorem dX10_outlineRun_115 : decode cX10_outlineRun 115 = .ok (.aload_n 0, 1) := by decide +kernel
theorem dX10_outlineRun_116 : decode cX10_outlineRun 116 = .ok (.aload_n 0, 1) := by decide +kernel
theorem dX10_outlineRun_117 : decode cX10_outlineRun 117 = .ok (.getfield 21, 3) := by decide +kernel
theorem dX10_outlineRun_120 : decode cX10_outlineRun 120 = .ok (.iload_n 3, 1) := by decide +kernel
theorem dX10_outlineRun_121 : decode cX10_outlineRun 121 = .ok (.iconst 1, 1) := by decide +kernel
theorem dX10_outlineRun_122 : decode cX10_outlineRun 122 = .ok (.isub, 1) := by decide +kernel
theorem dX10_outlineRun_123 : decode cX10_outlineRun 123 = .ok (.invokevirtual 130, 3) := by decide +kernel
theorem dX10_outlineRun_126 : decode cX10_outlineRun 126 = .ok (.aload_n 0, 1) := by decide +kernel
theorem dX10_outlineRun_127 : decode cX10_outlineRun 127 = .ok (.getfield 21, 3) := by decide +kernel
theorem dX10_outlineRun_130 : decode cX10_outlineRun 130 = .ok (.iload_n 3, 1) := by decide +kernel
theorem dX10_outlineRun_131 : decode cX10_outlineRun 131 = .ok (.iconst 1, 1) := by decide +kernel
theorem dX10_outlineRun_132 : decode cX10_outlineRun 132 = .ok (.isub, 1) := by decide +kernel
theorem dX10_outlineRun_133 : decode cX10_outlineRun 133 = .ok (.invokevirtual 140, 3) := by decide +kernel
theorem dX10_outlineRun_136 : decode cX10_outlineRun 136 = .ok (.iconst 1, 1) := by decide +kernel
theorem dX10_outlineRun_137 : decode cX10_outlineRun 137 = .ok (.invokevirtual 136, 3) := by decide +kernel
theorem dX10_outlineRun_140 : decode cX10_outlineRun 140 = .ok (.return_, 1) := by decide +kernel
theorem dX10_addStrip_0 : decode cX10_addStrip 0 = .ok (.aload_n 0, 1) := by decide +kernel
theorem dX10_addStrip_1 : decode cX10_addStrip 1 = .ok (.getfield 21, 3) := by decide +kernel
theorem dX10_addStrip_4 : decode cX10_addStrip 4 = .ok (.iload_n 1, 1) := by decide +kernel
theorem dX10_addStrip_5 : decode cX10_addStrip 5 = .ok (.invokevirtual 130, 3) := by decide +kernel
theorem dX10_addStrip_8 : decode cX10_addStrip 8 = .ok (.istore_n 2, 1) := by decide +kernel
theorem dX10_addStrip_9 : decode cX10_addStrip 9 = .ok (.aload_n 0, 1) := by decide +kernel
theorem dX10_addStrip_10 : decode cX10_addStrip 10 = .ok (.getfield 12, 3) := by decide +kernel
theorem dX10_addStrip_13 : decode cX10_addStrip 13 = .ok (.iload_n 2, 1) := by decide +kernel
theorem dX10_addStrip_14 : decode cX10_addStrip 14 = .ok (.aload_n 0, 1) := by decide +kernel
theorem dX10_addStrip_15 : decode cX10_addStrip 15 = .ok (.getfield 21, 3) := by decide +kernel
theorem dX10_addStrip_18 : decode cX10_addStrip 18 = .ok (.iload_n 1, 1) := by decide +kernel
theorem dX10_addStrip_19 : decode cX10_addStrip 19 = .ok (.invokevirtual 133, 3) := by decide +kernel
theorem dX10_addStrip_22 : decode cX10_addStrip 22 = .ok (.invokevirtual 143, 3) := by decide +kernel
theorem dX10_addStrip_25 : decode cX10_addStrip 25 = .ok (.istore_n 3, 1) := by decide +kernel
theorem dX10_addStrip_26 : decode cX10_addStrip 26 = .ok (.aload_n 0, 1) := by decide +kernel
theorem dX10_addStrip_27 : decode cX10_addStrip 27 = .ok (.getfield 12, 3) := by decide +kernel
theorem dX10_addStrip_30 : decode cX10_addStrip 30 = .ok (.iload_n 2, 1) := by decide +kernel
theorem dX10_addStrip_31 : decode cX10_addStrip 31 = .ok (.aload_n 0, 1) := by decide +kernel
theorem dX10_addStrip_32 : decode cX10_addStrip 32 = .ok (.getfield 21, 3) := by decide +kernel
theorem dX10_addStrip_35 : decode cX10_addStrip 35 = .ok (.iload_n 1, 1) := by decide +kernel
theorem dX10_addStrip_36 : decode cX10_addStrip 36 = .ok (.invokevirtual 133, 3) := by decide +kernel
theorem dX10_addStrip_39 : decode cX10_addStrip 39 = .ok (.invokevirtual 146, 3) := by decide +kernel
theorem dX10_addStrip_42 : decode cX10_addStrip 42 = .ok (.istore 4, 2) := by decide +kernel
theorem dX10_addStrip_44 : decode cX10_addStrip 44 = .ok (.aload_n 0, 1) := by decide +kernel
theorem dX10_addStrip_45 : decode cX10_addStrip 45 = .ok (.getfield 12, 3) := by decide +kernel
theorem dX10_addStrip_48 : decode cX10_addStrip 48 = .ok (.iload_n 2, 1) := by decide +kernel
theorem dX10_addStrip_49 : decode cX10_addStrip 49 = .ok (.aload_n 0, 1) := by decide +kernel
theorem dX10_addStrip_50 : decode cX10_addStrip 50 = .ok (.getfield 21, 3) := by decide +kernel
theorem dX10_addStrip_53 : decode cX10_addStrip 53 = .ok (.iload_n 1, 1) := by decide +kernel
theorem dX10_addStrip_54 : decode cX10_addStrip 54 = .ok (.invokevirtual 140, 3) := by decide +kernel
theorem dX10_addStrip_57 : decode cX10_addStrip 57 = .ok (.invokevirtual 143, 3) := by decide +kernel
theorem dX10_addStrip_60 : decode cX10_addStrip 60 = .ok (.istore 5, 2) := by decide +kernel
theorem dX10_addStrip_62 : decode cX10_addStrip 62 = .ok (.aload_n 0, 1) := by decide +kernel
theorem dX10_addStrip_63 : decode cX10_addStrip 63 = .ok (.getfield 12, 3) := by decide +kernel
theorem dX10_addStrip_66 : decode cX10_addStrip 66 = .ok (.iload_n 2, 1) := by decide +kernel
theorem dX10_addStrip_67 : decode cX10_addStrip 67 = .ok (.aload_n 0, 1) := by decide +kernel
theorem dX10_addStrip_68 : decode cX10_addStrip 68 = .ok (.getfield 21, 3) := by decide +kernel
theorem dX10_addStrip_71 : decode cX10_addStrip 71 = .ok (.iload_n 1, 1) := by decide +kernel
theorem dX10_addStrip_72 : decode cX10_addStrip 72 = .ok (.invokevirtual 140, 3) := by decide +kernel
theorem dX10_addStrip_75 : decode cX10_addStrip 75 = .ok (.invokevirtual 146, 3) := by decide +kernel
theorem dX10_addStrip_78 : decode cX10_addStrip 78 = .ok (.istore 6, 2) := by decide +kernel
theorem dX10_addStrip_80 : decode cX10_addStrip 80 = .ok (.aload_n 0, 1) := by decide +kernel
theorem dX10_addStrip_81 : decode cX10_addStrip 81 = .ok (.getfield 12, 3) := by decide +kernel
theorem dX10_addStrip_84 : decode cX10_addStrip 84 = .ok (.iload_n 2, 1) := by decide +kernel
theorem dX10_addStrip_85 : decode cX10_addStrip 85 = .ok (.invokevirtual 149, 3) := by decide +kernel
theorem dX10_addStrip_88 : decode cX10_addStrip 88 = .ok (.istore 7, 2) := by decide +kernel
theorem dX10_addStrip_90 : decode cX10_addStrip 90 = .ok (.aload_n 0, 1) := by decide +kernel
theorem dX10_addStrip_91 : decode cX10_addStrip 91 = .ok (.getfield 12, 3) := by decide +kernel
theorem dX10_addStrip_94 : decode cX10_addStrip 94 = .ok (.iload_n 2, 1) := by decide +kernel
theorem dX10_addStrip_95 : decode cX10_addStrip 95 = .ok (.invokevirtual 152, 3) := by decide +kernel
theorem dX10_addStrip_98 : decode cX10_addStrip 98 = .ok (.istore 8, 2) := by decide +kernel
theorem dX10_addStrip_100 : decode cX10_addStrip 100 = .ok (.aload_n 0, 1) := by decide +kernel
theorem dX10_addStrip_101 : decode cX10_addStrip 101 = .ok (.getfield 28, 3) := by decide +kernel
theorem dX10_addStrip_104 : decode cX10_addStrip 104 = .ok (.iconst 0, 1) := by decide +kernel
theorem dX10_addStrip_105 : decode cX10_addStrip 105 = .ok (.invokevirtual 108, 3) := by decide +kernel
theorem dX10_addStrip_108 : decode cX10_addStrip 108 = .ok (.aload_n 0, 1) := by decide +kernel
theorem dX10_addStrip_109 : decode cX10_addStrip 109 = .ok (.getfield 28, 3) := by decide +kernel
theorem dX10_addStrip_112 : decode cX10_addStrip 112 = .ok (.iload_n 3, 1) := by decide +kernel
theorem dX10_addStrip_113 : decode cX10_addStrip 113 = .ok (.iload 7, 2) := by decide +kernel
theorem dX10_addStrip_115 : decode cX10_addStrip 115 = .ok (.iadd, 1) := by decide +kernel
theorem dX10_addStrip_116 : decode cX10_addStrip 116 = .ok (.iload 4, 2) := by decide +kernel
theorem dX10_addStrip_118 : decode cX10_addStrip 118 = .ok (.iload 8, 2) := by decide +kernel
theorem dX10_addStrip_120 : decode cX10_addStrip 120 = .ok (.iadd, 1) := by decide +kernel
theorem dX10_addStrip_121 : decode cX10_addStrip 121 = .ok (.invokevirtual 111, 3) := by decide +kernel
theorem dX10_addStrip_124 : decode cX10_addStrip 124 = .ok (.aload_n 0, 1) := by decide +kernel
theorem dX10_addStrip_125 : decode cX10_addStrip 125 = .ok (.getfield 28, 3) := by decide +kernel
theorem dX10_addStrip_128 : decode cX10_addStrip 128 = .ok (.iload 5, 2) := by decide +kernel
theorem dX10_addStrip_130 : decode cX10_addStrip 130 = .ok (.iload 7, 2) := by decide +kernel
theorem dX10_addStrip_132 : decode cX10_addStrip 132 = .ok (.iadd, 1) := by decide +kernel
theorem dX10_addStrip_133 : decode cX10_addStrip 133 = .ok (.iload 6, 2) := by decide +kernel
theorem dX10_addStrip_135 : decode cX10_addStrip 135 = .ok (.iload 8, 2) := by decide +kernel
theorem dX10_addStrip_137 : decode cX10_addStrip 137 = .ok (.iadd, 1) := by decide +kernel
theorem dX10_addStrip_138 : decode cX10_addStrip 138 = .ok (.invokevirtual 111, 3) := by decide +kernel
theorem dX10_addStrip_141 : decode cX10_addStrip 141 = .ok (.aload_n 0, 1) := by decide +kernel
theorem dX10_addStrip_142 : decode cX10_addStrip 142 = .ok (.getfield 28, 3) := by decide +kernel
theorem dX10_addStrip_145 : decode cX10_addStrip 145 = .ok (.iload 5, 2) := by decide +kernel
theorem dX10_addStrip_147 : decode cX10_addStrip 147 = .ok (.iload 7, 2) := by decide +kernel
theorem dX10_addStrip_149 : decode cX10_addStrip 149 = .ok (.isub, 1) := by decide +kernel
theorem dX10_addStrip_150 : decode cX10_addStrip 150 = .ok (.iload 6, 2) := by decide +kernel
theorem dX10_addStrip_152 : decode cX10_addStrip 152 = .ok (.iload 8, 2) := by decide +kernel
theorem dX10_addStrip_154 : decode cX10_addStrip 154 = .ok (.isub, 1) := by decide +kernel
theorem dX10_addStrip_155 : decode cX10_addStrip 155 = .ok (.invokevirtual 111, 3) := by decide +kernel
theorem dX10_addStrip_158 : decode cX10_addStrip 158 = .ok (.aload_n 0, 1) := by decide +kernel
theorem dX10_addStrip_159 : decode cX10_addStrip 159 = .ok (.getfield 28, 3) := by decide +kernel
theorem dX10_addStrip_162 : decode cX10_addStrip 162 = .ok (.iload_n 3, 1) := by decide +kernel
theorem dX10_addStrip_163 : decode cX10_addStrip 163 = .ok (.iload 7, 2) := by decide +kernel
theorem dX10_addStrip_165 : decode cX10_addStrip 165 = .ok (.isub, 1) := by decide +kernel
theorem dX10_addStrip_166 : decode cX10_addStrip 166 = .ok (.iload 4, 2) := by decide +kernel
theorem dX10_addStrip_168 : decode cX10_addStrip 168 = .ok (.iload 8, 2) := by decide +kernel
theorem dX10_addStrip_170 : decode cX10_addStrip 170 = .ok (.isub, 1) := by decide +kernel
theorem dX10_addStrip_171 : decode cX10_addStrip 171 = .ok (.invokevirtual 111, 3) := by decide +kernel
theorem dX10_addStrip_174 : decode cX10_addStrip 174 = .ok (.return_, 1) := by decide +kernel
theorem dX10_addJoin_0 : decode cX10_addJoin 0 = .ok (.aload_n 0, 1) := by decide +kernel
theorem dX10_addJoin_1 : decode cX10_addJoin 1 = .ok (.getfield 21, 3) := by decide +kernel
theorem dX10_addJoin_4 : decode cX10_addJoin 4 = .ok (.iload_n 1, 1) := by decide +kernel
theorem dX10_addJoin_5 : decode cX10_addJoin 5 = .ok (.invokevirtual 130, 3) := by decide +kernel
theorem dX10_addJoin_8 : decode cX10_addJoin 8 = .ok (.istore_n 3, 1) := by decide +kernel
theorem dX10_addJoin_9 : decode cX10_addJoin 9 = .ok (.aload_n 0, 1) := by decide +kernel
theorem dX10_addJoin_10 : decode cX10_addJoin 10 = .ok (.getfield 21, 3) := by decide +kernel
theorem dX10_addJoin_13 : decode cX10_addJoin 13 = .ok (.iload_n 2, 1) := by decide +kernel
theorem dX10_addJoin_14 : decode cX10_addJoin 14 = .ok (.invokevirtual 130, 3) := by decide +kernel
theorem dX10_addJoin_17 : decode cX10_addJoin 17 = .ok (.istore 4, 2) := by decide +kernel
theorem dX10_addJoin_19 : decode cX10_addJoin 19 = .ok (.aload_n 0, 1) := by decide +kernel
theorem dX10_addJoin_20 : decode cX10_addJoin 20 = .ok (.getfield 12, 3) := by decide +kernel
theorem dX10_addJoin_23 : decode cX10_addJoin 23 = .ok (.iload_n 3, 1) := by decide +kernel
theorem dX10_addJoin_24 : decode cX10_addJoin 24 = .ok (.iload 4, 2) := by decide +kernel
theorem dX10_addJoin_26 : decode cX10_addJoin 26 = .ok (.invokevirtual 155, 3) := by decide +kernel
theorem dX10_addJoin_29 : decode cX10_addJoin 29 = .ok (.lstore 5, 2) := by decide +kernel
theorem dX10_addJoin_31 : decode cX10_addJoin 31 = .ok (.aload_n 0, 1) := by decide +kernel
theorem dX10_addJoin_32 : decode cX10_addJoin 32 = .ok (.getfield 12, 3) := by decide +kernel
theorem dX10_addJoin_35 : decode cX10_addJoin 35 = .ok (.iload_n 3, 1) := by decide +kernel
theorem dX10_addJoin_36 : decode cX10_addJoin 36 = .ok (.iload 4, 2) := by decide +kernel
theorem dX10_addJoin_38 : decode cX10_addJoin 38 = .ok (.invokevirtual 159, 3) := by decide +kernel
theorem dX10_addJoin_41 : decode cX10_addJoin 41 = .ok (.lstore 7, 2) := by decide +kernel
theorem dX10_addJoin_43 : decode cX10_addJoin 43 = .ok (.iload_n 3, 1) := by decide +kernel
theorem dX10_addJoin_44 : decode cX10_addJoin 44 = .ok (.iload 4, 2) := by decide +kernel
theorem dX10_addJoin_46 : decode cX10_addJoin 46 = .ok (.if_icmp .eq 17, 3) := by decide +kernel
theorem dX10_addJoin_49 : decode cX10_addJoin 49 = .ok (.lload 5, 2) := by decide +kernel
theorem dX10_addJoin_51 : decode cX10_addJoin 51 = .ok (.lconst 0, 1) := by decide +kernel
theorem dX10_addJoin_52 : decode cX10_addJoin 52 = .ok (.lcmp, 1) := by decide +kernel
theorem dX10_addJoin_53 : decode cX10_addJoin 53 = .ok (.ifCond .ne 11, 3) := by decide +kernel
theorem dX10_addJoin_56 : decode cX10_addJoin 56 = .ok (.lload 7, 2) := by decide +kernel
theorem dX10_addJoin_58 : decode cX10_addJoin 58 = .ok (.lconst 0, 1) := by decide +kernel
theorem dX10_addJoin_59 : decode cX10_addJoin 59 = .ok (.lcmp, 1) := by decide +kernel
theorem dX10_addJoin_60 : decode cX10_addJoin 60 = .ok (.ifCond .le 4, 3) := by decide +kernel
theorem dX10_addJoin_63 : decode cX10_addJoin 63 = .ok (.return_, 1) := by decide +kernel
theorem dX10_addJoin_64 : decode cX10_addJoin 64 = .ok (.aload_n 0, 1) := by decide +kernel
theorem dX10_addJoin_65 : decode cX10_addJoin 65 = .ok (.getfield 12, 3) := by decide +kernel
theorem dX10_addJoin_68 : decode cX10_addJoin 68 = .ok (.iload_n 3, 1) := by decide +kernel
theorem dX10_addJoin_69 : decode cX10_addJoin 69 = .ok (.aload_n 0, 1) := by decide +kernel
theorem dX10_addJoin_70 : decode cX10_addJoin 70 = .ok (.getfield 21, 3) := by decide +kernel
theorem dX10_addJoin_73 : decode cX10_addJoin 73 = .ok (.iload_n 1, 1) := by decide +kernel
theorem dX10_addJoin_74 : decode cX10_addJoin 74 = .ok (.invokevirtual 140, 3) := by decide +kernel
theorem dX10_addJoin_77 : decode cX10_addJoin 77 = .ok (.invokevirtual 143, 3) := by decide +kernel
theorem dX10_addJoin_80 : decode cX10_addJoin 80 = .ok (.istore 9, 2) := by decide +kernel
theorem dX10_addJoin_82 : decode cX10_addJoin 82 = .ok (.aload_n 0, 1) := by decide +kernel
theorem dX10_addJoin_83 : decode cX10_addJoin 83 = .ok (.getfield 12, 3) := by decide +kernel
theorem dX10_addJoin_86 : decode cX10_addJoin 86 = .ok (.iload_n 3, 1) := by decide +kernel
theorem dX10_addJoin_87 : decode cX10_addJoin 87 = .ok (.aload_n 0, 1) := by decide +kernel
theorem dX10_addJoin_88 : decode cX10_addJoin 88 = .ok (.getfield 21, 3) := by decide +kernel
theorem dX10_addJoin_91 : decode cX10_addJoin 91 = .ok (.iload_n 1, 1) := by decide +kernel
theorem dX10_addJoin_92 : decode cX10_addJoin 92 = .ok (.invokevirtual 140, 3) := by decide +kernel
theorem dX10_addJoin_95 : decode cX10_addJoin 95 = .ok (.invokevirtual 146, 3) := by decide +kernel
theorem dX10_addJoin_98 : decode cX10_addJoin 98 = .ok (.istore 10, 2) := by decide +kernel
theorem dX10_addJoin_100 : decode cX10_addJoin 100 = .ok (.aload_n 0, 1) := by decide +kernel
theorem dX10_addJoin_101 : decode cX10_addJoin 101 = .ok (.getfield 68, 3) := by decide +kernel
theorem dX10_addJoin_104 : decode cX10_addJoin 104 = .ok (.iconst 1, 1) := by decide +kernel
theorem dX10_addJoin_105 : decode cX10_addJoin 105 = .ok (.if_icmp .ne 11, 3) := by decide +kernel
theorem dX10_addJoin_108 : decode cX10_addJoin 108 = .ok (.aload_n 0, 1) := by decide +kernel
theorem dX10_addJoin_109 : decode cX10_addJoin 109 = .ok (.iload 9, 2) := by decide +kernel
theorem dX10_addJoin_111 : decode cX10_addJoin 111 = .ok (.iload 10, 2) := by decide +kernel
theorem dX10_addJoin_113 : decode cX10_addJoin 113 = .ok (.invokevirtual 105, 3) := by decide +kernel
theorem dX10_addJoin_116 : decode cX10_addJoin 116 = .ok (.aload_n 0, 1) := by decide +kernel
theorem dX10_addJoin_117 : decode cX10_addJoin 117 = .ok (.getfield 68, 3) := by decide +kernel
theorem dX10_addJoin_120 : decode cX10_addJoin 120 = .ok (.iconst 1, 1) := by decide +kernel
theorem dX10_addJoin_121 : decode cX10_addJoin 121 = .ok (.if_icmp .eq 10, 3) := by decide +kernel
theorem dX10_addJoin_124 : decode cX10_addJoin 124 = .ok (.lload 5, 2) := by decide +kernel
theorem dX10_addJoin_126 : decode cX10_addJoin 126 = .ok (.lconst 0, 1) := by decide +kernel
theorem dX10_addJoin_127 : decode cX10_addJoin 127 = .ok (.lcmp, 1) := by decide +kernel
theorem dX10_addJoin_128 : decode cX10_addJoin 128 = .ok (.ifCond .ne 4, 3) := by decide +kernel
theorem dX10_addJoin_131 : decode cX10_addJoin 131 = .ok (.return_, 1) := by decide +kernel
theorem dX10_addJoin_132 : decode cX10_addJoin 132 = .ok (.lload 5, 2) := by decide +kernel
theorem dX10_addJoin_134 : decode cX10_addJoin 134 = .ok (.lconst 0, 1) := by decide +kernel
theorem dX10_addJoin_135 : decode cX10_addJoin 135 = .ok (.lcmp, 1) := by decide +kernel
theorem dX10_addJoin_136 : decode cX10_addJoin 136 = .ok (.ifCond .le 7, 3) := by decide +kernel
theorem dX10_addJoin_139 : decode cX10_addJoin 139 = .ok (.iconst (-1), 1) := by decide +kernel
theorem dX10_addJoin_140 : decode cX10_addJoin 140 = .ok (.goto 4, 3) := by decide +kernel
theorem dX10_addJoin_143 : decode cX10_addJoin 143 = .ok (.iconst 1, 1) := by decide +kernel
theorem dX10_addJoin_144 : decode cX10_addJoin 144 = .ok (.istore 11, 2) := by decide +kernel
theorem dX10_addJoin_146 : decode cX10_addJoin 146 = .ok (.aload_n 0, 1) := by decide +kernel
theorem dX10_addJoin_147 : decode cX10_addJoin 147 = .ok (.getfield 12, 3) := by decide +kernel
theorem dX10_addJoin_150 : decode cX10_addJoin 150 = .ok (.iload_n 3, 1) := by decide +kernel
theorem dX10_addJoin_151 : decode cX10_addJoin 151 = .ok (.invokevirtual 149, 3) := by decide +kernel
theorem dX10_addJoin_154 : decode cX10_addJoin 154 = .ok (.istore 12, 2) := by decide +kernel
theorem dX10_addJoin_156 : decode cX10_addJoin 156 = .ok (.aload_n 0, 1) := by decide +kernel
theorem dX10_addJoin_157 : decode cX10_addJoin 157 = .ok (.getfield 12, 3) := by decide +kernel
theorem dX10_addJoin_160 : decode cX10_addJoin 160 = .ok (.iload_n 3, 1) := by decide +kernel
theorem dX10_addJoin_161 : decode cX10_addJoin 161 = .ok (.invokevirtual 152, 3) := by decide +kernel
theorem dX10_addJoin_164 : decode cX10_addJoin 164 = .ok (.istore 13, 2) := by decide +kernel
theorem dX10_addJoin_166 : decode cX10_addJoin 166 = .ok (.aload_n 0, 1) := by decide +kernel
theorem dX10_addJoin_167 : decode cX10_addJoin 167 = .ok (.getfield 12, 3) := by decide +kernel
theorem dX10_addJoin_170 : decode cX10_addJoin 170 = .ok (.iload 4, 2) := by decide +kernel
theorem dX10_addJoin_172 : decode cX10_addJoin 172 = .ok (.invokevirtual 149, 3) := by decide +kernel
theorem dX10_addJoin_175 : decode cX10_addJoin 175 = .ok (.istore 14, 2) := by decide +kernel
theorem dX10_addJoin_177 : decode cX10_addJoin 177 = .ok (.aload_n 0, 1) := by decide +kernel
theorem dX10_addJoin_178 : decode cX10_addJoin 178 = .ok (.getfield 12, 3) := by decide +kernel
theorem dX10_addJoin_181 : decode cX10_addJoin 181 = .ok (.iload 4, 2) := by decide +kernel
theorem dX10_addJoin_183 : decode cX10_addJoin 183 = .ok (.invokevirtual 152, 3) := by decide +kernel
theorem dX10_addJoin_186 : decode cX10_addJoin 186 = .ok (.istore 15, 2) := by decide +kernel
theorem dX10_addJoin_188 : decode cX10_addJoin 188 = .ok (.aload_n 0, 1) := by decide +kernel
theorem dX10_addJoin_189 : decode cX10_addJoin 189 = .ok (.getfield 68, 3) := by decide +kernel
theorem dX10_addJoin_192 : decode cX10_addJoin 192 = .ok (.ifCond .ne 37, 3) := by decide +kernel
theorem dX10_addJoin_195 : decode cX10_addJoin 195 = .ok (.aload_n 0, 1) := by decide +kernel
theorem dX10_addJoin_196 : decode cX10_addJoin 196 = .ok (.lload 7, 2) := by decide +kernel
theorem dX10_addJoin_198 : decode cX10_addJoin 198 = .ok (.aload_n 0, 1) := by decide +kernel
theorem dX10_addJoin_199 : decode cX10_addJoin 199 = .ok (.getfield 12, 3) := by decide +kernel
theorem dX10_addJoin_202 : decode cX10_addJoin 202 = .ok (.iload_n 3, 1) := by decide +kernel
theorem dX10_addJoin_203 : decode cX10_addJoin 203 = .ok (.iload_n 3, 1) := by decide +kernel
theorem dX10_addJoin_204 : decode cX10_addJoin 204 = .ok (.invokevirtual 159, 3) := by decide +kernel
theorem dX10_addJoin_207 : decode cX10_addJoin 207 = .ok (.aload_n 0, 1) := by decide +kernel
theorem dX10_addJoin_208 : decode cX10_addJoin 208 = .ok (.getfield 12, 3) := by decide +kernel
theorem dX10_addJoin_211 : decode cX10_addJoin 211 = .ok (.iload 4, 2) := by decide +kernel
theorem dX10_addJoin_213 : decode cX10_addJoin 213 = .ok (.iload 4, 2) := by decide +kernel
theorem dX10_addJoin_215 : decode cX10_addJoin 215 = .ok (.invokevirtual 159, 3) := by decide +kernel
theorem dX10_addJoin_218 : decode cX10_addJoin 218 = .ok (.lmul, 1) := by decide +kernel
theorem dX10_addJoin_219 : decode cX10_addJoin 219 = .ok (.invokevirtual 162, 3) := by decide +kernel
theorem dX10_addJoin_222 : decode cX10_addJoin 222 = .ok (.ifCond .eq 7, 3) := by decide +kernel
theorem dX10_addJoin_225 : decode cX10_addJoin 225 = .ok (.iconst 1, 1) := by decide +kernel
theorem dX10_addJoin_226 : decode cX10_addJoin 226 = .ok (.goto 4, 3) := by decide +kernel
theorem dX10_addJoin_229 : decode cX10_addJoin 229 = .ok (.iconst 0, 1) := by decide +kernel
theorem dX10_addJoin_230 : decode cX10_addJoin 230 = .ok (.istore 16, 2) := by decide +kernel
theorem dX10_addJoin_232 : decode cX10_addJoin 232 = .ok (.aload_n 0, 1) := by decide +kernel
theorem dX10_addJoin_233 : decode cX10_addJoin 233 = .ok (.getfield 28, 3) := by decide +kernel
theorem dX10_addJoin_236 : decode cX10_addJoin 236 = .ok (.iload 16, 2) := by decide +kernel
theorem dX10_addJoin_238 : decode cX10_addJoin 238 = .ok (.ifCond .eq 7, 3) := by decide +kernel
theorem dX10_addJoin_241 : decode cX10_addJoin 241 = .ok (.iconst 1, 1) := by decide +kernel
theorem dX10_addJoin_242 : decode cX10_addJoin 242 = .ok (.goto 4, 3) := by decide +kernel
theorem dX10_addJoin_245 : decode cX10_addJoin 245 = .ok (.iconst 2, 1) := by decide +kernel
theorem dX10_addJoin_246 : decode cX10_addJoin 246 = .ok (.invokevirtual 108, 3) := by decide +kernel
theorem dX10_addJoin_249 : decode cX10_addJoin 249 = .ok (.aload_n 0, 1) := by decide +kernel
theorem dX10_addJoin_250 : decode cX10_addJoin 250 = .ok (.getfield 28, 3) := by decide +kernel
theorem dX10_addJoin_253 : decode cX10_addJoin 253 = .ok (.iload 9, 2) := by decide +kernel
theorem dX10_addJoin_255 : decode cX10_addJoin 255 = .ok (.iload 10, 2) := by decide +kernel
theorem dX10_addJoin_257 : decode cX10_addJoin 257 = .ok (.invokevirtual 111, 3) := by decide +kernel
theorem dX10_addJoin_260 : decode cX10_addJoin 260 = .ok (.aload_n 0, 1) := by decide +kernel
theorem dX10_addJoin_261 : decode cX10_addJoin 261 = .ok (.getfield 28, 3) := by decide +kernel
theorem dX10_addJoin_264 : decode cX10_addJoin 264 = .ok (.iload 9, 2) := by decide +kernel
theorem dX10_addJoin_266 : decode cX10_addJoin 266 = .ok (.iload 11, 2) := by decide +kernel
theorem dX10_addJoin_268 : decode cX10_addJoin 268 = .ok (.iload 12, 2) := by decide +kernel
theorem dX10_addJoin_270 : decode cX10_addJoin 270 = .ok (.imul, 1) := by decide +kernel
theorem dX10_addJoin_271 : decode cX10_addJoin 271 = .ok (.iadd, 1) := by decide +kernel
theorem dX10_addJoin_272 : decode cX10_addJoin 272 = .ok (.iload 10, 2) := by decide +kernel
theorem dX10_addJoin_274 : decode cX10_addJoin 274 = .ok (.iload 11, 2) := by decide +kernel
theorem dX10_addJoin_276 : decode cX10_addJoin 276 = .ok (.iload 13, 2) := by decide +kernel
theorem dX10_addJoin_278 : decode cX10_addJoin 278 = .ok (.imul, 1) := by decide +kernel
theorem dX10_addJoin_279 : decode cX10_addJoin 279 = .ok (.iadd, 1) := by decide +kernel
theorem dX10_addJoin_280 : decode cX10_addJoin 280 = .ok (.invokevirtual 111, 3) := by decide +kernel
theorem dX10_addJoin_283 : decode cX10_addJoin 283 = .ok (.iload 16, 2) := by decide +kernel
theorem dX10_addJoin_285 : decode cX10_addJoin 285 = .ok (.ifCond .eq 25, 3) := by decide +kernel
theorem dX10_addJoin_288 : decode cX10_addJoin 288 = .ok (.aload_n 0, 1) := by decide +kernel
theorem dX10_addJoin_289 : decode cX10_addJoin 289 = .ok (.iload 9, 2) := by decide +kernel
theorem dX10_addJoin_291 : decode cX10_addJoin 291 = .ok (.iload 10, 2) := by decide +kernel
theorem dX10_addJoin_293 : decode cX10_addJoin 293 = .ok (.iload 11, 2) := by decide +kernel
theorem dX10_addJoin_295 : decode cX10_addJoin 295 = .ok (.iload 12, 2) := by decide +kernel
theorem dX10_addJoin_297 : decode cX10_addJoin 297 = .ok (.iload 14, 2) := by decide +kernel
theorem dX10_addJoin_299 : decode cX10_addJoin 299 = .ok (.iadd, 1) := by decide +kernel
theorem dX10_addJoin_300 : decode cX10_addJoin 300 = .ok (.i2l, 1) := by decide +kernel
theorem dX10_addJoin_301 : decode cX10_addJoin 301 = .ok (.iload 13, 2) := by decide +kernel
theorem dX10_addJoin_303 : decode cX10_addJoin 303 = .ok (.iload 15, 2) := by decide +kernel
theorem dX10_addJoin_305 : decode cX10_addJoin 305 = .ok (.iadd, 1) := by decide +kernel
theorem dX10_addJoin_306 : decode cX10_addJoin 306 = .ok (.i2l, 1) := by decide +kernel
theorem dX10_addJoin_307 : decode cX10_addJoin 307 = .ok (.invokevirtual 166, 3) := by decide +kernel
theorem dX10_addJoin_310 : decode cX10_addJoin 310 = .ok (.aload_n 0, 1) := by decide +kernel
theorem dX10_addJoin_311 : decode cX10_addJoin 311 = .ok (.getfield 28, 3) := by decide +kernel
theorem dX10_addJoin_314 : decode cX10_addJoin 314 = .ok (.iload 9, 2) := by decide +kernel
theorem dX10_addJoin_316 : decode cX10_addJoin 316 = .ok (.iload 11, 2) := by decide +kernel
theorem dX10_addJoin_318 : decode cX10_addJoin 318 = .ok (.iload 14, 2) := by decide +kernel
theorem dX10_addJoin_320 : decode cX10_addJoin 320 = .ok (.imul, 1) := by decide +kernel
theorem dX10_addJoin_321 : decode cX10_addJoin 321 = .ok (.iadd, 1) := by decide +kernel
theorem dX10_addJoin_322 : decode cX10_addJoin 322 = .ok (.iload 10, 2) := by decide +kernel
theorem dX10_addJoin_324 : decode cX10_addJoin 324 = .ok (.iload 11, 2) := by decide +kernel
theorem dX10_addJoin_326 : decode cX10_addJoin 326 = .ok (.iload 15, 2) := by decide +kernel
theorem dX10_addJoin_328 : decode cX10_addJoin 328 = .ok (.imul, 1) := by decide +kernel
theorem dX10_addJoin_329 : decode cX10_addJoin 329 = .ok (.iadd, 1) := by decide +kernel
theorem dX10_addJoin_330 : decode cX10_addJoin 330 = .ok (.invokevirtual 111, 3) := by decide +kernel
theorem dX10_addJoin_333 : decode cX10_addJoin 333 = .ok (.return_, 1) := by decide +kernel
theorem dX10_addTip_0 : decode cX10_addTip 0 = .ok (.lload 4, 2) := by decide +kernel
theorem dX10_addTip_2 : decode cX10_addTip 2 = .ok (.lload 4, 2) := by decide +kernel
theorem dX10_addTip_4 : decode cX10_addTip 4 = .ok (.lmul, 1) := by decide +kernel
theorem dX10_addTip_5 : decode cX10_addTip 5 = .ok (.lload 6, 2) := by decide +kernel
theorem dX10_addTip_7 : decode cX10_addTip 7 = .ok (.lload 6, 2) := by decide +kernel
theorem dX10_addTip_9 : decode cX10_addTip 9 = .ok (.lmul, 1) := by decide +kernel
theorem dX10_addTip_10 : decode cX10_addTip 10 = .ok (.ladd, 1) := by decide +kernel
theorem dX10_addTip_11 : decode cX10_addTip 11 = .ok (.lstore 8, 2) := by decide +kernel
theorem dX10_addTip_13 : decode cX10_addTip 13 = .ok (.ldc2_w 170, 3) := by decide +kernel
theorem dX10_addTip_16 : decode cX10_addTip 16 = .ok (.aload_n 0, 1) := by decide +kernel
theorem dX10_addTip_17 : decode cX10_addTip 17 = .ok (.getfield 61, 3) := by decide +kernel
theorem dX10_addTip_20 : decode cX10_addTip 20 = .ok (.i2l, 1) := by decide +kernel
theorem dX10_addTip_21 : decode cX10_addTip 21 = .ok (.lmul, 1) := by decide +kernel
theorem dX10_addTip_22 : decode cX10_addTip 22 = .ok (.aload_n 0, 1) := by decide +kernel
