theorem dX12_remove_17 : decode cX12_remove 17 = .ok (.ifCond .eq 5, 3) := by decide +kernel
theorem dX12_remove_20 : decode cX12_remove 20 = .ok (.iconst 0, 1) := by decide +kernel
theorem dX12_remove_21 : decode cX12_remove 21 = .ok (.ireturn, 1) := by decide +kernel
theorem dX12_remove_22 : decode cX12_remove 22 = .ok (.aload_n 0, 1) := by decide +kernel
theorem dX12_remove_23 : decode cX12_remove 23 = .ok (.invokevirtual 95, 3) := by decide +kernel
theorem dX12_remove_26 : decode cX12_remove 26 = .ok (.aload_n 0, 1) := by decide +kernel
theorem dX12_remove_27 : decode cX12_remove 27 = .ok (.getfield 7, 3) := by decide +kernel
theorem dX12_remove_30 : decode cX12_remove 30 = .ok (.bipush 13, 2) := by decide +kernel
theorem dX12_remove_32 : decode cX12_remove 32 = .ok (.dup2, 1) := by decide +kernel
theorem dX12_remove_33 : decode cX12_remove 33 = .ok (.iaload, 1) := by decide +kernel
theorem dX12_remove_34 : decode cX12_remove 34 = .ok (.iconst 1, 1) := by decide +kernel
theorem dX12_remove_35 : decode cX12_remove 35 = .ok (.isub, 1) := by decide +kernel
theorem dX12_remove_36 : decode cX12_remove 36 = .ok (.iastore, 1) := by decide +kernel
theorem dX12_remove_37 : decode cX12_remove 37 = .ok (.iload_n 1, 1) := by decide +kernel
theorem dX12_remove_38 : decode cX12_remove 38 = .ok (.invokestatic 80, 3) := by decide +kernel
theorem dX12_remove_41 : decode cX12_remove 41 = .ok (.istore_n 2, 1) := by decide +kernel
theorem dX12_remove_42 : decode cX12_remove 42 = .ok (.iload_n 2, 1) := by decide +kernel
theorem dX12_remove_43 : decode cX12_remove 43 = .ok (.aload_n 0, 1) := by decide +kernel
theorem dX12_remove_44 : decode cX12_remove 44 = .ok (.getfield 7, 3) := by decide +kernel
theorem dX12_remove_47 : decode cX12_remove 47 = .ok (.bipush 13, 2) := by decide +kernel
theorem dX12_remove_49 : decode cX12_remove 49 = .ok (.iaload, 1) := by decide +kernel
theorem dX12_remove_50 : decode cX12_remove 50 = .ok (.invokestatic 80, 3) := by decide +kernel
theorem dX12_remove_53 : decode cX12_remove 53 = .ok (.if_icmp .ge 24, 3) := by decide +kernel
theorem dX12_remove_56 : decode cX12_remove 56 = .ok (.aload_n 0, 1) := by decide +kernel
theorem dX12_remove_57 : decode cX12_remove 57 = .ok (.getfield 7, 3) := by decide +kernel
theorem dX12_remove_60 : decode cX12_remove 60 = .ok (.iload_n 2, 1) := by decide +kernel
theorem dX12_remove_61 : decode cX12_remove 61 = .ok (.aload_n 0, 1) := by decide +kernel
theorem dX12_remove_62 : decode cX12_remove 62 = .ok (.getfield 7, 3) := by decide +kernel
theorem dX12_remove_65 : decode cX12_remove 65 = .ok (.iload_n 2, 1) := by decide +kernel
theorem dX12_remove_66 : decode cX12_remove 66 = .ok (.bipush 18, 2) := by decide +kernel
theorem dX12_remove_68 : decode cX12_remove 68 = .ok (.iadd, 1) := by decide +kernel
theorem dX12_remove_69 : decode cX12_remove 69 = .ok (.iaload, 1) := by decide +kernel
theorem dX12_remove_70 : decode cX12_remove 70 = .ok (.iastore, 1) := by decide +kernel
theorem dX12_remove_71 : decode cX12_remove 71 = .ok (.iinc 2 1, 3) := by decide +kernel
theorem dX12_remove_74 : decode cX12_remove 74 = .ok (.goto (-32), 3) := by decide +kernel
theorem dX12_remove_77 : decode cX12_remove 77 = .ok (.aload_n 0, 1) := by decide +kernel
theorem dX12_remove_78 : decode cX12_remove 78 = .ok (.getfield 7, 3) := by decide +kernel
theorem dX12_remove_81 : decode cX12_remove 81 = .ok (.bipush 13, 2) := by decide +kernel
theorem dX12_remove_83 : decode cX12_remove 83 = .ok (.iaload, 1) := by decide +kernel
theorem dX12_remove_84 : decode cX12_remove 84 = .ok (.ireturn, 1) := by decide +kernel
theorem dX12_reverse_0 : decode cX12_reverse 0 = .ok (.aload_n 0, 1) := by decide +kernel
theorem dX12_reverse_1 : decode cX12_reverse 1 = .ok (.aload_n 0, 1) := by decide +kernel
theorem dX12_reverse_2 : decode cX12_reverse 2 = .ok (.iload_n 1, 1) := by decide +kernel
theorem dX12_reverse_3 : decode cX12_reverse 3 = .ok (.invokevirtual 119, 3) := by decide +kernel
theorem dX12_reverse_6 : decode cX12_reverse 6 = .ok (.ifCond .eq 7, 3) := by decide +kernel
theorem dX12_reverse_9 : decode cX12_reverse 9 = .ok (.iconst 0, 1) := by decide +kernel
theorem dX12_reverse_10 : decode cX12_reverse 10 = .ok (.goto 4, 3) := by decide +kernel
theorem dX12_reverse_13 : decode cX12_reverse 13 = .ok (.iconst 1, 1) := by decide +kernel
theorem dX12_reverse_14 : decode cX12_reverse 14 = .ok (.invokevirtual 76, 3) := by decide +kernel
theorem dX12_reverse_17 : decode cX12_reverse 17 = .ok (.ifCond .eq 5, 3) := by decide +kernel
theorem dX12_reverse_20 : decode cX12_reverse 20 = .ok (.iconst 0, 1) := by decide +kernel
theorem dX12_reverse_21 : decode cX12_reverse 21 = .ok (.ireturn, 1) := by decide +kernel
theorem dX12_reverse_22 : decode cX12_reverse 22 = .ok (.aload_n 0, 1) := by decide +kernel
theorem dX12_reverse_23 : decode cX12_reverse 23 = .ok (.invokevirtual 95, 3) := by decide +kernel
theorem dX12_reverse_26 : decode cX12_reverse 26 = .ok (.aload_n 0, 1) := by decide +kernel
theorem dX12_reverse_27 : decode cX12_reverse 27 = .ok (.iload_n 1, 1) := by decide +kernel
theorem dX12_reverse_28 : decode cX12_reverse 28 = .ok (.invokevirtual 88, 3) := by decide +kernel
theorem dX12_reverse_31 : decode cX12_reverse 31 = .ok (.istore_n 2, 1) := by decide +kernel
theorem dX12_reverse_32 : decode cX12_reverse 32 = .ok (.iconst 0, 1) := by decide +kernel
theorem dX12_reverse_33 : decode cX12_reverse 33 = .ok (.istore_n 3, 1) := by decide +kernel
theorem dX12_reverse_34 : decode cX12_reverse 34 = .ok (.iload_n 3, 1) := by decide +kernel
theorem dX12_reverse_35 : decode cX12_reverse 35 = .ok (.iload_n 2, 1) := by decide +kernel
theorem dX12_reverse_36 : decode cX12_reverse 36 = .ok (.iconst 2, 1) := by decide +kernel
theorem dX12_reverse_37 : decode cX12_reverse 37 = .ok (.idiv, 1) := by decide +kernel
theorem dX12_reverse_38 : decode cX12_reverse 38 = .ok (.if_icmp .ge 65, 3) := by decide +kernel
theorem dX12_reverse_41 : decode cX12_reverse 41 = .ok (.aload_n 0, 1) := by decide +kernel
theorem dX12_reverse_42 : decode cX12_reverse 42 = .ok (.iload_n 1, 1) := by decide +kernel
theorem dX12_reverse_43 : decode cX12_reverse 43 = .ok (.iload_n 2, 1) := by decide +kernel
theorem dX12_reverse_44 : decode cX12_reverse 44 = .ok (.iconst 1, 1) := by decide +kernel
theorem dX12_reverse_45 : decode cX12_reverse 45 = .ok (.isub, 1) := by decide +kernel
theorem dX12_reverse_46 : decode cX12_reverse 46 = .ok (.iload_n 3, 1) := by decide +kernel
theorem dX12_reverse_47 : decode cX12_reverse 47 = .ok (.isub, 1) := by decide +kernel
theorem dX12_reverse_48 : decode cX12_reverse 48 = .ok (.invokevirtual 122, 3) := by decide +kernel
theorem dX12_reverse_51 : decode cX12_reverse 51 = .ok (.istore 4, 2) := by decide +kernel
theorem dX12_reverse_53 : decode cX12_reverse 53 = .ok (.aload_n 0, 1) := by decide +kernel
theorem dX12_reverse_54 : decode cX12_reverse 54 = .ok (.iload_n 1, 1) := by decide +kernel
theorem dX12_reverse_55 : decode cX12_reverse 55 = .ok (.iload_n 2, 1) := by decide +kernel
theorem dX12_reverse_56 : decode cX12_reverse 56 = .ok (.iconst 1, 1) := by decide +kernel
theorem dX12_reverse_57 : decode cX12_reverse 57 = .ok (.isub, 1) := by decide +kernel
theorem dX12_reverse_58 : decode cX12_reverse 58 = .ok (.iload_n 3, 1) := by decide +kernel
theorem dX12_reverse_59 : decode cX12_reverse 59 = .ok (.isub, 1) := by decide +kernel
theorem dX12_reverse_60 : decode cX12_reverse 60 = .ok (.invokevirtual 126, 3) := by decide +kernel
theorem dX12_reverse_63 : decode cX12_reverse 63 = .ok (.istore 5, 2) := by decide +kernel
theorem dX12_reverse_65 : decode cX12_reverse 65 = .ok (.aload_n 0, 1) := by decide +kernel
theorem dX12_reverse_66 : decode cX12_reverse 66 = .ok (.iload_n 1, 1) := by decide +kernel
theorem dX12_reverse_67 : decode cX12_reverse 67 = .ok (.iload_n 2, 1) := by decide +kernel
theorem dX12_reverse_68 : decode cX12_reverse 68 = .ok (.iconst 1, 1) := by decide +kernel
theorem dX12_reverse_69 : decode cX12_reverse 69 = .ok (.isub, 1) := by decide +kernel
theorem dX12_reverse_70 : decode cX12_reverse 70 = .ok (.iload_n 3, 1) := by decide +kernel
theorem dX12_reverse_71 : decode cX12_reverse 71 = .ok (.isub, 1) := by decide +kernel
theorem dX12_reverse_72 : decode cX12_reverse 72 = .ok (.aload_n 0, 1) := by decide +kernel
theorem dX12_reverse_73 : decode cX12_reverse 73 = .ok (.iload_n 1, 1) := by decide +kernel
theorem dX12_reverse_74 : decode cX12_reverse 74 = .ok (.iload_n 3, 1) := by decide +kernel
theorem dX12_reverse_75 : decode cX12_reverse 75 = .ok (.invokevirtual 122, 3) := by decide +kernel
theorem dX12_reverse_78 : decode cX12_reverse 78 = .ok (.aload_n 0, 1) := by decide +kernel
theorem dX12_reverse_79 : decode cX12_reverse 79 = .ok (.iload_n 1, 1) := by decide +kernel
theorem dX12_reverse_80 : decode cX12_reverse 80 = .ok (.iload_n 3, 1) := by decide +kernel
theorem dX12_reverse_81 : decode cX12_reverse 81 = .ok (.invokevirtual 126, 3) := by decide +kernel
theorem dX12_reverse_84 : decode cX12_reverse 84 = .ok (.invokevirtual 84, 3) := by decide +kernel
theorem dX12_reverse_87 : decode cX12_reverse 87 = .ok (.aload_n 0, 1) := by decide +kernel
theorem dX12_reverse_88 : decode cX12_reverse 88 = .ok (.iload_n 1, 1) := by decide +kernel
theorem dX12_reverse_89 : decode cX12_reverse 89 = .ok (.iload_n 3, 1) := by decide +kernel
theorem dX12_reverse_90 : decode cX12_reverse 90 = .ok (.iload 4, 2) := by decide +kernel
theorem dX12_reverse_92 : decode cX12_reverse 92 = .ok (.iload 5, 2) := by decide +kernel
theorem dX12_reverse_94 : decode cX12_reverse 94 = .ok (.invokevirtual 84, 3) := by decide +kernel
theorem dX12_reverse_97 : decode cX12_reverse 97 = .ok (.iinc 3 1, 3) := by decide +kernel
theorem dX12_reverse_100 : decode cX12_reverse 100 = .ok (.goto (-66), 3) := by decide +kernel
theorem dX12_reverse_103 : decode cX12_reverse 103 = .ok (.iload_n 2, 1) := by decide +kernel
theorem dX12_reverse_104 : decode cX12_reverse 104 = .ok (.ireturn, 1) := by decide +kernel
theorem dX12_isBetween_0 : decode cX12_isBetween 0 = .ok (.iload_n 0, 1) := by decide +kernel
theorem dX12_isBetween_1 : decode cX12_isBetween 1 = .ok (.iload_n 2, 1) := by decide +kernel
theorem dX12_isBetween_2 : decode cX12_isBetween 2 = .ok (.if_icmp .ge 12, 3) := by decide +kernel
theorem dX12_isBetween_5 : decode cX12_isBetween 5 = .ok (.iload_n 1, 1) := by decide +kernel
theorem dX12_isBetween_6 : decode cX12_isBetween 6 = .ok (.iload_n 0, 1) := by decide +kernel
theorem dX12_isBetween_7 : decode cX12_isBetween 7 = .ok (.iload_n 2, 1) := by decide +kernel
theorem dX12_isBetween_8 : decode cX12_isBetween 8 = .ok (.invokestatic 65, 3) := by decide +kernel
theorem dX12_isBetween_11 : decode cX12_isBetween 11 = .ok (.goto 9, 3) := by decide +kernel
theorem dX12_isBetween_14 : decode cX12_isBetween 14 = .ok (.iload_n 1, 1) := by decide +kernel
theorem dX12_isBetween_15 : decode cX12_isBetween 15 = .ok (.iload_n 2, 1) := by decide +kernel
theorem dX12_isBetween_16 : decode cX12_isBetween 16 = .ok (.iload_n 0, 1) := by decide +kernel
theorem dX12_isBetween_17 : decode cX12_isBetween 17 = .ok (.invokestatic 65, 3) := by decide +kernel
theorem dX12_isBetween_20 : decode cX12_isBetween 20 = .ok (.ireturn, 1) := by decide +kernel
theorem dX12_isIdle_0 : decode cX12_isIdle 0 = .ok (.aload_n 0, 1) := by decide +kernel
theorem dX12_isIdle_1 : decode cX12_isIdle 1 = .ok (.iload_n 1, 1) := by decide +kernel
theorem dX12_isIdle_2 : decode cX12_isIdle 2 = .ok (.invokevirtual 88, 3) := by decide +kernel
theorem dX12_isIdle_5 : decode cX12_isIdle 5 = .ok (.istore_n 3, 1) := by decide +kernel
theorem dX12_isIdle_6 : decode cX12_isIdle 6 = .ok (.iload_n 2, 1) := by decide +kernel
theorem dX12_isIdle_7 : decode cX12_isIdle 7 = .ok (.ifCond .le 9, 3) := by decide +kernel
theorem dX12_isIdle_10 : decode cX12_isIdle 10 = .ok (.iload_n 2, 1) := by decide +kernel
theorem dX12_isIdle_11 : decode cX12_isIdle 11 = .ok (.iconst 1, 1) := by decide +kernel
theorem dX12_isIdle_12 : decode cX12_isIdle 12 = .ok (.isub, 1) := by decide +kernel
theorem dX12_isIdle_13 : decode cX12_isIdle 13 = .ok (.goto 18, 3) := by decide +kernel
theorem dX12_isIdle_16 : decode cX12_isIdle 16 = .ok (.aload_n 0, 1) := by decide +kernel
theorem dX12_isIdle_17 : decode cX12_isIdle 17 = .ok (.iload_n 1, 1) := by decide +kernel
theorem dX12_isIdle_18 : decode cX12_isIdle 18 = .ok (.invokevirtual 102, 3) := by decide +kernel
theorem dX12_isIdle_21 : decode cX12_isIdle 21 = .ok (.ifCond .eq 9, 3) := by decide +kernel
theorem dX12_isIdle_24 : decode cX12_isIdle 24 = .ok (.iload_n 3, 1) := by decide +kernel
theorem dX12_isIdle_25 : decode cX12_isIdle 25 = .ok (.iconst 1, 1) := by decide +kernel
theorem dX12_isIdle_26 : decode cX12_isIdle 26 = .ok (.isub, 1) := by decide +kernel
theorem dX12_isIdle_27 : decode cX12_isIdle 27 = .ok (.goto 4, 3) := by decide +kernel
theorem dX12_isIdle_30 : decode cX12_isIdle 30 = .ok (.iconst (-1), 1) := by decide +kernel
theorem dX12_isIdle_31 : decode cX12_isIdle 31 = .ok (.istore 4, 2) := by decide +kernel
theorem dX12_isIdle_33 : decode cX12_isIdle 33 = .ok (.iload_n 2, 1) := by decide +kernel
theorem dX12_isIdle_34 : decode cX12_isIdle 34 = .ok (.iload_n 3, 1) := by decide +kernel
theorem dX12_isIdle_35 : decode cX12_isIdle 35 = .ok (.iconst 1, 1) := by decide +kernel
theorem dX12_isIdle_36 : decode cX12_isIdle 36 = .ok (.isub, 1) := by decide +kernel
theorem dX12_isIdle_37 : decode cX12_isIdle 37 = .ok (.if_icmp .ge 9, 3) := by decide +kernel
theorem dX12_isIdle_40 : decode cX12_isIdle 40 = .ok (.iload_n 2, 1) := by decide +kernel
theorem dX12_isIdle_41 : decode cX12_isIdle 41 = .ok (.iconst 1, 1) := by decide +kernel
theorem dX12_isIdle_42 : decode cX12_isIdle 42 = .ok (.iadd, 1) := by decide +kernel
theorem dX12_isIdle_43 : decode cX12_isIdle 43 = .ok (.goto 16, 3) := by decide +kernel
theorem dX12_isIdle_46 : decode cX12_isIdle 46 = .ok (.aload_n 0, 1) := by decide +kernel
theorem dX12_isIdle_47 : decode cX12_isIdle 47 = .ok (.iload_n 1, 1) := by decide +kernel
theorem dX12_isIdle_48 : decode cX12_isIdle 48 = .ok (.invokevirtual 102, 3) := by decide +kernel
theorem dX12_isIdle_51 : decode cX12_isIdle 51 = .ok (.ifCond .eq 7, 3) := by decide +kernel
theorem dX12_isIdle_54 : decode cX12_isIdle 54 = .ok (.iconst 0, 1) := by decide +kernel
theorem dX12_isIdle_55 : decode cX12_isIdle 55 = .ok (.goto 4, 3) := by decide +kernel
theorem dX12_isIdle_58 : decode cX12_isIdle 58 = .ok (.iconst (-1), 1) := by decide +kernel
theorem dX12_isIdle_59 : decode cX12_isIdle 59 = .ok (.istore 5, 2) := by decide +kernel
theorem dX12_isIdle_61 : decode cX12_isIdle 61 = .ok (.iload 4, 2) := by decide +kernel
theorem dX12_isIdle_63 : decode cX12_isIdle 63 = .ok (.iconst (-1), 1) := by decide +kernel
theorem dX12_isIdle_64 : decode cX12_isIdle 64 = .ok (.if_icmp .eq 37, 3) := by decide +kernel
theorem dX12_isIdle_67 : decode cX12_isIdle 67 = .ok (.aload_n 0, 1) := by decide +kernel
theorem dX12_isIdle_68 : decode cX12_isIdle 68 = .ok (.iload_n 1, 1) := by decide +kernel
theorem dX12_isIdle_69 : decode cX12_isIdle 69 = .ok (.iload 4, 2) := by decide +kernel
theorem dX12_isIdle_71 : decode cX12_isIdle 71 = .ok (.invokevirtual 122, 3) := by decide +kernel
theorem dX12_isIdle_74 : decode cX12_isIdle 74 = .ok (.aload_n 0, 1) := by decide +kernel
theorem dX12_isIdle_75 : decode cX12_isIdle 75 = .ok (.iload_n 1, 1) := by decide +kernel
theorem dX12_isIdle_76 : decode cX12_isIdle 76 = .ok (.iload_n 2, 1) := by decide +kernel
theorem dX12_isIdle_77 : decode cX12_isIdle 77 = .ok (.invokevirtual 122, 3) := by decide +kernel
theorem dX12_isIdle_80 : decode cX12_isIdle 80 = .ok (.if_icmp .ne 21, 3) := by decide +kernel
theorem dX12_isIdle_83 : decode cX12_isIdle 83 = .ok (.aload_n 0, 1) := by decide +kernel
theorem dX12_isIdle_84 : decode cX12_isIdle 84 = .ok (.iload_n 1, 1) := by decide +kernel
theorem dX12_isIdle_85 : decode cX12_isIdle 85 = .ok (.iload 4, 2) := by decide +kernel
theorem dX12_isIdle_87 : decode cX12_isIdle 87 = .ok (.invokevirtual 126, 3) := by decide +kernel
theorem dX12_isIdle_90 : decode cX12_isIdle 90 = .ok (.aload_n 0, 1) := by decide +kernel
theorem dX12_isIdle_91 : decode cX12_isIdle 91 = .ok (.iload_n 1, 1) := by decide +kernel
theorem dX12_isIdle_92 : decode cX12_isIdle 92 = .ok (.iload_n 2, 1) := by decide +kernel
theorem dX12_isIdle_93 : decode cX12_isIdle 93 = .ok (.invokevirtual 126, 3) := by decide +kernel
theorem dX12_isIdle_96 : decode cX12_isIdle 96 = .ok (.if_icmp .ne 5, 3) := by decide +kernel
theorem dX12_isIdle_99 : decode cX12_isIdle 99 = .ok (.iconst 1, 1) := by decide +kernel
theorem dX12_isIdle_100 : decode cX12_isIdle 100 = .ok (.ireturn, 1) := by decide +kernel
theorem dX12_isIdle_101 : decode cX12_isIdle 101 = .ok (.iload 4, 2) := by decide +kernel
theorem dX12_isIdle_103 : decode cX12_isIdle 103 = .ok (.iconst (-1), 1) := by decide +kernel
theorem dX12_isIdle_104 : decode cX12_isIdle 104 = .ok (.if_icmp .eq 9, 3) := by decide +kernel
theorem dX12_isIdle_107 : decode cX12_isIdle 107 = .ok (.iload 5, 2) := by decide +kernel
theorem dX12_isIdle_109 : decode cX12_isIdle 109 = .ok (.iconst (-1), 1) := by decide +kernel
theorem dX12_isIdle_110 : decode cX12_isIdle 110 = .ok (.if_icmp .ne 5, 3) := by decide +kernel
theorem dX12_isIdle_113 : decode cX12_isIdle 113 = .ok (.iconst 0, 1) := by decide +kernel
theorem dX12_isIdle_114 : decode cX12_isIdle 114 = .ok (.ireturn, 1) := by decide +kernel
theorem dX12_isIdle_115 : decode cX12_isIdle 115 = .ok (.aload_n 0, 1) := by decide +kernel
theorem dX12_isIdle_116 : decode cX12_isIdle 116 = .ok (.iload_n 1, 1) := by decide +kernel
theorem dX12_isIdle_117 : decode cX12_isIdle 117 = .ok (.iload 5, 2) := by decide +kernel
theorem dX12_isIdle_119 : decode cX12_isIdle 119 = .ok (.invokevirtual 122, 3) := by decide +kernel
theorem dX12_isIdle_122 : decode cX12_isIdle 122 = .ok (.aload_n 0, 1) := by decide +kernel
theorem dX12_isIdle_123 : decode cX12_isIdle 123 = .ok (.iload_n 1, 1) := by decide +kernel
theorem dX12_isIdle_124 : decode cX12_isIdle 124 = .ok (.iload 4, 2) := by decide +kernel
theorem dX12_isIdle_126 : decode cX12_isIdle 126 = .ok (.invokevirtual 122, 3) := by decide +kernel
theorem dX12_isIdle_129 : decode cX12_isIdle 129 = .ok (.isub, 1) := by decide +kernel
theorem dX12_isIdle_130 : decode cX12_isIdle 130 = .ok (.aload_n 0, 1) := by decide +kernel
theorem dX12_isIdle_131 : decode cX12_isIdle 131 = .ok (.iload_n 1, 1) := by decide +kernel
theorem dX12_isIdle_132 : decode cX12_isIdle 132 = .ok (.iload_n 2, 1) := by decide +kernel
theorem dX12_isIdle_133 : decode cX12_isIdle 133 = .ok (.invokevirtual 126, 3) := by decide +kernel
theorem dX12_isIdle_136 : decode cX12_isIdle 136 = .ok (.aload_n 0, 1) := by decide +kernel
theorem dX12_isIdle_137 : decode cX12_isIdle 137 = .ok (.iload_n 1, 1) := by decide +kernel
theorem dX12_isIdle_138 : decode cX12_isIdle 138 = .ok (.iload 4, 2) := by decide +kernel
theorem dX12_isIdle_140 : decode cX12_isIdle 140 = .ok (.invokevirtual 126, 3) := by decide +kernel
theorem dX12_isIdle_143 : decode cX12_isIdle 143 = .ok (.isub, 1) := by decide +kernel
theorem dX12_isIdle_144 : decode cX12_isIdle 144 = .ok (.imul, 1) := by decide +kernel
theorem dX12_isIdle_145 : decode cX12_isIdle 145 = .ok (.aload_n 0, 1) := by decide +kernel
theorem dX12_isIdle_146 : decode cX12_isIdle 146 = .ok (.iload_n 1, 1) := by decide +kernel
theorem dX12_isIdle_147 : decode cX12_isIdle 147 = .ok (.iload 5, 2) := by decide +kernel
theorem dX12_isIdle_149 : decode cX12_isIdle 149 = .ok (.invokevirtual 126, 3) := by decide +kernel
theorem dX12_isIdle_152 : decode cX12_isIdle 152 = .ok (.aload_n 0, 1) := by decide +kernel
theorem dX12_isIdle_153 : decode cX12_isIdle 153 = .ok (.iload_n 1, 1) := by decide +kernel
theorem dX12_isIdle_154 : decode cX12_isIdle 154 = .ok (.iload 4, 2) := by decide +kernel
theorem dX12_isIdle_156 : decode cX12_isIdle 156 = .ok (.invokevirtual 126, 3) := by decide +kernel
theorem dX12_isIdle_159 : decode cX12_isIdle 159 = .ok (.isub, 1) := by decide +kernel
theorem dX12_isIdle_160 : decode cX12_isIdle 160 = .ok (.aload_n 0, 1) := by decide +kernel
theorem dX12_isIdle_161 : decode cX12_isIdle 161 = .ok (.iload_n 1, 1) := by decide +kernel
theorem dX12_isIdle_162 : decode cX12_isIdle 162 = .ok (.iload_n 2, 1) := by decide +kernel
theorem dX12_isIdle_163 : decode cX12_isIdle 163 = .ok (.invokevirtual 122, 3) := by decide +kernel
theorem dX12_isIdle_166 : decode cX12_isIdle 166 = .ok (.aload_n 0, 1) := by decide +kernel
theorem dX12_isIdle_167 : decode cX12_isIdle 167 = .ok (.iload_n 1, 1) := by decide +kernel
theorem dX12_isIdle_168 : decode cX12_isIdle 168 = .ok (.iload 4, 2) := by decide +kernel
theorem dX12_isIdle_170 : decode cX12_isIdle 170 = .ok (.invokevirtual 122, 3) := by decide +kernel
theorem dX12_isIdle_173 : decode cX12_isIdle 173 = .ok (.isub, 1) := by decide +kernel
theorem dX12_isIdle_174 : decode cX12_isIdle 174 = .ok (.imul, 1) := by decide +kernel
theorem dX12_isIdle_175 : decode cX12_isIdle 175 = .ok (.isub, 1) := by decide +kernel
theorem dX12_isIdle_176 : decode cX12_isIdle 176 = .ok (.istore 6, 2) := by decide +kernel
theorem dX12_isIdle_178 : decode cX12_isIdle 178 = .ok (.iload 6, 2) := by decide +kernel
theorem dX12_isIdle_180 : decode cX12_isIdle 180 = .ok (.ifCond .ne 59, 3) := by decide +kernel
theorem dX12_isIdle_183 : decode cX12_isIdle 183 = .ok (.aload_n 0, 1) := by decide +kernel
theorem dX12_isIdle_184 : decode cX12_isIdle 184 = .ok (.iload_n 1, 1) := by decide +kernel
theorem dX12_isIdle_185 : decode cX12_isIdle 185 = .ok (.iload 4, 2) := by decide +kernel
theorem dX12_isIdle_187 : decode cX12_isIdle 187 = .ok (.invokevirtual 122, 3) := by decide +kernel
theorem dX12_isIdle_190 : decode cX12_isIdle 190 = .ok (.aload_n 0, 1) := by decide +kernel
theorem dX12_isIdle_191 : decode cX12_isIdle 191 = .ok (.iload_n 1, 1) := by decide +kernel
theorem dX12_isIdle_192 : decode cX12_isIdle 192 = .ok (.iload_n 2, 1) := by decide +kernel
theorem dX12_isIdle_193 : decode cX12_isIdle 193 = .ok (.invokevirtual 122, 3) := by decide +kernel
theorem dX12_isIdle_196 : decode cX12_isIdle 196 = .ok (.aload_n 0, 1) := by decide +kernel
theorem dX12_isIdle_197 : decode cX12_isIdle 197 = .ok (.iload_n 1, 1) := by decide +kernel
theorem dX12_isIdle_198 : decode cX12_isIdle 198 = .ok (.iload 5, 2) := by decide +kernel
theorem dX12_isIdle_200 : decode cX12_isIdle 200 = .ok (.invokevirtual 122, 3) := by decide +kernel
theorem dX12_isIdle_203 : decode cX12_isIdle 203 = .ok (.invokestatic 129, 3) := by decide +kernel
theorem dX12_isIdle_206 : decode cX12_isIdle 206 = .ok (.ifCond .eq 33, 3) := by decide +kernel
theorem dX12_isIdle_209 : decode cX12_isIdle 209 = .ok (.aload_n 0, 1) := by decide +kernel
theorem dX12_isIdle_210 : decode cX12_isIdle 210 = .ok (.iload_n 1, 1) := by decide +kernel
theorem dX12_isIdle_211 : decode cX12_isIdle 211 = .ok (.iload 4, 2) := by decide +kernel
theorem dX12_isIdle_213 : decode cX12_isIdle 213 = .ok (.invokevirtual 126, 3) := by decide +kernel
theorem dX12_isIdle_216 : decode cX12_isIdle 216 = .ok (.aload_n 0, 1) := by decide +kernel
theorem dX12_isIdle_217 : decode cX12_isIdle 217 = .ok (.iload_n 1, 1) := by decide +kernel
theorem dX12_isIdle_218 : decode cX12_isIdle 218 = .ok (.iload_n 2, 1) := by decide +kernel
theorem dX12_isIdle_219 : decode cX12_isIdle 219 = .ok (.invokevirtual 126, 3) := by decide +kernel
theorem dX12_isIdle_222 : decode cX12_isIdle 222 = .ok (.aload_n 0, 1) := by decide +kernel
theorem dX12_isIdle_223 : decode cX12_isIdle 223 = .ok (.iload_n 1, 1) := by decide +kernel
theorem dX12_isIdle_224 : decode cX12_isIdle 224 = .ok (.iload 5, 2) := by decide +kernel
theorem dX12_isIdle_226 : decode cX12_isIdle 226 = .ok (.invokevirtual 126, 3) := by decide +kernel
theorem dX12_isIdle_229 : decode cX12_isIdle 229 = .ok (.invokestatic 129, 3) := by decide +kernel
theorem dX12_isIdle_232 : decode cX12_isIdle 232 = .ok (.ifCond .eq 7, 3) := by decide +kernel
theorem dX12_isIdle_235 : decode cX12_isIdle 235 = .ok (.iconst 1, 1) := by decide +kernel
theorem dX12_isIdle_236 : decode cX12_isIdle 236 = .ok (.goto 4, 3) := by decide +kernel
theorem dX12_isIdle_239 : decode cX12_isIdle 239 = .ok (.iconst 0, 1) := by decide +kernel
theorem dX12_isIdle_240 : decode cX12_isIdle 240 = .ok (.ireturn, 1) := by decide +kernel
theorem dX12_firstIdle_0 : decode cX12_firstIdle 0 = .ok (.iconst 0, 1) := by decide +kernel
theorem dX12_firstIdle_1 : decode cX12_firstIdle 1 = .ok (.istore_n 2, 1) := by decide +kernel
theorem dX12_firstIdle_2 : decode cX12_firstIdle 2 = .ok (.iload_n 2, 1) := by decide +kernel
theorem dX12_firstIdle_3 : decode cX12_firstIdle 3 = .ok (.aload_n 0, 1) := by decide +kernel
theorem dX12_firstIdle_4 : decode cX12_firstIdle 4 = .ok (.iload_n 1, 1) := by decide +kernel
theorem dX12_firstIdle_5 : decode cX12_firstIdle 5 = .ok (.invokevirtual 88, 3) := by decide +kernel
theorem dX12_firstIdle_8 : decode cX12_firstIdle 8 = .ok (.if_icmp .ge 29, 3) := by decide +kernel
theorem dX12_firstIdle_11 : decode cX12_firstIdle 11 = .ok (.aload_n 0, 1) := by decide +kernel
theorem dX12_firstIdle_12 : decode cX12_firstIdle 12 = .ok (.iload_n 1, 1) := by decide +kernel
theorem dX12_firstIdle_13 : decode cX12_firstIdle 13 = .ok (.invokevirtual 88, 3) := by decide +kernel
theorem dX12_firstIdle_16 : decode cX12_firstIdle 16 = .ok (.iconst 1, 1) := by decide +kernel
theorem dX12_firstIdle_17 : decode cX12_firstIdle 17 = .ok (.if_icmp .le 20, 3) := by decide +kernel
theorem dX12_firstIdle_20 : decode cX12_firstIdle 20 = .ok (.aload_n 0, 1) := by decide +kernel
theorem dX12_firstIdle_21 : decode cX12_firstIdle 21 = .ok (.iload_n 1, 1) := by decide +kernel
theorem dX12_firstIdle_22 : decode cX12_firstIdle 22 = .ok (.iload_n 2, 1) := by decide +kernel
theorem dX12_firstIdle_23 : decode cX12_firstIdle 23 = .ok (.invokevirtual 132, 3) := by decide +kernel
theorem dX12_firstIdle_26 : decode cX12_firstIdle 26 = .ok (.ifCond .eq 5, 3) := by decide +kernel
theorem dX12_firstIdle_29 : decode cX12_firstIdle 29 = .ok (.iload_n 2, 1) := by decide +kernel
theorem dX12_firstIdle_30 : decode cX12_firstIdle 30 = .ok (.ireturn, 1) := by decide +kernel
theorem dX12_firstIdle_31 : decode cX12_firstIdle 31 = .ok (.iinc 2 1, 3) := by decide +kernel
theorem dX12_firstIdle_34 : decode cX12_firstIdle 34 = .ok (.goto (-32), 3) := by decide +kernel
theorem dX12_firstIdle_37 : decode cX12_firstIdle 37 = .ok (.iconst (-1), 1) := by decide +kernel
theorem dX12_firstIdle_38 : decode cX12_firstIdle 38 = .ok (.ireturn, 1) := by decide +kernel
theorem dX12_simplify_0 : decode cX12_simplify 0 = .ok (.aload_n 0, 1) := by decide +kernel
theorem dX12_simplify_1 : decode cX12_simplify 1 = .ok (.aload_n 0, 1) := by decide +kernel
theorem dX12_simplify_2 : decode cX12_simplify 2 = .ok (.iload_n 1, 1) := by decide +kernel
theorem dX12_simplify_3 : decode cX12_simplify 3 = .ok (.invokevirtual 119, 3) := by decide +kernel
theorem dX12_simplify_6 : decode cX12_simplify 6 = .ok (.ifCond .eq 7, 3) := by decide +kernel
theorem dX12_simplify_9 : decode cX12_simplify 9 = .ok (.iconst 0, 1) := by decide +kernel
theorem dX12_simplify_10 : decode cX12_simplify 10 = .ok (.goto 4, 3) := by decide +kernel
theorem dX12_simplify_13 : decode cX12_simplify 13 = .ok (.iconst 1, 1) := by decide +kernel
theorem dX12_simplify_14 : decode cX12_simplify 14 = .ok (.invokevirtual 76, 3) := by decide +kernel
theorem dX12_simplify_17 : decode cX12_simplify 17 = .ok (.ifCond .eq 5, 3) := by decide +kernel
theorem dX12_simplify_20 : decode cX12_simplify 20 = .ok (.iconst 0, 1) := by decide +kernel
theorem dX12_simplify_21 : decode cX12_simplify 21 = .ok (.ireturn, 1) := by decide +kernel
theorem dX12_simplify_22 : decode cX12_simplify 22 = .ok (.aload_n 0, 1) := by decide +kernel
theorem dX12_simplify_23 : decode cX12_simplify 23 = .ok (.invokevirtual 95, 3) := by decide +kernel
theorem dX12_simplify_26 : decode cX12_simplify 26 = .ok (.iconst 0, 1) := by decide +kernel
theorem dX12_simplify_27 : decode cX12_simplify 27 = .ok (.istore_n 2, 1) := by decide +kernel
theorem dX12_simplify_28 : decode cX12_simplify 28 = .ok (.aload_n 0, 1) := by decide +kernel
theorem dX12_simplify_29 : decode cX12_simplify 29 = .ok (.iload_n 1, 1) := by decide +kernel
theorem dX12_simplify_30 : decode cX12_simplify 30 = .ok (.invokevirtual 135, 3) := by decide +kernel
theorem dX12_simplify_33 : decode cX12_simplify 33 = .ok (.istore_n 3, 1) := by decide +kernel
theorem dX12_simplify_34 : decode cX12_simplify 34 = .ok (.iload_n 3, 1) := by decide +kernel
theorem dX12_simplify_35 : decode cX12_simplify 35 = .ok (.iconst (-1), 1) := by decide +kernel
theorem dX12_simplify_36 : decode cX12_simplify 36 = .ok (.if_icmp .eq 72, 3) := by decide +kernel
theorem dX12_simplify_39 : decode cX12_simplify 39 = .ok (.aload_n 0, 1) := by decide +kernel
theorem dX12_simplify_40 : decode cX12_simplify 40 = .ok (.getfield 7, 3) := by decide +kernel
theorem dX12_simplify_43 : decode cX12_simplify 43 = .ok (.iload_n 1, 1) := by decide +kernel
theorem dX12_simplify_44 : decode cX12_simplify 44 = .ok (.invokestatic 80, 3) := by decide +kernel
theorem dX12_simplify_47 : decode cX12_simplify 47 = .ok (.dup2, 1) := by decide +kernel
theorem dX12_simplify_48 : decode cX12_simplify 48 = .ok (.iaload, 1) := by decide +kernel
theorem dX12_simplify_49 : decode cX12_simplify 49 = .ok (.iconst 1, 1) := by decide +kernel
theorem dX12_simplify_50 : decode cX12_simplify 50 = .ok (.isub, 1) := by decide +kernel
theorem dX12_simplify_51 : decode cX12_simplify 51 = .ok (.iastore, 1) := by decide +kernel
theorem dX12_simplify_52 : decode cX12_simplify 52 = .ok (.iload_n 3, 1) := by decide +kernel
theorem dX12_simplify_53 : decode cX12_simplify 53 = .ok (.istore 4, 2) := by decide +kernel
theorem dX12_simplify_55 : decode cX12_simplify 55 = .ok (.iload 4, 2) := by decide +kernel
theorem dX12_simplify_57 : decode cX12_simplify 57 = .ok (.aload_n 0, 1) := by decide +kernel
theorem dX12_simplify_58 : decode cX12_simplify 58 = .ok (.iload_n 1, 1) := by decide +kernel
theorem dX12_simplify_59 : decode cX12_simplify 59 = .ok (.invokevirtual 88, 3) := by decide +kernel
theorem dX12_simplify_62 : decode cX12_simplify 62 = .ok (.if_icmp .ge 34, 3) := by decide +kernel
theorem dX12_simplify_65 : decode cX12_simplify 65 = .ok (.aload_n 0, 1) := by decide +kernel
theorem dX12_simplify_66 : decode cX12_simplify 66 = .ok (.iload_n 1, 1) := by decide +kernel
theorem dX12_simplify_67 : decode cX12_simplify 67 = .ok (.iload 4, 2) := by decide +kernel
theorem dX12_simplify_69 : decode cX12_simplify 69 = .ok (.aload_n 0, 1) := by decide +kernel
theorem dX12_simplify_70 : decode cX12_simplify 70 = .ok (.iload_n 1, 1) := by decide +kernel
theorem dX12_simplify_71 : decode cX12_simplify 71 = .ok (.iload 4, 2) := by decide +kernel
theorem dX12_simplify_73 : decode cX12_simplify 73 = .ok (.iconst 1, 1) := by decide +kernel
theorem dX12_simplify_74 : decode cX12_simplify 74 = .ok (.iadd, 1) := by decide +kernel
theorem dX12_simplify_75 : decode cX12_simplify 75 = .ok (.invokevirtual 122, 3) := by decide +kernel
theorem dX12_simplify_78 : decode cX12_simplify 78 = .ok (.aload_n 0, 1) := by decide +kernel
theorem dX12_simplify_79 : decode cX12_simplify 79 = .ok (.iload_n 1, 1) := by decide +kernel
theorem dX12_simplify_80 : decode cX12_simplify 80 = .ok (.iload 4, 2) := by decide +kernel
theorem dX12_simplify_82 : decode cX12_simplify 82 = .ok (.iconst 1, 1) := by decide +kernel
theorem dX12_simplify_83 : decode cX12_simplify 83 = .ok (.iadd, 1) := by decide +kernel
theorem dX12_simplify_84 : decode cX12_simplify 84 = .ok (.invokevirtual 126, 3) := by decide +kernel
theorem dX12_simplify_87 : decode cX12_simplify 87 = .ok (.invokevirtual 84, 3) := by decide +kernel
theorem dX12_simplify_90 : decode cX12_simplify 90 = .ok (.iinc 4 1, 3) := by decide +kernel
theorem dX12_simplify_93 : decode cX12_simplify 93 = .ok (.goto (-38), 3) := by decide +kernel
theorem dX12_simplify_96 : decode cX12_simplify 96 = .ok (.iinc 2 1, 3) := by decide +kernel
theorem dX12_simplify_99 : decode cX12_simplify 99 = .ok (.aload_n 0, 1) := by decide +kernel
theorem dX12_simplify_100 : decode cX12_simplify 100 = .ok (.iload_n 1, 1) := by decide +kernel
theorem dX12_simplify_101 : decode cX12_simplify 101 = .ok (.invokevirtual 135, 3) := by decide +kernel
theorem dX12_simplify_104 : decode cX12_simplify 104 = .ok (.istore_n 3, 1) := by decide +kernel
theorem dX12_simplify_105 : decode cX12_simplify 105 = .ok (.goto (-71), 3) := by decide +kernel
theorem dX12_simplify_108 : decode cX12_simplify 108 = .ok (.iload_n 2, 1) := by decide +kernel
theorem dX12_simplify_109 : decode cX12_simplify 109 = .ok (.ireturn, 1) := by decide +kernel
theorem dX12_turned_0 : decode cX12_turned 0 = .ok (.iload_n 2, 1) := by decide +kernel
theorem dX12_turned_1 : decode cX12_turned 1 = .ok (.ifCond .ne 7, 3) := by decide +kernel
theorem dX12_turned_4 : decode cX12_turned 4 = .ok (.iload_n 0, 1) := by decide +kernel
theorem dX12_turned_5 : decode cX12_turned 5 = .ok (.goto 24, 3) := by decide +kernel
theorem dX12_turned_8 : decode cX12_turned 8 = .ok (.iload_n 2, 1) := by decide +kernel
theorem dX12_turned_9 : decode cX12_turned 9 = .ok (.iconst 1, 1) := by decide +kernel
theorem dX12_turned_10 : decode cX12_turned 10 = .ok (.if_icmp .ne 8, 3) := by decide +kernel
theorem dX12_turned_13 : decode cX12_turned 13 = .ok (.iload_n 1, 1) := by decide +kernel
theorem dX12_turned_14 : decode cX12_turned 14 = .ok (.ineg, 1) := by decide +kernel
theorem dX12_turned_15 : decode cX12_turned 15 = .ok (.goto 14, 3) := by decide +kernel
theorem dX12_turned_18 : decode cX12_turned 18 = .ok (.iload_n 2, 1) := by decide +kernel
theorem dX12_turned_19 : decode cX12_turned 19 = .ok (.iconst 2, 1) := by decide +kernel
theorem dX12_turned_20 : decode cX12_turned 20 = .ok (.if_icmp .ne 8, 3) := by decide +kernel
theorem dX12_turned_23 : decode cX12_turned 23 = .ok (.iload_n 0, 1) := by decide +kernel
theorem dX12_turned_24 : decode cX12_turned 24 = .ok (.ineg, 1) := by decide +kernel
theorem dX12_turned_25 : decode cX12_turned 25 = .ok (.goto 4, 3) := by decide +kernel
theorem dX12_turned_28 : decode cX12_turned 28 = .ok (.iload_n 1, 1) := by decide +kernel
theorem dX12_turned_29 : decode cX12_turned 29 = .ok (.ireturn, 1) := by decide +kernel
theorem dX12_transform_0 : decode cX12_transform 0 = .ok (.aload_n 0, 1) := by decide +kernel
theorem dX12_transform_1 : decode cX12_transform 1 = .ok (.iload_n 1, 1) := by decide +kernel
theorem dX12_transform_2 : decode cX12_transform 2 = .ok (.iconst 0, 1) := by decide +kernel
theorem dX12_transform_3 : decode cX12_transform 3 = .ok (.iconst 3, 1) := by decide +kernel
theorem dX12_transform_4 : decode cX12_transform 4 = .ok (.invokestatic 65, 3) := by decide +kernel
theorem dX12_transform_7 : decode cX12_transform 7 = .ok (.ifCond .eq 33, 3) := by decide +kernel
theorem dX12_transform_10 : decode cX12_transform 10 = .ok (.iload_n 2, 1) := by decide +kernel
theorem dX12_transform_11 : decode cX12_transform 11 = .ok (.sipush (-200), 3) := by decide +kernel
theorem dX12_transform_14 : decode cX12_transform 14 = .ok (.sipush 200, 3) := by decide +kernel
theorem dX12_transform_17 : decode cX12_transform 17 = .ok (.invokestatic 65, 3) := by decide +kernel
theorem dX12_transform_20 : decode cX12_transform 20 = .ok (.ifCond .eq 20, 3) := by decide +kernel
theorem dX12_transform_23 : decode cX12_transform 23 = .ok (.iload_n 3, 1) := by decide +kernel
theorem dX12_transform_24 : decode cX12_transform 24 = .ok (.sipush (-200), 3) := by decide +kernel
theorem dX12_transform_27 : decode cX12_transform 27 = .ok (.sipush 200, 3) := by decide +kernel
theorem dX12_transform_30 : decode cX12_transform 30 = .ok (.invokestatic 65, 3) := by decide +kernel
theorem dX12_transform_33 : decode cX12_transform 33 = .ok (.ifCond .eq 7, 3) := by decide +kernel
theorem dX12_transform_36 : decode cX12_transform 36 = .ok (.iconst 0, 1) := by decide +kernel
theorem dX12_transform_37 : decode cX12_transform 37 = .ok (.goto 4, 3) := by decide +kernel
theorem dX12_transform_40 : decode cX12_transform 40 = .ok (.iconst 1, 1) := by decide +kernel
theorem dX12_transform_41 : decode cX12_transform 41 = .ok (.invokevirtual 76, 3) := by decide +kernel
theorem dX12_transform_44 : decode cX12_transform 44 = .ok (.ifCond .eq 5, 3) := by decide +kernel
theorem dX12_transform_47 : decode cX12_transform 47 = .ok (.iconst 0, 1) := by decide +kernel
theorem dX12_transform_48 : decode cX12_transform 48 = .ok (.ireturn, 1) := by decide +kernel
theorem dX12_transform_49 : decode cX12_transform 49 = .ok (.iconst 1, 1) := by decide +kernel
theorem dX12_transform_50 : decode cX12_transform 50 = .ok (.istore 4, 2) := by decide +kernel
theorem dX12_transform_52 : decode cX12_transform 52 = .ok (.iconst 0, 1) := by decide +kernel
theorem dX12_transform_53 : decode cX12_transform 53 = .ok (.istore 5, 2) := by decide +kernel
theorem dX12_transform_55 : decode cX12_transform 55 = .ok (.iconst 0, 1) := by decide +kernel
theorem dX12_transform_56 : decode cX12_transform 56 = .ok (.istore 6, 2) := by decide +kernel
theorem dX12_transform_58 : decode cX12_transform 58 = .ok (.iload 6, 2) := by decide +kernel
theorem dX12_transform_60 : decode cX12_transform 60 = .ok (.aload_n 0, 1) := by decide +kernel
theorem dX12_transform_61 : decode cX12_transform 61 = .ok (.getfield 7, 3) := by decide +kernel
theorem dX12_transform_64 : decode cX12_transform 64 = .ok (.bipush 13, 2) := by decide +kernel
theorem dX12_transform_66 : decode cX12_transform 66 = .ok (.iaload, 1) := by decide +kernel
theorem dX12_transform_67 : decode cX12_transform 67 = .ok (.if_icmp .ge 95, 3) := by decide +kernel
theorem dX12_transform_70 : decode cX12_transform 70 = .ok (.iconst 0, 1) := by decide +kernel
theorem dX12_transform_71 : decode cX12_transform 71 = .ok (.istore 7, 2) := by decide +kernel
theorem dX12_transform_73 : decode cX12_transform 73 = .ok (.iload 7, 2) := by decide +kernel
theorem dX12_transform_75 : decode cX12_transform 75 = .ok (.aload_n 0, 1) := by decide +kernel
theorem dX12_transform_76 : decode cX12_transform 76 = .ok (.iload 6, 2) := by decide +kernel
theorem dX12_transform_78 : decode cX12_transform 78 = .ok (.invokevirtual 88, 3) := by decide +kernel
theorem dX12_transform_81 : decode cX12_transform 81 = .ok (.if_icmp .ge 75, 3) := by decide +kernel
theorem dX12_transform_84 : decode cX12_transform 84 = .ok (.iload 4, 2) := by decide +kernel
theorem dX12_transform_86 : decode cX12_transform 86 = .ok (.ifCond .eq 58, 3) := by decide +kernel
theorem dX12_transform_89 : decode cX12_transform 89 = .ok (.aload_n 0, 1) := by decide +kernel
theorem dX12_transform_90 : decode cX12_transform 90 = .ok (.iload 6, 2) := by decide +kernel
theorem dX12_transform_92 : decode cX12_transform 92 = .ok (.iload 7, 2) := by decide +kernel
theorem dX12_transform_94 : decode cX12_transform 94 = .ok (.invokevirtual 122, 3) := by decide +kernel
theorem dX12_transform_97 : decode cX12_transform 97 = .ok (.aload_n 0, 1) := by decide +kernel
theorem dX12_transform_98 : decode cX12_transform 98 = .ok (.iload 6, 2) := by decide +kernel
theorem dX12_transform_100 : decode cX12_transform 100 = .ok (.iload 7, 2) := by decide +kernel
theorem dX12_transform_102 : decode cX12_transform 102 = .ok (.invokevirtual 126, 3) := by decide +kernel
theorem dX12_transform_105 : decode cX12_transform 105 = .ok (.iload_n 1, 1) := by decide +kernel
theorem dX12_transform_106 : decode cX12_transform 106 = .ok (.invokestatic 138, 3) := by decide +kernel
theorem dX12_transform_109 : decode cX12_transform 109 = .ok (.iload_n 2, 1) := by decide +kernel
theorem dX12_transform_110 : decode cX12_transform 110 = .ok (.iadd, 1) := by decide +kernel
theorem dX12_transform_111 : decode cX12_transform 111 = .ok (.aload_n 0, 1) := by decide +kernel
theorem dX12_transform_112 : decode cX12_transform 112 = .ok (.iload 6, 2) := by decide +kernel
theorem dX12_transform_114 : decode cX12_transform 114 = .ok (.iload 7, 2) := by decide +kernel
theorem dX12_transform_116 : decode cX12_transform 116 = .ok (.invokevirtual 126, 3) := by decide +kernel
theorem dX12_transform_119 : decode cX12_transform 119 = .ok (.aload_n 0, 1) := by decide +kernel
theorem dX12_transform_120 : decode cX12_transform 120 = .ok (.iload 6, 2) := by decide +kernel
theorem dX12_transform_122 : decode cX12_transform 122 = .ok (.iload 7, 2) := by decide +kernel
theorem dX12_transform_124 : decode cX12_transform 124 = .ok (.invokevirtual 122, 3) := by decide +kernel
theorem dX12_transform_127 : decode cX12_transform 127 = .ok (.ineg, 1) := by decide +kernel
theorem dX12_transform_128 : decode cX12_transform 128 = .ok (.iload_n 1, 1) := by decide +kernel
theorem dX12_transform_129 : decode cX12_transform 129 = .ok (.invokestatic 138, 3) := by decide +kernel
theorem dX12_transform_132 : decode cX12_transform 132 = .ok (.iload_n 3, 1) := by decide +kernel
theorem dX12_transform_133 : decode cX12_transform 133 = .ok (.iadd, 1) := by decide +kernel
theorem dX12_transform_134 : decode cX12_transform 134 = .ok (.invokestatic 91, 3) := by decide +kernel
theorem dX12_transform_137 : decode cX12_transform 137 = .ok (.ifCond .eq 7, 3) := by decide +kernel
theorem dX12_transform_140 : decode cX12_transform 140 = .ok (.iconst 1, 1) := by decide +kernel
theorem dX12_transform_141 : decode cX12_transform 141 = .ok (.goto 4, 3) := by decide +kernel
theorem dX12_transform_144 : decode cX12_transform 144 = .ok (.iconst 0, 1) := by decide +kernel
theorem dX12_transform_145 : decode cX12_transform 145 = .ok (.istore 4, 2) := by decide +kernel
theorem dX12_transform_147 : decode cX12_transform 147 = .ok (.iinc 5 1, 3) := by decide +kernel
theorem dX12_transform_150 : decode cX12_transform 150 = .ok (.iinc 7 1, 3) := by decide +kernel
theorem dX12_transform_153 : decode cX12_transform 153 = .ok (.goto (-80), 3) := by decide +kernel
theorem dX12_transform_156 : decode cX12_transform 156 = .ok (.iinc 6 1, 3) := by decide +kernel
theorem dX12_transform_159 : decode cX12_transform 159 = .ok (.goto (-101), 3) := by decide +kernel
theorem dX12_transform_162 : decode cX12_transform 162 = .ok (.aload_n 0, 1) := by decide +kernel
theorem dX12_transform_163 : decode cX12_transform 163 = .ok (.iload 4, 2) := by decide +kernel
theorem dX12_transform_165 : decode cX12_transform 165 = .ok (.ifCond .eq 7, 3) := by decide +kernel
theorem dX12_transform_168 : decode cX12_transform 168 = .ok (.iconst 0, 1) := by decide +kernel
theorem dX12_transform_169 : decode cX12_transform 169 = .ok (.goto 4, 3) := by decide +kernel
theorem dX12_transform_172 : decode cX12_transform 172 = .ok (.iconst 2, 1) := by decide +kernel
theorem dX12_transform_173 : decode cX12_transform 173 = .ok (.invokevirtual 76, 3) := by decide +kernel
theorem dX12_transform_176 : decode cX12_transform 176 = .ok (.ifCond .eq 5, 3) := by decide +kernel
theorem dX12_transform_179 : decode cX12_transform 179 = .ok (.iconst 0, 1) := by decide +kernel
theorem dX12_transform_180 : decode cX12_transform 180 = .ok (.ireturn, 1) := by decide +kernel
theorem dX12_transform_181 : decode cX12_transform 181 = .ok (.aload_n 0, 1) := by decide +kernel
theorem dX12_transform_182 : decode cX12_transform 182 = .ok (.invokevirtual 95, 3) := by decide +kernel
theorem dX12_transform_185 : decode cX12_transform 185 = .ok (.iconst 0, 1) := by decide +kernel
theorem dX12_transform_186 : decode cX12_transform 186 = .ok (.istore 6, 2) := by decide +kernel
theorem dX12_transform_188 : decode cX12_transform 188 = .ok (.iload 6, 2) := by decide +kernel
theorem dX12_transform_190 : decode cX12_transform 190 = .ok (.aload_n 0, 1) := by decide +kernel
theorem dX12_transform_191 : decode cX12_transform 191 = .ok (.getfield 7, 3) := by decide +kernel
theorem dX12_transform_194 : decode cX12_transform 194 = .ok (.bipush 13, 2) := by decide +kernel
theorem dX12_transform_196 : decode cX12_transform 196 = .ok (.iaload, 1) := by decide +kernel
theorem dX12_transform_197 : decode cX12_transform 197 = .ok (.if_icmp .ge 82, 3) := by decide +kernel
theorem dX12_transform_200 : decode cX12_transform 200 = .ok (.iconst 0, 1) := by decide +kernel
theorem dX12_transform_201 : decode cX12_transform 201 = .ok (.istore 7, 2) := by decide +kernel
theorem dX12_transform_203 : decode cX12_transform 203 = .ok (.iload 7, 2) := by decide +kernel
theorem dX12_transform_205 : decode cX12_transform 205 = .ok (.aload_n 0, 1) := by decide +kernel
theorem dX12_transform_206 : decode cX12_transform 206 = .ok (.iload 6, 2) := by decide +kernel
theorem dX12_transform_208 : decode cX12_transform 208 = .ok (.invokevirtual 88, 3) := by decide +kernel
theorem dX12_transform_211 : decode cX12_transform 211 = .ok (.if_icmp .ge 62, 3) := by decide +kernel
theorem dX12_transform_214 : decode cX12_transform 214 = .ok (.aload_n 0, 1) := by decide +kernel
theorem dX12_transform_215 : decode cX12_transform 215 = .ok (.iload 6, 2) := by decide +kernel
theorem dX12_transform_217 : decode cX12_transform 217 = .ok (.iload 7, 2) := by decide +kernel
theorem dX12_transform_219 : decode cX12_transform 219 = .ok (.aload_n 0, 1) := by decide +kernel
theorem dX12_transform_220 : decode cX12_transform 220 = .ok (.iload 6, 2) := by decide +kernel
theorem dX12_transform_222 : decode cX12_transform 222 = .ok (.iload 7, 2) := by decide +kernel
theorem dX12_transform_224 : decode cX12_transform 224 = .ok (.invokevirtual 122, 3) := by decide +kernel
theorem dX12_transform_227 : decode cX12_transform 227 = .ok (.aload_n 0, 1) := by decide +kernel
theorem dX12_transform_228 : decode cX12_transform 228 = .ok (.iload 6, 2) := by decide +kernel
theorem dX12_transform_230 : decode cX12_transform 230 = .ok (.iload 7, 2) := by decide +kernel
theorem dX12_transform_232 : decode cX12_transform 232 = .ok (.invokevirtual 126, 3) := by decide +kernel
theorem dX12_transform_235 : decode cX12_transform 235 = .ok (.iload_n 1, 1) := by decide +kernel
theorem dX12_transform_236 : decode cX12_transform 236 = .ok (.invokestatic 138, 3) := by decide +kernel
theorem dX12_transform_239 : decode cX12_transform 239 = .ok (.iload_n 2, 1) := by decide +kernel
theorem dX12_transform_240 : decode cX12_transform 240 = .ok (.iadd, 1) := by decide +kernel
theorem dX12_transform_241 : decode cX12_transform 241 = .ok (.aload_n 0, 1) := by decide +kernel
theorem dX12_transform_242 : decode cX12_transform 242 = .ok (.iload 6, 2) := by decide +kernel
theorem dX12_transform_244 : decode cX12_transform 244 = .ok (.iload 7, 2) := by decide +kernel
theorem dX12_transform_246 : decode cX12_transform 246 = .ok (.invokevirtual 126, 3) := by decide +kernel
theorem dX12_transform_249 : decode cX12_transform 249 = .ok (.aload_n 0, 1) := by decide +kernel
theorem dX12_transform_250 : decode cX12_transform 250 = .ok (.iload 6, 2) := by decide +kernel
theorem dX12_transform_252 : decode cX12_transform 252 = .ok (.iload 7, 2) := by decide +kernel
theorem dX12_transform_254 : decode cX12_transform 254 = .ok (.invokevirtual 122, 3) := by decide +kernel
theorem dX12_transform_257 : decode cX12_transform 257 = .ok (.ineg, 1) := by decide +kernel
theorem dX12_transform_258 : decode cX12_transform 258 = .ok (.iload_n 1, 1) := by decide +kernel
theorem dX12_transform_259 : decode cX12_transform 259 = .ok (.invokestatic 138, 3) := by decide +kernel
theorem dX12_transform_262 : decode cX12_transform 262 = .ok (.iload_n 3, 1) := by decide +kernel
theorem dX12_transform_263 : decode cX12_transform 263 = .ok (.iadd, 1) := by decide +kernel
theorem dX12_transform_264 : decode cX12_transform 264 = .ok (.invokevirtual 84, 3) := by decide +kernel
theorem dX12_transform_267 : decode cX12_transform 267 = .ok (.iinc 7 1, 3) := by decide +kernel
theorem dX12_transform_270 : decode cX12_transform 270 = .ok (.goto (-67), 3) := by decide +kernel
theorem dX12_transform_273 : decode cX12_transform 273 = .ok (.iinc 6 1, 3) := by decide +kernel
theorem dX12_transform_276 : decode cX12_transform 276 = .ok (.goto (-88), 3) := by decide +kernel
theorem dX12_transform_279 : decode cX12_transform 279 = .ok (.iload 5, 2) := by decide +kernel
theorem dX12_transform_281 : decode cX12_transform 281 = .ok (.ireturn, 1) := by decide +kernel
theorem dX12_subpaths_0 : decode cX12_subpaths 0 = .ok (.aload_n 0, 1) := by decide +kernel
theorem dX12_subpaths_1 : decode cX12_subpaths 1 = .ok (.iconst 0, 1) := by decide +kernel
theorem dX12_subpaths_2 : decode cX12_subpaths 2 = .ok (.putfield 61, 3) := by decide +kernel
theorem dX12_subpaths_5 : decode cX12_subpaths 5 = .ok (.aload_n 0, 1) := by decide +kernel
theorem dX12_subpaths_6 : decode cX12_subpaths 6 = .ok (.getfield 7, 3) := by decide +kernel
theorem dX12_subpaths_9 : decode cX12_subpaths 9 = .ok (.bipush 13, 2) := by decide +kernel
theorem dX12_subpaths_11 : decode cX12_subpaths 11 = .ok (.iaload, 1) := by decide +kernel
theorem dX12_subpaths_12 : decode cX12_subpaths 12 = .ok (.ireturn, 1) := by decide +kernel
theorem dX12_laysSegments_0 : decode cX12_laysSegments 0 = .ok (.aload_n 0, 1) := by decide +kernel
theorem dX12_laysSegments_1 : decode cX12_laysSegments 1 = .ok (.iconst 0, 1) := by decide +kernel
theorem dX12_laysSegments_2 : decode cX12_laysSegments 2 = .ok (.putfield 116, 3) := by decide +kernel
theorem dX12_laysSegments_5 : decode cX12_laysSegments 5 = .ok (.aload_n 0, 1) := by decide +kernel
theorem dX12_laysSegments_6 : decode cX12_laysSegments 6 = .ok (.iconst 0, 1) := by decide +kernel
theorem dX12_laysSegments_7 : decode cX12_laysSegments 7 = .ok (.putfield 142, 3) := by decide +kernel
theorem dX12_laysSegments_10 : decode cX12_laysSegments 10 = .ok (.aload_n 0, 1) := by decide +kernel
theorem dX12_laysSegments_11 : decode cX12_laysSegments 11 = .ok (.iload_n 1, 1) := by decide +kernel
theorem dX12_laysSegments_12 : decode cX12_laysSegments 12 = .ok (.invokevirtual 88, 3) := by decide +kernel
theorem dX12_laysSegments_15 : decode cX12_laysSegments 15 = .ok (.istore_n 2, 1) := by decide +kernel
theorem dX12_laysSegments_16 : decode cX12_laysSegments 16 = .ok (.iconst 0, 1) := by decide +kernel
theorem dX12_laysSegments_17 : decode cX12_laysSegments 17 = .ok (.istore_n 3, 1) := by decide +kernel
theorem dX12_laysSegments_18 : decode cX12_laysSegments 18 = .ok (.iload_n 3, 1) := by decide +kernel
theorem dX12_laysSegments_19 : decode cX12_laysSegments 19 = .ok (.aload_n 0, 1) := by decide +kernel
theorem dX12_laysSegments_20 : decode cX12_laysSegments 20 = .ok (.iload_n 1, 1) := by decide +kernel
theorem dX12_laysSegments_21 : decode cX12_laysSegments 21 = .ok (.invokevirtual 102, 3) := by decide +kernel
theorem dX12_laysSegments_24 : decode cX12_laysSegments 24 = .ok (.ifCond .eq 7, 3) := by decide +kernel
theorem dX12_laysSegments_27 : decode cX12_laysSegments 27 = .ok (.iload_n 2, 1) := by decide +kernel
theorem dX12_laysSegments_28 : decode cX12_laysSegments 28 = .ok (.goto 6, 3) := by decide +kernel
theorem dX12_laysSegments_31 : decode cX12_laysSegments 31 = .ok (.iload_n 2, 1) := by decide +kernel
theorem dX12_laysSegments_32 : decode cX12_laysSegments 32 = .ok (.iconst 1, 1) := by decide +kernel
theorem dX12_laysSegments_33 : decode cX12_laysSegments 33 = .ok (.isub, 1) := by decide +kernel
theorem dX12_laysSegments_34 : decode cX12_laysSegments 34 = .ok (.if_icmp .ge 179, 3) := by decide +kernel
theorem dX12_laysSegments_37 : decode cX12_laysSegments 37 = .ok (.iload_n 3, 1) := by decide +kernel
theorem dX12_laysSegments_38 : decode cX12_laysSegments 38 = .ok (.iconst 1, 1) := by decide +kernel
theorem dX12_laysSegments_39 : decode cX12_laysSegments 39 = .ok (.iadd, 1) := by decide +kernel
theorem dX12_laysSegments_40 : decode cX12_laysSegments 40 = .ok (.iload_n 2, 1) := by decide +kernel
theorem dX12_laysSegments_41 : decode cX12_laysSegments 41 = .ok (.irem, 1) := by decide +kernel
theorem dX12_laysSegments_42 : decode cX12_laysSegments 42 = .ok (.istore 4, 2) := by decide +kernel
theorem dX12_laysSegments_44 : decode cX12_laysSegments 44 = .ok (.aload_n 0, 1) := by decide +kernel
theorem dX12_laysSegments_45 : decode cX12_laysSegments 45 = .ok (.iload_n 1, 1) := by decide +kernel
theorem dX12_laysSegments_46 : decode cX12_laysSegments 46 = .ok (.iload 4, 2) := by decide +kernel
theorem dX12_laysSegments_48 : decode cX12_laysSegments 48 = .ok (.invokevirtual 122, 3) := by decide +kernel
theorem dX12_laysSegments_51 : decode cX12_laysSegments 51 = .ok (.aload_n 0, 1) := by decide +kernel
theorem dX12_laysSegments_52 : decode cX12_laysSegments 52 = .ok (.iload_n 1, 1) := by decide +kernel
theorem dX12_laysSegments_53 : decode cX12_laysSegments 53 = .ok (.iload_n 3, 1) := by decide +kernel
theorem dX12_laysSegments_54 : decode cX12_laysSegments 54 = .ok (.invokevirtual 122, 3) := by decide +kernel
theorem dX12_laysSegments_57 : decode cX12_laysSegments 57 = .ok (.isub, 1) := by decide +kernel
theorem dX12_laysSegments_58 : decode cX12_laysSegments 58 = .ok (.istore 5, 2) := by decide +kernel
theorem dX12_laysSegments_60 : decode cX12_laysSegments 60 = .ok (.aload_n 0, 1) := by decide +kernel
theorem dX12_laysSegments_61 : decode cX12_laysSegments 61 = .ok (.iload_n 1, 1) := by decide +kernel
theorem dX12_laysSegments_62 : decode cX12_laysSegments 62 = .ok (.iload 4, 2) := by decide +kernel
theorem dX12_laysSegments_64 : decode cX12_laysSegments 64 = .ok (.invokevirtual 126, 3) := by decide +kernel
theorem dX12_laysSegments_67 : decode cX12_laysSegments 67 = .ok (.aload_n 0, 1) := by decide +kernel
theorem dX12_laysSegments_68 : decode cX12_laysSegments 68 = .ok (.iload_n 1, 1) := by decide +kernel
theorem dX12_laysSegments_69 : decode cX12_laysSegments 69 = .ok (.iload_n 3, 1) := by decide +kernel
theorem dX12_laysSegments_70 : decode cX12_laysSegments 70 = .ok (.invokevirtual 126, 3) := by decide +kernel
theorem dX12_laysSegments_73 : decode cX12_laysSegments 73 = .ok (.isub, 1) := by decide +kernel
theorem dX12_laysSegments_74 : decode cX12_laysSegments 74 = .ok (.istore 6, 2) := by decide +kernel
theorem dX12_laysSegments_76 : decode cX12_laysSegments 76 = .ok (.iload 5, 2) := by decide +kernel
theorem dX12_laysSegments_78 : decode cX12_laysSegments 78 = .ok (.ifCond .ne 8, 3) := by decide +kernel
theorem dX12_laysSegments_81 : decode cX12_laysSegments 81 = .ok (.iload 6, 2) := by decide +kernel
theorem dX12_laysSegments_83 : decode cX12_laysSegments 83 = .ok (.ifCond .eq 124, 3) := by decide +kernel
theorem dX12_laysSegments_86 : decode cX12_laysSegments 86 = .ok (.aload_n 0, 1) := by decide +kernel
theorem dX12_laysSegments_87 : decode cX12_laysSegments 87 = .ok (.getfield 19, 3) := by decide +kernel
theorem dX12_laysSegments_90 : decode cX12_laysSegments 90 = .ok (.aload_n 0, 1) := by decide +kernel
theorem dX12_laysSegments_91 : decode cX12_laysSegments 91 = .ok (.getfield 116, 3) := by decide +kernel
theorem dX12_laysSegments_94 : decode cX12_laysSegments 94 = .ok (.iload 5, 2) := by decide +kernel
theorem dX12_laysSegments_96 : decode cX12_laysSegments 96 = .ok (.iastore, 1) := by decide +kernel
theorem dX12_laysSegments_97 : decode cX12_laysSegments 97 = .ok (.aload_n 0, 1) := by decide +kernel
theorem dX12_laysSegments_98 : decode cX12_laysSegments 98 = .ok (.getfield 22, 3) := by decide +kernel
theorem dX12_laysSegments_101 : decode cX12_laysSegments 101 = .ok (.aload_n 0, 1) := by decide +kernel
theorem dX12_laysSegments_102 : decode cX12_laysSegments 102 = .ok (.getfield 116, 3) := by decide +kernel
theorem dX12_laysSegments_105 : decode cX12_laysSegments 105 = .ok (.iload 6, 2) := by decide +kernel
theorem dX12_laysSegments_107 : decode cX12_laysSegments 107 = .ok (.iastore, 1) := by decide +kernel
theorem dX12_laysSegments_108 : decode cX12_laysSegments 108 = .ok (.aload_n 0, 1) := by decide +kernel
theorem dX12_laysSegments_109 : decode cX12_laysSegments 109 = .ok (.getfield 25, 3) := by decide +kernel
theorem dX12_laysSegments_112 : decode cX12_laysSegments 112 = .ok (.aload_n 0, 1) := by decide +kernel
theorem dX12_laysSegments_113 : decode cX12_laysSegments 113 = .ok (.getfield 116, 3) := by decide +kernel
theorem dX12_laysSegments_116 : decode cX12_laysSegments 116 = .ok (.aload_n 0, 1) := by decide +kernel
theorem dX12_laysSegments_117 : decode cX12_laysSegments 117 = .ok (.iload_n 1, 1) := by decide +kernel
theorem dX12_laysSegments_118 : decode cX12_laysSegments 118 = .ok (.iload_n 3, 1) := by decide +kernel
theorem dX12_laysSegments_119 : decode cX12_laysSegments 119 = .ok (.invokevirtual 122, 3) := by decide +kernel
theorem dX12_laysSegments_122 : decode cX12_laysSegments 122 = .ok (.iastore, 1) := by decide +kernel
theorem dX12_laysSegments_123 : decode cX12_laysSegments 123 = .ok (.aload_n 0, 1) := by decide +kernel
theorem dX12_laysSegments_124 : decode cX12_laysSegments 124 = .ok (.getfield 28, 3) := by decide +kernel
theorem dX12_laysSegments_127 : decode cX12_laysSegments 127 = .ok (.aload_n 0, 1) := by decide +kernel
theorem dX12_laysSegments_128 : decode cX12_laysSegments 128 = .ok (.getfield 116, 3) := by decide +kernel
theorem dX12_laysSegments_131 : decode cX12_laysSegments 131 = .ok (.aload_n 0, 1) := by decide +kernel
theorem dX12_laysSegments_132 : decode cX12_laysSegments 132 = .ok (.iload_n 1, 1) := by decide +kernel
theorem dX12_laysSegments_133 : decode cX12_laysSegments 133 = .ok (.iload_n 3, 1) := by decide +kernel
theorem dX12_laysSegments_134 : decode cX12_laysSegments 134 = .ok (.invokevirtual 126, 3) := by decide +kernel
theorem dX12_laysSegments_137 : decode cX12_laysSegments 137 = .ok (.iastore, 1) := by decide +kernel
theorem dX12_laysSegments_138 : decode cX12_laysSegments 138 = .ok (.aload_n 0, 1) := by decide +kernel
theorem dX12_laysSegments_139 : decode cX12_laysSegments 139 = .ok (.getfield 31, 3) := by decide +kernel
theorem dX12_laysSegments_142 : decode cX12_laysSegments 142 = .ok (.aload_n 0, 1) := by decide +kernel
theorem dX12_laysSegments_143 : decode cX12_laysSegments 143 = .ok (.getfield 116, 3) := by decide +kernel
theorem dX12_laysSegments_146 : decode cX12_laysSegments 146 = .ok (.ldc2_w 145, 3) := by decide +kernel
theorem dX12_laysSegments_149 : decode cX12_laysSegments 149 = .ok (.iload 5, 2) := by decide +kernel
theorem dX12_laysSegments_151 : decode cX12_laysSegments 151 = .ok (.iload 5, 2) := by decide +kernel
theorem dX12_laysSegments_153 : decode cX12_laysSegments 153 = .ok (.imul, 1) := by decide +kernel
theorem dX12_laysSegments_154 : decode cX12_laysSegments 154 = .ok (.iload 6, 2) := by decide +kernel
theorem dX12_laysSegments_156 : decode cX12_laysSegments 156 = .ok (.iload 6, 2) := by decide +kernel
theorem dX12_laysSegments_158 : decode cX12_laysSegments 158 = .ok (.imul, 1) := by decide +kernel
theorem dX12_laysSegments_159 : decode cX12_laysSegments 159 = .ok (.iadd, 1) := by decide +kernel
theorem dX12_laysSegments_160 : decode cX12_laysSegments 160 = .ok (.i2l, 1) := by decide +kernel
theorem dX12_laysSegments_161 : decode cX12_laysSegments 161 = .ok (.lmul, 1) := by decide +kernel
theorem dX12_laysSegments_162 : decode cX12_laysSegments 162 = .ok (.invokestatic 147, 3) := by decide +kernel
theorem dX12_laysSegments_165 : decode cX12_laysSegments 165 = .ok (.iastore, 1) := by decide +kernel
theorem dX12_laysSegments_166 : decode cX12_laysSegments 166 = .ok (.aload_n 0, 1) := by decide +kernel
theorem dX12_laysSegments_167 : decode cX12_laysSegments 167 = .ok (.getfield 34, 3) := by decide +kernel
theorem dX12_laysSegments_170 : decode cX12_laysSegments 170 = .ok (.aload_n 0, 1) := by decide +kernel
theorem dX12_laysSegments_171 : decode cX12_laysSegments 171 = .ok (.getfield 116, 3) := by decide +kernel
theorem dX12_laysSegments_174 : decode cX12_laysSegments 174 = .ok (.aload_n 0, 1) := by decide +kernel
theorem dX12_laysSegments_175 : decode cX12_laysSegments 175 = .ok (.getfield 142, 3) := by decide +kernel
theorem dX12_laysSegments_178 : decode cX12_laysSegments 178 = .ok (.iastore, 1) := by decide +kernel
theorem dX12_laysSegments_179 : decode cX12_laysSegments 179 = .ok (.aload_n 0, 1) := by decide +kernel
theorem dX12_laysSegments_180 : decode cX12_laysSegments 180 = .ok (.dup, 1) := by decide +kernel
theorem dX12_laysSegments_181 : decode cX12_laysSegments 181 = .ok (.getfield 142, 3) := by decide +kernel
theorem dX12_laysSegments_184 : decode cX12_laysSegments 184 = .ok (.aload_n 0, 1) := by decide +kernel
theorem dX12_laysSegments_185 : decode cX12_laysSegments 185 = .ok (.getfield 31, 3) := by decide +kernel
theorem dX12_laysSegments_188 : decode cX12_laysSegments 188 = .ok (.aload_n 0, 1) := by decide +kernel
theorem dX12_laysSegments_189 : decode cX12_laysSegments 189 = .ok (.getfield 116, 3) := by decide +kernel
theorem dX12_laysSegments_192 : decode cX12_laysSegments 192 = .ok (.iaload, 1) := by decide +kernel
theorem dX12_laysSegments_193 : decode cX12_laysSegments 193 = .ok (.iadd, 1) := by decide +kernel
theorem dX12_laysSegments_194 : decode cX12_laysSegments 194 = .ok (.putfield 142, 3) := by decide +kernel
theorem dX12_laysSegments_197 : decode cX12_laysSegments 197 = .ok (.aload_n 0, 1) := by decide +kernel
theorem dX12_laysSegments_198 : decode cX12_laysSegments 198 = .ok (.dup, 1) := by decide +kernel
theorem dX12_laysSegments_199 : decode cX12_laysSegments 199 = .ok (.getfield 116, 3) := by decide +kernel
theorem dX12_laysSegments_202 : decode cX12_laysSegments 202 = .ok (.iconst 1, 1) := by decide +kernel
theorem dX12_laysSegments_203 : decode cX12_laysSegments 203 = .ok (.iadd, 1) := by decide +kernel
theorem dX12_laysSegments_204 : decode cX12_laysSegments 204 = .ok (.putfield 116, 3) := by decide +kernel
theorem dX12_laysSegments_207 : decode cX12_laysSegments 207 = .ok (.iinc 3 1, 3) := by decide +kernel
theorem dX12_laysSegments_210 : decode cX12_laysSegments 210 = .ok (.goto (-192), 3) := by decide +kernel
theorem dX12_laysSegments_213 : decode cX12_laysSegments 213 = .ok (.return_, 1) := by decide +kernel
theorem dX12_alongX_0 : decode cX12_alongX 0 = .ok (.bipush 64, 2) := by decide +kernel
theorem dX12_alongX_2 : decode cX12_alongX 2 = .ok (.aload_n 0, 1) := by decide +kernel
theorem dX12_alongX_3 : decode cX12_alongX 3 = .ok (.getfield 25, 3) := by decide +kernel
theorem dX12_alongX_6 : decode cX12_alongX 6 = .ok (.iload_n 1, 1) := by decide +kernel
theorem dX12_alongX_7 : decode cX12_alongX 7 = .ok (.iaload, 1) := by decide +kernel
theorem dX12_alongX_8 : decode cX12_alongX 8 = .ok (.imul, 1) := by decide +kernel
theorem dX12_alongX_9 : decode cX12_alongX 9 = .ok (.ldc2_w 151, 3) := by decide +kernel
theorem dX12_alongX_12 : decode cX12_alongX 12 = .ok (.aload_n 0, 1) := by decide +kernel
theorem dX12_alongX_13 : decode cX12_alongX 13 = .ok (.getfield 19, 3) := by decide +kernel
theorem dX12_alongX_16 : decode cX12_alongX 16 = .ok (.iload_n 1, 1) := by decide +kernel
theorem dX12_alongX_17 : decode cX12_alongX 17 = .ok (.iaload, 1) := by decide +kernel
theorem dX12_alongX_18 : decode cX12_alongX 18 = .ok (.i2l, 1) := by decide +kernel
theorem dX12_alongX_19 : decode cX12_alongX 19 = .ok (.lmul, 1) := by decide +kernel
theorem dX12_alongX_20 : decode cX12_alongX 20 = .ok (.iload_n 2, 1) := by decide +kernel
theorem dX12_alongX_21 : decode cX12_alongX 21 = .ok (.i2l, 1) := by decide +kernel
theorem dX12_alongX_22 : decode cX12_alongX 22 = .ok (.lmul, 1) := by decide +kernel
theorem dX12_alongX_23 : decode cX12_alongX 23 = .ok (.aload_n 0, 1) := by decide +kernel
theorem dX12_alongX_24 : decode cX12_alongX 24 = .ok (.getfield 31, 3) := by decide +kernel
theorem dX12_alongX_27 : decode cX12_alongX 27 = .ok (.iload_n 1, 1) := by decide +kernel
theorem dX12_alongX_28 : decode cX12_alongX 28 = .ok (.iaload, 1) := by decide +kernel
theorem dX12_alongX_29 : decode cX12_alongX 29 = .ok (.i2l, 1) := by decide +kernel
theorem dX12_alongX_30 : decode cX12_alongX 30 = .ok (.invokestatic 153, 3) := by decide +kernel
theorem dX12_alongX_33 : decode cX12_alongX 33 = .ok (.iadd, 1) := by decide +kernel
theorem dX12_alongX_34 : decode cX12_alongX 34 = .ok (.ireturn, 1) := by decide +kernel
theorem dX12_alongY_0 : decode cX12_alongY 0 = .ok (.bipush 64, 2) := by decide +kernel
theorem dX12_alongY_2 : decode cX12_alongY 2 = .ok (.aload_n 0, 1) := by decide +kernel
theorem dX12_alongY_3 : decode cX12_alongY 3 = .ok (.getfield 28, 3) := by decide +kernel
theorem dX12_alongY_6 : decode cX12_alongY 6 = .ok (.iload_n 1, 1) := by decide +kernel
theorem dX12_alongY_7 : decode cX12_alongY 7 = .ok (.iaload, 1) := by decide +kernel
theorem dX12_alongY_8 : decode cX12_alongY 8 = .ok (.imul, 1) := by decide +kernel
theorem dX12_alongY_9 : decode cX12_alongY 9 = .ok (.ldc2_w 151, 3) := by decide +kernel
theorem dX12_alongY_12 : decode cX12_alongY 12 = .ok (.aload_n 0, 1) := by decide +kernel
theorem dX12_alongY_13 : decode cX12_alongY 13 = .ok (.getfield 22, 3) := by decide +kernel
theorem dX12_alongY_16 : decode cX12_alongY 16 = .ok (.iload_n 1, 1) := by decide +kernel
theorem dX12_alongY_17 : decode cX12_alongY 17 = .ok (.iaload, 1) := by decide +kernel
theorem dX12_alongY_18 : decode cX12_alongY 18 = .ok (.i2l, 1) := by decide +kernel
theorem dX12_alongY_19 : decode cX12_alongY 19 = .ok (.lmul, 1) := by decide +kernel
theorem dX12_alongY_20 : decode cX12_alongY 20 = .ok (.iload_n 2, 1) := by decide +kernel
theorem dX12_alongY_21 : decode cX12_alongY 21 = .ok (.i2l, 1) := by decide +kernel
theorem dX12_alongY_22 : decode cX12_alongY 22 = .ok (.lmul, 1) := by decide +kernel
theorem dX12_alongY_23 : decode cX12_alongY 23 = .ok (.aload_n 0, 1) := by decide +kernel
theorem dX12_alongY_24 : decode cX12_alongY 24 = .ok (.getfield 31, 3) := by decide +kernel
theorem dX12_alongY_27 : decode cX12_alongY 27 = .ok (.iload_n 1, 1) := by decide +kernel
theorem dX12_alongY_28 : decode cX12_alongY 28 = .ok (.iaload, 1) := by decide +kernel
theorem dX12_alongY_29 : decode cX12_alongY 29 = .ok (.i2l, 1) := by decide +kernel
theorem dX12_alongY_30 : decode cX12_alongY 30 = .ok (.invokestatic 153, 3) := by decide +kernel
theorem dX12_alongY_33 : decode cX12_alongY 33 = .ok (.iadd, 1) := by decide +kernel
theorem dX12_alongY_34 : decode cX12_alongY 34 = .ok (.ireturn, 1) := by decide +kernel
theorem dX12_tellSubpath_0 : decode cX12_tellSubpath 0 = .ok (.aload_n 0, 1) := by decide +kernel
theorem dX12_tellSubpath_1 : decode cX12_tellSubpath 1 = .ok (.iload_n 1, 1) := by decide +kernel
theorem dX12_tellSubpath_2 : decode cX12_tellSubpath 2 = .ok (.invokevirtual 112, 3) := by decide +kernel
theorem dX12_tellSubpath_5 : decode cX12_tellSubpath 5 = .ok (.iload_n 2, 1) := by decide +kernel
theorem dX12_tellSubpath_6 : decode cX12_tellSubpath 6 = .ok (.ifCond .ne 11, 3) := by decide +kernel
theorem dX12_tellSubpath_9 : decode cX12_tellSubpath 9 = .ok (.aload_n 0, 1) := by decide +kernel
theorem dX12_tellSubpath_10 : decode cX12_tellSubpath 10 = .ok (.iload_n 1, 1) := by decide +kernel
theorem dX12_tellSubpath_11 : decode cX12_tellSubpath 11 = .ok (.invokevirtual 88, 3) := by decide +kernel
theorem dX12_tellSubpath_14 : decode cX12_tellSubpath 14 = .ok (.goto 38, 3) := by decide +kernel
theorem dX12_tellSubpath_17 : decode cX12_tellSubpath 17 = .ok (.iload_n 2, 1) := by decide +kernel
theorem dX12_tellSubpath_18 : decode cX12_tellSubpath 18 = .ok (.iconst 1, 1) := by decide +kernel
theorem dX12_tellSubpath_19 : decode cX12_tellSubpath 19 = .ok (.if_icmp .ne 17, 3) := by decide +kernel
theorem dX12_tellSubpath_22 : decode cX12_tellSubpath 22 = .ok (.aload_n 0, 1) := by decide +kernel
theorem dX12_tellSubpath_23 : decode cX12_tellSubpath 23 = .ok (.getfield 7, 3) := by decide +kernel
theorem dX12_tellSubpath_26 : decode cX12_tellSubpath 26 = .ok (.iload_n 1, 1) := by decide +kernel
theorem dX12_tellSubpath_27 : decode cX12_tellSubpath 27 = .ok (.invokestatic 80, 3) := by decide +kernel
theorem dX12_tellSubpath_30 : decode cX12_tellSubpath 30 = .ok (.iconst 1, 1) := by decide +kernel
theorem dX12_tellSubpath_31 : decode cX12_tellSubpath 31 = .ok (.iadd, 1) := by decide +kernel
theorem dX12_tellSubpath_32 : decode cX12_tellSubpath 32 = .ok (.iaload, 1) := by decide +kernel
theorem dX12_tellSubpath_33 : decode cX12_tellSubpath 33 = .ok (.goto 19, 3) := by decide +kernel
theorem dX12_tellSubpath_36 : decode cX12_tellSubpath 36 = .ok (.iload_n 2, 1) := by decide +kernel
theorem dX12_tellSubpath_37 : decode cX12_tellSubpath 37 = .ok (.iconst 2, 1) := by decide +kernel
theorem dX12_tellSubpath_38 : decode cX12_tellSubpath 38 = .ok (.if_icmp .ne 10, 3) := by decide +kernel
theorem dX12_tellSubpath_41 : decode cX12_tellSubpath 41 = .ok (.aload_n 0, 1) := by decide +kernel
theorem dX12_tellSubpath_42 : decode cX12_tellSubpath 42 = .ok (.getfield 116, 3) := by decide +kernel
theorem dX12_tellSubpath_45 : decode cX12_tellSubpath 45 = .ok (.goto 7, 3) := by decide +kernel
theorem dX12_tellSubpath_48 : decode cX12_tellSubpath 48 = .ok (.aload_n 0, 1) := by decide +kernel
theorem dX12_tellSubpath_49 : decode cX12_tellSubpath 49 = .ok (.getfield 142, 3) := by decide +kernel
theorem dX12_tellSubpath_52 : decode cX12_tellSubpath 52 = .ok (.ireturn, 1) := by decide +kernel
theorem dX12_subpath_0 : decode cX12_subpath 0 = .ok (.aload_n 0, 1) := by decide +kernel
theorem dX12_subpath_1 : decode cX12_subpath 1 = .ok (.aload_n 0, 1) := by decide +kernel
theorem dX12_subpath_2 : decode cX12_subpath 2 = .ok (.iload_n 1, 1) := by decide +kernel
theorem dX12_subpath_3 : decode cX12_subpath 3 = .ok (.invokevirtual 119, 3) := by decide +kernel
theorem dX12_subpath_6 : decode cX12_subpath 6 = .ok (.ifCond .ne 7, 3) := by decide +kernel
theorem dX12_subpath_9 : decode cX12_subpath 9 = .ok (.iconst 1, 1) := by decide +kernel
theorem dX12_subpath_10 : decode cX12_subpath 10 = .ok (.goto 17, 3) := by decide +kernel
theorem dX12_subpath_13 : decode cX12_subpath 13 = .ok (.iload_n 2, 1) := by decide +kernel
theorem dX12_subpath_14 : decode cX12_subpath 14 = .ok (.iconst 0, 1) := by decide +kernel
theorem dX12_subpath_15 : decode cX12_subpath 15 = .ok (.iconst 3, 1) := by decide +kernel
theorem dX12_subpath_16 : decode cX12_subpath 16 = .ok (.invokestatic 65, 3) := by decide +kernel
theorem dX12_subpath_19 : decode cX12_subpath 19 = .ok (.ifCond .eq 7, 3) := by decide +kernel
theorem dX12_subpath_22 : decode cX12_subpath 22 = .ok (.iconst 0, 1) := by decide +kernel
theorem dX12_subpath_23 : decode cX12_subpath 23 = .ok (.goto 4, 3) := by decide +kernel
theorem dX12_subpath_26 : decode cX12_subpath 26 = .ok (.iconst 2, 1) := by decide +kernel
theorem dX12_subpath_27 : decode cX12_subpath 27 = .ok (.invokevirtual 76, 3) := by decide +kernel
theorem dX12_subpath_30 : decode cX12_subpath 30 = .ok (.ifCond .eq 7, 3) := by decide +kernel
theorem dX12_subpath_33 : decode cX12_subpath 33 = .ok (.iconst 0, 1) := by decide +kernel
theorem dX12_subpath_34 : decode cX12_subpath 34 = .ok (.goto 9, 3) := by decide +kernel
theorem dX12_subpath_37 : decode cX12_subpath 37 = .ok (.aload_n 0, 1) := by decide +kernel
theorem dX12_subpath_38 : decode cX12_subpath 38 = .ok (.iload_n 1, 1) := by decide +kernel
theorem dX12_subpath_39 : decode cX12_subpath 39 = .ok (.iload_n 2, 1) := by decide +kernel
theorem dX12_subpath_40 : decode cX12_subpath 40 = .ok (.invokevirtual 157, 3) := by decide +kernel
theorem dX12_subpath_43 : decode cX12_subpath 43 = .ok (.ireturn, 1) := by decide +kernel
theorem dX12_point_0 : decode cX12_point 0 = .ok (.aload_n 0, 1) := by decide +kernel
theorem dX12_point_1 : decode cX12_point 1 = .ok (.aload_n 0, 1) := by decide +kernel
theorem dX12_point_2 : decode cX12_point 2 = .ok (.iload_n 1, 1) := by decide +kernel
theorem dX12_point_3 : decode cX12_point 3 = .ok (.invokevirtual 119, 3) := by decide +kernel
theorem dX12_point_6 : decode cX12_point 6 = .ok (.ifCond .eq 22, 3) := by decide +kernel
theorem dX12_point_9 : decode cX12_point 9 = .ok (.iload_n 2, 1) := by decide +kernel
theorem dX12_point_10 : decode cX12_point 10 = .ok (.iconst 0, 1) := by decide +kernel
theorem dX12_point_11 : decode cX12_point 11 = .ok (.aload_n 0, 1) := by decide +kernel
theorem dX12_point_12 : decode cX12_point 12 = .ok (.iload_n 1, 1) := by decide +kernel
theorem dX12_point_13 : decode cX12_point 13 = .ok (.invokevirtual 88, 3) := by decide +kernel
theorem dX12_point_16 : decode cX12_point 16 = .ok (.iconst 1, 1) := by decide +kernel
theorem dX12_point_17 : decode cX12_point 17 = .ok (.isub, 1) := by decide +kernel
theorem dX12_point_18 : decode cX12_point 18 = .ok (.invokestatic 65, 3) := by decide +kernel
theorem dX12_point_21 : decode cX12_point 21 = .ok (.ifCond .eq 7, 3) := by decide +kernel
theorem dX12_point_24 : decode cX12_point 24 = .ok (.iconst 0, 1) := by decide +kernel
theorem dX12_point_25 : decode cX12_point 25 = .ok (.goto 4, 3) := by decide +kernel
theorem dX12_point_28 : decode cX12_point 28 = .ok (.iconst 1, 1) := by decide +kernel
theorem dX12_point_29 : decode cX12_point 29 = .ok (.invokevirtual 76, 3) := by decide +kernel
theorem dX12_point_32 : decode cX12_point 32 = .ok (.ifCond .eq 5, 3) := by decide +kernel
theorem dX12_point_35 : decode cX12_point 35 = .ok (.iconst 0, 1) := by decide +kernel
theorem dX12_point_36 : decode cX12_point 36 = .ok (.ireturn, 1) := by decide +kernel
theorem dX12_point_37 : decode cX12_point 37 = .ok (.iload_n 3, 1) := by decide +kernel
theorem dX12_point_38 : decode cX12_point 38 = .ok (.ifCond .eq 12, 3) := by decide +kernel
theorem dX12_point_41 : decode cX12_point 41 = .ok (.aload_n 0, 1) := by decide +kernel
theorem dX12_point_42 : decode cX12_point 42 = .ok (.iload_n 1, 1) := by decide +kernel
theorem dX12_point_43 : decode cX12_point 43 = .ok (.iload_n 2, 1) := by decide +kernel
theorem dX12_point_44 : decode cX12_point 44 = .ok (.invokevirtual 126, 3) := by decide +kernel
theorem dX12_point_47 : decode cX12_point 47 = .ok (.goto 9, 3) := by decide +kernel
theorem dX12_point_50 : decode cX12_point 50 = .ok (.aload_n 0, 1) := by decide +kernel
theorem dX12_point_51 : decode cX12_point 51 = .ok (.iload_n 1, 1) := by decide +kernel
theorem dX12_point_52 : decode cX12_point 52 = .ok (.iload_n 2, 1) := by decide +kernel
theorem dX12_point_53 : decode cX12_point 53 = .ok (.invokevirtual 122, 3) := by decide +kernel
theorem dX12_point_56 : decode cX12_point 56 = .ok (.ireturn, 1) := by decide +kernel
theorem dX12_pointAt_0 : decode cX12_pointAt 0 = .ok (.aload_n 0, 1) := by decide +kernel
theorem dX12_pointAt_1 : decode cX12_pointAt 1 = .ok (.aload_n 0, 1) := by decide +kernel
theorem dX12_pointAt_2 : decode cX12_pointAt 2 = .ok (.iload_n 1, 1) := by decide +kernel
theorem dX12_pointAt_3 : decode cX12_pointAt 3 = .ok (.invokevirtual 119, 3) := by decide +kernel
theorem dX12_pointAt_6 : decode cX12_pointAt 6 = .ok (.ifCond .ne 7, 3) := by decide +kernel
theorem dX12_pointAt_9 : decode cX12_pointAt 9 = .ok (.iconst 1, 1) := by decide +kernel
theorem dX12_pointAt_10 : decode cX12_pointAt 10 = .ok (.goto 22, 3) := by decide +kernel
theorem dX12_pointAt_13 : decode cX12_pointAt 13 = .ok (.iload_n 2, 1) := by decide +kernel
theorem dX12_pointAt_14 : decode cX12_pointAt 14 = .ok (.iconst 0, 1) := by decide +kernel
theorem dX12_pointAt_15 : decode cX12_pointAt 15 = .ok (.aload_n 0, 1) := by decide +kernel
theorem dX12_pointAt_16 : decode cX12_pointAt 16 = .ok (.iload_n 1, 1) := by decide +kernel
theorem dX12_pointAt_17 : decode cX12_pointAt 17 = .ok (.iconst 3, 1) := by decide +kernel
theorem dX12_pointAt_18 : decode cX12_pointAt 18 = .ok (.invokevirtual 157, 3) := by decide +kernel
theorem dX12_pointAt_21 : decode cX12_pointAt 21 = .ok (.invokestatic 65, 3) := by decide +kernel
theorem dX12_pointAt_24 : decode cX12_pointAt 24 = .ok (.ifCond .eq 7, 3) := by decide +kernel
theorem dX12_pointAt_27 : decode cX12_pointAt 27 = .ok (.iconst 0, 1) := by decide +kernel
theorem dX12_pointAt_28 : decode cX12_pointAt 28 = .ok (.goto 4, 3) := by decide +kernel
theorem dX12_pointAt_31 : decode cX12_pointAt 31 = .ok (.iconst 2, 1) := by decide +kernel
theorem dX12_pointAt_32 : decode cX12_pointAt 32 = .ok (.invokevirtual 76, 3) := by decide +kernel
theorem dX12_pointAt_35 : decode cX12_pointAt 35 = .ok (.ifCond .eq 5, 3) := by decide +kernel
theorem dX12_pointAt_38 : decode cX12_pointAt 38 = .ok (.iconst 0, 1) := by decide +kernel
theorem dX12_pointAt_39 : decode cX12_pointAt 39 = .ok (.ireturn, 1) := by decide +kernel
theorem dX12_pointAt_40 : decode cX12_pointAt 40 = .ok (.aload_n 0, 1) := by decide +kernel
theorem dX12_pointAt_41 : decode cX12_pointAt 41 = .ok (.getfield 116, 3) := by decide +kernel
theorem dX12_pointAt_44 : decode cX12_pointAt 44 = .ok (.ifCond .ne 26, 3) := by decide +kernel
theorem dX12_pointAt_47 : decode cX12_pointAt 47 = .ok (.bipush 64, 2) := by decide +kernel
theorem dX12_pointAt_49 : decode cX12_pointAt 49 = .ok (.iload_n 3, 1) := by decide +kernel
theorem dX12_pointAt_50 : decode cX12_pointAt 50 = .ok (.ifCond .eq 12, 3) := by decide +kernel
theorem dX12_pointAt_53 : decode cX12_pointAt 53 = .ok (.aload_n 0, 1) := by decide +kernel
theorem dX12_pointAt_54 : decode cX12_pointAt 54 = .ok (.iload_n 1, 1) := by decide +kernel
theorem dX12_pointAt_55 : decode cX12_pointAt 55 = .ok (.iconst 0, 1) := by decide +kernel
theorem dX12_pointAt_56 : decode cX12_pointAt 56 = .ok (.invokevirtual 126, 3) := by decide +kernel
theorem dX12_pointAt_59 : decode cX12_pointAt 59 = .ok (.goto 9, 3) := by decide +kernel
theorem dX12_pointAt_62 : decode cX12_pointAt 62 = .ok (.aload_n 0, 1) := by decide +kernel
theorem dX12_pointAt_63 : decode cX12_pointAt 63 = .ok (.iload_n 1, 1) := by decide +kernel
theorem dX12_pointAt_64 : decode cX12_pointAt 64 = .ok (.iconst 0, 1) := by decide +kernel
theorem dX12_pointAt_65 : decode cX12_pointAt 65 = .ok (.invokevirtual 122, 3) := by decide +kernel
theorem dX12_pointAt_68 : decode cX12_pointAt 68 = .ok (.imul, 1) := by decide +kernel
theorem dX12_pointAt_69 : decode cX12_pointAt 69 = .ok (.ireturn, 1) := by decide +kernel
theorem dX12_pointAt_70 : decode cX12_pointAt 70 = .ok (.iconst 0, 1) := by decide +kernel
theorem dX12_pointAt_71 : decode cX12_pointAt 71 = .ok (.istore 4, 2) := by decide +kernel
theorem dX12_pointAt_73 : decode cX12_pointAt 73 = .ok (.iload_n 2, 1) := by decide +kernel
theorem dX12_pointAt_74 : decode cX12_pointAt 74 = .ok (.aload_n 0, 1) := by decide +kernel
theorem dX12_pointAt_75 : decode cX12_pointAt 75 = .ok (.getfield 34, 3) := by decide +kernel
theorem dX12_pointAt_78 : decode cX12_pointAt 78 = .ok (.iload 4, 2) := by decide +kernel
theorem dX12_pointAt_80 : decode cX12_pointAt 80 = .ok (.iaload, 1) := by decide +kernel
theorem dX12_pointAt_81 : decode cX12_pointAt 81 = .ok (.aload_n 0, 1) := by decide +kernel
theorem dX12_pointAt_82 : decode cX12_pointAt 82 = .ok (.getfield 31, 3) := by decide +kernel
theorem dX12_pointAt_85 : decode cX12_pointAt 85 = .ok (.iload 4, 2) := by decide +kernel
theorem dX12_pointAt_87 : decode cX12_pointAt 87 = .ok (.iaload, 1) := by decide +kernel
theorem dX12_pointAt_88 : decode cX12_pointAt 88 = .ok (.iadd, 1) := by decide +kernel
theorem dX12_pointAt_89 : decode cX12_pointAt 89 = .ok (.if_icmp .le 9, 3) := by decide +kernel
theorem dX12_pointAt_92 : decode cX12_pointAt 92 = .ok (.iinc 4 1, 3) := by decide +kernel
theorem dX12_pointAt_95 : decode cX12_pointAt 95 = .ok (.goto (-22), 3) := by decide +kernel
theorem dX12_pointAt_98 : decode cX12_pointAt 98 = .ok (.iload_n 3, 1) := by decide +kernel
theorem dX12_pointAt_99 : decode cX12_pointAt 99 = .ok (.ifCond .eq 21, 3) := by decide +kernel
theorem dX12_pointAt_102 : decode cX12_pointAt 102 = .ok (.aload_n 0, 1) := by decide +kernel
theorem dX12_pointAt_103 : decode cX12_pointAt 103 = .ok (.iload 4, 2) := by decide +kernel
theorem dX12_pointAt_105 : decode cX12_pointAt 105 = .ok (.iload_n 2, 1) := by decide +kernel
theorem dX12_pointAt_106 : decode cX12_pointAt 106 = .ok (.aload_n 0, 1) := by decide +kernel
theorem dX12_pointAt_107 : decode cX12_pointAt 107 = .ok (.getfield 34, 3) := by decide +kernel
theorem dX12_pointAt_110 : decode cX12_pointAt 110 = .ok (.iload 4, 2) := by decide +kernel
theorem dX12_pointAt_112 : decode cX12_pointAt 112 = .ok (.iaload, 1) := by decide +kernel
theorem dX12_pointAt_113 : decode cX12_pointAt 113 = .ok (.isub, 1) := by decide +kernel
theorem dX12_pointAt_114 : decode cX12_pointAt 114 = .ok (.invokevirtual 160, 3) := by decide +kernel
theorem dX12_pointAt_117 : decode cX12_pointAt 117 = .ok (.goto 18, 3) := by decide +kernel
theorem dX12_pointAt_120 : decode cX12_pointAt 120 = .ok (.aload_n 0, 1) := by decide +kernel
theorem dX12_pointAt_121 : decode cX12_pointAt 121 = .ok (.iload 4, 2) := by decide +kernel
theorem dX12_pointAt_123 : decode cX12_pointAt 123 = .ok (.iload_n 2, 1) := by decide +kernel
theorem dX12_pointAt_124 : decode cX12_pointAt 124 = .ok (.aload_n 0, 1) := by decide +kernel
theorem dX12_pointAt_125 : decode cX12_pointAt 125 = .ok (.getfield 34, 3) := by decide +kernel
theorem dX12_pointAt_128 : decode cX12_pointAt 128 = .ok (.iload 4, 2) := by decide +kernel
theorem dX12_pointAt_130 : decode cX12_pointAt 130 = .ok (.iaload, 1) := by decide +kernel
theorem dX12_pointAt_131 : decode cX12_pointAt 131 = .ok (.isub, 1) := by decide +kernel
theorem dX12_pointAt_132 : decode cX12_pointAt 132 = .ok (.invokevirtual 163, 3) := by decide +kernel
theorem dX12_pointAt_135 : decode cX12_pointAt 135 = .ok (.ireturn, 1) := by decide +kernel
theorem dX12_setStyle_0 : decode cX12_setStyle 0 = .ok (.aload_n 0, 1) := by decide +kernel
theorem dX12_setStyle_1 : decode cX12_setStyle 1 = .ok (.iload_n 1, 1) := by decide +kernel
theorem dX12_setStyle_2 : decode cX12_setStyle 2 = .ok (.iconst 1, 1) := by decide +kernel
theorem dX12_setStyle_3 : decode cX12_setStyle 3 = .ok (.bipush 40, 2) := by decide +kernel
theorem dX12_setStyle_5 : decode cX12_setStyle 5 = .ok (.invokestatic 65, 3) := by decide +kernel
theorem dX12_setStyle_8 : decode cX12_setStyle 8 = .ok (.ifCond .eq 36, 3) := by decide +kernel
theorem dX12_setStyle_11 : decode cX12_setStyle 11 = .ok (.iload_n 2, 1) := by decide +kernel
theorem dX12_setStyle_12 : decode cX12_setStyle 12 = .ok (.iconst 0, 1) := by decide +kernel
theorem dX12_setStyle_13 : decode cX12_setStyle 13 = .ok (.iconst 2, 1) := by decide +kernel
theorem dX12_setStyle_14 : decode cX12_setStyle 14 = .ok (.invokestatic 65, 3) := by decide +kernel
theorem dX12_setStyle_17 : decode cX12_setStyle 17 = .ok (.ifCond .eq 27, 3) := by decide +kernel
theorem dX12_setStyle_20 : decode cX12_setStyle 20 = .ok (.iload_n 3, 1) := by decide +kernel
theorem dX12_setStyle_21 : decode cX12_setStyle 21 = .ok (.iconst 1, 1) := by decide +kernel
theorem dX12_setStyle_22 : decode cX12_setStyle 22 = .ok (.bipush 10, 2) := by decide +kernel
theorem dX12_setStyle_24 : decode cX12_setStyle 24 = .ok (.invokestatic 65, 3) := by decide +kernel
theorem dX12_setStyle_27 : decode cX12_setStyle 27 = .ok (.ifCond .eq 17, 3) := by decide +kernel
theorem dX12_setStyle_30 : decode cX12_setStyle 30 = .ok (.iload 4, 2) := by decide +kernel
theorem dX12_setStyle_32 : decode cX12_setStyle 32 = .ok (.iconst 0, 1) := by decide +kernel
theorem dX12_setStyle_33 : decode cX12_setStyle 33 = .ok (.iconst 2, 1) := by decide +kernel
theorem dX12_setStyle_34 : decode cX12_setStyle 34 = .ok (.invokestatic 65, 3) := by decide +kernel
theorem dX12_setStyle_37 : decode cX12_setStyle 37 = .ok (.ifCond .eq 7, 3) := by decide +kernel
theorem dX12_setStyle_40 : decode cX12_setStyle 40 = .ok (.iconst 0, 1) := by decide +kernel
theorem dX12_setStyle_41 : decode cX12_setStyle 41 = .ok (.goto 4, 3) := by decide +kernel
theorem dX12_setStyle_44 : decode cX12_setStyle 44 = .ok (.iconst 1, 1) := by decide +kernel
theorem dX12_setStyle_45 : decode cX12_setStyle 45 = .ok (.invokevirtual 76, 3) := by decide +kernel
theorem dX12_setStyle_48 : decode cX12_setStyle 48 = .ok (.ifCond .eq 5, 3) := by decide +kernel
theorem dX12_setStyle_51 : decode cX12_setStyle 51 = .ok (.iconst 0, 1) := by decide +kernel
theorem dX12_setStyle_52 : decode cX12_setStyle 52 = .ok (.ireturn, 1) := by decide +kernel
theorem dX12_setStyle_53 : decode cX12_setStyle 53 = .ok (.aload_n 0, 1) := by decide +kernel
theorem dX12_setStyle_54 : decode cX12_setStyle 54 = .ok (.invokevirtual 95, 3) := by decide +kernel
theorem dX12_setStyle_57 : decode cX12_setStyle 57 = .ok (.aload_n 0, 1) := by decide +kernel
theorem dX12_setStyle_58 : decode cX12_setStyle 58 = .ok (.getfield 7, 3) := by decide +kernel
theorem dX12_setStyle_61 : decode cX12_setStyle 61 = .ok (.iconst 0, 1) := by decide +kernel
theorem dX12_setStyle_62 : decode cX12_setStyle 62 = .ok (.iaload, 1) := by decide +kernel
theorem dX12_setStyle_63 : decode cX12_setStyle 63 = .ok (.istore 5, 2) := by decide +kernel
theorem dX12_setStyle_65 : decode cX12_setStyle 65 = .ok (.aload_n 0, 1) := by decide +kernel
theorem dX12_setStyle_66 : decode cX12_setStyle 66 = .ok (.getfield 7, 3) := by decide +kernel
theorem dX12_setStyle_69 : decode cX12_setStyle 69 = .ok (.iconst 0, 1) := by decide +kernel
theorem dX12_setStyle_70 : decode cX12_setStyle 70 = .ok (.iload_n 1, 1) := by decide +kernel
theorem dX12_setStyle_71 : decode cX12_setStyle 71 = .ok (.iastore, 1) := by decide +kernel
theorem dX12_setStyle_72 : decode cX12_setStyle 72 = .ok (.aload_n 0, 1) := by decide +kernel
theorem dX12_setStyle_73 : decode cX12_setStyle 73 = .ok (.getfield 7, 3) := by decide +kernel
theorem dX12_setStyle_76 : decode cX12_setStyle 76 = .ok (.iconst 1, 1) := by decide +kernel
theorem dX12_setStyle_77 : decode cX12_setStyle 77 = .ok (.iload_n 2, 1) := by decide +kernel
theorem dX12_setStyle_78 : decode cX12_setStyle 78 = .ok (.iastore, 1) := by decide +kernel
theorem dX12_setStyle_79 : decode cX12_setStyle 79 = .ok (.aload_n 0, 1) := by decide +kernel
theorem dX12_setStyle_80 : decode cX12_setStyle 80 = .ok (.getfield 7, 3) := by decide +kernel
theorem dX12_setStyle_83 : decode cX12_setStyle 83 = .ok (.iconst 2, 1) := by decide +kernel
theorem dX12_setStyle_84 : decode cX12_setStyle 84 = .ok (.iload_n 3, 1) := by decide +kernel
theorem dX12_setStyle_85 : decode cX12_setStyle 85 = .ok (.iastore, 1) := by decide +kernel
theorem dX12_setStyle_86 : decode cX12_setStyle 86 = .ok (.aload_n 0, 1) := by decide +kernel
theorem dX12_setStyle_87 : decode cX12_setStyle 87 = .ok (.getfield 7, 3) := by decide +kernel
theorem dX12_setStyle_90 : decode cX12_setStyle 90 = .ok (.iconst 3, 1) := by decide +kernel
theorem dX12_setStyle_91 : decode cX12_setStyle 91 = .ok (.iload 4, 2) := by decide +kernel
theorem dX12_setStyle_93 : decode cX12_setStyle 93 = .ok (.iastore, 1) := by decide +kernel
theorem dX12_setStyle_94 : decode cX12_setStyle 94 = .ok (.iload 5, 2) := by decide +kernel
theorem dX12_setStyle_96 : decode cX12_setStyle 96 = .ok (.ireturn, 1) := by decide +kernel
theorem dX12_setDashes_0 : decode cX12_setDashes 0 = .ok (.aload_n 0, 1) := by decide +kernel
theorem dX12_setDashes_1 : decode cX12_setDashes 1 = .ok (.iload_n 1, 1) := by decide +kernel
theorem dX12_setDashes_2 : decode cX12_setDashes 2 = .ok (.iconst 0, 1) := by decide +kernel
theorem dX12_setDashes_3 : decode cX12_setDashes 3 = .ok (.sipush 600, 3) := by decide +kernel
theorem dX12_setDashes_6 : decode cX12_setDashes 6 = .ok (.invokestatic 65, 3) := by decide +kernel
theorem dX12_setDashes_9 : decode cX12_setDashes 9 = .ok (.ifCond .eq 7, 3) := by decide +kernel
theorem dX12_setDashes_12 : decode cX12_setDashes 12 = .ok (.iconst 0, 1) := by decide +kernel
theorem dX12_setDashes_13 : decode cX12_setDashes 13 = .ok (.goto 4, 3) := by decide +kernel
theorem dX12_setDashes_16 : decode cX12_setDashes 16 = .ok (.iconst 1, 1) := by decide +kernel
theorem dX12_setDashes_17 : decode cX12_setDashes 17 = .ok (.invokevirtual 76, 3) := by decide +kernel
theorem dX12_setDashes_20 : decode cX12_setDashes 20 = .ok (.ifCond .eq 5, 3) := by decide +kernel
theorem dX12_setDashes_23 : decode cX12_setDashes 23 = .ok (.iconst 0, 1) := by decide +kernel
theorem dX12_setDashes_24 : decode cX12_setDashes 24 = .ok (.ireturn, 1) := by decide +kernel
theorem dX12_setDashes_25 : decode cX12_setDashes 25 = .ok (.aload_n 0, 1) := by decide +kernel
theorem dX12_setDashes_26 : decode cX12_setDashes 26 = .ok (.invokevirtual 95, 3) := by decide +kernel
theorem dX12_setDashes_29 : decode cX12_setDashes 29 = .ok (.aload_n 0, 1) := by decide +kernel
theorem dX12_setDashes_30 : decode cX12_setDashes 30 = .ok (.getfield 7, 3) := by decide +kernel
theorem dX12_setDashes_33 : decode cX12_setDashes 33 = .ok (.bipush 6, 2) := by decide +kernel
theorem dX12_setDashes_35 : decode cX12_setDashes 35 = .ok (.iaload, 1) := by decide +kernel
theorem dX12_setDashes_36 : decode cX12_setDashes 36 = .ok (.istore_n 3, 1) := by decide +kernel
theorem dX12_setDashes_37 : decode cX12_setDashes 37 = .ok (.aload_n 0, 1) := by decide +kernel
theorem dX12_setDashes_38 : decode cX12_setDashes 38 = .ok (.getfield 7, 3) := by decide +kernel
theorem dX12_setDashes_41 : decode cX12_setDashes 41 = .ok (.bipush 6, 2) := by decide +kernel
theorem dX12_setDashes_43 : decode cX12_setDashes 43 = .ok (.iconst 0, 1) := by decide +kernel
theorem dX12_setDashes_44 : decode cX12_setDashes 44 = .ok (.iastore, 1) := by decide +kernel
theorem dX12_setDashes_45 : decode cX12_setDashes 45 = .ok (.aload_n 0, 1) := by decide +kernel
theorem dX12_setDashes_46 : decode cX12_setDashes 46 = .ok (.getfield 7, 3) := by decide +kernel
theorem dX12_setDashes_49 : decode cX12_setDashes 49 = .ok (.iconst 4, 1) := by decide +kernel
theorem dX12_setDashes_50 : decode cX12_setDashes 50 = .ok (.iload_n 1, 1) := by decide +kernel
theorem dX12_setDashes_51 : decode cX12_setDashes 51 = .ok (.iastore, 1) := by decide +kernel
theorem dX12_setDashes_52 : decode cX12_setDashes 52 = .ok (.aload_n 0, 1) := by decide +kernel
theorem dX12_setDashes_53 : decode cX12_setDashes 53 = .ok (.getfield 7, 3) := by decide +kernel
theorem dX12_setDashes_56 : decode cX12_setDashes 56 = .ok (.iconst 5, 1) := by decide +kernel
theorem dX12_setDashes_57 : decode cX12_setDashes 57 = .ok (.iload_n 2, 1) := by decide +kernel
theorem dX12_setDashes_58 : decode cX12_setDashes 58 = .ok (.ifCond .eq 7, 3) := by decide +kernel
theorem dX12_setDashes_61 : decode cX12_setDashes 61 = .ok (.iconst 1, 1) := by decide +kernel
theorem dX12_setDashes_62 : decode cX12_setDashes 62 = .ok (.goto 4, 3) := by decide +kernel
theorem dX12_setDashes_65 : decode cX12_setDashes 65 = .ok (.iconst 0, 1) := by decide +kernel
theorem dX12_setDashes_66 : decode cX12_setDashes 66 = .ok (.iastore, 1) := by decide +kernel
theorem dX12_setDashes_67 : decode cX12_setDashes 67 = .ok (.iload_n 3, 1) := by decide +kernel
theorem dX12_setDashes_68 : decode cX12_setDashes 68 = .ok (.ireturn, 1) := by decide +kernel
theorem dX12_addDash_0 : decode cX12_addDash 0 = .ok (.aload_n 0, 1) := by decide +kernel
theorem dX12_addDash_1 : decode cX12_addDash 1 = .ok (.iload_n 1, 1) := by decide +kernel
theorem dX12_addDash_2 : decode cX12_addDash 2 = .ok (.iconst 5, 1) := by decide +kernel
theorem dX12_addDash_3 : decode cX12_addDash 3 = .ok (.bipush 100, 2) := by decide +kernel
theorem dX12_addDash_5 : decode cX12_addDash 5 = .ok (.invokestatic 65, 3) := by decide +kernel
theorem dX12_addDash_8 : decode cX12_addDash 8 = .ok (.ifCond .ne 7, 3) := by decide +kernel
theorem dX12_addDash_11 : decode cX12_addDash 11 = .ok (.iconst 1, 1) := by decide +kernel
theorem dX12_addDash_12 : decode cX12_addDash 12 = .ok (.goto 20, 3) := by decide +kernel
theorem dX12_addDash_15 : decode cX12_addDash 15 = .ok (.aload_n 0, 1) := by decide +kernel
theorem dX12_addDash_16 : decode cX12_addDash 16 = .ok (.getfield 7, 3) := by decide +kernel
theorem dX12_addDash_19 : decode cX12_addDash 19 = .ok (.bipush 6, 2) := by decide +kernel
theorem dX12_addDash_21 : decode cX12_addDash 21 = .ok (.iaload, 1) := by decide +kernel
theorem dX12_addDash_22 : decode cX12_addDash 22 = .ok (.bipush 6, 2) := by decide +kernel
theorem dX12_addDash_24 : decode cX12_addDash 24 = .ok (.if_icmp .ne 7, 3) := by decide +kernel
theorem dX12_addDash_27 : decode cX12_addDash 27 = .ok (.iconst 2, 1) := by decide +kernel
theorem dX12_addDash_28 : decode cX12_addDash 28 = .ok (.goto 4, 3) := by decide +kernel
theorem dX12_addDash_31 : decode cX12_addDash 31 = .ok (.iconst 0, 1) := by decide +kernel
theorem dX12_addDash_32 : decode cX12_addDash 32 = .ok (.invokevirtual 76, 3) := by decide +kernel
theorem dX12_addDash_35 : decode cX12_addDash 35 = .ok (.ifCond .eq 5, 3) := by decide +kernel
theorem dX12_addDash_38 : decode cX12_addDash 38 = .ok (.iconst 0, 1) := by decide +kernel
theorem dX12_addDash_39 : decode cX12_addDash 39 = .ok (.ireturn, 1) := by decide +kernel
theorem dX12_addDash_40 : decode cX12_addDash 40 = .ok (.aload_n 0, 1) := by decide +kernel
theorem dX12_addDash_41 : decode cX12_addDash 41 = .ok (.invokevirtual 95, 3) := by decide +kernel
theorem dX12_addDash_44 : decode cX12_addDash 44 = .ok (.aload_n 0, 1) := by decide +kernel
theorem dX12_addDash_45 : decode cX12_addDash 45 = .ok (.getfield 7, 3) := by decide +kernel
theorem dX12_addDash_48 : decode cX12_addDash 48 = .ok (.bipush 7, 2) := by decide +kernel
theorem dX12_addDash_50 : decode cX12_addDash 50 = .ok (.aload_n 0, 1) := by decide +kernel
theorem dX12_addDash_51 : decode cX12_addDash 51 = .ok (.getfield 7, 3) := by decide +kernel
theorem dX12_addDash_54 : decode cX12_addDash 54 = .ok (.bipush 6, 2) := by decide +kernel
theorem dX12_addDash_56 : decode cX12_addDash 56 = .ok (.iaload, 1) := by decide +kernel
theorem dX12_addDash_57 : decode cX12_addDash 57 = .ok (.iadd, 1) := by decide +kernel
theorem dX12_addDash_58 : decode cX12_addDash 58 = .ok (.iload_n 1, 1) := by decide +kernel
theorem dX12_addDash_59 : decode cX12_addDash 59 = .ok (.iastore, 1) := by decide +kernel
theorem dX12_addDash_60 : decode cX12_addDash 60 = .ok (.aload_n 0, 1) := by decide +kernel
theorem dX12_addDash_61 : decode cX12_addDash 61 = .ok (.getfield 7, 3) := by decide +kernel
theorem dX12_addDash_64 : decode cX12_addDash 64 = .ok (.bipush 6, 2) := by decide +kernel
theorem dX12_addDash_66 : decode cX12_addDash 66 = .ok (.dup2, 1) := by decide +kernel
theorem dX12_addDash_67 : decode cX12_addDash 67 = .ok (.iaload, 1) := by decide +kernel
theorem dX12_addDash_68 : decode cX12_addDash 68 = .ok (.iconst 1, 1) := by decide +kernel
theorem dX12_addDash_69 : decode cX12_addDash 69 = .ok (.iadd, 1) := by decide +kernel
theorem dX12_addDash_70 : decode cX12_addDash 70 = .ok (.iastore, 1) := by decide +kernel
theorem dX12_addDash_71 : decode cX12_addDash 71 = .ok (.aload_n 0, 1) := by decide +kernel
theorem dX12_addDash_72 : decode cX12_addDash 72 = .ok (.getfield 7, 3) := by decide +kernel
theorem dX12_addDash_75 : decode cX12_addDash 75 = .ok (.bipush 6, 2) := by decide +kernel
theorem dX12_addDash_77 : decode cX12_addDash 77 = .ok (.iaload, 1) := by decide +kernel
theorem dX12_addDash_78 : decode cX12_addDash 78 = .ok (.ireturn, 1) := by decide +kernel
theorem dX12_stretch_0 : decode cX12_stretch 0 = .ok (.aload_n 0, 1) := by decide +kernel
theorem dX12_stretch_1 : decode cX12_stretch 1 = .ok (.getfield 7, 3) := by decide +kernel
theorem dX12_stretch_4 : decode cX12_stretch 4 = .ok (.bipush 6, 2) := by decide +kernel
theorem dX12_stretch_6 : decode cX12_stretch 6 = .ok (.iaload, 1) := by decide +kernel
theorem dX12_stretch_7 : decode cX12_stretch 7 = .ok (.istore_n 2, 1) := by decide +kernel
theorem dX12_stretch_8 : decode cX12_stretch 8 = .ok (.iconst 0, 1) := by decide +kernel
theorem dX12_stretch_9 : decode cX12_stretch 9 = .ok (.istore_n 3, 1) := by decide +kernel
theorem dX12_stretch_10 : decode cX12_stretch 10 = .ok (.iconst 0, 1) := by decide +kernel
theorem dX12_stretch_11 : decode cX12_stretch 11 = .ok (.istore 4, 2) := by decide +kernel
theorem dX12_stretch_13 : decode cX12_stretch 13 = .ok (.iload 4, 2) := by decide +kernel
theorem dX12_stretch_15 : decode cX12_stretch 15 = .ok (.iload_n 2, 1) := by decide +kernel
theorem dX12_stretch_16 : decode cX12_stretch 16 = .ok (.if_icmp .ge 25, 3) := by decide +kernel
theorem dX12_stretch_19 : decode cX12_stretch 19 = .ok (.iload_n 3, 1) := by decide +kernel
theorem dX12_stretch_20 : decode cX12_stretch 20 = .ok (.bipush 64, 2) := by decide +kernel
theorem dX12_stretch_22 : decode cX12_stretch 22 = .ok (.aload_n 0, 1) := by decide +kernel
theorem dX12_stretch_23 : decode cX12_stretch 23 = .ok (.getfield 7, 3) := by decide +kernel
theorem dX12_stretch_26 : decode cX12_stretch 26 = .ok (.bipush 7, 2) := by decide +kernel
theorem dX12_stretch_28 : decode cX12_stretch 28 = .ok (.iload 4, 2) := by decide +kernel
theorem dX12_stretch_30 : decode cX12_stretch 30 = .ok (.iadd, 1) := by decide +kernel
theorem dX12_stretch_31 : decode cX12_stretch 31 = .ok (.iaload, 1) := by decide +kernel
theorem dX12_stretch_32 : decode cX12_stretch 32 = .ok (.imul, 1) := by decide +kernel
theorem dX12_stretch_33 : decode cX12_stretch 33 = .ok (.iadd, 1) := by decide +kernel
theorem dX12_stretch_34 : decode cX12_stretch 34 = .ok (.istore_n 3, 1) := by decide +kernel
theorem dX12_stretch_35 : decode cX12_stretch 35 = .ok (.iinc 4 1, 3) := by decide +kernel
theorem dX12_stretch_38 : decode cX12_stretch 38 = .ok (.goto (-25), 3) := by decide +kernel
theorem dX12_stretch_41 : decode cX12_stretch 41 = .ok (.iload_n 1, 1) := by decide +kernel
theorem dX12_stretch_42 : decode cX12_stretch 42 = .ok (.iconst 2, 1) := by decide +kernel
theorem dX12_stretch_43 : decode cX12_stretch 43 = .ok (.iload_n 3, 1) := by decide +kernel
theorem dX12_stretch_44 : decode cX12_stretch 44 = .ok (.imul, 1) := by decide +kernel
theorem dX12_stretch_45 : decode cX12_stretch 45 = .ok (.irem, 1) := by decide +kernel
theorem dX12_stretch_46 : decode cX12_stretch 46 = .ok (.istore 4, 2) := by decide +kernel
theorem dX12_stretch_48 : decode cX12_stretch 48 = .ok (.iconst 0, 1) := by decide +kernel
theorem dX12_stretch_49 : decode cX12_stretch 49 = .ok (.istore 5, 2) := by decide +kernel
theorem dX12_stretch_51 : decode cX12_stretch 51 = .ok (.iload 4, 2) := by decide +kernel
theorem dX12_stretch_53 : decode cX12_stretch 53 = .ok (.bipush 64, 2) := by decide +kernel
theorem dX12_stretch_55 : decode cX12_stretch 55 = .ok (.aload_n 0, 1) := by decide +kernel
theorem dX12_stretch_56 : decode cX12_stretch 56 = .ok (.getfield 7, 3) := by decide +kernel
theorem dX12_stretch_59 : decode cX12_stretch 59 = .ok (.bipush 7, 2) := by decide +kernel
theorem dX12_stretch_61 : decode cX12_stretch 61 = .ok (.iload 5, 2) := by decide +kernel
theorem dX12_stretch_63 : decode cX12_stretch 63 = .ok (.iload_n 2, 1) := by decide +kernel
theorem dX12_stretch_64 : decode cX12_stretch 64 = .ok (.irem, 1) := by decide +kernel
theorem dX12_stretch_65 : decode cX12_stretch 65 = .ok (.iadd, 1) := by decide +kernel
theorem dX12_stretch_66 : decode cX12_stretch 66 = .ok (.iaload, 1) := by decide +kernel
theorem dX12_stretch_67 : decode cX12_stretch 67 = .ok (.imul, 1) := by decide +kernel
theorem dX12_stretch_68 : decode cX12_stretch 68 = .ok (.if_icmp .lt 29, 3) := by decide +kernel
theorem dX12_stretch_71 : decode cX12_stretch 71 = .ok (.iload 4, 2) := by decide +kernel
theorem dX12_stretch_73 : decode cX12_stretch 73 = .ok (.bipush 64, 2) := by decide +kernel
theorem dX12_stretch_75 : decode cX12_stretch 75 = .ok (.aload_n 0, 1) := by decide +kernel
theorem dX12_stretch_76 : decode cX12_stretch 76 = .ok (.getfield 7, 3) := by decide +kernel
theorem dX12_stretch_79 : decode cX12_stretch 79 = .ok (.bipush 7, 2) := by decide +kernel
theorem dX12_stretch_81 : decode cX12_stretch 81 = .ok (.iload 5, 2) := by decide +kernel
theorem dX12_stretch_83 : decode cX12_stretch 83 = .ok (.iload_n 2, 1) := by decide +kernel
theorem dX12_stretch_84 : decode cX12_stretch 84 = .ok (.irem, 1) := by decide +kernel
theorem dX12_stretch_85 : decode cX12_stretch 85 = .ok (.iadd, 1) := by decide +kernel
theorem dX12_stretch_86 : decode cX12_stretch 86 = .ok (.iaload, 1) := by decide +kernel
theorem dX12_stretch_87 : decode cX12_stretch 87 = .ok (.imul, 1) := by decide +kernel
theorem dX12_stretch_88 : decode cX12_stretch 88 = .ok (.isub, 1) := by decide +kernel
theorem dX12_stretch_89 : decode cX12_stretch 89 = .ok (.istore 4, 2) := by decide +kernel
theorem dX12_stretch_91 : decode cX12_stretch 91 = .ok (.iinc 5 1, 3) := by decide +kernel
theorem dX12_stretch_94 : decode cX12_stretch 94 = .ok (.goto (-43), 3) := by decide +kernel
theorem dX12_stretch_97 : decode cX12_stretch 97 = .ok (.bipush 64, 2) := by decide +kernel
theorem dX12_stretch_99 : decode cX12_stretch 99 = .ok (.aload_n 0, 1) := by decide +kernel
theorem dX12_stretch_100 : decode cX12_stretch 100 = .ok (.getfield 7, 3) := by decide +kernel
theorem dX12_stretch_103 : decode cX12_stretch 103 = .ok (.bipush 7, 2) := by decide +kernel
theorem dX12_stretch_105 : decode cX12_stretch 105 = .ok (.iload 5, 2) := by decide +kernel
theorem dX12_stretch_107 : decode cX12_stretch 107 = .ok (.iload_n 2, 1) := by decide +kernel
theorem dX12_stretch_108 : decode cX12_stretch 108 = .ok (.irem, 1) := by decide +kernel
theorem dX12_stretch_109 : decode cX12_stretch 109 = .ok (.iadd, 1) := by decide +kernel
theorem dX12_stretch_110 : decode cX12_stretch 110 = .ok (.iaload, 1) := by decide +kernel
theorem dX12_stretch_111 : decode cX12_stretch 111 = .ok (.imul, 1) := by decide +kernel
theorem dX12_stretch_112 : decode cX12_stretch 112 = .ok (.iload 4, 2) := by decide +kernel
theorem dX12_stretch_114 : decode cX12_stretch 114 = .ok (.isub, 1) := by decide +kernel
theorem dX12_stretch_115 : decode cX12_stretch 115 = .ok (.istore 6, 2) := by decide +kernel
theorem dX12_stretch_117 : decode cX12_stretch 117 = .ok (.iload 5, 2) := by decide +kernel
theorem dX12_stretch_119 : decode cX12_stretch 119 = .ok (.iconst 2, 1) := by decide +kernel
theorem dX12_stretch_120 : decode cX12_stretch 120 = .ok (.irem, 1) := by decide +kernel
theorem dX12_stretch_121 : decode cX12_stretch 121 = .ok (.ifCond .ne 8, 3) := by decide +kernel
theorem dX12_stretch_124 : decode cX12_stretch 124 = .ok (.iload 6, 2) := by decide +kernel
theorem dX12_stretch_126 : decode cX12_stretch 126 = .ok (.goto 6, 3) := by decide +kernel
theorem dX12_stretch_129 : decode cX12_stretch 129 = .ok (.iload 6, 2) := by decide +kernel
theorem dX12_stretch_131 : decode cX12_stretch 131 = .ok (.ineg, 1) := by decide +kernel
theorem dX12_stretch_132 : decode cX12_stretch 132 = .ok (.ireturn, 1) := by decide +kernel
theorem dX12_ahead_0 : decode cX12_ahead 0 = .ok (.iconst 0, 1) := by decide +kernel
theorem dX12_ahead_1 : decode cX12_ahead 1 = .ok (.istore_n 2, 1) := by decide +kernel
theorem dX12_ahead_2 : decode cX12_ahead 2 = .ok (.iconst 0, 1) := by decide +kernel
theorem dX12_ahead_3 : decode cX12_ahead 3 = .ok (.istore_n 3, 1) := by decide +kernel
theorem dX12_ahead_4 : decode cX12_ahead 4 = .ok (.iload_n 3, 1) := by decide +kernel
theorem dX12_ahead_5 : decode cX12_ahead 5 = .ok (.iload_n 1, 1) := by decide +kernel
theorem dX12_ahead_6 : decode cX12_ahead 6 = .ok (.if_icmp .ge 21, 3) := by decide +kernel
theorem dX12_ahead_9 : decode cX12_ahead 9 = .ok (.aload_n 0, 1) := by decide +kernel
theorem dX12_ahead_10 : decode cX12_ahead 10 = .ok (.iload_n 3, 1) := by decide +kernel
theorem dX12_ahead_11 : decode cX12_ahead 11 = .ok (.invokevirtual 112, 3) := by decide +kernel
theorem dX12_ahead_14 : decode cX12_ahead 14 = .ok (.iload_n 2, 1) := by decide +kernel
theorem dX12_ahead_15 : decode cX12_ahead 15 = .ok (.aload_n 0, 1) := by decide +kernel
theorem dX12_ahead_16 : decode cX12_ahead 16 = .ok (.getfield 142, 3) := by decide +kernel
theorem dX12_ahead_19 : decode cX12_ahead 19 = .ok (.iadd, 1) := by decide +kernel
theorem dX12_ahead_20 : decode cX12_ahead 20 = .ok (.istore_n 2, 1) := by decide +kernel
theorem dX12_ahead_21 : decode cX12_ahead 21 = .ok (.iinc 3 1, 3) := by decide +kernel
theorem dX12_ahead_24 : decode cX12_ahead 24 = .ok (.goto (-20), 3) := by decide +kernel
theorem dX12_ahead_27 : decode cX12_ahead 27 = .ok (.iload_n 2, 1) := by decide +kernel
theorem dX12_ahead_28 : decode cX12_ahead 28 = .ok (.ireturn, 1) := by decide +kernel
theorem dX12_laysRuns_0 : decode cX12_laysRuns 0 = .ok (.bipush 64, 2) := by decide +kernel
theorem dX12_laysRuns_2 : decode cX12_laysRuns 2 = .ok (.aload_n 0, 1) := by decide +kernel
theorem dX12_laysRuns_3 : decode cX12_laysRuns 3 = .ok (.getfield 7, 3) := by decide +kernel
theorem dX12_laysRuns_6 : decode cX12_laysRuns 6 = .ok (.iconst 4, 1) := by decide +kernel
theorem dX12_laysRuns_7 : decode cX12_laysRuns 7 = .ok (.iaload, 1) := by decide +kernel
theorem dX12_laysRuns_8 : decode cX12_laysRuns 8 = .ok (.imul, 1) := by decide +kernel
theorem dX12_laysRuns_9 : decode cX12_laysRuns 9 = .ok (.aload_n 0, 1) := by decide +kernel
theorem dX12_laysRuns_10 : decode cX12_laysRuns 10 = .ok (.getfield 7, 3) := by decide +kernel
theorem dX12_laysRuns_13 : decode cX12_laysRuns 13 = .ok (.iconst 5, 1) := by decide +kernel
theorem dX12_laysRuns_14 : decode cX12_laysRuns 14 = .ok (.iaload, 1) := by decide +kernel
theorem dX12_laysRuns_15 : decode cX12_laysRuns 15 = .ok (.iconst 1, 1) := by decide +kernel
theorem dX12_laysRuns_16 : decode cX12_laysRuns 16 = .ok (.if_icmp .ne 11, 3) := by decide +kernel
theorem dX12_laysRuns_19 : decode cX12_laysRuns 19 = .ok (.aload_n 0, 1) := by decide +kernel
theorem dX12_laysRuns_20 : decode cX12_laysRuns 20 = .ok (.iload_n 1, 1) := by decide +kernel
theorem dX12_laysRuns_21 : decode cX12_laysRuns 21 = .ok (.invokevirtual 166, 3) := by decide +kernel
theorem dX12_laysRuns_24 : decode cX12_laysRuns 24 = .ok (.goto 4, 3) := by decide +kernel
theorem dX12_laysRuns_27 : decode cX12_laysRuns 27 = .ok (.iconst 0, 1) := by decide +kernel
theorem dX12_laysRuns_28 : decode cX12_laysRuns 28 = .ok (.iadd, 1) := by decide +kernel
theorem dX12_laysRuns_29 : decode cX12_laysRuns 29 = .ok (.istore_n 2, 1) := by decide +kernel
theorem dX12_laysRuns_30 : decode cX12_laysRuns 30 = .ok (.aload_n 0, 1) := by decide +kernel
theorem dX12_laysRuns_31 : decode cX12_laysRuns 31 = .ok (.iload_n 1, 1) := by decide +kernel
theorem dX12_laysRuns_32 : decode cX12_laysRuns 32 = .ok (.invokevirtual 112, 3) := by decide +kernel
theorem dX12_laysRuns_35 : decode cX12_laysRuns 35 = .ok (.aload_n 0, 1) := by decide +kernel
theorem dX12_laysRuns_36 : decode cX12_laysRuns 36 = .ok (.iconst 0, 1) := by decide +kernel
theorem dX12_laysRuns_37 : decode cX12_laysRuns 37 = .ok (.putfield 169, 3) := by decide +kernel
theorem dX12_laysRuns_40 : decode cX12_laysRuns 40 = .ok (.aload_n 0, 1) := by decide +kernel
theorem dX12_laysRuns_41 : decode cX12_laysRuns 41 = .ok (.iconst 0, 1) := by decide +kernel
theorem dX12_laysRuns_42 : decode cX12_laysRuns 42 = .ok (.putfield 172, 3) := by decide +kernel
theorem dX12_laysRuns_45 : decode cX12_laysRuns 45 = .ok (.iconst 0, 1) := by decide +kernel
theorem dX12_laysRuns_46 : decode cX12_laysRuns 46 = .ok (.istore_n 3, 1) := by decide +kernel
theorem dX12_laysRuns_47 : decode cX12_laysRuns 47 = .ok (.iload_n 3, 1) := by decide +kernel
theorem dX12_laysRuns_48 : decode cX12_laysRuns 48 = .ok (.aload_n 0, 1) := by decide +kernel
theorem dX12_laysRuns_49 : decode cX12_laysRuns 49 = .ok (.getfield 142, 3) := by decide +kernel
theorem dX12_laysRuns_52 : decode cX12_laysRuns 52 = .ok (.if_icmp .ge 112, 3) := by decide +kernel
theorem dX12_laysRuns_55 : decode cX12_laysRuns 55 = .ok (.aload_n 0, 1) := by decide +kernel
theorem dX12_laysRuns_56 : decode cX12_laysRuns 56 = .ok (.getfield 7, 3) := by decide +kernel
theorem dX12_laysRuns_59 : decode cX12_laysRuns 59 = .ok (.bipush 6, 2) := by decide +kernel
theorem dX12_laysRuns_61 : decode cX12_laysRuns 61 = .ok (.iaload, 1) := by decide +kernel
theorem dX12_laysRuns_62 : decode cX12_laysRuns 62 = .ok (.ifCond .ne 10, 3) := by decide +kernel
theorem dX12_laysRuns_65 : decode cX12_laysRuns 65 = .ok (.aload_n 0, 1) := by decide +kernel
theorem dX12_laysRuns_66 : decode cX12_laysRuns 66 = .ok (.getfield 142, 3) := by decide +kernel
theorem dX12_laysRuns_69 : decode cX12_laysRuns 69 = .ok (.goto 10, 3) := by decide +kernel
theorem dX12_laysRuns_72 : decode cX12_laysRuns 72 = .ok (.aload_n 0, 1) := by decide +kernel
theorem dX12_laysRuns_73 : decode cX12_laysRuns 73 = .ok (.iload_n 2, 1) := by decide +kernel
theorem dX12_laysRuns_74 : decode cX12_laysRuns 74 = .ok (.iload_n 3, 1) := by decide +kernel
theorem dX12_laysRuns_75 : decode cX12_laysRuns 75 = .ok (.iadd, 1) := by decide +kernel
theorem dX12_laysRuns_76 : decode cX12_laysRuns 76 = .ok (.invokevirtual 176, 3) := by decide +kernel
theorem dX12_laysRuns_79 : decode cX12_laysRuns 79 = .ok (.istore 4, 2) := by decide +kernel
theorem dX12_laysRuns_81 : decode cX12_laysRuns 81 = .ok (.iload 4, 2) := by decide +kernel
theorem dX12_laysRuns_83 : decode cX12_laysRuns 83 = .ok (.ifCond .ge 9, 3) := by decide +kernel
theorem dX12_laysRuns_86 : decode cX12_laysRuns 86 = .ok (.iload 4, 2) := by decide +kernel
theorem dX12_laysRuns_88 : decode cX12_laysRuns 88 = .ok (.ineg, 1) := by decide +kernel
theorem dX12_laysRuns_89 : decode cX12_laysRuns 89 = .ok (.goto 5, 3) := by decide +kernel
theorem dX12_laysRuns_92 : decode cX12_laysRuns 92 = .ok (.iload 4, 2) := by decide +kernel
theorem dX12_laysRuns_94 : decode cX12_laysRuns 94 = .ok (.istore 5, 2) := by decide +kernel
theorem dX12_laysRuns_96 : decode cX12_laysRuns 96 = .ok (.iload 5, 2) := by decide +kernel
theorem dX12_laysRuns_98 : decode cX12_laysRuns 98 = .ok (.aload_n 0, 1) := by decide +kernel
theorem dX12_laysRuns_99 : decode cX12_laysRuns 99 = .ok (.getfield 142, 3) := by decide +kernel
theorem dX12_laysRuns_102 : decode cX12_laysRuns 102 = .ok (.iload_n 3, 1) := by decide +kernel
theorem dX12_laysRuns_103 : decode cX12_laysRuns 103 = .ok (.isub, 1) := by decide +kernel
theorem dX12_laysRuns_104 : decode cX12_laysRuns 104 = .ok (.if_icmp .ge 8, 3) := by decide +kernel
theorem dX12_laysRuns_107 : decode cX12_laysRuns 107 = .ok (.iload 5, 2) := by decide +kernel
theorem dX12_laysRuns_109 : decode cX12_laysRuns 109 = .ok (.goto 9, 3) := by decide +kernel
theorem dX12_laysRuns_112 : decode cX12_laysRuns 112 = .ok (.aload_n 0, 1) := by decide +kernel
theorem dX12_laysRuns_113 : decode cX12_laysRuns 113 = .ok (.getfield 142, 3) := by decide +kernel
theorem dX12_laysRuns_116 : decode cX12_laysRuns 116 = .ok (.iload_n 3, 1) := by decide +kernel
theorem dX12_laysRuns_117 : decode cX12_laysRuns 117 = .ok (.isub, 1) := by decide +kernel
theorem dX12_laysRuns_118 : decode cX12_laysRuns 118 = .ok (.istore 5, 2) := by decide +kernel
theorem dX12_laysRuns_120 : decode cX12_laysRuns 120 = .ok (.iload 4, 2) := by decide +kernel
theorem dX12_laysRuns_122 : decode cX12_laysRuns 122 = .ok (.ifCond .le 34, 3) := by decide +kernel
theorem dX12_laysRuns_125 : decode cX12_laysRuns 125 = .ok (.aload_n 0, 1) := by decide +kernel
theorem dX12_laysRuns_126 : decode cX12_laysRuns 126 = .ok (.getfield 37, 3) := by decide +kernel
theorem dX12_laysRuns_129 : decode cX12_laysRuns 129 = .ok (.aload_n 0, 1) := by decide +kernel
theorem dX12_laysRuns_130 : decode cX12_laysRuns 130 = .ok (.getfield 169, 3) := by decide +kernel
theorem dX12_laysRuns_133 : decode cX12_laysRuns 133 = .ok (.iload_n 3, 1) := by decide +kernel
theorem dX12_laysRuns_134 : decode cX12_laysRuns 134 = .ok (.iastore, 1) := by decide +kernel
theorem dX12_laysRuns_135 : decode cX12_laysRuns 135 = .ok (.aload_n 0, 1) := by decide +kernel
theorem dX12_laysRuns_136 : decode cX12_laysRuns 136 = .ok (.getfield 40, 3) := by decide +kernel
theorem dX12_laysRuns_139 : decode cX12_laysRuns 139 = .ok (.aload_n 0, 1) := by decide +kernel
theorem dX12_laysRuns_140 : decode cX12_laysRuns 140 = .ok (.getfield 169, 3) := by decide +kernel
theorem dX12_laysRuns_143 : decode cX12_laysRuns 143 = .ok (.iload 5, 2) := by decide +kernel
theorem dX12_laysRuns_145 : decode cX12_laysRuns 145 = .ok (.iastore, 1) := by decide +kernel
theorem dX12_laysRuns_146 : decode cX12_laysRuns 146 = .ok (.aload_n 0, 1) := by decide +kernel
theorem dX12_laysRuns_147 : decode cX12_laysRuns 147 = .ok (.dup, 1) := by decide +kernel
theorem dX12_laysRuns_148 : decode cX12_laysRuns 148 = .ok (.getfield 169, 3) := by decide +kernel
theorem dX12_laysRuns_151 : decode cX12_laysRuns 151 = .ok (.iconst 1, 1) := by decide +kernel
theorem dX12_laysRuns_152 : decode cX12_laysRuns 152 = .ok (.iadd, 1) := by decide +kernel
theorem dX12_laysRuns_153 : decode cX12_laysRuns 153 = .ok (.putfield 169, 3) := by decide +kernel
theorem dX12_laysRuns_156 : decode cX12_laysRuns 156 = .ok (.iload_n 3, 1) := by decide +kernel
theorem dX12_laysRuns_157 : decode cX12_laysRuns 157 = .ok (.iload 5, 2) := by decide +kernel
theorem dX12_laysRuns_159 : decode cX12_laysRuns 159 = .ok (.iadd, 1) := by decide +kernel
theorem dX12_laysRuns_160 : decode cX12_laysRuns 160 = .ok (.istore_n 3, 1) := by decide +kernel
theorem dX12_laysRuns_161 : decode cX12_laysRuns 161 = .ok (.goto (-114), 3) := by decide +kernel
theorem dX12_laysRuns_164 : decode cX12_laysRuns 164 = .ok (.aload_n 0, 1) := by decide +kernel
theorem dX12_laysRuns_165 : decode cX12_laysRuns 165 = .ok (.iload_n 1, 1) := by decide +kernel
theorem dX12_laysRuns_166 : decode cX12_laysRuns 166 = .ok (.invokevirtual 102, 3) := by decide +kernel
theorem dX12_laysRuns_169 : decode cX12_laysRuns 169 = .ok (.ifCond .eq 53, 3) := by decide +kernel
theorem dX12_laysRuns_172 : decode cX12_laysRuns 172 = .ok (.aload_n 0, 1) := by decide +kernel
theorem dX12_laysRuns_173 : decode cX12_laysRuns 173 = .ok (.getfield 169, 3) := by decide +kernel
theorem dX12_laysRuns_176 : decode cX12_laysRuns 176 = .ok (.ifCond .le 46, 3) := by decide +kernel
theorem dX12_laysRuns_179 : decode cX12_laysRuns 179 = .ok (.aload_n 0, 1) := by decide +kernel
theorem dX12_laysRuns_180 : decode cX12_laysRuns 180 = .ok (.getfield 37, 3) := by decide +kernel
theorem dX12_laysRuns_183 : decode cX12_laysRuns 183 = .ok (.iconst 0, 1) := by decide +kernel
theorem dX12_laysRuns_184 : decode cX12_laysRuns 184 = .ok (.iaload, 1) := by decide +kernel
theorem dX12_laysRuns_185 : decode cX12_laysRuns 185 = .ok (.ifCond .ne 37, 3) := by decide +kernel
theorem dX12_laysRuns_188 : decode cX12_laysRuns 188 = .ok (.aload_n 0, 1) := by decide +kernel
theorem dX12_laysRuns_189 : decode cX12_laysRuns 189 = .ok (.getfield 37, 3) := by decide +kernel
theorem dX12_laysRuns_192 : decode cX12_laysRuns 192 = .ok (.aload_n 0, 1) := by decide +kernel
theorem dX12_laysRuns_193 : decode cX12_laysRuns 193 = .ok (.getfield 169, 3) := by decide +kernel
theorem dX12_laysRuns_196 : decode cX12_laysRuns 196 = .ok (.iconst 1, 1) := by decide +kernel
theorem dX12_laysRuns_197 : decode cX12_laysRuns 197 = .ok (.isub, 1) := by decide +kernel
theorem dX12_laysRuns_198 : decode cX12_laysRuns 198 = .ok (.iaload, 1) := by decide +kernel
theorem dX12_laysRuns_199 : decode cX12_laysRuns 199 = .ok (.aload_n 0, 1) := by decide +kernel
theorem dX12_laysRuns_200 : decode cX12_laysRuns 200 = .ok (.getfield 40, 3) := by decide +kernel
theorem dX12_laysRuns_203 : decode cX12_laysRuns 203 = .ok (.aload_n 0, 1) := by decide +kernel
theorem dX12_laysRuns_204 : decode cX12_laysRuns 204 = .ok (.getfield 169, 3) := by decide +kernel
theorem dX12_laysRuns_207 : decode cX12_laysRuns 207 = .ok (.iconst 1, 1) := by decide +kernel
theorem dX12_laysRuns_208 : decode cX12_laysRuns 208 = .ok (.isub, 1) := by decide +kernel
theorem dX12_laysRuns_209 : decode cX12_laysRuns 209 = .ok (.iaload, 1) := by decide +kernel
theorem dX12_laysRuns_210 : decode cX12_laysRuns 210 = .ok (.iadd, 1) := by decide +kernel
theorem dX12_laysRuns_211 : decode cX12_laysRuns 211 = .ok (.aload_n 0, 1) := by decide +kernel
theorem dX12_laysRuns_212 : decode cX12_laysRuns 212 = .ok (.getfield 142, 3) := by decide +kernel
theorem dX12_laysRuns_215 : decode cX12_laysRuns 215 = .ok (.if_icmp .ne 7, 3) := by decide +kernel
theorem dX12_laysRuns_218 : decode cX12_laysRuns 218 = .ok (.iconst 1, 1) := by decide +kernel
theorem dX12_laysRuns_219 : decode cX12_laysRuns 219 = .ok (.goto 4, 3) := by decide +kernel
theorem dX12_laysRuns_222 : decode cX12_laysRuns 222 = .ok (.iconst 0, 1) := by decide +kernel
theorem dX12_laysRuns_223 : decode cX12_laysRuns 223 = .ok (.istore 4, 2) := by decide +kernel
theorem dX12_laysRuns_225 : decode cX12_laysRuns 225 = .ok (.aload_n 0, 1) := by decide +kernel
theorem dX12_laysRuns_226 : decode cX12_laysRuns 226 = .ok (.iload 4, 2) := by decide +kernel
theorem dX12_laysRuns_228 : decode cX12_laysRuns 228 = .ok (.ifCond .eq 15, 3) := by decide +kernel
theorem dX12_laysRuns_231 : decode cX12_laysRuns 231 = .ok (.aload_n 0, 1) := by decide +kernel
theorem dX12_laysRuns_232 : decode cX12_laysRuns 232 = .ok (.getfield 169, 3) := by decide +kernel
theorem dX12_laysRuns_235 : decode cX12_laysRuns 235 = .ok (.iconst 1, 1) := by decide +kernel
theorem dX12_laysRuns_236 : decode cX12_laysRuns 236 = .ok (.if_icmp .ne 7, 3) := by decide +kernel
theorem dX12_laysRuns_239 : decode cX12_laysRuns 239 = .ok (.iconst 1, 1) := by decide +kernel
theorem dX12_laysRuns_240 : decode cX12_laysRuns 240 = .ok (.goto 4, 3) := by decide +kernel
theorem dX12_laysRuns_243 : decode cX12_laysRuns 243 = .ok (.iconst 0, 1) := by decide +kernel
theorem dX12_laysRuns_244 : decode cX12_laysRuns 244 = .ok (.putfield 172, 3) := by decide +kernel
theorem dX12_laysRuns_247 : decode cX12_laysRuns 247 = .ok (.iload 4, 2) := by decide +kernel
theorem dX12_laysRuns_249 : decode cX12_laysRuns 249 = .ok (.ifCond .eq 54, 3) := by decide +kernel
theorem dX12_laysRuns_252 : decode cX12_laysRuns 252 = .ok (.aload_n 0, 1) := by decide +kernel
theorem dX12_laysRuns_253 : decode cX12_laysRuns 253 = .ok (.getfield 169, 3) := by decide +kernel
theorem dX12_laysRuns_256 : decode cX12_laysRuns 256 = .ok (.iconst 1, 1) := by decide +kernel
theorem dX12_laysRuns_257 : decode cX12_laysRuns 257 = .ok (.if_icmp .le 46, 3) := by decide +kernel
theorem dX12_laysRuns_260 : decode cX12_laysRuns 260 = .ok (.aload_n 0, 1) := by decide +kernel
theorem dX12_laysRuns_261 : decode cX12_laysRuns 261 = .ok (.dup, 1) := by decide +kernel
theorem dX12_laysRuns_262 : decode cX12_laysRuns 262 = .ok (.getfield 169, 3) := by decide +kernel
theorem dX12_laysRuns_265 : decode cX12_laysRuns 265 = .ok (.iconst 1, 1) := by decide +kernel
theorem dX12_laysRuns_266 : decode cX12_laysRuns 266 = .ok (.isub, 1) := by decide +kernel
theorem dX12_laysRuns_267 : decode cX12_laysRuns 267 = .ok (.putfield 169, 3) := by decide +kernel
theorem dX12_laysRuns_270 : decode cX12_laysRuns 270 = .ok (.aload_n 0, 1) := by decide +kernel
theorem dX12_laysRuns_271 : decode cX12_laysRuns 271 = .ok (.getfield 37, 3) := by decide +kernel
theorem dX12_laysRuns_274 : decode cX12_laysRuns 274 = .ok (.iconst 0, 1) := by decide +kernel
theorem dX12_laysRuns_275 : decode cX12_laysRuns 275 = .ok (.aload_n 0, 1) := by decide +kernel
theorem dX12_laysRuns_276 : decode cX12_laysRuns 276 = .ok (.getfield 37, 3) := by decide +kernel
theorem dX12_laysRuns_279 : decode cX12_laysRuns 279 = .ok (.aload_n 0, 1) := by decide +kernel
theorem dX12_laysRuns_280 : decode cX12_laysRuns 280 = .ok (.getfield 169, 3) := by decide +kernel
theorem dX12_laysRuns_283 : decode cX12_laysRuns 283 = .ok (.iaload, 1) := by decide +kernel
theorem dX12_laysRuns_284 : decode cX12_laysRuns 284 = .ok (.iastore, 1) := by decide +kernel
theorem dX12_laysRuns_285 : decode cX12_laysRuns 285 = .ok (.aload_n 0, 1) := by decide +kernel
theorem dX12_laysRuns_286 : decode cX12_laysRuns 286 = .ok (.getfield 40, 3) := by decide +kernel
theorem dX12_laysRuns_289 : decode cX12_laysRuns 289 = .ok (.iconst 0, 1) := by decide +kernel
theorem dX12_laysRuns_290 : decode cX12_laysRuns 290 = .ok (.dup2, 1) := by decide +kernel
theorem dX12_laysRuns_291 : decode cX12_laysRuns 291 = .ok (.iaload, 1) := by decide +kernel
theorem dX12_laysRuns_292 : decode cX12_laysRuns 292 = .ok (.aload_n 0, 1) := by decide +kernel
theorem dX12_laysRuns_293 : decode cX12_laysRuns 293 = .ok (.getfield 40, 3) := by decide +kernel
theorem dX12_laysRuns_296 : decode cX12_laysRuns 296 = .ok (.aload_n 0, 1) := by decide +kernel
theorem dX12_laysRuns_297 : decode cX12_laysRuns 297 = .ok (.getfield 169, 3) := by decide +kernel
theorem dX12_laysRuns_300 : decode cX12_laysRuns 300 = .ok (.iaload, 1) := by decide +kernel
theorem dX12_laysRuns_301 : decode cX12_laysRuns 301 = .ok (.iadd, 1) := by decide +kernel
theorem dX12_laysRuns_302 : decode cX12_laysRuns 302 = .ok (.iastore, 1) := by decide +kernel
theorem dX12_laysRuns_303 : decode cX12_laysRuns 303 = .ok (.return_, 1) := by decide +kernel
theorem dX12_cutsFrom_0 : decode cX12_cutsFrom 0 = .ok (.iconst 0, 1) := by decide +kernel
theorem dX12_cutsFrom_1 : decode cX12_cutsFrom 1 = .ok (.istore_n 3, 1) := by decide +kernel
theorem dX12_cutsFrom_2 : decode cX12_cutsFrom 2 = .ok (.iload_n 3, 1) := by decide +kernel
theorem dX12_cutsFrom_3 : decode cX12_cutsFrom 3 = .ok (.aload_n 0, 1) := by decide +kernel
theorem dX12_cutsFrom_4 : decode cX12_cutsFrom 4 = .ok (.getfield 116, 3) := by decide +kernel
theorem dX12_cutsFrom_7 : decode cX12_cutsFrom 7 = .ok (.if_icmp .ge 118, 3) := by decide +kernel
theorem dX12_cutsFrom_10 : decode cX12_cutsFrom 10 = .ok (.iload_n 1, 1) := by decide +kernel
theorem dX12_cutsFrom_11 : decode cX12_cutsFrom 11 = .ok (.aload_n 0, 1) := by decide +kernel
theorem dX12_cutsFrom_12 : decode cX12_cutsFrom 12 = .ok (.getfield 34, 3) := by decide +kernel
theorem dX12_cutsFrom_15 : decode cX12_cutsFrom 15 = .ok (.iload_n 3, 1) := by decide +kernel
theorem dX12_cutsFrom_16 : decode cX12_cutsFrom 16 = .ok (.iaload, 1) := by decide +kernel
theorem dX12_cutsFrom_17 : decode cX12_cutsFrom 17 = .ok (.if_icmp .le 14, 3) := by decide +kernel
theorem dX12_cutsFrom_20 : decode cX12_cutsFrom 20 = .ok (.iload_n 1, 1) := by decide +kernel
theorem dX12_cutsFrom_21 : decode cX12_cutsFrom 21 = .ok (.aload_n 0, 1) := by decide +kernel
theorem dX12_cutsFrom_22 : decode cX12_cutsFrom 22 = .ok (.getfield 34, 3) := by decide +kernel
theorem dX12_cutsFrom_25 : decode cX12_cutsFrom 25 = .ok (.iload_n 3, 1) := by decide +kernel
theorem dX12_cutsFrom_26 : decode cX12_cutsFrom 26 = .ok (.iaload, 1) := by decide +kernel
theorem dX12_cutsFrom_27 : decode cX12_cutsFrom 27 = .ok (.isub, 1) := by decide +kernel
theorem dX12_cutsFrom_28 : decode cX12_cutsFrom 28 = .ok (.goto 4, 3) := by decide +kernel
theorem dX12_cutsFrom_31 : decode cX12_cutsFrom 31 = .ok (.iconst 0, 1) := by decide +kernel
theorem dX12_cutsFrom_32 : decode cX12_cutsFrom 32 = .ok (.istore 4, 2) := by decide +kernel
theorem dX12_cutsFrom_34 : decode cX12_cutsFrom 34 = .ok (.iload_n 2, 1) := by decide +kernel
theorem dX12_cutsFrom_35 : decode cX12_cutsFrom 35 = .ok (.aload_n 0, 1) := by decide +kernel
theorem dX12_cutsFrom_36 : decode cX12_cutsFrom 36 = .ok (.getfield 34, 3) := by decide +kernel
theorem dX12_cutsFrom_39 : decode cX12_cutsFrom 39 = .ok (.iload_n 3, 1) := by decide +kernel
theorem dX12_cutsFrom_40 : decode cX12_cutsFrom 40 = .ok (.iaload, 1) := by decide +kernel
theorem dX12_cutsFrom_41 : decode cX12_cutsFrom 41 = .ok (.aload_n 0, 1) := by decide +kernel
theorem dX12_cutsFrom_42 : decode cX12_cutsFrom 42 = .ok (.getfield 31, 3) := by decide +kernel
theorem dX12_cutsFrom_45 : decode cX12_cutsFrom 45 = .ok (.iload_n 3, 1) := by decide +kernel
theorem dX12_cutsFrom_46 : decode cX12_cutsFrom 46 = .ok (.iaload, 1) := by decide +kernel
theorem dX12_cutsFrom_47 : decode cX12_cutsFrom 47 = .ok (.iadd, 1) := by decide +kernel
theorem dX12_cutsFrom_48 : decode cX12_cutsFrom 48 = .ok (.if_icmp .ge 14, 3) := by decide +kernel
theorem dX12_cutsFrom_51 : decode cX12_cutsFrom 51 = .ok (.iload_n 2, 1) := by decide +kernel
theorem dX12_cutsFrom_52 : decode cX12_cutsFrom 52 = .ok (.aload_n 0, 1) := by decide +kernel
theorem dX12_cutsFrom_53 : decode cX12_cutsFrom 53 = .ok (.getfield 34, 3) := by decide +kernel
theorem dX12_cutsFrom_56 : decode cX12_cutsFrom 56 = .ok (.iload_n 3, 1) := by decide +kernel
theorem dX12_cutsFrom_57 : decode cX12_cutsFrom 57 = .ok (.iaload, 1) := by decide +kernel
theorem dX12_cutsFrom_58 : decode cX12_cutsFrom 58 = .ok (.isub, 1) := by decide +kernel
theorem dX12_cutsFrom_59 : decode cX12_cutsFrom 59 = .ok (.goto 9, 3) := by decide +kernel
theorem dX12_cutsFrom_62 : decode cX12_cutsFrom 62 = .ok (.aload_n 0, 1) := by decide +kernel
theorem dX12_cutsFrom_63 : decode cX12_cutsFrom 63 = .ok (.getfield 31, 3) := by decide +kernel
theorem dX12_cutsFrom_66 : decode cX12_cutsFrom 66 = .ok (.iload_n 3, 1) := by decide +kernel
theorem dX12_cutsFrom_67 : decode cX12_cutsFrom 67 = .ok (.iaload, 1) := by decide +kernel
theorem dX12_cutsFrom_68 : decode cX12_cutsFrom 68 = .ok (.istore 5, 2) := by decide +kernel
theorem dX12_cutsFrom_70 : decode cX12_cutsFrom 70 = .ok (.iload 4, 2) := by decide +kernel
theorem dX12_cutsFrom_72 : decode cX12_cutsFrom 72 = .ok (.iload 5, 2) := by decide +kernel
theorem dX12_cutsFrom_74 : decode cX12_cutsFrom 74 = .ok (.if_icmp .ge 45, 3) := by decide +kernel
theorem dX12_cutsFrom_77 : decode cX12_cutsFrom 77 = .ok (.aload_n 0, 1) := by decide +kernel
theorem dX12_cutsFrom_78 : decode cX12_cutsFrom 78 = .ok (.getfield 43, 3) := by decide +kernel
theorem dX12_cutsFrom_81 : decode cX12_cutsFrom 81 = .ok (.aload_n 0, 1) := by decide +kernel
theorem dX12_cutsFrom_82 : decode cX12_cutsFrom 82 = .ok (.getfield 179, 3) := by decide +kernel
theorem dX12_cutsFrom_85 : decode cX12_cutsFrom 85 = .ok (.iload_n 3, 1) := by decide +kernel
theorem dX12_cutsFrom_86 : decode cX12_cutsFrom 86 = .ok (.iastore, 1) := by decide +kernel
theorem dX12_cutsFrom_87 : decode cX12_cutsFrom 87 = .ok (.aload_n 0, 1) := by decide +kernel
theorem dX12_cutsFrom_88 : decode cX12_cutsFrom 88 = .ok (.getfield 46, 3) := by decide +kernel
theorem dX12_cutsFrom_91 : decode cX12_cutsFrom 91 = .ok (.aload_n 0, 1) := by decide +kernel
theorem dX12_cutsFrom_92 : decode cX12_cutsFrom 92 = .ok (.getfield 179, 3) := by decide +kernel
theorem dX12_cutsFrom_95 : decode cX12_cutsFrom 95 = .ok (.iload 4, 2) := by decide +kernel
theorem dX12_cutsFrom_97 : decode cX12_cutsFrom 97 = .ok (.iastore, 1) := by decide +kernel
theorem dX12_cutsFrom_98 : decode cX12_cutsFrom 98 = .ok (.aload_n 0, 1) := by decide +kernel
theorem dX12_cutsFrom_99 : decode cX12_cutsFrom 99 = .ok (.getfield 49, 3) := by decide +kernel
theorem dX12_cutsFrom_102 : decode cX12_cutsFrom 102 = .ok (.aload_n 0, 1) := by decide +kernel
theorem dX12_cutsFrom_103 : decode cX12_cutsFrom 103 = .ok (.getfield 179, 3) := by decide +kernel
theorem dX12_cutsFrom_106 : decode cX12_cutsFrom 106 = .ok (.iload 5, 2) := by decide +kernel
theorem dX12_cutsFrom_108 : decode cX12_cutsFrom 108 = .ok (.iastore, 1) := by decide +kernel
theorem dX12_cutsFrom_109 : decode cX12_cutsFrom 109 = .ok (.aload_n 0, 1) := by decide +kernel
theorem dX12_cutsFrom_110 : decode cX12_cutsFrom 110 = .ok (.dup, 1) := by decide +kernel
theorem dX12_cutsFrom_111 : decode cX12_cutsFrom 111 = .ok (.getfield 179, 3) := by decide +kernel
theorem dX12_cutsFrom_114 : decode cX12_cutsFrom 114 = .ok (.iconst 1, 1) := by decide +kernel
theorem dX12_cutsFrom_115 : decode cX12_cutsFrom 115 = .ok (.iadd, 1) := by decide +kernel
theorem dX12_cutsFrom_116 : decode cX12_cutsFrom 116 = .ok (.putfield 179, 3) := by decide +kernel
theorem dX12_cutsFrom_119 : decode cX12_cutsFrom 119 = .ok (.iinc 3 1, 3) := by decide +kernel
theorem dX12_cutsFrom_122 : decode cX12_cutsFrom 122 = .ok (.goto (-120), 3) := by decide +kernel
theorem dX12_cutsFrom_125 : decode cX12_cutsFrom 125 = .ok (.return_, 1) := by decide +kernel
theorem dX12_laysCuts_0 : decode cX12_laysCuts 0 = .ok (.aload_n 0, 1) := by decide +kernel
theorem dX12_laysCuts_1 : decode cX12_laysCuts 1 = .ok (.iconst 0, 1) := by decide +kernel
theorem dX12_laysCuts_2 : decode cX12_laysCuts 2 = .ok (.putfield 179, 3) := by decide +kernel
theorem dX12_laysCuts_5 : decode cX12_laysCuts 5 = .ok (.aload_n 0, 1) := by decide +kernel
theorem dX12_laysCuts_6 : decode cX12_laysCuts 6 = .ok (.getfield 37, 3) := by decide +kernel
theorem dX12_laysCuts_9 : decode cX12_laysCuts 9 = .ok (.iload_n 1, 1) := by decide +kernel
theorem dX12_laysCuts_10 : decode cX12_laysCuts 10 = .ok (.iaload, 1) := by decide +kernel
theorem dX12_laysCuts_11 : decode cX12_laysCuts 11 = .ok (.aload_n 0, 1) := by decide +kernel
theorem dX12_laysCuts_12 : decode cX12_laysCuts 12 = .ok (.getfield 40, 3) := by decide +kernel
theorem dX12_laysCuts_15 : decode cX12_laysCuts 15 = .ok (.iload_n 1, 1) := by decide +kernel
theorem dX12_laysCuts_16 : decode cX12_laysCuts 16 = .ok (.iaload, 1) := by decide +kernel
theorem dX12_laysCuts_17 : decode cX12_laysCuts 17 = .ok (.iadd, 1) := by decide +kernel
theorem dX12_laysCuts_18 : decode cX12_laysCuts 18 = .ok (.istore_n 2, 1) := by decide +kernel
theorem dX12_laysCuts_19 : decode cX12_laysCuts 19 = .ok (.aload_n 0, 1) := by decide +kernel
theorem dX12_laysCuts_20 : decode cX12_laysCuts 20 = .ok (.aload_n 0, 1) := by decide +kernel
theorem dX12_laysCuts_21 : decode cX12_laysCuts 21 = .ok (.getfield 37, 3) := by decide +kernel
theorem dX12_laysCuts_24 : decode cX12_laysCuts 24 = .ok (.iload_n 1, 1) := by decide +kernel
theorem dX12_laysCuts_25 : decode cX12_laysCuts 25 = .ok (.iaload, 1) := by decide +kernel
theorem dX12_laysCuts_26 : decode cX12_laysCuts 26 = .ok (.iload_n 2, 1) := by decide +kernel
theorem dX12_laysCuts_27 : decode cX12_laysCuts 27 = .ok (.aload_n 0, 1) := by decide +kernel
theorem dX12_laysCuts_28 : decode cX12_laysCuts 28 = .ok (.getfield 142, 3) := by decide +kernel
theorem dX12_laysCuts_31 : decode cX12_laysCuts 31 = .ok (.if_icmp .ge 7, 3) := by decide +kernel
theorem dX12_laysCuts_34 : decode cX12_laysCuts 34 = .ok (.iload_n 2, 1) := by decide +kernel
theorem dX12_laysCuts_35 : decode cX12_laysCuts 35 = .ok (.goto 7, 3) := by decide +kernel
theorem dX12_laysCuts_38 : decode cX12_laysCuts 38 = .ok (.aload_n 0, 1) := by decide +kernel
theorem dX12_laysCuts_39 : decode cX12_laysCuts 39 = .ok (.getfield 142, 3) := by decide +kernel
theorem dX12_laysCuts_42 : decode cX12_laysCuts 42 = .ok (.invokevirtual 182, 3) := by decide +kernel
theorem dX12_laysCuts_45 : decode cX12_laysCuts 45 = .ok (.iload_n 2, 1) := by decide +kernel
theorem dX12_laysCuts_46 : decode cX12_laysCuts 46 = .ok (.aload_n 0, 1) := by decide +kernel
theorem dX12_laysCuts_47 : decode cX12_laysCuts 47 = .ok (.getfield 142, 3) := by decide +kernel
theorem dX12_laysCuts_50 : decode cX12_laysCuts 50 = .ok (.if_icmp .le 14, 3) := by decide +kernel
theorem dX12_laysCuts_53 : decode cX12_laysCuts 53 = .ok (.aload_n 0, 1) := by decide +kernel
theorem dX12_laysCuts_54 : decode cX12_laysCuts 54 = .ok (.iconst 0, 1) := by decide +kernel
theorem dX12_laysCuts_55 : decode cX12_laysCuts 55 = .ok (.iload_n 2, 1) := by decide +kernel
theorem dX12_laysCuts_56 : decode cX12_laysCuts 56 = .ok (.aload_n 0, 1) := by decide +kernel
theorem dX12_laysCuts_57 : decode cX12_laysCuts 57 = .ok (.getfield 142, 3) := by decide +kernel
theorem dX12_laysCuts_60 : decode cX12_laysCuts 60 = .ok (.isub, 1) := by decide +kernel
theorem dX12_laysCuts_61 : decode cX12_laysCuts 61 = .ok (.invokevirtual 182, 3) := by decide +kernel
theorem dX12_laysCuts_64 : decode cX12_laysCuts 64 = .ok (.return_, 1) := by decide +kernel
theorem dX12_runs_0 : decode cX12_runs 0 = .ok (.aload_n 0, 1) := by decide +kernel
theorem dX12_runs_1 : decode cX12_runs 1 = .ok (.aload_n 0, 1) := by decide +kernel
theorem dX12_runs_2 : decode cX12_runs 2 = .ok (.iload_n 1, 1) := by decide +kernel
theorem dX12_runs_3 : decode cX12_runs 3 = .ok (.invokevirtual 119, 3) := by decide +kernel
theorem dX12_runs_6 : decode cX12_runs 6 = .ok (.ifCond .eq 7, 3) := by decide +kernel
theorem dX12_runs_9 : decode cX12_runs 9 = .ok (.iconst 0, 1) := by decide +kernel
theorem dX12_runs_10 : decode cX12_runs 10 = .ok (.goto 4, 3) := by decide +kernel
theorem dX12_runs_13 : decode cX12_runs 13 = .ok (.iconst 1, 1) := by decide +kernel
theorem dX12_runs_14 : decode cX12_runs 14 = .ok (.invokevirtual 76, 3) := by decide +kernel
theorem dX12_runs_17 : decode cX12_runs 17 = .ok (.ifCond .eq 5, 3) := by decide +kernel
theorem dX12_runs_20 : decode cX12_runs 20 = .ok (.iconst 0, 1) := by decide +kernel
theorem dX12_runs_21 : decode cX12_runs 21 = .ok (.ireturn, 1) := by decide +kernel
theorem dX12_runs_22 : decode cX12_runs 22 = .ok (.aload_n 0, 1) := by decide +kernel
theorem dX12_runs_23 : decode cX12_runs 23 = .ok (.iload_n 1, 1) := by decide +kernel
theorem dX12_runs_24 : decode cX12_runs 24 = .ok (.invokevirtual 185, 3) := by decide +kernel
theorem dX12_runs_27 : decode cX12_runs 27 = .ok (.aload_n 0, 1) := by decide +kernel
theorem dX12_runs_28 : decode cX12_runs 28 = .ok (.getfield 169, 3) := by decide +kernel
theorem dX12_runs_31 : decode cX12_runs 31 = .ok (.ireturn, 1) := by decide +kernel
theorem dX12_tellRun_0 : decode cX12_tellRun 0 = .ok (.iload_n 2, 1) := by decide +kernel
theorem dX12_tellRun_1 : decode cX12_tellRun 1 = .ok (.tableswitch 51 0 2 #[27, 34, 41], 27) := by decide +kernel
theorem dX12_tellRun_28 : decode cX12_tellRun 28 = .ok (.aload_n 0, 1) := by decide +kernel
theorem dX12_tellRun_29 : decode cX12_tellRun 29 = .ok (.getfield 37, 3) := by decide +kernel
theorem dX12_tellRun_32 : decode cX12_tellRun 32 = .ok (.iload_n 1, 1) := by decide +kernel
theorem dX12_tellRun_33 : decode cX12_tellRun 33 = .ok (.iaload, 1) := by decide +kernel
theorem dX12_tellRun_34 : decode cX12_tellRun 34 = .ok (.ireturn, 1) := by decide +kernel
theorem dX12_tellRun_35 : decode cX12_tellRun 35 = .ok (.aload_n 0, 1) := by decide +kernel
theorem dX12_tellRun_36 : decode cX12_tellRun 36 = .ok (.getfield 40, 3) := by decide +kernel
theorem dX12_tellRun_39 : decode cX12_tellRun 39 = .ok (.iload_n 1, 1) := by decide +kernel
theorem dX12_tellRun_40 : decode cX12_tellRun 40 = .ok (.iaload, 1) := by decide +kernel
theorem dX12_tellRun_41 : decode cX12_tellRun 41 = .ok (.ireturn, 1) := by decide +kernel
theorem dX12_tellRun_42 : decode cX12_tellRun 42 = .ok (.aload_n 0, 1) := by decide +kernel
theorem dX12_tellRun_43 : decode cX12_tellRun 43 = .ok (.iload_n 1, 1) := by decide +kernel
theorem dX12_tellRun_44 : decode cX12_tellRun 44 = .ok (.invokevirtual 188, 3) := by decide +kernel
theorem dX12_tellRun_47 : decode cX12_tellRun 47 = .ok (.aload_n 0, 1) := by decide +kernel
theorem dX12_tellRun_48 : decode cX12_tellRun 48 = .ok (.getfield 179, 3) := by decide +kernel
theorem dX12_tellRun_51 : decode cX12_tellRun 51 = .ok (.ireturn, 1) := by decide +kernel
theorem dX12_tellRun_52 : decode cX12_tellRun 52 = .ok (.aload_n 0, 1) := by decide +kernel
theorem dX12_tellRun_53 : decode cX12_tellRun 53 = .ok (.getfield 172, 3) := by decide +kernel
theorem dX12_tellRun_56 : decode cX12_tellRun 56 = .ok (.ifCond .eq 7, 3) := by decide +kernel
theorem dX12_tellRun_59 : decode cX12_tellRun 59 = .ok (.iconst 1, 1) := by decide +kernel
theorem dX12_tellRun_60 : decode cX12_tellRun 60 = .ok (.goto 4, 3) := by decide +kernel
theorem dX12_tellRun_63 : decode cX12_tellRun 63 = .ok (.iconst 0, 1) := by decide +kernel
theorem dX12_tellRun_64 : decode cX12_tellRun 64 = .ok (.ireturn, 1) := by decide +kernel
theorem dX12_run_0 : decode cX12_run 0 = .ok (.aload_n 0, 1) := by decide +kernel
theorem dX12_run_1 : decode cX12_run 1 = .ok (.iload_n 1, 1) := by decide +kernel
theorem dX12_run_2 : decode cX12_run 2 = .ok (.invokevirtual 119, 3) := by decide +kernel
theorem dX12_run_5 : decode cX12_run 5 = .ok (.ifCond .eq 8, 3) := by decide +kernel
theorem dX12_run_8 : decode cX12_run 8 = .ok (.aload_n 0, 1) := by decide +kernel
theorem dX12_run_9 : decode cX12_run 9 = .ok (.iload_n 1, 1) := by decide +kernel
theorem dX12_run_10 : decode cX12_run 10 = .ok (.invokevirtual 185, 3) := by decide +kernel
theorem dX12_run_13 : decode cX12_run 13 = .ok (.aload_n 0, 1) := by decide +kernel
theorem dX12_run_14 : decode cX12_run 14 = .ok (.aload_n 0, 1) := by decide +kernel
theorem dX12_run_15 : decode cX12_run 15 = .ok (.iload_n 1, 1) := by decide +kernel
theorem dX12_run_16 : decode cX12_run 16 = .ok (.invokevirtual 119, 3) := by decide +kernel
theorem dX12_run_19 : decode cX12_run 19 = .ok (.ifCond .eq 17, 3) := by decide +kernel
theorem dX12_run_22 : decode cX12_run 22 = .ok (.iload_n 2, 1) := by decide +kernel
theorem dX12_run_23 : decode cX12_run 23 = .ok (.iconst 0, 1) := by decide +kernel
theorem dX12_run_24 : decode cX12_run 24 = .ok (.aload_n 0, 1) := by decide +kernel
theorem dX12_run_25 : decode cX12_run 25 = .ok (.getfield 169, 3) := by decide +kernel
theorem dX12_run_28 : decode cX12_run 28 = .ok (.iconst 1, 1) := by decide +kernel
theorem dX12_run_29 : decode cX12_run 29 = .ok (.isub, 1) := by decide +kernel
theorem dX12_run_30 : decode cX12_run 30 = .ok (.invokestatic 65, 3) := by decide +kernel
theorem dX12_run_33 : decode cX12_run 33 = .ok (.ifCond .ne 7, 3) := by decide +kernel
theorem dX12_run_36 : decode cX12_run 36 = .ok (.iconst 1, 1) := by decide +kernel
theorem dX12_run_37 : decode cX12_run 37 = .ok (.goto 17, 3) := by decide +kernel
theorem dX12_run_40 : decode cX12_run 40 = .ok (.iload_n 3, 1) := by decide +kernel
theorem dX12_run_41 : decode cX12_run 41 = .ok (.iconst 0, 1) := by decide +kernel
theorem dX12_run_42 : decode cX12_run 42 = .ok (.iconst 3, 1) := by decide +kernel
theorem dX12_run_43 : decode cX12_run 43 = .ok (.invokestatic 65, 3) := by decide +kernel
theorem dX12_run_46 : decode cX12_run 46 = .ok (.ifCond .eq 7, 3) := by decide +kernel
theorem dX12_run_49 : decode cX12_run 49 = .ok (.iconst 0, 1) := by decide +kernel
theorem dX12_run_50 : decode cX12_run 50 = .ok (.goto 4, 3) := by decide +kernel
theorem dX12_run_53 : decode cX12_run 53 = .ok (.iconst 2, 1) := by decide +kernel
theorem dX12_run_54 : decode cX12_run 54 = .ok (.invokevirtual 76, 3) := by decide +kernel
theorem dX12_run_57 : decode cX12_run 57 = .ok (.ifCond .eq 7, 3) := by decide +kernel
theorem dX12_run_60 : decode cX12_run 60 = .ok (.iconst 0, 1) := by decide +kernel
theorem dX12_run_61 : decode cX12_run 61 = .ok (.goto 9, 3) := by decide +kernel
theorem dX12_run_64 : decode cX12_run 64 = .ok (.aload_n 0, 1) := by decide +kernel
theorem dX12_run_65 : decode cX12_run 65 = .ok (.iload_n 2, 1) := by decide +kernel
theorem dX12_run_66 : decode cX12_run 66 = .ok (.iload_n 3, 1) := by decide +kernel
theorem dX12_run_67 : decode cX12_run 67 = .ok (.invokevirtual 191, 3) := by decide +kernel
theorem dX12_run_70 : decode cX12_run 70 = .ok (.ireturn, 1) := by decide +kernel
theorem dX12_dashed_0 : decode cX12_dashed 0 = .ok (.aload_n 0, 1) := by decide +kernel
theorem dX12_dashed_1 : decode cX12_dashed 1 = .ok (.iconst 0, 1) := by decide +kernel
theorem dX12_dashed_2 : decode cX12_dashed 2 = .ok (.putfield 61, 3) := by decide +kernel
theorem dX12_dashed_5 : decode cX12_dashed 5 = .ok (.iconst 0, 1) := by decide +kernel
theorem dX12_dashed_6 : decode cX12_dashed 6 = .ok (.istore_n 2, 1) := by decide +kernel
theorem dX12_dashed_7 : decode cX12_dashed 7 = .ok (.iconst 0, 1) := by decide +kernel
theorem dX12_dashed_8 : decode cX12_dashed 8 = .ok (.istore_n 3, 1) := by decide +kernel
theorem dX12_dashed_9 : decode cX12_dashed 9 = .ok (.iconst 0, 1) := by decide +kernel
theorem dX12_dashed_10 : decode cX12_dashed 10 = .ok (.istore 4, 2) := by decide +kernel
theorem dX12_dashed_12 : decode cX12_dashed 12 = .ok (.iload 4, 2) := by decide +kernel
theorem dX12_dashed_14 : decode cX12_dashed 14 = .ok (.aload_n 0, 1) := by decide +kernel
theorem dX12_dashed_15 : decode cX12_dashed 15 = .ok (.getfield 7, 3) := by decide +kernel
theorem dX12_dashed_18 : decode cX12_dashed 18 = .ok (.bipush 13, 2) := by decide +kernel
theorem dX12_dashed_20 : decode cX12_dashed 20 = .ok (.iaload, 1) := by decide +kernel
theorem dX12_dashed_21 : decode cX12_dashed 21 = .ok (.if_icmp .ge 50, 3) := by decide +kernel
theorem dX12_dashed_24 : decode cX12_dashed 24 = .ok (.aload_n 0, 1) := by decide +kernel
theorem dX12_dashed_25 : decode cX12_dashed 25 = .ok (.iload 4, 2) := by decide +kernel
theorem dX12_dashed_27 : decode cX12_dashed 27 = .ok (.invokevirtual 185, 3) := by decide +kernel
theorem dX12_dashed_30 : decode cX12_dashed 30 = .ok (.iload_n 3, 1) := by decide +kernel
theorem dX12_dashed_31 : decode cX12_dashed 31 = .ok (.aload_n 0, 1) := by decide +kernel
theorem dX12_dashed_32 : decode cX12_dashed 32 = .ok (.getfield 142, 3) := by decide +kernel
theorem dX12_dashed_35 : decode cX12_dashed 35 = .ok (.iadd, 1) := by decide +kernel
theorem dX12_dashed_36 : decode cX12_dashed 36 = .ok (.istore_n 3, 1) := by decide +kernel
theorem dX12_dashed_37 : decode cX12_dashed 37 = .ok (.iconst 0, 1) := by decide +kernel
theorem dX12_dashed_38 : decode cX12_dashed 38 = .ok (.istore 5, 2) := by decide +kernel
theorem dX12_dashed_40 : decode cX12_dashed 40 = .ok (.iload 5, 2) := by decide +kernel
theorem dX12_dashed_42 : decode cX12_dashed 42 = .ok (.aload_n 0, 1) := by decide +kernel
theorem dX12_dashed_43 : decode cX12_dashed 43 = .ok (.getfield 169, 3) := by decide +kernel
theorem dX12_dashed_46 : decode cX12_dashed 46 = .ok (.if_icmp .ge 19, 3) := by decide +kernel
theorem dX12_dashed_49 : decode cX12_dashed 49 = .ok (.iload_n 2, 1) := by decide +kernel
theorem dX12_dashed_50 : decode cX12_dashed 50 = .ok (.aload_n 0, 1) := by decide +kernel
theorem dX12_dashed_51 : decode cX12_dashed 51 = .ok (.getfield 40, 3) := by decide +kernel
theorem dX12_dashed_54 : decode cX12_dashed 54 = .ok (.iload 5, 2) := by decide +kernel
theorem dX12_dashed_56 : decode cX12_dashed 56 = .ok (.iaload, 1) := by decide +kernel
theorem dX12_dashed_57 : decode cX12_dashed 57 = .ok (.iadd, 1) := by decide +kernel
theorem dX12_dashed_58 : decode cX12_dashed 58 = .ok (.istore_n 2, 1) := by decide +kernel
theorem dX12_dashed_59 : decode cX12_dashed 59 = .ok (.iinc 5 1, 3) := by decide +kernel
theorem dX12_dashed_62 : decode cX12_dashed 62 = .ok (.goto (-22), 3) := by decide +kernel
theorem dX12_dashed_65 : decode cX12_dashed 65 = .ok (.iinc 4 1, 3) := by decide +kernel
theorem dX12_dashed_68 : decode cX12_dashed 68 = .ok (.goto (-56), 3) := by decide +kernel
theorem dX12_dashed_71 : decode cX12_dashed 71 = .ok (.iload_n 1, 1) := by decide +kernel
theorem dX12_dashed_72 : decode cX12_dashed 72 = .ok (.ifCond .eq 7, 3) := by decide +kernel
theorem dX12_dashed_75 : decode cX12_dashed 75 = .ok (.iload_n 2, 1) := by decide +kernel
theorem dX12_dashed_76 : decode cX12_dashed 76 = .ok (.goto 6, 3) := by decide +kernel
theorem dX12_dashed_79 : decode cX12_dashed 79 = .ok (.iload_n 3, 1) := by decide +kernel
theorem dX12_dashed_80 : decode cX12_dashed 80 = .ok (.iload_n 2, 1) := by decide +kernel
theorem dX12_dashed_81 : decode cX12_dashed 81 = .ok (.isub, 1) := by decide +kernel
theorem dX12_dashed_82 : decode cX12_dashed 82 = .ok (.ireturn, 1) := by decide +kernel
theorem dX12_half_0 : decode cX12_half 0 = .ok (.bipush 32, 2) := by decide +kernel
theorem dX12_half_2 : decode cX12_half 2 = .ok (.aload_n 0, 1) := by decide +kernel
theorem dX12_half_3 : decode cX12_half 3 = .ok (.getfield 7, 3) := by decide +kernel
theorem dX12_half_6 : decode cX12_half 6 = .ok (.iconst 0, 1) := by decide +kernel
theorem dX12_half_7 : decode cX12_half 7 = .ok (.iaload, 1) := by decide +kernel
theorem dX12_half_8 : decode cX12_half 8 = .ok (.imul, 1) := by decide +kernel
theorem dX12_half_9 : decode cX12_half 9 = .ok (.ireturn, 1) := by decide +kernel
theorem dX12_begin_0 : decode cX12_begin 0 = .ok (.aload_n 0, 1) := by decide +kernel
theorem dX12_begin_1 : decode cX12_begin 1 = .ok (.getfield 52, 3) := by decide +kernel
theorem dX12_begin_4 : decode cX12_begin 4 = .ok (.bipush 9, 2) := by decide +kernel
theorem dX12_begin_6 : decode cX12_begin 6 = .ok (.aload_n 0, 1) := by decide +kernel
theorem dX12_begin_7 : decode cX12_begin 7 = .ok (.getfield 194, 3) := by decide +kernel
theorem dX12_begin_10 : decode cX12_begin 10 = .ok (.imul, 1) := by decide +kernel
theorem dX12_begin_11 : decode cX12_begin 11 = .ok (.iload_n 1, 1) := by decide +kernel
theorem dX12_begin_12 : decode cX12_begin 12 = .ok (.iastore, 1) := by decide +kernel
theorem dX12_begin_13 : decode cX12_begin 13 = .ok (.aload_n 0, 1) := by decide +kernel
theorem dX12_begin_14 : decode cX12_begin 14 = .ok (.dup, 1) := by decide +kernel
theorem dX12_begin_15 : decode cX12_begin 15 = .ok (.getfield 194, 3) := by decide +kernel
theorem dX12_begin_18 : decode cX12_begin 18 = .ok (.iconst 1, 1) := by decide +kernel
theorem dX12_begin_19 : decode cX12_begin 19 = .ok (.iadd, 1) := by decide +kernel
theorem dX12_begin_20 : decode cX12_begin 20 = .ok (.putfield 194, 3) := by decide +kernel
theorem dX12_begin_23 : decode cX12_begin 23 = .ok (.return_, 1) := by decide +kernel
theorem dX12_corners_0 : decode cX12_corners 0 = .ok (.aload_n 0, 1) := by decide +kernel
theorem dX12_corners_1 : decode cX12_corners 1 = .ok (.getfield 52, 3) := by decide +kernel
theorem dX12_corners_4 : decode cX12_corners 4 = .ok (.bipush 9, 2) := by decide +kernel
theorem dX12_corners_6 : decode cX12_corners 6 = .ok (.aload_n 0, 1) := by decide +kernel
theorem dX12_corners_7 : decode cX12_corners 7 = .ok (.getfield 194, 3) := by decide +kernel
theorem dX12_corners_10 : decode cX12_corners 10 = .ok (.imul, 1) := by decide +kernel
theorem dX12_corners_11 : decode cX12_corners 11 = .ok (.bipush 8, 2) := by decide +kernel
theorem dX12_corners_13 : decode cX12_corners 13 = .ok (.isub, 1) := by decide +kernel
theorem dX12_corners_14 : decode cX12_corners 14 = .ok (.iconst 2, 1) := by decide +kernel
theorem dX12_corners_15 : decode cX12_corners 15 = .ok (.iload_n 1, 1) := by decide +kernel
theorem dX12_corners_16 : decode cX12_corners 16 = .ok (.imul, 1) := by decide +kernel
theorem dX12_corners_17 : decode cX12_corners 17 = .ok (.iadd, 1) := by decide +kernel
theorem dX12_corners_18 : decode cX12_corners 18 = .ok (.iload_n 2, 1) := by decide +kernel
theorem dX12_corners_19 : decode cX12_corners 19 = .ok (.iastore, 1) := by decide +kernel
theorem dX12_corners_20 : decode cX12_corners 20 = .ok (.aload_n 0, 1) := by decide +kernel
theorem dX12_corners_21 : decode cX12_corners 21 = .ok (.getfield 52, 3) := by decide +kernel
theorem dX12_corners_24 : decode cX12_corners 24 = .ok (.bipush 9, 2) := by decide +kernel
theorem dX12_corners_26 : decode cX12_corners 26 = .ok (.aload_n 0, 1) := by decide +kernel
theorem dX12_corners_27 : decode cX12_corners 27 = .ok (.getfield 194, 3) := by decide +kernel
theorem dX12_corners_30 : decode cX12_corners 30 = .ok (.imul, 1) := by decide +kernel
theorem dX12_corners_31 : decode cX12_corners 31 = .ok (.bipush 7, 2) := by decide +kernel
theorem dX12_corners_33 : decode cX12_corners 33 = .ok (.isub, 1) := by decide +kernel
theorem dX12_corners_34 : decode cX12_corners 34 = .ok (.iconst 2, 1) := by decide +kernel
theorem dX12_corners_35 : decode cX12_corners 35 = .ok (.iload_n 1, 1) := by decide +kernel
theorem dX12_corners_36 : decode cX12_corners 36 = .ok (.imul, 1) := by decide +kernel
theorem dX12_corners_37 : decode cX12_corners 37 = .ok (.iadd, 1) := by decide +kernel
theorem dX12_corners_38 : decode cX12_corners 38 = .ok (.iload_n 3, 1) := by decide +kernel
theorem dX12_corners_39 : decode cX12_corners 39 = .ok (.iastore, 1) := by decide +kernel
theorem dX12_corners_40 : decode cX12_corners 40 = .ok (.return_, 1) := by decide +kernel
theorem dX12_normalX_0 : decode cX12_normalX 0 = .ok (.ldc2_w 197, 3) := by decide +kernel
theorem dX12_normalX_3 : decode cX12_normalX 3 = .ok (.aload_n 0, 1) := by decide +kernel
theorem dX12_normalX_4 : decode cX12_normalX 4 = .ok (.getfield 22, 3) := by decide +kernel
theorem dX12_normalX_7 : decode cX12_normalX 7 = .ok (.iload_n 1, 1) := by decide +kernel
theorem dX12_normalX_8 : decode cX12_normalX 8 = .ok (.iaload, 1) := by decide +kernel
theorem dX12_normalX_9 : decode cX12_normalX 9 = .ok (.i2l, 1) := by decide +kernel
theorem dX12_normalX_10 : decode cX12_normalX 10 = .ok (.lmul, 1) := by decide +kernel
theorem dX12_normalX_11 : decode cX12_normalX 11 = .ok (.aload_n 0, 1) := by decide +kernel
theorem dX12_normalX_12 : decode cX12_normalX 12 = .ok (.invokevirtual 199, 3) := by decide +kernel
theorem dX12_normalX_15 : decode cX12_normalX 15 = .ok (.i2l, 1) := by decide +kernel
theorem dX12_normalX_16 : decode cX12_normalX 16 = .ok (.lmul, 1) := by decide +kernel
theorem dX12_normalX_17 : decode cX12_normalX 17 = .ok (.aload_n 0, 1) := by decide +kernel
theorem dX12_normalX_18 : decode cX12_normalX 18 = .ok (.getfield 31, 3) := by decide +kernel
theorem dX12_normalX_21 : decode cX12_normalX 21 = .ok (.iload_n 1, 1) := by decide +kernel
theorem dX12_normalX_22 : decode cX12_normalX 22 = .ok (.iaload, 1) := by decide +kernel
theorem dX12_normalX_23 : decode cX12_normalX 23 = .ok (.i2l, 1) := by decide +kernel
theorem dX12_normalX_24 : decode cX12_normalX 24 = .ok (.invokestatic 153, 3) := by decide +kernel
theorem dX12_normalX_27 : decode cX12_normalX 27 = .ok (.ireturn, 1) := by decide +kernel
theorem dX12_normalY_0 : decode cX12_normalY 0 = .ok (.ldc2_w 151, 3) := by decide +kernel
theorem dX12_normalY_3 : decode cX12_normalY 3 = .ok (.aload_n 0, 1) := by decide +kernel
theorem dX12_normalY_4 : decode cX12_normalY 4 = .ok (.getfield 19, 3) := by decide +kernel
theorem dX12_normalY_7 : decode cX12_normalY 7 = .ok (.iload_n 1, 1) := by decide +kernel
theorem dX12_normalY_8 : decode cX12_normalY 8 = .ok (.iaload, 1) := by decide +kernel
theorem dX12_normalY_9 : decode cX12_normalY 9 = .ok (.i2l, 1) := by decide +kernel
theorem dX12_normalY_10 : decode cX12_normalY 10 = .ok (.lmul, 1) := by decide +kernel
theorem dX12_normalY_11 : decode cX12_normalY 11 = .ok (.aload_n 0, 1) := by decide +kernel
theorem dX12_normalY_12 : decode cX12_normalY 12 = .ok (.invokevirtual 199, 3) := by decide +kernel
theorem dX12_normalY_15 : decode cX12_normalY 15 = .ok (.i2l, 1) := by decide +kernel
theorem dX12_normalY_16 : decode cX12_normalY 16 = .ok (.lmul, 1) := by decide +kernel
theorem dX12_normalY_17 : decode cX12_normalY 17 = .ok (.aload_n 0, 1) := by decide +kernel
theorem dX12_normalY_18 : decode cX12_normalY 18 = .ok (.getfield 31, 3) := by decide +kernel
theorem dX12_normalY_21 : decode cX12_normalY 21 = .ok (.iload_n 1, 1) := by decide +kernel
theorem dX12_normalY_22 : decode cX12_normalY 22 = .ok (.iaload, 1) := by decide +kernel
theorem dX12_normalY_23 : decode cX12_normalY 23 = .ok (.i2l, 1) := by decide +kernel
theorem dX12_normalY_24 : decode cX12_normalY 24 = .ok (.invokestatic 153, 3) := by decide +kernel
theorem dX12_normalY_27 : decode cX12_normalY 27 = .ok (.ireturn, 1) := by decide +kernel
theorem dX12_edgeX_0 : decode cX12_edgeX 0 = .ok (.ldc2_w 151, 3) := by decide +kernel
theorem dX12_edgeX_3 : decode cX12_edgeX 3 = .ok (.aload_n 0, 1) := by decide +kernel
theorem dX12_edgeX_4 : decode cX12_edgeX 4 = .ok (.getfield 19, 3) := by decide +kernel
theorem dX12_edgeX_7 : decode cX12_edgeX 7 = .ok (.iload_n 1, 1) := by decide +kernel
theorem dX12_edgeX_8 : decode cX12_edgeX 8 = .ok (.iaload, 1) := by decide +kernel
theorem dX12_edgeX_9 : decode cX12_edgeX 9 = .ok (.i2l, 1) := by decide +kernel
theorem dX12_edgeX_10 : decode cX12_edgeX 10 = .ok (.lmul, 1) := by decide +kernel
theorem dX12_edgeX_11 : decode cX12_edgeX 11 = .ok (.aload_n 0, 1) := by decide +kernel
theorem dX12_edgeX_12 : decode cX12_edgeX 12 = .ok (.invokevirtual 199, 3) := by decide +kernel
theorem dX12_edgeX_15 : decode cX12_edgeX 15 = .ok (.i2l, 1) := by decide +kernel
theorem dX12_edgeX_16 : decode cX12_edgeX 16 = .ok (.lmul, 1) := by decide +kernel
theorem dX12_edgeX_17 : decode cX12_edgeX 17 = .ok (.aload_n 0, 1) := by decide +kernel
theorem dX12_edgeX_18 : decode cX12_edgeX 18 = .ok (.getfield 31, 3) := by decide +kernel
theorem dX12_edgeX_21 : decode cX12_edgeX 21 = .ok (.iload_n 1, 1) := by decide +kernel
theorem dX12_edgeX_22 : decode cX12_edgeX 22 = .ok (.iaload, 1) := by decide +kernel
theorem dX12_edgeX_23 : decode cX12_edgeX 23 = .ok (.i2l, 1) := by decide +kernel
theorem dX12_edgeX_24 : decode cX12_edgeX 24 = .ok (.invokestatic 153, 3) := by decide +kernel
theorem dX12_edgeX_27 : decode cX12_edgeX 27 = .ok (.ireturn, 1) := by decide +kernel
theorem dX12_edgeY_0 : decode cX12_edgeY 0 = .ok (.ldc2_w 151, 3) := by decide +kernel
theorem dX12_edgeY_3 : decode cX12_edgeY 3 = .ok (.aload_n 0, 1) := by decide +kernel
theorem dX12_edgeY_4 : decode cX12_edgeY 4 = .ok (.getfield 22, 3) := by decide +kernel
theorem dX12_edgeY_7 : decode cX12_edgeY 7 = .ok (.iload_n 1, 1) := by decide +kernel
theorem dX12_edgeY_8 : decode cX12_edgeY 8 = .ok (.iaload, 1) := by decide +kernel
theorem dX12_edgeY_9 : decode cX12_edgeY 9 = .ok (.i2l, 1) := by decide +kernel
theorem dX12_edgeY_10 : decode cX12_edgeY 10 = .ok (.lmul, 1) := by decide +kernel
theorem dX12_edgeY_11 : decode cX12_edgeY 11 = .ok (.aload_n 0, 1) := by decide +kernel
theorem dX12_edgeY_12 : decode cX12_edgeY 12 = .ok (.invokevirtual 199, 3) := by decide +kernel
theorem dX12_edgeY_15 : decode cX12_edgeY 15 = .ok (.i2l, 1) := by decide +kernel
theorem dX12_edgeY_16 : decode cX12_edgeY 16 = .ok (.lmul, 1) := by decide +kernel
theorem dX12_edgeY_17 : decode cX12_edgeY 17 = .ok (.aload_n 0, 1) := by decide +kernel
theorem dX12_edgeY_18 : decode cX12_edgeY 18 = .ok (.getfield 31, 3) := by decide +kernel
theorem dX12_edgeY_21 : decode cX12_edgeY 21 = .ok (.iload_n 1, 1) := by decide +kernel
theorem dX12_edgeY_22 : decode cX12_edgeY 22 = .ok (.iaload, 1) := by decide +kernel
theorem dX12_edgeY_23 : decode cX12_edgeY 23 = .ok (.i2l, 1) := by decide +kernel
theorem dX12_edgeY_24 : decode cX12_edgeY 24 = .ok (.invokestatic 153, 3) := by decide +kernel
theorem dX12_edgeY_27 : decode cX12_edgeY 27 = .ok (.ireturn, 1) := by decide +kernel
theorem dX12_laysDisc_0 : decode cX12_laysDisc 0 = .ok (.aload_n 0, 1) := by decide +kernel
theorem dX12_laysDisc_1 : decode cX12_laysDisc 1 = .ok (.iconst 3, 1) := by decide +kernel
theorem dX12_laysDisc_2 : decode cX12_laysDisc 2 = .ok (.invokevirtual 203, 3) := by decide +kernel
theorem dX12_laysDisc_5 : decode cX12_laysDisc 5 = .ok (.aload_n 0, 1) := by decide +kernel
theorem dX12_laysDisc_6 : decode cX12_laysDisc 6 = .ok (.iconst 0, 1) := by decide +kernel
theorem dX12_laysDisc_7 : decode cX12_laysDisc 7 = .ok (.iload_n 1, 1) := by decide +kernel
theorem dX12_laysDisc_8 : decode cX12_laysDisc 8 = .ok (.iload_n 2, 1) := by decide +kernel
theorem dX12_laysDisc_9 : decode cX12_laysDisc 9 = .ok (.invokevirtual 206, 3) := by decide +kernel
theorem dX12_laysDisc_12 : decode cX12_laysDisc 12 = .ok (.return_, 1) := by decide +kernel
theorem dX12_laysStrip_0 : decode cX12_laysStrip 0 = .ok (.aload_n 0, 1) := by decide +kernel
theorem dX12_laysStrip_1 : decode cX12_laysStrip 1 = .ok (.getfield 43, 3) := by decide +kernel
theorem dX12_laysStrip_4 : decode cX12_laysStrip 4 = .ok (.iload_n 1, 1) := by decide +kernel
theorem dX12_laysStrip_5 : decode cX12_laysStrip 5 = .ok (.iaload, 1) := by decide +kernel
theorem dX12_laysStrip_6 : decode cX12_laysStrip 6 = .ok (.istore_n 2, 1) := by decide +kernel
theorem dX12_laysStrip_7 : decode cX12_laysStrip 7 = .ok (.aload_n 0, 1) := by decide +kernel
theorem dX12_laysStrip_8 : decode cX12_laysStrip 8 = .ok (.iload_n 2, 1) := by decide +kernel
theorem dX12_laysStrip_9 : decode cX12_laysStrip 9 = .ok (.invokevirtual 210, 3) := by decide +kernel
theorem dX12_laysStrip_12 : decode cX12_laysStrip 12 = .ok (.istore_n 3, 1) := by decide +kernel
theorem dX12_laysStrip_13 : decode cX12_laysStrip 13 = .ok (.aload_n 0, 1) := by decide +kernel
theorem dX12_laysStrip_14 : decode cX12_laysStrip 14 = .ok (.iload_n 2, 1) := by decide +kernel
theorem dX12_laysStrip_15 : decode cX12_laysStrip 15 = .ok (.invokevirtual 213, 3) := by decide +kernel
theorem dX12_laysStrip_18 : decode cX12_laysStrip 18 = .ok (.istore 4, 2) := by decide +kernel
theorem dX12_laysStrip_20 : decode cX12_laysStrip 20 = .ok (.aload_n 0, 1) := by decide +kernel
theorem dX12_laysStrip_21 : decode cX12_laysStrip 21 = .ok (.iload_n 2, 1) := by decide +kernel
theorem dX12_laysStrip_22 : decode cX12_laysStrip 22 = .ok (.aload_n 0, 1) := by decide +kernel
theorem dX12_laysStrip_23 : decode cX12_laysStrip 23 = .ok (.getfield 46, 3) := by decide +kernel
theorem dX12_laysStrip_26 : decode cX12_laysStrip 26 = .ok (.iload_n 1, 1) := by decide +kernel
theorem dX12_laysStrip_27 : decode cX12_laysStrip 27 = .ok (.iaload, 1) := by decide +kernel
theorem dX12_laysStrip_28 : decode cX12_laysStrip 28 = .ok (.invokevirtual 163, 3) := by decide +kernel
theorem dX12_laysStrip_31 : decode cX12_laysStrip 31 = .ok (.istore 5, 2) := by decide +kernel
theorem dX12_laysStrip_33 : decode cX12_laysStrip 33 = .ok (.aload_n 0, 1) := by decide +kernel
theorem dX12_laysStrip_34 : decode cX12_laysStrip 34 = .ok (.iload_n 2, 1) := by decide +kernel
theorem dX12_laysStrip_35 : decode cX12_laysStrip 35 = .ok (.aload_n 0, 1) := by decide +kernel
theorem dX12_laysStrip_36 : decode cX12_laysStrip 36 = .ok (.getfield 46, 3) := by decide +kernel
theorem dX12_laysStrip_39 : decode cX12_laysStrip 39 = .ok (.iload_n 1, 1) := by decide +kernel
theorem dX12_laysStrip_40 : decode cX12_laysStrip 40 = .ok (.iaload, 1) := by decide +kernel
theorem dX12_laysStrip_41 : decode cX12_laysStrip 41 = .ok (.invokevirtual 160, 3) := by decide +kernel
theorem dX12_laysStrip_44 : decode cX12_laysStrip 44 = .ok (.istore 6, 2) := by decide +kernel
theorem dX12_laysStrip_46 : decode cX12_laysStrip 46 = .ok (.aload_n 0, 1) := by decide +kernel
theorem dX12_laysStrip_47 : decode cX12_laysStrip 47 = .ok (.iload_n 2, 1) := by decide +kernel
theorem dX12_laysStrip_48 : decode cX12_laysStrip 48 = .ok (.aload_n 0, 1) := by decide +kernel
theorem dX12_laysStrip_49 : decode cX12_laysStrip 49 = .ok (.getfield 49, 3) := by decide +kernel
theorem dX12_laysStrip_52 : decode cX12_laysStrip 52 = .ok (.iload_n 1, 1) := by decide +kernel
theorem dX12_laysStrip_53 : decode cX12_laysStrip 53 = .ok (.iaload, 1) := by decide +kernel
theorem dX12_laysStrip_54 : decode cX12_laysStrip 54 = .ok (.invokevirtual 163, 3) := by decide +kernel
theorem dX12_laysStrip_57 : decode cX12_laysStrip 57 = .ok (.istore 7, 2) := by decide +kernel
theorem dX12_laysStrip_59 : decode cX12_laysStrip 59 = .ok (.aload_n 0, 1) := by decide +kernel
theorem dX12_laysStrip_60 : decode cX12_laysStrip 60 = .ok (.iload_n 2, 1) := by decide +kernel
theorem dX12_laysStrip_61 : decode cX12_laysStrip 61 = .ok (.aload_n 0, 1) := by decide +kernel
theorem dX12_laysStrip_62 : decode cX12_laysStrip 62 = .ok (.getfield 49, 3) := by decide +kernel
theorem dX12_laysStrip_65 : decode cX12_laysStrip 65 = .ok (.iload_n 1, 1) := by decide +kernel
theorem dX12_laysStrip_66 : decode cX12_laysStrip 66 = .ok (.iaload, 1) := by decide +kernel
theorem dX12_laysStrip_67 : decode cX12_laysStrip 67 = .ok (.invokevirtual 160, 3) := by decide +kernel
theorem dX12_laysStrip_70 : decode cX12_laysStrip 70 = .ok (.istore 8, 2) := by decide +kernel
theorem dX12_laysStrip_72 : decode cX12_laysStrip 72 = .ok (.aload_n 0, 1) := by decide +kernel
theorem dX12_laysStrip_73 : decode cX12_laysStrip 73 = .ok (.iconst 0, 1) := by decide +kernel
theorem dX12_laysStrip_74 : decode cX12_laysStrip 74 = .ok (.invokevirtual 203, 3) := by decide +kernel
theorem dX12_laysStrip_77 : decode cX12_laysStrip 77 = .ok (.aload_n 0, 1) := by decide +kernel
theorem dX12_laysStrip_78 : decode cX12_laysStrip 78 = .ok (.iconst 0, 1) := by decide +kernel
theorem dX12_laysStrip_79 : decode cX12_laysStrip 79 = .ok (.iload 5, 2) := by decide +kernel
theorem dX12_laysStrip_81 : decode cX12_laysStrip 81 = .ok (.iload_n 3, 1) := by decide +kernel
theorem dX12_laysStrip_82 : decode cX12_laysStrip 82 = .ok (.iadd, 1) := by decide +kernel
theorem dX12_laysStrip_83 : decode cX12_laysStrip 83 = .ok (.iload 6, 2) := by decide +kernel
theorem dX12_laysStrip_85 : decode cX12_laysStrip 85 = .ok (.iload 4, 2) := by decide +kernel
theorem dX12_laysStrip_87 : decode cX12_laysStrip 87 = .ok (.iadd, 1) := by decide +kernel
theorem dX12_laysStrip_88 : decode cX12_laysStrip 88 = .ok (.invokevirtual 206, 3) := by decide +kernel
theorem dX12_laysStrip_91 : decode cX12_laysStrip 91 = .ok (.aload_n 0, 1) := by decide +kernel
theorem dX12_laysStrip_92 : decode cX12_laysStrip 92 = .ok (.iconst 1, 1) := by decide +kernel
theorem dX12_laysStrip_93 : decode cX12_laysStrip 93 = .ok (.iload 7, 2) := by decide +kernel
theorem dX12_laysStrip_95 : decode cX12_laysStrip 95 = .ok (.iload_n 3, 1) := by decide +kernel
theorem dX12_laysStrip_96 : decode cX12_laysStrip 96 = .ok (.iadd, 1) := by decide +kernel
theorem dX12_laysStrip_97 : decode cX12_laysStrip 97 = .ok (.iload 8, 2) := by decide +kernel
theorem dX12_laysStrip_99 : decode cX12_laysStrip 99 = .ok (.iload 4, 2) := by decide +kernel
theorem dX12_laysStrip_101 : decode cX12_laysStrip 101 = .ok (.iadd, 1) := by decide +kernel
theorem dX12_laysStrip_102 : decode cX12_laysStrip 102 = .ok (.invokevirtual 206, 3) := by decide +kernel
theorem dX12_laysStrip_105 : decode cX12_laysStrip 105 = .ok (.aload_n 0, 1) := by decide +kernel
theorem dX12_laysStrip_106 : decode cX12_laysStrip 106 = .ok (.iconst 2, 1) := by decide +kernel
theorem dX12_laysStrip_107 : decode cX12_laysStrip 107 = .ok (.iload 7, 2) := by decide +kernel
theorem dX12_laysStrip_109 : decode cX12_laysStrip 109 = .ok (.iload_n 3, 1) := by decide +kernel
theorem dX12_laysStrip_110 : decode cX12_laysStrip 110 = .ok (.isub, 1) := by decide +kernel
theorem dX12_laysStrip_111 : decode cX12_laysStrip 111 = .ok (.iload 8, 2) := by decide +kernel
theorem dX12_laysStrip_113 : decode cX12_laysStrip 113 = .ok (.iload 4, 2) := by decide +kernel
theorem dX12_laysStrip_115 : decode cX12_laysStrip 115 = .ok (.isub, 1) := by decide +kernel
theorem dX12_laysStrip_116 : decode cX12_laysStrip 116 = .ok (.invokevirtual 206, 3) := by decide +kernel
theorem dX12_laysStrip_119 : decode cX12_laysStrip 119 = .ok (.aload_n 0, 1) := by decide +kernel
theorem dX12_laysStrip_120 : decode cX12_laysStrip 120 = .ok (.iconst 3, 1) := by decide +kernel
theorem dX12_laysStrip_121 : decode cX12_laysStrip 121 = .ok (.iload 5, 2) := by decide +kernel
theorem dX12_laysStrip_123 : decode cX12_laysStrip 123 = .ok (.iload_n 3, 1) := by decide +kernel
theorem dX12_laysStrip_124 : decode cX12_laysStrip 124 = .ok (.isub, 1) := by decide +kernel
theorem dX12_laysStrip_125 : decode cX12_laysStrip 125 = .ok (.iload 6, 2) := by decide +kernel
theorem dX12_laysStrip_127 : decode cX12_laysStrip 127 = .ok (.iload 4, 2) := by decide +kernel
theorem dX12_laysStrip_129 : decode cX12_laysStrip 129 = .ok (.isub, 1) := by decide +kernel
theorem dX12_laysStrip_130 : decode cX12_laysStrip 130 = .ok (.invokevirtual 206, 3) := by decide +kernel
theorem dX12_laysStrip_133 : decode cX12_laysStrip 133 = .ok (.return_, 1) := by decide +kernel
theorem dX12_isUp_0 : decode cX12_isUp 0 = .ok (.lload_n 0, 1) := by decide +kernel
theorem dX12_isUp_1 : decode cX12_isUp 1 = .ok (.lconst 0, 1) := by decide +kernel
theorem dX12_isUp_2 : decode cX12_isUp 2 = .ok (.lcmp, 1) := by decide +kernel
theorem dX12_isUp_3 : decode cX12_isUp 3 = .ok (.ifCond .lt 11, 3) := by decide +kernel
theorem dX12_isUp_6 : decode cX12_isUp 6 = .ok (.lload_n 2, 1) := by decide +kernel
theorem dX12_isUp_7 : decode cX12_isUp 7 = .ok (.lconst 0, 1) := by decide +kernel
theorem dX12_isUp_8 : decode cX12_isUp 8 = .ok (.lcmp, 1) := by decide +kernel
theorem dX12_isUp_9 : decode cX12_isUp 9 = .ok (.ifCond .lt 5, 3) := by decide +kernel
theorem dX12_isUp_12 : decode cX12_isUp 12 = .ok (.iconst 1, 1) := by decide +kernel
theorem dX12_isUp_13 : decode cX12_isUp 13 = .ok (.ireturn, 1) := by decide +kernel
theorem dX12_isUp_14 : decode cX12_isUp 14 = .ok (.lload_n 0, 1) := by decide +kernel
theorem dX12_isUp_15 : decode cX12_isUp 15 = .ok (.lconst 0, 1) := by decide +kernel
theorem dX12_isUp_16 : decode cX12_isUp 16 = .ok (.lcmp, 1) := by decide +kernel
theorem dX12_isUp_17 : decode cX12_isUp 17 = .ok (.ifCond .ge 11, 3) := by decide +kernel
theorem dX12_isUp_20 : decode cX12_isUp 20 = .ok (.lload_n 2, 1) := by decide +kernel
theorem dX12_isUp_21 : decode cX12_isUp 21 = .ok (.lconst 0, 1) := by decide +kernel
theorem dX12_isUp_22 : decode cX12_isUp 22 = .ok (.lcmp, 1) := by decide +kernel
theorem dX12_isUp_23 : decode cX12_isUp 23 = .ok (.ifCond .ge 5, 3) := by decide +kernel
theorem dX12_isUp_26 : decode cX12_isUp 26 = .ok (.iconst 0, 1) := by decide +kernel
theorem dX12_isUp_27 : decode cX12_isUp 27 = .ok (.ireturn, 1) := by decide +kernel
theorem dX12_isUp_28 : decode cX12_isUp 28 = .ok (.lload_n 0, 1) := by decide +kernel
theorem dX12_isUp_29 : decode cX12_isUp 29 = .ok (.lconst 0, 1) := by decide +kernel
theorem dX12_isUp_30 : decode cX12_isUp 30 = .ok (.lcmp, 1) := by decide +kernel
theorem dX12_isUp_31 : decode cX12_isUp 31 = .ok (.ifCond .lt 24, 3) := by decide +kernel
theorem dX12_isUp_34 : decode cX12_isUp 34 = .ok (.lload_n 0, 1) := by decide +kernel
theorem dX12_isUp_35 : decode cX12_isUp 35 = .ok (.lload_n 0, 1) := by decide +kernel
theorem dX12_isUp_36 : decode cX12_isUp 36 = .ok (.lmul, 1) := by decide +kernel
theorem dX12_isUp_37 : decode cX12_isUp 37 = .ok (.lload_n 2, 1) := by decide +kernel
theorem dX12_isUp_38 : decode cX12_isUp 38 = .ok (.lload_n 2, 1) := by decide +kernel
theorem dX12_isUp_39 : decode cX12_isUp 39 = .ok (.lmul, 1) := by decide +kernel
theorem dX12_isUp_40 : decode cX12_isUp 40 = .ok (.lload 4, 2) := by decide +kernel
theorem dX12_isUp_42 : decode cX12_isUp 42 = .ok (.lmul, 1) := by decide +kernel
theorem dX12_isUp_43 : decode cX12_isUp 43 = .ok (.lcmp, 1) := by decide +kernel
theorem dX12_isUp_44 : decode cX12_isUp 44 = .ok (.ifCond .lt 7, 3) := by decide +kernel
theorem dX12_isUp_47 : decode cX12_isUp 47 = .ok (.iconst 1, 1) := by decide +kernel
theorem dX12_isUp_48 : decode cX12_isUp 48 = .ok (.goto 25, 3) := by decide +kernel
theorem dX12_isUp_51 : decode cX12_isUp 51 = .ok (.iconst 0, 1) := by decide +kernel
theorem dX12_isUp_52 : decode cX12_isUp 52 = .ok (.goto 21, 3) := by decide +kernel
theorem dX12_isUp_55 : decode cX12_isUp 55 = .ok (.lload_n 2, 1) := by decide +kernel
theorem dX12_isUp_56 : decode cX12_isUp 56 = .ok (.lload_n 2, 1) := by decide +kernel
theorem dX12_isUp_57 : decode cX12_isUp 57 = .ok (.lmul, 1) := by decide +kernel
theorem dX12_isUp_58 : decode cX12_isUp 58 = .ok (.lload 4, 2) := by decide +kernel
theorem dX12_isUp_60 : decode cX12_isUp 60 = .ok (.lmul, 1) := by decide +kernel
theorem dX12_isUp_61 : decode cX12_isUp 61 = .ok (.lload_n 0, 1) := by decide +kernel
theorem dX12_isUp_62 : decode cX12_isUp 62 = .ok (.lload_n 0, 1) := by decide +kernel
theorem dX12_isUp_63 : decode cX12_isUp 63 = .ok (.lmul, 1) := by decide +kernel
theorem dX12_isUp_64 : decode cX12_isUp 64 = .ok (.lcmp, 1) := by decide +kernel
theorem dX12_isUp_65 : decode cX12_isUp 65 = .ok (.ifCond .lt 7, 3) := by decide +kernel
theorem dX12_isUp_68 : decode cX12_isUp 68 = .ok (.iconst 1, 1) := by decide +kernel
theorem dX12_isUp_69 : decode cX12_isUp 69 = .ok (.goto 4, 3) := by decide +kernel
theorem dX12_isUp_72 : decode cX12_isUp 72 = .ok (.iconst 0, 1) := by decide +kernel
theorem dX12_isUp_73 : decode cX12_isUp 73 = .ok (.ireturn, 1) := by decide +kernel
theorem dX12_isMiter_0 : decode cX12_isMiter 0 = .ok (.aload_n 0, 1) := by decide +kernel
theorem dX12_isMiter_1 : decode cX12_isMiter 1 = .ok (.getfield 19, 3) := by decide +kernel
theorem dX12_isMiter_4 : decode cX12_isMiter 4 = .ok (.iload_n 1, 1) := by decide +kernel
theorem dX12_isMiter_5 : decode cX12_isMiter 5 = .ok (.iaload, 1) := by decide +kernel
theorem dX12_isMiter_6 : decode cX12_isMiter 6 = .ok (.i2l, 1) := by decide +kernel
theorem dX12_isMiter_7 : decode cX12_isMiter 7 = .ok (.aload_n 0, 1) := by decide +kernel
theorem dX12_isMiter_8 : decode cX12_isMiter 8 = .ok (.getfield 19, 3) := by decide +kernel
