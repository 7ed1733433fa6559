theorem dX12_isMiter_11 : decode cX12_isMiter 11 = .ok (.iload_n 2, 1) := by decide +kernel
theorem dX12_isMiter_12 : decode cX12_isMiter 12 = .ok (.iaload, 1) := by decide +kernel
theorem dX12_isMiter_13 : decode cX12_isMiter 13 = .ok (.i2l, 1) := by decide +kernel
theorem dX12_isMiter_14 : decode cX12_isMiter 14 = .ok (.lmul, 1) := by decide +kernel
theorem dX12_isMiter_15 : decode cX12_isMiter 15 = .ok (.aload_n 0, 1) := by decide +kernel
theorem dX12_isMiter_16 : decode cX12_isMiter 16 = .ok (.getfield 22, 3) := by decide +kernel
theorem dX12_isMiter_19 : decode cX12_isMiter 19 = .ok (.iload_n 1, 1) := by decide +kernel
theorem dX12_isMiter_20 : decode cX12_isMiter 20 = .ok (.iaload, 1) := by decide +kernel
theorem dX12_isMiter_21 : decode cX12_isMiter 21 = .ok (.i2l, 1) := by decide +kernel
theorem dX12_isMiter_22 : decode cX12_isMiter 22 = .ok (.aload_n 0, 1) := by decide +kernel
theorem dX12_isMiter_23 : decode cX12_isMiter 23 = .ok (.getfield 22, 3) := by decide +kernel
theorem dX12_isMiter_26 : decode cX12_isMiter 26 = .ok (.iload_n 2, 1) := by decide +kernel
theorem dX12_isMiter_27 : decode cX12_isMiter 27 = .ok (.iaload, 1) := by decide +kernel
theorem dX12_isMiter_28 : decode cX12_isMiter 28 = .ok (.i2l, 1) := by decide +kernel
theorem dX12_isMiter_29 : decode cX12_isMiter 29 = .ok (.lmul, 1) := by decide +kernel
theorem dX12_isMiter_30 : decode cX12_isMiter 30 = .ok (.ladd, 1) := by decide +kernel
theorem dX12_isMiter_31 : decode cX12_isMiter 31 = .ok (.lstore_n 3, 1) := by decide +kernel
theorem dX12_isMiter_32 : decode cX12_isMiter 32 = .ok (.aload_n 0, 1) := by decide +kernel
theorem dX12_isMiter_33 : decode cX12_isMiter 33 = .ok (.getfield 19, 3) := by decide +kernel
theorem dX12_isMiter_36 : decode cX12_isMiter 36 = .ok (.iload_n 1, 1) := by decide +kernel
theorem dX12_isMiter_37 : decode cX12_isMiter 37 = .ok (.iaload, 1) := by decide +kernel
theorem dX12_isMiter_38 : decode cX12_isMiter 38 = .ok (.i2l, 1) := by decide +kernel
theorem dX12_isMiter_39 : decode cX12_isMiter 39 = .ok (.aload_n 0, 1) := by decide +kernel
theorem dX12_isMiter_40 : decode cX12_isMiter 40 = .ok (.getfield 19, 3) := by decide +kernel
theorem dX12_isMiter_43 : decode cX12_isMiter 43 = .ok (.iload_n 1, 1) := by decide +kernel
theorem dX12_isMiter_44 : decode cX12_isMiter 44 = .ok (.iaload, 1) := by decide +kernel
theorem dX12_isMiter_45 : decode cX12_isMiter 45 = .ok (.i2l, 1) := by decide +kernel
theorem dX12_isMiter_46 : decode cX12_isMiter 46 = .ok (.lmul, 1) := by decide +kernel
theorem dX12_isMiter_47 : decode cX12_isMiter 47 = .ok (.aload_n 0, 1) := by decide +kernel
theorem dX12_isMiter_48 : decode cX12_isMiter 48 = .ok (.getfield 22, 3) := by decide +kernel
theorem dX12_isMiter_51 : decode cX12_isMiter 51 = .ok (.iload_n 1, 1) := by decide +kernel
theorem dX12_isMiter_52 : decode cX12_isMiter 52 = .ok (.iaload, 1) := by decide +kernel
theorem dX12_isMiter_53 : decode cX12_isMiter 53 = .ok (.i2l, 1) := by decide +kernel
theorem dX12_isMiter_54 : decode cX12_isMiter 54 = .ok (.aload_n 0, 1) := by decide +kernel
theorem dX12_isMiter_55 : decode cX12_isMiter 55 = .ok (.getfield 22, 3) := by decide +kernel
theorem dX12_isMiter_58 : decode cX12_isMiter 58 = .ok (.iload_n 1, 1) := by decide +kernel
theorem dX12_isMiter_59 : decode cX12_isMiter 59 = .ok (.iaload, 1) := by decide +kernel
theorem dX12_isMiter_60 : decode cX12_isMiter 60 = .ok (.i2l, 1) := by decide +kernel
theorem dX12_isMiter_61 : decode cX12_isMiter 61 = .ok (.lmul, 1) := by decide +kernel
theorem dX12_isMiter_62 : decode cX12_isMiter 62 = .ok (.ladd, 1) := by decide +kernel
theorem dX12_isMiter_63 : decode cX12_isMiter 63 = .ok (.lstore 5, 2) := by decide +kernel
theorem dX12_isMiter_65 : decode cX12_isMiter 65 = .ok (.aload_n 0, 1) := by decide +kernel
theorem dX12_isMiter_66 : decode cX12_isMiter 66 = .ok (.getfield 19, 3) := by decide +kernel
theorem dX12_isMiter_69 : decode cX12_isMiter 69 = .ok (.iload_n 2, 1) := by decide +kernel
theorem dX12_isMiter_70 : decode cX12_isMiter 70 = .ok (.iaload, 1) := by decide +kernel
theorem dX12_isMiter_71 : decode cX12_isMiter 71 = .ok (.i2l, 1) := by decide +kernel
theorem dX12_isMiter_72 : decode cX12_isMiter 72 = .ok (.aload_n 0, 1) := by decide +kernel
theorem dX12_isMiter_73 : decode cX12_isMiter 73 = .ok (.getfield 19, 3) := by decide +kernel
theorem dX12_isMiter_76 : decode cX12_isMiter 76 = .ok (.iload_n 2, 1) := by decide +kernel
theorem dX12_isMiter_77 : decode cX12_isMiter 77 = .ok (.iaload, 1) := by decide +kernel
theorem dX12_isMiter_78 : decode cX12_isMiter 78 = .ok (.i2l, 1) := by decide +kernel
theorem dX12_isMiter_79 : decode cX12_isMiter 79 = .ok (.lmul, 1) := by decide +kernel
theorem dX12_isMiter_80 : decode cX12_isMiter 80 = .ok (.aload_n 0, 1) := by decide +kernel
theorem dX12_isMiter_81 : decode cX12_isMiter 81 = .ok (.getfield 22, 3) := by decide +kernel
theorem dX12_isMiter_84 : decode cX12_isMiter 84 = .ok (.iload_n 2, 1) := by decide +kernel
theorem dX12_isMiter_85 : decode cX12_isMiter 85 = .ok (.iaload, 1) := by decide +kernel
theorem dX12_isMiter_86 : decode cX12_isMiter 86 = .ok (.i2l, 1) := by decide +kernel
theorem dX12_isMiter_87 : decode cX12_isMiter 87 = .ok (.aload_n 0, 1) := by decide +kernel
theorem dX12_isMiter_88 : decode cX12_isMiter 88 = .ok (.getfield 22, 3) := by decide +kernel
theorem dX12_isMiter_91 : decode cX12_isMiter 91 = .ok (.iload_n 2, 1) := by decide +kernel
theorem dX12_isMiter_92 : decode cX12_isMiter 92 = .ok (.iaload, 1) := by decide +kernel
theorem dX12_isMiter_93 : decode cX12_isMiter 93 = .ok (.i2l, 1) := by decide +kernel
theorem dX12_isMiter_94 : decode cX12_isMiter 94 = .ok (.lmul, 1) := by decide +kernel
theorem dX12_isMiter_95 : decode cX12_isMiter 95 = .ok (.ladd, 1) := by decide +kernel
theorem dX12_isMiter_96 : decode cX12_isMiter 96 = .ok (.lstore 7, 2) := by decide +kernel
theorem dX12_isMiter_98 : decode cX12_isMiter 98 = .ok (.aload_n 0, 1) := by decide +kernel
theorem dX12_isMiter_99 : decode cX12_isMiter 99 = .ok (.getfield 7, 3) := by decide +kernel
theorem dX12_isMiter_102 : decode cX12_isMiter 102 = .ok (.iconst 2, 1) := by decide +kernel
theorem dX12_isMiter_103 : decode cX12_isMiter 103 = .ok (.iaload, 1) := by decide +kernel
theorem dX12_isMiter_104 : decode cX12_isMiter 104 = .ok (.aload_n 0, 1) := by decide +kernel
theorem dX12_isMiter_105 : decode cX12_isMiter 105 = .ok (.getfield 7, 3) := by decide +kernel
theorem dX12_isMiter_108 : decode cX12_isMiter 108 = .ok (.iconst 2, 1) := by decide +kernel
theorem dX12_isMiter_109 : decode cX12_isMiter 109 = .ok (.iaload, 1) := by decide +kernel
theorem dX12_isMiter_110 : decode cX12_isMiter 110 = .ok (.imul, 1) := by decide +kernel
theorem dX12_isMiter_111 : decode cX12_isMiter 111 = .ok (.i2l, 1) := by decide +kernel
theorem dX12_isMiter_112 : decode cX12_isMiter 112 = .ok (.lstore 9, 2) := by decide +kernel
theorem dX12_isMiter_114 : decode cX12_isMiter 114 = .ok (.aload_n 0, 1) := by decide +kernel
theorem dX12_isMiter_115 : decode cX12_isMiter 115 = .ok (.getfield 7, 3) := by decide +kernel
theorem dX12_isMiter_118 : decode cX12_isMiter 118 = .ok (.iconst 1, 1) := by decide +kernel
theorem dX12_isMiter_119 : decode cX12_isMiter 119 = .ok (.iaload, 1) := by decide +kernel
theorem dX12_isMiter_120 : decode cX12_isMiter 120 = .ok (.ifCond .ne 28, 3) := by decide +kernel
theorem dX12_isMiter_123 : decode cX12_isMiter 123 = .ok (.lload 9, 2) := by decide +kernel
theorem dX12_isMiter_125 : decode cX12_isMiter 125 = .ok (.lload_n 3, 1) := by decide +kernel
theorem dX12_isMiter_126 : decode cX12_isMiter 126 = .ok (.lmul, 1) := by decide +kernel
theorem dX12_isMiter_127 : decode cX12_isMiter 127 = .ok (.lload 9, 2) := by decide +kernel
theorem dX12_isMiter_129 : decode cX12_isMiter 129 = .ok (.ldc2_w 69, 3) := by decide +kernel
theorem dX12_isMiter_132 : decode cX12_isMiter 132 = .ok (.lsub, 1) := by decide +kernel
theorem dX12_isMiter_133 : decode cX12_isMiter 133 = .ok (.lload 5, 2) := by decide +kernel
theorem dX12_isMiter_135 : decode cX12_isMiter 135 = .ok (.lload 7, 2) := by decide +kernel
theorem dX12_isMiter_137 : decode cX12_isMiter 137 = .ok (.lmul, 1) := by decide +kernel
theorem dX12_isMiter_138 : decode cX12_isMiter 138 = .ok (.invokestatic 216, 3) := by decide +kernel
theorem dX12_isMiter_141 : decode cX12_isMiter 141 = .ok (.ifCond .eq 7, 3) := by decide +kernel
theorem dX12_isMiter_144 : decode cX12_isMiter 144 = .ok (.iconst 1, 1) := by decide +kernel
theorem dX12_isMiter_145 : decode cX12_isMiter 145 = .ok (.goto 4, 3) := by decide +kernel
theorem dX12_isMiter_148 : decode cX12_isMiter 148 = .ok (.iconst 0, 1) := by decide +kernel
theorem dX12_isMiter_149 : decode cX12_isMiter 149 = .ok (.ireturn, 1) := by decide +kernel
theorem dX12_laysJoin_0 : decode cX12_laysJoin 0 = .ok (.aload_n 0, 1) := by decide +kernel
theorem dX12_laysJoin_1 : decode cX12_laysJoin 1 = .ok (.getfield 19, 3) := by decide +kernel
theorem dX12_laysJoin_4 : decode cX12_laysJoin 4 = .ok (.iload_n 1, 1) := by decide +kernel
theorem dX12_laysJoin_5 : decode cX12_laysJoin 5 = .ok (.iaload, 1) := by decide +kernel
theorem dX12_laysJoin_6 : decode cX12_laysJoin 6 = .ok (.aload_n 0, 1) := by decide +kernel
theorem dX12_laysJoin_7 : decode cX12_laysJoin 7 = .ok (.getfield 22, 3) := by decide +kernel
theorem dX12_laysJoin_10 : decode cX12_laysJoin 10 = .ok (.iload_n 2, 1) := by decide +kernel
theorem dX12_laysJoin_11 : decode cX12_laysJoin 11 = .ok (.iaload, 1) := by decide +kernel
theorem dX12_laysJoin_12 : decode cX12_laysJoin 12 = .ok (.imul, 1) := by decide +kernel
theorem dX12_laysJoin_13 : decode cX12_laysJoin 13 = .ok (.aload_n 0, 1) := by decide +kernel
theorem dX12_laysJoin_14 : decode cX12_laysJoin 14 = .ok (.getfield 22, 3) := by decide +kernel
theorem dX12_laysJoin_17 : decode cX12_laysJoin 17 = .ok (.iload_n 1, 1) := by decide +kernel
theorem dX12_laysJoin_18 : decode cX12_laysJoin 18 = .ok (.iaload, 1) := by decide +kernel
theorem dX12_laysJoin_19 : decode cX12_laysJoin 19 = .ok (.aload_n 0, 1) := by decide +kernel
theorem dX12_laysJoin_20 : decode cX12_laysJoin 20 = .ok (.getfield 19, 3) := by decide +kernel
theorem dX12_laysJoin_23 : decode cX12_laysJoin 23 = .ok (.iload_n 2, 1) := by decide +kernel
theorem dX12_laysJoin_24 : decode cX12_laysJoin 24 = .ok (.iaload, 1) := by decide +kernel
theorem dX12_laysJoin_25 : decode cX12_laysJoin 25 = .ok (.imul, 1) := by decide +kernel
theorem dX12_laysJoin_26 : decode cX12_laysJoin 26 = .ok (.isub, 1) := by decide +kernel
theorem dX12_laysJoin_27 : decode cX12_laysJoin 27 = .ok (.istore_n 3, 1) := by decide +kernel
theorem dX12_laysJoin_28 : decode cX12_laysJoin 28 = .ok (.aload_n 0, 1) := by decide +kernel
theorem dX12_laysJoin_29 : decode cX12_laysJoin 29 = .ok (.getfield 19, 3) := by decide +kernel
theorem dX12_laysJoin_32 : decode cX12_laysJoin 32 = .ok (.iload_n 1, 1) := by decide +kernel
theorem dX12_laysJoin_33 : decode cX12_laysJoin 33 = .ok (.iaload, 1) := by decide +kernel
theorem dX12_laysJoin_34 : decode cX12_laysJoin 34 = .ok (.aload_n 0, 1) := by decide +kernel
theorem dX12_laysJoin_35 : decode cX12_laysJoin 35 = .ok (.getfield 19, 3) := by decide +kernel
theorem dX12_laysJoin_38 : decode cX12_laysJoin 38 = .ok (.iload_n 2, 1) := by decide +kernel
theorem dX12_laysJoin_39 : decode cX12_laysJoin 39 = .ok (.iaload, 1) := by decide +kernel
theorem dX12_laysJoin_40 : decode cX12_laysJoin 40 = .ok (.imul, 1) := by decide +kernel
theorem dX12_laysJoin_41 : decode cX12_laysJoin 41 = .ok (.aload_n 0, 1) := by decide +kernel
theorem dX12_laysJoin_42 : decode cX12_laysJoin 42 = .ok (.getfield 22, 3) := by decide +kernel
theorem dX12_laysJoin_45 : decode cX12_laysJoin 45 = .ok (.iload_n 1, 1) := by decide +kernel
theorem dX12_laysJoin_46 : decode cX12_laysJoin 46 = .ok (.iaload, 1) := by decide +kernel
theorem dX12_laysJoin_47 : decode cX12_laysJoin 47 = .ok (.aload_n 0, 1) := by decide +kernel
theorem dX12_laysJoin_48 : decode cX12_laysJoin 48 = .ok (.getfield 22, 3) := by decide +kernel
theorem dX12_laysJoin_51 : decode cX12_laysJoin 51 = .ok (.iload_n 2, 1) := by decide +kernel
theorem dX12_laysJoin_52 : decode cX12_laysJoin 52 = .ok (.iaload, 1) := by decide +kernel
theorem dX12_laysJoin_53 : decode cX12_laysJoin 53 = .ok (.imul, 1) := by decide +kernel
theorem dX12_laysJoin_54 : decode cX12_laysJoin 54 = .ok (.iadd, 1) := by decide +kernel
theorem dX12_laysJoin_55 : decode cX12_laysJoin 55 = .ok (.istore 4, 2) := by decide +kernel
theorem dX12_laysJoin_57 : decode cX12_laysJoin 57 = .ok (.bipush 64, 2) := by decide +kernel
theorem dX12_laysJoin_59 : decode cX12_laysJoin 59 = .ok (.aload_n 0, 1) := by decide +kernel
theorem dX12_laysJoin_60 : decode cX12_laysJoin 60 = .ok (.getfield 25, 3) := by decide +kernel
theorem dX12_laysJoin_63 : decode cX12_laysJoin 63 = .ok (.iload_n 2, 1) := by decide +kernel
theorem dX12_laysJoin_64 : decode cX12_laysJoin 64 = .ok (.iaload, 1) := by decide +kernel
theorem dX12_laysJoin_65 : decode cX12_laysJoin 65 = .ok (.imul, 1) := by decide +kernel
theorem dX12_laysJoin_66 : decode cX12_laysJoin 66 = .ok (.istore 5, 2) := by decide +kernel
theorem dX12_laysJoin_68 : decode cX12_laysJoin 68 = .ok (.bipush 64, 2) := by decide +kernel
theorem dX12_laysJoin_70 : decode cX12_laysJoin 70 = .ok (.aload_n 0, 1) := by decide +kernel
theorem dX12_laysJoin_71 : decode cX12_laysJoin 71 = .ok (.getfield 28, 3) := by decide +kernel
theorem dX12_laysJoin_74 : decode cX12_laysJoin 74 = .ok (.iload_n 2, 1) := by decide +kernel
theorem dX12_laysJoin_75 : decode cX12_laysJoin 75 = .ok (.iaload, 1) := by decide +kernel
theorem dX12_laysJoin_76 : decode cX12_laysJoin 76 = .ok (.imul, 1) := by decide +kernel
theorem dX12_laysJoin_77 : decode cX12_laysJoin 77 = .ok (.istore 6, 2) := by decide +kernel
theorem dX12_laysJoin_79 : decode cX12_laysJoin 79 = .ok (.iload_n 3, 1) := by decide +kernel
theorem dX12_laysJoin_80 : decode cX12_laysJoin 80 = .ok (.ifCond .ne 19, 3) := by decide +kernel
theorem dX12_laysJoin_83 : decode cX12_laysJoin 83 = .ok (.iload 4, 2) := by decide +kernel
theorem dX12_laysJoin_85 : decode cX12_laysJoin 85 = .ok (.ifCond .gt 13, 3) := by decide +kernel
theorem dX12_laysJoin_88 : decode cX12_laysJoin 88 = .ok (.aload_n 0, 1) := by decide +kernel
theorem dX12_laysJoin_89 : decode cX12_laysJoin 89 = .ok (.getfield 7, 3) := by decide +kernel
theorem dX12_laysJoin_92 : decode cX12_laysJoin 92 = .ok (.iconst 1, 1) := by decide +kernel
theorem dX12_laysJoin_93 : decode cX12_laysJoin 93 = .ok (.iaload, 1) := by decide +kernel
theorem dX12_laysJoin_94 : decode cX12_laysJoin 94 = .ok (.iconst 1, 1) := by decide +kernel
theorem dX12_laysJoin_95 : decode cX12_laysJoin 95 = .ok (.if_icmp .eq 4, 3) := by decide +kernel
theorem dX12_laysJoin_98 : decode cX12_laysJoin 98 = .ok (.return_, 1) := by decide +kernel
theorem dX12_laysJoin_99 : decode cX12_laysJoin 99 = .ok (.aload_n 0, 1) := by decide +kernel
theorem dX12_laysJoin_100 : decode cX12_laysJoin 100 = .ok (.getfield 7, 3) := by decide +kernel
theorem dX12_laysJoin_103 : decode cX12_laysJoin 103 = .ok (.iconst 1, 1) := by decide +kernel
theorem dX12_laysJoin_104 : decode cX12_laysJoin 104 = .ok (.iaload, 1) := by decide +kernel
theorem dX12_laysJoin_105 : decode cX12_laysJoin 105 = .ok (.iconst 1, 1) := by decide +kernel
theorem dX12_laysJoin_106 : decode cX12_laysJoin 106 = .ok (.if_icmp .ne 12, 3) := by decide +kernel
theorem dX12_laysJoin_109 : decode cX12_laysJoin 109 = .ok (.aload_n 0, 1) := by decide +kernel
theorem dX12_laysJoin_110 : decode cX12_laysJoin 110 = .ok (.iload 5, 2) := by decide +kernel
theorem dX12_laysJoin_112 : decode cX12_laysJoin 112 = .ok (.iload 6, 2) := by decide +kernel
theorem dX12_laysJoin_114 : decode cX12_laysJoin 114 = .ok (.invokevirtual 220, 3) := by decide +kernel
theorem dX12_laysJoin_117 : decode cX12_laysJoin 117 = .ok (.return_, 1) := by decide +kernel
theorem dX12_laysJoin_118 : decode cX12_laysJoin 118 = .ok (.iload_n 3, 1) := by decide +kernel
theorem dX12_laysJoin_119 : decode cX12_laysJoin 119 = .ok (.ifCond .le 7, 3) := by decide +kernel
theorem dX12_laysJoin_122 : decode cX12_laysJoin 122 = .ok (.iconst (-1), 1) := by decide +kernel
theorem dX12_laysJoin_123 : decode cX12_laysJoin 123 = .ok (.goto 4, 3) := by decide +kernel
theorem dX12_laysJoin_126 : decode cX12_laysJoin 126 = .ok (.iconst 1, 1) := by decide +kernel
theorem dX12_laysJoin_127 : decode cX12_laysJoin 127 = .ok (.istore 7, 2) := by decide +kernel
theorem dX12_laysJoin_129 : decode cX12_laysJoin 129 = .ok (.aload_n 0, 1) := by decide +kernel
theorem dX12_laysJoin_130 : decode cX12_laysJoin 130 = .ok (.iload_n 1, 1) := by decide +kernel
theorem dX12_laysJoin_131 : decode cX12_laysJoin 131 = .ok (.iload_n 2, 1) := by decide +kernel
theorem dX12_laysJoin_132 : decode cX12_laysJoin 132 = .ok (.invokevirtual 223, 3) := by decide +kernel
theorem dX12_laysJoin_135 : decode cX12_laysJoin 135 = .ok (.istore 8, 2) := by decide +kernel
theorem dX12_laysJoin_137 : decode cX12_laysJoin 137 = .ok (.aload_n 0, 1) := by decide +kernel
theorem dX12_laysJoin_138 : decode cX12_laysJoin 138 = .ok (.iload 8, 2) := by decide +kernel
theorem dX12_laysJoin_140 : decode cX12_laysJoin 140 = .ok (.ifCond .eq 7, 3) := by decide +kernel
theorem dX12_laysJoin_143 : decode cX12_laysJoin 143 = .ok (.iconst 1, 1) := by decide +kernel
theorem dX12_laysJoin_144 : decode cX12_laysJoin 144 = .ok (.goto 4, 3) := by decide +kernel
theorem dX12_laysJoin_147 : decode cX12_laysJoin 147 = .ok (.iconst 2, 1) := by decide +kernel
theorem dX12_laysJoin_148 : decode cX12_laysJoin 148 = .ok (.invokevirtual 203, 3) := by decide +kernel
theorem dX12_laysJoin_151 : decode cX12_laysJoin 151 = .ok (.aload_n 0, 1) := by decide +kernel
theorem dX12_laysJoin_152 : decode cX12_laysJoin 152 = .ok (.iconst 0, 1) := by decide +kernel
theorem dX12_laysJoin_153 : decode cX12_laysJoin 153 = .ok (.iload 5, 2) := by decide +kernel
theorem dX12_laysJoin_155 : decode cX12_laysJoin 155 = .ok (.iload 6, 2) := by decide +kernel
theorem dX12_laysJoin_157 : decode cX12_laysJoin 157 = .ok (.invokevirtual 206, 3) := by decide +kernel
theorem dX12_laysJoin_160 : decode cX12_laysJoin 160 = .ok (.aload_n 0, 1) := by decide +kernel
theorem dX12_laysJoin_161 : decode cX12_laysJoin 161 = .ok (.iconst 1, 1) := by decide +kernel
theorem dX12_laysJoin_162 : decode cX12_laysJoin 162 = .ok (.iload 5, 2) := by decide +kernel
theorem dX12_laysJoin_164 : decode cX12_laysJoin 164 = .ok (.iload 7, 2) := by decide +kernel
theorem dX12_laysJoin_166 : decode cX12_laysJoin 166 = .ok (.aload_n 0, 1) := by decide +kernel
theorem dX12_laysJoin_167 : decode cX12_laysJoin 167 = .ok (.iload_n 1, 1) := by decide +kernel
theorem dX12_laysJoin_168 : decode cX12_laysJoin 168 = .ok (.invokevirtual 210, 3) := by decide +kernel
theorem dX12_laysJoin_171 : decode cX12_laysJoin 171 = .ok (.imul, 1) := by decide +kernel
theorem dX12_laysJoin_172 : decode cX12_laysJoin 172 = .ok (.iadd, 1) := by decide +kernel
theorem dX12_laysJoin_173 : decode cX12_laysJoin 173 = .ok (.iload 6, 2) := by decide +kernel
theorem dX12_laysJoin_175 : decode cX12_laysJoin 175 = .ok (.iload 7, 2) := by decide +kernel
theorem dX12_laysJoin_177 : decode cX12_laysJoin 177 = .ok (.aload_n 0, 1) := by decide +kernel
theorem dX12_laysJoin_178 : decode cX12_laysJoin 178 = .ok (.iload_n 1, 1) := by decide +kernel
theorem dX12_laysJoin_179 : decode cX12_laysJoin 179 = .ok (.invokevirtual 213, 3) := by decide +kernel
theorem dX12_laysJoin_182 : decode cX12_laysJoin 182 = .ok (.imul, 1) := by decide +kernel
theorem dX12_laysJoin_183 : decode cX12_laysJoin 183 = .ok (.iadd, 1) := by decide +kernel
theorem dX12_laysJoin_184 : decode cX12_laysJoin 184 = .ok (.invokevirtual 206, 3) := by decide +kernel
theorem dX12_laysJoin_187 : decode cX12_laysJoin 187 = .ok (.iload 8, 2) := by decide +kernel
theorem dX12_laysJoin_189 : decode cX12_laysJoin 189 = .ok (.ifCond .eq 103, 3) := by decide +kernel
theorem dX12_laysJoin_192 : decode cX12_laysJoin 192 = .ok (.aload_n 0, 1) := by decide +kernel
theorem dX12_laysJoin_193 : decode cX12_laysJoin 193 = .ok (.iload_n 1, 1) := by decide +kernel
theorem dX12_laysJoin_194 : decode cX12_laysJoin 194 = .ok (.invokevirtual 210, 3) := by decide +kernel
theorem dX12_laysJoin_197 : decode cX12_laysJoin 197 = .ok (.aload_n 0, 1) := by decide +kernel
theorem dX12_laysJoin_198 : decode cX12_laysJoin 198 = .ok (.iload_n 2, 1) := by decide +kernel
theorem dX12_laysJoin_199 : decode cX12_laysJoin 199 = .ok (.invokevirtual 210, 3) := by decide +kernel
theorem dX12_laysJoin_202 : decode cX12_laysJoin 202 = .ok (.iadd, 1) := by decide +kernel
theorem dX12_laysJoin_203 : decode cX12_laysJoin 203 = .ok (.i2l, 1) := by decide +kernel
theorem dX12_laysJoin_204 : decode cX12_laysJoin 204 = .ok (.lstore 9, 2) := by decide +kernel
theorem dX12_laysJoin_206 : decode cX12_laysJoin 206 = .ok (.aload_n 0, 1) := by decide +kernel
theorem dX12_laysJoin_207 : decode cX12_laysJoin 207 = .ok (.iload_n 1, 1) := by decide +kernel
theorem dX12_laysJoin_208 : decode cX12_laysJoin 208 = .ok (.invokevirtual 213, 3) := by decide +kernel
theorem dX12_laysJoin_211 : decode cX12_laysJoin 211 = .ok (.aload_n 0, 1) := by decide +kernel
theorem dX12_laysJoin_212 : decode cX12_laysJoin 212 = .ok (.iload_n 2, 1) := by decide +kernel
theorem dX12_laysJoin_213 : decode cX12_laysJoin 213 = .ok (.invokevirtual 213, 3) := by decide +kernel
theorem dX12_laysJoin_216 : decode cX12_laysJoin 216 = .ok (.iadd, 1) := by decide +kernel
theorem dX12_laysJoin_217 : decode cX12_laysJoin 217 = .ok (.i2l, 1) := by decide +kernel
theorem dX12_laysJoin_218 : decode cX12_laysJoin 218 = .ok (.lstore 11, 2) := by decide +kernel
theorem dX12_laysJoin_220 : decode cX12_laysJoin 220 = .ok (.ldc2_w 69, 3) := by decide +kernel
theorem dX12_laysJoin_223 : decode cX12_laysJoin 223 = .ok (.aload_n 0, 1) := by decide +kernel
theorem dX12_laysJoin_224 : decode cX12_laysJoin 224 = .ok (.invokevirtual 199, 3) := by decide +kernel
theorem dX12_laysJoin_227 : decode cX12_laysJoin 227 = .ok (.i2l, 1) := by decide +kernel
theorem dX12_laysJoin_228 : decode cX12_laysJoin 228 = .ok (.lmul, 1) := by decide +kernel
theorem dX12_laysJoin_229 : decode cX12_laysJoin 229 = .ok (.aload_n 0, 1) := by decide +kernel
theorem dX12_laysJoin_230 : decode cX12_laysJoin 230 = .ok (.invokevirtual 199, 3) := by decide +kernel
theorem dX12_laysJoin_233 : decode cX12_laysJoin 233 = .ok (.i2l, 1) := by decide +kernel
theorem dX12_laysJoin_234 : decode cX12_laysJoin 234 = .ok (.lmul, 1) := by decide +kernel
theorem dX12_laysJoin_235 : decode cX12_laysJoin 235 = .ok (.lstore 13, 2) := by decide +kernel
theorem dX12_laysJoin_237 : decode cX12_laysJoin 237 = .ok (.aload_n 0, 1) := by decide +kernel
theorem dX12_laysJoin_238 : decode cX12_laysJoin 238 = .ok (.iconst 2, 1) := by decide +kernel
theorem dX12_laysJoin_239 : decode cX12_laysJoin 239 = .ok (.iload 5, 2) := by decide +kernel
theorem dX12_laysJoin_241 : decode cX12_laysJoin 241 = .ok (.iload 7, 2) := by decide +kernel
theorem dX12_laysJoin_243 : decode cX12_laysJoin 243 = .ok (.lload 13, 2) := by decide +kernel
theorem dX12_laysJoin_245 : decode cX12_laysJoin 245 = .ok (.lload 9, 2) := by decide +kernel
theorem dX12_laysJoin_247 : decode cX12_laysJoin 247 = .ok (.lmul, 1) := by decide +kernel
theorem dX12_laysJoin_248 : decode cX12_laysJoin 248 = .ok (.lload 9, 2) := by decide +kernel
theorem dX12_laysJoin_250 : decode cX12_laysJoin 250 = .ok (.lload 9, 2) := by decide +kernel
theorem dX12_laysJoin_252 : decode cX12_laysJoin 252 = .ok (.lmul, 1) := by decide +kernel
theorem dX12_laysJoin_253 : decode cX12_laysJoin 253 = .ok (.lload 11, 2) := by decide +kernel
theorem dX12_laysJoin_255 : decode cX12_laysJoin 255 = .ok (.lload 11, 2) := by decide +kernel
theorem dX12_laysJoin_257 : decode cX12_laysJoin 257 = .ok (.lmul, 1) := by decide +kernel
theorem dX12_laysJoin_258 : decode cX12_laysJoin 258 = .ok (.ladd, 1) := by decide +kernel
theorem dX12_laysJoin_259 : decode cX12_laysJoin 259 = .ok (.invokestatic 153, 3) := by decide +kernel
theorem dX12_laysJoin_262 : decode cX12_laysJoin 262 = .ok (.imul, 1) := by decide +kernel
theorem dX12_laysJoin_263 : decode cX12_laysJoin 263 = .ok (.iadd, 1) := by decide +kernel
theorem dX12_laysJoin_264 : decode cX12_laysJoin 264 = .ok (.iload 6, 2) := by decide +kernel
theorem dX12_laysJoin_266 : decode cX12_laysJoin 266 = .ok (.iload 7, 2) := by decide +kernel
theorem dX12_laysJoin_268 : decode cX12_laysJoin 268 = .ok (.lload 13, 2) := by decide +kernel
theorem dX12_laysJoin_270 : decode cX12_laysJoin 270 = .ok (.lload 11, 2) := by decide +kernel
theorem dX12_laysJoin_272 : decode cX12_laysJoin 272 = .ok (.lmul, 1) := by decide +kernel
theorem dX12_laysJoin_273 : decode cX12_laysJoin 273 = .ok (.lload 9, 2) := by decide +kernel
theorem dX12_laysJoin_275 : decode cX12_laysJoin 275 = .ok (.lload 9, 2) := by decide +kernel
theorem dX12_laysJoin_277 : decode cX12_laysJoin 277 = .ok (.lmul, 1) := by decide +kernel
theorem dX12_laysJoin_278 : decode cX12_laysJoin 278 = .ok (.lload 11, 2) := by decide +kernel
theorem dX12_laysJoin_280 : decode cX12_laysJoin 280 = .ok (.lload 11, 2) := by decide +kernel
theorem dX12_laysJoin_282 : decode cX12_laysJoin 282 = .ok (.lmul, 1) := by decide +kernel
theorem dX12_laysJoin_283 : decode cX12_laysJoin 283 = .ok (.ladd, 1) := by decide +kernel
theorem dX12_laysJoin_284 : decode cX12_laysJoin 284 = .ok (.invokestatic 153, 3) := by decide +kernel
theorem dX12_laysJoin_287 : decode cX12_laysJoin 287 = .ok (.imul, 1) := by decide +kernel
theorem dX12_laysJoin_288 : decode cX12_laysJoin 288 = .ok (.iadd, 1) := by decide +kernel
theorem dX12_laysJoin_289 : decode cX12_laysJoin 289 = .ok (.invokevirtual 206, 3) := by decide +kernel
theorem dX12_laysJoin_292 : decode cX12_laysJoin 292 = .ok (.aload_n 0, 1) := by decide +kernel
theorem dX12_laysJoin_293 : decode cX12_laysJoin 293 = .ok (.iload 8, 2) := by decide +kernel
theorem dX12_laysJoin_295 : decode cX12_laysJoin 295 = .ok (.ifCond .eq 7, 3) := by decide +kernel
theorem dX12_laysJoin_298 : decode cX12_laysJoin 298 = .ok (.iconst 3, 1) := by decide +kernel
theorem dX12_laysJoin_299 : decode cX12_laysJoin 299 = .ok (.goto 4, 3) := by decide +kernel
theorem dX12_laysJoin_302 : decode cX12_laysJoin 302 = .ok (.iconst 2, 1) := by decide +kernel
theorem dX12_laysJoin_303 : decode cX12_laysJoin 303 = .ok (.iload 5, 2) := by decide +kernel
theorem dX12_laysJoin_305 : decode cX12_laysJoin 305 = .ok (.iload 7, 2) := by decide +kernel
theorem dX12_laysJoin_307 : decode cX12_laysJoin 307 = .ok (.aload_n 0, 1) := by decide +kernel
theorem dX12_laysJoin_308 : decode cX12_laysJoin 308 = .ok (.iload_n 2, 1) := by decide +kernel
theorem dX12_laysJoin_309 : decode cX12_laysJoin 309 = .ok (.invokevirtual 210, 3) := by decide +kernel
theorem dX12_laysJoin_312 : decode cX12_laysJoin 312 = .ok (.imul, 1) := by decide +kernel
theorem dX12_laysJoin_313 : decode cX12_laysJoin 313 = .ok (.iadd, 1) := by decide +kernel
theorem dX12_laysJoin_314 : decode cX12_laysJoin 314 = .ok (.iload 6, 2) := by decide +kernel
theorem dX12_laysJoin_316 : decode cX12_laysJoin 316 = .ok (.iload 7, 2) := by decide +kernel
theorem dX12_laysJoin_318 : decode cX12_laysJoin 318 = .ok (.aload_n 0, 1) := by decide +kernel
theorem dX12_laysJoin_319 : decode cX12_laysJoin 319 = .ok (.iload_n 2, 1) := by decide +kernel
theorem dX12_laysJoin_320 : decode cX12_laysJoin 320 = .ok (.invokevirtual 213, 3) := by decide +kernel
theorem dX12_laysJoin_323 : decode cX12_laysJoin 323 = .ok (.imul, 1) := by decide +kernel
theorem dX12_laysJoin_324 : decode cX12_laysJoin 324 = .ok (.iadd, 1) := by decide +kernel
theorem dX12_laysJoin_325 : decode cX12_laysJoin 325 = .ok (.invokevirtual 206, 3) := by decide +kernel
theorem dX12_laysJoin_328 : decode cX12_laysJoin 328 = .ok (.return_, 1) := by decide +kernel
theorem dX12_laysCap_0 : decode cX12_laysCap 0 = .ok (.aload_n 0, 1) := by decide +kernel
theorem dX12_laysCap_1 : decode cX12_laysCap 1 = .ok (.iload_n 1, 1) := by decide +kernel
theorem dX12_laysCap_2 : decode cX12_laysCap 2 = .ok (.iload_n 2, 1) := by decide +kernel
theorem dX12_laysCap_3 : decode cX12_laysCap 3 = .ok (.invokevirtual 163, 3) := by decide +kernel
theorem dX12_laysCap_6 : decode cX12_laysCap 6 = .ok (.istore 4, 2) := by decide +kernel
theorem dX12_laysCap_8 : decode cX12_laysCap 8 = .ok (.aload_n 0, 1) := by decide +kernel
theorem dX12_laysCap_9 : decode cX12_laysCap 9 = .ok (.iload_n 1, 1) := by decide +kernel
theorem dX12_laysCap_10 : decode cX12_laysCap 10 = .ok (.iload_n 2, 1) := by decide +kernel
theorem dX12_laysCap_11 : decode cX12_laysCap 11 = .ok (.invokevirtual 160, 3) := by decide +kernel
theorem dX12_laysCap_14 : decode cX12_laysCap 14 = .ok (.istore 5, 2) := by decide +kernel
theorem dX12_laysCap_16 : decode cX12_laysCap 16 = .ok (.aload_n 0, 1) := by decide +kernel
theorem dX12_laysCap_17 : decode cX12_laysCap 17 = .ok (.getfield 7, 3) := by decide +kernel
theorem dX12_laysCap_20 : decode cX12_laysCap 20 = .ok (.iconst 3, 1) := by decide +kernel
theorem dX12_laysCap_21 : decode cX12_laysCap 21 = .ok (.iaload, 1) := by decide +kernel
theorem dX12_laysCap_22 : decode cX12_laysCap 22 = .ok (.iconst 1, 1) := by decide +kernel
theorem dX12_laysCap_23 : decode cX12_laysCap 23 = .ok (.if_icmp .ne 14, 3) := by decide +kernel
theorem dX12_laysCap_26 : decode cX12_laysCap 26 = .ok (.aload_n 0, 1) := by decide +kernel
theorem dX12_laysCap_27 : decode cX12_laysCap 27 = .ok (.iload 4, 2) := by decide +kernel
theorem dX12_laysCap_29 : decode cX12_laysCap 29 = .ok (.iload 5, 2) := by decide +kernel
theorem dX12_laysCap_31 : decode cX12_laysCap 31 = .ok (.invokevirtual 220, 3) := by decide +kernel
theorem dX12_laysCap_34 : decode cX12_laysCap 34 = .ok (.goto 122, 3) := by decide +kernel
theorem dX12_laysCap_37 : decode cX12_laysCap 37 = .ok (.aload_n 0, 1) := by decide +kernel
theorem dX12_laysCap_38 : decode cX12_laysCap 38 = .ok (.getfield 7, 3) := by decide +kernel
theorem dX12_laysCap_41 : decode cX12_laysCap 41 = .ok (.iconst 3, 1) := by decide +kernel
theorem dX12_laysCap_42 : decode cX12_laysCap 42 = .ok (.iaload, 1) := by decide +kernel
theorem dX12_laysCap_43 : decode cX12_laysCap 43 = .ok (.iconst 2, 1) := by decide +kernel
theorem dX12_laysCap_44 : decode cX12_laysCap 44 = .ok (.if_icmp .ne 112, 3) := by decide +kernel
theorem dX12_laysCap_47 : decode cX12_laysCap 47 = .ok (.aload_n 0, 1) := by decide +kernel
theorem dX12_laysCap_48 : decode cX12_laysCap 48 = .ok (.iload_n 1, 1) := by decide +kernel
theorem dX12_laysCap_49 : decode cX12_laysCap 49 = .ok (.invokevirtual 210, 3) := by decide +kernel
theorem dX12_laysCap_52 : decode cX12_laysCap 52 = .ok (.istore 6, 2) := by decide +kernel
theorem dX12_laysCap_54 : decode cX12_laysCap 54 = .ok (.aload_n 0, 1) := by decide +kernel
theorem dX12_laysCap_55 : decode cX12_laysCap 55 = .ok (.iload_n 1, 1) := by decide +kernel
theorem dX12_laysCap_56 : decode cX12_laysCap 56 = .ok (.invokevirtual 213, 3) := by decide +kernel
theorem dX12_laysCap_59 : decode cX12_laysCap 59 = .ok (.istore 7, 2) := by decide +kernel
theorem dX12_laysCap_61 : decode cX12_laysCap 61 = .ok (.iload_n 3, 1) := by decide +kernel
theorem dX12_laysCap_62 : decode cX12_laysCap 62 = .ok (.aload_n 0, 1) := by decide +kernel
theorem dX12_laysCap_63 : decode cX12_laysCap 63 = .ok (.iload_n 1, 1) := by decide +kernel
theorem dX12_laysCap_64 : decode cX12_laysCap 64 = .ok (.invokevirtual 226, 3) := by decide +kernel
theorem dX12_laysCap_67 : decode cX12_laysCap 67 = .ok (.imul, 1) := by decide +kernel
theorem dX12_laysCap_68 : decode cX12_laysCap 68 = .ok (.istore 8, 2) := by decide +kernel
theorem dX12_laysCap_70 : decode cX12_laysCap 70 = .ok (.iload_n 3, 1) := by decide +kernel
theorem dX12_laysCap_71 : decode cX12_laysCap 71 = .ok (.aload_n 0, 1) := by decide +kernel
theorem dX12_laysCap_72 : decode cX12_laysCap 72 = .ok (.iload_n 1, 1) := by decide +kernel
theorem dX12_laysCap_73 : decode cX12_laysCap 73 = .ok (.invokevirtual 229, 3) := by decide +kernel
theorem dX12_laysCap_76 : decode cX12_laysCap 76 = .ok (.imul, 1) := by decide +kernel
theorem dX12_laysCap_77 : decode cX12_laysCap 77 = .ok (.istore 9, 2) := by decide +kernel
theorem dX12_laysCap_79 : decode cX12_laysCap 79 = .ok (.aload_n 0, 1) := by decide +kernel
theorem dX12_laysCap_80 : decode cX12_laysCap 80 = .ok (.iconst 4, 1) := by decide +kernel
theorem dX12_laysCap_81 : decode cX12_laysCap 81 = .ok (.invokevirtual 203, 3) := by decide +kernel
theorem dX12_laysCap_84 : decode cX12_laysCap 84 = .ok (.aload_n 0, 1) := by decide +kernel
theorem dX12_laysCap_85 : decode cX12_laysCap 85 = .ok (.iconst 0, 1) := by decide +kernel
theorem dX12_laysCap_86 : decode cX12_laysCap 86 = .ok (.iload 4, 2) := by decide +kernel
theorem dX12_laysCap_88 : decode cX12_laysCap 88 = .ok (.iload 6, 2) := by decide +kernel
theorem dX12_laysCap_90 : decode cX12_laysCap 90 = .ok (.iadd, 1) := by decide +kernel
theorem dX12_laysCap_91 : decode cX12_laysCap 91 = .ok (.iload 5, 2) := by decide +kernel
theorem dX12_laysCap_93 : decode cX12_laysCap 93 = .ok (.iload 7, 2) := by decide +kernel
theorem dX12_laysCap_95 : decode cX12_laysCap 95 = .ok (.iadd, 1) := by decide +kernel
theorem dX12_laysCap_96 : decode cX12_laysCap 96 = .ok (.invokevirtual 206, 3) := by decide +kernel
theorem dX12_laysCap_99 : decode cX12_laysCap 99 = .ok (.aload_n 0, 1) := by decide +kernel
theorem dX12_laysCap_100 : decode cX12_laysCap 100 = .ok (.iconst 1, 1) := by decide +kernel
theorem dX12_laysCap_101 : decode cX12_laysCap 101 = .ok (.iload 4, 2) := by decide +kernel
theorem dX12_laysCap_103 : decode cX12_laysCap 103 = .ok (.iload 6, 2) := by decide +kernel
theorem dX12_laysCap_105 : decode cX12_laysCap 105 = .ok (.iadd, 1) := by decide +kernel
theorem dX12_laysCap_106 : decode cX12_laysCap 106 = .ok (.iload 8, 2) := by decide +kernel
theorem dX12_laysCap_108 : decode cX12_laysCap 108 = .ok (.iadd, 1) := by decide +kernel
theorem dX12_laysCap_109 : decode cX12_laysCap 109 = .ok (.iload 5, 2) := by decide +kernel
theorem dX12_laysCap_111 : decode cX12_laysCap 111 = .ok (.iload 7, 2) := by decide +kernel
theorem dX12_laysCap_113 : decode cX12_laysCap 113 = .ok (.iadd, 1) := by decide +kernel
theorem dX12_laysCap_114 : decode cX12_laysCap 114 = .ok (.iload 9, 2) := by decide +kernel
theorem dX12_laysCap_116 : decode cX12_laysCap 116 = .ok (.iadd, 1) := by decide +kernel
theorem dX12_laysCap_117 : decode cX12_laysCap 117 = .ok (.invokevirtual 206, 3) := by decide +kernel
theorem dX12_laysCap_120 : decode cX12_laysCap 120 = .ok (.aload_n 0, 1) := by decide +kernel
theorem dX12_laysCap_121 : decode cX12_laysCap 121 = .ok (.iconst 2, 1) := by decide +kernel
theorem dX12_laysCap_122 : decode cX12_laysCap 122 = .ok (.iload 4, 2) := by decide +kernel
theorem dX12_laysCap_124 : decode cX12_laysCap 124 = .ok (.iload 6, 2) := by decide +kernel
theorem dX12_laysCap_126 : decode cX12_laysCap 126 = .ok (.isub, 1) := by decide +kernel
theorem dX12_laysCap_127 : decode cX12_laysCap 127 = .ok (.iload 8, 2) := by decide +kernel
theorem dX12_laysCap_129 : decode cX12_laysCap 129 = .ok (.iadd, 1) := by decide +kernel
theorem dX12_laysCap_130 : decode cX12_laysCap 130 = .ok (.iload 5, 2) := by decide +kernel
theorem dX12_laysCap_132 : decode cX12_laysCap 132 = .ok (.iload 7, 2) := by decide +kernel
theorem dX12_laysCap_134 : decode cX12_laysCap 134 = .ok (.isub, 1) := by decide +kernel
theorem dX12_laysCap_135 : decode cX12_laysCap 135 = .ok (.iload 9, 2) := by decide +kernel
theorem dX12_laysCap_137 : decode cX12_laysCap 137 = .ok (.iadd, 1) := by decide +kernel
theorem dX12_laysCap_138 : decode cX12_laysCap 138 = .ok (.invokevirtual 206, 3) := by decide +kernel
theorem dX12_laysCap_141 : decode cX12_laysCap 141 = .ok (.aload_n 0, 1) := by decide +kernel
theorem dX12_laysCap_142 : decode cX12_laysCap 142 = .ok (.iconst 3, 1) := by decide +kernel
theorem dX12_laysCap_143 : decode cX12_laysCap 143 = .ok (.iload 4, 2) := by decide +kernel
theorem dX12_laysCap_145 : decode cX12_laysCap 145 = .ok (.iload 6, 2) := by decide +kernel
theorem dX12_laysCap_147 : decode cX12_laysCap 147 = .ok (.isub, 1) := by decide +kernel
theorem dX12_laysCap_148 : decode cX12_laysCap 148 = .ok (.iload 5, 2) := by decide +kernel
theorem dX12_laysCap_150 : decode cX12_laysCap 150 = .ok (.iload 7, 2) := by decide +kernel
theorem dX12_laysCap_152 : decode cX12_laysCap 152 = .ok (.isub, 1) := by decide +kernel
theorem dX12_laysCap_153 : decode cX12_laysCap 153 = .ok (.invokevirtual 206, 3) := by decide +kernel
theorem dX12_laysCap_156 : decode cX12_laysCap 156 = .ok (.return_, 1) := by decide +kernel
theorem dX12_laysRun_0 : decode cX12_laysRun 0 = .ok (.aload_n 0, 1) := by decide +kernel
theorem dX12_laysRun_1 : decode cX12_laysRun 1 = .ok (.iload_n 1, 1) := by decide +kernel
theorem dX12_laysRun_2 : decode cX12_laysRun 2 = .ok (.invokevirtual 188, 3) := by decide +kernel
theorem dX12_laysRun_5 : decode cX12_laysRun 5 = .ok (.iconst 0, 1) := by decide +kernel
theorem dX12_laysRun_6 : decode cX12_laysRun 6 = .ok (.istore_n 2, 1) := by decide +kernel
theorem dX12_laysRun_7 : decode cX12_laysRun 7 = .ok (.iload_n 2, 1) := by decide +kernel
theorem dX12_laysRun_8 : decode cX12_laysRun 8 = .ok (.aload_n 0, 1) := by decide +kernel
theorem dX12_laysRun_9 : decode cX12_laysRun 9 = .ok (.getfield 179, 3) := by decide +kernel
theorem dX12_laysRun_12 : decode cX12_laysRun 12 = .ok (.if_icmp .ge 79, 3) := by decide +kernel
theorem dX12_laysRun_15 : decode cX12_laysRun 15 = .ok (.aload_n 0, 1) := by decide +kernel
theorem dX12_laysRun_16 : decode cX12_laysRun 16 = .ok (.iload_n 2, 1) := by decide +kernel
theorem dX12_laysRun_17 : decode cX12_laysRun 17 = .ok (.invokevirtual 232, 3) := by decide +kernel
theorem dX12_laysRun_20 : decode cX12_laysRun 20 = .ok (.iload_n 2, 1) := by decide +kernel
theorem dX12_laysRun_21 : decode cX12_laysRun 21 = .ok (.iconst 1, 1) := by decide +kernel
theorem dX12_laysRun_22 : decode cX12_laysRun 22 = .ok (.iadd, 1) := by decide +kernel
theorem dX12_laysRun_23 : decode cX12_laysRun 23 = .ok (.aload_n 0, 1) := by decide +kernel
theorem dX12_laysRun_24 : decode cX12_laysRun 24 = .ok (.getfield 179, 3) := by decide +kernel
theorem dX12_laysRun_27 : decode cX12_laysRun 27 = .ok (.if_icmp .ge 9, 3) := by decide +kernel
theorem dX12_laysRun_30 : decode cX12_laysRun 30 = .ok (.iload_n 2, 1) := by decide +kernel
theorem dX12_laysRun_31 : decode cX12_laysRun 31 = .ok (.iconst 1, 1) := by decide +kernel
theorem dX12_laysRun_32 : decode cX12_laysRun 32 = .ok (.iadd, 1) := by decide +kernel
theorem dX12_laysRun_33 : decode cX12_laysRun 33 = .ok (.goto 15, 3) := by decide +kernel
theorem dX12_laysRun_36 : decode cX12_laysRun 36 = .ok (.aload_n 0, 1) := by decide +kernel
theorem dX12_laysRun_37 : decode cX12_laysRun 37 = .ok (.getfield 172, 3) := by decide +kernel
theorem dX12_laysRun_40 : decode cX12_laysRun 40 = .ok (.ifCond .eq 7, 3) := by decide +kernel
theorem dX12_laysRun_43 : decode cX12_laysRun 43 = .ok (.iconst 0, 1) := by decide +kernel
theorem dX12_laysRun_44 : decode cX12_laysRun 44 = .ok (.goto 4, 3) := by decide +kernel
theorem dX12_laysRun_47 : decode cX12_laysRun 47 = .ok (.iconst (-1), 1) := by decide +kernel
theorem dX12_laysRun_48 : decode cX12_laysRun 48 = .ok (.istore_n 3, 1) := by decide +kernel
theorem dX12_laysRun_49 : decode cX12_laysRun 49 = .ok (.iload_n 3, 1) := by decide +kernel
theorem dX12_laysRun_50 : decode cX12_laysRun 50 = .ok (.iconst (-1), 1) := by decide +kernel
theorem dX12_laysRun_51 : decode cX12_laysRun 51 = .ok (.if_icmp .eq 34, 3) := by decide +kernel
theorem dX12_laysRun_54 : decode cX12_laysRun 54 = .ok (.aload_n 0, 1) := by decide +kernel
theorem dX12_laysRun_55 : decode cX12_laysRun 55 = .ok (.getfield 43, 3) := by decide +kernel
theorem dX12_laysRun_58 : decode cX12_laysRun 58 = .ok (.iload_n 3, 1) := by decide +kernel
theorem dX12_laysRun_59 : decode cX12_laysRun 59 = .ok (.iaload, 1) := by decide +kernel
theorem dX12_laysRun_60 : decode cX12_laysRun 60 = .ok (.aload_n 0, 1) := by decide +kernel
theorem dX12_laysRun_61 : decode cX12_laysRun 61 = .ok (.getfield 43, 3) := by decide +kernel
theorem dX12_laysRun_64 : decode cX12_laysRun 64 = .ok (.iload_n 2, 1) := by decide +kernel
theorem dX12_laysRun_65 : decode cX12_laysRun 65 = .ok (.iaload, 1) := by decide +kernel
theorem dX12_laysRun_66 : decode cX12_laysRun 66 = .ok (.if_icmp .eq 19, 3) := by decide +kernel
theorem dX12_laysRun_69 : decode cX12_laysRun 69 = .ok (.aload_n 0, 1) := by decide +kernel
theorem dX12_laysRun_70 : decode cX12_laysRun 70 = .ok (.aload_n 0, 1) := by decide +kernel
theorem dX12_laysRun_71 : decode cX12_laysRun 71 = .ok (.getfield 43, 3) := by decide +kernel
theorem dX12_laysRun_74 : decode cX12_laysRun 74 = .ok (.iload_n 2, 1) := by decide +kernel
theorem dX12_laysRun_75 : decode cX12_laysRun 75 = .ok (.iaload, 1) := by decide +kernel
theorem dX12_laysRun_76 : decode cX12_laysRun 76 = .ok (.aload_n 0, 1) := by decide +kernel
theorem dX12_laysRun_77 : decode cX12_laysRun 77 = .ok (.getfield 43, 3) := by decide +kernel
theorem dX12_laysRun_80 : decode cX12_laysRun 80 = .ok (.iload_n 3, 1) := by decide +kernel
theorem dX12_laysRun_81 : decode cX12_laysRun 81 = .ok (.iaload, 1) := by decide +kernel
theorem dX12_laysRun_82 : decode cX12_laysRun 82 = .ok (.invokevirtual 235, 3) := by decide +kernel
theorem dX12_laysRun_85 : decode cX12_laysRun 85 = .ok (.iinc 2 1, 3) := by decide +kernel
theorem dX12_laysRun_88 : decode cX12_laysRun 88 = .ok (.goto (-81), 3) := by decide +kernel
theorem dX12_laysRun_91 : decode cX12_laysRun 91 = .ok (.aload_n 0, 1) := by decide +kernel
theorem dX12_laysRun_92 : decode cX12_laysRun 92 = .ok (.getfield 172, 3) := by decide +kernel
theorem dX12_laysRun_95 : decode cX12_laysRun 95 = .ok (.ifCond .ne 47, 3) := by decide +kernel
theorem dX12_laysRun_98 : decode cX12_laysRun 98 = .ok (.aload_n 0, 1) := by decide +kernel
theorem dX12_laysRun_99 : decode cX12_laysRun 99 = .ok (.aload_n 0, 1) := by decide +kernel
theorem dX12_laysRun_100 : decode cX12_laysRun 100 = .ok (.getfield 43, 3) := by decide +kernel
theorem dX12_laysRun_103 : decode cX12_laysRun 103 = .ok (.iconst 0, 1) := by decide +kernel
theorem dX12_laysRun_104 : decode cX12_laysRun 104 = .ok (.iaload, 1) := by decide +kernel
theorem dX12_laysRun_105 : decode cX12_laysRun 105 = .ok (.aload_n 0, 1) := by decide +kernel
theorem dX12_laysRun_106 : decode cX12_laysRun 106 = .ok (.getfield 46, 3) := by decide +kernel
theorem dX12_laysRun_109 : decode cX12_laysRun 109 = .ok (.iconst 0, 1) := by decide +kernel
theorem dX12_laysRun_110 : decode cX12_laysRun 110 = .ok (.iaload, 1) := by decide +kernel
theorem dX12_laysRun_111 : decode cX12_laysRun 111 = .ok (.iconst (-1), 1) := by decide +kernel
theorem dX12_laysRun_112 : decode cX12_laysRun 112 = .ok (.invokevirtual 238, 3) := by decide +kernel
theorem dX12_laysRun_115 : decode cX12_laysRun 115 = .ok (.aload_n 0, 1) := by decide +kernel
theorem dX12_laysRun_116 : decode cX12_laysRun 116 = .ok (.aload_n 0, 1) := by decide +kernel
theorem dX12_laysRun_117 : decode cX12_laysRun 117 = .ok (.getfield 43, 3) := by decide +kernel
theorem dX12_laysRun_120 : decode cX12_laysRun 120 = .ok (.aload_n 0, 1) := by decide +kernel
theorem dX12_laysRun_121 : decode cX12_laysRun 121 = .ok (.getfield 179, 3) := by decide +kernel
theorem dX12_laysRun_124 : decode cX12_laysRun 124 = .ok (.iconst 1, 1) := by decide +kernel
theorem dX12_laysRun_125 : decode cX12_laysRun 125 = .ok (.isub, 1) := by decide +kernel
theorem dX12_laysRun_126 : decode cX12_laysRun 126 = .ok (.iaload, 1) := by decide +kernel
theorem dX12_laysRun_127 : decode cX12_laysRun 127 = .ok (.aload_n 0, 1) := by decide +kernel
theorem dX12_laysRun_128 : decode cX12_laysRun 128 = .ok (.getfield 49, 3) := by decide +kernel
theorem dX12_laysRun_131 : decode cX12_laysRun 131 = .ok (.aload_n 0, 1) := by decide +kernel
theorem dX12_laysRun_132 : decode cX12_laysRun 132 = .ok (.getfield 179, 3) := by decide +kernel
theorem dX12_laysRun_135 : decode cX12_laysRun 135 = .ok (.iconst 1, 1) := by decide +kernel
theorem dX12_laysRun_136 : decode cX12_laysRun 136 = .ok (.isub, 1) := by decide +kernel
theorem dX12_laysRun_137 : decode cX12_laysRun 137 = .ok (.iaload, 1) := by decide +kernel
theorem dX12_laysRun_138 : decode cX12_laysRun 138 = .ok (.iconst 1, 1) := by decide +kernel
theorem dX12_laysRun_139 : decode cX12_laysRun 139 = .ok (.invokevirtual 238, 3) := by decide +kernel
theorem dX12_laysRun_142 : decode cX12_laysRun 142 = .ok (.return_, 1) := by decide +kernel
theorem dX12_laysPoint_0 : decode cX12_laysPoint 0 = .ok (.bipush 64, 2) := by decide +kernel
theorem dX12_laysPoint_2 : decode cX12_laysPoint 2 = .ok (.aload_n 0, 1) := by decide +kernel
theorem dX12_laysPoint_3 : decode cX12_laysPoint 3 = .ok (.iload_n 1, 1) := by decide +kernel
theorem dX12_laysPoint_4 : decode cX12_laysPoint 4 = .ok (.iconst 0, 1) := by decide +kernel
theorem dX12_laysPoint_5 : decode cX12_laysPoint 5 = .ok (.invokevirtual 122, 3) := by decide +kernel
theorem dX12_laysPoint_8 : decode cX12_laysPoint 8 = .ok (.imul, 1) := by decide +kernel
theorem dX12_laysPoint_9 : decode cX12_laysPoint 9 = .ok (.istore_n 2, 1) := by decide +kernel
theorem dX12_laysPoint_10 : decode cX12_laysPoint 10 = .ok (.bipush 64, 2) := by decide +kernel
theorem dX12_laysPoint_12 : decode cX12_laysPoint 12 = .ok (.aload_n 0, 1) := by decide +kernel
theorem dX12_laysPoint_13 : decode cX12_laysPoint 13 = .ok (.iload_n 1, 1) := by decide +kernel
theorem dX12_laysPoint_14 : decode cX12_laysPoint 14 = .ok (.iconst 0, 1) := by decide +kernel
theorem dX12_laysPoint_15 : decode cX12_laysPoint 15 = .ok (.invokevirtual 126, 3) := by decide +kernel
theorem dX12_laysPoint_18 : decode cX12_laysPoint 18 = .ok (.imul, 1) := by decide +kernel
theorem dX12_laysPoint_19 : decode cX12_laysPoint 19 = .ok (.istore_n 3, 1) := by decide +kernel
theorem dX12_laysPoint_20 : decode cX12_laysPoint 20 = .ok (.aload_n 0, 1) := by decide +kernel
theorem dX12_laysPoint_21 : decode cX12_laysPoint 21 = .ok (.invokevirtual 199, 3) := by decide +kernel
theorem dX12_laysPoint_24 : decode cX12_laysPoint 24 = .ok (.istore 4, 2) := by decide +kernel
theorem dX12_laysPoint_26 : decode cX12_laysPoint 26 = .ok (.aload_n 0, 1) := by decide +kernel
theorem dX12_laysPoint_27 : decode cX12_laysPoint 27 = .ok (.getfield 7, 3) := by decide +kernel
theorem dX12_laysPoint_30 : decode cX12_laysPoint 30 = .ok (.iconst 3, 1) := by decide +kernel
theorem dX12_laysPoint_31 : decode cX12_laysPoint 31 = .ok (.iaload, 1) := by decide +kernel
theorem dX12_laysPoint_32 : decode cX12_laysPoint 32 = .ok (.iconst 1, 1) := by decide +kernel
theorem dX12_laysPoint_33 : decode cX12_laysPoint 33 = .ok (.if_icmp .ne 12, 3) := by decide +kernel
theorem dX12_laysPoint_36 : decode cX12_laysPoint 36 = .ok (.aload_n 0, 1) := by decide +kernel
theorem dX12_laysPoint_37 : decode cX12_laysPoint 37 = .ok (.iload_n 2, 1) := by decide +kernel
theorem dX12_laysPoint_38 : decode cX12_laysPoint 38 = .ok (.iload_n 3, 1) := by decide +kernel
theorem dX12_laysPoint_39 : decode cX12_laysPoint 39 = .ok (.invokevirtual 220, 3) := by decide +kernel
theorem dX12_laysPoint_42 : decode cX12_laysPoint 42 = .ok (.goto 70, 3) := by decide +kernel
theorem dX12_laysPoint_45 : decode cX12_laysPoint 45 = .ok (.aload_n 0, 1) := by decide +kernel
theorem dX12_laysPoint_46 : decode cX12_laysPoint 46 = .ok (.getfield 7, 3) := by decide +kernel
theorem dX12_laysPoint_49 : decode cX12_laysPoint 49 = .ok (.iconst 3, 1) := by decide +kernel
theorem dX12_laysPoint_50 : decode cX12_laysPoint 50 = .ok (.iaload, 1) := by decide +kernel
theorem dX12_laysPoint_51 : decode cX12_laysPoint 51 = .ok (.iconst 2, 1) := by decide +kernel
theorem dX12_laysPoint_52 : decode cX12_laysPoint 52 = .ok (.if_icmp .ne 60, 3) := by decide +kernel
theorem dX12_laysPoint_55 : decode cX12_laysPoint 55 = .ok (.aload_n 0, 1) := by decide +kernel
theorem dX12_laysPoint_56 : decode cX12_laysPoint 56 = .ok (.iconst 4, 1) := by decide +kernel
theorem dX12_laysPoint_57 : decode cX12_laysPoint 57 = .ok (.invokevirtual 203, 3) := by decide +kernel
theorem dX12_laysPoint_60 : decode cX12_laysPoint 60 = .ok (.aload_n 0, 1) := by decide +kernel
theorem dX12_laysPoint_61 : decode cX12_laysPoint 61 = .ok (.iconst 0, 1) := by decide +kernel
theorem dX12_laysPoint_62 : decode cX12_laysPoint 62 = .ok (.iload_n 2, 1) := by decide +kernel
theorem dX12_laysPoint_63 : decode cX12_laysPoint 63 = .ok (.iload 4, 2) := by decide +kernel
theorem dX12_laysPoint_65 : decode cX12_laysPoint 65 = .ok (.isub, 1) := by decide +kernel
theorem dX12_laysPoint_66 : decode cX12_laysPoint 66 = .ok (.iload_n 3, 1) := by decide +kernel
theorem dX12_laysPoint_67 : decode cX12_laysPoint 67 = .ok (.iload 4, 2) := by decide +kernel
theorem dX12_laysPoint_69 : decode cX12_laysPoint 69 = .ok (.isub, 1) := by decide +kernel
theorem dX12_laysPoint_70 : decode cX12_laysPoint 70 = .ok (.invokevirtual 206, 3) := by decide +kernel
theorem dX12_laysPoint_73 : decode cX12_laysPoint 73 = .ok (.aload_n 0, 1) := by decide +kernel
theorem dX12_laysPoint_74 : decode cX12_laysPoint 74 = .ok (.iconst 1, 1) := by decide +kernel
theorem dX12_laysPoint_75 : decode cX12_laysPoint 75 = .ok (.iload_n 2, 1) := by decide +kernel
theorem dX12_laysPoint_76 : decode cX12_laysPoint 76 = .ok (.iload 4, 2) := by decide +kernel
theorem dX12_laysPoint_78 : decode cX12_laysPoint 78 = .ok (.iadd, 1) := by decide +kernel
theorem dX12_laysPoint_79 : decode cX12_laysPoint 79 = .ok (.iload_n 3, 1) := by decide +kernel
theorem dX12_laysPoint_80 : decode cX12_laysPoint 80 = .ok (.iload 4, 2) := by decide +kernel
theorem dX12_laysPoint_82 : decode cX12_laysPoint 82 = .ok (.isub, 1) := by decide +kernel
theorem dX12_laysPoint_83 : decode cX12_laysPoint 83 = .ok (.invokevirtual 206, 3) := by decide +kernel
theorem dX12_laysPoint_86 : decode cX12_laysPoint 86 = .ok (.aload_n 0, 1) := by decide +kernel
theorem dX12_laysPoint_87 : decode cX12_laysPoint 87 = .ok (.iconst 2, 1) := by decide +kernel
theorem dX12_laysPoint_88 : decode cX12_laysPoint 88 = .ok (.iload_n 2, 1) := by decide +kernel
theorem dX12_laysPoint_89 : decode cX12_laysPoint 89 = .ok (.iload 4, 2) := by decide +kernel
theorem dX12_laysPoint_91 : decode cX12_laysPoint 91 = .ok (.iadd, 1) := by decide +kernel
theorem dX12_laysPoint_92 : decode cX12_laysPoint 92 = .ok (.iload_n 3, 1) := by decide +kernel
theorem dX12_laysPoint_93 : decode cX12_laysPoint 93 = .ok (.iload 4, 2) := by decide +kernel
theorem dX12_laysPoint_95 : decode cX12_laysPoint 95 = .ok (.iadd, 1) := by decide +kernel
theorem dX12_laysPoint_96 : decode cX12_laysPoint 96 = .ok (.invokevirtual 206, 3) := by decide +kernel
theorem dX12_laysPoint_99 : decode cX12_laysPoint 99 = .ok (.aload_n 0, 1) := by decide +kernel
theorem dX12_laysPoint_100 : decode cX12_laysPoint 100 = .ok (.iconst 3, 1) := by decide +kernel
theorem dX12_laysPoint_101 : decode cX12_laysPoint 101 = .ok (.iload_n 2, 1) := by decide +kernel
theorem dX12_laysPoint_102 : decode cX12_laysPoint 102 = .ok (.iload 4, 2) := by decide +kernel
theorem dX12_laysPoint_104 : decode cX12_laysPoint 104 = .ok (.isub, 1) := by decide +kernel
theorem dX12_laysPoint_105 : decode cX12_laysPoint 105 = .ok (.iload_n 3, 1) := by decide +kernel
theorem dX12_laysPoint_106 : decode cX12_laysPoint 106 = .ok (.iload 4, 2) := by decide +kernel
theorem dX12_laysPoint_108 : decode cX12_laysPoint 108 = .ok (.iadd, 1) := by decide +kernel
theorem dX12_laysPoint_109 : decode cX12_laysPoint 109 = .ok (.invokevirtual 206, 3) := by decide +kernel
theorem dX12_laysPoint_112 : decode cX12_laysPoint 112 = .ok (.return_, 1) := by decide +kernel
theorem dX12_laysPieces_0 : decode cX12_laysPieces 0 = .ok (.aload_n 0, 1) := by decide +kernel
theorem dX12_laysPieces_1 : decode cX12_laysPieces 1 = .ok (.iconst 0, 1) := by decide +kernel
theorem dX12_laysPieces_2 : decode cX12_laysPieces 2 = .ok (.putfield 194, 3) := by decide +kernel
theorem dX12_laysPieces_5 : decode cX12_laysPieces 5 = .ok (.iconst 0, 1) := by decide +kernel
theorem dX12_laysPieces_6 : decode cX12_laysPieces 6 = .ok (.istore_n 1, 1) := by decide +kernel
theorem dX12_laysPieces_7 : decode cX12_laysPieces 7 = .ok (.iload_n 1, 1) := by decide +kernel
theorem dX12_laysPieces_8 : decode cX12_laysPieces 8 = .ok (.aload_n 0, 1) := by decide +kernel
theorem dX12_laysPieces_9 : decode cX12_laysPieces 9 = .ok (.getfield 7, 3) := by decide +kernel
theorem dX12_laysPieces_12 : decode cX12_laysPieces 12 = .ok (.bipush 13, 2) := by decide +kernel
theorem dX12_laysPieces_14 : decode cX12_laysPieces 14 = .ok (.iaload, 1) := by decide +kernel
theorem dX12_laysPieces_15 : decode cX12_laysPieces 15 = .ok (.if_icmp .ge 47, 3) := by decide +kernel
theorem dX12_laysPieces_18 : decode cX12_laysPieces 18 = .ok (.aload_n 0, 1) := by decide +kernel
theorem dX12_laysPieces_19 : decode cX12_laysPieces 19 = .ok (.iload_n 1, 1) := by decide +kernel
theorem dX12_laysPieces_20 : decode cX12_laysPieces 20 = .ok (.invokevirtual 185, 3) := by decide +kernel
theorem dX12_laysPieces_23 : decode cX12_laysPieces 23 = .ok (.aload_n 0, 1) := by decide +kernel
theorem dX12_laysPieces_24 : decode cX12_laysPieces 24 = .ok (.getfield 116, 3) := by decide +kernel
theorem dX12_laysPieces_27 : decode cX12_laysPieces 27 = .ok (.ifCond .ne 8, 3) := by decide +kernel
theorem dX12_laysPieces_30 : decode cX12_laysPieces 30 = .ok (.aload_n 0, 1) := by decide +kernel
theorem dX12_laysPieces_31 : decode cX12_laysPieces 31 = .ok (.iload_n 1, 1) := by decide +kernel
theorem dX12_laysPieces_32 : decode cX12_laysPieces 32 = .ok (.invokevirtual 241, 3) := by decide +kernel
theorem dX12_laysPieces_35 : decode cX12_laysPieces 35 = .ok (.iconst 0, 1) := by decide +kernel
theorem dX12_laysPieces_36 : decode cX12_laysPieces 36 = .ok (.istore_n 2, 1) := by decide +kernel
theorem dX12_laysPieces_37 : decode cX12_laysPieces 37 = .ok (.iload_n 2, 1) := by decide +kernel
theorem dX12_laysPieces_38 : decode cX12_laysPieces 38 = .ok (.aload_n 0, 1) := by decide +kernel
theorem dX12_laysPieces_39 : decode cX12_laysPieces 39 = .ok (.getfield 169, 3) := by decide +kernel
theorem dX12_laysPieces_42 : decode cX12_laysPieces 42 = .ok (.if_icmp .ge 14, 3) := by decide +kernel
theorem dX12_laysPieces_45 : decode cX12_laysPieces 45 = .ok (.aload_n 0, 1) := by decide +kernel
theorem dX12_laysPieces_46 : decode cX12_laysPieces 46 = .ok (.iload_n 2, 1) := by decide +kernel
theorem dX12_laysPieces_47 : decode cX12_laysPieces 47 = .ok (.invokevirtual 244, 3) := by decide +kernel
theorem dX12_laysPieces_50 : decode cX12_laysPieces 50 = .ok (.iinc 2 1, 3) := by decide +kernel
theorem dX12_laysPieces_53 : decode cX12_laysPieces 53 = .ok (.goto (-16), 3) := by decide +kernel
theorem dX12_laysPieces_56 : decode cX12_laysPieces 56 = .ok (.iinc 1 1, 3) := by decide +kernel
theorem dX12_laysPieces_59 : decode cX12_laysPieces 59 = .ok (.goto (-52), 3) := by decide +kernel
theorem dX12_laysPieces_62 : decode cX12_laysPieces 62 = .ok (.return_, 1) := by decide +kernel
theorem dX12_kindOf_0 : decode cX12_kindOf 0 = .ok (.aload_n 0, 1) := by decide +kernel
theorem dX12_kindOf_1 : decode cX12_kindOf 1 = .ok (.getfield 52, 3) := by decide +kernel
theorem dX12_kindOf_4 : decode cX12_kindOf 4 = .ok (.bipush 9, 2) := by decide +kernel
theorem dX12_kindOf_6 : decode cX12_kindOf 6 = .ok (.iload_n 1, 1) := by decide +kernel
theorem dX12_kindOf_7 : decode cX12_kindOf 7 = .ok (.imul, 1) := by decide +kernel
theorem dX12_kindOf_8 : decode cX12_kindOf 8 = .ok (.iaload, 1) := by decide +kernel
theorem dX12_kindOf_9 : decode cX12_kindOf 9 = .ok (.ireturn, 1) := by decide +kernel
theorem dX12_cornersOf_0 : decode cX12_cornersOf 0 = .ok (.aload_n 0, 1) := by decide +kernel
theorem dX12_cornersOf_1 : decode cX12_cornersOf 1 = .ok (.iload_n 1, 1) := by decide +kernel
theorem dX12_cornersOf_2 : decode cX12_cornersOf 2 = .ok (.invokevirtual 247, 3) := by decide +kernel
theorem dX12_cornersOf_5 : decode cX12_cornersOf 5 = .ok (.istore_n 2, 1) := by decide +kernel
theorem dX12_cornersOf_6 : decode cX12_cornersOf 6 = .ok (.iload_n 2, 1) := by decide +kernel
theorem dX12_cornersOf_7 : decode cX12_cornersOf 7 = .ok (.iconst 3, 1) := by decide +kernel
theorem dX12_cornersOf_8 : decode cX12_cornersOf 8 = .ok (.if_icmp .ne 7, 3) := by decide +kernel
theorem dX12_cornersOf_11 : decode cX12_cornersOf 11 = .ok (.iconst 1, 1) := by decide +kernel
theorem dX12_cornersOf_12 : decode cX12_cornersOf 12 = .ok (.goto 13, 3) := by decide +kernel
theorem dX12_cornersOf_15 : decode cX12_cornersOf 15 = .ok (.iload_n 2, 1) := by decide +kernel
theorem dX12_cornersOf_16 : decode cX12_cornersOf 16 = .ok (.iconst 2, 1) := by decide +kernel
theorem dX12_cornersOf_17 : decode cX12_cornersOf 17 = .ok (.if_icmp .ne 7, 3) := by decide +kernel
theorem dX12_cornersOf_20 : decode cX12_cornersOf 20 = .ok (.iconst 3, 1) := by decide +kernel
theorem dX12_cornersOf_21 : decode cX12_cornersOf 21 = .ok (.goto 4, 3) := by decide +kernel
theorem dX12_cornersOf_24 : decode cX12_cornersOf 24 = .ok (.iconst 4, 1) := by decide +kernel
theorem dX12_cornersOf_25 : decode cX12_cornersOf 25 = .ok (.ireturn, 1) := by decide +kernel
theorem dX12_cornerX_0 : decode cX12_cornerX 0 = .ok (.aload_n 0, 1) := by decide +kernel
theorem dX12_cornerX_1 : decode cX12_cornerX 1 = .ok (.getfield 52, 3) := by decide +kernel
theorem dX12_cornerX_4 : decode cX12_cornerX 4 = .ok (.bipush 9, 2) := by decide +kernel
theorem dX12_cornerX_6 : decode cX12_cornerX 6 = .ok (.iload_n 1, 1) := by decide +kernel
theorem dX12_cornerX_7 : decode cX12_cornerX 7 = .ok (.imul, 1) := by decide +kernel
theorem dX12_cornerX_8 : decode cX12_cornerX 8 = .ok (.iconst 1, 1) := by decide +kernel
theorem dX12_cornerX_9 : decode cX12_cornerX 9 = .ok (.iadd, 1) := by decide +kernel
theorem dX12_cornerX_10 : decode cX12_cornerX 10 = .ok (.iconst 2, 1) := by decide +kernel
theorem dX12_cornerX_11 : decode cX12_cornerX 11 = .ok (.iload_n 2, 1) := by decide +kernel
theorem dX12_cornerX_12 : decode cX12_cornerX 12 = .ok (.aload_n 0, 1) := by decide +kernel
theorem dX12_cornerX_13 : decode cX12_cornerX 13 = .ok (.iload_n 1, 1) := by decide +kernel
theorem dX12_cornerX_14 : decode cX12_cornerX 14 = .ok (.invokevirtual 250, 3) := by decide +kernel
theorem dX12_cornerX_17 : decode cX12_cornerX 17 = .ok (.irem, 1) := by decide +kernel
theorem dX12_cornerX_18 : decode cX12_cornerX 18 = .ok (.imul, 1) := by decide +kernel
theorem dX12_cornerX_19 : decode cX12_cornerX 19 = .ok (.iadd, 1) := by decide +kernel
theorem dX12_cornerX_20 : decode cX12_cornerX 20 = .ok (.iaload, 1) := by decide +kernel
theorem dX12_cornerX_21 : decode cX12_cornerX 21 = .ok (.ireturn, 1) := by decide +kernel
theorem dX12_cornerY_0 : decode cX12_cornerY 0 = .ok (.aload_n 0, 1) := by decide +kernel
theorem dX12_cornerY_1 : decode cX12_cornerY 1 = .ok (.getfield 52, 3) := by decide +kernel
theorem dX12_cornerY_4 : decode cX12_cornerY 4 = .ok (.bipush 9, 2) := by decide +kernel
theorem dX12_cornerY_6 : decode cX12_cornerY 6 = .ok (.iload_n 1, 1) := by decide +kernel
theorem dX12_cornerY_7 : decode cX12_cornerY 7 = .ok (.imul, 1) := by decide +kernel
theorem dX12_cornerY_8 : decode cX12_cornerY 8 = .ok (.iconst 2, 1) := by decide +kernel
theorem dX12_cornerY_9 : decode cX12_cornerY 9 = .ok (.iadd, 1) := by decide +kernel
theorem dX12_cornerY_10 : decode cX12_cornerY 10 = .ok (.iconst 2, 1) := by decide +kernel
theorem dX12_cornerY_11 : decode cX12_cornerY 11 = .ok (.iload_n 2, 1) := by decide +kernel
theorem dX12_cornerY_12 : decode cX12_cornerY 12 = .ok (.aload_n 0, 1) := by decide +kernel
theorem dX12_cornerY_13 : decode cX12_cornerY 13 = .ok (.iload_n 1, 1) := by decide +kernel
theorem dX12_cornerY_14 : decode cX12_cornerY 14 = .ok (.invokevirtual 250, 3) := by decide +kernel
theorem dX12_cornerY_17 : decode cX12_cornerY 17 = .ok (.irem, 1) := by decide +kernel
theorem dX12_cornerY_18 : decode cX12_cornerY 18 = .ok (.imul, 1) := by decide +kernel
theorem dX12_cornerY_19 : decode cX12_cornerY 19 = .ok (.iadd, 1) := by decide +kernel
theorem dX12_cornerY_20 : decode cX12_cornerY 20 = .ok (.iaload, 1) := by decide +kernel
theorem dX12_cornerY_21 : decode cX12_cornerY 21 = .ok (.ireturn, 1) := by decide +kernel
theorem dX12_pieces_0 : decode cX12_pieces 0 = .ok (.aload_n 0, 1) := by decide +kernel
theorem dX12_pieces_1 : decode cX12_pieces 1 = .ok (.iload_n 1, 1) := by decide +kernel
theorem dX12_pieces_2 : decode cX12_pieces 2 = .ok (.iconst (-1), 1) := by decide +kernel
theorem dX12_pieces_3 : decode cX12_pieces 3 = .ok (.iconst 4, 1) := by decide +kernel
theorem dX12_pieces_4 : decode cX12_pieces 4 = .ok (.invokestatic 65, 3) := by decide +kernel
theorem dX12_pieces_7 : decode cX12_pieces 7 = .ok (.ifCond .eq 7, 3) := by decide +kernel
theorem dX12_pieces_10 : decode cX12_pieces 10 = .ok (.iconst 0, 1) := by decide +kernel
theorem dX12_pieces_11 : decode cX12_pieces 11 = .ok (.goto 4, 3) := by decide +kernel
theorem dX12_pieces_14 : decode cX12_pieces 14 = .ok (.iconst 1, 1) := by decide +kernel
theorem dX12_pieces_15 : decode cX12_pieces 15 = .ok (.invokevirtual 76, 3) := by decide +kernel
theorem dX12_pieces_18 : decode cX12_pieces 18 = .ok (.ifCond .eq 5, 3) := by decide +kernel
theorem dX12_pieces_21 : decode cX12_pieces 21 = .ok (.iconst 0, 1) := by decide +kernel
theorem dX12_pieces_22 : decode cX12_pieces 22 = .ok (.ireturn, 1) := by decide +kernel
theorem dX12_pieces_23 : decode cX12_pieces 23 = .ok (.aload_n 0, 1) := by decide +kernel
theorem dX12_pieces_24 : decode cX12_pieces 24 = .ok (.invokevirtual 253, 3) := by decide +kernel
theorem dX12_pieces_27 : decode cX12_pieces 27 = .ok (.iconst 0, 1) := by decide +kernel
theorem dX12_pieces_28 : decode cX12_pieces 28 = .ok (.istore_n 2, 1) := by decide +kernel
theorem dX12_pieces_29 : decode cX12_pieces 29 = .ok (.iconst 0, 1) := by decide +kernel
theorem dX12_pieces_30 : decode cX12_pieces 30 = .ok (.istore_n 3, 1) := by decide +kernel
theorem dX12_pieces_31 : decode cX12_pieces 31 = .ok (.iload_n 3, 1) := by decide +kernel
theorem dX12_pieces_32 : decode cX12_pieces 32 = .ok (.aload_n 0, 1) := by decide +kernel
theorem dX12_pieces_33 : decode cX12_pieces 33 = .ok (.getfield 194, 3) := by decide +kernel
theorem dX12_pieces_36 : decode cX12_pieces 36 = .ok (.if_icmp .ge 31, 3) := by decide +kernel
theorem dX12_pieces_39 : decode cX12_pieces 39 = .ok (.iload_n 2, 1) := by decide +kernel
theorem dX12_pieces_40 : decode cX12_pieces 40 = .ok (.iload_n 1, 1) := by decide +kernel
theorem dX12_pieces_41 : decode cX12_pieces 41 = .ok (.iconst (-1), 1) := by decide +kernel
theorem dX12_pieces_42 : decode cX12_pieces 42 = .ok (.if_icmp .eq 12, 3) := by decide +kernel
theorem dX12_pieces_45 : decode cX12_pieces 45 = .ok (.aload_n 0, 1) := by decide +kernel
theorem dX12_pieces_46 : decode cX12_pieces 46 = .ok (.iload_n 3, 1) := by decide +kernel
theorem dX12_pieces_47 : decode cX12_pieces 47 = .ok (.invokevirtual 247, 3) := by decide +kernel
theorem dX12_pieces_50 : decode cX12_pieces 50 = .ok (.iload_n 1, 1) := by decide +kernel
theorem dX12_pieces_51 : decode cX12_pieces 51 = .ok (.if_icmp .ne 7, 3) := by decide +kernel
theorem dX12_pieces_54 : decode cX12_pieces 54 = .ok (.iconst 1, 1) := by decide +kernel
theorem dX12_pieces_55 : decode cX12_pieces 55 = .ok (.goto 4, 3) := by decide +kernel
theorem dX12_pieces_58 : decode cX12_pieces 58 = .ok (.iconst 0, 1) := by decide +kernel
theorem dX12_pieces_59 : decode cX12_pieces 59 = .ok (.iadd, 1) := by decide +kernel
theorem dX12_pieces_60 : decode cX12_pieces 60 = .ok (.istore_n 2, 1) := by decide +kernel
theorem dX12_pieces_61 : decode cX12_pieces 61 = .ok (.iinc 3 1, 3) := by decide +kernel
theorem dX12_pieces_64 : decode cX12_pieces 64 = .ok (.goto (-33), 3) := by decide +kernel
theorem dX12_pieces_67 : decode cX12_pieces 67 = .ok (.iload_n 2, 1) := by decide +kernel
theorem dX12_pieces_68 : decode cX12_pieces 68 = .ok (.ireturn, 1) := by decide +kernel
theorem dX12_area_0 : decode cX12_area 0 = .ok (.lconst 0, 1) := by decide +kernel
theorem dX12_area_1 : decode cX12_area 1 = .ok (.lstore_n 2, 1) := by decide +kernel
theorem dX12_area_2 : decode cX12_area 2 = .ok (.iconst 0, 1) := by decide +kernel
theorem dX12_area_3 : decode cX12_area 3 = .ok (.istore 4, 2) := by decide +kernel
theorem dX12_area_5 : decode cX12_area 5 = .ok (.iload 4, 2) := by decide +kernel
theorem dX12_area_7 : decode cX12_area 7 = .ok (.aload_n 0, 1) := by decide +kernel
theorem dX12_area_8 : decode cX12_area 8 = .ok (.iload_n 1, 1) := by decide +kernel
theorem dX12_area_9 : decode cX12_area 9 = .ok (.invokevirtual 250, 3) := by decide +kernel
theorem dX12_area_12 : decode cX12_area 12 = .ok (.if_icmp .ge 51, 3) := by decide +kernel
theorem dX12_area_15 : decode cX12_area 15 = .ok (.lload_n 2, 1) := by decide +kernel
theorem dX12_area_16 : decode cX12_area 16 = .ok (.aload_n 0, 1) := by decide +kernel
theorem dX12_area_17 : decode cX12_area 17 = .ok (.iload_n 1, 1) := by decide +kernel
theorem dX12_area_18 : decode cX12_area 18 = .ok (.iload 4, 2) := by decide +kernel
theorem dX12_area_20 : decode cX12_area 20 = .ok (.invokevirtual 256, 3) := by decide +kernel
theorem dX12_area_23 : decode cX12_area 23 = .ok (.i2l, 1) := by decide +kernel
theorem dX12_area_24 : decode cX12_area 24 = .ok (.aload_n 0, 1) := by decide +kernel
theorem dX12_area_25 : decode cX12_area 25 = .ok (.iload_n 1, 1) := by decide +kernel
theorem dX12_area_26 : decode cX12_area 26 = .ok (.iload 4, 2) := by decide +kernel
theorem dX12_area_28 : decode cX12_area 28 = .ok (.iconst 1, 1) := by decide +kernel
theorem dX12_area_29 : decode cX12_area 29 = .ok (.iadd, 1) := by decide +kernel
theorem dX12_area_30 : decode cX12_area 30 = .ok (.invokevirtual 259, 3) := by decide +kernel
theorem dX12_area_33 : decode cX12_area 33 = .ok (.i2l, 1) := by decide +kernel
theorem dX12_area_34 : decode cX12_area 34 = .ok (.lmul, 1) := by decide +kernel
theorem dX12_area_35 : decode cX12_area 35 = .ok (.aload_n 0, 1) := by decide +kernel
theorem dX12_area_36 : decode cX12_area 36 = .ok (.iload_n 1, 1) := by decide +kernel
theorem dX12_area_37 : decode cX12_area 37 = .ok (.iload 4, 2) := by decide +kernel
theorem dX12_area_39 : decode cX12_area 39 = .ok (.iconst 1, 1) := by decide +kernel
theorem dX12_area_40 : decode cX12_area 40 = .ok (.iadd, 1) := by decide +kernel
theorem dX12_area_41 : decode cX12_area 41 = .ok (.invokevirtual 256, 3) := by decide +kernel
theorem dX12_area_44 : decode cX12_area 44 = .ok (.i2l, 1) := by decide +kernel
theorem dX12_area_45 : decode cX12_area 45 = .ok (.aload_n 0, 1) := by decide +kernel
theorem dX12_area_46 : decode cX12_area 46 = .ok (.iload_n 1, 1) := by decide +kernel
theorem dX12_area_47 : decode cX12_area 47 = .ok (.iload 4, 2) := by decide +kernel
theorem dX12_area_49 : decode cX12_area 49 = .ok (.invokevirtual 259, 3) := by decide +kernel
theorem dX12_area_52 : decode cX12_area 52 = .ok (.i2l, 1) := by decide +kernel
theorem dX12_area_53 : decode cX12_area 53 = .ok (.lmul, 1) := by decide +kernel
theorem dX12_area_54 : decode cX12_area 54 = .ok (.lsub, 1) := by decide +kernel
theorem dX12_area_55 : decode cX12_area 55 = .ok (.ladd, 1) := by decide +kernel
theorem dX12_area_56 : decode cX12_area 56 = .ok (.lstore_n 2, 1) := by decide +kernel
theorem dX12_area_57 : decode cX12_area 57 = .ok (.iinc 4 1, 3) := by decide +kernel
theorem dX12_area_60 : decode cX12_area 60 = .ok (.goto (-55), 3) := by decide +kernel
theorem dX12_area_63 : decode cX12_area 63 = .ok (.lload_n 2, 1) := by decide +kernel
theorem dX12_area_64 : decode cX12_area 64 = .ok (.lconst 0, 1) := by decide +kernel
theorem dX12_area_65 : decode cX12_area 65 = .ok (.lcmp, 1) := by decide +kernel
theorem dX12_area_66 : decode cX12_area 66 = .ok (.ifCond .ge 8, 3) := by decide +kernel
theorem dX12_area_69 : decode cX12_area 69 = .ok (.lload_n 2, 1) := by decide +kernel
theorem dX12_area_70 : decode cX12_area 70 = .ok (.lneg, 1) := by decide +kernel
theorem dX12_area_71 : decode cX12_area 71 = .ok (.goto 4, 3) := by decide +kernel
theorem dX12_area_74 : decode cX12_area 74 = .ok (.lload_n 2, 1) := by decide +kernel
theorem dX12_area_75 : decode cX12_area 75 = .ok (.lreturn, 1) := by decide +kernel
theorem dX12_piece_0 : decode cX12_piece 0 = .ok (.aload_n 0, 1) := by decide +kernel
theorem dX12_piece_1 : decode cX12_piece 1 = .ok (.invokevirtual 253, 3) := by decide +kernel
theorem dX12_piece_4 : decode cX12_piece 4 = .ok (.aload_n 0, 1) := by decide +kernel
theorem dX12_piece_5 : decode cX12_piece 5 = .ok (.iload_n 1, 1) := by decide +kernel
theorem dX12_piece_6 : decode cX12_piece 6 = .ok (.iconst 0, 1) := by decide +kernel
theorem dX12_piece_7 : decode cX12_piece 7 = .ok (.aload_n 0, 1) := by decide +kernel
theorem dX12_piece_8 : decode cX12_piece 8 = .ok (.getfield 194, 3) := by decide +kernel
theorem dX12_piece_11 : decode cX12_piece 11 = .ok (.iconst 1, 1) := by decide +kernel
theorem dX12_piece_12 : decode cX12_piece 12 = .ok (.isub, 1) := by decide +kernel
theorem dX12_piece_13 : decode cX12_piece 13 = .ok (.invokestatic 65, 3) := by decide +kernel
theorem dX12_piece_16 : decode cX12_piece 16 = .ok (.ifCond .ne 7, 3) := by decide +kernel
theorem dX12_piece_19 : decode cX12_piece 19 = .ok (.iconst 1, 1) := by decide +kernel
theorem dX12_piece_20 : decode cX12_piece 20 = .ok (.goto 17, 3) := by decide +kernel
theorem dX12_piece_23 : decode cX12_piece 23 = .ok (.iload_n 2, 1) := by decide +kernel
theorem dX12_piece_24 : decode cX12_piece 24 = .ok (.iconst 0, 1) := by decide +kernel
theorem dX12_piece_25 : decode cX12_piece 25 = .ok (.iconst 2, 1) := by decide +kernel
theorem dX12_piece_26 : decode cX12_piece 26 = .ok (.invokestatic 65, 3) := by decide +kernel
theorem dX12_piece_29 : decode cX12_piece 29 = .ok (.ifCond .eq 7, 3) := by decide +kernel
theorem dX12_piece_32 : decode cX12_piece 32 = .ok (.iconst 0, 1) := by decide +kernel
theorem dX12_piece_33 : decode cX12_piece 33 = .ok (.goto 4, 3) := by decide +kernel
theorem dX12_piece_36 : decode cX12_piece 36 = .ok (.iconst 2, 1) := by decide +kernel
theorem dX12_piece_37 : decode cX12_piece 37 = .ok (.invokevirtual 76, 3) := by decide +kernel
theorem dX12_piece_40 : decode cX12_piece 40 = .ok (.ifCond .eq 5, 3) := by decide +kernel
theorem dX12_piece_43 : decode cX12_piece 43 = .ok (.lconst 0, 1) := by decide +kernel
theorem dX12_piece_44 : decode cX12_piece 44 = .ok (.lreturn, 1) := by decide +kernel
theorem dX12_piece_45 : decode cX12_piece 45 = .ok (.iload_n 2, 1) := by decide +kernel
theorem dX12_piece_46 : decode cX12_piece 46 = .ok (.ifCond .ne 12, 3) := by decide +kernel
theorem dX12_piece_49 : decode cX12_piece 49 = .ok (.aload_n 0, 1) := by decide +kernel
theorem dX12_piece_50 : decode cX12_piece 50 = .ok (.iload_n 1, 1) := by decide +kernel
theorem dX12_piece_51 : decode cX12_piece 51 = .ok (.invokevirtual 247, 3) := by decide +kernel
theorem dX12_piece_54 : decode cX12_piece 54 = .ok (.i2l, 1) := by decide +kernel
theorem dX12_piece_55 : decode cX12_piece 55 = .ok (.goto 22, 3) := by decide +kernel
theorem dX12_piece_58 : decode cX12_piece 58 = .ok (.iload_n 2, 1) := by decide +kernel
theorem dX12_piece_59 : decode cX12_piece 59 = .ok (.iconst 1, 1) := by decide +kernel
theorem dX12_piece_60 : decode cX12_piece 60 = .ok (.if_icmp .ne 12, 3) := by decide +kernel
theorem dX12_piece_63 : decode cX12_piece 63 = .ok (.aload_n 0, 1) := by decide +kernel
theorem dX12_piece_64 : decode cX12_piece 64 = .ok (.iload_n 1, 1) := by decide +kernel
theorem dX12_piece_65 : decode cX12_piece 65 = .ok (.invokevirtual 250, 3) := by decide +kernel
theorem dX12_piece_68 : decode cX12_piece 68 = .ok (.i2l, 1) := by decide +kernel
theorem dX12_piece_69 : decode cX12_piece 69 = .ok (.goto 8, 3) := by decide +kernel
theorem dX12_piece_72 : decode cX12_piece 72 = .ok (.aload_n 0, 1) := by decide +kernel
theorem dX12_piece_73 : decode cX12_piece 73 = .ok (.iload_n 1, 1) := by decide +kernel
theorem dX12_piece_74 : decode cX12_piece 74 = .ok (.invokevirtual 262, 3) := by decide +kernel
theorem dX12_piece_77 : decode cX12_piece 77 = .ok (.lreturn, 1) := by decide +kernel
theorem dX12_corner_0 : decode cX12_corner 0 = .ok (.aload_n 0, 1) := by decide +kernel
theorem dX12_corner_1 : decode cX12_corner 1 = .ok (.invokevirtual 253, 3) := by decide +kernel
theorem dX12_corner_4 : decode cX12_corner 4 = .ok (.aload_n 0, 1) := by decide +kernel
theorem dX12_corner_5 : decode cX12_corner 5 = .ok (.iload_n 1, 1) := by decide +kernel
theorem dX12_corner_6 : decode cX12_corner 6 = .ok (.iconst 0, 1) := by decide +kernel
theorem dX12_corner_7 : decode cX12_corner 7 = .ok (.aload_n 0, 1) := by decide +kernel
theorem dX12_corner_8 : decode cX12_corner 8 = .ok (.getfield 194, 3) := by decide +kernel
theorem dX12_corner_11 : decode cX12_corner 11 = .ok (.iconst 1, 1) := by decide +kernel
theorem dX12_corner_12 : decode cX12_corner 12 = .ok (.isub, 1) := by decide +kernel
theorem dX12_corner_13 : decode cX12_corner 13 = .ok (.invokestatic 65, 3) := by decide +kernel
theorem dX12_corner_16 : decode cX12_corner 16 = .ok (.ifCond .eq 22, 3) := by decide +kernel
theorem dX12_corner_19 : decode cX12_corner 19 = .ok (.iload_n 2, 1) := by decide +kernel
theorem dX12_corner_20 : decode cX12_corner 20 = .ok (.iconst 0, 1) := by decide +kernel
theorem dX12_corner_21 : decode cX12_corner 21 = .ok (.aload_n 0, 1) := by decide +kernel
theorem dX12_corner_22 : decode cX12_corner 22 = .ok (.iload_n 1, 1) := by decide +kernel
theorem dX12_corner_23 : decode cX12_corner 23 = .ok (.invokevirtual 250, 3) := by decide +kernel
theorem dX12_corner_26 : decode cX12_corner 26 = .ok (.iconst 1, 1) := by decide +kernel
theorem dX12_corner_27 : decode cX12_corner 27 = .ok (.isub, 1) := by decide +kernel
theorem dX12_corner_28 : decode cX12_corner 28 = .ok (.invokestatic 65, 3) := by decide +kernel
theorem dX12_corner_31 : decode cX12_corner 31 = .ok (.ifCond .eq 7, 3) := by decide +kernel
theorem dX12_corner_34 : decode cX12_corner 34 = .ok (.iconst 0, 1) := by decide +kernel
theorem dX12_corner_35 : decode cX12_corner 35 = .ok (.goto 4, 3) := by decide +kernel
theorem dX12_corner_38 : decode cX12_corner 38 = .ok (.iconst 1, 1) := by decide +kernel
theorem dX12_corner_39 : decode cX12_corner 39 = .ok (.invokevirtual 76, 3) := by decide +kernel
theorem dX12_corner_42 : decode cX12_corner 42 = .ok (.ifCond .eq 5, 3) := by decide +kernel
theorem dX12_corner_45 : decode cX12_corner 45 = .ok (.iconst 0, 1) := by decide +kernel
theorem dX12_corner_46 : decode cX12_corner 46 = .ok (.ireturn, 1) := by decide +kernel
theorem dX12_corner_47 : decode cX12_corner 47 = .ok (.iload_n 3, 1) := by decide +kernel
theorem dX12_corner_48 : decode cX12_corner 48 = .ok (.ifCond .eq 12, 3) := by decide +kernel
theorem dX12_corner_51 : decode cX12_corner 51 = .ok (.aload_n 0, 1) := by decide +kernel
theorem dX12_corner_52 : decode cX12_corner 52 = .ok (.iload_n 1, 1) := by decide +kernel
theorem dX12_corner_53 : decode cX12_corner 53 = .ok (.iload_n 2, 1) := by decide +kernel
theorem dX12_corner_54 : decode cX12_corner 54 = .ok (.invokevirtual 259, 3) := by decide +kernel
theorem dX12_corner_57 : decode cX12_corner 57 = .ok (.goto 9, 3) := by decide +kernel
theorem dX12_corner_60 : decode cX12_corner 60 = .ok (.aload_n 0, 1) := by decide +kernel
theorem dX12_corner_61 : decode cX12_corner 61 = .ok (.iload_n 1, 1) := by decide +kernel
theorem dX12_corner_62 : decode cX12_corner 62 = .ok (.iload_n 2, 1) := by decide +kernel
theorem dX12_corner_63 : decode cX12_corner 63 = .ok (.invokevirtual 256, 3) := by decide +kernel
theorem dX12_corner_66 : decode cX12_corner 66 = .ok (.ireturn, 1) := by decide +kernel
theorem dX12_bounds_0 : decode cX12_bounds 0 = .ok (.aload_n 0, 1) := by decide +kernel
theorem dX12_bounds_1 : decode cX12_bounds 1 = .ok (.invokevirtual 253, 3) := by decide +kernel
theorem dX12_bounds_4 : decode cX12_bounds 4 = .ok (.aload_n 0, 1) := by decide +kernel
theorem dX12_bounds_5 : decode cX12_bounds 5 = .ok (.iload_n 1, 1) := by decide +kernel
theorem dX12_bounds_6 : decode cX12_bounds 6 = .ok (.iconst 0, 1) := by decide +kernel
theorem dX12_bounds_7 : decode cX12_bounds 7 = .ok (.iconst 3, 1) := by decide +kernel
theorem dX12_bounds_8 : decode cX12_bounds 8 = .ok (.invokestatic 65, 3) := by decide +kernel
theorem dX12_bounds_11 : decode cX12_bounds 11 = .ok (.ifCond .ne 7, 3) := by decide +kernel
theorem dX12_bounds_14 : decode cX12_bounds 14 = .ok (.iconst 1, 1) := by decide +kernel
theorem dX12_bounds_15 : decode cX12_bounds 15 = .ok (.goto 15, 3) := by decide +kernel
theorem dX12_bounds_18 : decode cX12_bounds 18 = .ok (.aload_n 0, 1) := by decide +kernel
theorem dX12_bounds_19 : decode cX12_bounds 19 = .ok (.getfield 194, 3) := by decide +kernel
theorem dX12_bounds_22 : decode cX12_bounds 22 = .ok (.ifCond .ne 7, 3) := by decide +kernel
theorem dX12_bounds_25 : decode cX12_bounds 25 = .ok (.iconst 2, 1) := by decide +kernel
theorem dX12_bounds_26 : decode cX12_bounds 26 = .ok (.goto 4, 3) := by decide +kernel
theorem dX12_bounds_29 : decode cX12_bounds 29 = .ok (.iconst 0, 1) := by decide +kernel
theorem dX12_bounds_30 : decode cX12_bounds 30 = .ok (.invokevirtual 76, 3) := by decide +kernel
theorem dX12_bounds_33 : decode cX12_bounds 33 = .ok (.ifCond .eq 5, 3) := by decide +kernel
theorem dX12_bounds_36 : decode cX12_bounds 36 = .ok (.iconst 0, 1) := by decide +kernel
theorem dX12_bounds_37 : decode cX12_bounds 37 = .ok (.ireturn, 1) := by decide +kernel
theorem dX12_bounds_38 : decode cX12_bounds 38 = .ok (.iload_n 1, 1) := by decide +kernel
theorem dX12_bounds_39 : decode cX12_bounds 39 = .ok (.iconst 2, 1) := by decide +kernel
theorem dX12_bounds_40 : decode cX12_bounds 40 = .ok (.irem, 1) := by decide +kernel
theorem dX12_bounds_41 : decode cX12_bounds 41 = .ok (.iconst 1, 1) := by decide +kernel
theorem dX12_bounds_42 : decode cX12_bounds 42 = .ok (.if_icmp .ne 7, 3) := by decide +kernel
theorem dX12_bounds_45 : decode cX12_bounds 45 = .ok (.iconst 1, 1) := by decide +kernel
theorem dX12_bounds_46 : decode cX12_bounds 46 = .ok (.goto 4, 3) := by decide +kernel
theorem dX12_bounds_49 : decode cX12_bounds 49 = .ok (.iconst 0, 1) := by decide +kernel
theorem dX12_bounds_50 : decode cX12_bounds 50 = .ok (.istore_n 2, 1) := by decide +kernel
theorem dX12_bounds_51 : decode cX12_bounds 51 = .ok (.iload_n 2, 1) := by decide +kernel
theorem dX12_bounds_52 : decode cX12_bounds 52 = .ok (.ifCond .eq 9, 3) := by decide +kernel
theorem dX12_bounds_55 : decode cX12_bounds 55 = .ok (.ldc_w 266, 3) := by decide +kernel
theorem dX12_bounds_58 : decode cX12_bounds 58 = .ok (.goto 6, 3) := by decide +kernel
theorem dX12_bounds_61 : decode cX12_bounds 61 = .ok (.ldc_w 267, 3) := by decide +kernel
theorem dX12_bounds_64 : decode cX12_bounds 64 = .ok (.istore_n 3, 1) := by decide +kernel
theorem dX12_bounds_65 : decode cX12_bounds 65 = .ok (.iconst 0, 1) := by decide +kernel
theorem dX12_bounds_66 : decode cX12_bounds 66 = .ok (.istore 4, 2) := by decide +kernel
theorem dX12_bounds_68 : decode cX12_bounds 68 = .ok (.iload 4, 2) := by decide +kernel
theorem dX12_bounds_70 : decode cX12_bounds 70 = .ok (.aload_n 0, 1) := by decide +kernel
theorem dX12_bounds_71 : decode cX12_bounds 71 = .ok (.getfield 194, 3) := by decide +kernel
theorem dX12_bounds_74 : decode cX12_bounds 74 = .ok (.if_icmp .ge 124, 3) := by decide +kernel
theorem dX12_bounds_77 : decode cX12_bounds 77 = .ok (.aload_n 0, 1) := by decide +kernel
theorem dX12_bounds_78 : decode cX12_bounds 78 = .ok (.iload 4, 2) := by decide +kernel
theorem dX12_bounds_80 : decode cX12_bounds 80 = .ok (.invokevirtual 247, 3) := by decide +kernel
theorem dX12_bounds_83 : decode cX12_bounds 83 = .ok (.iconst 3, 1) := by decide +kernel
theorem dX12_bounds_84 : decode cX12_bounds 84 = .ok (.if_icmp .ne 10, 3) := by decide +kernel
theorem dX12_bounds_87 : decode cX12_bounds 87 = .ok (.aload_n 0, 1) := by decide +kernel
theorem dX12_bounds_88 : decode cX12_bounds 88 = .ok (.invokevirtual 199, 3) := by decide +kernel
theorem dX12_bounds_91 : decode cX12_bounds 91 = .ok (.goto 4, 3) := by decide +kernel
theorem dX12_bounds_94 : decode cX12_bounds 94 = .ok (.iconst 0, 1) := by decide +kernel
theorem dX12_bounds_95 : decode cX12_bounds 95 = .ok (.istore 5, 2) := by decide +kernel
theorem dX12_bounds_97 : decode cX12_bounds 97 = .ok (.iconst 0, 1) := by decide +kernel
theorem dX12_bounds_98 : decode cX12_bounds 98 = .ok (.istore 6, 2) := by decide +kernel
theorem dX12_bounds_100 : decode cX12_bounds 100 = .ok (.iload 6, 2) := by decide +kernel
theorem dX12_bounds_102 : decode cX12_bounds 102 = .ok (.aload_n 0, 1) := by decide +kernel
theorem dX12_bounds_103 : decode cX12_bounds 103 = .ok (.iload 4, 2) := by decide +kernel
theorem dX12_bounds_105 : decode cX12_bounds 105 = .ok (.invokevirtual 250, 3) := by decide +kernel
theorem dX12_bounds_108 : decode cX12_bounds 108 = .ok (.if_icmp .ge 84, 3) := by decide +kernel
theorem dX12_bounds_111 : decode cX12_bounds 111 = .ok (.iload_n 1, 1) := by decide +kernel
theorem dX12_bounds_112 : decode cX12_bounds 112 = .ok (.iconst 2, 1) := by decide +kernel
theorem dX12_bounds_113 : decode cX12_bounds 113 = .ok (.if_icmp .ge 14, 3) := by decide +kernel
theorem dX12_bounds_116 : decode cX12_bounds 116 = .ok (.aload_n 0, 1) := by decide +kernel
theorem dX12_bounds_117 : decode cX12_bounds 117 = .ok (.iload 4, 2) := by decide +kernel
theorem dX12_bounds_119 : decode cX12_bounds 119 = .ok (.iload 6, 2) := by decide +kernel
theorem dX12_bounds_121 : decode cX12_bounds 121 = .ok (.invokevirtual 256, 3) := by decide +kernel
theorem dX12_bounds_124 : decode cX12_bounds 124 = .ok (.goto 11, 3) := by decide +kernel
theorem dX12_bounds_127 : decode cX12_bounds 127 = .ok (.aload_n 0, 1) := by decide +kernel
theorem dX12_bounds_128 : decode cX12_bounds 128 = .ok (.iload 4, 2) := by decide +kernel
theorem dX12_bounds_130 : decode cX12_bounds 130 = .ok (.iload 6, 2) := by decide +kernel
theorem dX12_bounds_132 : decode cX12_bounds 132 = .ok (.invokevirtual 259, 3) := by decide +kernel
theorem dX12_bounds_135 : decode cX12_bounds 135 = .ok (.istore 7, 2) := by decide +kernel
theorem dX12_bounds_137 : decode cX12_bounds 137 = .ok (.iload 7, 2) := by decide +kernel
theorem dX12_bounds_139 : decode cX12_bounds 139 = .ok (.iload_n 2, 1) := by decide +kernel
theorem dX12_bounds_140 : decode cX12_bounds 140 = .ok (.ifCond .eq 8, 3) := by decide +kernel
theorem dX12_bounds_143 : decode cX12_bounds 143 = .ok (.iload 5, 2) := by decide +kernel
theorem dX12_bounds_145 : decode cX12_bounds 145 = .ok (.goto 6, 3) := by decide +kernel
theorem dX12_bounds_148 : decode cX12_bounds 148 = .ok (.iload 5, 2) := by decide +kernel
theorem dX12_bounds_150 : decode cX12_bounds 150 = .ok (.ineg, 1) := by decide +kernel
theorem dX12_bounds_151 : decode cX12_bounds 151 = .ok (.iadd, 1) := by decide +kernel
theorem dX12_bounds_152 : decode cX12_bounds 152 = .ok (.istore 7, 2) := by decide +kernel
theorem dX12_bounds_154 : decode cX12_bounds 154 = .ok (.iload_n 2, 1) := by decide +kernel
theorem dX12_bounds_155 : decode cX12_bounds 155 = .ok (.ifCond .eq 18, 3) := by decide +kernel
theorem dX12_bounds_158 : decode cX12_bounds 158 = .ok (.iload 7, 2) := by decide +kernel
theorem dX12_bounds_160 : decode cX12_bounds 160 = .ok (.iload_n 3, 1) := by decide +kernel
theorem dX12_bounds_161 : decode cX12_bounds 161 = .ok (.if_icmp .le 8, 3) := by decide +kernel
theorem dX12_bounds_164 : decode cX12_bounds 164 = .ok (.iload 7, 2) := by decide +kernel
theorem dX12_bounds_166 : decode cX12_bounds 166 = .ok (.goto 19, 3) := by decide +kernel
theorem dX12_bounds_169 : decode cX12_bounds 169 = .ok (.iload_n 3, 1) := by decide +kernel
theorem dX12_bounds_170 : decode cX12_bounds 170 = .ok (.goto 15, 3) := by decide +kernel
theorem dX12_bounds_173 : decode cX12_bounds 173 = .ok (.iload 7, 2) := by decide +kernel
theorem dX12_bounds_175 : decode cX12_bounds 175 = .ok (.iload_n 3, 1) := by decide +kernel
theorem dX12_bounds_176 : decode cX12_bounds 176 = .ok (.if_icmp .ge 8, 3) := by decide +kernel
theorem dX12_bounds_179 : decode cX12_bounds 179 = .ok (.iload 7, 2) := by decide +kernel
theorem dX12_bounds_181 : decode cX12_bounds 181 = .ok (.goto 4, 3) := by decide +kernel
theorem dX12_bounds_184 : decode cX12_bounds 184 = .ok (.iload_n 3, 1) := by decide +kernel
theorem dX12_bounds_185 : decode cX12_bounds 185 = .ok (.istore_n 3, 1) := by decide +kernel
theorem dX12_bounds_186 : decode cX12_bounds 186 = .ok (.iinc 6 1, 3) := by decide +kernel
theorem dX12_bounds_189 : decode cX12_bounds 189 = .ok (.goto (-89), 3) := by decide +kernel
theorem dX12_bounds_192 : decode cX12_bounds 192 = .ok (.iinc 4 1, 3) := by decide +kernel
theorem dX12_bounds_195 : decode cX12_bounds 195 = .ok (.goto (-127), 3) := by decide +kernel
theorem dX12_bounds_198 : decode cX12_bounds 198 = .ok (.iload_n 3, 1) := by decide +kernel
theorem dX12_bounds_199 : decode cX12_bounds 199 = .ok (.ireturn, 1) := by decide +kernel
theorem dX12_isInDisc_0 : decode cX12_isInDisc 0 = .ok (.iload_n 2, 1) := by decide +kernel
theorem dX12_isInDisc_1 : decode cX12_isInDisc 1 = .ok (.aload_n 0, 1) := by decide +kernel
theorem dX12_isInDisc_2 : decode cX12_isInDisc 2 = .ok (.iload_n 1, 1) := by decide +kernel
theorem dX12_isInDisc_3 : decode cX12_isInDisc 3 = .ok (.iconst 0, 1) := by decide +kernel
theorem dX12_isInDisc_4 : decode cX12_isInDisc 4 = .ok (.invokevirtual 256, 3) := by decide +kernel
theorem dX12_isInDisc_7 : decode cX12_isInDisc 7 = .ok (.isub, 1) := by decide +kernel
theorem dX12_isInDisc_8 : decode cX12_isInDisc 8 = .ok (.i2l, 1) := by decide +kernel
theorem dX12_isInDisc_9 : decode cX12_isInDisc 9 = .ok (.lstore 4, 2) := by decide +kernel
theorem dX12_isInDisc_11 : decode cX12_isInDisc 11 = .ok (.iload_n 3, 1) := by decide +kernel
theorem dX12_isInDisc_12 : decode cX12_isInDisc 12 = .ok (.aload_n 0, 1) := by decide +kernel
theorem dX12_isInDisc_13 : decode cX12_isInDisc 13 = .ok (.iload_n 1, 1) := by decide +kernel
theorem dX12_isInDisc_14 : decode cX12_isInDisc 14 = .ok (.iconst 0, 1) := by decide +kernel
theorem dX12_isInDisc_15 : decode cX12_isInDisc 15 = .ok (.invokevirtual 259, 3) := by decide +kernel
theorem dX12_isInDisc_18 : decode cX12_isInDisc 18 = .ok (.isub, 1) := by decide +kernel
theorem dX12_isInDisc_19 : decode cX12_isInDisc 19 = .ok (.i2l, 1) := by decide +kernel
theorem dX12_isInDisc_20 : decode cX12_isInDisc 20 = .ok (.lstore 6, 2) := by decide +kernel
theorem dX12_isInDisc_22 : decode cX12_isInDisc 22 = .ok (.lload 4, 2) := by decide +kernel
theorem dX12_isInDisc_24 : decode cX12_isInDisc 24 = .ok (.lload 4, 2) := by decide +kernel
theorem dX12_isInDisc_26 : decode cX12_isInDisc 26 = .ok (.lmul, 1) := by decide +kernel
theorem dX12_isInDisc_27 : decode cX12_isInDisc 27 = .ok (.lload 6, 2) := by decide +kernel
theorem dX12_isInDisc_29 : decode cX12_isInDisc 29 = .ok (.lload 6, 2) := by decide +kernel
theorem dX12_isInDisc_31 : decode cX12_isInDisc 31 = .ok (.lmul, 1) := by decide +kernel
theorem dX12_isInDisc_32 : decode cX12_isInDisc 32 = .ok (.ladd, 1) := by decide +kernel
theorem dX12_isInDisc_33 : decode cX12_isInDisc 33 = .ok (.aload_n 0, 1) := by decide +kernel
theorem dX12_isInDisc_34 : decode cX12_isInDisc 34 = .ok (.invokevirtual 199, 3) := by decide +kernel
theorem dX12_isInDisc_37 : decode cX12_isInDisc 37 = .ok (.i2l, 1) := by decide +kernel
theorem dX12_isInDisc_38 : decode cX12_isInDisc 38 = .ok (.aload_n 0, 1) := by decide +kernel
theorem dX12_isInDisc_39 : decode cX12_isInDisc 39 = .ok (.invokevirtual 199, 3) := by decide +kernel
theorem dX12_isInDisc_42 : decode cX12_isInDisc 42 = .ok (.i2l, 1) := by decide +kernel
theorem dX12_isInDisc_43 : decode cX12_isInDisc 43 = .ok (.lmul, 1) := by decide +kernel
theorem dX12_isInDisc_44 : decode cX12_isInDisc 44 = .ok (.lcmp, 1) := by decide +kernel
theorem dX12_isInDisc_45 : decode cX12_isInDisc 45 = .ok (.ifCond .gt 7, 3) := by decide +kernel
theorem dX12_isInDisc_48 : decode cX12_isInDisc 48 = .ok (.iconst 1, 1) := by decide +kernel
theorem dX12_isInDisc_49 : decode cX12_isInDisc 49 = .ok (.goto 4, 3) := by decide +kernel
theorem dX12_isInDisc_52 : decode cX12_isInDisc 52 = .ok (.iconst 0, 1) := by decide +kernel
theorem dX12_isInDisc_53 : decode cX12_isInDisc 53 = .ok (.ireturn, 1) := by decide +kernel
theorem dX12_isInPolygon_0 : decode cX12_isInPolygon 0 = .ok (.iconst 1, 1) := by decide +kernel
theorem dX12_isInPolygon_1 : decode cX12_isInPolygon 1 = .ok (.istore 4, 2) := by decide +kernel
theorem dX12_isInPolygon_3 : decode cX12_isInPolygon 3 = .ok (.iconst 1, 1) := by decide +kernel
theorem dX12_isInPolygon_4 : decode cX12_isInPolygon 4 = .ok (.istore 5, 2) := by decide +kernel
theorem dX12_isInPolygon_6 : decode cX12_isInPolygon 6 = .ok (.iconst 0, 1) := by decide +kernel
theorem dX12_isInPolygon_7 : decode cX12_isInPolygon 7 = .ok (.istore 6, 2) := by decide +kernel
theorem dX12_isInPolygon_9 : decode cX12_isInPolygon 9 = .ok (.iconst 0, 1) := by decide +kernel
theorem dX12_isInPolygon_10 : decode cX12_isInPolygon 10 = .ok (.istore 7, 2) := by decide +kernel
theorem dX12_isInPolygon_12 : decode cX12_isInPolygon 12 = .ok (.iconst 0, 1) := by decide +kernel
theorem dX12_isInPolygon_13 : decode cX12_isInPolygon 13 = .ok (.istore 8, 2) := by decide +kernel
theorem dX12_isInPolygon_15 : decode cX12_isInPolygon 15 = .ok (.iconst 0, 1) := by decide +kernel
theorem dX12_isInPolygon_16 : decode cX12_isInPolygon 16 = .ok (.istore 9, 2) := by decide +kernel
theorem dX12_isInPolygon_18 : decode cX12_isInPolygon 18 = .ok (.iconst 0, 1) := by decide +kernel
theorem dX12_isInPolygon_19 : decode cX12_isInPolygon 19 = .ok (.istore 10, 2) := by decide +kernel
theorem dX12_isInPolygon_21 : decode cX12_isInPolygon 21 = .ok (.iload 10, 2) := by decide +kernel
theorem dX12_isInPolygon_23 : decode cX12_isInPolygon 23 = .ok (.aload_n 0, 1) := by decide +kernel
theorem dX12_isInPolygon_24 : decode cX12_isInPolygon 24 = .ok (.iload_n 1, 1) := by decide +kernel
theorem dX12_isInPolygon_25 : decode cX12_isInPolygon 25 = .ok (.invokevirtual 250, 3) := by decide +kernel
theorem dX12_isInPolygon_28 : decode cX12_isInPolygon 28 = .ok (.if_icmp .ge 178, 3) := by decide +kernel
theorem dX12_isInPolygon_31 : decode cX12_isInPolygon 31 = .ok (.aload_n 0, 1) := by decide +kernel
theorem dX12_isInPolygon_32 : decode cX12_isInPolygon 32 = .ok (.iload_n 1, 1) := by decide +kernel
theorem dX12_isInPolygon_33 : decode cX12_isInPolygon 33 = .ok (.iload 10, 2) := by decide +kernel
theorem dX12_isInPolygon_35 : decode cX12_isInPolygon 35 = .ok (.invokevirtual 256, 3) := by decide +kernel
theorem dX12_isInPolygon_38 : decode cX12_isInPolygon 38 = .ok (.istore 11, 2) := by decide +kernel
theorem dX12_isInPolygon_40 : decode cX12_isInPolygon 40 = .ok (.aload_n 0, 1) := by decide +kernel
theorem dX12_isInPolygon_41 : decode cX12_isInPolygon 41 = .ok (.iload_n 1, 1) := by decide +kernel
theorem dX12_isInPolygon_42 : decode cX12_isInPolygon 42 = .ok (.iload 10, 2) := by decide +kernel
theorem dX12_isInPolygon_44 : decode cX12_isInPolygon 44 = .ok (.invokevirtual 259, 3) := by decide +kernel
theorem dX12_isInPolygon_47 : decode cX12_isInPolygon 47 = .ok (.istore 12, 2) := by decide +kernel
theorem dX12_isInPolygon_49 : decode cX12_isInPolygon 49 = .ok (.aload_n 0, 1) := by decide +kernel
theorem dX12_isInPolygon_50 : decode cX12_isInPolygon 50 = .ok (.iload_n 1, 1) := by decide +kernel
theorem dX12_isInPolygon_51 : decode cX12_isInPolygon 51 = .ok (.iload 10, 2) := by decide +kernel
theorem dX12_isInPolygon_53 : decode cX12_isInPolygon 53 = .ok (.iconst 1, 1) := by decide +kernel
theorem dX12_isInPolygon_54 : decode cX12_isInPolygon 54 = .ok (.iadd, 1) := by decide +kernel
theorem dX12_isInPolygon_55 : decode cX12_isInPolygon 55 = .ok (.invokevirtual 256, 3) := by decide +kernel
theorem dX12_isInPolygon_58 : decode cX12_isInPolygon 58 = .ok (.iload 11, 2) := by decide +kernel
theorem dX12_isInPolygon_60 : decode cX12_isInPolygon 60 = .ok (.isub, 1) := by decide +kernel
theorem dX12_isInPolygon_61 : decode cX12_isInPolygon 61 = .ok (.i2l, 1) := by decide +kernel
theorem dX12_isInPolygon_62 : decode cX12_isInPolygon 62 = .ok (.iload_n 3, 1) := by decide +kernel
theorem dX12_isInPolygon_63 : decode cX12_isInPolygon 63 = .ok (.iload 12, 2) := by decide +kernel
theorem dX12_isInPolygon_65 : decode cX12_isInPolygon 65 = .ok (.isub, 1) := by decide +kernel
theorem dX12_isInPolygon_66 : decode cX12_isInPolygon 66 = .ok (.i2l, 1) := by decide +kernel
theorem dX12_isInPolygon_67 : decode cX12_isInPolygon 67 = .ok (.lmul, 1) := by decide +kernel
theorem dX12_isInPolygon_68 : decode cX12_isInPolygon 68 = .ok (.aload_n 0, 1) := by decide +kernel
theorem dX12_isInPolygon_69 : decode cX12_isInPolygon 69 = .ok (.iload_n 1, 1) := by decide +kernel
theorem dX12_isInPolygon_70 : decode cX12_isInPolygon 70 = .ok (.iload 10, 2) := by decide +kernel
theorem dX12_isInPolygon_72 : decode cX12_isInPolygon 72 = .ok (.iconst 1, 1) := by decide +kernel
theorem dX12_isInPolygon_73 : decode cX12_isInPolygon 73 = .ok (.iadd, 1) := by decide +kernel
theorem dX12_isInPolygon_74 : decode cX12_isInPolygon 74 = .ok (.invokevirtual 259, 3) := by decide +kernel
theorem dX12_isInPolygon_77 : decode cX12_isInPolygon 77 = .ok (.iload 12, 2) := by decide +kernel
theorem dX12_isInPolygon_79 : decode cX12_isInPolygon 79 = .ok (.isub, 1) := by decide +kernel
theorem dX12_isInPolygon_80 : decode cX12_isInPolygon 80 = .ok (.i2l, 1) := by decide +kernel
theorem dX12_isInPolygon_81 : decode cX12_isInPolygon 81 = .ok (.iload_n 2, 1) := by decide +kernel
theorem dX12_isInPolygon_82 : decode cX12_isInPolygon 82 = .ok (.iload 11, 2) := by decide +kernel
theorem dX12_isInPolygon_84 : decode cX12_isInPolygon 84 = .ok (.isub, 1) := by decide +kernel
theorem dX12_isInPolygon_85 : decode cX12_isInPolygon 85 = .ok (.i2l, 1) := by decide +kernel
theorem dX12_isInPolygon_86 : decode cX12_isInPolygon 86 = .ok (.lmul, 1) := by decide +kernel
theorem dX12_isInPolygon_87 : decode cX12_isInPolygon 87 = .ok (.lsub, 1) := by decide +kernel
theorem dX12_isInPolygon_88 : decode cX12_isInPolygon 88 = .ok (.lstore 13, 2) := by decide +kernel
theorem dX12_isInPolygon_90 : decode cX12_isInPolygon 90 = .ok (.iload 4, 2) := by decide +kernel
theorem dX12_isInPolygon_92 : decode cX12_isInPolygon 92 = .ok (.ifCond .eq 14, 3) := by decide +kernel
theorem dX12_isInPolygon_95 : decode cX12_isInPolygon 95 = .ok (.lload 13, 2) := by decide +kernel
theorem dX12_isInPolygon_97 : decode cX12_isInPolygon 97 = .ok (.lconst 0, 1) := by decide +kernel
theorem dX12_isInPolygon_98 : decode cX12_isInPolygon 98 = .ok (.lcmp, 1) := by decide +kernel
theorem dX12_isInPolygon_99 : decode cX12_isInPolygon 99 = .ok (.ifCond .lt 7, 3) := by decide +kernel
theorem dX12_isInPolygon_102 : decode cX12_isInPolygon 102 = .ok (.iconst 1, 1) := by decide +kernel
theorem dX12_isInPolygon_103 : decode cX12_isInPolygon 103 = .ok (.goto 4, 3) := by decide +kernel
theorem dX12_isInPolygon_106 : decode cX12_isInPolygon 106 = .ok (.iconst 0, 1) := by decide +kernel
theorem dX12_isInPolygon_107 : decode cX12_isInPolygon 107 = .ok (.istore 4, 2) := by decide +kernel
theorem dX12_isInPolygon_109 : decode cX12_isInPolygon 109 = .ok (.iload 5, 2) := by decide +kernel
theorem dX12_isInPolygon_111 : decode cX12_isInPolygon 111 = .ok (.ifCond .eq 14, 3) := by decide +kernel
theorem dX12_isInPolygon_114 : decode cX12_isInPolygon 114 = .ok (.lload 13, 2) := by decide +kernel
theorem dX12_isInPolygon_116 : decode cX12_isInPolygon 116 = .ok (.lconst 0, 1) := by decide +kernel
theorem dX12_isInPolygon_117 : decode cX12_isInPolygon 117 = .ok (.lcmp, 1) := by decide +kernel
theorem dX12_isInPolygon_118 : decode cX12_isInPolygon 118 = .ok (.ifCond .gt 7, 3) := by decide +kernel
theorem dX12_isInPolygon_121 : decode cX12_isInPolygon 121 = .ok (.iconst 1, 1) := by decide +kernel
theorem dX12_isInPolygon_122 : decode cX12_isInPolygon 122 = .ok (.goto 4, 3) := by decide +kernel
theorem dX12_isInPolygon_125 : decode cX12_isInPolygon 125 = .ok (.iconst 0, 1) := by decide +kernel
theorem dX12_isInPolygon_126 : decode cX12_isInPolygon 126 = .ok (.istore 5, 2) := by decide +kernel
theorem dX12_isInPolygon_128 : decode cX12_isInPolygon 128 = .ok (.iload 6, 2) := by decide +kernel
theorem dX12_isInPolygon_130 : decode cX12_isInPolygon 130 = .ok (.ifCond .ne 9, 3) := by decide +kernel
theorem dX12_isInPolygon_133 : decode cX12_isInPolygon 133 = .ok (.iload 11, 2) := by decide +kernel
theorem dX12_isInPolygon_135 : decode cX12_isInPolygon 135 = .ok (.iload_n 2, 1) := by decide +kernel
theorem dX12_isInPolygon_136 : decode cX12_isInPolygon 136 = .ok (.if_icmp .gt 7, 3) := by decide +kernel
theorem dX12_isInPolygon_139 : decode cX12_isInPolygon 139 = .ok (.iconst 1, 1) := by decide +kernel
theorem dX12_isInPolygon_140 : decode cX12_isInPolygon 140 = .ok (.goto 4, 3) := by decide +kernel
theorem dX12_isInPolygon_143 : decode cX12_isInPolygon 143 = .ok (.iconst 0, 1) := by decide +kernel
theorem dX12_isInPolygon_144 : decode cX12_isInPolygon 144 = .ok (.istore 6, 2) := by decide +kernel
theorem dX12_isInPolygon_146 : decode cX12_isInPolygon 146 = .ok (.iload 7, 2) := by decide +kernel
theorem dX12_isInPolygon_148 : decode cX12_isInPolygon 148 = .ok (.ifCond .ne 9, 3) := by decide +kernel
theorem dX12_isInPolygon_151 : decode cX12_isInPolygon 151 = .ok (.iload 11, 2) := by decide +kernel
theorem dX12_isInPolygon_153 : decode cX12_isInPolygon 153 = .ok (.iload_n 2, 1) := by decide +kernel
theorem dX12_isInPolygon_154 : decode cX12_isInPolygon 154 = .ok (.if_icmp .lt 7, 3) := by decide +kernel
theorem dX12_isInPolygon_157 : decode cX12_isInPolygon 157 = .ok (.iconst 1, 1) := by decide +kernel
theorem dX12_isInPolygon_158 : decode cX12_isInPolygon 158 = .ok (.goto 4, 3) := by decide +kernel
theorem dX12_isInPolygon_161 : decode cX12_isInPolygon 161 = .ok (.iconst 0, 1) := by decide +kernel
theorem dX12_isInPolygon_162 : decode cX12_isInPolygon 162 = .ok (.istore 7, 2) := by decide +kernel
theorem dX12_isInPolygon_164 : decode cX12_isInPolygon 164 = .ok (.iload 8, 2) := by decide +kernel
theorem dX12_isInPolygon_166 : decode cX12_isInPolygon 166 = .ok (.ifCond .ne 9, 3) := by decide +kernel
theorem dX12_isInPolygon_169 : decode cX12_isInPolygon 169 = .ok (.iload 12, 2) := by decide +kernel
theorem dX12_isInPolygon_171 : decode cX12_isInPolygon 171 = .ok (.iload_n 3, 1) := by decide +kernel
theorem dX12_isInPolygon_172 : decode cX12_isInPolygon 172 = .ok (.if_icmp .lt 7, 3) := by decide +kernel
theorem dX12_isInPolygon_175 : decode cX12_isInPolygon 175 = .ok (.iconst 1, 1) := by decide +kernel
theorem dX12_isInPolygon_176 : decode cX12_isInPolygon 176 = .ok (.goto 4, 3) := by decide +kernel
theorem dX12_isInPolygon_179 : decode cX12_isInPolygon 179 = .ok (.iconst 0, 1) := by decide +kernel
theorem dX12_isInPolygon_180 : decode cX12_isInPolygon 180 = .ok (.istore 8, 2) := by decide +kernel
theorem dX12_isInPolygon_182 : decode cX12_isInPolygon 182 = .ok (.iload 9, 2) := by decide +kernel
theorem dX12_isInPolygon_184 : decode cX12_isInPolygon 184 = .ok (.ifCond .ne 9, 3) := by decide +kernel
theorem dX12_isInPolygon_187 : decode cX12_isInPolygon 187 = .ok (.iload 12, 2) := by decide +kernel
theorem dX12_isInPolygon_189 : decode cX12_isInPolygon 189 = .ok (.iload_n 3, 1) := by decide +kernel
theorem dX12_isInPolygon_190 : decode cX12_isInPolygon 190 = .ok (.if_icmp .gt 7, 3) := by decide +kernel
theorem dX12_isInPolygon_193 : decode cX12_isInPolygon 193 = .ok (.iconst 1, 1) := by decide +kernel
theorem dX12_isInPolygon_194 : decode cX12_isInPolygon 194 = .ok (.goto 4, 3) := by decide +kernel
theorem dX12_isInPolygon_197 : decode cX12_isInPolygon 197 = .ok (.iconst 0, 1) := by decide +kernel
theorem dX12_isInPolygon_198 : decode cX12_isInPolygon 198 = .ok (.istore 9, 2) := by decide +kernel
theorem dX12_isInPolygon_200 : decode cX12_isInPolygon 200 = .ok (.iinc 10 1, 3) := by decide +kernel
theorem dX12_isInPolygon_203 : decode cX12_isInPolygon 203 = .ok (.goto (-182), 3) := by decide +kernel
theorem dX12_isInPolygon_206 : decode cX12_isInPolygon 206 = .ok (.iload 4, 2) := by decide +kernel
theorem dX12_isInPolygon_208 : decode cX12_isInPolygon 208 = .ok (.ifCond .ne 8, 3) := by decide +kernel
theorem dX12_isInPolygon_211 : decode cX12_isInPolygon 211 = .ok (.iload 5, 2) := by decide +kernel
theorem dX12_isInPolygon_213 : decode cX12_isInPolygon 213 = .ok (.ifCond .eq 27, 3) := by decide +kernel
theorem dX12_isInPolygon_216 : decode cX12_isInPolygon 216 = .ok (.iload 6, 2) := by decide +kernel
theorem dX12_isInPolygon_218 : decode cX12_isInPolygon 218 = .ok (.ifCond .eq 22, 3) := by decide +kernel
theorem dX12_isInPolygon_221 : decode cX12_isInPolygon 221 = .ok (.iload 7, 2) := by decide +kernel
theorem dX12_isInPolygon_223 : decode cX12_isInPolygon 223 = .ok (.ifCond .eq 17, 3) := by decide +kernel
theorem dX12_isInPolygon_226 : decode cX12_isInPolygon 226 = .ok (.iload 8, 2) := by decide +kernel
theorem dX12_isInPolygon_228 : decode cX12_isInPolygon 228 = .ok (.ifCond .eq 12, 3) := by decide +kernel
theorem dX12_isInPolygon_231 : decode cX12_isInPolygon 231 = .ok (.iload 9, 2) := by decide +kernel
theorem dX12_isInPolygon_233 : decode cX12_isInPolygon 233 = .ok (.ifCond .eq 7, 3) := by decide +kernel
theorem dX12_isInPolygon_236 : decode cX12_isInPolygon 236 = .ok (.iconst 1, 1) := by decide +kernel
theorem dX12_isInPolygon_237 : decode cX12_isInPolygon 237 = .ok (.goto 4, 3) := by decide +kernel
theorem dX12_isInPolygon_240 : decode cX12_isInPolygon 240 = .ok (.iconst 0, 1) := by decide +kernel
theorem dX12_isInPolygon_241 : decode cX12_isInPolygon 241 = .ok (.ireturn, 1) := by decide +kernel
theorem dX12_covers_0 : decode cX12_covers 0 = .ok (.aload_n 0, 1) := by decide +kernel
theorem dX12_covers_1 : decode cX12_covers 1 = .ok (.iload_n 1, 1) := by decide +kernel
theorem dX12_covers_2 : decode cX12_covers 2 = .ok (.invokevirtual 247, 3) := by decide +kernel
theorem dX12_covers_5 : decode cX12_covers 5 = .ok (.iconst 3, 1) := by decide +kernel
theorem dX12_covers_6 : decode cX12_covers 6 = .ok (.if_icmp .ne 13, 3) := by decide +kernel
theorem dX12_covers_9 : decode cX12_covers 9 = .ok (.aload_n 0, 1) := by decide +kernel
theorem dX12_covers_10 : decode cX12_covers 10 = .ok (.iload_n 1, 1) := by decide +kernel
theorem dX12_covers_11 : decode cX12_covers 11 = .ok (.iload_n 2, 1) := by decide +kernel
theorem dX12_covers_12 : decode cX12_covers 12 = .ok (.iload_n 3, 1) := by decide +kernel
theorem dX12_covers_13 : decode cX12_covers 13 = .ok (.invokevirtual 268, 3) := by decide +kernel
theorem dX12_covers_16 : decode cX12_covers 16 = .ok (.goto 10, 3) := by decide +kernel
theorem dX12_covers_19 : decode cX12_covers 19 = .ok (.aload_n 0, 1) := by decide +kernel
theorem dX12_covers_20 : decode cX12_covers 20 = .ok (.iload_n 1, 1) := by decide +kernel
theorem dX12_covers_21 : decode cX12_covers 21 = .ok (.iload_n 2, 1) := by decide +kernel
theorem dX12_covers_22 : decode cX12_covers 22 = .ok (.iload_n 3, 1) := by decide +kernel
theorem dX12_covers_23 : decode cX12_covers 23 = .ok (.invokevirtual 271, 3) := by decide +kernel
theorem dX12_covers_26 : decode cX12_covers 26 = .ok (.ireturn, 1) := by decide +kernel
theorem dX12_covering_0 : decode cX12_covering 0 = .ok (.aload_n 0, 1) := by decide +kernel
theorem dX12_covering_1 : decode cX12_covering 1 = .ok (.iload_n 1, 1) := by decide +kernel
theorem dX12_covering_2 : decode cX12_covering 2 = .ok (.sipush (-20000), 3) := by decide +kernel
theorem dX12_covering_5 : decode cX12_covering 5 = .ok (.sipush 20000, 3) := by decide +kernel
theorem dX12_covering_8 : decode cX12_covering 8 = .ok (.invokestatic 65, 3) := by decide +kernel
theorem dX12_covering_11 : decode cX12_covering 11 = .ok (.ifCond .eq 20, 3) := by decide +kernel
theorem dX12_covering_14 : decode cX12_covering 14 = .ok (.iload_n 2, 1) := by decide +kernel
theorem dX12_covering_15 : decode cX12_covering 15 = .ok (.sipush (-20000), 3) := by decide +kernel
theorem dX12_covering_18 : decode cX12_covering 18 = .ok (.sipush 20000, 3) := by decide +kernel
theorem dX12_covering_21 : decode cX12_covering 21 = .ok (.invokestatic 65, 3) := by decide +kernel
theorem dX12_covering_24 : decode cX12_covering 24 = .ok (.ifCond .eq 7, 3) := by decide +kernel
theorem dX12_covering_27 : decode cX12_covering 27 = .ok (.iconst 0, 1) := by decide +kernel
theorem dX12_covering_28 : decode cX12_covering 28 = .ok (.goto 4, 3) := by decide +kernel
theorem dX12_covering_31 : decode cX12_covering 31 = .ok (.iconst 1, 1) := by decide +kernel
theorem dX12_covering_32 : decode cX12_covering 32 = .ok (.invokevirtual 76, 3) := by decide +kernel
theorem dX12_covering_35 : decode cX12_covering 35 = .ok (.ifCond .eq 5, 3) := by decide +kernel
theorem dX12_covering_38 : decode cX12_covering 38 = .ok (.iconst 0, 1) := by decide +kernel
theorem dX12_covering_39 : decode cX12_covering 39 = .ok (.ireturn, 1) := by decide +kernel
theorem dX12_covering_40 : decode cX12_covering 40 = .ok (.aload_n 0, 1) := by decide +kernel
theorem dX12_covering_41 : decode cX12_covering 41 = .ok (.invokevirtual 253, 3) := by decide +kernel
theorem dX12_covering_44 : decode cX12_covering 44 = .ok (.iconst 0, 1) := by decide +kernel
theorem dX12_covering_45 : decode cX12_covering 45 = .ok (.istore_n 3, 1) := by decide +kernel
theorem dX12_covering_46 : decode cX12_covering 46 = .ok (.iconst 0, 1) := by decide +kernel
theorem dX12_covering_47 : decode cX12_covering 47 = .ok (.istore 4, 2) := by decide +kernel
theorem dX12_covering_49 : decode cX12_covering 49 = .ok (.iload 4, 2) := by decide +kernel
theorem dX12_covering_51 : decode cX12_covering 51 = .ok (.aload_n 0, 1) := by decide +kernel
theorem dX12_covering_52 : decode cX12_covering 52 = .ok (.getfield 194, 3) := by decide +kernel
theorem dX12_covering_55 : decode cX12_covering 55 = .ok (.if_icmp .ge 28, 3) := by decide +kernel
theorem dX12_covering_58 : decode cX12_covering 58 = .ok (.iload_n 3, 1) := by decide +kernel
theorem dX12_covering_59 : decode cX12_covering 59 = .ok (.aload_n 0, 1) := by decide +kernel
theorem dX12_covering_60 : decode cX12_covering 60 = .ok (.iload 4, 2) := by decide +kernel
theorem dX12_covering_62 : decode cX12_covering 62 = .ok (.iload_n 1, 1) := by decide +kernel
theorem dX12_covering_63 : decode cX12_covering 63 = .ok (.iload_n 2, 1) := by decide +kernel
theorem dX12_covering_64 : decode cX12_covering 64 = .ok (.invokevirtual 274, 3) := by decide +kernel
theorem dX12_covering_67 : decode cX12_covering 67 = .ok (.ifCond .eq 7, 3) := by decide +kernel
theorem dX12_covering_70 : decode cX12_covering 70 = .ok (.iconst 1, 1) := by decide +kernel
theorem dX12_covering_71 : decode cX12_covering 71 = .ok (.goto 4, 3) := by decide +kernel
theorem dX12_covering_74 : decode cX12_covering 74 = .ok (.iconst 0, 1) := by decide +kernel
theorem dX12_covering_75 : decode cX12_covering 75 = .ok (.iadd, 1) := by decide +kernel
theorem dX12_covering_76 : decode cX12_covering 76 = .ok (.istore_n 3, 1) := by decide +kernel
theorem dX12_covering_77 : decode cX12_covering 77 = .ok (.iinc 4 1, 3) := by decide +kernel
theorem dX12_covering_80 : decode cX12_covering 80 = .ok (.goto (-31), 3) := by decide +kernel
theorem dX12_covering_83 : decode cX12_covering 83 = .ok (.iload_n 3, 1) := by decide +kernel
theorem dX12_covering_84 : decode cX12_covering 84 = .ok (.ireturn, 1) := by decide +kernel
theorem dX12_isCovered_0 : decode cX12_isCovered 0 = .ok (.iconst 0, 1) := by decide +kernel
theorem dX12_isCovered_1 : decode cX12_isCovered 1 = .ok (.istore_n 3, 1) := by decide +kernel
theorem dX12_isCovered_2 : decode cX12_isCovered 2 = .ok (.iload_n 3, 1) := by decide +kernel
theorem dX12_isCovered_3 : decode cX12_isCovered 3 = .ok (.aload_n 0, 1) := by decide +kernel
theorem dX12_isCovered_4 : decode cX12_isCovered 4 = .ok (.getfield 194, 3) := by decide +kernel
theorem dX12_isCovered_7 : decode cX12_isCovered 7 = .ok (.if_icmp .ge 21, 3) := by decide +kernel
theorem dX12_isCovered_10 : decode cX12_isCovered 10 = .ok (.aload_n 0, 1) := by decide +kernel
theorem dX12_isCovered_11 : decode cX12_isCovered 11 = .ok (.iload_n 3, 1) := by decide +kernel
theorem dX12_isCovered_12 : decode cX12_isCovered 12 = .ok (.iload_n 1, 1) := by decide +kernel
theorem dX12_isCovered_13 : decode cX12_isCovered 13 = .ok (.iload_n 2, 1) := by decide +kernel
theorem dX12_isCovered_14 : decode cX12_isCovered 14 = .ok (.invokevirtual 274, 3) := by decide +kernel
theorem dX12_isCovered_17 : decode cX12_isCovered 17 = .ok (.ifCond .eq 5, 3) := by decide +kernel
theorem dX12_isCovered_20 : decode cX12_isCovered 20 = .ok (.iconst 1, 1) := by decide +kernel
theorem dX12_isCovered_21 : decode cX12_isCovered 21 = .ok (.ireturn, 1) := by decide +kernel
theorem dX12_isCovered_22 : decode cX12_isCovered 22 = .ok (.iinc 3 1, 3) := by decide +kernel
theorem dX12_isCovered_25 : decode cX12_isCovered 25 = .ok (.goto (-23), 3) := by decide +kernel
theorem dX12_isCovered_28 : decode cX12_isCovered 28 = .ok (.iconst 0, 1) := by decide +kernel
theorem dX12_isCovered_29 : decode cX12_isCovered 29 = .ok (.ireturn, 1) := by decide +kernel
theorem dX12_covered_0 : decode cX12_covered 0 = .ok (.aload_n 0, 1) := by decide +kernel
theorem dX12_covered_1 : decode cX12_covered 1 = .ok (.iload_n 1, 1) := by decide +kernel
theorem dX12_covered_2 : decode cX12_covered 2 = .ok (.iload_n 2, 1) := by decide +kernel
theorem dX12_covered_3 : decode cX12_covered 3 = .ok (.invokestatic 91, 3) := by decide +kernel
theorem dX12_covered_6 : decode cX12_covered 6 = .ok (.ifCond .eq 28, 3) := by decide +kernel
theorem dX12_covered_9 : decode cX12_covered 9 = .ok (.iload_n 3, 1) := by decide +kernel
theorem dX12_covered_10 : decode cX12_covered 10 = .ok (.iconst 0, 1) := by decide +kernel
theorem dX12_covered_11 : decode cX12_covered 11 = .ok (.bipush 20, 2) := by decide +kernel
theorem dX12_covered_13 : decode cX12_covered 13 = .ok (.invokestatic 65, 3) := by decide +kernel
theorem dX12_covered_16 : decode cX12_covered 16 = .ok (.ifCond .eq 18, 3) := by decide +kernel
theorem dX12_covered_19 : decode cX12_covered 19 = .ok (.iload 4, 2) := by decide +kernel
theorem dX12_covered_21 : decode cX12_covered 21 = .ok (.iconst 0, 1) := by decide +kernel
theorem dX12_covered_22 : decode cX12_covered 22 = .ok (.bipush 20, 2) := by decide +kernel
theorem dX12_covered_24 : decode cX12_covered 24 = .ok (.invokestatic 65, 3) := by decide +kernel
theorem dX12_covered_27 : decode cX12_covered 27 = .ok (.ifCond .eq 7, 3) := by decide +kernel
theorem dX12_covered_30 : decode cX12_covered 30 = .ok (.iconst 0, 1) := by decide +kernel
theorem dX12_covered_31 : decode cX12_covered 31 = .ok (.goto 4, 3) := by decide +kernel
theorem dX12_covered_34 : decode cX12_covered 34 = .ok (.iconst 1, 1) := by decide +kernel
theorem dX12_covered_35 : decode cX12_covered 35 = .ok (.invokevirtual 76, 3) := by decide +kernel
theorem dX12_covered_38 : decode cX12_covered 38 = .ok (.ifCond .eq 5, 3) := by decide +kernel
theorem dX12_covered_41 : decode cX12_covered 41 = .ok (.iconst 0, 1) := by decide +kernel
theorem dX12_covered_42 : decode cX12_covered 42 = .ok (.ireturn, 1) := by decide +kernel
theorem dX12_covered_43 : decode cX12_covered 43 = .ok (.aload_n 0, 1) := by decide +kernel
theorem dX12_covered_44 : decode cX12_covered 44 = .ok (.invokevirtual 253, 3) := by decide +kernel
theorem dX12_covered_47 : decode cX12_covered 47 = .ok (.iconst 0, 1) := by decide +kernel
theorem dX12_covered_48 : decode cX12_covered 48 = .ok (.istore 5, 2) := by decide +kernel
theorem dX12_covered_50 : decode cX12_covered 50 = .ok (.iload_n 1, 1) := by decide +kernel
theorem dX12_covered_51 : decode cX12_covered 51 = .ok (.istore 6, 2) := by decide +kernel
theorem dX12_covered_53 : decode cX12_covered 53 = .ok (.iload 6, 2) := by decide +kernel
theorem dX12_covered_55 : decode cX12_covered 55 = .ok (.iload_n 1, 1) := by decide +kernel
theorem dX12_covered_56 : decode cX12_covered 56 = .ok (.iload_n 3, 1) := by decide +kernel
theorem dX12_covered_57 : decode cX12_covered 57 = .ok (.iadd, 1) := by decide +kernel
theorem dX12_covered_58 : decode cX12_covered 58 = .ok (.if_icmp .gt 54, 3) := by decide +kernel
theorem dX12_covered_61 : decode cX12_covered 61 = .ok (.iload_n 2, 1) := by decide +kernel
theorem dX12_covered_62 : decode cX12_covered 62 = .ok (.istore 7, 2) := by decide +kernel
theorem dX12_covered_64 : decode cX12_covered 64 = .ok (.iload 7, 2) := by decide +kernel
theorem dX12_covered_66 : decode cX12_covered 66 = .ok (.iload_n 2, 1) := by decide +kernel
theorem dX12_covered_67 : decode cX12_covered 67 = .ok (.iload 4, 2) := by decide +kernel
theorem dX12_covered_69 : decode cX12_covered 69 = .ok (.iadd, 1) := by decide +kernel
theorem dX12_covered_70 : decode cX12_covered 70 = .ok (.if_icmp .gt 36, 3) := by decide +kernel
theorem dX12_covered_73 : decode cX12_covered 73 = .ok (.iload 5, 2) := by decide +kernel
theorem dX12_covered_75 : decode cX12_covered 75 = .ok (.aload_n 0, 1) := by decide +kernel
theorem dX12_covered_76 : decode cX12_covered 76 = .ok (.bipush 64, 2) := by decide +kernel
theorem dX12_covered_78 : decode cX12_covered 78 = .ok (.iload 6, 2) := by decide +kernel
theorem dX12_covered_80 : decode cX12_covered 80 = .ok (.imul, 1) := by decide +kernel
theorem dX12_covered_81 : decode cX12_covered 81 = .ok (.bipush 64, 2) := by decide +kernel
theorem dX12_covered_83 : decode cX12_covered 83 = .ok (.iload 7, 2) := by decide +kernel
theorem dX12_covered_85 : decode cX12_covered 85 = .ok (.imul, 1) := by decide +kernel
theorem dX12_covered_86 : decode cX12_covered 86 = .ok (.invokevirtual 277, 3) := by decide +kernel
theorem dX12_covered_89 : decode cX12_covered 89 = .ok (.ifCond .eq 7, 3) := by decide +kernel
theorem dX12_covered_92 : decode cX12_covered 92 = .ok (.iconst 1, 1) := by decide +kernel
theorem dX12_covered_93 : decode cX12_covered 93 = .ok (.goto 4, 3) := by decide +kernel
theorem dX12_covered_96 : decode cX12_covered 96 = .ok (.iconst 0, 1) := by decide +kernel
theorem dX12_covered_97 : decode cX12_covered 97 = .ok (.iadd, 1) := by decide +kernel
theorem dX12_covered_98 : decode cX12_covered 98 = .ok (.istore 5, 2) := by decide +kernel
theorem dX12_covered_100 : decode cX12_covered 100 = .ok (.iinc 7 1, 3) := by decide +kernel
theorem dX12_covered_103 : decode cX12_covered 103 = .ok (.goto (-39), 3) := by decide +kernel
theorem dX12_covered_106 : decode cX12_covered 106 = .ok (.iinc 6 1, 3) := by decide +kernel
theorem dX12_covered_109 : decode cX12_covered 109 = .ok (.goto (-56), 3) := by decide +kernel
theorem dX12_covered_112 : decode cX12_covered 112 = .ok (.iload 5, 2) := by decide +kernel
theorem dX12_covered_114 : decode cX12_covered 114 = .ok (.ireturn, 1) := by decide +kernel
theorem dX12_nearest_0 : decode cX12_nearest 0 = .ok (.aload_n 0, 1) := by decide +kernel
theorem dX12_nearest_1 : decode cX12_nearest 1 = .ok (.iload_n 1, 1) := by decide +kernel
theorem dX12_nearest_2 : decode cX12_nearest 2 = .ok (.iload_n 2, 1) := by decide +kernel
theorem dX12_nearest_3 : decode cX12_nearest 3 = .ok (.invokestatic 91, 3) := by decide +kernel
theorem dX12_nearest_6 : decode cX12_nearest 6 = .ok (.ifCond .eq 7, 3) := by decide +kernel
theorem dX12_nearest_9 : decode cX12_nearest 9 = .ok (.iconst 0, 1) := by decide +kernel
theorem dX12_nearest_10 : decode cX12_nearest 10 = .ok (.goto 4, 3) := by decide +kernel
theorem dX12_nearest_13 : decode cX12_nearest 13 = .ok (.iconst 1, 1) := by decide +kernel
theorem dX12_nearest_14 : decode cX12_nearest 14 = .ok (.invokevirtual 76, 3) := by decide +kernel
theorem dX12_nearest_17 : decode cX12_nearest 17 = .ok (.ifCond .eq 5, 3) := by decide +kernel
theorem dX12_nearest_20 : decode cX12_nearest 20 = .ok (.iconst 0, 1) := by decide +kernel
theorem dX12_nearest_21 : decode cX12_nearest 21 = .ok (.ireturn, 1) := by decide +kernel
theorem dX12_nearest_22 : decode cX12_nearest 22 = .ok (.iconst (-1), 1) := by decide +kernel
theorem dX12_nearest_23 : decode cX12_nearest 23 = .ok (.istore_n 3, 1) := by decide +kernel
theorem dX12_nearest_24 : decode cX12_nearest 24 = .ok (.iconst 0, 1) := by decide +kernel
theorem dX12_nearest_25 : decode cX12_nearest 25 = .ok (.istore 4, 2) := by decide +kernel
theorem dX12_nearest_27 : decode cX12_nearest 27 = .ok (.iload 4, 2) := by decide +kernel
theorem dX12_nearest_29 : decode cX12_nearest 29 = .ok (.aload_n 0, 1) := by decide +kernel
theorem dX12_nearest_30 : decode cX12_nearest 30 = .ok (.getfield 7, 3) := by decide +kernel
theorem dX12_nearest_33 : decode cX12_nearest 33 = .ok (.bipush 13, 2) := by decide +kernel
theorem dX12_nearest_35 : decode cX12_nearest 35 = .ok (.iaload, 1) := by decide +kernel
theorem dX12_nearest_36 : decode cX12_nearest 36 = .ok (.if_icmp .ge 89, 3) := by decide +kernel
theorem dX12_nearest_39 : decode cX12_nearest 39 = .ok (.iconst 0, 1) := by decide +kernel
theorem dX12_nearest_40 : decode cX12_nearest 40 = .ok (.istore 5, 2) := by decide +kernel
theorem dX12_nearest_42 : decode cX12_nearest 42 = .ok (.iload 5, 2) := by decide +kernel
theorem dX12_nearest_44 : decode cX12_nearest 44 = .ok (.aload_n 0, 1) := by decide +kernel
theorem dX12_nearest_45 : decode cX12_nearest 45 = .ok (.iload 4, 2) := by decide +kernel
theorem dX12_nearest_47 : decode cX12_nearest 47 = .ok (.invokevirtual 88, 3) := by decide +kernel
theorem dX12_nearest_50 : decode cX12_nearest 50 = .ok (.if_icmp .ge 69, 3) := by decide +kernel
theorem dX12_nearest_53 : decode cX12_nearest 53 = .ok (.aload_n 0, 1) := by decide +kernel
theorem dX12_nearest_54 : decode cX12_nearest 54 = .ok (.iload 4, 2) := by decide +kernel
theorem dX12_nearest_56 : decode cX12_nearest 56 = .ok (.iload 5, 2) := by decide +kernel
theorem dX12_nearest_58 : decode cX12_nearest 58 = .ok (.invokevirtual 122, 3) := by decide +kernel
theorem dX12_nearest_61 : decode cX12_nearest 61 = .ok (.iload_n 1, 1) := by decide +kernel
theorem dX12_nearest_62 : decode cX12_nearest 62 = .ok (.isub, 1) := by decide +kernel
theorem dX12_nearest_63 : decode cX12_nearest 63 = .ok (.istore 6, 2) := by decide +kernel
theorem dX12_nearest_65 : decode cX12_nearest 65 = .ok (.aload_n 0, 1) := by decide +kernel
theorem dX12_nearest_66 : decode cX12_nearest 66 = .ok (.iload 4, 2) := by decide +kernel
theorem dX12_nearest_68 : decode cX12_nearest 68 = .ok (.iload 5, 2) := by decide +kernel
theorem dX12_nearest_70 : decode cX12_nearest 70 = .ok (.invokevirtual 126, 3) := by decide +kernel
theorem dX12_nearest_73 : decode cX12_nearest 73 = .ok (.iload_n 2, 1) := by decide +kernel
theorem dX12_nearest_74 : decode cX12_nearest 74 = .ok (.isub, 1) := by decide +kernel
theorem dX12_nearest_75 : decode cX12_nearest 75 = .ok (.istore 7, 2) := by decide +kernel
theorem dX12_nearest_77 : decode cX12_nearest 77 = .ok (.iload_n 3, 1) := by decide +kernel
theorem dX12_nearest_78 : decode cX12_nearest 78 = .ok (.iconst (-1), 1) := by decide +kernel
theorem dX12_nearest_79 : decode cX12_nearest 79 = .ok (.if_icmp .eq 18, 3) := by decide +kernel
theorem dX12_nearest_82 : decode cX12_nearest 82 = .ok (.iload 6, 2) := by decide +kernel
theorem dX12_nearest_84 : decode cX12_nearest 84 = .ok (.iload 6, 2) := by decide +kernel
theorem dX12_nearest_86 : decode cX12_nearest 86 = .ok (.imul, 1) := by decide +kernel
theorem dX12_nearest_87 : decode cX12_nearest 87 = .ok (.iload 7, 2) := by decide +kernel
theorem dX12_nearest_89 : decode cX12_nearest 89 = .ok (.iload 7, 2) := by decide +kernel
theorem dX12_nearest_91 : decode cX12_nearest 91 = .ok (.imul, 1) := by decide +kernel
theorem dX12_nearest_92 : decode cX12_nearest 92 = .ok (.iadd, 1) := by decide +kernel
theorem dX12_nearest_93 : decode cX12_nearest 93 = .ok (.iload_n 3, 1) := by decide +kernel
theorem dX12_nearest_94 : decode cX12_nearest 94 = .ok (.if_icmp .ge 17, 3) := by decide +kernel
theorem dX12_nearest_97 : decode cX12_nearest 97 = .ok (.iload 6, 2) := by decide +kernel
theorem dX12_nearest_99 : decode cX12_nearest 99 = .ok (.iload 6, 2) := by decide +kernel
theorem dX12_nearest_101 : decode cX12_nearest 101 = .ok (.imul, 1) := by decide +kernel
theorem dX12_nearest_102 : decode cX12_nearest 102 = .ok (.iload 7, 2) := by decide +kernel
theorem dX12_nearest_104 : decode cX12_nearest 104 = .ok (.iload 7, 2) := by decide +kernel
theorem dX12_nearest_106 : decode cX12_nearest 106 = .ok (.imul, 1) := by decide +kernel
theorem dX12_nearest_107 : decode cX12_nearest 107 = .ok (.iadd, 1) := by decide +kernel
theorem dX12_nearest_108 : decode cX12_nearest 108 = .ok (.goto 4, 3) := by decide +kernel
theorem dX12_nearest_111 : decode cX12_nearest 111 = .ok (.iload_n 3, 1) := by decide +kernel
theorem dX12_nearest_112 : decode cX12_nearest 112 = .ok (.istore_n 3, 1) := by decide +kernel
theorem dX12_nearest_113 : decode cX12_nearest 113 = .ok (.iinc 5 1, 3) := by decide +kernel
theorem dX12_nearest_116 : decode cX12_nearest 116 = .ok (.goto (-74), 3) := by decide +kernel
theorem dX12_nearest_119 : decode cX12_nearest 119 = .ok (.iinc 4 1, 3) := by decide +kernel
theorem dX12_nearest_122 : decode cX12_nearest 122 = .ok (.goto (-95), 3) := by decide +kernel
theorem dX12_nearest_125 : decode cX12_nearest 125 = .ok (.iload_n 3, 1) := by decide +kernel
theorem dX12_nearest_126 : decode cX12_nearest 126 = .ok (.ireturn, 1) := by decide +kernel
theorem dX12_append_0 : decode cX12_append 0 = .ok (.aload_n 0, 1) := by decide +kernel
theorem dX12_append_1 : decode cX12_append 1 = .ok (.iload_n 1, 1) := by decide +kernel
theorem dX12_append_2 : decode cX12_append 2 = .ok (.iconst 0, 1) := by decide +kernel
theorem dX12_append_3 : decode cX12_append 3 = .ok (.bipush 127, 2) := by decide +kernel
theorem dX12_append_5 : decode cX12_append 5 = .ok (.invokestatic 65, 3) := by decide +kernel
theorem dX12_append_8 : decode cX12_append 8 = .ok (.ifCond .ne 7, 3) := by decide +kernel
theorem dX12_append_11 : decode cX12_append 11 = .ok (.iconst 1, 1) := by decide +kernel
theorem dX12_append_12 : decode cX12_append 12 = .ok (.goto 18, 3) := by decide +kernel
theorem dX12_append_15 : decode cX12_append 15 = .ok (.aload_n 0, 1) := by decide +kernel
theorem dX12_append_16 : decode cX12_append 16 = .ok (.getfield 280, 3) := by decide +kernel
theorem dX12_append_19 : decode cX12_append 19 = .ok (.sipush 150, 3) := by decide +kernel
theorem dX12_append_22 : decode cX12_append 22 = .ok (.if_icmp .ne 7, 3) := by decide +kernel
theorem dX12_append_25 : decode cX12_append 25 = .ok (.iconst 2, 1) := by decide +kernel
theorem dX12_append_26 : decode cX12_append 26 = .ok (.goto 4, 3) := by decide +kernel
theorem dX12_append_29 : decode cX12_append 29 = .ok (.iconst 0, 1) := by decide +kernel
theorem dX12_append_30 : decode cX12_append 30 = .ok (.invokevirtual 76, 3) := by decide +kernel
theorem dX12_append_33 : decode cX12_append 33 = .ok (.ifCond .eq 5, 3) := by decide +kernel
theorem dX12_append_36 : decode cX12_append 36 = .ok (.iconst 0, 1) := by decide +kernel
theorem dX12_append_37 : decode cX12_append 37 = .ok (.ireturn, 1) := by decide +kernel
theorem dX12_append_38 : decode cX12_append 38 = .ok (.aload_n 0, 1) := by decide +kernel
theorem dX12_append_39 : decode cX12_append 39 = .ok (.getfield 16, 3) := by decide +kernel
theorem dX12_append_42 : decode cX12_append 42 = .ok (.aload_n 0, 1) := by decide +kernel
theorem dX12_append_43 : decode cX12_append 43 = .ok (.getfield 280, 3) := by decide +kernel
theorem dX12_append_46 : decode cX12_append 46 = .ok (.iload_n 1, 1) := by decide +kernel
theorem dX12_append_47 : decode cX12_append 47 = .ok (.iastore, 1) := by decide +kernel
theorem dX12_append_48 : decode cX12_append 48 = .ok (.aload_n 0, 1) := by decide +kernel
theorem dX12_append_49 : decode cX12_append 49 = .ok (.dup, 1) := by decide +kernel
theorem dX12_append_50 : decode cX12_append 50 = .ok (.getfield 280, 3) := by decide +kernel
theorem dX12_append_53 : decode cX12_append 53 = .ok (.iconst 1, 1) := by decide +kernel
theorem dX12_append_54 : decode cX12_append 54 = .ok (.iadd, 1) := by decide +kernel
theorem dX12_append_55 : decode cX12_append 55 = .ok (.putfield 280, 3) := by decide +kernel
theorem dX12_append_58 : decode cX12_append 58 = .ok (.aload_n 0, 1) := by decide +kernel
theorem dX12_append_59 : decode cX12_append 59 = .ok (.getfield 280, 3) := by decide +kernel
theorem dX12_append_62 : decode cX12_append 62 = .ok (.ireturn, 1) := by decide +kernel
theorem dX12_clearText_0 : decode cX12_clearText 0 = .ok (.aload_n 0, 1) := by decide +kernel
theorem dX12_clearText_1 : decode cX12_clearText 1 = .ok (.iconst 0, 1) := by decide +kernel
theorem dX12_clearText_2 : decode cX12_clearText 2 = .ok (.putfield 61, 3) := by decide +kernel
theorem dX12_clearText_5 : decode cX12_clearText 5 = .ok (.aload_n 0, 1) := by decide +kernel
theorem dX12_clearText_6 : decode cX12_clearText 6 = .ok (.getfield 280, 3) := by decide +kernel
theorem dX12_clearText_9 : decode cX12_clearText 9 = .ok (.istore_n 1, 1) := by decide +kernel
theorem dX12_clearText_10 : decode cX12_clearText 10 = .ok (.aload_n 0, 1) := by decide +kernel
theorem dX12_clearText_11 : decode cX12_clearText 11 = .ok (.iconst 0, 1) := by decide +kernel
theorem dX12_clearText_12 : decode cX12_clearText 12 = .ok (.putfield 280, 3) := by decide +kernel
theorem dX12_clearText_15 : decode cX12_clearText 15 = .ok (.iload_n 1, 1) := by decide +kernel
theorem dX12_clearText_16 : decode cX12_clearText 16 = .ok (.ireturn, 1) := by decide +kernel
theorem dX12_isAt_0 : decode cX12_isAt 0 = .ok (.aload_n 0, 1) := by decide +kernel
theorem dX12_isAt_1 : decode cX12_isAt 1 = .ok (.getfield 283, 3) := by decide +kernel
theorem dX12_isAt_4 : decode cX12_isAt 4 = .ok (.aload_n 0, 1) := by decide +kernel
theorem dX12_isAt_5 : decode cX12_isAt 5 = .ok (.getfield 280, 3) := by decide +kernel
theorem dX12_isAt_8 : decode cX12_isAt 8 = .ok (.if_icmp .ge 24, 3) := by decide +kernel
theorem dX12_isAt_11 : decode cX12_isAt 11 = .ok (.aload_n 0, 1) := by decide +kernel
theorem dX12_isAt_12 : decode cX12_isAt 12 = .ok (.getfield 16, 3) := by decide +kernel
theorem dX12_isAt_15 : decode cX12_isAt 15 = .ok (.aload_n 0, 1) := by decide +kernel
theorem dX12_isAt_16 : decode cX12_isAt 16 = .ok (.getfield 283, 3) := by decide +kernel
theorem dX12_isAt_19 : decode cX12_isAt 19 = .ok (.iaload, 1) := by decide +kernel
theorem dX12_isAt_20 : decode cX12_isAt 20 = .ok (.iload_n 1, 1) := by decide +kernel
theorem dX12_isAt_21 : decode cX12_isAt 21 = .ok (.iload_n 2, 1) := by decide +kernel
theorem dX12_isAt_22 : decode cX12_isAt 22 = .ok (.invokestatic 65, 3) := by decide +kernel
theorem dX12_isAt_25 : decode cX12_isAt 25 = .ok (.ifCond .eq 7, 3) := by decide +kernel
theorem dX12_isAt_28 : decode cX12_isAt 28 = .ok (.iconst 1, 1) := by decide +kernel
theorem dX12_isAt_29 : decode cX12_isAt 29 = .ok (.goto 4, 3) := by decide +kernel
theorem dX12_isAt_32 : decode cX12_isAt 32 = .ok (.iconst 0, 1) := by decide +kernel
theorem dX12_isAt_33 : decode cX12_isAt 33 = .ok (.ireturn, 1) := by decide +kernel
theorem dX12_passes_0 : decode cX12_passes 0 = .ok (.aload_n 0, 1) := by decide +kernel
theorem dX12_passes_1 : decode cX12_passes 1 = .ok (.iload_n 1, 1) := by decide +kernel
theorem dX12_passes_2 : decode cX12_passes 2 = .ok (.iload_n 1, 1) := by decide +kernel
theorem dX12_passes_3 : decode cX12_passes 3 = .ok (.invokevirtual 286, 3) := by decide +kernel
theorem dX12_passes_6 : decode cX12_passes 6 = .ok (.istore_n 2, 1) := by decide +kernel
theorem dX12_passes_7 : decode cX12_passes 7 = .ok (.aload_n 0, 1) := by decide +kernel
theorem dX12_passes_8 : decode cX12_passes 8 = .ok (.dup, 1) := by decide +kernel
theorem dX12_passes_9 : decode cX12_passes 9 = .ok (.getfield 283, 3) := by decide +kernel
theorem dX12_passes_12 : decode cX12_passes 12 = .ok (.iload_n 2, 1) := by decide +kernel
theorem dX12_passes_13 : decode cX12_passes 13 = .ok (.ifCond .eq 7, 3) := by decide +kernel
theorem dX12_passes_16 : decode cX12_passes 16 = .ok (.iconst 1, 1) := by decide +kernel
theorem dX12_passes_17 : decode cX12_passes 17 = .ok (.goto 4, 3) := by decide +kernel
theorem dX12_passes_20 : decode cX12_passes 20 = .ok (.iconst 0, 1) := by decide +kernel
theorem dX12_passes_21 : decode cX12_passes 21 = .ok (.iadd, 1) := by decide +kernel
theorem dX12_passes_22 : decode cX12_passes 22 = .ok (.putfield 283, 3) := by decide +kernel
theorem dX12_passes_25 : decode cX12_passes 25 = .ok (.iload_n 2, 1) := by decide +kernel
theorem dX12_passes_26 : decode cX12_passes 26 = .ok (.ireturn, 1) := by decide +kernel
theorem dX12_reads_0 : decode cX12_reads 0 = .ok (.aload_n 0, 1) := by decide +kernel
theorem dX12_reads_1 : decode cX12_reads 1 = .ok (.getfield 283, 3) := by decide +kernel
theorem dX12_reads_4 : decode cX12_reads 4 = .ok (.istore_n 1, 1) := by decide +kernel
theorem dX12_reads_5 : decode cX12_reads 5 = .ok (.aload_n 0, 1) := by decide +kernel
theorem dX12_reads_6 : decode cX12_reads 6 = .ok (.bipush 45, 2) := by decide +kernel
theorem dX12_reads_8 : decode cX12_reads 8 = .ok (.invokevirtual 289, 3) := by decide +kernel
theorem dX12_reads_11 : decode cX12_reads 11 = .ok (.istore_n 2, 1) := by decide +kernel
theorem dX12_reads_12 : decode cX12_reads 12 = .ok (.iconst 0, 1) := by decide +kernel
theorem dX12_reads_13 : decode cX12_reads 13 = .ok (.istore_n 3, 1) := by decide +kernel
theorem dX12_reads_14 : decode cX12_reads 14 = .ok (.aload_n 0, 1) := by decide +kernel
theorem dX12_reads_15 : decode cX12_reads 15 = .ok (.iconst 0, 1) := by decide +kernel
theorem dX12_reads_16 : decode cX12_reads 16 = .ok (.putfield 292, 3) := by decide +kernel
theorem dX12_reads_19 : decode cX12_reads 19 = .ok (.iload_n 3, 1) := by decide +kernel
theorem dX12_reads_20 : decode cX12_reads 20 = .ok (.iconst 3, 1) := by decide +kernel
theorem dX12_reads_21 : decode cX12_reads 21 = .ok (.if_icmp .ge 54, 3) := by decide +kernel
theorem dX12_reads_24 : decode cX12_reads 24 = .ok (.aload_n 0, 1) := by decide +kernel
theorem dX12_reads_25 : decode cX12_reads 25 = .ok (.bipush 48, 2) := by decide +kernel
theorem dX12_reads_27 : decode cX12_reads 27 = .ok (.bipush 57, 2) := by decide +kernel
theorem dX12_reads_29 : decode cX12_reads 29 = .ok (.invokevirtual 286, 3) := by decide +kernel
theorem dX12_reads_32 : decode cX12_reads 32 = .ok (.ifCond .eq 43, 3) := by decide +kernel
theorem dX12_reads_35 : decode cX12_reads 35 = .ok (.aload_n 0, 1) := by decide +kernel
theorem dX12_reads_36 : decode cX12_reads 36 = .ok (.bipush 10, 2) := by decide +kernel
theorem dX12_reads_38 : decode cX12_reads 38 = .ok (.aload_n 0, 1) := by decide +kernel
theorem dX12_reads_39 : decode cX12_reads 39 = .ok (.getfield 292, 3) := by decide +kernel
theorem dX12_reads_42 : decode cX12_reads 42 = .ok (.imul, 1) := by decide +kernel
theorem dX12_reads_43 : decode cX12_reads 43 = .ok (.aload_n 0, 1) := by decide +kernel
theorem dX12_reads_44 : decode cX12_reads 44 = .ok (.getfield 16, 3) := by decide +kernel
theorem dX12_reads_47 : decode cX12_reads 47 = .ok (.aload_n 0, 1) := by decide +kernel
theorem dX12_reads_48 : decode cX12_reads 48 = .ok (.getfield 283, 3) := by decide +kernel
theorem dX12_reads_51 : decode cX12_reads 51 = .ok (.iaload, 1) := by decide +kernel
theorem dX12_reads_52 : decode cX12_reads 52 = .ok (.iadd, 1) := by decide +kernel
theorem dX12_reads_53 : decode cX12_reads 53 = .ok (.bipush 48, 2) := by decide +kernel
theorem dX12_reads_55 : decode cX12_reads 55 = .ok (.isub, 1) := by decide +kernel
theorem dX12_reads_56 : decode cX12_reads 56 = .ok (.putfield 292, 3) := by decide +kernel
theorem dX12_reads_59 : decode cX12_reads 59 = .ok (.aload_n 0, 1) := by decide +kernel
theorem dX12_reads_60 : decode cX12_reads 60 = .ok (.dup, 1) := by decide +kernel
theorem dX12_reads_61 : decode cX12_reads 61 = .ok (.getfield 283, 3) := by decide +kernel
theorem dX12_reads_64 : decode cX12_reads 64 = .ok (.iconst 1, 1) := by decide +kernel
theorem dX12_reads_65 : decode cX12_reads 65 = .ok (.iadd, 1) := by decide +kernel
theorem dX12_reads_66 : decode cX12_reads 66 = .ok (.putfield 283, 3) := by decide +kernel
theorem dX12_reads_69 : decode cX12_reads 69 = .ok (.iinc 3 1, 3) := by decide +kernel
theorem dX12_reads_72 : decode cX12_reads 72 = .ok (.goto (-53), 3) := by decide +kernel
theorem dX12_reads_75 : decode cX12_reads 75 = .ok (.aload_n 0, 1) := by decide +kernel
theorem dX12_reads_76 : decode cX12_reads 76 = .ok (.iload_n 2, 1) := by decide +kernel
theorem dX12_reads_77 : decode cX12_reads 77 = .ok (.ifCond .eq 11, 3) := by decide +kernel
theorem dX12_reads_80 : decode cX12_reads 80 = .ok (.aload_n 0, 1) := by decide +kernel
theorem dX12_reads_81 : decode cX12_reads 81 = .ok (.getfield 292, 3) := by decide +kernel
theorem dX12_reads_84 : decode cX12_reads 84 = .ok (.ineg, 1) := by decide +kernel
theorem dX12_reads_85 : decode cX12_reads 85 = .ok (.goto 7, 3) := by decide +kernel
theorem dX12_reads_88 : decode cX12_reads 88 = .ok (.aload_n 0, 1) := by decide +kernel
theorem dX12_reads_89 : decode cX12_reads 89 = .ok (.getfield 292, 3) := by decide +kernel
theorem dX12_reads_92 : decode cX12_reads 92 = .ok (.putfield 292, 3) := by decide +kernel
theorem dX12_reads_95 : decode cX12_reads 95 = .ok (.iload_n 3, 1) := by decide +kernel
theorem dX12_reads_96 : decode cX12_reads 96 = .ok (.ifCond .eq 14, 3) := by decide +kernel
theorem dX12_reads_99 : decode cX12_reads 99 = .ok (.aload_n 0, 1) := by decide +kernel
theorem dX12_reads_100 : decode cX12_reads 100 = .ok (.bipush 48, 2) := by decide +kernel
theorem dX12_reads_102 : decode cX12_reads 102 = .ok (.bipush 57, 2) := by decide +kernel
theorem dX12_reads_104 : decode cX12_reads 104 = .ok (.invokevirtual 286, 3) := by decide +kernel
theorem dX12_reads_107 : decode cX12_reads 107 = .ok (.ifCond .eq 5, 3) := by decide +kernel
theorem dX12_reads_110 : decode cX12_reads 110 = .ok (.iconst 0, 1) := by decide +kernel
theorem dX12_reads_111 : decode cX12_reads 111 = .ok (.ireturn, 1) := by decide +kernel
theorem dX12_reads_112 : decode cX12_reads 112 = .ok (.aload_n 0, 1) := by decide +kernel
theorem dX12_reads_113 : decode cX12_reads 113 = .ok (.getfield 292, 3) := by decide +kernel
theorem dX12_reads_116 : decode cX12_reads 116 = .ok (.bipush (-100), 2) := by decide +kernel
theorem dX12_reads_118 : decode cX12_reads 118 = .ok (.bipush 100, 2) := by decide +kernel
theorem dX12_reads_120 : decode cX12_reads 120 = .ok (.invokestatic 65, 3) := by decide +kernel
theorem dX12_reads_123 : decode cX12_reads 123 = .ok (.istore 4, 2) := by decide +kernel
theorem dX12_reads_125 : decode cX12_reads 125 = .ok (.aload_n 0, 1) := by decide +kernel
theorem dX12_reads_126 : decode cX12_reads 126 = .ok (.iload 4, 2) := by decide +kernel
theorem dX12_reads_128 : decode cX12_reads 128 = .ok (.ifCond .eq 10, 3) := by decide +kernel
theorem dX12_reads_131 : decode cX12_reads 131 = .ok (.aload_n 0, 1) := by decide +kernel
theorem dX12_reads_132 : decode cX12_reads 132 = .ok (.getfield 283, 3) := by decide +kernel
theorem dX12_reads_135 : decode cX12_reads 135 = .ok (.goto 4, 3) := by decide +kernel
theorem dX12_reads_138 : decode cX12_reads 138 = .ok (.iload_n 1, 1) := by decide +kernel
theorem dX12_reads_139 : decode cX12_reads 139 = .ok (.putfield 283, 3) := by decide +kernel
theorem dX12_reads_142 : decode cX12_reads 142 = .ok (.iload 4, 2) := by decide +kernel
theorem dX12_reads_144 : decode cX12_reads 144 = .ok (.ireturn, 1) := by decide +kernel
theorem dX12_readsPoint_0 : decode cX12_readsPoint 0 = .ok (.aload_n 0, 1) := by decide +kernel
theorem dX12_readsPoint_1 : decode cX12_readsPoint 1 = .ok (.invokevirtual 295, 3) := by decide +kernel
theorem dX12_readsPoint_4 : decode cX12_readsPoint 4 = .ok (.ifCond .ne 5, 3) := by decide +kernel
theorem dX12_readsPoint_7 : decode cX12_readsPoint 7 = .ok (.iconst 0, 1) := by decide +kernel
theorem dX12_readsPoint_8 : decode cX12_readsPoint 8 = .ok (.ireturn, 1) := by decide +kernel
theorem dX12_readsPoint_9 : decode cX12_readsPoint 9 = .ok (.aload_n 0, 1) := by decide +kernel
theorem dX12_readsPoint_10 : decode cX12_readsPoint 10 = .ok (.aload_n 0, 1) := by decide +kernel
theorem dX12_readsPoint_11 : decode cX12_readsPoint 11 = .ok (.getfield 292, 3) := by decide +kernel
theorem dX12_readsPoint_14 : decode cX12_readsPoint 14 = .ok (.putfield 298, 3) := by decide +kernel
theorem dX12_readsPoint_17 : decode cX12_readsPoint 17 = .ok (.aload_n 0, 1) := by decide +kernel
theorem dX12_readsPoint_18 : decode cX12_readsPoint 18 = .ok (.bipush 44, 2) := by decide +kernel
theorem dX12_readsPoint_20 : decode cX12_readsPoint 20 = .ok (.invokevirtual 289, 3) := by decide +kernel
theorem dX12_readsPoint_23 : decode cX12_readsPoint 23 = .ok (.ifCond .eq 14, 3) := by decide +kernel
theorem dX12_readsPoint_26 : decode cX12_readsPoint 26 = .ok (.aload_n 0, 1) := by decide +kernel
theorem dX12_readsPoint_27 : decode cX12_readsPoint 27 = .ok (.invokevirtual 295, 3) := by decide +kernel
theorem dX12_readsPoint_30 : decode cX12_readsPoint 30 = .ok (.ifCond .eq 7, 3) := by decide +kernel
theorem dX12_readsPoint_33 : decode cX12_readsPoint 33 = .ok (.iconst 1, 1) := by decide +kernel
theorem dX12_readsPoint_34 : decode cX12_readsPoint 34 = .ok (.goto 4, 3) := by decide +kernel
theorem dX12_readsPoint_37 : decode cX12_readsPoint 37 = .ok (.iconst 0, 1) := by decide +kernel
theorem dX12_readsPoint_38 : decode cX12_readsPoint 38 = .ok (.ireturn, 1) := by decide +kernel
theorem dX12_readsPath_0 : decode cX12_readsPath 0 = .ok (.aload_n 0, 1) := by decide +kernel
theorem dX12_readsPath_1 : decode cX12_readsPath 1 = .ok (.iconst 0, 1) := by decide +kernel
theorem dX12_readsPath_2 : decode cX12_readsPath 2 = .ok (.putfield 283, 3) := by decide +kernel
theorem dX12_readsPath_5 : decode cX12_readsPath 5 = .ok (.aload_n 0, 1) := by decide +kernel
theorem dX12_readsPath_6 : decode cX12_readsPath 6 = .ok (.getfield 7, 3) := by decide +kernel
theorem dX12_readsPath_9 : decode cX12_readsPath 9 = .ok (.bipush 13, 2) := by decide +kernel
theorem dX12_readsPath_11 : decode cX12_readsPath 11 = .ok (.iconst 0, 1) := by decide +kernel
theorem dX12_readsPath_12 : decode cX12_readsPath 12 = .ok (.iastore, 1) := by decide +kernel
theorem dX12_readsPath_13 : decode cX12_readsPath 13 = .ok (.aload_n 0, 1) := by decide +kernel
theorem dX12_readsPath_14 : decode cX12_readsPath 14 = .ok (.getfield 283, 3) := by decide +kernel
theorem dX12_readsPath_17 : decode cX12_readsPath 17 = .ok (.aload_n 0, 1) := by decide +kernel
theorem dX12_readsPath_18 : decode cX12_readsPath 18 = .ok (.getfield 280, 3) := by decide +kernel
theorem dX12_readsPath_21 : decode cX12_readsPath 21 = .ok (.if_icmp .ge 131, 3) := by decide +kernel
theorem dX12_readsPath_24 : decode cX12_readsPath 24 = .ok (.aload_n 0, 1) := by decide +kernel
theorem dX12_readsPath_25 : decode cX12_readsPath 25 = .ok (.getfield 7, 3) := by decide +kernel
theorem dX12_readsPath_28 : decode cX12_readsPath 28 = .ok (.bipush 13, 2) := by decide +kernel
theorem dX12_readsPath_30 : decode cX12_readsPath 30 = .ok (.iaload, 1) := by decide +kernel
theorem dX12_readsPath_31 : decode cX12_readsPath 31 = .ok (.iconst 4, 1) := by decide +kernel
theorem dX12_readsPath_32 : decode cX12_readsPath 32 = .ok (.if_icmp .eq 19, 3) := by decide +kernel
theorem dX12_readsPath_35 : decode cX12_readsPath 35 = .ok (.aload_n 0, 1) := by decide +kernel
theorem dX12_readsPath_36 : decode cX12_readsPath 36 = .ok (.bipush 77, 2) := by decide +kernel
theorem dX12_readsPath_38 : decode cX12_readsPath 38 = .ok (.invokevirtual 289, 3) := by decide +kernel
theorem dX12_readsPath_41 : decode cX12_readsPath 41 = .ok (.ifCond .eq 10, 3) := by decide +kernel
theorem dX12_readsPath_44 : decode cX12_readsPath 44 = .ok (.aload_n 0, 1) := by decide +kernel
theorem dX12_readsPath_45 : decode cX12_readsPath 45 = .ok (.invokevirtual 301, 3) := by decide +kernel
theorem dX12_readsPath_48 : decode cX12_readsPath 48 = .ok (.ifCond .ne 5, 3) := by decide +kernel
theorem dX12_readsPath_51 : decode cX12_readsPath 51 = .ok (.iconst 0, 1) := by decide +kernel
theorem dX12_readsPath_52 : decode cX12_readsPath 52 = .ok (.ireturn, 1) := by decide +kernel
theorem dX12_readsPath_53 : decode cX12_readsPath 53 = .ok (.aload_n 0, 1) := by decide +kernel
theorem dX12_readsPath_54 : decode cX12_readsPath 54 = .ok (.aload_n 0, 1) := by decide +kernel
theorem dX12_readsPath_55 : decode cX12_readsPath 55 = .ok (.getfield 298, 3) := by decide +kernel
theorem dX12_readsPath_58 : decode cX12_readsPath 58 = .ok (.aload_n 0, 1) := by decide +kernel
theorem dX12_readsPath_59 : decode cX12_readsPath 59 = .ok (.getfield 292, 3) := by decide +kernel
theorem dX12_readsPath_62 : decode cX12_readsPath 62 = .ok (.invokevirtual 98, 3) := by decide +kernel
theorem dX12_readsPath_65 : decode cX12_readsPath 65 = .ok (.aload_n 0, 1) := by decide +kernel
theorem dX12_readsPath_66 : decode cX12_readsPath 66 = .ok (.aload_n 0, 1) := by decide +kernel
theorem dX12_readsPath_67 : decode cX12_readsPath 67 = .ok (.getfield 7, 3) := by decide +kernel
theorem dX12_readsPath_70 : decode cX12_readsPath 70 = .ok (.bipush 13, 2) := by decide +kernel
theorem dX12_readsPath_72 : decode cX12_readsPath 72 = .ok (.iaload, 1) := by decide +kernel
theorem dX12_readsPath_73 : decode cX12_readsPath 73 = .ok (.iconst 1, 1) := by decide +kernel
theorem dX12_readsPath_74 : decode cX12_readsPath 74 = .ok (.isub, 1) := by decide +kernel
theorem dX12_readsPath_75 : decode cX12_readsPath 75 = .ok (.invokevirtual 88, 3) := by decide +kernel
theorem dX12_readsPath_78 : decode cX12_readsPath 78 = .ok (.bipush 8, 2) := by decide +kernel
theorem dX12_readsPath_80 : decode cX12_readsPath 80 = .ok (.if_icmp .ge 36, 3) := by decide +kernel
theorem dX12_readsPath_83 : decode cX12_readsPath 83 = .ok (.aload_n 0, 1) := by decide +kernel
theorem dX12_readsPath_84 : decode cX12_readsPath 84 = .ok (.bipush 76, 2) := by decide +kernel
theorem dX12_readsPath_86 : decode cX12_readsPath 86 = .ok (.invokevirtual 289, 3) := by decide +kernel
theorem dX12_readsPath_89 : decode cX12_readsPath 89 = .ok (.ifCond .eq 27, 3) := by decide +kernel
theorem dX12_readsPath_92 : decode cX12_readsPath 92 = .ok (.aload_n 0, 1) := by decide +kernel
theorem dX12_readsPath_93 : decode cX12_readsPath 93 = .ok (.invokevirtual 301, 3) := by decide +kernel
theorem dX12_readsPath_96 : decode cX12_readsPath 96 = .ok (.ifCond .ne 5, 3) := by decide +kernel
theorem dX12_readsPath_99 : decode cX12_readsPath 99 = .ok (.iconst 0, 1) := by decide +kernel
theorem dX12_readsPath_100 : decode cX12_readsPath 100 = .ok (.ireturn, 1) := by decide +kernel
theorem dX12_readsPath_101 : decode cX12_readsPath 101 = .ok (.aload_n 0, 1) := by decide +kernel
theorem dX12_readsPath_102 : decode cX12_readsPath 102 = .ok (.aload_n 0, 1) := by decide +kernel
theorem dX12_readsPath_103 : decode cX12_readsPath 103 = .ok (.getfield 298, 3) := by decide +kernel
theorem dX12_readsPath_106 : decode cX12_readsPath 106 = .ok (.aload_n 0, 1) := by decide +kernel
theorem dX12_readsPath_107 : decode cX12_readsPath 107 = .ok (.getfield 292, 3) := by decide +kernel
theorem dX12_readsPath_110 : decode cX12_readsPath 110 = .ok (.invokevirtual 109, 3) := by decide +kernel
theorem dX12_readsPath_113 : decode cX12_readsPath 113 = .ok (.goto (-48), 3) := by decide +kernel
theorem dX12_readsPath_116 : decode cX12_readsPath 116 = .ok (.aload_n 0, 1) := by decide +kernel
theorem dX12_readsPath_117 : decode cX12_readsPath 117 = .ok (.getfield 7, 3) := by decide +kernel
theorem dX12_readsPath_120 : decode cX12_readsPath 120 = .ok (.aload_n 0, 1) := by decide +kernel
theorem dX12_readsPath_121 : decode cX12_readsPath 121 = .ok (.getfield 7, 3) := by decide +kernel
theorem dX12_readsPath_124 : decode cX12_readsPath 124 = .ok (.bipush 13, 2) := by decide +kernel
theorem dX12_readsPath_126 : decode cX12_readsPath 126 = .ok (.iaload, 1) := by decide +kernel
theorem dX12_readsPath_127 : decode cX12_readsPath 127 = .ok (.iconst 1, 1) := by decide +kernel
theorem dX12_readsPath_128 : decode cX12_readsPath 128 = .ok (.isub, 1) := by decide +kernel
theorem dX12_readsPath_129 : decode cX12_readsPath 129 = .ok (.invokestatic 80, 3) := by decide +kernel
theorem dX12_readsPath_132 : decode cX12_readsPath 132 = .ok (.iconst 1, 1) := by decide +kernel
theorem dX12_readsPath_133 : decode cX12_readsPath 133 = .ok (.iadd, 1) := by decide +kernel
theorem dX12_readsPath_134 : decode cX12_readsPath 134 = .ok (.aload_n 0, 1) := by decide +kernel
theorem dX12_readsPath_135 : decode cX12_readsPath 135 = .ok (.bipush 90, 2) := by decide +kernel
theorem dX12_readsPath_137 : decode cX12_readsPath 137 = .ok (.invokevirtual 289, 3) := by decide +kernel
theorem dX12_readsPath_140 : decode cX12_readsPath 140 = .ok (.ifCond .eq 7, 3) := by decide +kernel
theorem dX12_readsPath_143 : decode cX12_readsPath 143 = .ok (.iconst 1, 1) := by decide +kernel
theorem dX12_readsPath_144 : decode cX12_readsPath 144 = .ok (.goto 4, 3) := by decide +kernel
theorem dX12_readsPath_147 : decode cX12_readsPath 147 = .ok (.iconst 0, 1) := by decide +kernel
theorem dX12_readsPath_148 : decode cX12_readsPath 148 = .ok (.iastore, 1) := by decide +kernel
theorem dX12_readsPath_149 : decode cX12_readsPath 149 = .ok (.goto (-136), 3) := by decide +kernel
theorem dX12_readsPath_152 : decode cX12_readsPath 152 = .ok (.iconst 1, 1) := by decide +kernel
theorem dX12_readsPath_153 : decode cX12_readsPath 153 = .ok (.ireturn, 1) := by decide +kernel
theorem dX12_parse_0 : decode cX12_parse 0 = .ok (.aload_n 0, 1) := by decide +kernel
theorem dX12_parse_1 : decode cX12_parse 1 = .ok (.iconst 0, 1) := by decide +kernel
theorem dX12_parse_2 : decode cX12_parse 2 = .ok (.putfield 61, 3) := by decide +kernel
theorem dX12_parse_5 : decode cX12_parse 5 = .ok (.iconst 0, 1) := by decide +kernel
theorem dX12_parse_6 : decode cX12_parse 6 = .ok (.istore_n 1, 1) := by decide +kernel
theorem dX12_parse_7 : decode cX12_parse 7 = .ok (.iload_n 1, 1) := by decide +kernel
theorem dX12_parse_8 : decode cX12_parse 8 = .ok (.bipush 86, 2) := by decide +kernel
theorem dX12_parse_10 : decode cX12_parse 10 = .ok (.if_icmp .ge 21, 3) := by decide +kernel
theorem dX12_parse_13 : decode cX12_parse 13 = .ok (.aload_n 0, 1) := by decide +kernel
theorem dX12_parse_14 : decode cX12_parse 14 = .ok (.getfield 55, 3) := by decide +kernel
theorem dX12_parse_17 : decode cX12_parse 17 = .ok (.iload_n 1, 1) := by decide +kernel
theorem dX12_parse_18 : decode cX12_parse 18 = .ok (.aload_n 0, 1) := by decide +kernel
theorem dX12_parse_19 : decode cX12_parse 19 = .ok (.getfield 7, 3) := by decide +kernel
theorem dX12_parse_22 : decode cX12_parse 22 = .ok (.iload_n 1, 1) := by decide +kernel
theorem dX12_parse_23 : decode cX12_parse 23 = .ok (.iaload, 1) := by decide +kernel
theorem dX12_parse_24 : decode cX12_parse 24 = .ok (.iastore, 1) := by decide +kernel
theorem dX12_parse_25 : decode cX12_parse 25 = .ok (.iinc 1 1, 3) := by decide +kernel
theorem dX12_parse_28 : decode cX12_parse 28 = .ok (.goto (-21), 3) := by decide +kernel
theorem dX12_parse_31 : decode cX12_parse 31 = .ok (.aload_n 0, 1) := by decide +kernel
theorem dX12_parse_32 : decode cX12_parse 32 = .ok (.invokevirtual 304, 3) := by decide +kernel
theorem dX12_parse_35 : decode cX12_parse 35 = .ok (.istore_n 1, 1) := by decide +kernel
theorem dX12_parse_36 : decode cX12_parse 36 = .ok (.iconst 0, 1) := by decide +kernel
theorem dX12_parse_37 : decode cX12_parse 37 = .ok (.istore_n 2, 1) := by decide +kernel
theorem dX12_parse_38 : decode cX12_parse 38 = .ok (.iload_n 2, 1) := by decide +kernel
theorem dX12_parse_39 : decode cX12_parse 39 = .ok (.bipush 86, 2) := by decide +kernel
theorem dX12_parse_41 : decode cX12_parse 41 = .ok (.if_icmp .ge 35, 3) := by decide +kernel
theorem dX12_parse_44 : decode cX12_parse 44 = .ok (.aload_n 0, 1) := by decide +kernel
theorem dX12_parse_45 : decode cX12_parse 45 = .ok (.getfield 7, 3) := by decide +kernel
theorem dX12_parse_48 : decode cX12_parse 48 = .ok (.iload_n 2, 1) := by decide +kernel
theorem dX12_parse_49 : decode cX12_parse 49 = .ok (.iaload, 1) := by decide +kernel
theorem dX12_parse_50 : decode cX12_parse 50 = .ok (.istore_n 3, 1) := by decide +kernel
theorem dX12_parse_51 : decode cX12_parse 51 = .ok (.aload_n 0, 1) := by decide +kernel
theorem dX12_parse_52 : decode cX12_parse 52 = .ok (.getfield 7, 3) := by decide +kernel
theorem dX12_parse_55 : decode cX12_parse 55 = .ok (.iload_n 2, 1) := by decide +kernel
theorem dX12_parse_56 : decode cX12_parse 56 = .ok (.aload_n 0, 1) := by decide +kernel
theorem dX12_parse_57 : decode cX12_parse 57 = .ok (.getfield 55, 3) := by decide +kernel
theorem dX12_parse_60 : decode cX12_parse 60 = .ok (.iload_n 2, 1) := by decide +kernel
theorem dX12_parse_61 : decode cX12_parse 61 = .ok (.iaload, 1) := by decide +kernel
theorem dX12_parse_62 : decode cX12_parse 62 = .ok (.iastore, 1) := by decide +kernel
theorem dX12_parse_63 : decode cX12_parse 63 = .ok (.aload_n 0, 1) := by decide +kernel
theorem dX12_parse_64 : decode cX12_parse 64 = .ok (.getfield 55, 3) := by decide +kernel
theorem dX12_parse_67 : decode cX12_parse 67 = .ok (.iload_n 2, 1) := by decide +kernel
theorem dX12_parse_68 : decode cX12_parse 68 = .ok (.iload_n 3, 1) := by decide +kernel
theorem dX12_parse_69 : decode cX12_parse 69 = .ok (.iastore, 1) := by decide +kernel
theorem dX12_parse_70 : decode cX12_parse 70 = .ok (.iinc 2 1, 3) := by decide +kernel
theorem dX12_parse_73 : decode cX12_parse 73 = .ok (.goto (-35), 3) := by decide +kernel
theorem dX12_parse_76 : decode cX12_parse 76 = .ok (.iload_n 1, 1) := by decide +kernel
theorem dX12_parse_77 : decode cX12_parse 77 = .ok (.ifCond .ne 11, 3) := by decide +kernel
theorem dX12_parse_80 : decode cX12_parse 80 = .ok (.bipush (-10), 2) := by decide +kernel
theorem dX12_parse_82 : decode cX12_parse 82 = .ok (.aload_n 0, 1) := by decide +kernel
theorem dX12_parse_83 : decode cX12_parse 83 = .ok (.getfield 283, 3) := by decide +kernel
theorem dX12_parse_86 : decode cX12_parse 86 = .ok (.isub, 1) := by decide +kernel
theorem dX12_parse_87 : decode cX12_parse 87 = .ok (.ireturn, 1) := by decide +kernel
theorem dX12_parse_88 : decode cX12_parse 88 = .ok (.aload_n 0, 1) := by decide +kernel
theorem dX12_parse_89 : decode cX12_parse 89 = .ok (.invokevirtual 95, 3) := by decide +kernel
theorem dX12_parse_92 : decode cX12_parse 92 = .ok (.iconst 0, 1) := by decide +kernel
theorem dX12_parse_93 : decode cX12_parse 93 = .ok (.istore_n 2, 1) := by decide +kernel
theorem dX12_parse_94 : decode cX12_parse 94 = .ok (.iload_n 2, 1) := by decide +kernel
theorem dX12_parse_95 : decode cX12_parse 95 = .ok (.bipush 86, 2) := by decide +kernel
theorem dX12_parse_97 : decode cX12_parse 97 = .ok (.if_icmp .ge 21, 3) := by decide +kernel
theorem dX12_parse_100 : decode cX12_parse 100 = .ok (.aload_n 0, 1) := by decide +kernel
theorem dX12_parse_101 : decode cX12_parse 101 = .ok (.getfield 7, 3) := by decide +kernel
theorem dX12_parse_104 : decode cX12_parse 104 = .ok (.iload_n 2, 1) := by decide +kernel
theorem dX12_parse_105 : decode cX12_parse 105 = .ok (.aload_n 0, 1) := by decide +kernel
theorem dX12_parse_106 : decode cX12_parse 106 = .ok (.getfield 55, 3) := by decide +kernel
theorem dX12_parse_109 : decode cX12_parse 109 = .ok (.iload_n 2, 1) := by decide +kernel
theorem dX12_parse_110 : decode cX12_parse 110 = .ok (.iaload, 1) := by decide +kernel
theorem dX12_parse_111 : decode cX12_parse 111 = .ok (.iastore, 1) := by decide +kernel
theorem dX12_parse_112 : decode cX12_parse 112 = .ok (.iinc 2 1, 3) := by decide +kernel
theorem dX12_parse_115 : decode cX12_parse 115 = .ok (.goto (-21), 3) := by decide +kernel
theorem dX12_parse_118 : decode cX12_parse 118 = .ok (.aload_n 0, 1) := by decide +kernel
theorem dX12_parse_119 : decode cX12_parse 119 = .ok (.getfield 7, 3) := by decide +kernel
theorem dX12_parse_122 : decode cX12_parse 122 = .ok (.bipush 13, 2) := by decide +kernel
theorem dX12_parse_124 : decode cX12_parse 124 = .ok (.iaload, 1) := by decide +kernel
theorem dX12_parse_125 : decode cX12_parse 125 = .ok (.ireturn, 1) := by decide +kernel
theorem dX12_writes_0 : decode cX12_writes 0 = .ok (.aload_n 0, 1) := by decide +kernel
theorem dX12_writes_1 : decode cX12_writes 1 = .ok (.getfield 58, 3) := by decide +kernel
theorem dX12_writes_4 : decode cX12_writes 4 = .ok (.aload_n 0, 1) := by decide +kernel
theorem dX12_writes_5 : decode cX12_writes 5 = .ok (.getfield 307, 3) := by decide +kernel
theorem dX12_writes_8 : decode cX12_writes 8 = .ok (.iload_n 1, 1) := by decide +kernel
theorem dX12_writes_9 : decode cX12_writes 9 = .ok (.iastore, 1) := by decide +kernel
theorem dX12_writes_10 : decode cX12_writes 10 = .ok (.aload_n 0, 1) := by decide +kernel
theorem dX12_writes_11 : decode cX12_writes 11 = .ok (.dup, 1) := by decide +kernel
theorem dX12_writes_12 : decode cX12_writes 12 = .ok (.getfield 307, 3) := by decide +kernel
theorem dX12_writes_15 : decode cX12_writes 15 = .ok (.iconst 1, 1) := by decide +kernel
theorem dX12_writes_16 : decode cX12_writes 16 = .ok (.iadd, 1) := by decide +kernel
theorem dX12_writes_17 : decode cX12_writes 17 = .ok (.putfield 307, 3) := by decide +kernel
theorem dX12_writes_20 : decode cX12_writes 20 = .ok (.return_, 1) := by decide +kernel
theorem dX12_writesNumber_0 : decode cX12_writesNumber 0 = .ok (.iload_n 1, 1) := by decide +kernel
theorem dX12_writesNumber_1 : decode cX12_writesNumber 1 = .ok (.ifCond .ge 8, 3) := by decide +kernel
theorem dX12_writesNumber_4 : decode cX12_writesNumber 4 = .ok (.iload_n 1, 1) := by decide +kernel
theorem dX12_writesNumber_5 : decode cX12_writesNumber 5 = .ok (.ineg, 1) := by decide +kernel
theorem dX12_writesNumber_6 : decode cX12_writesNumber 6 = .ok (.goto 4, 3) := by decide +kernel
theorem dX12_writesNumber_9 : decode cX12_writesNumber 9 = .ok (.iload_n 1, 1) := by decide +kernel
theorem dX12_writesNumber_10 : decode cX12_writesNumber 10 = .ok (.istore_n 2, 1) := by decide +kernel
theorem dX12_writesNumber_11 : decode cX12_writesNumber 11 = .ok (.iload_n 1, 1) := by decide +kernel
theorem dX12_writesNumber_12 : decode cX12_writesNumber 12 = .ok (.ifCond .ge 9, 3) := by decide +kernel
theorem dX12_writesNumber_15 : decode cX12_writesNumber 15 = .ok (.aload_n 0, 1) := by decide +kernel
theorem dX12_writesNumber_16 : decode cX12_writesNumber 16 = .ok (.bipush 45, 2) := by decide +kernel
theorem dX12_writesNumber_18 : decode cX12_writesNumber 18 = .ok (.invokevirtual 310, 3) := by decide +kernel
theorem dX12_writesNumber_21 : decode cX12_writesNumber 21 = .ok (.bipush 100, 2) := by decide +kernel
theorem dX12_writesNumber_23 : decode cX12_writesNumber 23 = .ok (.istore_n 3, 1) := by decide +kernel
theorem dX12_writesNumber_24 : decode cX12_writesNumber 24 = .ok (.iload_n 3, 1) := by decide +kernel
theorem dX12_writesNumber_25 : decode cX12_writesNumber 25 = .ok (.ifCond .le 34, 3) := by decide +kernel
theorem dX12_writesNumber_28 : decode cX12_writesNumber 28 = .ok (.iload_n 2, 1) := by decide +kernel
theorem dX12_writesNumber_29 : decode cX12_writesNumber 29 = .ok (.iload_n 3, 1) := by decide +kernel
theorem dX12_writesNumber_30 : decode cX12_writesNumber 30 = .ok (.if_icmp .ge 8, 3) := by decide +kernel
theorem dX12_writesNumber_33 : decode cX12_writesNumber 33 = .ok (.iload_n 3, 1) := by decide +kernel
theorem dX12_writesNumber_34 : decode cX12_writesNumber 34 = .ok (.iconst 1, 1) := by decide +kernel
theorem dX12_writesNumber_35 : decode cX12_writesNumber 35 = .ok (.if_icmp .ne 16, 3) := by decide +kernel
theorem dX12_writesNumber_38 : decode cX12_writesNumber 38 = .ok (.aload_n 0, 1) := by decide +kernel
theorem dX12_writesNumber_39 : decode cX12_writesNumber 39 = .ok (.bipush 48, 2) := by decide +kernel
theorem dX12_writesNumber_41 : decode cX12_writesNumber 41 = .ok (.iload_n 2, 1) := by decide +kernel
theorem dX12_writesNumber_42 : decode cX12_writesNumber 42 = .ok (.iload_n 3, 1) := by decide +kernel
theorem dX12_writesNumber_43 : decode cX12_writesNumber 43 = .ok (.idiv, 1) := by decide +kernel
theorem dX12_writesNumber_44 : decode cX12_writesNumber 44 = .ok (.bipush 10, 2) := by decide +kernel
theorem dX12_writesNumber_46 : decode cX12_writesNumber 46 = .ok (.irem, 1) := by decide +kernel
theorem dX12_writesNumber_47 : decode cX12_writesNumber 47 = .ok (.iadd, 1) := by decide +kernel
theorem dX12_writesNumber_48 : decode cX12_writesNumber 48 = .ok (.invokevirtual 310, 3) := by decide +kernel
theorem dX12_writesNumber_51 : decode cX12_writesNumber 51 = .ok (.iload_n 3, 1) := by decide +kernel
theorem dX12_writesNumber_52 : decode cX12_writesNumber 52 = .ok (.bipush 10, 2) := by decide +kernel
theorem dX12_writesNumber_54 : decode cX12_writesNumber 54 = .ok (.idiv, 1) := by decide +kernel
theorem dX12_writesNumber_55 : decode cX12_writesNumber 55 = .ok (.istore_n 3, 1) := by decide +kernel
theorem dX12_writesNumber_56 : decode cX12_writesNumber 56 = .ok (.goto (-32), 3) := by decide +kernel
theorem dX12_writesNumber_59 : decode cX12_writesNumber 59 = .ok (.return_, 1) := by decide +kernel
theorem dX12_written_0 : decode cX12_written 0 = .ok (.aload_n 0, 1) := by decide +kernel
theorem dX12_written_1 : decode cX12_written 1 = .ok (.iload_n 1, 1) := by decide +kernel
theorem dX12_written_2 : decode cX12_written 2 = .ok (.ifCond .ge 7, 3) := by decide +kernel
theorem dX12_written_5 : decode cX12_written 5 = .ok (.iconst 1, 1) := by decide +kernel
theorem dX12_written_6 : decode cX12_written 6 = .ok (.goto 4, 3) := by decide +kernel
theorem dX12_written_9 : decode cX12_written 9 = .ok (.iconst 0, 1) := by decide +kernel
theorem dX12_written_10 : decode cX12_written 10 = .ok (.invokevirtual 76, 3) := by decide +kernel
theorem dX12_written_13 : decode cX12_written 13 = .ok (.ifCond .eq 5, 3) := by decide +kernel
theorem dX12_written_16 : decode cX12_written 16 = .ok (.iconst 0, 1) := by decide +kernel
theorem dX12_written_17 : decode cX12_written 17 = .ok (.ireturn, 1) := by decide +kernel
theorem dX12_written_18 : decode cX12_written 18 = .ok (.aload_n 0, 1) := by decide +kernel
theorem dX12_written_19 : decode cX12_written 19 = .ok (.iconst 0, 1) := by decide +kernel
theorem dX12_written_20 : decode cX12_written 20 = .ok (.putfield 307, 3) := by decide +kernel
theorem dX12_written_23 : decode cX12_written 23 = .ok (.iconst 0, 1) := by decide +kernel
theorem dX12_written_24 : decode cX12_written 24 = .ok (.istore_n 2, 1) := by decide +kernel
theorem dX12_written_25 : decode cX12_written 25 = .ok (.iload_n 2, 1) := by decide +kernel
theorem dX12_written_26 : decode cX12_written 26 = .ok (.aload_n 0, 1) := by decide +kernel
theorem dX12_written_27 : decode cX12_written 27 = .ok (.getfield 7, 3) := by decide +kernel
theorem dX12_written_30 : decode cX12_written 30 = .ok (.bipush 13, 2) := by decide +kernel
theorem dX12_written_32 : decode cX12_written 32 = .ok (.iaload, 1) := by decide +kernel
theorem dX12_written_33 : decode cX12_written 33 = .ok (.if_icmp .ge 81, 3) := by decide +kernel
theorem dX12_written_36 : decode cX12_written 36 = .ok (.iconst 0, 1) := by decide +kernel
theorem dX12_written_37 : decode cX12_written 37 = .ok (.istore_n 3, 1) := by decide +kernel
theorem dX12_written_38 : decode cX12_written 38 = .ok (.iload_n 3, 1) := by decide +kernel
theorem dX12_written_39 : decode cX12_written 39 = .ok (.aload_n 0, 1) := by decide +kernel
theorem dX12_written_40 : decode cX12_written 40 = .ok (.iload_n 2, 1) := by decide +kernel
theorem dX12_written_41 : decode cX12_written 41 = .ok (.invokevirtual 88, 3) := by decide +kernel
theorem dX12_written_44 : decode cX12_written 44 = .ok (.if_icmp .ge 50, 3) := by decide +kernel
theorem dX12_written_47 : decode cX12_written 47 = .ok (.aload_n 0, 1) := by decide +kernel
theorem dX12_written_48 : decode cX12_written 48 = .ok (.iload_n 3, 1) := by decide +kernel
theorem dX12_written_49 : decode cX12_written 49 = .ok (.ifCond .ne 8, 3) := by decide +kernel
theorem dX12_written_52 : decode cX12_written 52 = .ok (.bipush 77, 2) := by decide +kernel
theorem dX12_written_54 : decode cX12_written 54 = .ok (.goto 5, 3) := by decide +kernel
theorem dX12_written_57 : decode cX12_written 57 = .ok (.bipush 76, 2) := by decide +kernel
theorem dX12_written_59 : decode cX12_written 59 = .ok (.invokevirtual 310, 3) := by decide +kernel
theorem dX12_written_62 : decode cX12_written 62 = .ok (.aload_n 0, 1) := by decide +kernel
theorem dX12_written_63 : decode cX12_written 63 = .ok (.aload_n 0, 1) := by decide +kernel
theorem dX12_written_64 : decode cX12_written 64 = .ok (.iload_n 2, 1) := by decide +kernel
theorem dX12_written_65 : decode cX12_written 65 = .ok (.iload_n 3, 1) := by decide +kernel
theorem dX12_written_66 : decode cX12_written 66 = .ok (.invokevirtual 122, 3) := by decide +kernel
theorem dX12_written_69 : decode cX12_written 69 = .ok (.invokevirtual 313, 3) := by decide +kernel
theorem dX12_written_72 : decode cX12_written 72 = .ok (.aload_n 0, 1) := by decide +kernel
theorem dX12_written_73 : decode cX12_written 73 = .ok (.bipush 44, 2) := by decide +kernel
theorem dX12_written_75 : decode cX12_written 75 = .ok (.invokevirtual 310, 3) := by decide +kernel
theorem dX12_written_78 : decode cX12_written 78 = .ok (.aload_n 0, 1) := by decide +kernel
theorem dX12_written_79 : decode cX12_written 79 = .ok (.aload_n 0, 1) := by decide +kernel
theorem dX12_written_80 : decode cX12_written 80 = .ok (.iload_n 2, 1) := by decide +kernel
theorem dX12_written_81 : decode cX12_written 81 = .ok (.iload_n 3, 1) := by decide +kernel
theorem dX12_written_82 : decode cX12_written 82 = .ok (.invokevirtual 126, 3) := by decide +kernel
theorem dX12_written_85 : decode cX12_written 85 = .ok (.invokevirtual 313, 3) := by decide +kernel
theorem dX12_written_88 : decode cX12_written 88 = .ok (.iinc 3 1, 3) := by decide +kernel
theorem dX12_written_91 : decode cX12_written 91 = .ok (.goto (-53), 3) := by decide +kernel
theorem dX12_written_94 : decode cX12_written 94 = .ok (.aload_n 0, 1) := by decide +kernel
theorem dX12_written_95 : decode cX12_written 95 = .ok (.iload_n 2, 1) := by decide +kernel
theorem dX12_written_96 : decode cX12_written 96 = .ok (.invokevirtual 102, 3) := by decide +kernel
theorem dX12_written_99 : decode cX12_written 99 = .ok (.ifCond .eq 9, 3) := by decide +kernel
theorem dX12_written_102 : decode cX12_written 102 = .ok (.aload_n 0, 1) := by decide +kernel
theorem dX12_written_103 : decode cX12_written 103 = .ok (.bipush 90, 2) := by decide +kernel
theorem dX12_written_105 : decode cX12_written 105 = .ok (.invokevirtual 310, 3) := by decide +kernel
theorem dX12_written_108 : decode cX12_written 108 = .ok (.iinc 2 1, 3) := by decide +kernel
theorem dX12_written_111 : decode cX12_written 111 = .ok (.goto (-86), 3) := by decide +kernel
theorem dX12_written_114 : decode cX12_written 114 = .ok (.iload_n 1, 1) := by decide +kernel
theorem dX12_written_115 : decode cX12_written 115 = .ok (.aload_n 0, 1) := by decide +kernel
theorem dX12_written_116 : decode cX12_written 116 = .ok (.getfield 307, 3) := by decide +kernel
theorem dX12_written_119 : decode cX12_written 119 = .ok (.if_icmp .ge 12, 3) := by decide +kernel
theorem dX12_written_122 : decode cX12_written 122 = .ok (.aload_n 0, 1) := by decide +kernel
theorem dX12_written_123 : decode cX12_written 123 = .ok (.getfield 58, 3) := by decide +kernel
theorem dX12_written_126 : decode cX12_written 126 = .ok (.iload_n 1, 1) := by decide +kernel
theorem dX12_written_127 : decode cX12_written 127 = .ok (.iaload, 1) := by decide +kernel
theorem dX12_written_128 : decode cX12_written 128 = .ok (.goto 4, 3) := by decide +kernel
theorem dX12_written_131 : decode cX12_written 131 = .ok (.iconst (-1), 1) := by decide +kernel
theorem dX12_written_132 : decode cX12_written 132 = .ok (.ireturn, 1) := by decide +kernel
theorem dX12_mix_0 : decode cX12_mix 0 = .ok (.aload_n 0, 1) := by decide +kernel
theorem dX12_mix_1 : decode cX12_mix 1 = .ok (.ldc2_w 316, 3) := by decide +kernel
theorem dX12_mix_4 : decode cX12_mix 4 = .ok (.aload_n 0, 1) := by decide +kernel
theorem dX12_mix_5 : decode cX12_mix 5 = .ok (.getfield 318, 3) := by decide +kernel
theorem dX12_mix_8 : decode cX12_mix 8 = .ok (.lmul, 1) := by decide +kernel
theorem dX12_mix_9 : decode cX12_mix 9 = .ok (.iload_n 1, 1) := by decide +kernel
theorem dX12_mix_10 : decode cX12_mix 10 = .ok (.i2l, 1) := by decide +kernel
theorem dX12_mix_11 : decode cX12_mix 11 = .ok (.ladd, 1) := by decide +kernel
theorem dX12_mix_12 : decode cX12_mix 12 = .ok (.putfield 318, 3) := by decide +kernel
theorem dX12_mix_15 : decode cX12_mix 15 = .ok (.return_, 1) := by decide +kernel
theorem dX12_mixAll_0 : decode cX12_mixAll 0 = .ok (.iload_n 1, 1) := by decide +kernel
theorem dX12_mixAll_1 : decode cX12_mixAll 1 = .ok (.istore_n 3, 1) := by decide +kernel
theorem dX12_mixAll_2 : decode cX12_mixAll 2 = .ok (.iload_n 3, 1) := by decide +kernel
theorem dX12_mixAll_3 : decode cX12_mixAll 3 = .ok (.iload_n 1, 1) := by decide +kernel
theorem dX12_mixAll_4 : decode cX12_mixAll 4 = .ok (.iload_n 2, 1) := by decide +kernel
theorem dX12_mixAll_5 : decode cX12_mixAll 5 = .ok (.iadd, 1) := by decide +kernel
theorem dX12_mixAll_6 : decode cX12_mixAll 6 = .ok (.if_icmp .ge 19, 3) := by decide +kernel
theorem dX12_mixAll_9 : decode cX12_mixAll 9 = .ok (.aload_n 0, 1) := by decide +kernel
theorem dX12_mixAll_10 : decode cX12_mixAll 10 = .ok (.aload_n 0, 1) := by decide +kernel
theorem dX12_mixAll_11 : decode cX12_mixAll 11 = .ok (.getfield 7, 3) := by decide +kernel
theorem dX12_mixAll_14 : decode cX12_mixAll 14 = .ok (.iload_n 3, 1) := by decide +kernel
theorem dX12_mixAll_15 : decode cX12_mixAll 15 = .ok (.iaload, 1) := by decide +kernel
theorem dX12_mixAll_16 : decode cX12_mixAll 16 = .ok (.invokevirtual 322, 3) := by decide +kernel
theorem dX12_mixAll_19 : decode cX12_mixAll 19 = .ok (.iinc 3 1, 3) := by decide +kernel
theorem dX12_mixAll_22 : decode cX12_mixAll 22 = .ok (.goto (-20), 3) := by decide +kernel
theorem dX12_mixAll_25 : decode cX12_mixAll 25 = .ok (.return_, 1) := by decide +kernel
theorem dX12_mixSubpath_0 : decode cX12_mixSubpath 0 = .ok (.iconst 0, 1) := by decide +kernel
theorem dX12_mixSubpath_1 : decode cX12_mixSubpath 1 = .ok (.istore_n 2, 1) := by decide +kernel
theorem dX12_mixSubpath_2 : decode cX12_mixSubpath 2 = .ok (.iload_n 2, 1) := by decide +kernel
theorem dX12_mixSubpath_3 : decode cX12_mixSubpath 3 = .ok (.iconst 4, 1) := by decide +kernel
theorem dX12_mixSubpath_4 : decode cX12_mixSubpath 4 = .ok (.if_icmp .ge 19, 3) := by decide +kernel
theorem dX12_mixSubpath_7 : decode cX12_mixSubpath 7 = .ok (.aload_n 0, 1) := by decide +kernel
theorem dX12_mixSubpath_8 : decode cX12_mixSubpath 8 = .ok (.aload_n 0, 1) := by decide +kernel
theorem dX12_mixSubpath_9 : decode cX12_mixSubpath 9 = .ok (.iload_n 1, 1) := by decide +kernel
theorem dX12_mixSubpath_10 : decode cX12_mixSubpath 10 = .ok (.iload_n 2, 1) := by decide +kernel
theorem dX12_mixSubpath_11 : decode cX12_mixSubpath 11 = .ok (.invokevirtual 157, 3) := by decide +kernel
theorem dX12_mixSubpath_14 : decode cX12_mixSubpath 14 = .ok (.invokevirtual 322, 3) := by decide +kernel
