theorem dX10_addTip_23 : decode cX10_addTip 23 = .ok (.getfield 61, 3) := by decide +kernel
theorem dX10_addTip_26 : decode cX10_addTip 26 = .ok (.i2l, 1) := by decide +kernel
theorem dX10_addTip_27 : decode cX10_addTip 27 = .ok (.lmul, 1) := by decide +kernel
theorem dX10_addTip_28 : decode cX10_addTip 28 = .ok (.lstore 10, 2) := by decide +kernel
theorem dX10_addTip_30 : decode cX10_addTip 30 = .ok (.iload_n 3, 1) := by decide +kernel
theorem dX10_addTip_31 : decode cX10_addTip 31 = .ok (.lload 10, 2) := by decide +kernel
theorem dX10_addTip_33 : decode cX10_addTip 33 = .ok (.lload 4, 2) := by decide +kernel
theorem dX10_addTip_35 : decode cX10_addTip 35 = .ok (.lmul, 1) := by decide +kernel
theorem dX10_addTip_36 : decode cX10_addTip 36 = .ok (.lload 8, 2) := by decide +kernel
theorem dX10_addTip_38 : decode cX10_addTip 38 = .ok (.invokestatic 172, 3) := by decide +kernel
theorem dX10_addTip_41 : decode cX10_addTip 41 = .ok (.imul, 1) := by decide +kernel
theorem dX10_addTip_42 : decode cX10_addTip 42 = .ok (.istore 12, 2) := by decide +kernel
theorem dX10_addTip_44 : decode cX10_addTip 44 = .ok (.iload_n 3, 1) := by decide +kernel
theorem dX10_addTip_45 : decode cX10_addTip 45 = .ok (.lload 10, 2) := by decide +kernel
theorem dX10_addTip_47 : decode cX10_addTip 47 = .ok (.lload 6, 2) := by decide +kernel
theorem dX10_addTip_49 : decode cX10_addTip 49 = .ok (.lmul, 1) := by decide +kernel
theorem dX10_addTip_50 : decode cX10_addTip 50 = .ok (.lload 8, 2) := by decide +kernel
theorem dX10_addTip_52 : decode cX10_addTip 52 = .ok (.invokestatic 172, 3) := by decide +kernel
theorem dX10_addTip_55 : decode cX10_addTip 55 = .ok (.imul, 1) := by decide +kernel
theorem dX10_addTip_56 : decode cX10_addTip 56 = .ok (.istore 13, 2) := by decide +kernel
theorem dX10_addTip_58 : decode cX10_addTip 58 = .ok (.aload_n 0, 1) := by decide +kernel
theorem dX10_addTip_59 : decode cX10_addTip 59 = .ok (.getfield 28, 3) := by decide +kernel
theorem dX10_addTip_62 : decode cX10_addTip 62 = .ok (.iload_n 1, 1) := by decide +kernel
theorem dX10_addTip_63 : decode cX10_addTip 63 = .ok (.iload 12, 2) := by decide +kernel
theorem dX10_addTip_65 : decode cX10_addTip 65 = .ok (.iadd, 1) := by decide +kernel
theorem dX10_addTip_66 : decode cX10_addTip 66 = .ok (.iload_n 2, 1) := by decide +kernel
theorem dX10_addTip_67 : decode cX10_addTip 67 = .ok (.iload 13, 2) := by decide +kernel
theorem dX10_addTip_69 : decode cX10_addTip 69 = .ok (.iadd, 1) := by decide +kernel
theorem dX10_addTip_70 : decode cX10_addTip 70 = .ok (.invokevirtual 111, 3) := by decide +kernel
theorem dX10_addTip_73 : decode cX10_addTip 73 = .ok (.return_, 1) := by decide +kernel
theorem dX10_isInLimit_0 : decode cX10_isInLimit 0 = .ok (.aload_n 0, 1) := by decide +kernel
theorem dX10_isInLimit_1 : decode cX10_isInLimit 1 = .ok (.getfield 71, 3) := by decide +kernel
theorem dX10_isInLimit_4 : decode cX10_isInLimit 4 = .ok (.i2l, 1) := by decide +kernel
theorem dX10_isInLimit_5 : decode cX10_isInLimit 5 = .ok (.aload_n 0, 1) := by decide +kernel
theorem dX10_isInLimit_6 : decode cX10_isInLimit 6 = .ok (.getfield 71, 3) := by decide +kernel
theorem dX10_isInLimit_9 : decode cX10_isInLimit 9 = .ok (.i2l, 1) := by decide +kernel
theorem dX10_isInLimit_10 : decode cX10_isInLimit 10 = .ok (.lmul, 1) := by decide +kernel
theorem dX10_isInLimit_11 : decode cX10_isInLimit 11 = .ok (.lload_n 1, 1) := by decide +kernel
theorem dX10_isInLimit_12 : decode cX10_isInLimit 12 = .ok (.lmul, 1) := by decide +kernel
theorem dX10_isInLimit_13 : decode cX10_isInLimit 13 = .ok (.lstore 5, 2) := by decide +kernel
theorem dX10_isInLimit_15 : decode cX10_isInLimit 15 = .ok (.aload_n 0, 1) := by decide +kernel
theorem dX10_isInLimit_16 : decode cX10_isInLimit 16 = .ok (.getfield 71, 3) := by decide +kernel
theorem dX10_isInLimit_19 : decode cX10_isInLimit 19 = .ok (.i2l, 1) := by decide +kernel
theorem dX10_isInLimit_20 : decode cX10_isInLimit 20 = .ok (.aload_n 0, 1) := by decide +kernel
theorem dX10_isInLimit_21 : decode cX10_isInLimit 21 = .ok (.getfield 71, 3) := by decide +kernel
theorem dX10_isInLimit_24 : decode cX10_isInLimit 24 = .ok (.i2l, 1) := by decide +kernel
theorem dX10_isInLimit_25 : decode cX10_isInLimit 25 = .ok (.lmul, 1) := by decide +kernel
theorem dX10_isInLimit_26 : decode cX10_isInLimit 26 = .ok (.ldc2_w 170, 3) := by decide +kernel
theorem dX10_isInLimit_29 : decode cX10_isInLimit 29 = .ok (.lsub, 1) := by decide +kernel
theorem dX10_isInLimit_30 : decode cX10_isInLimit 30 = .ok (.lstore 7, 2) := by decide +kernel
theorem dX10_isInLimit_32 : decode cX10_isInLimit 32 = .ok (.lload 5, 2) := by decide +kernel
theorem dX10_isInLimit_34 : decode cX10_isInLimit 34 = .ok (.lconst 0, 1) := by decide +kernel
theorem dX10_isInLimit_35 : decode cX10_isInLimit 35 = .ok (.lcmp, 1) := by decide +kernel
theorem dX10_isInLimit_36 : decode cX10_isInLimit 36 = .ok (.ifCond .ge 7, 3) := by decide +kernel
theorem dX10_isInLimit_39 : decode cX10_isInLimit 39 = .ok (.iconst 1, 1) := by decide +kernel
theorem dX10_isInLimit_40 : decode cX10_isInLimit 40 = .ok (.goto 4, 3) := by decide +kernel
theorem dX10_isInLimit_43 : decode cX10_isInLimit 43 = .ok (.iconst 0, 1) := by decide +kernel
theorem dX10_isInLimit_44 : decode cX10_isInLimit 44 = .ok (.lload 7, 2) := by decide +kernel
theorem dX10_isInLimit_46 : decode cX10_isInLimit 46 = .ok (.lconst 0, 1) := by decide +kernel
theorem dX10_isInLimit_47 : decode cX10_isInLimit 47 = .ok (.lcmp, 1) := by decide +kernel
theorem dX10_isInLimit_48 : decode cX10_isInLimit 48 = .ok (.ifCond .ge 7, 3) := by decide +kernel
theorem dX10_isInLimit_51 : decode cX10_isInLimit 51 = .ok (.iconst 1, 1) := by decide +kernel
theorem dX10_isInLimit_52 : decode cX10_isInLimit 52 = .ok (.goto 4, 3) := by decide +kernel
theorem dX10_isInLimit_55 : decode cX10_isInLimit 55 = .ok (.iconst 0, 1) := by decide +kernel
theorem dX10_isInLimit_56 : decode cX10_isInLimit 56 = .ok (.if_icmp .ne 16, 3) := by decide +kernel
theorem dX10_isInLimit_59 : decode cX10_isInLimit 59 = .ok (.lload 5, 2) := by decide +kernel
theorem dX10_isInLimit_61 : decode cX10_isInLimit 61 = .ok (.lconst 0, 1) := by decide +kernel
theorem dX10_isInLimit_62 : decode cX10_isInLimit 62 = .ok (.lcmp, 1) := by decide +kernel
theorem dX10_isInLimit_63 : decode cX10_isInLimit 63 = .ok (.ifCond .lt 7, 3) := by decide +kernel
theorem dX10_isInLimit_66 : decode cX10_isInLimit 66 = .ok (.iconst 1, 1) := by decide +kernel
theorem dX10_isInLimit_67 : decode cX10_isInLimit 67 = .ok (.goto 4, 3) := by decide +kernel
theorem dX10_isInLimit_70 : decode cX10_isInLimit 70 = .ok (.iconst 0, 1) := by decide +kernel
theorem dX10_isInLimit_71 : decode cX10_isInLimit 71 = .ok (.ireturn, 1) := by decide +kernel
theorem dX10_isInLimit_72 : decode cX10_isInLimit 72 = .ok (.lload 5, 2) := by decide +kernel
theorem dX10_isInLimit_74 : decode cX10_isInLimit 74 = .ok (.lload 5, 2) := by decide +kernel
theorem dX10_isInLimit_76 : decode cX10_isInLimit 76 = .ok (.lmul, 1) := by decide +kernel
theorem dX10_isInLimit_77 : decode cX10_isInLimit 77 = .ok (.lstore 9, 2) := by decide +kernel
theorem dX10_isInLimit_79 : decode cX10_isInLimit 79 = .ok (.lload 7, 2) := by decide +kernel
theorem dX10_isInLimit_81 : decode cX10_isInLimit 81 = .ok (.lload 7, 2) := by decide +kernel
theorem dX10_isInLimit_83 : decode cX10_isInLimit 83 = .ok (.lmul, 1) := by decide +kernel
theorem dX10_isInLimit_84 : decode cX10_isInLimit 84 = .ok (.lload_n 3, 1) := by decide +kernel
theorem dX10_isInLimit_85 : decode cX10_isInLimit 85 = .ok (.lmul, 1) := by decide +kernel
theorem dX10_isInLimit_86 : decode cX10_isInLimit 86 = .ok (.lstore 11, 2) := by decide +kernel
theorem dX10_isInLimit_88 : decode cX10_isInLimit 88 = .ok (.lload 5, 2) := by decide +kernel
theorem dX10_isInLimit_90 : decode cX10_isInLimit 90 = .ok (.lconst 0, 1) := by decide +kernel
theorem dX10_isInLimit_91 : decode cX10_isInLimit 91 = .ok (.lcmp, 1) := by decide +kernel
theorem dX10_isInLimit_92 : decode cX10_isInLimit 92 = .ok (.ifCond .ge 19, 3) := by decide +kernel
theorem dX10_isInLimit_95 : decode cX10_isInLimit 95 = .ok (.lload 11, 2) := by decide +kernel
theorem dX10_isInLimit_97 : decode cX10_isInLimit 97 = .ok (.lload 9, 2) := by decide +kernel
theorem dX10_isInLimit_99 : decode cX10_isInLimit 99 = .ok (.lcmp, 1) := by decide +kernel
theorem dX10_isInLimit_100 : decode cX10_isInLimit 100 = .ok (.ifCond .lt 7, 3) := by decide +kernel
theorem dX10_isInLimit_103 : decode cX10_isInLimit 103 = .ok (.iconst 1, 1) := by decide +kernel
theorem dX10_isInLimit_104 : decode cX10_isInLimit 104 = .ok (.goto 20, 3) := by decide +kernel
theorem dX10_isInLimit_107 : decode cX10_isInLimit 107 = .ok (.iconst 0, 1) := by decide +kernel
theorem dX10_isInLimit_108 : decode cX10_isInLimit 108 = .ok (.goto 16, 3) := by decide +kernel
theorem dX10_isInLimit_111 : decode cX10_isInLimit 111 = .ok (.lload 9, 2) := by decide +kernel
theorem dX10_isInLimit_113 : decode cX10_isInLimit 113 = .ok (.lload 11, 2) := by decide +kernel
theorem dX10_isInLimit_115 : decode cX10_isInLimit 115 = .ok (.lcmp, 1) := by decide +kernel
theorem dX10_isInLimit_116 : decode cX10_isInLimit 116 = .ok (.ifCond .lt 7, 3) := by decide +kernel
theorem dX10_isInLimit_119 : decode cX10_isInLimit 119 = .ok (.iconst 1, 1) := by decide +kernel
theorem dX10_isInLimit_120 : decode cX10_isInLimit 120 = .ok (.goto 4, 3) := by decide +kernel
theorem dX10_isInLimit_123 : decode cX10_isInLimit 123 = .ok (.iconst 0, 1) := by decide +kernel
theorem dX10_isInLimit_124 : decode cX10_isInLimit 124 = .ok (.ireturn, 1) := by decide +kernel
theorem dX10_addCap_0 : decode cX10_addCap 0 = .ok (.aload_n 0, 1) := by decide +kernel
theorem dX10_addCap_1 : decode cX10_addCap 1 = .ok (.getfield 12, 3) := by decide +kernel
theorem dX10_addCap_4 : decode cX10_addCap 4 = .ok (.iload_n 1, 1) := by decide +kernel
theorem dX10_addCap_5 : decode cX10_addCap 5 = .ok (.iload_n 2, 1) := by decide +kernel
theorem dX10_addCap_6 : decode cX10_addCap 6 = .ok (.invokevirtual 143, 3) := by decide +kernel
theorem dX10_addCap_9 : decode cX10_addCap 9 = .ok (.istore 4, 2) := by decide +kernel
theorem dX10_addCap_11 : decode cX10_addCap 11 = .ok (.aload_n 0, 1) := by decide +kernel
theorem dX10_addCap_12 : decode cX10_addCap 12 = .ok (.getfield 12, 3) := by decide +kernel
theorem dX10_addCap_15 : decode cX10_addCap 15 = .ok (.iload_n 1, 1) := by decide +kernel
theorem dX10_addCap_16 : decode cX10_addCap 16 = .ok (.iload_n 2, 1) := by decide +kernel
theorem dX10_addCap_17 : decode cX10_addCap 17 = .ok (.invokevirtual 146, 3) := by decide +kernel
theorem dX10_addCap_20 : decode cX10_addCap 20 = .ok (.istore 5, 2) := by decide +kernel
theorem dX10_addCap_22 : decode cX10_addCap 22 = .ok (.aload_n 0, 1) := by decide +kernel
theorem dX10_addCap_23 : decode cX10_addCap 23 = .ok (.getfield 74, 3) := by decide +kernel
theorem dX10_addCap_26 : decode cX10_addCap 26 = .ok (.iconst 1, 1) := by decide +kernel
theorem dX10_addCap_27 : decode cX10_addCap 27 = .ok (.if_icmp .ne 14, 3) := by decide +kernel
theorem dX10_addCap_30 : decode cX10_addCap 30 = .ok (.aload_n 0, 1) := by decide +kernel
theorem dX10_addCap_31 : decode cX10_addCap 31 = .ok (.iload 4, 2) := by decide +kernel
theorem dX10_addCap_33 : decode cX10_addCap 33 = .ok (.iload 5, 2) := by decide +kernel
theorem dX10_addCap_35 : decode cX10_addCap 35 = .ok (.invokevirtual 105, 3) := by decide +kernel
theorem dX10_addCap_38 : decode cX10_addCap 38 = .ok (.goto 143, 3) := by decide +kernel
theorem dX10_addCap_41 : decode cX10_addCap 41 = .ok (.aload_n 0, 1) := by decide +kernel
theorem dX10_addCap_42 : decode cX10_addCap 42 = .ok (.getfield 74, 3) := by decide +kernel
theorem dX10_addCap_45 : decode cX10_addCap 45 = .ok (.iconst 2, 1) := by decide +kernel
theorem dX10_addCap_46 : decode cX10_addCap 46 = .ok (.if_icmp .ne 135, 3) := by decide +kernel
theorem dX10_addCap_49 : decode cX10_addCap 49 = .ok (.aload_n 0, 1) := by decide +kernel
theorem dX10_addCap_50 : decode cX10_addCap 50 = .ok (.getfield 12, 3) := by decide +kernel
theorem dX10_addCap_53 : decode cX10_addCap 53 = .ok (.iload_n 1, 1) := by decide +kernel
theorem dX10_addCap_54 : decode cX10_addCap 54 = .ok (.invokevirtual 149, 3) := by decide +kernel
theorem dX10_addCap_57 : decode cX10_addCap 57 = .ok (.istore 6, 2) := by decide +kernel
theorem dX10_addCap_59 : decode cX10_addCap 59 = .ok (.aload_n 0, 1) := by decide +kernel
theorem dX10_addCap_60 : decode cX10_addCap 60 = .ok (.getfield 12, 3) := by decide +kernel
theorem dX10_addCap_63 : decode cX10_addCap 63 = .ok (.iload_n 1, 1) := by decide +kernel
theorem dX10_addCap_64 : decode cX10_addCap 64 = .ok (.invokevirtual 152, 3) := by decide +kernel
theorem dX10_addCap_67 : decode cX10_addCap 67 = .ok (.istore 7, 2) := by decide +kernel
theorem dX10_addCap_69 : decode cX10_addCap 69 = .ok (.iload_n 3, 1) := by decide +kernel
theorem dX10_addCap_70 : decode cX10_addCap 70 = .ok (.aload_n 0, 1) := by decide +kernel
theorem dX10_addCap_71 : decode cX10_addCap 71 = .ok (.getfield 12, 3) := by decide +kernel
theorem dX10_addCap_74 : decode cX10_addCap 74 = .ok (.iload_n 1, 1) := by decide +kernel
theorem dX10_addCap_75 : decode cX10_addCap 75 = .ok (.invokevirtual 178, 3) := by decide +kernel
theorem dX10_addCap_78 : decode cX10_addCap 78 = .ok (.imul, 1) := by decide +kernel
theorem dX10_addCap_79 : decode cX10_addCap 79 = .ok (.istore 8, 2) := by decide +kernel
theorem dX10_addCap_81 : decode cX10_addCap 81 = .ok (.iload_n 3, 1) := by decide +kernel
theorem dX10_addCap_82 : decode cX10_addCap 82 = .ok (.aload_n 0, 1) := by decide +kernel
theorem dX10_addCap_83 : decode cX10_addCap 83 = .ok (.getfield 12, 3) := by decide +kernel
theorem dX10_addCap_86 : decode cX10_addCap 86 = .ok (.iload_n 1, 1) := by decide +kernel
theorem dX10_addCap_87 : decode cX10_addCap 87 = .ok (.invokevirtual 181, 3) := by decide +kernel
theorem dX10_addCap_90 : decode cX10_addCap 90 = .ok (.imul, 1) := by decide +kernel
theorem dX10_addCap_91 : decode cX10_addCap 91 = .ok (.istore 9, 2) := by decide +kernel
theorem dX10_addCap_93 : decode cX10_addCap 93 = .ok (.aload_n 0, 1) := by decide +kernel
theorem dX10_addCap_94 : decode cX10_addCap 94 = .ok (.getfield 28, 3) := by decide +kernel
theorem dX10_addCap_97 : decode cX10_addCap 97 = .ok (.iconst 4, 1) := by decide +kernel
theorem dX10_addCap_98 : decode cX10_addCap 98 = .ok (.invokevirtual 108, 3) := by decide +kernel
theorem dX10_addCap_101 : decode cX10_addCap 101 = .ok (.aload_n 0, 1) := by decide +kernel
theorem dX10_addCap_102 : decode cX10_addCap 102 = .ok (.getfield 28, 3) := by decide +kernel
theorem dX10_addCap_105 : decode cX10_addCap 105 = .ok (.iload 4, 2) := by decide +kernel
theorem dX10_addCap_107 : decode cX10_addCap 107 = .ok (.iload 6, 2) := by decide +kernel
theorem dX10_addCap_109 : decode cX10_addCap 109 = .ok (.iadd, 1) := by decide +kernel
theorem dX10_addCap_110 : decode cX10_addCap 110 = .ok (.iload 5, 2) := by decide +kernel
theorem dX10_addCap_112 : decode cX10_addCap 112 = .ok (.iload 7, 2) := by decide +kernel
theorem dX10_addCap_114 : decode cX10_addCap 114 = .ok (.iadd, 1) := by decide +kernel
theorem dX10_addCap_115 : decode cX10_addCap 115 = .ok (.invokevirtual 111, 3) := by decide +kernel
theorem dX10_addCap_118 : decode cX10_addCap 118 = .ok (.aload_n 0, 1) := by decide +kernel
theorem dX10_addCap_119 : decode cX10_addCap 119 = .ok (.getfield 28, 3) := by decide +kernel
theorem dX10_addCap_122 : decode cX10_addCap 122 = .ok (.iload 4, 2) := by decide +kernel
theorem dX10_addCap_124 : decode cX10_addCap 124 = .ok (.iload 6, 2) := by decide +kernel
theorem dX10_addCap_126 : decode cX10_addCap 126 = .ok (.iadd, 1) := by decide +kernel
theorem dX10_addCap_127 : decode cX10_addCap 127 = .ok (.iload 8, 2) := by decide +kernel
theorem dX10_addCap_129 : decode cX10_addCap 129 = .ok (.iadd, 1) := by decide +kernel
theorem dX10_addCap_130 : decode cX10_addCap 130 = .ok (.iload 5, 2) := by decide +kernel
theorem dX10_addCap_132 : decode cX10_addCap 132 = .ok (.iload 7, 2) := by decide +kernel
theorem dX10_addCap_134 : decode cX10_addCap 134 = .ok (.iadd, 1) := by decide +kernel
theorem dX10_addCap_135 : decode cX10_addCap 135 = .ok (.iload 9, 2) := by decide +kernel
theorem dX10_addCap_137 : decode cX10_addCap 137 = .ok (.iadd, 1) := by decide +kernel
theorem dX10_addCap_138 : decode cX10_addCap 138 = .ok (.invokevirtual 111, 3) := by decide +kernel
theorem dX10_addCap_141 : decode cX10_addCap 141 = .ok (.aload_n 0, 1) := by decide +kernel
theorem dX10_addCap_142 : decode cX10_addCap 142 = .ok (.getfield 28, 3) := by decide +kernel
theorem dX10_addCap_145 : decode cX10_addCap 145 = .ok (.iload 4, 2) := by decide +kernel
theorem dX10_addCap_147 : decode cX10_addCap 147 = .ok (.iload 6, 2) := by decide +kernel
theorem dX10_addCap_149 : decode cX10_addCap 149 = .ok (.isub, 1) := by decide +kernel
theorem dX10_addCap_150 : decode cX10_addCap 150 = .ok (.iload 8, 2) := by decide +kernel
theorem dX10_addCap_152 : decode cX10_addCap 152 = .ok (.iadd, 1) := by decide +kernel
theorem dX10_addCap_153 : decode cX10_addCap 153 = .ok (.iload 5, 2) := by decide +kernel
theorem dX10_addCap_155 : decode cX10_addCap 155 = .ok (.iload 7, 2) := by decide +kernel
theorem dX10_addCap_157 : decode cX10_addCap 157 = .ok (.isub, 1) := by decide +kernel
theorem dX10_addCap_158 : decode cX10_addCap 158 = .ok (.iload 9, 2) := by decide +kernel
theorem dX10_addCap_160 : decode cX10_addCap 160 = .ok (.iadd, 1) := by decide +kernel
theorem dX10_addCap_161 : decode cX10_addCap 161 = .ok (.invokevirtual 111, 3) := by decide +kernel
theorem dX10_addCap_164 : decode cX10_addCap 164 = .ok (.aload_n 0, 1) := by decide +kernel
theorem dX10_addCap_165 : decode cX10_addCap 165 = .ok (.getfield 28, 3) := by decide +kernel
theorem dX10_addCap_168 : decode cX10_addCap 168 = .ok (.iload 4, 2) := by decide +kernel
theorem dX10_addCap_170 : decode cX10_addCap 170 = .ok (.iload 6, 2) := by decide +kernel
theorem dX10_addCap_172 : decode cX10_addCap 172 = .ok (.isub, 1) := by decide +kernel
theorem dX10_addCap_173 : decode cX10_addCap 173 = .ok (.iload 5, 2) := by decide +kernel
theorem dX10_addCap_175 : decode cX10_addCap 175 = .ok (.iload 7, 2) := by decide +kernel
theorem dX10_addCap_177 : decode cX10_addCap 177 = .ok (.isub, 1) := by decide +kernel
theorem dX10_addCap_178 : decode cX10_addCap 178 = .ok (.invokevirtual 111, 3) := by decide +kernel
theorem dX10_addCap_181 : decode cX10_addCap 181 = .ok (.return_, 1) := by decide +kernel
theorem dX10_addDisc_0 : decode cX10_addDisc 0 = .ok (.aload_n 0, 1) := by decide +kernel
theorem dX10_addDisc_1 : decode cX10_addDisc 1 = .ok (.getfield 28, 3) := by decide +kernel
theorem dX10_addDisc_4 : decode cX10_addDisc 4 = .ok (.iconst 3, 1) := by decide +kernel
theorem dX10_addDisc_5 : decode cX10_addDisc 5 = .ok (.invokevirtual 108, 3) := by decide +kernel
theorem dX10_addDisc_8 : decode cX10_addDisc 8 = .ok (.aload_n 0, 1) := by decide +kernel
theorem dX10_addDisc_9 : decode cX10_addDisc 9 = .ok (.getfield 28, 3) := by decide +kernel
theorem dX10_addDisc_12 : decode cX10_addDisc 12 = .ok (.iload_n 1, 1) := by decide +kernel
theorem dX10_addDisc_13 : decode cX10_addDisc 13 = .ok (.iload_n 2, 1) := by decide +kernel
theorem dX10_addDisc_14 : decode cX10_addDisc 14 = .ok (.invokevirtual 111, 3) := by decide +kernel
theorem dX10_addDisc_17 : decode cX10_addDisc 17 = .ok (.return_, 1) := by decide +kernel
theorem dX11_init_0 : decode cX11_init 0 = .ok (.aload_n 0, 1) := by decide +kernel
theorem dX11_init_1 : decode cX11_init 1 = .ok (.invokespecial 3, 3) := by decide +kernel
theorem dX11_init_4 : decode cX11_init 4 = .ok (.aload_n 0, 1) := by decide +kernel
theorem dX11_init_5 : decode cX11_init 5 = .ok (.new 9, 3) := by decide +kernel
theorem dX11_init_8 : decode cX11_init 8 = .ok (.dup, 1) := by decide +kernel
theorem dX11_init_9 : decode cX11_init 9 = .ok (.invokespecial 11, 3) := by decide +kernel
theorem dX11_init_12 : decode cX11_init 12 = .ok (.putfield 12, 3) := by decide +kernel
theorem dX11_init_15 : decode cX11_init 15 = .ok (.aload_n 0, 1) := by decide +kernel
theorem dX11_init_16 : decode cX11_init 16 = .ok (.new 9, 3) := by decide +kernel
theorem dX11_init_19 : decode cX11_init 19 = .ok (.dup, 1) := by decide +kernel
theorem dX11_init_20 : decode cX11_init 20 = .ok (.invokespecial 11, 3) := by decide +kernel
theorem dX11_init_23 : decode cX11_init 23 = .ok (.putfield 16, 3) := by decide +kernel
theorem dX11_init_26 : decode cX11_init 26 = .ok (.aload_n 0, 1) := by decide +kernel
theorem dX11_init_27 : decode cX11_init 27 = .ok (.new 19, 3) := by decide +kernel
theorem dX11_init_30 : decode cX11_init 30 = .ok (.dup, 1) := by decide +kernel
theorem dX11_init_31 : decode cX11_init 31 = .ok (.invokespecial 21, 3) := by decide +kernel
theorem dX11_init_34 : decode cX11_init 34 = .ok (.putfield 22, 3) := by decide +kernel
theorem dX11_init_37 : decode cX11_init 37 = .ok (.aload_n 0, 1) := by decide +kernel
theorem dX11_init_38 : decode cX11_init 38 = .ok (.new 26, 3) := by decide +kernel
theorem dX11_init_41 : decode cX11_init 41 = .ok (.dup, 1) := by decide +kernel
theorem dX11_init_42 : decode cX11_init 42 = .ok (.invokespecial 28, 3) := by decide +kernel
theorem dX11_init_45 : decode cX11_init 45 = .ok (.putfield 29, 3) := by decide +kernel
theorem dX11_init_48 : decode cX11_init 48 = .ok (.aload_n 0, 1) := by decide +kernel
theorem dX11_init_49 : decode cX11_init 49 = .ok (.new 33, 3) := by decide +kernel
theorem dX11_init_52 : decode cX11_init 52 = .ok (.dup, 1) := by decide +kernel
theorem dX11_init_53 : decode cX11_init 53 = .ok (.invokespecial 35, 3) := by decide +kernel
theorem dX11_init_56 : decode cX11_init 56 = .ok (.putfield 36, 3) := by decide +kernel
theorem dX11_init_59 : decode cX11_init 59 = .ok (.aload_n 0, 1) := by decide +kernel
theorem dX11_init_60 : decode cX11_init 60 = .ok (.new 40, 3) := by decide +kernel
theorem dX11_init_63 : decode cX11_init 63 = .ok (.dup, 1) := by decide +kernel
theorem dX11_init_64 : decode cX11_init 64 = .ok (.invokespecial 42, 3) := by decide +kernel
theorem dX11_init_67 : decode cX11_init 67 = .ok (.putfield 43, 3) := by decide +kernel
theorem dX11_init_70 : decode cX11_init 70 = .ok (.aload_n 0, 1) := by decide +kernel
theorem dX11_init_71 : decode cX11_init 71 = .ok (.new 47, 3) := by decide +kernel
theorem dX11_init_74 : decode cX11_init 74 = .ok (.dup, 1) := by decide +kernel
theorem dX11_init_75 : decode cX11_init 75 = .ok (.invokespecial 49, 3) := by decide +kernel
theorem dX11_init_78 : decode cX11_init 78 = .ok (.putfield 50, 3) := by decide +kernel
theorem dX11_init_81 : decode cX11_init 81 = .ok (.return_, 1) := by decide +kernel
theorem dX11_moveTo_0 : decode cX11_moveTo 0 = .ok (.iload_n 1, 1) := by decide +kernel
theorem dX11_moveTo_1 : decode cX11_moveTo 1 = .ok (.bipush (-100), 2) := by decide +kernel
theorem dX11_moveTo_3 : decode cX11_moveTo 3 = .ok (.bipush 100, 2) := by decide +kernel
theorem dX11_moveTo_5 : decode cX11_moveTo 5 = .ok (.invokestatic 54, 3) := by decide +kernel
theorem dX11_moveTo_8 : decode cX11_moveTo 8 = .ok (.iload_n 2, 1) := by decide +kernel
theorem dX11_moveTo_9 : decode cX11_moveTo 9 = .ok (.bipush (-100), 2) := by decide +kernel
theorem dX11_moveTo_11 : decode cX11_moveTo 11 = .ok (.bipush 100, 2) := by decide +kernel
theorem dX11_moveTo_13 : decode cX11_moveTo 13 = .ok (.invokestatic 54, 3) := by decide +kernel
theorem dX11_moveTo_16 : decode cX11_moveTo 16 = .ok (.aload_n 0, 1) := by decide +kernel
theorem dX11_moveTo_17 : decode cX11_moveTo 17 = .ok (.getfield 12, 3) := by decide +kernel
theorem dX11_moveTo_20 : decode cX11_moveTo 20 = .ok (.invokevirtual 58, 3) := by decide +kernel
theorem dX11_moveTo_23 : decode cX11_moveTo 23 = .ok (.iconst 4, 1) := by decide +kernel
theorem dX11_moveTo_24 : decode cX11_moveTo 24 = .ok (.if_icmp .ge 7, 3) := by decide +kernel
theorem dX11_moveTo_27 : decode cX11_moveTo 27 = .ok (.iconst 1, 1) := by decide +kernel
theorem dX11_moveTo_28 : decode cX11_moveTo 28 = .ok (.goto 4, 3) := by decide +kernel
theorem dX11_moveTo_31 : decode cX11_moveTo 31 = .ok (.iconst 0, 1) := by decide +kernel
theorem dX11_moveTo_32 : decode cX11_moveTo 32 = .ok (.invokestatic 62, 3) := by decide +kernel
theorem dX11_moveTo_35 : decode cX11_moveTo 35 = .ok (.aload_n 0, 1) := by decide +kernel
theorem dX11_moveTo_36 : decode cX11_moveTo 36 = .ok (.invokevirtual 66, 3) := by decide +kernel
theorem dX11_moveTo_39 : decode cX11_moveTo 39 = .ok (.aload_n 0, 1) := by decide +kernel
theorem dX11_moveTo_40 : decode cX11_moveTo 40 = .ok (.getfield 12, 3) := by decide +kernel
theorem dX11_moveTo_43 : decode cX11_moveTo 43 = .ok (.iload_n 1, 1) := by decide +kernel
theorem dX11_moveTo_44 : decode cX11_moveTo 44 = .ok (.iload_n 2, 1) := by decide +kernel
theorem dX11_moveTo_45 : decode cX11_moveTo 45 = .ok (.invokevirtual 69, 3) := by decide +kernel
theorem dX11_moveTo_48 : decode cX11_moveTo 48 = .ok (.aload_n 0, 1) := by decide +kernel
theorem dX11_moveTo_49 : decode cX11_moveTo 49 = .ok (.getfield 12, 3) := by decide +kernel
theorem dX11_moveTo_52 : decode cX11_moveTo 52 = .ok (.invokevirtual 73, 3) := by decide +kernel
theorem dX11_moveTo_55 : decode cX11_moveTo 55 = .ok (.ireturn, 1) := by decide +kernel
theorem dX11_lineTo_0 : decode cX11_lineTo 0 = .ok (.iload_n 1, 1) := by decide +kernel
theorem dX11_lineTo_1 : decode cX11_lineTo 1 = .ok (.bipush (-100), 2) := by decide +kernel
theorem dX11_lineTo_3 : decode cX11_lineTo 3 = .ok (.bipush 100, 2) := by decide +kernel
theorem dX11_lineTo_5 : decode cX11_lineTo 5 = .ok (.invokestatic 54, 3) := by decide +kernel
theorem dX11_lineTo_8 : decode cX11_lineTo 8 = .ok (.iload_n 2, 1) := by decide +kernel
theorem dX11_lineTo_9 : decode cX11_lineTo 9 = .ok (.bipush (-100), 2) := by decide +kernel
theorem dX11_lineTo_11 : decode cX11_lineTo 11 = .ok (.bipush 100, 2) := by decide +kernel
theorem dX11_lineTo_13 : decode cX11_lineTo 13 = .ok (.invokestatic 54, 3) := by decide +kernel
theorem dX11_lineTo_16 : decode cX11_lineTo 16 = .ok (.aload_n 0, 1) := by decide +kernel
theorem dX11_lineTo_17 : decode cX11_lineTo 17 = .ok (.getfield 12, 3) := by decide +kernel
theorem dX11_lineTo_20 : decode cX11_lineTo 20 = .ok (.invokevirtual 73, 3) := by decide +kernel
theorem dX11_lineTo_23 : decode cX11_lineTo 23 = .ok (.istore_n 3, 1) := by decide +kernel
theorem dX11_lineTo_24 : decode cX11_lineTo 24 = .ok (.iload_n 3, 1) := by decide +kernel
theorem dX11_lineTo_25 : decode cX11_lineTo 25 = .ok (.ifCond .lt 31, 3) := by decide +kernel
theorem dX11_lineTo_28 : decode cX11_lineTo 28 = .ok (.aload_n 0, 1) := by decide +kernel
theorem dX11_lineTo_29 : decode cX11_lineTo 29 = .ok (.getfield 12, 3) := by decide +kernel
theorem dX11_lineTo_32 : decode cX11_lineTo 32 = .ok (.iload_n 3, 1) := by decide +kernel
theorem dX11_lineTo_33 : decode cX11_lineTo 33 = .ok (.invokevirtual 76, 3) := by decide +kernel
theorem dX11_lineTo_36 : decode cX11_lineTo 36 = .ok (.ifCond .ne 20, 3) := by decide +kernel
theorem dX11_lineTo_39 : decode cX11_lineTo 39 = .ok (.aload_n 0, 1) := by decide +kernel
theorem dX11_lineTo_40 : decode cX11_lineTo 40 = .ok (.getfield 12, 3) := by decide +kernel
theorem dX11_lineTo_43 : decode cX11_lineTo 43 = .ok (.iload_n 3, 1) := by decide +kernel
theorem dX11_lineTo_44 : decode cX11_lineTo 44 = .ok (.invokevirtual 80, 3) := by decide +kernel
theorem dX11_lineTo_47 : decode cX11_lineTo 47 = .ok (.bipush 8, 2) := by decide +kernel
theorem dX11_lineTo_49 : decode cX11_lineTo 49 = .ok (.if_icmp .ge 7, 3) := by decide +kernel
theorem dX11_lineTo_52 : decode cX11_lineTo 52 = .ok (.iconst 1, 1) := by decide +kernel
theorem dX11_lineTo_53 : decode cX11_lineTo 53 = .ok (.goto 4, 3) := by decide +kernel
theorem dX11_lineTo_56 : decode cX11_lineTo 56 = .ok (.iconst 0, 1) := by decide +kernel
theorem dX11_lineTo_57 : decode cX11_lineTo 57 = .ok (.invokestatic 62, 3) := by decide +kernel
theorem dX11_lineTo_60 : decode cX11_lineTo 60 = .ok (.aload_n 0, 1) := by decide +kernel
theorem dX11_lineTo_61 : decode cX11_lineTo 61 = .ok (.invokevirtual 66, 3) := by decide +kernel
theorem dX11_lineTo_64 : decode cX11_lineTo 64 = .ok (.aload_n 0, 1) := by decide +kernel
theorem dX11_lineTo_65 : decode cX11_lineTo 65 = .ok (.getfield 12, 3) := by decide +kernel
theorem dX11_lineTo_68 : decode cX11_lineTo 68 = .ok (.iload_n 1, 1) := by decide +kernel
theorem dX11_lineTo_69 : decode cX11_lineTo 69 = .ok (.iload_n 2, 1) := by decide +kernel
theorem dX11_lineTo_70 : decode cX11_lineTo 70 = .ok (.invokevirtual 84, 3) := by decide +kernel
theorem dX11_lineTo_73 : decode cX11_lineTo 73 = .ok (.aload_n 0, 1) := by decide +kernel
theorem dX11_lineTo_74 : decode cX11_lineTo 74 = .ok (.getfield 12, 3) := by decide +kernel
theorem dX11_lineTo_77 : decode cX11_lineTo 77 = .ok (.iload_n 3, 1) := by decide +kernel
theorem dX11_lineTo_78 : decode cX11_lineTo 78 = .ok (.invokevirtual 80, 3) := by decide +kernel
theorem dX11_lineTo_81 : decode cX11_lineTo 81 = .ok (.ireturn, 1) := by decide +kernel
theorem dX11_close_0 : decode cX11_close 0 = .ok (.aload_n 0, 1) := by decide +kernel
theorem dX11_close_1 : decode cX11_close 1 = .ok (.getfield 12, 3) := by decide +kernel
theorem dX11_close_4 : decode cX11_close 4 = .ok (.invokevirtual 73, 3) := by decide +kernel
theorem dX11_close_7 : decode cX11_close 7 = .ok (.istore_n 1, 1) := by decide +kernel
theorem dX11_close_8 : decode cX11_close 8 = .ok (.iload_n 1, 1) := by decide +kernel
theorem dX11_close_9 : decode cX11_close 9 = .ok (.ifCond .lt 18, 3) := by decide +kernel
theorem dX11_close_12 : decode cX11_close 12 = .ok (.aload_n 0, 1) := by decide +kernel
theorem dX11_close_13 : decode cX11_close 13 = .ok (.getfield 12, 3) := by decide +kernel
theorem dX11_close_16 : decode cX11_close 16 = .ok (.iload_n 1, 1) := by decide +kernel
theorem dX11_close_17 : decode cX11_close 17 = .ok (.invokevirtual 76, 3) := by decide +kernel
theorem dX11_close_20 : decode cX11_close 20 = .ok (.ifCond .ne 7, 3) := by decide +kernel
theorem dX11_close_23 : decode cX11_close 23 = .ok (.iconst 1, 1) := by decide +kernel
theorem dX11_close_24 : decode cX11_close 24 = .ok (.goto 4, 3) := by decide +kernel
theorem dX11_close_27 : decode cX11_close 27 = .ok (.iconst 0, 1) := by decide +kernel
theorem dX11_close_28 : decode cX11_close 28 = .ok (.invokestatic 62, 3) := by decide +kernel
theorem dX11_close_31 : decode cX11_close 31 = .ok (.aload_n 0, 1) := by decide +kernel
theorem dX11_close_32 : decode cX11_close 32 = .ok (.invokevirtual 66, 3) := by decide +kernel
theorem dX11_close_35 : decode cX11_close 35 = .ok (.aload_n 0, 1) := by decide +kernel
theorem dX11_close_36 : decode cX11_close 36 = .ok (.getfield 12, 3) := by decide +kernel
theorem dX11_close_39 : decode cX11_close 39 = .ok (.invokevirtual 87, 3) := by decide +kernel
theorem dX11_close_42 : decode cX11_close 42 = .ok (.aload_n 0, 1) := by decide +kernel
theorem dX11_close_43 : decode cX11_close 43 = .ok (.getfield 43, 3) := by decide +kernel
theorem dX11_close_46 : decode cX11_close 46 = .ok (.aload_n 0, 1) := by decide +kernel
theorem dX11_close_47 : decode cX11_close 47 = .ok (.getfield 12, 3) := by decide +kernel
theorem dX11_close_50 : decode cX11_close 50 = .ok (.invokevirtual 90, 3) := by decide +kernel
theorem dX11_close_53 : decode cX11_close 53 = .ok (.iload_n 1, 1) := by decide +kernel
theorem dX11_close_54 : decode cX11_close 54 = .ok (.invokevirtual 94, 3) := by decide +kernel
theorem dX11_close_57 : decode cX11_close 57 = .ok (.ireturn, 1) := by decide +kernel
theorem dX11_remove_0 : decode cX11_remove 0 = .ok (.iload_n 1, 1) := by decide +kernel
theorem dX11_remove_1 : decode cX11_remove 1 = .ok (.aload_n 0, 1) := by decide +kernel
theorem dX11_remove_2 : decode cX11_remove 2 = .ok (.getfield 12, 3) := by decide +kernel
theorem dX11_remove_5 : decode cX11_remove 5 = .ok (.invokevirtual 58, 3) := by decide +kernel
theorem dX11_remove_8 : decode cX11_remove 8 = .ok (.invokestatic 99, 3) := by decide +kernel
theorem dX11_remove_11 : decode cX11_remove 11 = .ok (.aload_n 0, 1) := by decide +kernel
theorem dX11_remove_12 : decode cX11_remove 12 = .ok (.invokevirtual 66, 3) := by decide +kernel
theorem dX11_remove_15 : decode cX11_remove 15 = .ok (.aload_n 0, 1) := by decide +kernel
theorem dX11_remove_16 : decode cX11_remove 16 = .ok (.getfield 12, 3) := by decide +kernel
theorem dX11_remove_19 : decode cX11_remove 19 = .ok (.iload_n 1, 1) := by decide +kernel
theorem dX11_remove_20 : decode cX11_remove 20 = .ok (.invokevirtual 102, 3) := by decide +kernel
theorem dX11_remove_23 : decode cX11_remove 23 = .ok (.aload_n 0, 1) := by decide +kernel
theorem dX11_remove_24 : decode cX11_remove 24 = .ok (.getfield 12, 3) := by decide +kernel
theorem dX11_remove_27 : decode cX11_remove 27 = .ok (.invokevirtual 58, 3) := by decide +kernel
theorem dX11_remove_30 : decode cX11_remove 30 = .ok (.ireturn, 1) := by decide +kernel
theorem dX11_reverse_0 : decode cX11_reverse 0 = .ok (.iload_n 1, 1) := by decide +kernel
theorem dX11_reverse_1 : decode cX11_reverse 1 = .ok (.aload_n 0, 1) := by decide +kernel
theorem dX11_reverse_2 : decode cX11_reverse 2 = .ok (.getfield 12, 3) := by decide +kernel
theorem dX11_reverse_5 : decode cX11_reverse 5 = .ok (.invokevirtual 58, 3) := by decide +kernel
theorem dX11_reverse_8 : decode cX11_reverse 8 = .ok (.invokestatic 99, 3) := by decide +kernel
theorem dX11_reverse_11 : decode cX11_reverse 11 = .ok (.aload_n 0, 1) := by decide +kernel
theorem dX11_reverse_12 : decode cX11_reverse 12 = .ok (.invokevirtual 66, 3) := by decide +kernel
theorem dX11_reverse_15 : decode cX11_reverse 15 = .ok (.aload_n 0, 1) := by decide +kernel
theorem dX11_reverse_16 : decode cX11_reverse 16 = .ok (.getfield 12, 3) := by decide +kernel
theorem dX11_reverse_19 : decode cX11_reverse 19 = .ok (.iload_n 1, 1) := by decide +kernel
theorem dX11_reverse_20 : decode cX11_reverse 20 = .ok (.invokevirtual 106, 3) := by decide +kernel
theorem dX11_reverse_23 : decode cX11_reverse 23 = .ok (.aload_n 0, 1) := by decide +kernel
theorem dX11_reverse_24 : decode cX11_reverse 24 = .ok (.getfield 12, 3) := by decide +kernel
theorem dX11_reverse_27 : decode cX11_reverse 27 = .ok (.iload_n 1, 1) := by decide +kernel
theorem dX11_reverse_28 : decode cX11_reverse 28 = .ok (.invokevirtual 80, 3) := by decide +kernel
theorem dX11_reverse_31 : decode cX11_reverse 31 = .ok (.ireturn, 1) := by decide +kernel
theorem dX11_simplify_0 : decode cX11_simplify 0 = .ok (.iload_n 1, 1) := by decide +kernel
theorem dX11_simplify_1 : decode cX11_simplify 1 = .ok (.aload_n 0, 1) := by decide +kernel
theorem dX11_simplify_2 : decode cX11_simplify 2 = .ok (.getfield 12, 3) := by decide +kernel
theorem dX11_simplify_5 : decode cX11_simplify 5 = .ok (.invokevirtual 58, 3) := by decide +kernel
theorem dX11_simplify_8 : decode cX11_simplify 8 = .ok (.invokestatic 99, 3) := by decide +kernel
theorem dX11_simplify_11 : decode cX11_simplify 11 = .ok (.aload_n 0, 1) := by decide +kernel
theorem dX11_simplify_12 : decode cX11_simplify 12 = .ok (.invokevirtual 66, 3) := by decide +kernel
theorem dX11_simplify_15 : decode cX11_simplify 15 = .ok (.aload_n 0, 1) := by decide +kernel
theorem dX11_simplify_16 : decode cX11_simplify 16 = .ok (.getfield 12, 3) := by decide +kernel
theorem dX11_simplify_19 : decode cX11_simplify 19 = .ok (.iload_n 1, 1) := by decide +kernel
theorem dX11_simplify_20 : decode cX11_simplify 20 = .ok (.invokevirtual 109, 3) := by decide +kernel
theorem dX11_simplify_23 : decode cX11_simplify 23 = .ok (.ireturn, 1) := by decide +kernel
theorem dX11_transform_0 : decode cX11_transform 0 = .ok (.iload_n 1, 1) := by decide +kernel
theorem dX11_transform_1 : decode cX11_transform 1 = .ok (.iconst 0, 1) := by decide +kernel
theorem dX11_transform_2 : decode cX11_transform 2 = .ok (.iconst 3, 1) := by decide +kernel
theorem dX11_transform_3 : decode cX11_transform 3 = .ok (.invokestatic 54, 3) := by decide +kernel
theorem dX11_transform_6 : decode cX11_transform 6 = .ok (.iload_n 2, 1) := by decide +kernel
theorem dX11_transform_7 : decode cX11_transform 7 = .ok (.sipush (-200), 3) := by decide +kernel
theorem dX11_transform_10 : decode cX11_transform 10 = .ok (.sipush 200, 3) := by decide +kernel
theorem dX11_transform_13 : decode cX11_transform 13 = .ok (.invokestatic 54, 3) := by decide +kernel
theorem dX11_transform_16 : decode cX11_transform 16 = .ok (.iload_n 3, 1) := by decide +kernel
theorem dX11_transform_17 : decode cX11_transform 17 = .ok (.sipush (-200), 3) := by decide +kernel
theorem dX11_transform_20 : decode cX11_transform 20 = .ok (.sipush 200, 3) := by decide +kernel
theorem dX11_transform_23 : decode cX11_transform 23 = .ok (.invokestatic 54, 3) := by decide +kernel
theorem dX11_transform_26 : decode cX11_transform 26 = .ok (.aload_n 0, 1) := by decide +kernel
theorem dX11_transform_27 : decode cX11_transform 27 = .ok (.getfield 12, 3) := by decide +kernel
theorem dX11_transform_30 : decode cX11_transform 30 = .ok (.iload_n 1, 1) := by decide +kernel
theorem dX11_transform_31 : decode cX11_transform 31 = .ok (.iload_n 2, 1) := by decide +kernel
theorem dX11_transform_32 : decode cX11_transform 32 = .ok (.iload_n 3, 1) := by decide +kernel
theorem dX11_transform_33 : decode cX11_transform 33 = .ok (.invokevirtual 112, 3) := by decide +kernel
theorem dX11_transform_36 : decode cX11_transform 36 = .ok (.invokestatic 62, 3) := by decide +kernel
theorem dX11_transform_39 : decode cX11_transform 39 = .ok (.aload_n 0, 1) := by decide +kernel
theorem dX11_transform_40 : decode cX11_transform 40 = .ok (.invokevirtual 66, 3) := by decide +kernel
theorem dX11_transform_43 : decode cX11_transform 43 = .ok (.aload_n 0, 1) := by decide +kernel
theorem dX11_transform_44 : decode cX11_transform 44 = .ok (.getfield 12, 3) := by decide +kernel
theorem dX11_transform_47 : decode cX11_transform 47 = .ok (.iload_n 1, 1) := by decide +kernel
theorem dX11_transform_48 : decode cX11_transform 48 = .ok (.iload_n 2, 1) := by decide +kernel
theorem dX11_transform_49 : decode cX11_transform 49 = .ok (.iload_n 3, 1) := by decide +kernel
theorem dX11_transform_50 : decode cX11_transform 50 = .ok (.invokevirtual 116, 3) := by decide +kernel
theorem dX11_transform_53 : decode cX11_transform 53 = .ok (.ireturn, 1) := by decide +kernel
theorem dX11_subpaths_0 : decode cX11_subpaths 0 = .ok (.aload_n 0, 1) := by decide +kernel
theorem dX11_subpaths_1 : decode cX11_subpaths 1 = .ok (.getfield 12, 3) := by decide +kernel
theorem dX11_subpaths_4 : decode cX11_subpaths 4 = .ok (.invokevirtual 58, 3) := by decide +kernel
theorem dX11_subpaths_7 : decode cX11_subpaths 7 = .ok (.ireturn, 1) := by decide +kernel
theorem dX11_subpath_0 : decode cX11_subpath 0 = .ok (.iload_n 1, 1) := by decide +kernel
theorem dX11_subpath_1 : decode cX11_subpath 1 = .ok (.aload_n 0, 1) := by decide +kernel
theorem dX11_subpath_2 : decode cX11_subpath 2 = .ok (.getfield 12, 3) := by decide +kernel
theorem dX11_subpath_5 : decode cX11_subpath 5 = .ok (.invokevirtual 58, 3) := by decide +kernel
theorem dX11_subpath_8 : decode cX11_subpath 8 = .ok (.invokestatic 99, 3) := by decide +kernel
theorem dX11_subpath_11 : decode cX11_subpath 11 = .ok (.iload_n 2, 1) := by decide +kernel
theorem dX11_subpath_12 : decode cX11_subpath 12 = .ok (.iconst 0, 1) := by decide +kernel
theorem dX11_subpath_13 : decode cX11_subpath 13 = .ok (.iconst 3, 1) := by decide +kernel
theorem dX11_subpath_14 : decode cX11_subpath 14 = .ok (.invokestatic 54, 3) := by decide +kernel
theorem dX11_subpath_17 : decode cX11_subpath 17 = .ok (.aload_n 0, 1) := by decide +kernel
theorem dX11_subpath_18 : decode cX11_subpath 18 = .ok (.iload_n 1, 1) := by decide +kernel
theorem dX11_subpath_19 : decode cX11_subpath 19 = .ok (.iload_n 2, 1) := by decide +kernel
theorem dX11_subpath_20 : decode cX11_subpath 20 = .ok (.invokevirtual 120, 3) := by decide +kernel
theorem dX11_subpath_23 : decode cX11_subpath 23 = .ok (.ireturn, 1) := by decide +kernel
theorem dX11_point_0 : decode cX11_point 0 = .ok (.iload_n 1, 1) := by decide +kernel
theorem dX11_point_1 : decode cX11_point 1 = .ok (.aload_n 0, 1) := by decide +kernel
theorem dX11_point_2 : decode cX11_point 2 = .ok (.getfield 12, 3) := by decide +kernel
theorem dX11_point_5 : decode cX11_point 5 = .ok (.invokevirtual 58, 3) := by decide +kernel
theorem dX11_point_8 : decode cX11_point 8 = .ok (.invokestatic 99, 3) := by decide +kernel
theorem dX11_point_11 : decode cX11_point 11 = .ok (.iload_n 2, 1) := by decide +kernel
theorem dX11_point_12 : decode cX11_point 12 = .ok (.aload_n 0, 1) := by decide +kernel
theorem dX11_point_13 : decode cX11_point 13 = .ok (.getfield 12, 3) := by decide +kernel
theorem dX11_point_16 : decode cX11_point 16 = .ok (.iload_n 1, 1) := by decide +kernel
theorem dX11_point_17 : decode cX11_point 17 = .ok (.invokevirtual 80, 3) := by decide +kernel
theorem dX11_point_20 : decode cX11_point 20 = .ok (.invokestatic 99, 3) := by decide +kernel
theorem dX11_point_23 : decode cX11_point 23 = .ok (.iload_n 3, 1) := by decide +kernel
theorem dX11_point_24 : decode cX11_point 24 = .ok (.ifCond .eq 15, 3) := by decide +kernel
theorem dX11_point_27 : decode cX11_point 27 = .ok (.aload_n 0, 1) := by decide +kernel
theorem dX11_point_28 : decode cX11_point 28 = .ok (.getfield 12, 3) := by decide +kernel
theorem dX11_point_31 : decode cX11_point 31 = .ok (.iload_n 1, 1) := by decide +kernel
theorem dX11_point_32 : decode cX11_point 32 = .ok (.iload_n 2, 1) := by decide +kernel
theorem dX11_point_33 : decode cX11_point 33 = .ok (.invokevirtual 124, 3) := by decide +kernel
theorem dX11_point_36 : decode cX11_point 36 = .ok (.goto 12, 3) := by decide +kernel
theorem dX11_point_39 : decode cX11_point 39 = .ok (.aload_n 0, 1) := by decide +kernel
theorem dX11_point_40 : decode cX11_point 40 = .ok (.getfield 12, 3) := by decide +kernel
theorem dX11_point_43 : decode cX11_point 43 = .ok (.iload_n 1, 1) := by decide +kernel
theorem dX11_point_44 : decode cX11_point 44 = .ok (.iload_n 2, 1) := by decide +kernel
theorem dX11_point_45 : decode cX11_point 45 = .ok (.invokevirtual 127, 3) := by decide +kernel
theorem dX11_point_48 : decode cX11_point 48 = .ok (.ireturn, 1) := by decide +kernel
theorem dX11_pointAt_0 : decode cX11_pointAt 0 = .ok (.iload_n 1, 1) := by decide +kernel
theorem dX11_pointAt_1 : decode cX11_pointAt 1 = .ok (.aload_n 0, 1) := by decide +kernel
theorem dX11_pointAt_2 : decode cX11_pointAt 2 = .ok (.getfield 12, 3) := by decide +kernel
theorem dX11_pointAt_5 : decode cX11_pointAt 5 = .ok (.invokevirtual 58, 3) := by decide +kernel
theorem dX11_pointAt_8 : decode cX11_pointAt 8 = .ok (.invokestatic 99, 3) := by decide +kernel
theorem dX11_pointAt_11 : decode cX11_pointAt 11 = .ok (.aload_n 0, 1) := by decide +kernel
theorem dX11_pointAt_12 : decode cX11_pointAt 12 = .ok (.getfield 43, 3) := by decide +kernel
theorem dX11_pointAt_15 : decode cX11_pointAt 15 = .ok (.aload_n 0, 1) := by decide +kernel
theorem dX11_pointAt_16 : decode cX11_pointAt 16 = .ok (.getfield 12, 3) := by decide +kernel
theorem dX11_pointAt_19 : decode cX11_pointAt 19 = .ok (.invokevirtual 90, 3) := by decide +kernel
theorem dX11_pointAt_22 : decode cX11_pointAt 22 = .ok (.astore 4, 2) := by decide +kernel
theorem dX11_pointAt_24 : decode cX11_pointAt 24 = .ok (.iload_n 2, 1) := by decide +kernel
theorem dX11_pointAt_25 : decode cX11_pointAt 25 = .ok (.iconst 0, 1) := by decide +kernel
theorem dX11_pointAt_26 : decode cX11_pointAt 26 = .ok (.aload 4, 2) := by decide +kernel
theorem dX11_pointAt_28 : decode cX11_pointAt 28 = .ok (.iload_n 1, 1) := by decide +kernel
theorem dX11_pointAt_29 : decode cX11_pointAt 29 = .ok (.invokevirtual 130, 3) := by decide +kernel
theorem dX11_pointAt_32 : decode cX11_pointAt 32 = .ok (.invokestatic 54, 3) := by decide +kernel
theorem dX11_pointAt_35 : decode cX11_pointAt 35 = .ok (.aload 4, 2) := by decide +kernel
theorem dX11_pointAt_37 : decode cX11_pointAt 37 = .ok (.iload_n 1, 1) := by decide +kernel
theorem dX11_pointAt_38 : decode cX11_pointAt 38 = .ok (.iload_n 2, 1) := by decide +kernel
theorem dX11_pointAt_39 : decode cX11_pointAt 39 = .ok (.invokevirtual 133, 3) := by decide +kernel
theorem dX11_pointAt_42 : decode cX11_pointAt 42 = .ok (.istore 5, 2) := by decide +kernel
theorem dX11_pointAt_44 : decode cX11_pointAt 44 = .ok (.iload 5, 2) := by decide +kernel
theorem dX11_pointAt_46 : decode cX11_pointAt 46 = .ok (.iconst (-1), 1) := by decide +kernel
theorem dX11_pointAt_47 : decode cX11_pointAt 47 = .ok (.if_icmp .ne 32, 3) := by decide +kernel
theorem dX11_pointAt_50 : decode cX11_pointAt 50 = .ok (.bipush 64, 2) := by decide +kernel
theorem dX11_pointAt_52 : decode cX11_pointAt 52 = .ok (.iload_n 3, 1) := by decide +kernel
theorem dX11_pointAt_53 : decode cX11_pointAt 53 = .ok (.ifCond .eq 15, 3) := by decide +kernel
theorem dX11_pointAt_56 : decode cX11_pointAt 56 = .ok (.aload_n 0, 1) := by decide +kernel
theorem dX11_pointAt_57 : decode cX11_pointAt 57 = .ok (.getfield 12, 3) := by decide +kernel
theorem dX11_pointAt_60 : decode cX11_pointAt 60 = .ok (.iload_n 1, 1) := by decide +kernel
theorem dX11_pointAt_61 : decode cX11_pointAt 61 = .ok (.iconst 0, 1) := by decide +kernel
theorem dX11_pointAt_62 : decode cX11_pointAt 62 = .ok (.invokevirtual 124, 3) := by decide +kernel
theorem dX11_pointAt_65 : decode cX11_pointAt 65 = .ok (.goto 12, 3) := by decide +kernel
theorem dX11_pointAt_68 : decode cX11_pointAt 68 = .ok (.aload_n 0, 1) := by decide +kernel
theorem dX11_pointAt_69 : decode cX11_pointAt 69 = .ok (.getfield 12, 3) := by decide +kernel
theorem dX11_pointAt_72 : decode cX11_pointAt 72 = .ok (.iload_n 1, 1) := by decide +kernel
theorem dX11_pointAt_73 : decode cX11_pointAt 73 = .ok (.iconst 0, 1) := by decide +kernel
theorem dX11_pointAt_74 : decode cX11_pointAt 74 = .ok (.invokevirtual 127, 3) := by decide +kernel
theorem dX11_pointAt_77 : decode cX11_pointAt 77 = .ok (.imul, 1) := by decide +kernel
theorem dX11_pointAt_78 : decode cX11_pointAt 78 = .ok (.ireturn, 1) := by decide +kernel
theorem dX11_pointAt_79 : decode cX11_pointAt 79 = .ok (.iload_n 2, 1) := by decide +kernel
theorem dX11_pointAt_80 : decode cX11_pointAt 80 = .ok (.aload 4, 2) := by decide +kernel
theorem dX11_pointAt_82 : decode cX11_pointAt 82 = .ok (.iload_n 1, 1) := by decide +kernel
theorem dX11_pointAt_83 : decode cX11_pointAt 83 = .ok (.iload 5, 2) := by decide +kernel
theorem dX11_pointAt_85 : decode cX11_pointAt 85 = .ok (.invokevirtual 136, 3) := by decide +kernel
theorem dX11_pointAt_88 : decode cX11_pointAt 88 = .ok (.isub, 1) := by decide +kernel
theorem dX11_pointAt_89 : decode cX11_pointAt 89 = .ok (.istore 6, 2) := by decide +kernel
theorem dX11_pointAt_91 : decode cX11_pointAt 91 = .ok (.iload_n 3, 1) := by decide +kernel
theorem dX11_pointAt_92 : decode cX11_pointAt 92 = .ok (.ifCond .eq 15, 3) := by decide +kernel
theorem dX11_pointAt_95 : decode cX11_pointAt 95 = .ok (.aload 4, 2) := by decide +kernel
theorem dX11_pointAt_97 : decode cX11_pointAt 97 = .ok (.iload 5, 2) := by decide +kernel
theorem dX11_pointAt_99 : decode cX11_pointAt 99 = .ok (.iload 6, 2) := by decide +kernel
theorem dX11_pointAt_101 : decode cX11_pointAt 101 = .ok (.invokevirtual 139, 3) := by decide +kernel
theorem dX11_pointAt_104 : decode cX11_pointAt 104 = .ok (.goto 12, 3) := by decide +kernel
theorem dX11_pointAt_107 : decode cX11_pointAt 107 = .ok (.aload 4, 2) := by decide +kernel
theorem dX11_pointAt_109 : decode cX11_pointAt 109 = .ok (.iload 5, 2) := by decide +kernel
theorem dX11_pointAt_111 : decode cX11_pointAt 111 = .ok (.iload 6, 2) := by decide +kernel
theorem dX11_pointAt_113 : decode cX11_pointAt 113 = .ok (.invokevirtual 142, 3) := by decide +kernel
theorem dX11_pointAt_116 : decode cX11_pointAt 116 = .ok (.ireturn, 1) := by decide +kernel
theorem dX11_setStyle_0 : decode cX11_setStyle 0 = .ok (.iload_n 1, 1) := by decide +kernel
theorem dX11_setStyle_1 : decode cX11_setStyle 1 = .ok (.iconst 1, 1) := by decide +kernel
theorem dX11_setStyle_2 : decode cX11_setStyle 2 = .ok (.bipush 40, 2) := by decide +kernel
theorem dX11_setStyle_4 : decode cX11_setStyle 4 = .ok (.invokestatic 54, 3) := by decide +kernel
theorem dX11_setStyle_7 : decode cX11_setStyle 7 = .ok (.iload_n 2, 1) := by decide +kernel
theorem dX11_setStyle_8 : decode cX11_setStyle 8 = .ok (.iconst 0, 1) := by decide +kernel
theorem dX11_setStyle_9 : decode cX11_setStyle 9 = .ok (.iconst 2, 1) := by decide +kernel
theorem dX11_setStyle_10 : decode cX11_setStyle 10 = .ok (.invokestatic 54, 3) := by decide +kernel
theorem dX11_setStyle_13 : decode cX11_setStyle 13 = .ok (.iload_n 3, 1) := by decide +kernel
theorem dX11_setStyle_14 : decode cX11_setStyle 14 = .ok (.iconst 1, 1) := by decide +kernel
theorem dX11_setStyle_15 : decode cX11_setStyle 15 = .ok (.bipush 10, 2) := by decide +kernel
theorem dX11_setStyle_17 : decode cX11_setStyle 17 = .ok (.invokestatic 54, 3) := by decide +kernel
theorem dX11_setStyle_20 : decode cX11_setStyle 20 = .ok (.iload 4, 2) := by decide +kernel
theorem dX11_setStyle_22 : decode cX11_setStyle 22 = .ok (.iconst 0, 1) := by decide +kernel
theorem dX11_setStyle_23 : decode cX11_setStyle 23 = .ok (.iconst 2, 1) := by decide +kernel
theorem dX11_setStyle_24 : decode cX11_setStyle 24 = .ok (.invokestatic 54, 3) := by decide +kernel
theorem dX11_setStyle_27 : decode cX11_setStyle 27 = .ok (.aload_n 0, 1) := by decide +kernel
theorem dX11_setStyle_28 : decode cX11_setStyle 28 = .ok (.invokevirtual 66, 3) := by decide +kernel
theorem dX11_setStyle_31 : decode cX11_setStyle 31 = .ok (.aload_n 0, 1) := by decide +kernel
theorem dX11_setStyle_32 : decode cX11_setStyle 32 = .ok (.getfield 12, 3) := by decide +kernel
theorem dX11_setStyle_35 : decode cX11_setStyle 35 = .ok (.iconst 0, 1) := by decide +kernel
theorem dX11_setStyle_36 : decode cX11_setStyle 36 = .ok (.invokevirtual 145, 3) := by decide +kernel
theorem dX11_setStyle_39 : decode cX11_setStyle 39 = .ok (.istore 5, 2) := by decide +kernel
theorem dX11_setStyle_41 : decode cX11_setStyle 41 = .ok (.aload_n 0, 1) := by decide +kernel
theorem dX11_setStyle_42 : decode cX11_setStyle 42 = .ok (.getfield 12, 3) := by decide +kernel
theorem dX11_setStyle_45 : decode cX11_setStyle 45 = .ok (.iconst 0, 1) := by decide +kernel
theorem dX11_setStyle_46 : decode cX11_setStyle 46 = .ok (.iload_n 1, 1) := by decide +kernel
theorem dX11_setStyle_47 : decode cX11_setStyle 47 = .ok (.invokevirtual 148, 3) := by decide +kernel
theorem dX11_setStyle_50 : decode cX11_setStyle 50 = .ok (.aload_n 0, 1) := by decide +kernel
theorem dX11_setStyle_51 : decode cX11_setStyle 51 = .ok (.getfield 12, 3) := by decide +kernel
theorem dX11_setStyle_54 : decode cX11_setStyle 54 = .ok (.iconst 1, 1) := by decide +kernel
theorem dX11_setStyle_55 : decode cX11_setStyle 55 = .ok (.iload_n 2, 1) := by decide +kernel
theorem dX11_setStyle_56 : decode cX11_setStyle 56 = .ok (.invokevirtual 148, 3) := by decide +kernel
theorem dX11_setStyle_59 : decode cX11_setStyle 59 = .ok (.aload_n 0, 1) := by decide +kernel
theorem dX11_setStyle_60 : decode cX11_setStyle 60 = .ok (.getfield 12, 3) := by decide +kernel
theorem dX11_setStyle_63 : decode cX11_setStyle 63 = .ok (.iconst 2, 1) := by decide +kernel
theorem dX11_setStyle_64 : decode cX11_setStyle 64 = .ok (.iload_n 3, 1) := by decide +kernel
theorem dX11_setStyle_65 : decode cX11_setStyle 65 = .ok (.invokevirtual 148, 3) := by decide +kernel
theorem dX11_setStyle_68 : decode cX11_setStyle 68 = .ok (.aload_n 0, 1) := by decide +kernel
theorem dX11_setStyle_69 : decode cX11_setStyle 69 = .ok (.getfield 12, 3) := by decide +kernel
theorem dX11_setStyle_72 : decode cX11_setStyle 72 = .ok (.iconst 3, 1) := by decide +kernel
theorem dX11_setStyle_73 : decode cX11_setStyle 73 = .ok (.iload 4, 2) := by decide +kernel
theorem dX11_setStyle_75 : decode cX11_setStyle 75 = .ok (.invokevirtual 148, 3) := by decide +kernel
theorem dX11_setStyle_78 : decode cX11_setStyle 78 = .ok (.iload 5, 2) := by decide +kernel
theorem dX11_setStyle_80 : decode cX11_setStyle 80 = .ok (.ireturn, 1) := by decide +kernel
theorem dX11_setDashes_0 : decode cX11_setDashes 0 = .ok (.iload_n 1, 1) := by decide +kernel
theorem dX11_setDashes_1 : decode cX11_setDashes 1 = .ok (.iconst 0, 1) := by decide +kernel
theorem dX11_setDashes_2 : decode cX11_setDashes 2 = .ok (.sipush 600, 3) := by decide +kernel
theorem dX11_setDashes_5 : decode cX11_setDashes 5 = .ok (.invokestatic 54, 3) := by decide +kernel
theorem dX11_setDashes_8 : decode cX11_setDashes 8 = .ok (.aload_n 0, 1) := by decide +kernel
theorem dX11_setDashes_9 : decode cX11_setDashes 9 = .ok (.invokevirtual 66, 3) := by decide +kernel
theorem dX11_setDashes_12 : decode cX11_setDashes 12 = .ok (.aload_n 0, 1) := by decide +kernel
theorem dX11_setDashes_13 : decode cX11_setDashes 13 = .ok (.getfield 12, 3) := by decide +kernel
theorem dX11_setDashes_16 : decode cX11_setDashes 16 = .ok (.bipush 6, 2) := by decide +kernel
theorem dX11_setDashes_18 : decode cX11_setDashes 18 = .ok (.invokevirtual 145, 3) := by decide +kernel
theorem dX11_setDashes_21 : decode cX11_setDashes 21 = .ok (.istore_n 3, 1) := by decide +kernel
theorem dX11_setDashes_22 : decode cX11_setDashes 22 = .ok (.aload_n 0, 1) := by decide +kernel
theorem dX11_setDashes_23 : decode cX11_setDashes 23 = .ok (.getfield 12, 3) := by decide +kernel
theorem dX11_setDashes_26 : decode cX11_setDashes 26 = .ok (.iconst 4, 1) := by decide +kernel
theorem dX11_setDashes_27 : decode cX11_setDashes 27 = .ok (.iload_n 1, 1) := by decide +kernel
theorem dX11_setDashes_28 : decode cX11_setDashes 28 = .ok (.invokevirtual 148, 3) := by decide +kernel
theorem dX11_setDashes_31 : decode cX11_setDashes 31 = .ok (.aload_n 0, 1) := by decide +kernel
theorem dX11_setDashes_32 : decode cX11_setDashes 32 = .ok (.getfield 12, 3) := by decide +kernel
theorem dX11_setDashes_35 : decode cX11_setDashes 35 = .ok (.iconst 5, 1) := by decide +kernel
theorem dX11_setDashes_36 : decode cX11_setDashes 36 = .ok (.iload_n 2, 1) := by decide +kernel
theorem dX11_setDashes_37 : decode cX11_setDashes 37 = .ok (.ifCond .eq 7, 3) := by decide +kernel
theorem dX11_setDashes_40 : decode cX11_setDashes 40 = .ok (.iconst 1, 1) := by decide +kernel
theorem dX11_setDashes_41 : decode cX11_setDashes 41 = .ok (.goto 4, 3) := by decide +kernel
theorem dX11_setDashes_44 : decode cX11_setDashes 44 = .ok (.iconst 0, 1) := by decide +kernel
theorem dX11_setDashes_45 : decode cX11_setDashes 45 = .ok (.invokevirtual 148, 3) := by decide +kernel
theorem dX11_setDashes_48 : decode cX11_setDashes 48 = .ok (.aload_n 0, 1) := by decide +kernel
theorem dX11_setDashes_49 : decode cX11_setDashes 49 = .ok (.getfield 12, 3) := by decide +kernel
theorem dX11_setDashes_52 : decode cX11_setDashes 52 = .ok (.bipush 6, 2) := by decide +kernel
theorem dX11_setDashes_54 : decode cX11_setDashes 54 = .ok (.iconst 0, 1) := by decide +kernel
theorem dX11_setDashes_55 : decode cX11_setDashes 55 = .ok (.invokevirtual 148, 3) := by decide +kernel
theorem dX11_setDashes_58 : decode cX11_setDashes 58 = .ok (.iload_n 3, 1) := by decide +kernel
theorem dX11_setDashes_59 : decode cX11_setDashes 59 = .ok (.ireturn, 1) := by decide +kernel
theorem dX11_addDash_0 : decode cX11_addDash 0 = .ok (.iload_n 1, 1) := by decide +kernel
theorem dX11_addDash_1 : decode cX11_addDash 1 = .ok (.iconst 5, 1) := by decide +kernel
theorem dX11_addDash_2 : decode cX11_addDash 2 = .ok (.bipush 100, 2) := by decide +kernel
theorem dX11_addDash_4 : decode cX11_addDash 4 = .ok (.invokestatic 54, 3) := by decide +kernel
theorem dX11_addDash_7 : decode cX11_addDash 7 = .ok (.aload_n 0, 1) := by decide +kernel
theorem dX11_addDash_8 : decode cX11_addDash 8 = .ok (.getfield 12, 3) := by decide +kernel
theorem dX11_addDash_11 : decode cX11_addDash 11 = .ok (.bipush 6, 2) := by decide +kernel
theorem dX11_addDash_13 : decode cX11_addDash 13 = .ok (.invokevirtual 145, 3) := by decide +kernel
theorem dX11_addDash_16 : decode cX11_addDash 16 = .ok (.istore_n 2, 1) := by decide +kernel
theorem dX11_addDash_17 : decode cX11_addDash 17 = .ok (.iload_n 2, 1) := by decide +kernel
theorem dX11_addDash_18 : decode cX11_addDash 18 = .ok (.bipush 6, 2) := by decide +kernel
theorem dX11_addDash_20 : decode cX11_addDash 20 = .ok (.if_icmp .ge 7, 3) := by decide +kernel
theorem dX11_addDash_23 : decode cX11_addDash 23 = .ok (.iconst 1, 1) := by decide +kernel
theorem dX11_addDash_24 : decode cX11_addDash 24 = .ok (.goto 4, 3) := by decide +kernel
theorem dX11_addDash_27 : decode cX11_addDash 27 = .ok (.iconst 0, 1) := by decide +kernel
theorem dX11_addDash_28 : decode cX11_addDash 28 = .ok (.invokestatic 62, 3) := by decide +kernel
theorem dX11_addDash_31 : decode cX11_addDash 31 = .ok (.aload_n 0, 1) := by decide +kernel
theorem dX11_addDash_32 : decode cX11_addDash 32 = .ok (.invokevirtual 66, 3) := by decide +kernel
theorem dX11_addDash_35 : decode cX11_addDash 35 = .ok (.aload_n 0, 1) := by decide +kernel
theorem dX11_addDash_36 : decode cX11_addDash 36 = .ok (.getfield 12, 3) := by decide +kernel
theorem dX11_addDash_39 : decode cX11_addDash 39 = .ok (.bipush 7, 2) := by decide +kernel
theorem dX11_addDash_41 : decode cX11_addDash 41 = .ok (.iload_n 2, 1) := by decide +kernel
theorem dX11_addDash_42 : decode cX11_addDash 42 = .ok (.iadd, 1) := by decide +kernel
theorem dX11_addDash_43 : decode cX11_addDash 43 = .ok (.iload_n 1, 1) := by decide +kernel
theorem dX11_addDash_44 : decode cX11_addDash 44 = .ok (.invokevirtual 148, 3) := by decide +kernel
theorem dX11_addDash_47 : decode cX11_addDash 47 = .ok (.aload_n 0, 1) := by decide +kernel
theorem dX11_addDash_48 : decode cX11_addDash 48 = .ok (.getfield 12, 3) := by decide +kernel
theorem dX11_addDash_51 : decode cX11_addDash 51 = .ok (.bipush 6, 2) := by decide +kernel
theorem dX11_addDash_53 : decode cX11_addDash 53 = .ok (.iload_n 2, 1) := by decide +kernel
theorem dX11_addDash_54 : decode cX11_addDash 54 = .ok (.iconst 1, 1) := by decide +kernel
theorem dX11_addDash_55 : decode cX11_addDash 55 = .ok (.iadd, 1) := by decide +kernel
theorem dX11_addDash_56 : decode cX11_addDash 56 = .ok (.invokevirtual 148, 3) := by decide +kernel
theorem dX11_addDash_59 : decode cX11_addDash 59 = .ok (.iload_n 2, 1) := by decide +kernel
theorem dX11_addDash_60 : decode cX11_addDash 60 = .ok (.iconst 1, 1) := by decide +kernel
theorem dX11_addDash_61 : decode cX11_addDash 61 = .ok (.iadd, 1) := by decide +kernel
theorem dX11_addDash_62 : decode cX11_addDash 62 = .ok (.ireturn, 1) := by decide +kernel
theorem dX11_runs_0 : decode cX11_runs 0 = .ok (.iload_n 1, 1) := by decide +kernel
theorem dX11_runs_1 : decode cX11_runs 1 = .ok (.aload_n 0, 1) := by decide +kernel
theorem dX11_runs_2 : decode cX11_runs 2 = .ok (.getfield 12, 3) := by decide +kernel
theorem dX11_runs_5 : decode cX11_runs 5 = .ok (.invokevirtual 58, 3) := by decide +kernel
theorem dX11_runs_8 : decode cX11_runs 8 = .ok (.invokestatic 99, 3) := by decide +kernel
theorem dX11_runs_11 : decode cX11_runs 11 = .ok (.aload_n 0, 1) := by decide +kernel
theorem dX11_runs_12 : decode cX11_runs 12 = .ok (.getfield 43, 3) := by decide +kernel
theorem dX11_runs_15 : decode cX11_runs 15 = .ok (.aload_n 0, 1) := by decide +kernel
theorem dX11_runs_16 : decode cX11_runs 16 = .ok (.getfield 12, 3) := by decide +kernel
theorem dX11_runs_19 : decode cX11_runs 19 = .ok (.invokevirtual 151, 3) := by decide +kernel
theorem dX11_runs_22 : decode cX11_runs 22 = .ok (.iload_n 1, 1) := by decide +kernel
theorem dX11_runs_23 : decode cX11_runs 23 = .ok (.invokevirtual 155, 3) := by decide +kernel
theorem dX11_runs_26 : decode cX11_runs 26 = .ok (.ireturn, 1) := by decide +kernel
theorem dX11_run_0 : decode cX11_run 0 = .ok (.iload_n 1, 1) := by decide +kernel
theorem dX11_run_1 : decode cX11_run 1 = .ok (.aload_n 0, 1) := by decide +kernel
theorem dX11_run_2 : decode cX11_run 2 = .ok (.getfield 12, 3) := by decide +kernel
theorem dX11_run_5 : decode cX11_run 5 = .ok (.invokevirtual 58, 3) := by decide +kernel
theorem dX11_run_8 : decode cX11_run 8 = .ok (.invokestatic 99, 3) := by decide +kernel
theorem dX11_run_11 : decode cX11_run 11 = .ok (.aload_n 0, 1) := by decide +kernel
theorem dX11_run_12 : decode cX11_run 12 = .ok (.getfield 43, 3) := by decide +kernel
theorem dX11_run_15 : decode cX11_run 15 = .ok (.aload_n 0, 1) := by decide +kernel
theorem dX11_run_16 : decode cX11_run 16 = .ok (.getfield 12, 3) := by decide +kernel
theorem dX11_run_19 : decode cX11_run 19 = .ok (.invokevirtual 151, 3) := by decide +kernel
theorem dX11_run_22 : decode cX11_run 22 = .ok (.astore 4, 2) := by decide +kernel
theorem dX11_run_24 : decode cX11_run 24 = .ok (.iload_n 2, 1) := by decide +kernel
theorem dX11_run_25 : decode cX11_run 25 = .ok (.aload 4, 2) := by decide +kernel
theorem dX11_run_27 : decode cX11_run 27 = .ok (.iload_n 1, 1) := by decide +kernel
theorem dX11_run_28 : decode cX11_run 28 = .ok (.invokevirtual 155, 3) := by decide +kernel
theorem dX11_run_31 : decode cX11_run 31 = .ok (.invokestatic 99, 3) := by decide +kernel
theorem dX11_run_34 : decode cX11_run 34 = .ok (.iload_n 3, 1) := by decide +kernel
theorem dX11_run_35 : decode cX11_run 35 = .ok (.iconst 0, 1) := by decide +kernel
theorem dX11_run_36 : decode cX11_run 36 = .ok (.iconst 3, 1) := by decide +kernel
theorem dX11_run_37 : decode cX11_run 37 = .ok (.invokestatic 54, 3) := by decide +kernel
theorem dX11_run_40 : decode cX11_run 40 = .ok (.aload 4, 2) := by decide +kernel
theorem dX11_run_42 : decode cX11_run 42 = .ok (.aload 4, 2) := by decide +kernel
theorem dX11_run_44 : decode cX11_run 44 = .ok (.iload_n 1, 1) := by decide +kernel
theorem dX11_run_45 : decode cX11_run 45 = .ok (.invokevirtual 158, 3) := by decide +kernel
theorem dX11_run_48 : decode cX11_run 48 = .ok (.iload_n 2, 1) := by decide +kernel
theorem dX11_run_49 : decode cX11_run 49 = .ok (.iadd, 1) := by decide +kernel
theorem dX11_run_50 : decode cX11_run 50 = .ok (.iload_n 3, 1) := by decide +kernel
theorem dX11_run_51 : decode cX11_run 51 = .ok (.invokevirtual 161, 3) := by decide +kernel
theorem dX11_run_54 : decode cX11_run 54 = .ok (.ireturn, 1) := by decide +kernel
theorem dX11_dashed_0 : decode cX11_dashed 0 = .ok (.aload_n 0, 1) := by decide +kernel
theorem dX11_dashed_1 : decode cX11_dashed 1 = .ok (.getfield 43, 3) := by decide +kernel
theorem dX11_dashed_4 : decode cX11_dashed 4 = .ok (.aload_n 0, 1) := by decide +kernel
theorem dX11_dashed_5 : decode cX11_dashed 5 = .ok (.getfield 12, 3) := by decide +kernel
theorem dX11_dashed_8 : decode cX11_dashed 8 = .ok (.invokevirtual 151, 3) := by decide +kernel
theorem dX11_dashed_11 : decode cX11_dashed 11 = .ok (.invokevirtual 164, 3) := by decide +kernel
theorem dX11_dashed_14 : decode cX11_dashed 14 = .ok (.istore_n 2, 1) := by decide +kernel
theorem dX11_dashed_15 : decode cX11_dashed 15 = .ok (.iload_n 1, 1) := by decide +kernel
theorem dX11_dashed_16 : decode cX11_dashed 16 = .ok (.ifCond .eq 7, 3) := by decide +kernel
theorem dX11_dashed_19 : decode cX11_dashed 19 = .ok (.iload_n 2, 1) := by decide +kernel
theorem dX11_dashed_20 : decode cX11_dashed 20 = .ok (.goto 19, 3) := by decide +kernel
theorem dX11_dashed_23 : decode cX11_dashed 23 = .ok (.aload_n 0, 1) := by decide +kernel
theorem dX11_dashed_24 : decode cX11_dashed 24 = .ok (.getfield 43, 3) := by decide +kernel
theorem dX11_dashed_27 : decode cX11_dashed 27 = .ok (.aload_n 0, 1) := by decide +kernel
theorem dX11_dashed_28 : decode cX11_dashed 28 = .ok (.getfield 12, 3) := by decide +kernel
theorem dX11_dashed_31 : decode cX11_dashed 31 = .ok (.invokevirtual 90, 3) := by decide +kernel
theorem dX11_dashed_34 : decode cX11_dashed 34 = .ok (.invokevirtual 167, 3) := by decide +kernel
theorem dX11_dashed_37 : decode cX11_dashed 37 = .ok (.iload_n 2, 1) := by decide +kernel
theorem dX11_dashed_38 : decode cX11_dashed 38 = .ok (.isub, 1) := by decide +kernel
theorem dX11_dashed_39 : decode cX11_dashed 39 = .ok (.ireturn, 1) := by decide +kernel
theorem dX11_pieces_0 : decode cX11_pieces 0 = .ok (.iload_n 1, 1) := by decide +kernel
theorem dX11_pieces_1 : decode cX11_pieces 1 = .ok (.iconst (-1), 1) := by decide +kernel
theorem dX11_pieces_2 : decode cX11_pieces 2 = .ok (.iconst 4, 1) := by decide +kernel
theorem dX11_pieces_3 : decode cX11_pieces 3 = .ok (.invokestatic 54, 3) := by decide +kernel
theorem dX11_pieces_6 : decode cX11_pieces 6 = .ok (.aload_n 0, 1) := by decide +kernel
theorem dX11_pieces_7 : decode cX11_pieces 7 = .ok (.getfield 43, 3) := by decide +kernel
theorem dX11_pieces_10 : decode cX11_pieces 10 = .ok (.aload_n 0, 1) := by decide +kernel
theorem dX11_pieces_11 : decode cX11_pieces 11 = .ok (.getfield 12, 3) := by decide +kernel
theorem dX11_pieces_14 : decode cX11_pieces 14 = .ok (.invokevirtual 170, 3) := by decide +kernel
theorem dX11_pieces_17 : decode cX11_pieces 17 = .ok (.astore_n 2, 1) := by decide +kernel
theorem dX11_pieces_18 : decode cX11_pieces 18 = .ok (.iload_n 1, 1) := by decide +kernel
theorem dX11_pieces_19 : decode cX11_pieces 19 = .ok (.iconst (-1), 1) := by decide +kernel
theorem dX11_pieces_20 : decode cX11_pieces 20 = .ok (.if_icmp .ne 10, 3) := by decide +kernel
theorem dX11_pieces_23 : decode cX11_pieces 23 = .ok (.aload_n 2, 1) := by decide +kernel
theorem dX11_pieces_24 : decode cX11_pieces 24 = .ok (.invokevirtual 174, 3) := by decide +kernel
theorem dX11_pieces_27 : decode cX11_pieces 27 = .ok (.goto 8, 3) := by decide +kernel
theorem dX11_pieces_30 : decode cX11_pieces 30 = .ok (.aload_n 2, 1) := by decide +kernel
theorem dX11_pieces_31 : decode cX11_pieces 31 = .ok (.iload_n 1, 1) := by decide +kernel
theorem dX11_pieces_32 : decode cX11_pieces 32 = .ok (.invokevirtual 177, 3) := by decide +kernel
theorem dX11_pieces_35 : decode cX11_pieces 35 = .ok (.ireturn, 1) := by decide +kernel
theorem dX11_piece_0 : decode cX11_piece 0 = .ok (.aload_n 0, 1) := by decide +kernel
theorem dX11_piece_1 : decode cX11_piece 1 = .ok (.getfield 43, 3) := by decide +kernel
theorem dX11_piece_4 : decode cX11_piece 4 = .ok (.aload_n 0, 1) := by decide +kernel
theorem dX11_piece_5 : decode cX11_piece 5 = .ok (.getfield 12, 3) := by decide +kernel
theorem dX11_piece_8 : decode cX11_piece 8 = .ok (.invokevirtual 170, 3) := by decide +kernel
theorem dX11_piece_11 : decode cX11_piece 11 = .ok (.astore_n 3, 1) := by decide +kernel
theorem dX11_piece_12 : decode cX11_piece 12 = .ok (.iload_n 1, 1) := by decide +kernel
theorem dX11_piece_13 : decode cX11_piece 13 = .ok (.aload_n 3, 1) := by decide +kernel
theorem dX11_piece_14 : decode cX11_piece 14 = .ok (.invokevirtual 174, 3) := by decide +kernel
theorem dX11_piece_17 : decode cX11_piece 17 = .ok (.invokestatic 99, 3) := by decide +kernel
theorem dX11_piece_20 : decode cX11_piece 20 = .ok (.iload_n 2, 1) := by decide +kernel
theorem dX11_piece_21 : decode cX11_piece 21 = .ok (.iconst 0, 1) := by decide +kernel
theorem dX11_piece_22 : decode cX11_piece 22 = .ok (.iconst 2, 1) := by decide +kernel
theorem dX11_piece_23 : decode cX11_piece 23 = .ok (.invokestatic 54, 3) := by decide +kernel
theorem dX11_piece_26 : decode cX11_piece 26 = .ok (.iload_n 2, 1) := by decide +kernel
theorem dX11_piece_27 : decode cX11_piece 27 = .ok (.ifCond .ne 10, 3) := by decide +kernel
theorem dX11_piece_30 : decode cX11_piece 30 = .ok (.aload_n 3, 1) := by decide +kernel
theorem dX11_piece_31 : decode cX11_piece 31 = .ok (.iload_n 1, 1) := by decide +kernel
theorem dX11_piece_32 : decode cX11_piece 32 = .ok (.invokevirtual 178, 3) := by decide +kernel
theorem dX11_piece_35 : decode cX11_piece 35 = .ok (.i2l, 1) := by decide +kernel
theorem dX11_piece_36 : decode cX11_piece 36 = .ok (.lreturn, 1) := by decide +kernel
theorem dX11_piece_37 : decode cX11_piece 37 = .ok (.iload_n 2, 1) := by decide +kernel
theorem dX11_piece_38 : decode cX11_piece 38 = .ok (.iconst 1, 1) := by decide +kernel
theorem dX11_piece_39 : decode cX11_piece 39 = .ok (.if_icmp .ne 12, 3) := by decide +kernel
theorem dX11_piece_42 : decode cX11_piece 42 = .ok (.aload_n 3, 1) := by decide +kernel
theorem dX11_piece_43 : decode cX11_piece 43 = .ok (.iload_n 1, 1) := by decide +kernel
theorem dX11_piece_44 : decode cX11_piece 44 = .ok (.invokevirtual 181, 3) := by decide +kernel
theorem dX11_piece_47 : decode cX11_piece 47 = .ok (.i2l, 1) := by decide +kernel
theorem dX11_piece_48 : decode cX11_piece 48 = .ok (.goto 8, 3) := by decide +kernel
theorem dX11_piece_51 : decode cX11_piece 51 = .ok (.aload_n 3, 1) := by decide +kernel
theorem dX11_piece_52 : decode cX11_piece 52 = .ok (.iload_n 1, 1) := by decide +kernel
theorem dX11_piece_53 : decode cX11_piece 53 = .ok (.invokevirtual 184, 3) := by decide +kernel
theorem dX11_piece_56 : decode cX11_piece 56 = .ok (.lreturn, 1) := by decide +kernel
theorem dX11_corner_0 : decode cX11_corner 0 = .ok (.aload_n 0, 1) := by decide +kernel
theorem dX11_corner_1 : decode cX11_corner 1 = .ok (.getfield 43, 3) := by decide +kernel
theorem dX11_corner_4 : decode cX11_corner 4 = .ok (.aload_n 0, 1) := by decide +kernel
theorem dX11_corner_5 : decode cX11_corner 5 = .ok (.getfield 12, 3) := by decide +kernel
theorem dX11_corner_8 : decode cX11_corner 8 = .ok (.invokevirtual 170, 3) := by decide +kernel
theorem dX11_corner_11 : decode cX11_corner 11 = .ok (.astore 4, 2) := by decide +kernel
theorem dX11_corner_13 : decode cX11_corner 13 = .ok (.iload_n 1, 1) := by decide +kernel
theorem dX11_corner_14 : decode cX11_corner 14 = .ok (.aload 4, 2) := by decide +kernel
theorem dX11_corner_16 : decode cX11_corner 16 = .ok (.invokevirtual 174, 3) := by decide +kernel
theorem dX11_corner_19 : decode cX11_corner 19 = .ok (.invokestatic 99, 3) := by decide +kernel
theorem dX11_corner_22 : decode cX11_corner 22 = .ok (.iload_n 2, 1) := by decide +kernel
theorem dX11_corner_23 : decode cX11_corner 23 = .ok (.aload 4, 2) := by decide +kernel
theorem dX11_corner_25 : decode cX11_corner 25 = .ok (.iload_n 1, 1) := by decide +kernel
theorem dX11_corner_26 : decode cX11_corner 26 = .ok (.invokevirtual 181, 3) := by decide +kernel
theorem dX11_corner_29 : decode cX11_corner 29 = .ok (.invokestatic 99, 3) := by decide +kernel
theorem dX11_corner_32 : decode cX11_corner 32 = .ok (.iload_n 3, 1) := by decide +kernel
theorem dX11_corner_33 : decode cX11_corner 33 = .ok (.ifCond .eq 13, 3) := by decide +kernel
theorem dX11_corner_36 : decode cX11_corner 36 = .ok (.aload 4, 2) := by decide +kernel
theorem dX11_corner_38 : decode cX11_corner 38 = .ok (.iload_n 1, 1) := by decide +kernel
theorem dX11_corner_39 : decode cX11_corner 39 = .ok (.iload_n 2, 1) := by decide +kernel
theorem dX11_corner_40 : decode cX11_corner 40 = .ok (.invokevirtual 188, 3) := by decide +kernel
theorem dX11_corner_43 : decode cX11_corner 43 = .ok (.goto 10, 3) := by decide +kernel
theorem dX11_corner_46 : decode cX11_corner 46 = .ok (.aload 4, 2) := by decide +kernel
theorem dX11_corner_48 : decode cX11_corner 48 = .ok (.iload_n 1, 1) := by decide +kernel
theorem dX11_corner_49 : decode cX11_corner 49 = .ok (.iload_n 2, 1) := by decide +kernel
theorem dX11_corner_50 : decode cX11_corner 50 = .ok (.invokevirtual 191, 3) := by decide +kernel
theorem dX11_corner_53 : decode cX11_corner 53 = .ok (.ireturn, 1) := by decide +kernel
theorem dX11_bounds_0 : decode cX11_bounds 0 = .ok (.iload_n 1, 1) := by decide +kernel
theorem dX11_bounds_1 : decode cX11_bounds 1 = .ok (.iconst 0, 1) := by decide +kernel
theorem dX11_bounds_2 : decode cX11_bounds 2 = .ok (.iconst 3, 1) := by decide +kernel
theorem dX11_bounds_3 : decode cX11_bounds 3 = .ok (.invokestatic 54, 3) := by decide +kernel
theorem dX11_bounds_6 : decode cX11_bounds 6 = .ok (.aload_n 0, 1) := by decide +kernel
theorem dX11_bounds_7 : decode cX11_bounds 7 = .ok (.getfield 43, 3) := by decide +kernel
theorem dX11_bounds_10 : decode cX11_bounds 10 = .ok (.aload_n 0, 1) := by decide +kernel
theorem dX11_bounds_11 : decode cX11_bounds 11 = .ok (.getfield 12, 3) := by decide +kernel
theorem dX11_bounds_14 : decode cX11_bounds 14 = .ok (.invokevirtual 170, 3) := by decide +kernel
theorem dX11_bounds_17 : decode cX11_bounds 17 = .ok (.astore_n 2, 1) := by decide +kernel
theorem dX11_bounds_18 : decode cX11_bounds 18 = .ok (.aload_n 2, 1) := by decide +kernel
theorem dX11_bounds_19 : decode cX11_bounds 19 = .ok (.invokevirtual 174, 3) := by decide +kernel
theorem dX11_bounds_22 : decode cX11_bounds 22 = .ok (.ifCond .le 7, 3) := by decide +kernel
theorem dX11_bounds_25 : decode cX11_bounds 25 = .ok (.iconst 1, 1) := by decide +kernel
theorem dX11_bounds_26 : decode cX11_bounds 26 = .ok (.goto 4, 3) := by decide +kernel
theorem dX11_bounds_29 : decode cX11_bounds 29 = .ok (.iconst 0, 1) := by decide +kernel
theorem dX11_bounds_30 : decode cX11_bounds 30 = .ok (.invokestatic 62, 3) := by decide +kernel
theorem dX11_bounds_33 : decode cX11_bounds 33 = .ok (.aload_n 2, 1) := by decide +kernel
theorem dX11_bounds_34 : decode cX11_bounds 34 = .ok (.iload_n 1, 1) := by decide +kernel
theorem dX11_bounds_35 : decode cX11_bounds 35 = .ok (.invokevirtual 194, 3) := by decide +kernel
theorem dX11_bounds_38 : decode cX11_bounds 38 = .ok (.ireturn, 1) := by decide +kernel
theorem dX11_covering_0 : decode cX11_covering 0 = .ok (.iload_n 1, 1) := by decide +kernel
theorem dX11_covering_1 : decode cX11_covering 1 = .ok (.sipush (-20000), 3) := by decide +kernel
theorem dX11_covering_4 : decode cX11_covering 4 = .ok (.sipush 20000, 3) := by decide +kernel
theorem dX11_covering_7 : decode cX11_covering 7 = .ok (.invokestatic 54, 3) := by decide +kernel
theorem dX11_covering_10 : decode cX11_covering 10 = .ok (.iload_n 2, 1) := by decide +kernel
theorem dX11_covering_11 : decode cX11_covering 11 = .ok (.sipush (-20000), 3) := by decide +kernel
theorem dX11_covering_14 : decode cX11_covering 14 = .ok (.sipush 20000, 3) := by decide +kernel
theorem dX11_covering_17 : decode cX11_covering 17 = .ok (.invokestatic 54, 3) := by decide +kernel
theorem dX11_covering_20 : decode cX11_covering 20 = .ok (.aload_n 0, 1) := by decide +kernel
theorem dX11_covering_21 : decode cX11_covering 21 = .ok (.getfield 43, 3) := by decide +kernel
theorem dX11_covering_24 : decode cX11_covering 24 = .ok (.aload_n 0, 1) := by decide +kernel
theorem dX11_covering_25 : decode cX11_covering 25 = .ok (.getfield 12, 3) := by decide +kernel
theorem dX11_covering_28 : decode cX11_covering 28 = .ok (.invokevirtual 170, 3) := by decide +kernel
theorem dX11_covering_31 : decode cX11_covering 31 = .ok (.iload_n 1, 1) := by decide +kernel
theorem dX11_covering_32 : decode cX11_covering 32 = .ok (.iload_n 2, 1) := by decide +kernel
theorem dX11_covering_33 : decode cX11_covering 33 = .ok (.invokevirtual 197, 3) := by decide +kernel
theorem dX11_covering_36 : decode cX11_covering 36 = .ok (.ireturn, 1) := by decide +kernel
theorem dX11_covered_0 : decode cX11_covered 0 = .ok (.iload_n 1, 1) := by decide +kernel
theorem dX11_covered_1 : decode cX11_covered 1 = .ok (.bipush (-100), 2) := by decide +kernel
theorem dX11_covered_3 : decode cX11_covered 3 = .ok (.bipush 100, 2) := by decide +kernel
theorem dX11_covered_5 : decode cX11_covered 5 = .ok (.invokestatic 54, 3) := by decide +kernel
theorem dX11_covered_8 : decode cX11_covered 8 = .ok (.iload_n 2, 1) := by decide +kernel
theorem dX11_covered_9 : decode cX11_covered 9 = .ok (.bipush (-100), 2) := by decide +kernel
theorem dX11_covered_11 : decode cX11_covered 11 = .ok (.bipush 100, 2) := by decide +kernel
theorem dX11_covered_13 : decode cX11_covered 13 = .ok (.invokestatic 54, 3) := by decide +kernel
theorem dX11_covered_16 : decode cX11_covered 16 = .ok (.iload_n 3, 1) := by decide +kernel
theorem dX11_covered_17 : decode cX11_covered 17 = .ok (.iconst 0, 1) := by decide +kernel
theorem dX11_covered_18 : decode cX11_covered 18 = .ok (.bipush 20, 2) := by decide +kernel
theorem dX11_covered_20 : decode cX11_covered 20 = .ok (.invokestatic 54, 3) := by decide +kernel
theorem dX11_covered_23 : decode cX11_covered 23 = .ok (.iload 4, 2) := by decide +kernel
theorem dX11_covered_25 : decode cX11_covered 25 = .ok (.iconst 0, 1) := by decide +kernel
theorem dX11_covered_26 : decode cX11_covered 26 = .ok (.bipush 20, 2) := by decide +kernel
theorem dX11_covered_28 : decode cX11_covered 28 = .ok (.invokestatic 54, 3) := by decide +kernel
theorem dX11_covered_31 : decode cX11_covered 31 = .ok (.aload_n 0, 1) := by decide +kernel
theorem dX11_covered_32 : decode cX11_covered 32 = .ok (.getfield 50, 3) := by decide +kernel
theorem dX11_covered_35 : decode cX11_covered 35 = .ok (.aload_n 0, 1) := by decide +kernel
theorem dX11_covered_36 : decode cX11_covered 36 = .ok (.getfield 43, 3) := by decide +kernel
theorem dX11_covered_39 : decode cX11_covered 39 = .ok (.aload_n 0, 1) := by decide +kernel
theorem dX11_covered_40 : decode cX11_covered 40 = .ok (.getfield 12, 3) := by decide +kernel
theorem dX11_covered_43 : decode cX11_covered 43 = .ok (.invokevirtual 170, 3) := by decide +kernel
theorem dX11_covered_46 : decode cX11_covered 46 = .ok (.iload_n 1, 1) := by decide +kernel
theorem dX11_covered_47 : decode cX11_covered 47 = .ok (.iload_n 2, 1) := by decide +kernel
theorem dX11_covered_48 : decode cX11_covered 48 = .ok (.iload_n 3, 1) := by decide +kernel
theorem dX11_covered_49 : decode cX11_covered 49 = .ok (.iload 4, 2) := by decide +kernel
theorem dX11_covered_51 : decode cX11_covered 51 = .ok (.invokevirtual 200, 3) := by decide +kernel
theorem dX11_covered_54 : decode cX11_covered 54 = .ok (.ireturn, 1) := by decide +kernel
theorem dX11_nearest_0 : decode cX11_nearest 0 = .ok (.iload_n 1, 1) := by decide +kernel
theorem dX11_nearest_1 : decode cX11_nearest 1 = .ok (.bipush (-100), 2) := by decide +kernel
theorem dX11_nearest_3 : decode cX11_nearest 3 = .ok (.bipush 100, 2) := by decide +kernel
theorem dX11_nearest_5 : decode cX11_nearest 5 = .ok (.invokestatic 54, 3) := by decide +kernel
theorem dX11_nearest_8 : decode cX11_nearest 8 = .ok (.iload_n 2, 1) := by decide +kernel
theorem dX11_nearest_9 : decode cX11_nearest 9 = .ok (.bipush (-100), 2) := by decide +kernel
theorem dX11_nearest_11 : decode cX11_nearest 11 = .ok (.bipush 100, 2) := by decide +kernel
theorem dX11_nearest_13 : decode cX11_nearest 13 = .ok (.invokestatic 54, 3) := by decide +kernel
theorem dX11_nearest_16 : decode cX11_nearest 16 = .ok (.aload_n 0, 1) := by decide +kernel
theorem dX11_nearest_17 : decode cX11_nearest 17 = .ok (.getfield 12, 3) := by decide +kernel
theorem dX11_nearest_20 : decode cX11_nearest 20 = .ok (.iload_n 1, 1) := by decide +kernel
theorem dX11_nearest_21 : decode cX11_nearest 21 = .ok (.iload_n 2, 1) := by decide +kernel
theorem dX11_nearest_22 : decode cX11_nearest 22 = .ok (.invokevirtual 204, 3) := by decide +kernel
theorem dX11_nearest_25 : decode cX11_nearest 25 = .ok (.ireturn, 1) := by decide +kernel
theorem dX11_append_0 : decode cX11_append 0 = .ok (.iload_n 1, 1) := by decide +kernel
theorem dX11_append_1 : decode cX11_append 1 = .ok (.iconst 0, 1) := by decide +kernel
theorem dX11_append_2 : decode cX11_append 2 = .ok (.bipush 127, 2) := by decide +kernel
theorem dX11_append_4 : decode cX11_append 4 = .ok (.invokestatic 54, 3) := by decide +kernel
theorem dX11_append_7 : decode cX11_append 7 = .ok (.aload_n 0, 1) := by decide +kernel
theorem dX11_append_8 : decode cX11_append 8 = .ok (.getfield 29, 3) := by decide +kernel
theorem dX11_append_11 : decode cX11_append 11 = .ok (.invokevirtual 207, 3) := by decide +kernel
theorem dX11_append_14 : decode cX11_append 14 = .ok (.ifCond .ne 7, 3) := by decide +kernel
theorem dX11_append_17 : decode cX11_append 17 = .ok (.iconst 1, 1) := by decide +kernel
theorem dX11_append_18 : decode cX11_append 18 = .ok (.goto 4, 3) := by decide +kernel
theorem dX11_append_21 : decode cX11_append 21 = .ok (.iconst 0, 1) := by decide +kernel
theorem dX11_append_22 : decode cX11_append 22 = .ok (.invokestatic 62, 3) := by decide +kernel
theorem dX11_append_25 : decode cX11_append 25 = .ok (.aload_n 0, 1) := by decide +kernel
theorem dX11_append_26 : decode cX11_append 26 = .ok (.getfield 29, 3) := by decide +kernel
theorem dX11_append_29 : decode cX11_append 29 = .ok (.iload_n 1, 1) := by decide +kernel
theorem dX11_append_30 : decode cX11_append 30 = .ok (.invokevirtual 211, 3) := by decide +kernel
theorem dX11_append_33 : decode cX11_append 33 = .ok (.aload_n 0, 1) := by decide +kernel
theorem dX11_append_34 : decode cX11_append 34 = .ok (.getfield 29, 3) := by decide +kernel
theorem dX11_append_37 : decode cX11_append 37 = .ok (.invokevirtual 214, 3) := by decide +kernel
theorem dX11_append_40 : decode cX11_append 40 = .ok (.ireturn, 1) := by decide +kernel
theorem dX11_clearText_0 : decode cX11_clearText 0 = .ok (.aload_n 0, 1) := by decide +kernel
theorem dX11_clearText_1 : decode cX11_clearText 1 = .ok (.getfield 29, 3) := by decide +kernel
theorem dX11_clearText_4 : decode cX11_clearText 4 = .ok (.invokevirtual 214, 3) := by decide +kernel
theorem dX11_clearText_7 : decode cX11_clearText 7 = .ok (.istore_n 1, 1) := by decide +kernel
theorem dX11_clearText_8 : decode cX11_clearText 8 = .ok (.aload_n 0, 1) := by decide +kernel
theorem dX11_clearText_9 : decode cX11_clearText 9 = .ok (.getfield 29, 3) := by decide +kernel
theorem dX11_clearText_12 : decode cX11_clearText 12 = .ok (.invokevirtual 217, 3) := by decide +kernel
theorem dX11_clearText_15 : decode cX11_clearText 15 = .ok (.iload_n 1, 1) := by decide +kernel
theorem dX11_clearText_16 : decode cX11_clearText 16 = .ok (.ireturn, 1) := by decide +kernel
theorem dX11_parse_0 : decode cX11_parse 0 = .ok (.aload_n 0, 1) := by decide +kernel
theorem dX11_parse_1 : decode cX11_parse 1 = .ok (.getfield 29, 3) := by decide +kernel
theorem dX11_parse_4 : decode cX11_parse 4 = .ok (.aload_n 0, 1) := by decide +kernel
theorem dX11_parse_5 : decode cX11_parse 5 = .ok (.getfield 16, 3) := by decide +kernel
theorem dX11_parse_8 : decode cX11_parse 8 = .ok (.invokevirtual 220, 3) := by decide +kernel
theorem dX11_parse_11 : decode cX11_parse 11 = .ok (.istore_n 1, 1) := by decide +kernel
theorem dX11_parse_12 : decode cX11_parse 12 = .ok (.iload_n 1, 1) := by decide +kernel
theorem dX11_parse_13 : decode cX11_parse 13 = .ok (.iconst (-1), 1) := by decide +kernel
theorem dX11_parse_14 : decode cX11_parse 14 = .ok (.if_icmp .eq 8, 3) := by decide +kernel
theorem dX11_parse_17 : decode cX11_parse 17 = .ok (.bipush (-10), 2) := by decide +kernel
theorem dX11_parse_19 : decode cX11_parse 19 = .ok (.iload_n 1, 1) := by decide +kernel
theorem dX11_parse_20 : decode cX11_parse 20 = .ok (.isub, 1) := by decide +kernel
theorem dX11_parse_21 : decode cX11_parse 21 = .ok (.ireturn, 1) := by decide +kernel
theorem dX11_parse_22 : decode cX11_parse 22 = .ok (.aload_n 0, 1) := by decide +kernel
theorem dX11_parse_23 : decode cX11_parse 23 = .ok (.invokevirtual 66, 3) := by decide +kernel
theorem dX11_parse_26 : decode cX11_parse 26 = .ok (.aload_n 0, 1) := by decide +kernel
theorem dX11_parse_27 : decode cX11_parse 27 = .ok (.getfield 12, 3) := by decide +kernel
theorem dX11_parse_30 : decode cX11_parse 30 = .ok (.aload_n 0, 1) := by decide +kernel
theorem dX11_parse_31 : decode cX11_parse 31 = .ok (.getfield 16, 3) := by decide +kernel
theorem dX11_parse_34 : decode cX11_parse 34 = .ok (.invokevirtual 224, 3) := by decide +kernel
theorem dX11_parse_37 : decode cX11_parse 37 = .ok (.aload_n 0, 1) := by decide +kernel
theorem dX11_parse_38 : decode cX11_parse 38 = .ok (.getfield 12, 3) := by decide +kernel
theorem dX11_parse_41 : decode cX11_parse 41 = .ok (.invokevirtual 58, 3) := by decide +kernel
theorem dX11_parse_44 : decode cX11_parse 44 = .ok (.ireturn, 1) := by decide +kernel
theorem dX11_written_0 : decode cX11_written 0 = .ok (.iload_n 1, 1) := by decide +kernel
theorem dX11_written_1 : decode cX11_written 1 = .ok (.ifCond .ge 13, 3) := by decide +kernel
theorem dX11_written_4 : decode cX11_written 4 = .ok (.new 228, 3) := by decide +kernel
theorem dX11_written_7 : decode cX11_written 7 = .ok (.dup, 1) := by decide +kernel
theorem dX11_written_8 : decode cX11_written 8 = .ok (.ldc 230, 2) := by decide +kernel
theorem dX11_written_10 : decode cX11_written 10 = .ok (.invokespecial 232, 3) := by decide +kernel
theorem dX11_written_13 : decode cX11_written 13 = .ok (.athrow, 1) := by decide +kernel
theorem dX11_written_14 : decode cX11_written 14 = .ok (.aload_n 0, 1) := by decide +kernel
theorem dX11_written_15 : decode cX11_written 15 = .ok (.getfield 36, 3) := by decide +kernel
theorem dX11_written_18 : decode cX11_written 18 = .ok (.aload_n 0, 1) := by decide +kernel
theorem dX11_written_19 : decode cX11_written 19 = .ok (.getfield 12, 3) := by decide +kernel
theorem dX11_written_22 : decode cX11_written 22 = .ok (.iload_n 1, 1) := by decide +kernel
theorem dX11_written_23 : decode cX11_written 23 = .ok (.invokevirtual 235, 3) := by decide +kernel
theorem dX11_written_26 : decode cX11_written 26 = .ok (.ireturn, 1) := by decide +kernel
theorem dX11_undo_0 : decode cX11_undo 0 = .ok (.aload_n 0, 1) := by decide +kernel
theorem dX11_undo_1 : decode cX11_undo 1 = .ok (.getfield 22, 3) := by decide +kernel
theorem dX11_undo_4 : decode cX11_undo 4 = .ok (.invokevirtual 239, 3) := by decide +kernel
theorem dX11_undo_7 : decode cX11_undo 7 = .ok (.ifCond .le 7, 3) := by decide +kernel
theorem dX11_undo_10 : decode cX11_undo 10 = .ok (.iconst 1, 1) := by decide +kernel
theorem dX11_undo_11 : decode cX11_undo 11 = .ok (.goto 4, 3) := by decide +kernel
theorem dX11_undo_14 : decode cX11_undo 14 = .ok (.iconst 0, 1) := by decide +kernel
theorem dX11_undo_15 : decode cX11_undo 15 = .ok (.invokestatic 62, 3) := by decide +kernel
theorem dX11_undo_18 : decode cX11_undo 18 = .ok (.aload_n 0, 1) := by decide +kernel
theorem dX11_undo_19 : decode cX11_undo 19 = .ok (.getfield 43, 3) := by decide +kernel
theorem dX11_undo_22 : decode cX11_undo 22 = .ok (.invokevirtual 240, 3) := by decide +kernel
theorem dX11_undo_25 : decode cX11_undo 25 = .ok (.aload_n 0, 1) := by decide +kernel
theorem dX11_undo_26 : decode cX11_undo 26 = .ok (.getfield 22, 3) := by decide +kernel
theorem dX11_undo_29 : decode cX11_undo 29 = .ok (.aload_n 0, 1) := by decide +kernel
theorem dX11_undo_30 : decode cX11_undo 30 = .ok (.getfield 12, 3) := by decide +kernel
theorem dX11_undo_33 : decode cX11_undo 33 = .ok (.invokevirtual 243, 3) := by decide +kernel
theorem dX11_undo_36 : decode cX11_undo 36 = .ok (.aload_n 0, 1) := by decide +kernel
theorem dX11_undo_37 : decode cX11_undo 37 = .ok (.getfield 22, 3) := by decide +kernel
theorem dX11_undo_40 : decode cX11_undo 40 = .ok (.invokevirtual 239, 3) := by decide +kernel
theorem dX11_undo_43 : decode cX11_undo 43 = .ok (.ireturn, 1) := by decide +kernel
theorem dX11_digest_0 : decode cX11_digest 0 = .ok (.aload_n 0, 1) := by decide +kernel
theorem dX11_digest_1 : decode cX11_digest 1 = .ok (.getfield 43, 3) := by decide +kernel
theorem dX11_digest_4 : decode cX11_digest 4 = .ok (.aload_n 0, 1) := by decide +kernel
theorem dX11_digest_5 : decode cX11_digest 5 = .ok (.getfield 12, 3) := by decide +kernel
theorem dX11_digest_8 : decode cX11_digest 8 = .ok (.invokevirtual 170, 3) := by decide +kernel
theorem dX11_digest_11 : decode cX11_digest 11 = .ok (.astore_n 1, 1) := by decide +kernel
theorem dX11_digest_12 : decode cX11_digest 12 = .ok (.ldc2_w 246, 3) := by decide +kernel
theorem dX11_digest_15 : decode cX11_digest 15 = .ok (.aload_n 0, 1) := by decide +kernel
theorem dX11_digest_16 : decode cX11_digest 16 = .ok (.getfield 29, 3) := by decide +kernel
theorem dX11_digest_19 : decode cX11_digest 19 = .ok (.invokevirtual 214, 3) := by decide +kernel
theorem dX11_digest_22 : decode cX11_digest 22 = .ok (.i2l, 1) := by decide +kernel
theorem dX11_digest_23 : decode cX11_digest 23 = .ok (.invokestatic 248, 3) := by decide +kernel
theorem dX11_digest_26 : decode cX11_digest 26 = .ok (.lstore_n 2, 1) := by decide +kernel
theorem dX11_digest_27 : decode cX11_digest 27 = .ok (.aload_n 0, 1) := by decide +kernel
theorem dX11_digest_28 : decode cX11_digest 28 = .ok (.lload_n 2, 1) := by decide +kernel
theorem dX11_digest_29 : decode cX11_digest 29 = .ok (.invokevirtual 252, 3) := by decide +kernel
theorem dX11_digest_32 : decode cX11_digest 32 = .ok (.lstore_n 2, 1) := by decide +kernel
theorem dX11_digest_33 : decode cX11_digest 33 = .ok (.lload_n 2, 1) := by decide +kernel
theorem dX11_digest_34 : decode cX11_digest 34 = .ok (.aload_n 0, 1) := by decide +kernel
theorem dX11_digest_35 : decode cX11_digest 35 = .ok (.getfield 12, 3) := by decide +kernel
theorem dX11_digest_38 : decode cX11_digest 38 = .ok (.invokevirtual 58, 3) := by decide +kernel
theorem dX11_digest_41 : decode cX11_digest 41 = .ok (.i2l, 1) := by decide +kernel
theorem dX11_digest_42 : decode cX11_digest 42 = .ok (.invokestatic 248, 3) := by decide +kernel
theorem dX11_digest_45 : decode cX11_digest 45 = .ok (.lstore_n 2, 1) := by decide +kernel
theorem dX11_digest_46 : decode cX11_digest 46 = .ok (.iconst 0, 1) := by decide +kernel
theorem dX11_digest_47 : decode cX11_digest 47 = .ok (.istore 4, 2) := by decide +kernel
theorem dX11_digest_49 : decode cX11_digest 49 = .ok (.iload 4, 2) := by decide +kernel
theorem dX11_digest_51 : decode cX11_digest 51 = .ok (.aload_n 0, 1) := by decide +kernel
theorem dX11_digest_52 : decode cX11_digest 52 = .ok (.getfield 12, 3) := by decide +kernel
theorem dX11_digest_55 : decode cX11_digest 55 = .ok (.invokevirtual 58, 3) := by decide +kernel
theorem dX11_digest_58 : decode cX11_digest 58 = .ok (.if_icmp .ge 25, 3) := by decide +kernel
theorem dX11_digest_61 : decode cX11_digest 61 = .ok (.aload_n 0, 1) := by decide +kernel
theorem dX11_digest_62 : decode cX11_digest 62 = .ok (.lload_n 2, 1) := by decide +kernel
theorem dX11_digest_63 : decode cX11_digest 63 = .ok (.iload 4, 2) := by decide +kernel
theorem dX11_digest_65 : decode cX11_digest 65 = .ok (.invokevirtual 256, 3) := by decide +kernel
theorem dX11_digest_68 : decode cX11_digest 68 = .ok (.lstore_n 2, 1) := by decide +kernel
theorem dX11_digest_69 : decode cX11_digest 69 = .ok (.aload_n 0, 1) := by decide +kernel
theorem dX11_digest_70 : decode cX11_digest 70 = .ok (.lload_n 2, 1) := by decide +kernel
theorem dX11_digest_71 : decode cX11_digest 71 = .ok (.iload 4, 2) := by decide +kernel
theorem dX11_digest_73 : decode cX11_digest 73 = .ok (.invokevirtual 260, 3) := by decide +kernel
theorem dX11_digest_76 : decode cX11_digest 76 = .ok (.lstore_n 2, 1) := by decide +kernel
theorem dX11_digest_77 : decode cX11_digest 77 = .ok (.iinc 4 1, 3) := by decide +kernel
theorem dX11_digest_80 : decode cX11_digest 80 = .ok (.goto (-31), 3) := by decide +kernel
theorem dX11_digest_83 : decode cX11_digest 83 = .ok (.lload_n 2, 1) := by decide +kernel
theorem dX11_digest_84 : decode cX11_digest 84 = .ok (.aload_n 1, 1) := by decide +kernel
theorem dX11_digest_85 : decode cX11_digest 85 = .ok (.invokevirtual 174, 3) := by decide +kernel
theorem dX11_digest_88 : decode cX11_digest 88 = .ok (.i2l, 1) := by decide +kernel
theorem dX11_digest_89 : decode cX11_digest 89 = .ok (.invokestatic 248, 3) := by decide +kernel
theorem dX11_digest_92 : decode cX11_digest 92 = .ok (.lstore_n 2, 1) := by decide +kernel
theorem dX11_digest_93 : decode cX11_digest 93 = .ok (.iconst 0, 1) := by decide +kernel
theorem dX11_digest_94 : decode cX11_digest 94 = .ok (.istore 4, 2) := by decide +kernel
theorem dX11_digest_96 : decode cX11_digest 96 = .ok (.iload 4, 2) := by decide +kernel
theorem dX11_digest_98 : decode cX11_digest 98 = .ok (.aload_n 1, 1) := by decide +kernel
theorem dX11_digest_99 : decode cX11_digest 99 = .ok (.invokevirtual 174, 3) := by decide +kernel
theorem dX11_digest_102 : decode cX11_digest 102 = .ok (.if_icmp .ge 17, 3) := by decide +kernel
theorem dX11_digest_105 : decode cX11_digest 105 = .ok (.lload_n 2, 1) := by decide +kernel
theorem dX11_digest_106 : decode cX11_digest 106 = .ok (.aload_n 1, 1) := by decide +kernel
theorem dX11_digest_107 : decode cX11_digest 107 = .ok (.iload 4, 2) := by decide +kernel
theorem dX11_digest_109 : decode cX11_digest 109 = .ok (.invokestatic 263, 3) := by decide +kernel
theorem dX11_digest_112 : decode cX11_digest 112 = .ok (.lstore_n 2, 1) := by decide +kernel
theorem dX11_digest_113 : decode cX11_digest 113 = .ok (.iinc 4 1, 3) := by decide +kernel
theorem dX11_digest_116 : decode cX11_digest 116 = .ok (.goto (-20), 3) := by decide +kernel
theorem dX11_digest_119 : decode cX11_digest 119 = .ok (.lload_n 2, 1) := by decide +kernel
theorem dX11_digest_120 : decode cX11_digest 120 = .ok (.aload_n 0, 1) := by decide +kernel
theorem dX11_digest_121 : decode cX11_digest 121 = .ok (.getfield 22, 3) := by decide +kernel
theorem dX11_digest_124 : decode cX11_digest 124 = .ok (.invokevirtual 239, 3) := by decide +kernel
theorem dX11_digest_127 : decode cX11_digest 127 = .ok (.i2l, 1) := by decide +kernel
theorem dX11_digest_128 : decode cX11_digest 128 = .ok (.invokestatic 248, 3) := by decide +kernel
theorem dX11_digest_131 : decode cX11_digest 131 = .ok (.lreturn, 1) := by decide +kernel
theorem dX11_mix_0 : decode cX11_mix 0 = .ok (.ldc2_w 267, 3) := by decide +kernel
theorem dX11_mix_3 : decode cX11_mix 3 = .ok (.lload_n 0, 1) := by decide +kernel
theorem dX11_mix_4 : decode cX11_mix 4 = .ok (.lmul, 1) := by decide +kernel
theorem dX11_mix_5 : decode cX11_mix 5 = .ok (.lload_n 2, 1) := by decide +kernel
theorem dX11_mix_6 : decode cX11_mix 6 = .ok (.ladd, 1) := by decide +kernel
theorem dX11_mix_7 : decode cX11_mix 7 = .ok (.lreturn, 1) := by decide +kernel
theorem dX11_mixStyle_0 : decode cX11_mixStyle 0 = .ok (.lload_n 1, 1) := by decide +kernel
theorem dX11_mixStyle_1 : decode cX11_mixStyle 1 = .ok (.lstore_n 3, 1) := by decide +kernel
theorem dX11_mixStyle_2 : decode cX11_mixStyle 2 = .ok (.bipush 7, 2) := by decide +kernel
theorem dX11_mixStyle_4 : decode cX11_mixStyle 4 = .ok (.aload_n 0, 1) := by decide +kernel
theorem dX11_mixStyle_5 : decode cX11_mixStyle 5 = .ok (.getfield 12, 3) := by decide +kernel
theorem dX11_mixStyle_8 : decode cX11_mixStyle 8 = .ok (.bipush 6, 2) := by decide +kernel
theorem dX11_mixStyle_10 : decode cX11_mixStyle 10 = .ok (.invokevirtual 145, 3) := by decide +kernel
theorem dX11_mixStyle_13 : decode cX11_mixStyle 13 = .ok (.iadd, 1) := by decide +kernel
theorem dX11_mixStyle_14 : decode cX11_mixStyle 14 = .ok (.istore 5, 2) := by decide +kernel
theorem dX11_mixStyle_16 : decode cX11_mixStyle 16 = .ok (.iconst 0, 1) := by decide +kernel
theorem dX11_mixStyle_17 : decode cX11_mixStyle 17 = .ok (.istore 6, 2) := by decide +kernel
theorem dX11_mixStyle_19 : decode cX11_mixStyle 19 = .ok (.iload 6, 2) := by decide +kernel
theorem dX11_mixStyle_21 : decode cX11_mixStyle 21 = .ok (.iload 5, 2) := by decide +kernel
theorem dX11_mixStyle_23 : decode cX11_mixStyle 23 = .ok (.if_icmp .ge 24, 3) := by decide +kernel
theorem dX11_mixStyle_26 : decode cX11_mixStyle 26 = .ok (.lload_n 3, 1) := by decide +kernel
theorem dX11_mixStyle_27 : decode cX11_mixStyle 27 = .ok (.aload_n 0, 1) := by decide +kernel
theorem dX11_mixStyle_28 : decode cX11_mixStyle 28 = .ok (.getfield 12, 3) := by decide +kernel
theorem dX11_mixStyle_31 : decode cX11_mixStyle 31 = .ok (.iload 6, 2) := by decide +kernel
theorem dX11_mixStyle_33 : decode cX11_mixStyle 33 = .ok (.invokevirtual 145, 3) := by decide +kernel
theorem dX11_mixStyle_36 : decode cX11_mixStyle 36 = .ok (.i2l, 1) := by decide +kernel
theorem dX11_mixStyle_37 : decode cX11_mixStyle 37 = .ok (.invokestatic 248, 3) := by decide +kernel
theorem dX11_mixStyle_40 : decode cX11_mixStyle 40 = .ok (.lstore_n 3, 1) := by decide +kernel
theorem dX11_mixStyle_41 : decode cX11_mixStyle 41 = .ok (.iinc 6 1, 3) := by decide +kernel
theorem dX11_mixStyle_44 : decode cX11_mixStyle 44 = .ok (.goto (-25), 3) := by decide +kernel
theorem dX11_mixStyle_47 : decode cX11_mixStyle 47 = .ok (.lload_n 3, 1) := by decide +kernel
theorem dX11_mixStyle_48 : decode cX11_mixStyle 48 = .ok (.lreturn, 1) := by decide +kernel
theorem dX11_mixSubpath_0 : decode cX11_mixSubpath 0 = .ok (.lload_n 1, 1) := by decide +kernel
theorem dX11_mixSubpath_1 : decode cX11_mixSubpath 1 = .ok (.lstore 4, 2) := by decide +kernel
theorem dX11_mixSubpath_3 : decode cX11_mixSubpath 3 = .ok (.iconst 0, 1) := by decide +kernel
theorem dX11_mixSubpath_4 : decode cX11_mixSubpath 4 = .ok (.istore 6, 2) := by decide +kernel
theorem dX11_mixSubpath_6 : decode cX11_mixSubpath 6 = .ok (.iload 6, 2) := by decide +kernel
theorem dX11_mixSubpath_8 : decode cX11_mixSubpath 8 = .ok (.iconst 3, 1) := by decide +kernel
theorem dX11_mixSubpath_9 : decode cX11_mixSubpath 9 = .ok (.if_icmp .gt 24, 3) := by decide +kernel
theorem dX11_mixSubpath_12 : decode cX11_mixSubpath 12 = .ok (.lload 4, 2) := by decide +kernel
theorem dX11_mixSubpath_14 : decode cX11_mixSubpath 14 = .ok (.aload_n 0, 1) := by decide +kernel
theorem dX11_mixSubpath_15 : decode cX11_mixSubpath 15 = .ok (.iload_n 3, 1) := by decide +kernel
theorem dX11_mixSubpath_16 : decode cX11_mixSubpath 16 = .ok (.iload 6, 2) := by decide +kernel
theorem dX11_mixSubpath_18 : decode cX11_mixSubpath 18 = .ok (.invokevirtual 120, 3) := by decide +kernel
theorem dX11_mixSubpath_21 : decode cX11_mixSubpath 21 = .ok (.i2l, 1) := by decide +kernel
theorem dX11_mixSubpath_22 : decode cX11_mixSubpath 22 = .ok (.invokestatic 248, 3) := by decide +kernel
theorem dX11_mixSubpath_25 : decode cX11_mixSubpath 25 = .ok (.lstore 4, 2) := by decide +kernel
theorem dX11_mixSubpath_27 : decode cX11_mixSubpath 27 = .ok (.iinc 6 1, 3) := by decide +kernel
theorem dX11_mixSubpath_30 : decode cX11_mixSubpath 30 = .ok (.goto (-24), 3) := by decide +kernel
theorem dX11_mixSubpath_33 : decode cX11_mixSubpath 33 = .ok (.iconst 0, 1) := by decide +kernel
theorem dX11_mixSubpath_34 : decode cX11_mixSubpath 34 = .ok (.istore 6, 2) := by decide +kernel
theorem dX11_mixSubpath_36 : decode cX11_mixSubpath 36 = .ok (.iload 6, 2) := by decide +kernel
theorem dX11_mixSubpath_38 : decode cX11_mixSubpath 38 = .ok (.aload_n 0, 1) := by decide +kernel
theorem dX11_mixSubpath_39 : decode cX11_mixSubpath 39 = .ok (.getfield 12, 3) := by decide +kernel
theorem dX11_mixSubpath_42 : decode cX11_mixSubpath 42 = .ok (.iload_n 3, 1) := by decide +kernel
theorem dX11_mixSubpath_43 : decode cX11_mixSubpath 43 = .ok (.invokevirtual 80, 3) := by decide +kernel
theorem dX11_mixSubpath_46 : decode cX11_mixSubpath 46 = .ok (.if_icmp .ge 45, 3) := by decide +kernel
theorem dX11_mixSubpath_49 : decode cX11_mixSubpath 49 = .ok (.lload 4, 2) := by decide +kernel
theorem dX11_mixSubpath_51 : decode cX11_mixSubpath 51 = .ok (.aload_n 0, 1) := by decide +kernel
theorem dX11_mixSubpath_52 : decode cX11_mixSubpath 52 = .ok (.getfield 12, 3) := by decide +kernel
theorem dX11_mixSubpath_55 : decode cX11_mixSubpath 55 = .ok (.iload_n 3, 1) := by decide +kernel
theorem dX11_mixSubpath_56 : decode cX11_mixSubpath 56 = .ok (.iload 6, 2) := by decide +kernel
theorem dX11_mixSubpath_58 : decode cX11_mixSubpath 58 = .ok (.invokevirtual 127, 3) := by decide +kernel
theorem dX11_mixSubpath_61 : decode cX11_mixSubpath 61 = .ok (.i2l, 1) := by decide +kernel
theorem dX11_mixSubpath_62 : decode cX11_mixSubpath 62 = .ok (.invokestatic 248, 3) := by decide +kernel
theorem dX11_mixSubpath_65 : decode cX11_mixSubpath 65 = .ok (.lstore 4, 2) := by decide +kernel
theorem dX11_mixSubpath_67 : decode cX11_mixSubpath 67 = .ok (.lload 4, 2) := by decide +kernel
theorem dX11_mixSubpath_69 : decode cX11_mixSubpath 69 = .ok (.aload_n 0, 1) := by decide +kernel
theorem dX11_mixSubpath_70 : decode cX11_mixSubpath 70 = .ok (.getfield 12, 3) := by decide +kernel
theorem dX11_mixSubpath_73 : decode cX11_mixSubpath 73 = .ok (.iload_n 3, 1) := by decide +kernel
theorem dX11_mixSubpath_74 : decode cX11_mixSubpath 74 = .ok (.iload 6, 2) := by decide +kernel
theorem dX11_mixSubpath_76 : decode cX11_mixSubpath 76 = .ok (.invokevirtual 124, 3) := by decide +kernel
theorem dX11_mixSubpath_79 : decode cX11_mixSubpath 79 = .ok (.i2l, 1) := by decide +kernel
theorem dX11_mixSubpath_80 : decode cX11_mixSubpath 80 = .ok (.invokestatic 248, 3) := by decide +kernel
theorem dX11_mixSubpath_83 : decode cX11_mixSubpath 83 = .ok (.lstore 4, 2) := by decide +kernel
theorem dX11_mixSubpath_85 : decode cX11_mixSubpath 85 = .ok (.iinc 6 1, 3) := by decide +kernel
theorem dX11_mixSubpath_88 : decode cX11_mixSubpath 88 = .ok (.goto (-52), 3) := by decide +kernel
theorem dX11_mixSubpath_91 : decode cX11_mixSubpath 91 = .ok (.lload 4, 2) := by decide +kernel
theorem dX11_mixSubpath_93 : decode cX11_mixSubpath 93 = .ok (.lreturn, 1) := by decide +kernel
theorem dX11_mixRuns_0 : decode cX11_mixRuns 0 = .ok (.aload_n 0, 1) := by decide +kernel
theorem dX11_mixRuns_1 : decode cX11_mixRuns 1 = .ok (.getfield 43, 3) := by decide +kernel
theorem dX11_mixRuns_4 : decode cX11_mixRuns 4 = .ok (.aload_n 0, 1) := by decide +kernel
theorem dX11_mixRuns_5 : decode cX11_mixRuns 5 = .ok (.getfield 12, 3) := by decide +kernel
theorem dX11_mixRuns_8 : decode cX11_mixRuns 8 = .ok (.invokevirtual 151, 3) := by decide +kernel
theorem dX11_mixRuns_11 : decode cX11_mixRuns 11 = .ok (.astore 4, 2) := by decide +kernel
theorem dX11_mixRuns_13 : decode cX11_mixRuns 13 = .ok (.lload_n 1, 1) := by decide +kernel
theorem dX11_mixRuns_14 : decode cX11_mixRuns 14 = .ok (.aload 4, 2) := by decide +kernel
theorem dX11_mixRuns_16 : decode cX11_mixRuns 16 = .ok (.iload_n 3, 1) := by decide +kernel
theorem dX11_mixRuns_17 : decode cX11_mixRuns 17 = .ok (.invokevirtual 155, 3) := by decide +kernel
theorem dX11_mixRuns_20 : decode cX11_mixRuns 20 = .ok (.i2l, 1) := by decide +kernel
theorem dX11_mixRuns_21 : decode cX11_mixRuns 21 = .ok (.invokestatic 248, 3) := by decide +kernel
theorem dX11_mixRuns_24 : decode cX11_mixRuns 24 = .ok (.lstore 5, 2) := by decide +kernel
theorem dX11_mixRuns_26 : decode cX11_mixRuns 26 = .ok (.iconst 0, 1) := by decide +kernel
theorem dX11_mixRuns_27 : decode cX11_mixRuns 27 = .ok (.istore 7, 2) := by decide +kernel
theorem dX11_mixRuns_29 : decode cX11_mixRuns 29 = .ok (.iload 7, 2) := by decide +kernel
theorem dX11_mixRuns_31 : decode cX11_mixRuns 31 = .ok (.aload 4, 2) := by decide +kernel
theorem dX11_mixRuns_33 : decode cX11_mixRuns 33 = .ok (.iload_n 3, 1) := by decide +kernel
theorem dX11_mixRuns_34 : decode cX11_mixRuns 34 = .ok (.invokevirtual 155, 3) := by decide +kernel
theorem dX11_mixRuns_37 : decode cX11_mixRuns 37 = .ok (.if_icmp .ge 48, 3) := by decide +kernel
theorem dX11_mixRuns_40 : decode cX11_mixRuns 40 = .ok (.iconst 0, 1) := by decide +kernel
theorem dX11_mixRuns_41 : decode cX11_mixRuns 41 = .ok (.istore 8, 2) := by decide +kernel
theorem dX11_mixRuns_43 : decode cX11_mixRuns 43 = .ok (.iload 8, 2) := by decide +kernel
theorem dX11_mixRuns_45 : decode cX11_mixRuns 45 = .ok (.iconst 3, 1) := by decide +kernel
theorem dX11_mixRuns_46 : decode cX11_mixRuns 46 = .ok (.if_icmp .gt 33, 3) := by decide +kernel
theorem dX11_mixRuns_49 : decode cX11_mixRuns 49 = .ok (.lload 5, 2) := by decide +kernel
theorem dX11_mixRuns_51 : decode cX11_mixRuns 51 = .ok (.aload 4, 2) := by decide +kernel
theorem dX11_mixRuns_53 : decode cX11_mixRuns 53 = .ok (.aload 4, 2) := by decide +kernel
theorem dX11_mixRuns_55 : decode cX11_mixRuns 55 = .ok (.iload_n 3, 1) := by decide +kernel
theorem dX11_mixRuns_56 : decode cX11_mixRuns 56 = .ok (.invokevirtual 158, 3) := by decide +kernel
theorem dX11_mixRuns_59 : decode cX11_mixRuns 59 = .ok (.iload 7, 2) := by decide +kernel
theorem dX11_mixRuns_61 : decode cX11_mixRuns 61 = .ok (.iadd, 1) := by decide +kernel
theorem dX11_mixRuns_62 : decode cX11_mixRuns 62 = .ok (.iload 8, 2) := by decide +kernel
theorem dX11_mixRuns_64 : decode cX11_mixRuns 64 = .ok (.invokevirtual 161, 3) := by decide +kernel
theorem dX11_mixRuns_67 : decode cX11_mixRuns 67 = .ok (.i2l, 1) := by decide +kernel
theorem dX11_mixRuns_68 : decode cX11_mixRuns 68 = .ok (.invokestatic 248, 3) := by decide +kernel
theorem dX11_mixRuns_71 : decode cX11_mixRuns 71 = .ok (.lstore 5, 2) := by decide +kernel
theorem dX11_mixRuns_73 : decode cX11_mixRuns 73 = .ok (.iinc 8 1, 3) := by decide +kernel
theorem dX11_mixRuns_76 : decode cX11_mixRuns 76 = .ok (.goto (-33), 3) := by decide +kernel
theorem dX11_mixRuns_79 : decode cX11_mixRuns 79 = .ok (.iinc 7 1, 3) := by decide +kernel
theorem dX11_mixRuns_82 : decode cX11_mixRuns 82 = .ok (.goto (-53), 3) := by decide +kernel
theorem dX11_mixRuns_85 : decode cX11_mixRuns 85 = .ok (.lload 5, 2) := by decide +kernel
theorem dX11_mixRuns_87 : decode cX11_mixRuns 87 = .ok (.lreturn, 1) := by decide +kernel
theorem dX11_mixPiece_0 : decode cX11_mixPiece 0 = .ok (.lload_n 0, 1) := by decide +kernel
theorem dX11_mixPiece_1 : decode cX11_mixPiece 1 = .ok (.aload_n 2, 1) := by decide +kernel
theorem dX11_mixPiece_2 : decode cX11_mixPiece 2 = .ok (.iload_n 3, 1) := by decide +kernel
theorem dX11_mixPiece_3 : decode cX11_mixPiece 3 = .ok (.invokevirtual 178, 3) := by decide +kernel
theorem dX11_mixPiece_6 : decode cX11_mixPiece 6 = .ok (.i2l, 1) := by decide +kernel
theorem dX11_mixPiece_7 : decode cX11_mixPiece 7 = .ok (.invokestatic 248, 3) := by decide +kernel
theorem dX11_mixPiece_10 : decode cX11_mixPiece 10 = .ok (.lstore 4, 2) := by decide +kernel
theorem dX11_mixPiece_12 : decode cX11_mixPiece 12 = .ok (.iconst 0, 1) := by decide +kernel
theorem dX11_mixPiece_13 : decode cX11_mixPiece 13 = .ok (.istore 6, 2) := by decide +kernel
theorem dX11_mixPiece_15 : decode cX11_mixPiece 15 = .ok (.iload 6, 2) := by decide +kernel
theorem dX11_mixPiece_17 : decode cX11_mixPiece 17 = .ok (.aload_n 2, 1) := by decide +kernel
theorem dX11_mixPiece_18 : decode cX11_mixPiece 18 = .ok (.iload_n 3, 1) := by decide +kernel
theorem dX11_mixPiece_19 : decode cX11_mixPiece 19 = .ok (.invokevirtual 181, 3) := by decide +kernel
theorem dX11_mixPiece_22 : decode cX11_mixPiece 22 = .ok (.if_icmp .ge 39, 3) := by decide +kernel
theorem dX11_mixPiece_25 : decode cX11_mixPiece 25 = .ok (.lload 4, 2) := by decide +kernel
theorem dX11_mixPiece_27 : decode cX11_mixPiece 27 = .ok (.aload_n 2, 1) := by decide +kernel
theorem dX11_mixPiece_28 : decode cX11_mixPiece 28 = .ok (.iload_n 3, 1) := by decide +kernel
theorem dX11_mixPiece_29 : decode cX11_mixPiece 29 = .ok (.iload 6, 2) := by decide +kernel
theorem dX11_mixPiece_31 : decode cX11_mixPiece 31 = .ok (.invokevirtual 191, 3) := by decide +kernel
theorem dX11_mixPiece_34 : decode cX11_mixPiece 34 = .ok (.i2l, 1) := by decide +kernel
theorem dX11_mixPiece_35 : decode cX11_mixPiece 35 = .ok (.invokestatic 248, 3) := by decide +kernel
theorem dX11_mixPiece_38 : decode cX11_mixPiece 38 = .ok (.lstore 4, 2) := by decide +kernel
theorem dX11_mixPiece_40 : decode cX11_mixPiece 40 = .ok (.lload 4, 2) := by decide +kernel
theorem dX11_mixPiece_42 : decode cX11_mixPiece 42 = .ok (.aload_n 2, 1) := by decide +kernel
theorem dX11_mixPiece_43 : decode cX11_mixPiece 43 = .ok (.iload_n 3, 1) := by decide +kernel
theorem dX11_mixPiece_44 : decode cX11_mixPiece 44 = .ok (.iload 6, 2) := by decide +kernel
theorem dX11_mixPiece_46 : decode cX11_mixPiece 46 = .ok (.invokevirtual 188, 3) := by decide +kernel
theorem dX11_mixPiece_49 : decode cX11_mixPiece 49 = .ok (.i2l, 1) := by decide +kernel
theorem dX11_mixPiece_50 : decode cX11_mixPiece 50 = .ok (.invokestatic 248, 3) := by decide +kernel
theorem dX11_mixPiece_53 : decode cX11_mixPiece 53 = .ok (.lstore 4, 2) := by decide +kernel
theorem dX11_mixPiece_55 : decode cX11_mixPiece 55 = .ok (.iinc 6 1, 3) := by decide +kernel
theorem dX11_mixPiece_58 : decode cX11_mixPiece 58 = .ok (.goto (-43), 3) := by decide +kernel
theorem dX11_mixPiece_61 : decode cX11_mixPiece 61 = .ok (.lload 4, 2) := by decide +kernel
theorem dX11_mixPiece_63 : decode cX11_mixPiece 63 = .ok (.lreturn, 1) := by decide +kernel
theorem dX11_aboutSubpath_0 : decode cX11_aboutSubpath 0 = .ok (.iload_n 2, 1) := by decide +kernel
theorem dX11_aboutSubpath_1 : decode cX11_aboutSubpath 1 = .ok (.ifCond .ne 12, 3) := by decide +kernel
theorem dX11_aboutSubpath_4 : decode cX11_aboutSubpath 4 = .ok (.aload_n 0, 1) := by decide +kernel
theorem dX11_aboutSubpath_5 : decode cX11_aboutSubpath 5 = .ok (.getfield 12, 3) := by decide +kernel
theorem dX11_aboutSubpath_8 : decode cX11_aboutSubpath 8 = .ok (.iload_n 1, 1) := by decide +kernel
theorem dX11_aboutSubpath_9 : decode cX11_aboutSubpath 9 = .ok (.invokevirtual 80, 3) := by decide +kernel
theorem dX11_aboutSubpath_12 : decode cX11_aboutSubpath 12 = .ok (.ireturn, 1) := by decide +kernel
theorem dX11_aboutSubpath_13 : decode cX11_aboutSubpath 13 = .ok (.iload_n 2, 1) := by decide +kernel
theorem dX11_aboutSubpath_14 : decode cX11_aboutSubpath 14 = .ok (.iconst 1, 1) := by decide +kernel
theorem dX11_aboutSubpath_15 : decode cX11_aboutSubpath 15 = .ok (.if_icmp .ne 20, 3) := by decide +kernel
theorem dX11_aboutSubpath_18 : decode cX11_aboutSubpath 18 = .ok (.aload_n 0, 1) := by decide +kernel
theorem dX11_aboutSubpath_19 : decode cX11_aboutSubpath 19 = .ok (.getfield 12, 3) := by decide +kernel
theorem dX11_aboutSubpath_22 : decode cX11_aboutSubpath 22 = .ok (.iload_n 1, 1) := by decide +kernel
theorem dX11_aboutSubpath_23 : decode cX11_aboutSubpath 23 = .ok (.invokevirtual 76, 3) := by decide +kernel
theorem dX11_aboutSubpath_26 : decode cX11_aboutSubpath 26 = .ok (.ifCond .eq 7, 3) := by decide +kernel
theorem dX11_aboutSubpath_29 : decode cX11_aboutSubpath 29 = .ok (.iconst 1, 1) := by decide +kernel
theorem dX11_aboutSubpath_30 : decode cX11_aboutSubpath 30 = .ok (.goto 4, 3) := by decide +kernel
theorem dX11_aboutSubpath_33 : decode cX11_aboutSubpath 33 = .ok (.iconst 0, 1) := by decide +kernel
theorem dX11_aboutSubpath_34 : decode cX11_aboutSubpath 34 = .ok (.ireturn, 1) := by decide +kernel
theorem dX11_aboutSubpath_35 : decode cX11_aboutSubpath 35 = .ok (.aload_n 0, 1) := by decide +kernel
theorem dX11_aboutSubpath_36 : decode cX11_aboutSubpath 36 = .ok (.getfield 43, 3) := by decide +kernel
theorem dX11_aboutSubpath_39 : decode cX11_aboutSubpath 39 = .ok (.aload_n 0, 1) := by decide +kernel
theorem dX11_aboutSubpath_40 : decode cX11_aboutSubpath 40 = .ok (.getfield 12, 3) := by decide +kernel
theorem dX11_aboutSubpath_43 : decode cX11_aboutSubpath 43 = .ok (.invokevirtual 90, 3) := by decide +kernel
theorem dX11_aboutSubpath_46 : decode cX11_aboutSubpath 46 = .ok (.astore_n 3, 1) := by decide +kernel
theorem dX11_aboutSubpath_47 : decode cX11_aboutSubpath 47 = .ok (.iload_n 2, 1) := by decide +kernel
theorem dX11_aboutSubpath_48 : decode cX11_aboutSubpath 48 = .ok (.iconst 2, 1) := by decide +kernel
theorem dX11_aboutSubpath_49 : decode cX11_aboutSubpath 49 = .ok (.if_icmp .ne 11, 3) := by decide +kernel
theorem dX11_aboutSubpath_52 : decode cX11_aboutSubpath 52 = .ok (.aload_n 3, 1) := by decide +kernel
theorem dX11_aboutSubpath_53 : decode cX11_aboutSubpath 53 = .ok (.iload_n 1, 1) := by decide +kernel
theorem dX11_aboutSubpath_54 : decode cX11_aboutSubpath 54 = .ok (.invokevirtual 94, 3) := by decide +kernel
theorem dX11_aboutSubpath_57 : decode cX11_aboutSubpath 57 = .ok (.goto 8, 3) := by decide +kernel
theorem dX11_aboutSubpath_60 : decode cX11_aboutSubpath 60 = .ok (.aload_n 3, 1) := by decide +kernel
theorem dX11_aboutSubpath_61 : decode cX11_aboutSubpath 61 = .ok (.iload_n 1, 1) := by decide +kernel
theorem dX11_aboutSubpath_62 : decode cX11_aboutSubpath 62 = .ok (.invokevirtual 130, 3) := by decide +kernel
theorem dX11_aboutSubpath_65 : decode cX11_aboutSubpath 65 = .ok (.ireturn, 1) := by decide +kernel
theorem dX11_saveState_0 : decode cX11_saveState 0 = .ok (.aload_n 0, 1) := by decide +kernel
theorem dX11_saveState_1 : decode cX11_saveState 1 = .ok (.getfield 22, 3) := by decide +kernel
theorem dX11_saveState_4 : decode cX11_saveState 4 = .ok (.aload_n 0, 1) := by decide +kernel
theorem dX11_saveState_5 : decode cX11_saveState 5 = .ok (.getfield 12, 3) := by decide +kernel
theorem dX11_saveState_8 : decode cX11_saveState 8 = .ok (.invokevirtual 269, 3) := by decide +kernel
theorem dX11_saveState_11 : decode cX11_saveState 11 = .ok (.aload_n 0, 1) := by decide +kernel
theorem dX11_saveState_12 : decode cX11_saveState 12 = .ok (.getfield 43, 3) := by decide +kernel
theorem dX11_saveState_15 : decode cX11_saveState 15 = .ok (.invokevirtual 240, 3) := by decide +kernel
theorem dX11_saveState_18 : decode cX11_saveState 18 = .ok (.return_, 1) := by decide +kernel
theorem dX11_checkRange_0 : decode cX11_checkRange 0 = .ok (.iload_n 0, 1) := by decide +kernel
theorem dX11_checkRange_1 : decode cX11_checkRange 1 = .ok (.iload_n 1, 1) := by decide +kernel
theorem dX11_checkRange_2 : decode cX11_checkRange 2 = .ok (.if_icmp .lt 8, 3) := by decide +kernel
theorem dX11_checkRange_5 : decode cX11_checkRange 5 = .ok (.iload_n 0, 1) := by decide +kernel
theorem dX11_checkRange_6 : decode cX11_checkRange 6 = .ok (.iload_n 2, 1) := by decide +kernel
theorem dX11_checkRange_7 : decode cX11_checkRange 7 = .ok (.if_icmp .le 14, 3) := by decide +kernel
theorem dX11_checkRange_10 : decode cX11_checkRange 10 = .ok (.new 228, 3) := by decide +kernel
theorem dX11_checkRange_13 : decode cX11_checkRange 13 = .ok (.dup, 1) := by decide +kernel
theorem dX11_checkRange_14 : decode cX11_checkRange 14 = .ok (.ldc_w 272, 3) := by decide +kernel
theorem dX11_checkRange_17 : decode cX11_checkRange 17 = .ok (.invokespecial 232, 3) := by decide +kernel
theorem dX11_checkRange_20 : decode cX11_checkRange 20 = .ok (.athrow, 1) := by decide +kernel
theorem dX11_checkRange_21 : decode cX11_checkRange 21 = .ok (.return_, 1) := by decide +kernel
theorem dX11_checkIndex_0 : decode cX11_checkIndex 0 = .ok (.iload_n 0, 1) := by decide +kernel
theorem dX11_checkIndex_1 : decode cX11_checkIndex 1 = .ok (.ifCond .lt 8, 3) := by decide +kernel
theorem dX11_checkIndex_4 : decode cX11_checkIndex 4 = .ok (.iload_n 0, 1) := by decide +kernel
theorem dX11_checkIndex_5 : decode cX11_checkIndex 5 = .ok (.iload_n 1, 1) := by decide +kernel
theorem dX11_checkIndex_6 : decode cX11_checkIndex 6 = .ok (.if_icmp .lt 14, 3) := by decide +kernel
theorem dX11_checkIndex_9 : decode cX11_checkIndex 9 = .ok (.new 274, 3) := by decide +kernel
theorem dX11_checkIndex_12 : decode cX11_checkIndex 12 = .ok (.dup, 1) := by decide +kernel
theorem dX11_checkIndex_13 : decode cX11_checkIndex 13 = .ok (.ldc_w 276, 3) := by decide +kernel
theorem dX11_checkIndex_16 : decode cX11_checkIndex 16 = .ok (.invokespecial 278, 3) := by decide +kernel
theorem dX11_checkIndex_19 : decode cX11_checkIndex 19 = .ok (.athrow, 1) := by decide +kernel
theorem dX11_checkIndex_20 : decode cX11_checkIndex 20 = .ok (.return_, 1) := by decide +kernel
theorem dX11_checkState_0 : decode cX11_checkState 0 = .ok (.iload_n 0, 1) := by decide +kernel
theorem dX11_checkState_1 : decode cX11_checkState 1 = .ok (.ifCond .ne 14, 3) := by decide +kernel
theorem dX11_checkState_4 : decode cX11_checkState 4 = .ok (.new 279, 3) := by decide +kernel
theorem dX11_checkState_7 : decode cX11_checkState 7 = .ok (.dup, 1) := by decide +kernel
theorem dX11_checkState_8 : decode cX11_checkState 8 = .ok (.ldc_w 281, 3) := by decide +kernel
theorem dX11_checkState_11 : decode cX11_checkState 11 = .ok (.invokespecial 283, 3) := by decide +kernel
theorem dX11_checkState_14 : decode cX11_checkState 14 = .ok (.athrow, 1) := by decide +kernel
theorem dX11_checkState_15 : decode cX11_checkState 15 = .ok (.return_, 1) := by decide +kernel
theorem dX12_init_0 : decode cX12_init 0 = .ok (.aload_n 0, 1) := by decide +kernel
theorem dX12_init_1 : decode cX12_init 1 = .ok (.invokespecial 1, 3) := by decide +kernel
theorem dX12_init_4 : decode cX12_init 4 = .ok (.aload_n 0, 1) := by decide +kernel
theorem dX12_init_5 : decode cX12_init 5 = .ok (.bipush 86, 2) := by decide +kernel
theorem dX12_init_7 : decode cX12_init 7 = .ok (.newarray .int, 2) := by decide +kernel
theorem dX12_init_9 : decode cX12_init 9 = .ok (.putfield 7, 3) := by decide +kernel
theorem dX12_init_12 : decode cX12_init 12 = .ok (.aload_n 0, 1) := by decide +kernel
theorem dX12_init_13 : decode cX12_init 13 = .ok (.sipush 344, 3) := by decide +kernel
theorem dX12_init_16 : decode cX12_init 16 = .ok (.newarray .int, 2) := by decide +kernel
theorem dX12_init_18 : decode cX12_init 18 = .ok (.putfield 13, 3) := by decide +kernel
theorem dX12_init_21 : decode cX12_init 21 = .ok (.aload_n 0, 1) := by decide +kernel
theorem dX12_init_22 : decode cX12_init 22 = .ok (.sipush 150, 3) := by decide +kernel
theorem dX12_init_25 : decode cX12_init 25 = .ok (.newarray .int, 2) := by decide +kernel
theorem dX12_init_27 : decode cX12_init 27 = .ok (.putfield 16, 3) := by decide +kernel
theorem dX12_init_30 : decode cX12_init 30 = .ok (.aload_n 0, 1) := by decide +kernel
theorem dX12_init_31 : decode cX12_init 31 = .ok (.bipush 8, 2) := by decide +kernel
theorem dX12_init_33 : decode cX12_init 33 = .ok (.newarray .int, 2) := by decide +kernel
theorem dX12_init_35 : decode cX12_init 35 = .ok (.putfield 19, 3) := by decide +kernel
theorem dX12_init_38 : decode cX12_init 38 = .ok (.aload_n 0, 1) := by decide +kernel
theorem dX12_init_39 : decode cX12_init 39 = .ok (.bipush 8, 2) := by decide +kernel
theorem dX12_init_41 : decode cX12_init 41 = .ok (.newarray .int, 2) := by decide +kernel
theorem dX12_init_43 : decode cX12_init 43 = .ok (.putfield 22, 3) := by decide +kernel
theorem dX12_init_46 : decode cX12_init 46 = .ok (.aload_n 0, 1) := by decide +kernel
theorem dX12_init_47 : decode cX12_init 47 = .ok (.bipush 8, 2) := by decide +kernel
theorem dX12_init_49 : decode cX12_init 49 = .ok (.newarray .int, 2) := by decide +kernel
theorem dX12_init_51 : decode cX12_init 51 = .ok (.putfield 25, 3) := by decide +kernel
theorem dX12_init_54 : decode cX12_init 54 = .ok (.aload_n 0, 1) := by decide +kernel
theorem dX12_init_55 : decode cX12_init 55 = .ok (.bipush 8, 2) := by decide +kernel
theorem dX12_init_57 : decode cX12_init 57 = .ok (.newarray .int, 2) := by decide +kernel
theorem dX12_init_59 : decode cX12_init 59 = .ok (.putfield 28, 3) := by decide +kernel
theorem dX12_init_62 : decode cX12_init 62 = .ok (.aload_n 0, 1) := by decide +kernel
theorem dX12_init_63 : decode cX12_init 63 = .ok (.bipush 8, 2) := by decide +kernel
theorem dX12_init_65 : decode cX12_init 65 = .ok (.newarray .int, 2) := by decide +kernel
theorem dX12_init_67 : decode cX12_init 67 = .ok (.putfield 31, 3) := by decide +kernel
theorem dX12_init_70 : decode cX12_init 70 = .ok (.aload_n 0, 1) := by decide +kernel
theorem dX12_init_71 : decode cX12_init 71 = .ok (.bipush 8, 2) := by decide +kernel
theorem dX12_init_73 : decode cX12_init 73 = .ok (.newarray .int, 2) := by decide +kernel
theorem dX12_init_75 : decode cX12_init 75 = .ok (.putfield 34, 3) := by decide +kernel
theorem dX12_init_78 : decode cX12_init 78 = .ok (.aload_n 0, 1) := by decide +kernel
theorem dX12_init_79 : decode cX12_init 79 = .ok (.sipush 240, 3) := by decide +kernel
theorem dX12_init_82 : decode cX12_init 82 = .ok (.newarray .int, 2) := by decide +kernel
theorem dX12_init_84 : decode cX12_init 84 = .ok (.putfield 37, 3) := by decide +kernel
theorem dX12_init_87 : decode cX12_init 87 = .ok (.aload_n 0, 1) := by decide +kernel
theorem dX12_init_88 : decode cX12_init 88 = .ok (.sipush 240, 3) := by decide +kernel
theorem dX12_init_91 : decode cX12_init 91 = .ok (.newarray .int, 2) := by decide +kernel
theorem dX12_init_93 : decode cX12_init 93 = .ok (.putfield 40, 3) := by decide +kernel
theorem dX12_init_96 : decode cX12_init 96 = .ok (.aload_n 0, 1) := by decide +kernel
theorem dX12_init_97 : decode cX12_init 97 = .ok (.bipush 20, 2) := by decide +kernel
theorem dX12_init_99 : decode cX12_init 99 = .ok (.newarray .int, 2) := by decide +kernel
theorem dX12_init_101 : decode cX12_init 101 = .ok (.putfield 43, 3) := by decide +kernel
theorem dX12_init_104 : decode cX12_init 104 = .ok (.aload_n 0, 1) := by decide +kernel
theorem dX12_init_105 : decode cX12_init 105 = .ok (.bipush 20, 2) := by decide +kernel
theorem dX12_init_107 : decode cX12_init 107 = .ok (.newarray .int, 2) := by decide +kernel
theorem dX12_init_109 : decode cX12_init 109 = .ok (.putfield 46, 3) := by decide +kernel
theorem dX12_init_112 : decode cX12_init 112 = .ok (.aload_n 0, 1) := by decide +kernel
theorem dX12_init_113 : decode cX12_init 113 = .ok (.bipush 20, 2) := by decide +kernel
theorem dX12_init_115 : decode cX12_init 115 = .ok (.newarray .int, 2) := by decide +kernel
theorem dX12_init_117 : decode cX12_init 117 = .ok (.putfield 49, 3) := by decide +kernel
theorem dX12_init_120 : decode cX12_init 120 = .ok (.aload_n 0, 1) := by decide +kernel
theorem dX12_init_121 : decode cX12_init 121 = .ok (.sipush 27000, 3) := by decide +kernel
theorem dX12_init_124 : decode cX12_init 124 = .ok (.newarray .int, 2) := by decide +kernel
theorem dX12_init_126 : decode cX12_init 126 = .ok (.putfield 52, 3) := by decide +kernel
theorem dX12_init_129 : decode cX12_init 129 = .ok (.aload_n 0, 1) := by decide +kernel
theorem dX12_init_130 : decode cX12_init 130 = .ok (.bipush 86, 2) := by decide +kernel
theorem dX12_init_132 : decode cX12_init 132 = .ok (.newarray .int, 2) := by decide +kernel
theorem dX12_init_134 : decode cX12_init 134 = .ok (.putfield 55, 3) := by decide +kernel
theorem dX12_init_137 : decode cX12_init 137 = .ok (.aload_n 0, 1) := by decide +kernel
theorem dX12_init_138 : decode cX12_init 138 = .ok (.sipush 400, 3) := by decide +kernel
theorem dX12_init_141 : decode cX12_init 141 = .ok (.newarray .int, 2) := by decide +kernel
theorem dX12_init_143 : decode cX12_init 143 = .ok (.putfield 58, 3) := by decide +kernel
theorem dX12_init_146 : decode cX12_init 146 = .ok (.aload_n 0, 1) := by decide +kernel
theorem dX12_init_147 : decode cX12_init 147 = .ok (.getfield 7, 3) := by decide +kernel
theorem dX12_init_150 : decode cX12_init 150 = .ok (.iconst 0, 1) := by decide +kernel
theorem dX12_init_151 : decode cX12_init 151 = .ok (.iconst 4, 1) := by decide +kernel
theorem dX12_init_152 : decode cX12_init 152 = .ok (.iastore, 1) := by decide +kernel
theorem dX12_init_153 : decode cX12_init 153 = .ok (.aload_n 0, 1) := by decide +kernel
theorem dX12_init_154 : decode cX12_init 154 = .ok (.getfield 7, 3) := by decide +kernel
theorem dX12_init_157 : decode cX12_init 157 = .ok (.iconst 2, 1) := by decide +kernel
theorem dX12_init_158 : decode cX12_init 158 = .ok (.iconst 4, 1) := by decide +kernel
theorem dX12_init_159 : decode cX12_init 159 = .ok (.iastore, 1) := by decide +kernel
theorem dX12_init_160 : decode cX12_init 160 = .ok (.return_, 1) := by decide +kernel
theorem dX12_thrown_0 : decode cX12_thrown 0 = .ok (.aload_n 0, 1) := by decide +kernel
theorem dX12_thrown_1 : decode cX12_thrown 1 = .ok (.getfield 61, 3) := by decide +kernel
theorem dX12_thrown_4 : decode cX12_thrown 4 = .ok (.ireturn, 1) := by decide +kernel
theorem dX12_refused_0 : decode cX12_refused 0 = .ok (.aload_n 0, 1) := by decide +kernel
theorem dX12_refused_1 : decode cX12_refused 1 = .ok (.iload_n 1, 1) := by decide +kernel
theorem dX12_refused_2 : decode cX12_refused 2 = .ok (.putfield 61, 3) := by decide +kernel
theorem dX12_refused_5 : decode cX12_refused 5 = .ok (.iload_n 1, 1) := by decide +kernel
theorem dX12_refused_6 : decode cX12_refused 6 = .ok (.ifCond .le 7, 3) := by decide +kernel
theorem dX12_refused_9 : decode cX12_refused 9 = .ok (.iconst 1, 1) := by decide +kernel
theorem dX12_refused_10 : decode cX12_refused 10 = .ok (.goto 4, 3) := by decide +kernel
theorem dX12_refused_13 : decode cX12_refused 13 = .ok (.iconst 0, 1) := by decide +kernel
theorem dX12_refused_14 : decode cX12_refused 14 = .ok (.ireturn, 1) := by decide +kernel
theorem dX12_within_0 : decode cX12_within 0 = .ok (.iload_n 0, 1) := by decide +kernel
theorem dX12_within_1 : decode cX12_within 1 = .ok (.iload_n 1, 1) := by decide +kernel
theorem dX12_within_2 : decode cX12_within 2 = .ok (.if_icmp .lt 12, 3) := by decide +kernel
theorem dX12_within_5 : decode cX12_within 5 = .ok (.iload_n 0, 1) := by decide +kernel
theorem dX12_within_6 : decode cX12_within 6 = .ok (.iload_n 2, 1) := by decide +kernel
theorem dX12_within_7 : decode cX12_within 7 = .ok (.if_icmp .gt 7, 3) := by decide +kernel
theorem dX12_within_10 : decode cX12_within 10 = .ok (.iconst 1, 1) := by decide +kernel
theorem dX12_within_11 : decode cX12_within 11 = .ok (.goto 4, 3) := by decide +kernel
theorem dX12_within_14 : decode cX12_within 14 = .ok (.iconst 0, 1) := by decide +kernel
theorem dX12_within_15 : decode cX12_within 15 = .ok (.ireturn, 1) := by decide +kernel
theorem dX12_isPlace_0 : decode cX12_isPlace 0 = .ok (.iload_n 0, 1) := by decide +kernel
theorem dX12_isPlace_1 : decode cX12_isPlace 1 = .ok (.bipush (-100), 2) := by decide +kernel
theorem dX12_isPlace_3 : decode cX12_isPlace 3 = .ok (.bipush 100, 2) := by decide +kernel
theorem dX12_isPlace_5 : decode cX12_isPlace 5 = .ok (.invokestatic 65, 3) := by decide +kernel
theorem dX12_isPlace_8 : decode cX12_isPlace 8 = .ok (.ifCond .eq 18, 3) := by decide +kernel
theorem dX12_isPlace_11 : decode cX12_isPlace 11 = .ok (.iload_n 1, 1) := by decide +kernel
theorem dX12_isPlace_12 : decode cX12_isPlace 12 = .ok (.bipush (-100), 2) := by decide +kernel
theorem dX12_isPlace_14 : decode cX12_isPlace 14 = .ok (.bipush 100, 2) := by decide +kernel
theorem dX12_isPlace_16 : decode cX12_isPlace 16 = .ok (.invokestatic 65, 3) := by decide +kernel
theorem dX12_isPlace_19 : decode cX12_isPlace 19 = .ok (.ifCond .eq 7, 3) := by decide +kernel
theorem dX12_isPlace_22 : decode cX12_isPlace 22 = .ok (.iconst 1, 1) := by decide +kernel
theorem dX12_isPlace_23 : decode cX12_isPlace 23 = .ok (.goto 4, 3) := by decide +kernel
theorem dX12_isPlace_26 : decode cX12_isPlace 26 = .ok (.iconst 0, 1) := by decide +kernel
theorem dX12_isPlace_27 : decode cX12_isPlace 27 = .ok (.ireturn, 1) := by decide +kernel
theorem dX12_round_0 : decode cX12_round 0 = .ok (.ldc2_w 69, 3) := by decide +kernel
theorem dX12_round_3 : decode cX12_round 3 = .ok (.lload_n 0, 1) := by decide +kernel
theorem dX12_round_4 : decode cX12_round 4 = .ok (.lmul, 1) := by decide +kernel
theorem dX12_round_5 : decode cX12_round 5 = .ok (.lload_n 2, 1) := by decide +kernel
theorem dX12_round_6 : decode cX12_round 6 = .ok (.ladd, 1) := by decide +kernel
theorem dX12_round_7 : decode cX12_round 7 = .ok (.lstore 4, 2) := by decide +kernel
theorem dX12_round_9 : decode cX12_round 9 = .ok (.lload 4, 2) := by decide +kernel
theorem dX12_round_11 : decode cX12_round 11 = .ok (.ldc2_w 69, 3) := by decide +kernel
theorem dX12_round_14 : decode cX12_round 14 = .ok (.lload_n 2, 1) := by decide +kernel
theorem dX12_round_15 : decode cX12_round 15 = .ok (.lmul, 1) := by decide +kernel
theorem dX12_round_16 : decode cX12_round 16 = .ok (.ldiv, 1) := by decide +kernel
theorem dX12_round_17 : decode cX12_round 17 = .ok (.lstore 6, 2) := by decide +kernel
theorem dX12_round_19 : decode cX12_round 19 = .ok (.lload 4, 2) := by decide +kernel
theorem dX12_round_21 : decode cX12_round 21 = .ok (.ldc2_w 69, 3) := by decide +kernel
theorem dX12_round_24 : decode cX12_round 24 = .ok (.lload_n 2, 1) := by decide +kernel
theorem dX12_round_25 : decode cX12_round 25 = .ok (.lmul, 1) := by decide +kernel
theorem dX12_round_26 : decode cX12_round 26 = .ok (.lrem, 1) := by decide +kernel
theorem dX12_round_27 : decode cX12_round 27 = .ok (.lconst 0, 1) := by decide +kernel
theorem dX12_round_28 : decode cX12_round 28 = .ok (.lcmp, 1) := by decide +kernel
theorem dX12_round_29 : decode cX12_round 29 = .ok (.ifCond .ge 10, 3) := by decide +kernel
theorem dX12_round_32 : decode cX12_round 32 = .ok (.lload 6, 2) := by decide +kernel
theorem dX12_round_34 : decode cX12_round 34 = .ok (.lconst 1, 1) := by decide +kernel
theorem dX12_round_35 : decode cX12_round 35 = .ok (.lsub, 1) := by decide +kernel
theorem dX12_round_36 : decode cX12_round 36 = .ok (.goto 5, 3) := by decide +kernel
theorem dX12_round_39 : decode cX12_round 39 = .ok (.lload 6, 2) := by decide +kernel
theorem dX12_round_41 : decode cX12_round 41 = .ok (.l2i, 1) := by decide +kernel
theorem dX12_round_42 : decode cX12_round 42 = .ok (.ireturn, 1) := by decide +kernel
theorem dX12_root_0 : decode cX12_root 0 = .ok (.lconst 0, 1) := by decide +kernel
theorem dX12_root_1 : decode cX12_root 1 = .ok (.lstore_n 2, 1) := by decide +kernel
theorem dX12_root_2 : decode cX12_root 2 = .ok (.ldc2_w 71, 3) := by decide +kernel
theorem dX12_root_5 : decode cX12_root 5 = .ok (.lstore 4, 2) := by decide +kernel
theorem dX12_root_7 : decode cX12_root 7 = .ok (.lload 4, 2) := by decide +kernel
theorem dX12_root_9 : decode cX12_root 9 = .ok (.lload_n 2, 1) := by decide +kernel
theorem dX12_root_10 : decode cX12_root 10 = .ok (.lsub, 1) := by decide +kernel
theorem dX12_root_11 : decode cX12_root 11 = .ok (.lconst 1, 1) := by decide +kernel
theorem dX12_root_12 : decode cX12_root 12 = .ok (.lcmp, 1) := by decide +kernel
theorem dX12_root_13 : decode cX12_root 13 = .ok (.ifCond .le 36, 3) := by decide +kernel
theorem dX12_root_16 : decode cX12_root 16 = .ok (.lload_n 2, 1) := by decide +kernel
theorem dX12_root_17 : decode cX12_root 17 = .ok (.lload 4, 2) := by decide +kernel
theorem dX12_root_19 : decode cX12_root 19 = .ok (.ladd, 1) := by decide +kernel
theorem dX12_root_20 : decode cX12_root 20 = .ok (.ldc2_w 69, 3) := by decide +kernel
theorem dX12_root_23 : decode cX12_root 23 = .ok (.ldiv, 1) := by decide +kernel
theorem dX12_root_24 : decode cX12_root 24 = .ok (.lstore 6, 2) := by decide +kernel
theorem dX12_root_26 : decode cX12_root 26 = .ok (.lload 6, 2) := by decide +kernel
theorem dX12_root_28 : decode cX12_root 28 = .ok (.lload 6, 2) := by decide +kernel
theorem dX12_root_30 : decode cX12_root 30 = .ok (.lmul, 1) := by decide +kernel
theorem dX12_root_31 : decode cX12_root 31 = .ok (.lload_n 0, 1) := by decide +kernel
theorem dX12_root_32 : decode cX12_root 32 = .ok (.lcmp, 1) := by decide +kernel
theorem dX12_root_33 : decode cX12_root 33 = .ok (.ifCond .gt 9, 3) := by decide +kernel
theorem dX12_root_36 : decode cX12_root 36 = .ok (.lload 6, 2) := by decide +kernel
theorem dX12_root_38 : decode cX12_root 38 = .ok (.lstore_n 2, 1) := by decide +kernel
theorem dX12_root_39 : decode cX12_root 39 = .ok (.goto 7, 3) := by decide +kernel
theorem dX12_root_42 : decode cX12_root 42 = .ok (.lload 6, 2) := by decide +kernel
theorem dX12_root_44 : decode cX12_root 44 = .ok (.lstore 4, 2) := by decide +kernel
theorem dX12_root_46 : decode cX12_root 46 = .ok (.goto (-39), 3) := by decide +kernel
theorem dX12_root_49 : decode cX12_root 49 = .ok (.lload_n 2, 1) := by decide +kernel
theorem dX12_root_50 : decode cX12_root 50 = .ok (.l2i, 1) := by decide +kernel
theorem dX12_root_51 : decode cX12_root 51 = .ok (.ireturn, 1) := by decide +kernel
theorem dX12_saves_0 : decode cX12_saves 0 = .ok (.aload_n 0, 1) := by decide +kernel
theorem dX12_saves_1 : decode cX12_saves 1 = .ok (.getfield 73, 3) := by decide +kernel
theorem dX12_saves_4 : decode cX12_saves 4 = .ok (.iconst 4, 1) := by decide +kernel
theorem dX12_saves_5 : decode cX12_saves 5 = .ok (.if_icmp .ne 43, 3) := by decide +kernel
theorem dX12_saves_8 : decode cX12_saves 8 = .ok (.iconst 0, 1) := by decide +kernel
theorem dX12_saves_9 : decode cX12_saves 9 = .ok (.istore_n 1, 1) := by decide +kernel
theorem dX12_saves_10 : decode cX12_saves 10 = .ok (.iload_n 1, 1) := by decide +kernel
theorem dX12_saves_11 : decode cX12_saves 11 = .ok (.sipush 258, 3) := by decide +kernel
theorem dX12_saves_14 : decode cX12_saves 14 = .ok (.if_icmp .ge 24, 3) := by decide +kernel
theorem dX12_saves_17 : decode cX12_saves 17 = .ok (.aload_n 0, 1) := by decide +kernel
theorem dX12_saves_18 : decode cX12_saves 18 = .ok (.getfield 13, 3) := by decide +kernel
theorem dX12_saves_21 : decode cX12_saves 21 = .ok (.iload_n 1, 1) := by decide +kernel
theorem dX12_saves_22 : decode cX12_saves 22 = .ok (.aload_n 0, 1) := by decide +kernel
theorem dX12_saves_23 : decode cX12_saves 23 = .ok (.getfield 13, 3) := by decide +kernel
theorem dX12_saves_26 : decode cX12_saves 26 = .ok (.iload_n 1, 1) := by decide +kernel
theorem dX12_saves_27 : decode cX12_saves 27 = .ok (.bipush 86, 2) := by decide +kernel
theorem dX12_saves_29 : decode cX12_saves 29 = .ok (.iadd, 1) := by decide +kernel
theorem dX12_saves_30 : decode cX12_saves 30 = .ok (.iaload, 1) := by decide +kernel
theorem dX12_saves_31 : decode cX12_saves 31 = .ok (.iastore, 1) := by decide +kernel
theorem dX12_saves_32 : decode cX12_saves 32 = .ok (.iinc 1 1, 3) := by decide +kernel
theorem dX12_saves_35 : decode cX12_saves 35 = .ok (.goto (-25), 3) := by decide +kernel
theorem dX12_saves_38 : decode cX12_saves 38 = .ok (.aload_n 0, 1) := by decide +kernel
theorem dX12_saves_39 : decode cX12_saves 39 = .ok (.dup, 1) := by decide +kernel
theorem dX12_saves_40 : decode cX12_saves 40 = .ok (.getfield 73, 3) := by decide +kernel
theorem dX12_saves_43 : decode cX12_saves 43 = .ok (.iconst 1, 1) := by decide +kernel
theorem dX12_saves_44 : decode cX12_saves 44 = .ok (.isub, 1) := by decide +kernel
theorem dX12_saves_45 : decode cX12_saves 45 = .ok (.putfield 73, 3) := by decide +kernel
theorem dX12_saves_48 : decode cX12_saves 48 = .ok (.iconst 0, 1) := by decide +kernel
theorem dX12_saves_49 : decode cX12_saves 49 = .ok (.istore_n 1, 1) := by decide +kernel
theorem dX12_saves_50 : decode cX12_saves 50 = .ok (.iload_n 1, 1) := by decide +kernel
theorem dX12_saves_51 : decode cX12_saves 51 = .ok (.bipush 86, 2) := by decide +kernel
theorem dX12_saves_53 : decode cX12_saves 53 = .ok (.if_icmp .ge 29, 3) := by decide +kernel
theorem dX12_saves_56 : decode cX12_saves 56 = .ok (.aload_n 0, 1) := by decide +kernel
theorem dX12_saves_57 : decode cX12_saves 57 = .ok (.getfield 13, 3) := by decide +kernel
theorem dX12_saves_60 : decode cX12_saves 60 = .ok (.bipush 86, 2) := by decide +kernel
theorem dX12_saves_62 : decode cX12_saves 62 = .ok (.aload_n 0, 1) := by decide +kernel
theorem dX12_saves_63 : decode cX12_saves 63 = .ok (.getfield 73, 3) := by decide +kernel
theorem dX12_saves_66 : decode cX12_saves 66 = .ok (.imul, 1) := by decide +kernel
theorem dX12_saves_67 : decode cX12_saves 67 = .ok (.iload_n 1, 1) := by decide +kernel
theorem dX12_saves_68 : decode cX12_saves 68 = .ok (.iadd, 1) := by decide +kernel
theorem dX12_saves_69 : decode cX12_saves 69 = .ok (.aload_n 0, 1) := by decide +kernel
theorem dX12_saves_70 : decode cX12_saves 70 = .ok (.getfield 7, 3) := by decide +kernel
theorem dX12_saves_73 : decode cX12_saves 73 = .ok (.iload_n 1, 1) := by decide +kernel
theorem dX12_saves_74 : decode cX12_saves 74 = .ok (.iaload, 1) := by decide +kernel
theorem dX12_saves_75 : decode cX12_saves 75 = .ok (.iastore, 1) := by decide +kernel
theorem dX12_saves_76 : decode cX12_saves 76 = .ok (.iinc 1 1, 3) := by decide +kernel
theorem dX12_saves_79 : decode cX12_saves 79 = .ok (.goto (-29), 3) := by decide +kernel
theorem dX12_saves_82 : decode cX12_saves 82 = .ok (.aload_n 0, 1) := by decide +kernel
theorem dX12_saves_83 : decode cX12_saves 83 = .ok (.dup, 1) := by decide +kernel
theorem dX12_saves_84 : decode cX12_saves 84 = .ok (.getfield 73, 3) := by decide +kernel
theorem dX12_saves_87 : decode cX12_saves 87 = .ok (.iconst 1, 1) := by decide +kernel
theorem dX12_saves_88 : decode cX12_saves 88 = .ok (.iadd, 1) := by decide +kernel
theorem dX12_saves_89 : decode cX12_saves 89 = .ok (.putfield 73, 3) := by decide +kernel
theorem dX12_saves_92 : decode cX12_saves 92 = .ok (.return_, 1) := by decide +kernel
theorem dX12_undo_0 : decode cX12_undo 0 = .ok (.aload_n 0, 1) := by decide +kernel
theorem dX12_undo_1 : decode cX12_undo 1 = .ok (.aload_n 0, 1) := by decide +kernel
theorem dX12_undo_2 : decode cX12_undo 2 = .ok (.getfield 73, 3) := by decide +kernel
theorem dX12_undo_5 : decode cX12_undo 5 = .ok (.ifCond .ne 7, 3) := by decide +kernel
theorem dX12_undo_8 : decode cX12_undo 8 = .ok (.iconst 1, 1) := by decide +kernel
theorem dX12_undo_9 : decode cX12_undo 9 = .ok (.goto 4, 3) := by decide +kernel
theorem dX12_undo_12 : decode cX12_undo 12 = .ok (.iconst 0, 1) := by decide +kernel
theorem dX12_undo_13 : decode cX12_undo 13 = .ok (.invokevirtual 76, 3) := by decide +kernel
theorem dX12_undo_16 : decode cX12_undo 16 = .ok (.ifCond .eq 5, 3) := by decide +kernel
theorem dX12_undo_19 : decode cX12_undo 19 = .ok (.iconst 0, 1) := by decide +kernel
theorem dX12_undo_20 : decode cX12_undo 20 = .ok (.ireturn, 1) := by decide +kernel
theorem dX12_undo_21 : decode cX12_undo 21 = .ok (.aload_n 0, 1) := by decide +kernel
theorem dX12_undo_22 : decode cX12_undo 22 = .ok (.dup, 1) := by decide +kernel
theorem dX12_undo_23 : decode cX12_undo 23 = .ok (.getfield 73, 3) := by decide +kernel
theorem dX12_undo_26 : decode cX12_undo 26 = .ok (.iconst 1, 1) := by decide +kernel
theorem dX12_undo_27 : decode cX12_undo 27 = .ok (.isub, 1) := by decide +kernel
theorem dX12_undo_28 : decode cX12_undo 28 = .ok (.putfield 73, 3) := by decide +kernel
theorem dX12_undo_31 : decode cX12_undo 31 = .ok (.iconst 0, 1) := by decide +kernel
theorem dX12_undo_32 : decode cX12_undo 32 = .ok (.istore_n 1, 1) := by decide +kernel
theorem dX12_undo_33 : decode cX12_undo 33 = .ok (.iload_n 1, 1) := by decide +kernel
theorem dX12_undo_34 : decode cX12_undo 34 = .ok (.bipush 86, 2) := by decide +kernel
theorem dX12_undo_36 : decode cX12_undo 36 = .ok (.if_icmp .ge 29, 3) := by decide +kernel
theorem dX12_undo_39 : decode cX12_undo 39 = .ok (.aload_n 0, 1) := by decide +kernel
theorem dX12_undo_40 : decode cX12_undo 40 = .ok (.getfield 7, 3) := by decide +kernel
theorem dX12_undo_43 : decode cX12_undo 43 = .ok (.iload_n 1, 1) := by decide +kernel
theorem dX12_undo_44 : decode cX12_undo 44 = .ok (.aload_n 0, 1) := by decide +kernel
theorem dX12_undo_45 : decode cX12_undo 45 = .ok (.getfield 13, 3) := by decide +kernel
theorem dX12_undo_48 : decode cX12_undo 48 = .ok (.bipush 86, 2) := by decide +kernel
theorem dX12_undo_50 : decode cX12_undo 50 = .ok (.aload_n 0, 1) := by decide +kernel
theorem dX12_undo_51 : decode cX12_undo 51 = .ok (.getfield 73, 3) := by decide +kernel
theorem dX12_undo_54 : decode cX12_undo 54 = .ok (.imul, 1) := by decide +kernel
theorem dX12_undo_55 : decode cX12_undo 55 = .ok (.iload_n 1, 1) := by decide +kernel
theorem dX12_undo_56 : decode cX12_undo 56 = .ok (.iadd, 1) := by decide +kernel
theorem dX12_undo_57 : decode cX12_undo 57 = .ok (.iaload, 1) := by decide +kernel
theorem dX12_undo_58 : decode cX12_undo 58 = .ok (.iastore, 1) := by decide +kernel
theorem dX12_undo_59 : decode cX12_undo 59 = .ok (.iinc 1 1, 3) := by decide +kernel
theorem dX12_undo_62 : decode cX12_undo 62 = .ok (.goto (-29), 3) := by decide +kernel
theorem dX12_undo_65 : decode cX12_undo 65 = .ok (.aload_n 0, 1) := by decide +kernel
theorem dX12_undo_66 : decode cX12_undo 66 = .ok (.getfield 73, 3) := by decide +kernel
theorem dX12_undo_69 : decode cX12_undo 69 = .ok (.ireturn, 1) := by decide +kernel
theorem dX12_at_0 : decode cX12_at 0 = .ok (.bipush 14, 2) := by decide +kernel
theorem dX12_at_2 : decode cX12_at 2 = .ok (.bipush 18, 2) := by decide +kernel
theorem dX12_at_4 : decode cX12_at 4 = .ok (.iload_n 0, 1) := by decide +kernel
theorem dX12_at_5 : decode cX12_at 5 = .ok (.imul, 1) := by decide +kernel
theorem dX12_at_6 : decode cX12_at 6 = .ok (.iadd, 1) := by decide +kernel
theorem dX12_at_7 : decode cX12_at 7 = .ok (.ireturn, 1) := by decide +kernel
theorem dX12_isSubpath_0 : decode cX12_isSubpath 0 = .ok (.iload_n 1, 1) := by decide +kernel
theorem dX12_isSubpath_1 : decode cX12_isSubpath 1 = .ok (.iconst 0, 1) := by decide +kernel
theorem dX12_isSubpath_2 : decode cX12_isSubpath 2 = .ok (.aload_n 0, 1) := by decide +kernel
theorem dX12_isSubpath_3 : decode cX12_isSubpath 3 = .ok (.getfield 7, 3) := by decide +kernel
theorem dX12_isSubpath_6 : decode cX12_isSubpath 6 = .ok (.bipush 13, 2) := by decide +kernel
theorem dX12_isSubpath_8 : decode cX12_isSubpath 8 = .ok (.iaload, 1) := by decide +kernel
theorem dX12_isSubpath_9 : decode cX12_isSubpath 9 = .ok (.iconst 1, 1) := by decide +kernel
theorem dX12_isSubpath_10 : decode cX12_isSubpath 10 = .ok (.isub, 1) := by decide +kernel
theorem dX12_isSubpath_11 : decode cX12_isSubpath 11 = .ok (.invokestatic 65, 3) := by decide +kernel
theorem dX12_isSubpath_14 : decode cX12_isSubpath 14 = .ok (.ireturn, 1) := by decide +kernel
theorem dX12_points_0 : decode cX12_points 0 = .ok (.aload_n 0, 1) := by decide +kernel
theorem dX12_points_1 : decode cX12_points 1 = .ok (.getfield 7, 3) := by decide +kernel
theorem dX12_points_4 : decode cX12_points 4 = .ok (.iload_n 1, 1) := by decide +kernel
theorem dX12_points_5 : decode cX12_points 5 = .ok (.invokestatic 80, 3) := by decide +kernel
theorem dX12_points_8 : decode cX12_points 8 = .ok (.iaload, 1) := by decide +kernel
theorem dX12_points_9 : decode cX12_points 9 = .ok (.ireturn, 1) := by decide +kernel
theorem dX12_isClosed_0 : decode cX12_isClosed 0 = .ok (.aload_n 0, 1) := by decide +kernel
theorem dX12_isClosed_1 : decode cX12_isClosed 1 = .ok (.getfield 7, 3) := by decide +kernel
theorem dX12_isClosed_4 : decode cX12_isClosed 4 = .ok (.iload_n 1, 1) := by decide +kernel
theorem dX12_isClosed_5 : decode cX12_isClosed 5 = .ok (.invokestatic 80, 3) := by decide +kernel
theorem dX12_isClosed_8 : decode cX12_isClosed 8 = .ok (.iconst 1, 1) := by decide +kernel
theorem dX12_isClosed_9 : decode cX12_isClosed 9 = .ok (.iadd, 1) := by decide +kernel
theorem dX12_isClosed_10 : decode cX12_isClosed 10 = .ok (.iaload, 1) := by decide +kernel
theorem dX12_isClosed_11 : decode cX12_isClosed 11 = .ok (.iconst 1, 1) := by decide +kernel
theorem dX12_isClosed_12 : decode cX12_isClosed 12 = .ok (.if_icmp .ne 7, 3) := by decide +kernel
theorem dX12_isClosed_15 : decode cX12_isClosed 15 = .ok (.iconst 1, 1) := by decide +kernel
theorem dX12_isClosed_16 : decode cX12_isClosed 16 = .ok (.goto 4, 3) := by decide +kernel
theorem dX12_isClosed_19 : decode cX12_isClosed 19 = .ok (.iconst 0, 1) := by decide +kernel
theorem dX12_isClosed_20 : decode cX12_isClosed 20 = .ok (.ireturn, 1) := by decide +kernel
theorem dX12_x_0 : decode cX12_x 0 = .ok (.aload_n 0, 1) := by decide +kernel
theorem dX12_x_1 : decode cX12_x 1 = .ok (.getfield 7, 3) := by decide +kernel
theorem dX12_x_4 : decode cX12_x 4 = .ok (.iload_n 1, 1) := by decide +kernel
theorem dX12_x_5 : decode cX12_x 5 = .ok (.invokestatic 80, 3) := by decide +kernel
theorem dX12_x_8 : decode cX12_x 8 = .ok (.iconst 2, 1) := by decide +kernel
theorem dX12_x_9 : decode cX12_x 9 = .ok (.iadd, 1) := by decide +kernel
theorem dX12_x_10 : decode cX12_x 10 = .ok (.iconst 2, 1) := by decide +kernel
theorem dX12_x_11 : decode cX12_x 11 = .ok (.iload_n 2, 1) := by decide +kernel
theorem dX12_x_12 : decode cX12_x 12 = .ok (.imul, 1) := by decide +kernel
theorem dX12_x_13 : decode cX12_x 13 = .ok (.iadd, 1) := by decide +kernel
theorem dX12_x_14 : decode cX12_x 14 = .ok (.iaload, 1) := by decide +kernel
theorem dX12_x_15 : decode cX12_x 15 = .ok (.ireturn, 1) := by decide +kernel
theorem dX12_y_0 : decode cX12_y 0 = .ok (.aload_n 0, 1) := by decide +kernel
theorem dX12_y_1 : decode cX12_y 1 = .ok (.getfield 7, 3) := by decide +kernel
theorem dX12_y_4 : decode cX12_y 4 = .ok (.iload_n 1, 1) := by decide +kernel
theorem dX12_y_5 : decode cX12_y 5 = .ok (.invokestatic 80, 3) := by decide +kernel
theorem dX12_y_8 : decode cX12_y 8 = .ok (.iconst 3, 1) := by decide +kernel
theorem dX12_y_9 : decode cX12_y 9 = .ok (.iadd, 1) := by decide +kernel
theorem dX12_y_10 : decode cX12_y 10 = .ok (.iconst 2, 1) := by decide +kernel
theorem dX12_y_11 : decode cX12_y 11 = .ok (.iload_n 2, 1) := by decide +kernel
theorem dX12_y_12 : decode cX12_y 12 = .ok (.imul, 1) := by decide +kernel
theorem dX12_y_13 : decode cX12_y 13 = .ok (.iadd, 1) := by decide +kernel
theorem dX12_y_14 : decode cX12_y 14 = .ok (.iaload, 1) := by decide +kernel
theorem dX12_y_15 : decode cX12_y 15 = .ok (.ireturn, 1) := by decide +kernel
theorem dX12_puts_0 : decode cX12_puts 0 = .ok (.aload_n 0, 1) := by decide +kernel
theorem dX12_puts_1 : decode cX12_puts 1 = .ok (.getfield 7, 3) := by decide +kernel
theorem dX12_puts_4 : decode cX12_puts 4 = .ok (.iload_n 1, 1) := by decide +kernel
theorem dX12_puts_5 : decode cX12_puts 5 = .ok (.invokestatic 80, 3) := by decide +kernel
theorem dX12_puts_8 : decode cX12_puts 8 = .ok (.iconst 2, 1) := by decide +kernel
theorem dX12_puts_9 : decode cX12_puts 9 = .ok (.iadd, 1) := by decide +kernel
theorem dX12_puts_10 : decode cX12_puts 10 = .ok (.iconst 2, 1) := by decide +kernel
theorem dX12_puts_11 : decode cX12_puts 11 = .ok (.iload_n 2, 1) := by decide +kernel
theorem dX12_puts_12 : decode cX12_puts 12 = .ok (.imul, 1) := by decide +kernel
theorem dX12_puts_13 : decode cX12_puts 13 = .ok (.iadd, 1) := by decide +kernel
theorem dX12_puts_14 : decode cX12_puts 14 = .ok (.iload_n 3, 1) := by decide +kernel
theorem dX12_puts_15 : decode cX12_puts 15 = .ok (.iastore, 1) := by decide +kernel
theorem dX12_puts_16 : decode cX12_puts 16 = .ok (.aload_n 0, 1) := by decide +kernel
theorem dX12_puts_17 : decode cX12_puts 17 = .ok (.getfield 7, 3) := by decide +kernel
theorem dX12_puts_20 : decode cX12_puts 20 = .ok (.iload_n 1, 1) := by decide +kernel
theorem dX12_puts_21 : decode cX12_puts 21 = .ok (.invokestatic 80, 3) := by decide +kernel
theorem dX12_puts_24 : decode cX12_puts 24 = .ok (.iconst 3, 1) := by decide +kernel
theorem dX12_puts_25 : decode cX12_puts 25 = .ok (.iadd, 1) := by decide +kernel
theorem dX12_puts_26 : decode cX12_puts 26 = .ok (.iconst 2, 1) := by decide +kernel
theorem dX12_puts_27 : decode cX12_puts 27 = .ok (.iload_n 2, 1) := by decide +kernel
theorem dX12_puts_28 : decode cX12_puts 28 = .ok (.imul, 1) := by decide +kernel
theorem dX12_puts_29 : decode cX12_puts 29 = .ok (.iadd, 1) := by decide +kernel
theorem dX12_puts_30 : decode cX12_puts 30 = .ok (.iload 4, 2) := by decide +kernel
theorem dX12_puts_32 : decode cX12_puts 32 = .ok (.iastore, 1) := by decide +kernel
theorem dX12_puts_33 : decode cX12_puts 33 = .ok (.return_, 1) := by decide +kernel
theorem dX12_begins_0 : decode cX12_begins 0 = .ok (.aload_n 0, 1) := by decide +kernel
theorem dX12_begins_1 : decode cX12_begins 1 = .ok (.getfield 7, 3) := by decide +kernel
theorem dX12_begins_4 : decode cX12_begins 4 = .ok (.bipush 13, 2) := by decide +kernel
theorem dX12_begins_6 : decode cX12_begins 6 = .ok (.iaload, 1) := by decide +kernel
theorem dX12_begins_7 : decode cX12_begins 7 = .ok (.istore_n 3, 1) := by decide +kernel
theorem dX12_begins_8 : decode cX12_begins 8 = .ok (.aload_n 0, 1) := by decide +kernel
theorem dX12_begins_9 : decode cX12_begins 9 = .ok (.getfield 7, 3) := by decide +kernel
theorem dX12_begins_12 : decode cX12_begins 12 = .ok (.bipush 13, 2) := by decide +kernel
theorem dX12_begins_14 : decode cX12_begins 14 = .ok (.dup2, 1) := by decide +kernel
theorem dX12_begins_15 : decode cX12_begins 15 = .ok (.iaload, 1) := by decide +kernel
theorem dX12_begins_16 : decode cX12_begins 16 = .ok (.iconst 1, 1) := by decide +kernel
theorem dX12_begins_17 : decode cX12_begins 17 = .ok (.iadd, 1) := by decide +kernel
theorem dX12_begins_18 : decode cX12_begins 18 = .ok (.iastore, 1) := by decide +kernel
theorem dX12_begins_19 : decode cX12_begins 19 = .ok (.aload_n 0, 1) := by decide +kernel
theorem dX12_begins_20 : decode cX12_begins 20 = .ok (.getfield 7, 3) := by decide +kernel
theorem dX12_begins_23 : decode cX12_begins 23 = .ok (.iload_n 3, 1) := by decide +kernel
theorem dX12_begins_24 : decode cX12_begins 24 = .ok (.invokestatic 80, 3) := by decide +kernel
theorem dX12_begins_27 : decode cX12_begins 27 = .ok (.iconst 1, 1) := by decide +kernel
theorem dX12_begins_28 : decode cX12_begins 28 = .ok (.iastore, 1) := by decide +kernel
theorem dX12_begins_29 : decode cX12_begins 29 = .ok (.aload_n 0, 1) := by decide +kernel
theorem dX12_begins_30 : decode cX12_begins 30 = .ok (.getfield 7, 3) := by decide +kernel
theorem dX12_begins_33 : decode cX12_begins 33 = .ok (.iload_n 3, 1) := by decide +kernel
theorem dX12_begins_34 : decode cX12_begins 34 = .ok (.invokestatic 80, 3) := by decide +kernel
theorem dX12_begins_37 : decode cX12_begins 37 = .ok (.iconst 1, 1) := by decide +kernel
theorem dX12_begins_38 : decode cX12_begins 38 = .ok (.iadd, 1) := by decide +kernel
theorem dX12_begins_39 : decode cX12_begins 39 = .ok (.iconst 0, 1) := by decide +kernel
theorem dX12_begins_40 : decode cX12_begins 40 = .ok (.iastore, 1) := by decide +kernel
theorem dX12_begins_41 : decode cX12_begins 41 = .ok (.aload_n 0, 1) := by decide +kernel
theorem dX12_begins_42 : decode cX12_begins 42 = .ok (.iload_n 3, 1) := by decide +kernel
theorem dX12_begins_43 : decode cX12_begins 43 = .ok (.iconst 0, 1) := by decide +kernel
theorem dX12_begins_44 : decode cX12_begins 44 = .ok (.iload_n 1, 1) := by decide +kernel
theorem dX12_begins_45 : decode cX12_begins 45 = .ok (.iload_n 2, 1) := by decide +kernel
theorem dX12_begins_46 : decode cX12_begins 46 = .ok (.invokevirtual 84, 3) := by decide +kernel
theorem dX12_begins_49 : decode cX12_begins 49 = .ok (.return_, 1) := by decide +kernel
theorem dX12_follows_0 : decode cX12_follows 0 = .ok (.aload_n 0, 1) := by decide +kernel
theorem dX12_follows_1 : decode cX12_follows 1 = .ok (.getfield 7, 3) := by decide +kernel
theorem dX12_follows_4 : decode cX12_follows 4 = .ok (.bipush 13, 2) := by decide +kernel
theorem dX12_follows_6 : decode cX12_follows 6 = .ok (.iaload, 1) := by decide +kernel
theorem dX12_follows_7 : decode cX12_follows 7 = .ok (.iconst 1, 1) := by decide +kernel
theorem dX12_follows_8 : decode cX12_follows 8 = .ok (.isub, 1) := by decide +kernel
theorem dX12_follows_9 : decode cX12_follows 9 = .ok (.istore_n 3, 1) := by decide +kernel
theorem dX12_follows_10 : decode cX12_follows 10 = .ok (.aload_n 0, 1) := by decide +kernel
theorem dX12_follows_11 : decode cX12_follows 11 = .ok (.iload_n 3, 1) := by decide +kernel
theorem dX12_follows_12 : decode cX12_follows 12 = .ok (.aload_n 0, 1) := by decide +kernel
theorem dX12_follows_13 : decode cX12_follows 13 = .ok (.iload_n 3, 1) := by decide +kernel
theorem dX12_follows_14 : decode cX12_follows 14 = .ok (.invokevirtual 88, 3) := by decide +kernel
theorem dX12_follows_17 : decode cX12_follows 17 = .ok (.iload_n 1, 1) := by decide +kernel
theorem dX12_follows_18 : decode cX12_follows 18 = .ok (.iload_n 2, 1) := by decide +kernel
theorem dX12_follows_19 : decode cX12_follows 19 = .ok (.invokevirtual 84, 3) := by decide +kernel
theorem dX12_follows_22 : decode cX12_follows 22 = .ok (.aload_n 0, 1) := by decide +kernel
theorem dX12_follows_23 : decode cX12_follows 23 = .ok (.getfield 7, 3) := by decide +kernel
theorem dX12_follows_26 : decode cX12_follows 26 = .ok (.iload_n 3, 1) := by decide +kernel
theorem dX12_follows_27 : decode cX12_follows 27 = .ok (.invokestatic 80, 3) := by decide +kernel
theorem dX12_follows_30 : decode cX12_follows 30 = .ok (.dup2, 1) := by decide +kernel
theorem dX12_follows_31 : decode cX12_follows 31 = .ok (.iaload, 1) := by decide +kernel
theorem dX12_follows_32 : decode cX12_follows 32 = .ok (.iconst 1, 1) := by decide +kernel
theorem dX12_follows_33 : decode cX12_follows 33 = .ok (.iadd, 1) := by decide +kernel
theorem dX12_follows_34 : decode cX12_follows 34 = .ok (.iastore, 1) := by decide +kernel
theorem dX12_follows_35 : decode cX12_follows 35 = .ok (.return_, 1) := by decide +kernel
theorem dX12_moveTo_0 : decode cX12_moveTo 0 = .ok (.aload_n 0, 1) := by decide +kernel
theorem dX12_moveTo_1 : decode cX12_moveTo 1 = .ok (.iload_n 1, 1) := by decide +kernel
theorem dX12_moveTo_2 : decode cX12_moveTo 2 = .ok (.iload_n 2, 1) := by decide +kernel
theorem dX12_moveTo_3 : decode cX12_moveTo 3 = .ok (.invokestatic 91, 3) := by decide +kernel
theorem dX12_moveTo_6 : decode cX12_moveTo 6 = .ok (.ifCond .ne 7, 3) := by decide +kernel
theorem dX12_moveTo_9 : decode cX12_moveTo 9 = .ok (.iconst 1, 1) := by decide +kernel
theorem dX12_moveTo_10 : decode cX12_moveTo 10 = .ok (.goto 19, 3) := by decide +kernel
theorem dX12_moveTo_13 : decode cX12_moveTo 13 = .ok (.aload_n 0, 1) := by decide +kernel
theorem dX12_moveTo_14 : decode cX12_moveTo 14 = .ok (.getfield 7, 3) := by decide +kernel
theorem dX12_moveTo_17 : decode cX12_moveTo 17 = .ok (.bipush 13, 2) := by decide +kernel
theorem dX12_moveTo_19 : decode cX12_moveTo 19 = .ok (.iaload, 1) := by decide +kernel
theorem dX12_moveTo_20 : decode cX12_moveTo 20 = .ok (.iconst 4, 1) := by decide +kernel
theorem dX12_moveTo_21 : decode cX12_moveTo 21 = .ok (.if_icmp .ne 7, 3) := by decide +kernel
theorem dX12_moveTo_24 : decode cX12_moveTo 24 = .ok (.iconst 2, 1) := by decide +kernel
theorem dX12_moveTo_25 : decode cX12_moveTo 25 = .ok (.goto 4, 3) := by decide +kernel
theorem dX12_moveTo_28 : decode cX12_moveTo 28 = .ok (.iconst 0, 1) := by decide +kernel
theorem dX12_moveTo_29 : decode cX12_moveTo 29 = .ok (.invokevirtual 76, 3) := by decide +kernel
theorem dX12_moveTo_32 : decode cX12_moveTo 32 = .ok (.ifCond .eq 5, 3) := by decide +kernel
theorem dX12_moveTo_35 : decode cX12_moveTo 35 = .ok (.iconst 0, 1) := by decide +kernel
theorem dX12_moveTo_36 : decode cX12_moveTo 36 = .ok (.ireturn, 1) := by decide +kernel
theorem dX12_moveTo_37 : decode cX12_moveTo 37 = .ok (.aload_n 0, 1) := by decide +kernel
theorem dX12_moveTo_38 : decode cX12_moveTo 38 = .ok (.invokevirtual 95, 3) := by decide +kernel
theorem dX12_moveTo_41 : decode cX12_moveTo 41 = .ok (.aload_n 0, 1) := by decide +kernel
theorem dX12_moveTo_42 : decode cX12_moveTo 42 = .ok (.iload_n 1, 1) := by decide +kernel
theorem dX12_moveTo_43 : decode cX12_moveTo 43 = .ok (.iload_n 2, 1) := by decide +kernel
theorem dX12_moveTo_44 : decode cX12_moveTo 44 = .ok (.invokevirtual 98, 3) := by decide +kernel
theorem dX12_moveTo_47 : decode cX12_moveTo 47 = .ok (.aload_n 0, 1) := by decide +kernel
theorem dX12_moveTo_48 : decode cX12_moveTo 48 = .ok (.getfield 7, 3) := by decide +kernel
theorem dX12_moveTo_51 : decode cX12_moveTo 51 = .ok (.bipush 13, 2) := by decide +kernel
theorem dX12_moveTo_53 : decode cX12_moveTo 53 = .ok (.iaload, 1) := by decide +kernel
theorem dX12_moveTo_54 : decode cX12_moveTo 54 = .ok (.iconst 1, 1) := by decide +kernel
theorem dX12_moveTo_55 : decode cX12_moveTo 55 = .ok (.isub, 1) := by decide +kernel
theorem dX12_moveTo_56 : decode cX12_moveTo 56 = .ok (.ireturn, 1) := by decide +kernel
theorem dX12_isOpen_0 : decode cX12_isOpen 0 = .ok (.aload_n 0, 1) := by decide +kernel
theorem dX12_isOpen_1 : decode cX12_isOpen 1 = .ok (.getfield 7, 3) := by decide +kernel
theorem dX12_isOpen_4 : decode cX12_isOpen 4 = .ok (.bipush 13, 2) := by decide +kernel
theorem dX12_isOpen_6 : decode cX12_isOpen 6 = .ok (.iaload, 1) := by decide +kernel
theorem dX12_isOpen_7 : decode cX12_isOpen 7 = .ok (.ifCond .le 23, 3) := by decide +kernel
theorem dX12_isOpen_10 : decode cX12_isOpen 10 = .ok (.aload_n 0, 1) := by decide +kernel
theorem dX12_isOpen_11 : decode cX12_isOpen 11 = .ok (.aload_n 0, 1) := by decide +kernel
theorem dX12_isOpen_12 : decode cX12_isOpen 12 = .ok (.getfield 7, 3) := by decide +kernel
theorem dX12_isOpen_15 : decode cX12_isOpen 15 = .ok (.bipush 13, 2) := by decide +kernel
theorem dX12_isOpen_17 : decode cX12_isOpen 17 = .ok (.iaload, 1) := by decide +kernel
theorem dX12_isOpen_18 : decode cX12_isOpen 18 = .ok (.iconst 1, 1) := by decide +kernel
theorem dX12_isOpen_19 : decode cX12_isOpen 19 = .ok (.isub, 1) := by decide +kernel
theorem dX12_isOpen_20 : decode cX12_isOpen 20 = .ok (.invokevirtual 102, 3) := by decide +kernel
theorem dX12_isOpen_23 : decode cX12_isOpen 23 = .ok (.ifCond .ne 7, 3) := by decide +kernel
theorem dX12_isOpen_26 : decode cX12_isOpen 26 = .ok (.iconst 1, 1) := by decide +kernel
theorem dX12_isOpen_27 : decode cX12_isOpen 27 = .ok (.goto 4, 3) := by decide +kernel
theorem dX12_isOpen_30 : decode cX12_isOpen 30 = .ok (.iconst 0, 1) := by decide +kernel
theorem dX12_isOpen_31 : decode cX12_isOpen 31 = .ok (.ireturn, 1) := by decide +kernel
theorem dX12_lineTo_0 : decode cX12_lineTo 0 = .ok (.aload_n 0, 1) := by decide +kernel
theorem dX12_lineTo_1 : decode cX12_lineTo 1 = .ok (.iload_n 1, 1) := by decide +kernel
theorem dX12_lineTo_2 : decode cX12_lineTo 2 = .ok (.iload_n 2, 1) := by decide +kernel
theorem dX12_lineTo_3 : decode cX12_lineTo 3 = .ok (.invokestatic 91, 3) := by decide +kernel
theorem dX12_lineTo_6 : decode cX12_lineTo 6 = .ok (.ifCond .ne 7, 3) := by decide +kernel
theorem dX12_lineTo_9 : decode cX12_lineTo 9 = .ok (.iconst 1, 1) := by decide +kernel
theorem dX12_lineTo_10 : decode cX12_lineTo 10 = .ok (.goto 33, 3) := by decide +kernel
theorem dX12_lineTo_13 : decode cX12_lineTo 13 = .ok (.aload_n 0, 1) := by decide +kernel
theorem dX12_lineTo_14 : decode cX12_lineTo 14 = .ok (.invokevirtual 105, 3) := by decide +kernel
theorem dX12_lineTo_17 : decode cX12_lineTo 17 = .ok (.ifCond .eq 21, 3) := by decide +kernel
theorem dX12_lineTo_20 : decode cX12_lineTo 20 = .ok (.aload_n 0, 1) := by decide +kernel
theorem dX12_lineTo_21 : decode cX12_lineTo 21 = .ok (.aload_n 0, 1) := by decide +kernel
theorem dX12_lineTo_22 : decode cX12_lineTo 22 = .ok (.getfield 7, 3) := by decide +kernel
theorem dX12_lineTo_25 : decode cX12_lineTo 25 = .ok (.bipush 13, 2) := by decide +kernel
theorem dX12_lineTo_27 : decode cX12_lineTo 27 = .ok (.iaload, 1) := by decide +kernel
theorem dX12_lineTo_28 : decode cX12_lineTo 28 = .ok (.iconst 1, 1) := by decide +kernel
theorem dX12_lineTo_29 : decode cX12_lineTo 29 = .ok (.isub, 1) := by decide +kernel
theorem dX12_lineTo_30 : decode cX12_lineTo 30 = .ok (.invokevirtual 88, 3) := by decide +kernel
theorem dX12_lineTo_33 : decode cX12_lineTo 33 = .ok (.bipush 8, 2) := by decide +kernel
theorem dX12_lineTo_35 : decode cX12_lineTo 35 = .ok (.if_icmp .ne 7, 3) := by decide +kernel
theorem dX12_lineTo_38 : decode cX12_lineTo 38 = .ok (.iconst 2, 1) := by decide +kernel
theorem dX12_lineTo_39 : decode cX12_lineTo 39 = .ok (.goto 4, 3) := by decide +kernel
theorem dX12_lineTo_42 : decode cX12_lineTo 42 = .ok (.iconst 0, 1) := by decide +kernel
theorem dX12_lineTo_43 : decode cX12_lineTo 43 = .ok (.invokevirtual 76, 3) := by decide +kernel
theorem dX12_lineTo_46 : decode cX12_lineTo 46 = .ok (.ifCond .eq 5, 3) := by decide +kernel
theorem dX12_lineTo_49 : decode cX12_lineTo 49 = .ok (.iconst 0, 1) := by decide +kernel
theorem dX12_lineTo_50 : decode cX12_lineTo 50 = .ok (.ireturn, 1) := by decide +kernel
theorem dX12_lineTo_51 : decode cX12_lineTo 51 = .ok (.aload_n 0, 1) := by decide +kernel
theorem dX12_lineTo_52 : decode cX12_lineTo 52 = .ok (.invokevirtual 95, 3) := by decide +kernel
theorem dX12_lineTo_55 : decode cX12_lineTo 55 = .ok (.aload_n 0, 1) := by decide +kernel
theorem dX12_lineTo_56 : decode cX12_lineTo 56 = .ok (.iload_n 1, 1) := by decide +kernel
theorem dX12_lineTo_57 : decode cX12_lineTo 57 = .ok (.iload_n 2, 1) := by decide +kernel
theorem dX12_lineTo_58 : decode cX12_lineTo 58 = .ok (.invokevirtual 109, 3) := by decide +kernel
theorem dX12_lineTo_61 : decode cX12_lineTo 61 = .ok (.aload_n 0, 1) := by decide +kernel
theorem dX12_lineTo_62 : decode cX12_lineTo 62 = .ok (.aload_n 0, 1) := by decide +kernel
theorem dX12_lineTo_63 : decode cX12_lineTo 63 = .ok (.getfield 7, 3) := by decide +kernel
theorem dX12_lineTo_66 : decode cX12_lineTo 66 = .ok (.bipush 13, 2) := by decide +kernel
theorem dX12_lineTo_68 : decode cX12_lineTo 68 = .ok (.iaload, 1) := by decide +kernel
theorem dX12_lineTo_69 : decode cX12_lineTo 69 = .ok (.iconst 1, 1) := by decide +kernel
theorem dX12_lineTo_70 : decode cX12_lineTo 70 = .ok (.isub, 1) := by decide +kernel
theorem dX12_lineTo_71 : decode cX12_lineTo 71 = .ok (.invokevirtual 88, 3) := by decide +kernel
theorem dX12_lineTo_74 : decode cX12_lineTo 74 = .ok (.ireturn, 1) := by decide +kernel
theorem dX12_close_0 : decode cX12_close 0 = .ok (.aload_n 0, 1) := by decide +kernel
theorem dX12_close_1 : decode cX12_close 1 = .ok (.aload_n 0, 1) := by decide +kernel
theorem dX12_close_2 : decode cX12_close 2 = .ok (.invokevirtual 105, 3) := by decide +kernel
theorem dX12_close_5 : decode cX12_close 5 = .ok (.ifCond .eq 7, 3) := by decide +kernel
theorem dX12_close_8 : decode cX12_close 8 = .ok (.iconst 0, 1) := by decide +kernel
theorem dX12_close_9 : decode cX12_close 9 = .ok (.goto 4, 3) := by decide +kernel
theorem dX12_close_12 : decode cX12_close 12 = .ok (.iconst 1, 1) := by decide +kernel
theorem dX12_close_13 : decode cX12_close 13 = .ok (.invokevirtual 76, 3) := by decide +kernel
theorem dX12_close_16 : decode cX12_close 16 = .ok (.ifCond .eq 5, 3) := by decide +kernel
theorem dX12_close_19 : decode cX12_close 19 = .ok (.iconst 0, 1) := by decide +kernel
theorem dX12_close_20 : decode cX12_close 20 = .ok (.ireturn, 1) := by decide +kernel
theorem dX12_close_21 : decode cX12_close 21 = .ok (.aload_n 0, 1) := by decide +kernel
theorem dX12_close_22 : decode cX12_close 22 = .ok (.invokevirtual 95, 3) := by decide +kernel
theorem dX12_close_25 : decode cX12_close 25 = .ok (.aload_n 0, 1) := by decide +kernel
theorem dX12_close_26 : decode cX12_close 26 = .ok (.getfield 7, 3) := by decide +kernel
theorem dX12_close_29 : decode cX12_close 29 = .ok (.bipush 13, 2) := by decide +kernel
theorem dX12_close_31 : decode cX12_close 31 = .ok (.iaload, 1) := by decide +kernel
theorem dX12_close_32 : decode cX12_close 32 = .ok (.iconst 1, 1) := by decide +kernel
theorem dX12_close_33 : decode cX12_close 33 = .ok (.isub, 1) := by decide +kernel
theorem dX12_close_34 : decode cX12_close 34 = .ok (.istore_n 1, 1) := by decide +kernel
theorem dX12_close_35 : decode cX12_close 35 = .ok (.aload_n 0, 1) := by decide +kernel
theorem dX12_close_36 : decode cX12_close 36 = .ok (.getfield 7, 3) := by decide +kernel
theorem dX12_close_39 : decode cX12_close 39 = .ok (.iload_n 1, 1) := by decide +kernel
theorem dX12_close_40 : decode cX12_close 40 = .ok (.invokestatic 80, 3) := by decide +kernel
theorem dX12_close_43 : decode cX12_close 43 = .ok (.iconst 1, 1) := by decide +kernel
theorem dX12_close_44 : decode cX12_close 44 = .ok (.iadd, 1) := by decide +kernel
theorem dX12_close_45 : decode cX12_close 45 = .ok (.iconst 1, 1) := by decide +kernel
theorem dX12_close_46 : decode cX12_close 46 = .ok (.iastore, 1) := by decide +kernel
theorem dX12_close_47 : decode cX12_close 47 = .ok (.aload_n 0, 1) := by decide +kernel
theorem dX12_close_48 : decode cX12_close 48 = .ok (.iload_n 1, 1) := by decide +kernel
theorem dX12_close_49 : decode cX12_close 49 = .ok (.invokevirtual 112, 3) := by decide +kernel
theorem dX12_close_52 : decode cX12_close 52 = .ok (.aload_n 0, 1) := by decide +kernel
theorem dX12_close_53 : decode cX12_close 53 = .ok (.getfield 116, 3) := by decide +kernel
theorem dX12_close_56 : decode cX12_close 56 = .ok (.ireturn, 1) := by decide +kernel
theorem dX12_remove_0 : decode cX12_remove 0 = .ok (.aload_n 0, 1) := by decide +kernel
theorem dX12_remove_1 : decode cX12_remove 1 = .ok (.aload_n 0, 1) := by decide +kernel
theorem dX12_remove_2 : decode cX12_remove 2 = .ok (.iload_n 1, 1) := by decide +kernel
theorem dX12_remove_3 : decode cX12_remove 3 = .ok (.invokevirtual 119, 3) := by decide +kernel
theorem dX12_remove_6 : decode cX12_remove 6 = .ok (.ifCond .eq 7, 3) := by decide +kernel
theorem dX12_remove_9 : decode cX12_remove 9 = .ok (.iconst 0, 1) := by decide +kernel
theorem dX12_remove_10 : decode cX12_remove 10 = .ok (.goto 4, 3) := by decide +kernel
theorem dX12_remove_13 : decode cX12_remove 13 = .ok (.iconst 1, 1) := by decide +kernel
theorem dX12_remove_14 : decode cX12_remove 14 = .ok (.invokevirtual 76, 3) := by decide +kernel
