theorem dX12_corner_1 : decode cX12_corner 1 = .ok (.invokevirtual 253, 3) := by decide +kernel
theorem dX12_corner_4 : decode cX12_corner 4 = .ok (.aload_n 0, 1) := by decide +kernel
theorem dX12_corner_5 : decode cX12_corner 5 = .ok (.iload_n 1, 1) := by decide +kernel
theorem dX12_corner_6 : decode cX12_corner 6 = .ok (.iconst 0, 1) := by decide +kernel
theorem dX12_corner_7 : decode cX12_corner 7 = .ok (.aload_n 0, 1) := by decide +kernel
theorem dX12_corner_8 : decode cX12_corner 8 = .ok (.getfield 194, 3) := by decide +kernel
theorem dX12_corner_11 : decode cX12_corner 11 = .ok (.iconst 1, 1) := by decide +kernel
theorem dX12_corner_12 : decode cX12_corner 12 = .ok (.isub, 1) := by decide +kernel
theorem dX12_corner_13 : decode cX12_corner 13 = .ok (.invokestatic 65, 3) := by decide +kernel
theorem dX12_corner_16 : decode cX12_corner 16 = .ok (.ifCond .eq 22, 3) := by decide +kernel
theorem dX12_corner_19 : decode cX12_corner 19 = .ok (.iload_n 2, 1) := by decide +kernel
theorem dX12_corner_20 : decode cX12_corner 20 = .ok (.iconst 0, 1) := by decide +kernel
theorem dX12_corner_21 : decode cX12_corner 21 = .ok (.aload_n 0, 1) := by decide +kernel
theorem dX12_corner_22 : decode cX12_corner 22 = .ok (.iload_n 1, 1) := by decide +kernel
theorem dX12_corner_23 : decode cX12_corner 23 = .ok (.invokevirtual 250, 3) := by decide +kernel
theorem dX12_corner_26 : decode cX12_corner 26 = .ok (.iconst 1, 1) := by decide +kernel
theorem dX12_corner_27 : decode cX12_corner 27 = .ok (.isub, 1) := by decide +kernel
theorem dX12_corner_28 : decode cX12_corner 28 = .ok (.invokestatic 65, 3) := by decide +kernel
theorem dX12_corner_31 : decode cX12_corner 31 = .ok (.ifCond .eq 7, 3) := by decide +kernel
theorem dX12_corner_34 : decode cX12_corner 34 = .ok (.iconst 0, 1) := by decide +kernel
theorem dX12_corner_35 : decode cX12_corner 35 = .ok (.goto 4, 3) := by decide +kernel
theorem dX12_corner_38 : decode cX12_corner 38 = .ok (.iconst 1, 1) := by decide +kernel
theorem dX12_corner_39 : decode cX12_corner 39 = .ok (.invokevirtual 76, 3) := by decide +kernel
theorem dX12_corner_42 : decode cX12_corner 42 = .ok (.ifCond .eq 5, 3) := by decide +kernel
theorem dX12_corner_45 : decode cX12_corner 45 = .ok (.iconst 0, 1) := by decide +kernel
theorem dX12_corner_46 : decode cX12_corner 46 = .ok (.ireturn, 1) := by decide +kernel
theorem dX12_corner_47 : decode cX12_corner 47 = .ok (.iload_n 3, 1) := by decide +kernel
theorem dX12_corner_48 : decode cX12_corner 48 = .ok (.ifCond .eq 12, 3) := by decide +kernel
theorem dX12_corner_51 : decode cX12_corner 51 = .ok (.aload_n 0, 1) := by decide +kernel
theorem dX12_corner_52 : decode cX12_corner 52 = .ok (.iload_n 1, 1) := by decide +kernel
theorem dX12_corner_53 : decode cX12_corner 53 = .ok (.iload_n 2, 1) := by decide +kernel
theorem dX12_corner_54 : decode cX12_corner 54 = .ok (.invokevirtual 259, 3) := by decide +kernel
theorem dX12_corner_57 : decode cX12_corner 57 = .ok (.goto 9, 3) := by decide +kernel
theorem dX12_corner_60 : decode cX12_corner 60 = .ok (.aload_n 0, 1) := by decide +kernel
theorem dX12_corner_61 : decode cX12_corner 61 = .ok (.iload_n 1, 1) := by decide +kernel
theorem dX12_corner_62 : decode cX12_corner 62 = .ok (.iload_n 2, 1) := by decide +kernel
theorem dX12_corner_63 : decode cX12_corner 63 = .ok (.invokevirtual 256, 3) := by decide +kernel
theorem dX12_corner_66 : decode cX12_corner 66 = .ok (.ireturn, 1) := by decide +kernel
set_option maxRecDepth 20000 in
theorem ggX12_bounds_X12_laysPieces : GoodIn wsX12_bounds wsX12_laysPieces := goodIn_r _ [8, 1, 9, 10, 11, 12, 13, 14, 7, 15, 16, 17, 18, 19, 20, 21, 22, 23, 24, 25, 26, 27, 28, 29, 30, 31, 32, 33, 34, 35, 36, 37, 38, 39, 40, 41, 42, 43, 44, 45, 46, 47, 48, 49, 50, 51, 52, 53, 54, 55, 56, 57, 58, 59, 60, 61, 62, 63, 64, 65, 66, 67, 68, 69, 70, 71, 72, 73, 74, 75, 76, 77, 78, 79, 80, 81, 82, 83, 84, 85, 86, 87, 88, 89, 90, 91, 92, 93, 94, 95, 96, 97, 98, 99, 100, 101, 102, 103, 104, 105, 106, 107, 108, 109, 110, 111, 112, 113, 114, 115, 116, 117, 118, 119, 120, 121, 122, 123, 124, 125, 126, 127, 128, 129, 130, 131, 132, 133, 134, 135, 136, 137, 138, 139, 140, 141, 142, 143, 144, 145, 146, 147, 172, 173, 174, 175, 176, 177, 178, 179, 180, 181, 182, 183, 184, 185, 186, 187, 188, 189, 190, 191, 192, 193, 194, 195, 196, 197, 198, 199, 200, 201, 202] (by decide +kernel) (by decide +kernel)
set_option maxRecDepth 20000 in
theorem gX12_bounds_X12_laysPieces : GoodIn wsX12_bounds (wsV RX12 253 RX12 yX12_laysPieces wsX12_laysPieces) := goodIn_app (goodIn_of _ (by decide +kernel)) ggX12_bounds_X12_laysPieces
set_option maxRecDepth 20000 in
theorem ggX12_bounds_X12_within : GoodIn wsX12_bounds wsX12_within := goodIn_r _ [150] (by decide +kernel) (by decide +kernel)
set_option maxRecDepth 20000 in
theorem gX12_bounds_X12_within : GoodIn wsX12_bounds (va_wsS RX12 65 yX12_within wsX12_within) := goodIn_app (goodIn_of _ (by decide +kernel)) ggX12_bounds_X12_within
set_option maxRecDepth 20000 in
theorem ggX12_bounds_X12_refused : GoodIn wsX12_bounds wsX12_refused := goodIn_r _ [154, 155, 172, 173, 174, 175, 176, 177, 178, 179, 180, 181, 182, 183, 184, 185, 186, 187, 188, 189, 190, 191, 192, 193, 194, 195, 196, 197, 198, 199, 200, 201, 202] (by decide +kernel) (by decide +kernel)
set_option maxRecDepth 20000 in
theorem gX12_bounds_X12_refused : GoodIn wsX12_bounds (wsV RX12 76 RX12 yX12_refused wsX12_refused) := goodIn_app (goodIn_of _ (by decide +kernel)) ggX12_bounds_X12_refused
set_option maxRecDepth 20000 in
theorem ggX12_bounds_X12_kindOf : GoodIn wsX12_bounds wsX12_kindOf := goodIn_r _ [159, 79, 172, 173, 174, 175, 176, 177, 178, 179, 180, 181, 182, 183, 184, 185, 186, 187, 188, 189, 190, 191, 192, 193, 194, 195, 196, 197, 198, 199, 200, 201, 202] (by decide +kernel) (by decide +kernel)
set_option maxRecDepth 20000 in
theorem gX12_bounds_X12_kindOf : GoodIn wsX12_bounds (wsV RX12 247 RX12 yX12_kindOf wsX12_kindOf) := goodIn_app (goodIn_of _ (by decide +kernel)) ggX12_bounds_X12_kindOf
set_option maxRecDepth 20000 in
theorem ggX12_bounds_X12_half : GoodIn wsX12_bounds wsX12_half := goodIn_r _ [70, 9, 172, 173, 174, 175, 176, 177, 178, 179, 180, 181, 182, 183, 184, 185, 186, 187, 188, 189, 190, 191, 192, 193, 194, 195, 196, 197, 198, 199, 200, 201, 202] (by decide +kernel) (by decide +kernel)
set_option maxRecDepth 20000 in
theorem gX12_bounds_X12_half : GoodIn wsX12_bounds (wsV RX12 199 RX12 yX12_half wsX12_half) := goodIn_app (goodIn_of _ (by decide +kernel)) ggX12_bounds_X12_half
set_option maxRecDepth 20000 in
theorem ggX12_bounds_X12_cornersOf : GoodIn wsX12_bounds wsX12_cornersOf := goodIn_r _ [163, 156, 157, 158, 7, 159, 79, 172, 173, 174, 175, 176, 177, 178, 179, 180, 181, 182, 183, 184, 185, 186, 187, 188, 189, 190, 191, 192, 193, 194, 195, 196, 197, 198, 199, 200, 201, 202] (by decide +kernel) (by decide +kernel)
set_option maxRecDepth 20000 in
theorem gX12_bounds_X12_cornersOf : GoodIn wsX12_bounds (wsV RX12 250 RX12 yX12_cornersOf wsX12_cornersOf) := goodIn_app (goodIn_of _ (by decide +kernel)) ggX12_bounds_X12_cornersOf
set_option maxRecDepth 20000 in
theorem ggX12_bounds_X12_cornerX : GoodIn wsX12_bounds wsX12_cornerX := goodIn_r _ [167, 79, 160, 161, 162, 7, 163, 156, 157, 158, 159, 172, 173, 174, 175, 176, 177, 178, 179, 180, 181, 182, 183, 184, 185, 186, 187, 188, 189, 190, 191, 192, 193, 194, 195, 196, 197, 198, 199, 200, 201, 202] (by decide +kernel) (by decide +kernel)
set_option maxRecDepth 20000 in
theorem gX12_bounds_X12_cornerX : GoodIn wsX12_bounds (wsV RX12 256 RX12 yX12_cornerX wsX12_cornerX) := goodIn_app (goodIn_of _ (by decide +kernel)) ggX12_bounds_X12_cornerX
set_option maxRecDepth 20000 in
theorem ggX12_bounds_X12_cornerY : GoodIn wsX12_bounds wsX12_cornerY := goodIn_r _ [171, 79, 160, 161, 162, 7, 163, 156, 157, 158, 159, 172, 173, 174, 175, 176, 177, 178, 179, 180, 181, 182, 183, 184, 185, 186, 187, 188, 189, 190, 191, 192, 193, 194, 195, 196, 197, 198, 199, 200, 201, 202] (by decide +kernel) (by decide +kernel)
set_option maxRecDepth 20000 in
theorem gX12_bounds_X12_cornerY : GoodIn wsX12_bounds (wsV RX12 259 RX12 yX12_cornerY wsX12_cornerY) := goodIn_app (goodIn_of _ (by decide +kernel)) ggX12_bounds_X12_cornerY
theorem dX12_bounds_0 : decode cX12_bounds 0 = .ok (.aload_n 0, 1) := by decide +kernel
theorem dX12_bounds_1 : decode cX12_bounds 1 = .ok (.invokevirtual 253, 3) := by decide +kernel
theorem dX12_bounds_4 : decode cX12_bounds 4 = .ok (.aload_n 0, 1) := by decide +kernel
theorem dX12_bounds_5 : decode cX12_bounds 5 = .ok (.iload_n 1, 1) := by decide +kernel
theorem dX12_bounds_6 : decode cX12_bounds 6 = .ok (.iconst 0, 1) := by decide +kernel
theorem dX12_bounds_7 : decode cX12_bounds 7 = .ok (.iconst 3, 1) := by decide +kernel
theorem dX12_bounds_8 : decode cX12_bounds 8 = .ok (.invokestatic 65, 3) := by decide +kernel
theorem dX12_bounds_11 : decode cX12_bounds 11 = .ok (.ifCond .ne 7, 3) := by decide +kernel
theorem dX12_bounds_14 : decode cX12_bounds 14 = .ok (.iconst 1, 1) := by decide +kernel
theorem dX12_bounds_15 : decode cX12_bounds 15 = .ok (.goto 15, 3) := by decide +kernel
theorem dX12_bounds_18 : decode cX12_bounds 18 = .ok (.aload_n 0, 1) := by decide +kernel
theorem dX12_bounds_19 : decode cX12_bounds 19 = .ok (.getfield 194, 3) := by decide +kernel
theorem dX12_bounds_22 : decode cX12_bounds 22 = .ok (.ifCond .ne 7, 3) := by decide +kernel
theorem dX12_bounds_25 : decode cX12_bounds 25 = .ok (.iconst 2, 1) := by decide +kernel
theorem dX12_bounds_26 : decode cX12_bounds 26 = .ok (.goto 4, 3) := by decide +kernel
theorem dX12_bounds_29 : decode cX12_bounds 29 = .ok (.iconst 0, 1) := by decide +kernel
theorem dX12_bounds_30 : decode cX12_bounds 30 = .ok (.invokevirtual 76, 3) := by decide +kernel
theorem dX12_bounds_33 : decode cX12_bounds 33 = .ok (.ifCond .eq 5, 3) := by decide +kernel
theorem dX12_bounds_36 : decode cX12_bounds 36 = .ok (.iconst 0, 1) := by decide +kernel
theorem dX12_bounds_37 : decode cX12_bounds 37 = .ok (.ireturn, 1) := by decide +kernel
theorem dX12_bounds_38 : decode cX12_bounds 38 = .ok (.iload_n 1, 1) := by decide +kernel
theorem dX12_bounds_39 : decode cX12_bounds 39 = .ok (.iconst 2, 1) := by decide +kernel
theorem dX12_bounds_40 : decode cX12_bounds 40 = .ok (.irem, 1) := by decide +kernel
theorem dX12_bounds_41 : decode cX12_bounds 41 = .ok (.iconst 1, 1) := by decide +kernel
theorem dX12_bounds_42 : decode cX12_bounds 42 = .ok (.if_icmp .ne 7, 3) := by decide +kernel
theorem dX12_bounds_45 : decode cX12_bounds 45 = .ok (.iconst 1, 1) := by decide +kernel
theorem dX12_bounds_46 : decode cX12_bounds 46 = .ok (.goto 4, 3) := by decide +kernel
theorem dX12_bounds_49 : decode cX12_bounds 49 = .ok (.iconst 0, 1) := by decide +kernel
theorem dX12_bounds_50 : decode cX12_bounds 50 = .ok (.istore_n 2, 1) := by decide +kernel
theorem dX12_bounds_51 : decode cX12_bounds 51 = .ok (.iload_n 2, 1) := by decide +kernel
theorem dX12_bounds_52 : decode cX12_bounds 52 = .ok (.ifCond .eq 9, 3) := by decide +kernel
theorem dX12_bounds_55 : decode cX12_bounds 55 = .ok (.ldc_w 266, 3) := by decide +kernel
theorem dX12_bounds_58 : decode cX12_bounds 58 = .ok (.goto 6, 3) := by decide +kernel
theorem dX12_bounds_61 : decode cX12_bounds 61 = .ok (.ldc_w 267, 3) := by decide +kernel
theorem dX12_bounds_64 : decode cX12_bounds 64 = .ok (.istore_n 3, 1) := by decide +kernel
theorem dX12_bounds_65 : decode cX12_bounds 65 = .ok (.iconst 0, 1) := by decide +kernel
theorem dX12_bounds_66 : decode cX12_bounds 66 = .ok (.istore 4, 2) := by decide +kernel
theorem dX12_bounds_68 : decode cX12_bounds 68 = .ok (.iload 4, 2) := by decide +kernel
theorem dX12_bounds_70 : decode cX12_bounds 70 = .ok (.aload_n 0, 1) := by decide +kernel
theorem dX12_bounds_71 : decode cX12_bounds 71 = .ok (.getfield 194, 3) := by decide +kernel
theorem dX12_bounds_74 : decode cX12_bounds 74 = .ok (.if_icmp .ge 124, 3) := by decide +kernel
theorem dX12_bounds_77 : decode cX12_bounds 77 = .ok (.aload_n 0, 1) := by decide +kernel
theorem dX12_bounds_78 : decode cX12_bounds 78 = .ok (.iload 4, 2) := by decide +kernel
theorem dX12_bounds_80 : decode cX12_bounds 80 = .ok (.invokevirtual 247, 3) := by decide +kernel
theorem dX12_bounds_83 : decode cX12_bounds 83 = .ok (.iconst 3, 1) := by decide +kernel
theorem dX12_bounds_84 : decode cX12_bounds 84 = .ok (.if_icmp .ne 10, 3) := by decide +kernel
theorem dX12_bounds_87 : decode cX12_bounds 87 = .ok (.aload_n 0, 1) := by decide +kernel
theorem dX12_bounds_88 : decode cX12_bounds 88 = .ok (.invokevirtual 199, 3) := by decide +kernel
theorem dX12_bounds_91 : decode cX12_bounds 91 = .ok (.goto 4, 3) := by decide +kernel
theorem dX12_bounds_94 : decode cX12_bounds 94 = .ok (.iconst 0, 1) := by decide +kernel
theorem dX12_bounds_95 : decode cX12_bounds 95 = .ok (.istore 5, 2) := by decide +kernel
theorem dX12_bounds_97 : decode cX12_bounds 97 = .ok (.iconst 0, 1) := by decide +kernel
theorem dX12_bounds_98 : decode cX12_bounds 98 = .ok (.istore 6, 2) := by decide +kernel
theorem dX12_bounds_100 : decode cX12_bounds 100 = .ok (.iload 6, 2) := by decide +kernel
theorem dX12_bounds_102 : decode cX12_bounds 102 = .ok (.aload_n 0, 1) := by decide +kernel
theorem dX12_bounds_103 : decode cX12_bounds 103 = .ok (.iload 4, 2) := by decide +kernel
theorem dX12_bounds_105 : decode cX12_bounds 105 = .ok (.invokevirtual 250, 3) := by decide +kernel
theorem dX12_bounds_108 : decode cX12_bounds 108 = .ok (.if_icmp .ge 84, 3) := by decide +kernel
theorem dX12_bounds_111 : decode cX12_bounds 111 = .ok (.iload_n 1, 1) := by decide +kernel
theorem dX12_bounds_112 : decode cX12_bounds 112 = .ok (.iconst 2, 1) := by decide +kernel
theorem dX12_bounds_113 : decode cX12_bounds 113 = .ok (.if_icmp .ge 14, 3) := by decide +kernel
theorem dX12_bounds_116 : decode cX12_bounds 116 = .ok (.aload_n 0, 1) := by decide +kernel
theorem dX12_bounds_117 : decode cX12_bounds 117 = .ok (.iload 4, 2) := by decide +kernel
theorem dX12_bounds_119 : decode cX12_bounds 119 = .ok (.iload 6, 2) := by decide +kernel
theorem dX12_bounds_121 : decode cX12_bounds 121 = .ok (.invokevirtual 256, 3) := by decide +kernel
theorem dX12_bounds_124 : decode cX12_bounds 124 = .ok (.goto 11, 3) := by decide +kernel
theorem dX12_bounds_127 : decode cX12_bounds 127 = .ok (.aload_n 0, 1) := by decide +kernel
theorem dX12_bounds_128 : decode cX12_bounds 128 = .ok (.iload 4, 2) := by decide +kernel
theorem dX12_bounds_130 : decode cX12_bounds 130 = .ok (.iload 6, 2) := by decide +kernel
theorem dX12_bounds_132 : decode cX12_bounds 132 = .ok (.invokevirtual 259, 3) := by decide +kernel
theorem dX12_bounds_135 : decode cX12_bounds 135 = .ok (.istore 7, 2) := by decide +kernel
theorem dX12_bounds_137 : decode cX12_bounds 137 = .ok (.iload 7, 2) := by decide +kernel
theorem dX12_bounds_139 : decode cX12_bounds 139 = .ok (.iload_n 2, 1) := by decide +kernel
theorem dX12_bounds_140 : decode cX12_bounds 140 = .ok (.ifCond .eq 8, 3) := by decide +kernel
theorem dX12_bounds_143 : decode cX12_bounds 143 = .ok (.iload 5, 2) := by decide +kernel
theorem dX12_bounds_145 : decode cX12_bounds 145 = .ok (.goto 6, 3) := by decide +kernel
theorem dX12_bounds_148 : decode cX12_bounds 148 = .ok (.iload 5, 2) := by decide +kernel
theorem dX12_bounds_150 : decode cX12_bounds 150 = .ok (.ineg, 1) := by decide +kernel
theorem dX12_bounds_151 : decode cX12_bounds 151 = .ok (.iadd, 1) := by decide +kernel
theorem dX12_bounds_152 : decode cX12_bounds 152 = .ok (.istore 7, 2) := by decide +kernel
theorem dX12_bounds_154 : decode cX12_bounds 154 = .ok (.iload_n 2, 1) := by decide +kernel
theorem dX12_bounds_155 : decode cX12_bounds 155 = .ok (.ifCond .eq 18, 3) := by decide +kernel
theorem dX12_bounds_158 : decode cX12_bounds 158 = .ok (.iload 7, 2) := by decide +kernel
theorem dX12_bounds_160 : decode cX12_bounds 160 = .ok (.iload_n 3, 1) := by decide +kernel
theorem dX12_bounds_161 : decode cX12_bounds 161 = .ok (.if_icmp .le 8, 3) := by decide +kernel
theorem dX12_bounds_164 : decode cX12_bounds 164 = .ok (.iload 7, 2) := by decide +kernel
theorem dX12_bounds_166 : decode cX12_bounds 166 = .ok (.goto 19, 3) := by decide +kernel
theorem dX12_bounds_169 : decode cX12_bounds 169 = .ok (.iload_n 3, 1) := by decide +kernel
theorem dX12_bounds_170 : decode cX12_bounds 170 = .ok (.goto 15, 3) := by decide +kernel
theorem dX12_bounds_173 : decode cX12_bounds 173 = .ok (.iload 7, 2) := by decide +kernel
theorem dX12_bounds_175 : decode cX12_bounds 175 = .ok (.iload_n 3, 1) := by decide +kernel
theorem dX12_bounds_176 : decode cX12_bounds 176 = .ok (.if_icmp .ge 8, 3) := by decide +kernel
theorem dX12_bounds_179 : decode cX12_bounds 179 = .ok (.iload 7, 2) := by decide +kernel
theorem dX12_bounds_181 : decode cX12_bounds 181 = .ok (.goto 4, 3) := by decide +kernel
theorem dX12_bounds_184 : decode cX12_bounds 184 = .ok (.iload_n 3, 1) := by decide +kernel
theorem dX12_bounds_185 : decode cX12_bounds 185 = .ok (.istore_n 3, 1) := by decide +kernel
theorem dX12_bounds_186 : decode cX12_bounds 186 = .ok (.iinc 6 1, 3) := by decide +kernel
theorem dX12_bounds_189 : decode cX12_bounds 189 = .ok (.goto (-89), 3) := by decide +kernel
theorem dX12_bounds_192 : decode cX12_bounds 192 = .ok (.iinc 4 1, 3) := by decide +kernel
theorem dX12_bounds_195 : decode cX12_bounds 195 = .ok (.goto (-127), 3) := by decide +kernel
theorem dX12_bounds_198 : decode cX12_bounds 198 = .ok (.iload_n 3, 1) := by decide +kernel
theorem dX12_bounds_199 : decode cX12_bounds 199 = .ok (.ireturn, 1) := by decide +kernel
set_option maxRecDepth 20000 in
theorem ggX12_isInDisc_X12_cornerX : GoodIn wsX12_isInDisc wsX12_cornerX := goodIn_r _ [5, 6, 7, 8, 9, 4, 10, 11, 12, 13, 14, 24, 25, 26, 27, 28, 29, 30, 31, 32, 33, 34, 35, 36, 37, 38, 39, 40, 41, 42, 43, 44, 45, 46, 47, 48, 49, 50, 51, 52, 53, 54] (by decide +kernel) (by decide +kernel)
set_option maxRecDepth 20000 in
theorem gX12_isInDisc_X12_cornerX : GoodIn wsX12_isInDisc (wsV RX12 256 RX12 yX12_cornerX wsX12_cornerX) := goodIn_app (goodIn_of _ (by decide +kernel)) ggX12_isInDisc_X12_cornerX
set_option maxRecDepth 20000 in
theorem ggX12_isInDisc_X12_cornerY : GoodIn wsX12_isInDisc wsX12_cornerY := goodIn_r _ [18, 6, 7, 8, 9, 4, 10, 11, 12, 13, 14, 24, 25, 26, 27, 28, 29, 30, 31, 32, 33, 34, 35, 36, 37, 38, 39, 40, 41, 42, 43, 44, 45, 46, 47, 48, 49, 50, 51, 52, 53, 54] (by decide +kernel) (by decide +kernel)
set_option maxRecDepth 20000 in
theorem gX12_isInDisc_X12_cornerY : GoodIn wsX12_isInDisc (wsV RX12 259 RX12 yX12_cornerY wsX12_cornerY) := goodIn_app (goodIn_of _ (by decide +kernel)) ggX12_isInDisc_X12_cornerY
set_option maxRecDepth 20000 in
theorem ggX12_isInDisc_X12_half : GoodIn wsX12_isInDisc wsX12_half := goodIn_r _ [22, 23, 24, 25, 26, 27, 28, 29, 30, 31, 32, 33, 34, 35, 36, 37, 38, 39, 40, 41, 42, 43, 44, 45, 46, 47, 48, 49, 50, 51, 52, 53, 54] (by decide +kernel) (by decide +kernel)
set_option maxRecDepth 20000 in
theorem gX12_isInDisc_X12_half : GoodIn wsX12_isInDisc (wsV RX12 199 RX12 yX12_half wsX12_half) := goodIn_app (goodIn_of _ (by decide +kernel)) ggX12_isInDisc_X12_half
theorem dX12_isInDisc_0 : decode cX12_isInDisc 0 = .ok (.iload_n 2, 1) := by decide +kernel
theorem dX12_isInDisc_1 : decode cX12_isInDisc 1 = .ok (.aload_n 0, 1) := by decide +kernel
theorem dX12_isInDisc_2 : decode cX12_isInDisc 2 = .ok (.iload_n 1, 1) := by decide +kernel
theorem dX12_isInDisc_3 : decode cX12_isInDisc 3 = .ok (.iconst 0, 1) := by decide +kernel
theorem dX12_isInDisc_4 : decode cX12_isInDisc 4 = .ok (.invokevirtual 256, 3) := by decide +kernel
theorem dX12_isInDisc_7 : decode cX12_isInDisc 7 = .ok (.isub, 1) := by decide +kernel
theorem dX12_isInDisc_8 : decode cX12_isInDisc 8 = .ok (.i2l, 1) := by decide +kernel
theorem dX12_isInDisc_9 : decode cX12_isInDisc 9 = .ok (.lstore 4, 2) := by decide +kernel
theorem dX12_isInDisc_11 : decode cX12_isInDisc 11 = .ok (.iload_n 3, 1) := by decide +kernel
theorem dX12_isInDisc_12 : decode cX12_isInDisc 12 = .ok (.aload_n 0, 1) := by decide +kernel
theorem dX12_isInDisc_13 : decode cX12_isInDisc 13 = .ok (.iload_n 1, 1) := by decide +kernel
theorem dX12_isInDisc_14 : decode cX12_isInDisc 14 = .ok (.iconst 0, 1) := by decide +kernel
theorem dX12_isInDisc_15 : decode cX12_isInDisc 15 = .ok (.invokevirtual 259, 3) := by decide +kernel
theorem dX12_isInDisc_18 : decode cX12_isInDisc 18 = .ok (.isub, 1) := by decide +kernel
theorem dX12_isInDisc_19 : decode cX12_isInDisc 19 = .ok (.i2l, 1) := by decide +kernel
theorem dX12_isInDisc_20 : decode cX12_isInDisc 20 = .ok (.lstore 6, 2) := by decide +kernel
theorem dX12_isInDisc_22 : decode cX12_isInDisc 22 = .ok (.lload 4, 2) := by decide +kernel
theorem dX12_isInDisc_24 : decode cX12_isInDisc 24 = .ok (.lload 4, 2) := by decide +kernel
theorem dX12_isInDisc_26 : decode cX12_isInDisc 26 = .ok (.lmul, 1) := by decide +kernel
theorem dX12_isInDisc_27 : decode cX12_isInDisc 27 = .ok (.lload 6, 2) := by decide +kernel
theorem dX12_isInDisc_29 : decode cX12_isInDisc 29 = .ok (.lload 6, 2) := by decide +kernel
theorem dX12_isInDisc_31 : decode cX12_isInDisc 31 = .ok (.lmul, 1) := by decide +kernel
theorem dX12_isInDisc_32 : decode cX12_isInDisc 32 = .ok (.ladd, 1) := by decide +kernel
theorem dX12_isInDisc_33 : decode cX12_isInDisc 33 = .ok (.aload_n 0, 1) := by decide +kernel
theorem dX12_isInDisc_34 : decode cX12_isInDisc 34 = .ok (.invokevirtual 199, 3) := by decide +kernel
theorem dX12_isInDisc_37 : decode cX12_isInDisc 37 = .ok (.i2l, 1) := by decide +kernel
theorem dX12_isInDisc_38 : decode cX12_isInDisc 38 = .ok (.aload_n 0, 1) := by decide +kernel
theorem dX12_isInDisc_39 : decode cX12_isInDisc 39 = .ok (.invokevirtual 199, 3) := by decide +kernel
theorem dX12_isInDisc_42 : decode cX12_isInDisc 42 = .ok (.i2l, 1) := by decide +kernel
theorem dX12_isInDisc_43 : decode cX12_isInDisc 43 = .ok (.lmul, 1) := by decide +kernel
theorem dX12_isInDisc_44 : decode cX12_isInDisc 44 = .ok (.lcmp, 1) := by decide +kernel
theorem dX12_isInDisc_45 : decode cX12_isInDisc 45 = .ok (.ifCond .gt 7, 3) := by decide +kernel
theorem dX12_isInDisc_48 : decode cX12_isInDisc 48 = .ok (.iconst 1, 1) := by decide +kernel
theorem dX12_isInDisc_49 : decode cX12_isInDisc 49 = .ok (.goto 4, 3) := by decide +kernel
theorem dX12_isInDisc_52 : decode cX12_isInDisc 52 = .ok (.iconst 0, 1) := by decide +kernel
theorem dX12_isInDisc_53 : decode cX12_isInDisc 53 = .ok (.ireturn, 1) := by decide +kernel
set_option maxRecDepth 20000 in
theorem ggX12_isInPolygon_X12_cornersOf : GoodIn wsX12_isInPolygon wsX12_cornersOf := goodIn_r _ [5, 6, 7, 8, 4, 9, 10, 19, 20, 21, 22, 23, 24, 25, 26, 27, 28, 29, 30, 31, 32, 33, 34, 35, 36, 37, 38, 39, 40, 41, 42, 43, 44, 45, 46, 47, 48, 49] (by decide +kernel) (by decide +kernel)
set_option maxRecDepth 20000 in
theorem gX12_isInPolygon_X12_cornersOf : GoodIn wsX12_isInPolygon (wsV RX12 250 RX12 yX12_cornersOf wsX12_cornersOf) := goodIn_app (goodIn_of _ (by decide +kernel)) ggX12_isInPolygon_X12_cornersOf
set_option maxRecDepth 20000 in
theorem ggX12_isInPolygon_X12_cornerX : GoodIn wsX12_isInPolygon wsX12_cornerX := goodIn_r _ [14, 10, 1, 2, 3, 4, 5, 6, 7, 8, 9, 19, 20, 21, 22, 23, 24, 25, 26, 27, 28, 29, 30, 31, 32, 33, 34, 35, 36, 37, 38, 39, 40, 41, 42, 43, 44, 45, 46, 47, 48, 49] (by decide +kernel) (by decide +kernel)
set_option maxRecDepth 20000 in
theorem gX12_isInPolygon_X12_cornerX : GoodIn wsX12_isInPolygon (wsV RX12 256 RX12 yX12_cornerX wsX12_cornerX) := goodIn_app (goodIn_of _ (by decide +kernel)) ggX12_isInPolygon_X12_cornerX
set_option maxRecDepth 20000 in
theorem ggX12_isInPolygon_X12_cornerY : GoodIn wsX12_isInPolygon wsX12_cornerY := goodIn_r _ [18, 10, 1, 2, 3, 4, 5, 6, 7, 8, 9, 19, 20, 21, 22, 23, 24, 25, 26, 27, 28, 29, 30, 31, 32, 33, 34, 35, 36, 37, 38, 39, 40, 41, 42, 43, 44, 45, 46, 47, 48, 49] (by decide +kernel) (by decide +kernel)
set_option maxRecDepth 20000 in
theorem gX12_isInPolygon_X12_cornerY : GoodIn wsX12_isInPolygon (wsV RX12 259 RX12 yX12_cornerY wsX12_cornerY) := goodIn_app (goodIn_of _ (by decide +kernel)) ggX12_isInPolygon_X12_cornerY
theorem dX12_isInPolygon_0 : decode cX12_isInPolygon 0 = .ok (.iconst 1, 1) := by decide +kernel
theorem dX12_isInPolygon_1 : decode cX12_isInPolygon 1 = .ok (.istore 4, 2) := by decide +kernel
theorem dX12_isInPolygon_3 : decode cX12_isInPolygon 3 = .ok (.iconst 1, 1) := by decide +kernel
theorem dX12_isInPolygon_4 : decode cX12_isInPolygon 4 = .ok (.istore 5, 2) := by decide +kernel
theorem dX12_isInPolygon_6 : decode cX12_isInPolygon 6 = .ok (.iconst 0, 1) := by decide +kernel
theorem dX12_isInPolygon_7 : decode cX12_isInPolygon 7 = .ok (.istore 6, 2) := by decide +kernel
theorem dX12_isInPolygon_9 : decode cX12_isInPolygon 9 = .ok (.iconst 0, 1) := by decide +kernel
theorem dX12_isInPolygon_10 : decode cX12_isInPolygon 10 = .ok (.istore 7, 2) := by decide +kernel
theorem dX12_isInPolygon_12 : decode cX12_isInPolygon 12 = .ok (.iconst 0, 1) := by decide +kernel
theorem dX12_isInPolygon_13 : decode cX12_isInPolygon 13 = .ok (.istore 8, 2) := by decide +kernel
theorem dX12_isInPolygon_15 : decode cX12_isInPolygon 15 = .ok (.iconst 0, 1) := by decide +kernel
theorem dX12_isInPolygon_16 : decode cX12_isInPolygon 16 = .ok (.istore 9, 2) := by decide +kernel
theorem dX12_isInPolygon_18 : decode cX12_isInPolygon 18 = .ok (.iconst 0, 1) := by decide +kernel
theorem dX12_isInPolygon_19 : decode cX12_isInPolygon 19 = .ok (.istore 10, 2) := by decide +kernel
theorem dX12_isInPolygon_21 : decode cX12_isInPolygon 21 = .ok (.iload 10, 2) := by decide +kernel
theorem dX12_isInPolygon_23 : decode cX12_isInPolygon 23 = .ok (.aload_n 0, 1) := by decide +kernel
theorem dX12_isInPolygon_24 : decode cX12_isInPolygon 24 = .ok (.iload_n 1, 1) := by decide +kernel
theorem dX12_isInPolygon_25 : decode cX12_isInPolygon 25 = .ok (.invokevirtual 250, 3) := by decide +kernel
theorem dX12_isInPolygon_28 : decode cX12_isInPolygon 28 = .ok (.if_icmp .ge 178, 3) := by decide +kernel
theorem dX12_isInPolygon_31 : decode cX12_isInPolygon 31 = .ok (.aload_n 0, 1) := by decide +kernel
theorem dX12_isInPolygon_32 : decode cX12_isInPolygon 32 = .ok (.iload_n 1, 1) := by decide +kernel
theorem dX12_isInPolygon_33 : decode cX12_isInPolygon 33 = .ok (.iload 10, 2) := by decide +kernel
theorem dX12_isInPolygon_35 : decode cX12_isInPolygon 35 = .ok (.invokevirtual 256, 3) := by decide +kernel
theorem dX12_isInPolygon_38 : decode cX12_isInPolygon 38 = .ok (.istore 11, 2) := by decide +kernel
theorem dX12_isInPolygon_40 : decode cX12_isInPolygon 40 = .ok (.aload_n 0, 1) := by decide +kernel
theorem dX12_isInPolygon_41 : decode cX12_isInPolygon 41 = .ok (.iload_n 1, 1) := by decide +kernel
theorem dX12_isInPolygon_42 : decode cX12_isInPolygon 42 = .ok (.iload 10, 2) := by decide +kernel
theorem dX12_isInPolygon_44 : decode cX12_isInPolygon 44 = .ok (.invokevirtual 259, 3) := by decide +kernel
theorem dX12_isInPolygon_47 : decode cX12_isInPolygon 47 = .ok (.istore 12, 2) := by decide +kernel
theorem dX12_isInPolygon_49 : decode cX12_isInPolygon 49 = .ok (.aload_n 0, 1) := by decide +kernel
theorem dX12_isInPolygon_50 : decode cX12_isInPolygon 50 = .ok (.iload_n 1, 1) := by decide +kernel
theorem dX12_isInPolygon_51 : decode cX12_isInPolygon 51 = .ok (.iload 10, 2) := by decide +kernel
theorem dX12_isInPolygon_53 : decode cX12_isInPolygon 53 = .ok (.iconst 1, 1) := by decide +kernel
theorem dX12_isInPolygon_54 : decode cX12_isInPolygon 54 = .ok (.iadd, 1) := by decide +kernel
theorem dX12_isInPolygon_55 : decode cX12_isInPolygon 55 = .ok (.invokevirtual 256, 3) := by decide +kernel
theorem dX12_isInPolygon_58 : decode cX12_isInPolygon 58 = .ok (.iload 11, 2) := by decide +kernel
theorem dX12_isInPolygon_60 : decode cX12_isInPolygon 60 = .ok (.isub, 1) := by decide +kernel
theorem dX12_isInPolygon_61 : decode cX12_isInPolygon 61 = .ok (.i2l, 1) := by decide +kernel
theorem dX12_isInPolygon_62 : decode cX12_isInPolygon 62 = .ok (.iload_n 3, 1) := by decide +kernel
theorem dX12_isInPolygon_63 : decode cX12_isInPolygon 63 = .ok (.iload 12, 2) := by decide +kernel
theorem dX12_isInPolygon_65 : decode cX12_isInPolygon 65 = .ok (.isub, 1) := by decide +kernel
theorem dX12_isInPolygon_66 : decode cX12_isInPolygon 66 = .ok (.i2l, 1) := by decide +kernel
theorem dX12_isInPolygon_67 : decode cX12_isInPolygon 67 = .ok (.lmul, 1) := by decide +kernel
theorem dX12_isInPolygon_68 : decode cX12_isInPolygon 68 = .ok (.aload_n 0, 1) := by decide +kernel
theorem dX12_isInPolygon_69 : decode cX12_isInPolygon 69 = .ok (.iload_n 1, 1) := by decide +kernel
theorem dX12_isInPolygon_70 : decode cX12_isInPolygon 70 = .ok (.iload 10, 2) := by decide +kernel
theorem dX12_isInPolygon_72 : decode cX12_isInPolygon 72 = .ok (.iconst 1, 1) := by decide +kernel
theorem dX12_isInPolygon_73 : decode cX12_isInPolygon 73 = .ok (.iadd, 1) := by decide +kernel
theorem dX12_isInPolygon_74 : decode cX12_isInPolygon 74 = .ok (.invokevirtual 259, 3) := by decide +kernel
theorem dX12_isInPolygon_77 : decode cX12_isInPolygon 77 = .ok (.iload 12, 2) := by decide +kernel
theorem dX12_isInPolygon_79 : decode cX12_isInPolygon 79 = .ok (.isub, 1) := by decide +kernel
theorem dX12_isInPolygon_80 : decode cX12_isInPolygon 80 = .ok (.i2l, 1) := by decide +kernel
theorem dX12_isInPolygon_81 : decode cX12_isInPolygon 81 = .ok (.iload_n 2, 1) := by decide +kernel
theorem dX12_isInPolygon_82 : decode cX12_isInPolygon 82 = .ok (.iload 11, 2) := by decide +kernel
theorem dX12_isInPolygon_84 : decode cX12_isInPolygon 84 = .ok (.isub, 1) := by decide +kernel
theorem dX12_isInPolygon_85 : decode cX12_isInPolygon 85 = .ok (.i2l, 1) := by decide +kernel
theorem dX12_isInPolygon_86 : decode cX12_isInPolygon 86 = .ok (.lmul, 1) := by decide +kernel
theorem dX12_isInPolygon_87 : decode cX12_isInPolygon 87 = .ok (.lsub, 1) := by decide +kernel
theorem dX12_isInPolygon_88 : decode cX12_isInPolygon 88 = .ok (.lstore 13, 2) := by decide +kernel
theorem dX12_isInPolygon_90 : decode cX12_isInPolygon 90 = .ok (.iload 4, 2) := by decide +kernel
theorem dX12_isInPolygon_92 : decode cX12_isInPolygon 92 = .ok (.ifCond .eq 14, 3) := by decide +kernel
theorem dX12_isInPolygon_95 : decode cX12_isInPolygon 95 = .ok (.lload 13, 2) := by decide +kernel
theorem dX12_isInPolygon_97 : decode cX12_isInPolygon 97 = .ok (.lconst 0, 1) := by decide +kernel
theorem dX12_isInPolygon_98 : decode cX12_isInPolygon 98 = .ok (.lcmp, 1) := by decide +kernel
theorem dX12_isInPolygon_99 : decode cX12_isInPolygon 99 = .ok (.ifCond .lt 7, 3) := by decide +kernel
theorem dX12_isInPolygon_102 : decode cX12_isInPolygon 102 = .ok (.iconst 1, 1) := by decide +kernel
theorem dX12_isInPolygon_103 : decode cX12_isInPolygon 103 = .ok (.goto 4, 3) := by decide +kernel
theorem dX12_isInPolygon_106 : decode cX12_isInPolygon 106 = .ok (.iconst 0, 1) := by decide +kernel
theorem dX12_isInPolygon_107 : decode cX12_isInPolygon 107 = .ok (.istore 4, 2) := by decide +kernel
theorem dX12_isInPolygon_109 : decode cX12_isInPolygon 109 = .ok (.iload 5, 2) := by decide +kernel
theorem dX12_isInPolygon_111 : decode cX12_isInPolygon 111 = .ok (.ifCond .eq 14, 3) := by decide +kernel
theorem dX12_isInPolygon_114 : decode cX12_isInPolygon 114 = .ok (.lload 13, 2) := by decide +kernel
theorem dX12_isInPolygon_116 : decode cX12_isInPolygon 116 = .ok (.lconst 0, 1) := by decide +kernel
theorem dX12_isInPolygon_117 : decode cX12_isInPolygon 117 = .ok (.lcmp, 1) := by decide +kernel
theorem dX12_isInPolygon_118 : decode cX12_isInPolygon 118 = .ok (.ifCond .gt 7, 3) := by decide +kernel
theorem dX12_isInPolygon_121 : decode cX12_isInPolygon 121 = .ok (.iconst 1, 1) := by decide +kernel
theorem dX12_isInPolygon_122 : decode cX12_isInPolygon 122 = .ok (.goto 4, 3) := by decide +kernel
theorem dX12_isInPolygon_125 : decode cX12_isInPolygon 125 = .ok (.iconst 0, 1) := by decide +kernel
theorem dX12_isInPolygon_126 : decode cX12_isInPolygon 126 = .ok (.istore 5, 2) := by decide +kernel
theorem dX12_isInPolygon_128 : decode cX12_isInPolygon 128 = .ok (.iload 6, 2) := by decide +kernel
theorem dX12_isInPolygon_130 : decode cX12_isInPolygon 130 = .ok (.ifCond .ne 9, 3) := by decide +kernel
theorem dX12_isInPolygon_133 : decode cX12_isInPolygon 133 = .ok (.iload 11, 2) := by decide +kernel
theorem dX12_isInPolygon_135 : decode cX12_isInPolygon 135 = .ok (.iload_n 2, 1) := by decide +kernel
theorem dX12_isInPolygon_136 : decode cX12_isInPolygon 136 = .ok (.if_icmp .gt 7, 3) := by decide +kernel
theorem dX12_isInPolygon_139 : decode cX12_isInPolygon 139 = .ok (.iconst 1, 1) := by decide +kernel
theorem dX12_isInPolygon_140 : decode cX12_isInPolygon 140 = .ok (.goto 4, 3) := by decide +kernel
theorem dX12_isInPolygon_143 : decode cX12_isInPolygon 143 = .ok (.iconst 0, 1) := by decide +kernel
theorem dX12_isInPolygon_144 : decode cX12_isInPolygon 144 = .ok (.istore 6, 2) := by decide +kernel
theorem dX12_isInPolygon_146 : decode cX12_isInPolygon 146 = .ok (.iload 7, 2) := by decide +kernel
theorem dX12_isInPolygon_148 : decode cX12_isInPolygon 148 = .ok (.ifCond .ne 9, 3) := by decide +kernel
theorem dX12_isInPolygon_151 : decode cX12_isInPolygon 151 = .ok (.iload 11, 2) := by decide +kernel
theorem dX12_isInPolygon_153 : decode cX12_isInPolygon 153 = .ok (.iload_n 2, 1) := by decide +kernel
theorem dX12_isInPolygon_154 : decode cX12_isInPolygon 154 = .ok (.if_icmp .lt 7, 3) := by decide +kernel
theorem dX12_isInPolygon_157 : decode cX12_isInPolygon 157 = .ok (.iconst 1, 1) := by decide +kernel
theorem dX12_isInPolygon_158 : decode cX12_isInPolygon 158 = .ok (.goto 4, 3) := by decide +kernel
theorem dX12_isInPolygon_161 : decode cX12_isInPolygon 161 = .ok (.iconst 0, 1) := by decide +kernel
theorem dX12_isInPolygon_162 : decode cX12_isInPolygon 162 = .ok (.istore 7, 2) := by decide +kernel
theorem dX12_isInPolygon_164 : decode cX12_isInPolygon 164 = .ok (.iload 8, 2) := by decide +kernel
theorem dX12_isInPolygon_166 : decode cX12_isInPolygon 166 = .ok (.ifCond .ne 9, 3) := by decide +kernel
theorem dX12_isInPolygon_169 : decode cX12_isInPolygon 169 = .ok (.iload 12, 2) := by decide +kernel
theorem dX12_isInPolygon_171 : decode cX12_isInPolygon 171 = .ok (.iload_n 3, 1) := by decide +kernel
theorem dX12_isInPolygon_172 : decode cX12_isInPolygon 172 = .ok (.if_icmp .lt 7, 3) := by decide +kernel
theorem dX12_isInPolygon_175 : decode cX12_isInPolygon 175 = .ok (.iconst 1, 1) := by decide +kernel
theorem dX12_isInPolygon_176 : decode cX12_isInPolygon 176 = .ok (.goto 4, 3) := by decide +kernel
theorem dX12_isInPolygon_179 : decode cX12_isInPolygon 179 = .ok (.iconst 0, 1) := by decide +kernel
theorem dX12_isInPolygon_180 : decode cX12_isInPolygon 180 = .ok (.istore 8, 2) := by decide +kernel
theorem dX12_isInPolygon_182 : decode cX12_isInPolygon 182 = .ok (.iload 9, 2) := by decide +kernel
theorem dX12_isInPolygon_184 : decode cX12_isInPolygon 184 = .ok (.ifCond .ne 9, 3) := by decide +kernel
theorem dX12_isInPolygon_187 : decode cX12_isInPolygon 187 = .ok (.iload 12, 2) := by decide +kernel
theorem dX12_isInPolygon_189 : decode cX12_isInPolygon 189 = .ok (.iload_n 3, 1) := by decide +kernel
theorem dX12_isInPolygon_190 : decode cX12_isInPolygon 190 = .ok (.if_icmp .gt 7, 3) := by decide +kernel
theorem dX12_isInPolygon_193 : decode cX12_isInPolygon 193 = .ok (.iconst 1, 1) := by decide +kernel
theorem dX12_isInPolygon_194 : decode cX12_isInPolygon 194 = .ok (.goto 4, 3) := by decide +kernel
theorem dX12_isInPolygon_197 : decode cX12_isInPolygon 197 = .ok (.iconst 0, 1) := by decide +kernel
theorem dX12_isInPolygon_198 : decode cX12_isInPolygon 198 = .ok (.istore 9, 2) := by decide +kernel
theorem dX12_isInPolygon_200 : decode cX12_isInPolygon 200 = .ok (.iinc 10 1, 3) := by decide +kernel
theorem dX12_isInPolygon_203 : decode cX12_isInPolygon 203 = .ok (.goto (-182), 3) := by decide +kernel
theorem dX12_isInPolygon_206 : decode cX12_isInPolygon 206 = .ok (.iload 4, 2) := by decide +kernel
theorem dX12_isInPolygon_208 : decode cX12_isInPolygon 208 = .ok (.ifCond .ne 8, 3) := by decide +kernel
theorem dX12_isInPolygon_211 : decode cX12_isInPolygon 211 = .ok (.iload 5, 2) := by decide +kernel
theorem dX12_isInPolygon_213 : decode cX12_isInPolygon 213 = .ok (.ifCond .eq 27, 3) := by decide +kernel
theorem dX12_isInPolygon_216 : decode cX12_isInPolygon 216 = .ok (.iload 6, 2) := by decide +kernel
theorem dX12_isInPolygon_218 : decode cX12_isInPolygon 218 = .ok (.ifCond .eq 22, 3) := by decide +kernel
theorem dX12_isInPolygon_221 : decode cX12_isInPolygon 221 = .ok (.iload 7, 2) := by decide +kernel
theorem dX12_isInPolygon_223 : decode cX12_isInPolygon 223 = .ok (.ifCond .eq 17, 3) := by decide +kernel
theorem dX12_isInPolygon_226 : decode cX12_isInPolygon 226 = .ok (.iload 8, 2) := by decide +kernel
theorem dX12_isInPolygon_228 : decode cX12_isInPolygon 228 = .ok (.ifCond .eq 12, 3) := by decide +kernel
theorem dX12_isInPolygon_231 : decode cX12_isInPolygon 231 = .ok (.iload 9, 2) := by decide +kernel
theorem dX12_isInPolygon_233 : decode cX12_isInPolygon 233 = .ok (.ifCond .eq 7, 3) := by decide +kernel
theorem dX12_isInPolygon_236 : decode cX12_isInPolygon 236 = .ok (.iconst 1, 1) := by decide +kernel
theorem dX12_isInPolygon_237 : decode cX12_isInPolygon 237 = .ok (.goto 4, 3) := by decide +kernel
theorem dX12_isInPolygon_240 : decode cX12_isInPolygon 240 = .ok (.iconst 0, 1) := by decide +kernel
theorem dX12_isInPolygon_241 : decode cX12_isInPolygon 241 = .ok (.ireturn, 1) := by decide +kernel
set_option maxRecDepth 20000 in
theorem ggX12_covers_X12_kindOf : GoodIn wsX12_covers wsX12_kindOf := goodIn_r _ [5, 6, 32, 33, 34, 35, 36, 37, 38, 39, 40, 41, 42, 43, 44, 45, 46, 47, 48, 49, 50, 51, 52, 53, 54, 55, 56, 57, 58, 59, 60, 61, 62] (by decide +kernel) (by decide +kernel)
set_option maxRecDepth 20000 in
theorem gX12_covers_X12_kindOf : GoodIn wsX12_covers (wsV RX12 247 RX12 yX12_kindOf wsX12_kindOf) := goodIn_app (goodIn_of _ (by decide +kernel)) ggX12_covers_X12_kindOf
set_option maxRecDepth 20000 in
theorem ggX12_covers_X12_isInDisc : GoodIn wsX12_covers wsX12_isInDisc := goodIn_r _ [10, 11, 12, 13, 4, 14, 6, 15, 16, 17, 18, 1, 2, 3, 5, 19, 20, 21, 22, 23, 24, 25, 26, 27, 32, 33, 34, 35, 36, 37, 38, 39, 40, 41, 42, 43, 44, 45, 46, 47, 48, 49, 50, 51, 52, 53, 54, 55, 56, 57, 58, 59, 60, 61, 62] (by decide +kernel) (by decide +kernel)
set_option maxRecDepth 20000 in
theorem gX12_covers_X12_isInDisc : GoodIn wsX12_covers (wsV RX12 268 RX12 yX12_isInDisc wsX12_isInDisc) := goodIn_app (goodIn_of _ (by decide +kernel)) ggX12_covers_X12_isInDisc
set_option maxRecDepth 20000 in
theorem ggX12_covers_X12_isInPolygon : GoodIn wsX12_covers wsX12_isInPolygon := goodIn_r _ [31, 15, 16, 17, 4, 18, 1, 2, 3, 5, 6, 11, 12, 13, 14, 19, 20, 21, 22, 32, 33, 34, 35, 36, 37, 38, 39, 40, 41, 42, 43, 44, 45, 46, 47, 48, 49, 50, 51, 52, 53, 54, 55, 56, 57, 58, 59, 60, 61, 62] (by decide +kernel) (by decide +kernel)
set_option maxRecDepth 20000 in
theorem gX12_covers_X12_isInPolygon : GoodIn wsX12_covers (wsV RX12 271 RX12 yX12_isInPolygon wsX12_isInPolygon) := goodIn_app (goodIn_of _ (by decide +kernel)) ggX12_covers_X12_isInPolygon
theorem dX12_covers_0 : decode cX12_covers 0 = .ok (.aload_n 0, 1) := by decide +kernel
theorem dX12_covers_1 : decode cX12_covers 1 = .ok (.iload_n 1, 1) := by decide +kernel
theorem dX12_covers_2 : decode cX12_covers 2 = .ok (.invokevirtual 247, 3) := by decide +kernel
theorem dX12_covers_5 : decode cX12_covers 5 = .ok (.iconst 3, 1) := by decide +kernel
theorem dX12_covers_6 : decode cX12_covers 6 = .ok (.if_icmp .ne 13, 3) := by decide +kernel
theorem dX12_covers_9 : decode cX12_covers 9 = .ok (.aload_n 0, 1) := by decide +kernel
theorem dX12_covers_10 : decode cX12_covers 10 = .ok (.iload_n 1, 1) := by decide +kernel
theorem dX12_covers_11 : decode cX12_covers 11 = .ok (.iload_n 2, 1) := by decide +kernel
theorem dX12_covers_12 : decode cX12_covers 12 = .ok (.iload_n 3, 1) := by decide +kernel
theorem dX12_covers_13 : decode cX12_covers 13 = .ok (.invokevirtual 268, 3) := by decide +kernel
theorem dX12_covers_16 : decode cX12_covers 16 = .ok (.goto 10, 3) := by decide +kernel
theorem dX12_covers_19 : decode cX12_covers 19 = .ok (.aload_n 0, 1) := by decide +kernel
theorem dX12_covers_20 : decode cX12_covers 20 = .ok (.iload_n 1, 1) := by decide +kernel
theorem dX12_covers_21 : decode cX12_covers 21 = .ok (.iload_n 2, 1) := by decide +kernel
theorem dX12_covers_22 : decode cX12_covers 22 = .ok (.iload_n 3, 1) := by decide +kernel
theorem dX12_covers_23 : decode cX12_covers 23 = .ok (.invokevirtual 271, 3) := by decide +kernel
theorem dX12_covers_26 : decode cX12_covers 26 = .ok (.ireturn, 1) := by decide +kernel
set_option maxRecDepth 20000 in
theorem ggX12_covering_X12_within : GoodIn wsX12_covering wsX12_within := goodIn_r _ [5] (by decide +kernel) (by decide +kernel)
set_option maxRecDepth 20000 in
theorem gX12_covering_X12_within : GoodIn wsX12_covering (va_wsS RX12 65 yX12_within wsX12_within) := goodIn_app (goodIn_of _ (by decide +kernel)) ggX12_covering_X12_within
set_option maxRecDepth 20000 in
theorem ggX12_covering_X12_refused : GoodIn wsX12_covering wsX12_refused := goodIn_r _ [9, 10, 182, 183, 184, 185, 186, 187, 188, 189, 190, 191, 192, 193, 194, 195, 196, 197, 198, 199, 200, 201, 202, 203, 204, 205, 206, 207, 208, 209, 210, 211, 212] (by decide +kernel) (by decide +kernel)
set_option maxRecDepth 20000 in
theorem gX12_covering_X12_refused : GoodIn wsX12_covering (wsV RX12 76 RX12 yX12_refused wsX12_refused) := goodIn_app (goodIn_of _ (by decide +kernel)) ggX12_covering_X12_refused
set_option maxRecDepth 20000 in
theorem ggX12_covering_X12_laysPieces : GoodIn wsX12_covering wsX12_laysPieces := goodIn_r _ [14, 1, 15, 16, 17, 18, 19, 20, 4, 21, 22, 23, 24, 25, 26, 27, 28, 29, 30, 31, 32, 33, 34, 35, 36, 37, 38, 39, 40, 41, 42, 43, 44, 45, 46, 47, 48, 49, 50, 51, 52, 53, 54, 55, 56, 57, 58, 59, 60, 61, 62, 63, 64, 65, 66, 67, 68, 69, 70, 71, 72, 73, 74, 75, 76, 77, 78, 79, 80, 81, 82, 83, 84, 85, 86, 87, 88, 89, 90, 91, 92, 93, 94, 95, 96, 97, 98, 99, 100, 101, 102, 103, 104, 105, 106, 107, 108, 109, 110, 111, 112, 113, 114, 115, 116, 117, 118, 119, 120, 121, 122, 123, 124, 125, 126, 127, 128, 129, 130, 131, 132, 133, 134, 135, 136, 137, 138, 139, 140, 141, 142, 143, 144, 145, 146, 147, 148, 149, 150, 151, 152, 153, 182, 183, 184, 185, 186, 187, 188, 189, 190, 191, 192, 193, 194, 195, 196, 197, 198, 199, 200, 201, 202, 203, 204, 205, 206, 207, 208, 209, 210, 211, 212] (by decide +kernel) (by decide +kernel)
set_option maxRecDepth 20000 in
theorem gX12_covering_X12_laysPieces : GoodIn wsX12_covering (wsV RX12 253 RX12 yX12_laysPieces wsX12_laysPieces) := goodIn_app (goodIn_of _ (by decide +kernel)) ggX12_covering_X12_laysPieces
set_option maxRecDepth 20000 in
theorem ggX12_covering_X12_covers : GoodIn wsX12_covering wsX12_covers := goodIn_r _ [157, 158, 159, 160, 4, 161, 85, 162, 163, 164, 165, 166, 167, 168, 169, 170, 171, 172, 173, 174, 175, 176, 177, 73, 74, 75, 76, 15, 178, 179, 180, 181, 182, 183, 184, 185, 186, 187, 188, 189, 190, 191, 192, 193, 194, 195, 196, 197, 198, 199, 200, 201, 202, 203, 204, 205, 206, 207, 208, 209, 210, 211, 212] (by decide +kernel) (by decide +kernel)
set_option maxRecDepth 20000 in
theorem gX12_covering_X12_covers : GoodIn wsX12_covering (wsV RX12 274 RX12 yX12_covers wsX12_covers) := goodIn_app (goodIn_of _ (by decide +kernel)) ggX12_covering_X12_covers
theorem dX12_covering_0 : decode cX12_covering 0 = .ok (.aload_n 0, 1) := by decide +kernel
theorem dX12_covering_1 : decode cX12_covering 1 = .ok (.iload_n 1, 1) := by decide +kernel
theorem dX12_covering_2 : decode cX12_covering 2 = .ok (.sipush (-20000), 3) := by decide +kernel
theorem dX12_covering_5 : decode cX12_covering 5 = .ok (.sipush 20000, 3) := by decide +kernel
theorem dX12_covering_8 : decode cX12_covering 8 = .ok (.invokestatic 65, 3) := by decide +kernel
theorem dX12_covering_11 : decode cX12_covering 11 = .ok (.ifCond .eq 20, 3) := by decide +kernel
theorem dX12_covering_14 : decode cX12_covering 14 = .ok (.iload_n 2, 1) := by decide +kernel
theorem dX12_covering_15 : decode cX12_covering 15 = .ok (.sipush (-20000), 3) := by decide +kernel
theorem dX12_covering_18 : decode cX12_covering 18 = .ok (.sipush 20000, 3) := by decide +kernel
theorem dX12_covering_21 : decode cX12_covering 21 = .ok (.invokestatic 65, 3) := by decide +kernel
theorem dX12_covering_24 : decode cX12_covering 24 = .ok (.ifCond .eq 7, 3) := by decide +kernel
theorem dX12_covering_27 : decode cX12_covering 27 = .ok (.iconst 0, 1) := by decide +kernel
theorem dX12_covering_28 : decode cX12_covering 28 = .ok (.goto 4, 3) := by decide +kernel
theorem dX12_covering_31 : decode cX12_covering 31 = .ok (.iconst 1, 1) := by decide +kernel
theorem dX12_covering_32 : decode cX12_covering 32 = .ok (.invokevirtual 76, 3) := by decide +kernel
theorem dX12_covering_35 : decode cX12_covering 35 = .ok (.ifCond .eq 5, 3) := by decide +kernel
theorem dX12_covering_38 : decode cX12_covering 38 = .ok (.iconst 0, 1) := by decide +kernel
theorem dX12_covering_39 : decode cX12_covering 39 = .ok (.ireturn, 1) := by decide +kernel
theorem dX12_covering_40 : decode cX12_covering 40 = .ok (.aload_n 0, 1) := by decide +kernel
theorem dX12_covering_41 : decode cX12_covering 41 = .ok (.invokevirtual 253, 3) := by decide +kernel
theorem dX12_covering_44 : decode cX12_covering 44 = .ok (.iconst 0, 1) := by decide +kernel
theorem dX12_covering_45 : decode cX12_covering 45 = .ok (.istore_n 3, 1) := by decide +kernel
theorem dX12_covering_46 : decode cX12_covering 46 = .ok (.iconst 0, 1) := by decide +kernel
theorem dX12_covering_47 : decode cX12_covering 47 = .ok (.istore 4, 2) := by decide +kernel
theorem dX12_covering_49 : decode cX12_covering 49 = .ok (.iload 4, 2) := by decide +kernel
theorem dX12_covering_51 : decode cX12_covering 51 = .ok (.aload_n 0, 1) := by decide +kernel
theorem dX12_covering_52 : decode cX12_covering 52 = .ok (.getfield 194, 3) := by decide +kernel
theorem dX12_covering_55 : decode cX12_covering 55 = .ok (.if_icmp .ge 28, 3) := by decide +kernel
theorem dX12_covering_58 : decode cX12_covering 58 = .ok (.iload_n 3, 1) := by decide +kernel
theorem dX12_covering_59 : decode cX12_covering 59 = .ok (.aload_n 0, 1) := by decide +kernel
theorem dX12_covering_60 : decode cX12_covering 60 = .ok (.iload 4, 2) := by decide +kernel
theorem dX12_covering_62 : decode cX12_covering 62 = .ok (.iload_n 1, 1) := by decide +kernel
theorem dX12_covering_63 : decode cX12_covering 63 = .ok (.iload_n 2, 1) := by decide +kernel
theorem dX12_covering_64 : decode cX12_covering 64 = .ok (.invokevirtual 274, 3) := by decide +kernel
theorem dX12_covering_67 : decode cX12_covering 67 = .ok (.ifCond .eq 7, 3) := by decide +kernel
theorem dX12_covering_70 : decode cX12_covering 70 = .ok (.iconst 1, 1) := by decide +kernel
theorem dX12_covering_71 : decode cX12_covering 71 = .ok (.goto 4, 3) := by decide +kernel
theorem dX12_covering_74 : decode cX12_covering 74 = .ok (.iconst 0, 1) := by decide +kernel
theorem dX12_covering_75 : decode cX12_covering 75 = .ok (.iadd, 1) := by decide +kernel
theorem dX12_covering_76 : decode cX12_covering 76 = .ok (.istore_n 3, 1) := by decide +kernel
theorem dX12_covering_77 : decode cX12_covering 77 = .ok (.iinc 4 1, 3) := by decide +kernel
theorem dX12_covering_80 : decode cX12_covering 80 = .ok (.goto (-31), 3) := by decide +kernel
theorem dX12_covering_83 : decode cX12_covering 83 = .ok (.iload_n 3, 1) := by decide +kernel
theorem dX12_covering_84 : decode cX12_covering 84 = .ok (.ireturn, 1) := by decide +kernel
set_option maxRecDepth 20000 in
theorem ggX12_isCovered_X12_covers : GoodIn wsX12_isCovered wsX12_covers := goodIn_r _ [6, 7, 8, 9, 5, 10, 11, 12, 13, 14, 15, 16, 17, 18, 19, 20, 21, 22, 23, 24, 25, 26, 27, 28, 29, 30, 31, 32, 33, 34, 35, 36, 37, 38, 39, 40, 41, 42, 43, 44, 45, 46, 47, 48, 49, 50, 51, 52, 53, 54, 55, 56, 57, 58, 59, 60, 61, 62, 63, 64, 65, 66, 67] (by decide +kernel) (by decide +kernel)
set_option maxRecDepth 20000 in
theorem gX12_isCovered_X12_covers : GoodIn wsX12_isCovered (wsV RX12 274 RX12 yX12_covers wsX12_covers) := goodIn_app (goodIn_of _ (by decide +kernel)) ggX12_isCovered_X12_covers
theorem dX12_isCovered_0 : decode cX12_isCovered 0 = .ok (.iconst 0, 1) := by decide +kernel
theorem dX12_isCovered_1 : decode cX12_isCovered 1 = .ok (.istore_n 3, 1) := by decide +kernel
theorem dX12_isCovered_2 : decode cX12_isCovered 2 = .ok (.iload_n 3, 1) := by decide +kernel
theorem dX12_isCovered_3 : decode cX12_isCovered 3 = .ok (.aload_n 0, 1) := by decide +kernel
theorem dX12_isCovered_4 : decode cX12_isCovered 4 = .ok (.getfield 194, 3) := by decide +kernel
theorem dX12_isCovered_7 : decode cX12_isCovered 7 = .ok (.if_icmp .ge 21, 3) := by decide +kernel
theorem dX12_isCovered_10 : decode cX12_isCovered 10 = .ok (.aload_n 0, 1) := by decide +kernel
theorem dX12_isCovered_11 : decode cX12_isCovered 11 = .ok (.iload_n 3, 1) := by decide +kernel
theorem dX12_isCovered_12 : decode cX12_isCovered 12 = .ok (.iload_n 1, 1) := by decide +kernel
theorem dX12_isCovered_13 : decode cX12_isCovered 13 = .ok (.iload_n 2, 1) := by decide +kernel
theorem dX12_isCovered_14 : decode cX12_isCovered 14 = .ok (.invokevirtual 274, 3) := by decide +kernel
theorem dX12_isCovered_17 : decode cX12_isCovered 17 = .ok (.ifCond .eq 5, 3) := by decide +kernel
theorem dX12_isCovered_20 : decode cX12_isCovered 20 = .ok (.iconst 1, 1) := by decide +kernel
theorem dX12_isCovered_21 : decode cX12_isCovered 21 = .ok (.ireturn, 1) := by decide +kernel
theorem dX12_isCovered_22 : decode cX12_isCovered 22 = .ok (.iinc 3 1, 3) := by decide +kernel
theorem dX12_isCovered_25 : decode cX12_isCovered 25 = .ok (.goto (-23), 3) := by decide +kernel
theorem dX12_isCovered_28 : decode cX12_isCovered 28 = .ok (.iconst 0, 1) := by decide +kernel
theorem dX12_isCovered_29 : decode cX12_isCovered 29 = .ok (.ireturn, 1) := by decide +kernel
set_option maxRecDepth 20000 in
theorem ggX12_covered_X12_isPlace : GoodIn wsX12_covered wsX12_isPlace := goodIn_r _ [4, 5, 6, 3, 7] (by decide +kernel) (by decide +kernel)
set_option maxRecDepth 20000 in
theorem gX12_covered_X12_isPlace : GoodIn wsX12_covered (va_wsS RX12 91 yX12_isPlace wsX12_isPlace) := goodIn_app (goodIn_of _ (by decide +kernel)) ggX12_covered_X12_isPlace
set_option maxRecDepth 20000 in
theorem ggX12_covered_X12_within : GoodIn wsX12_covered wsX12_within := goodIn_r _ [7] (by decide +kernel) (by decide +kernel)
set_option maxRecDepth 20000 in
theorem gX12_covered_X12_within : GoodIn wsX12_covered (va_wsS RX12 65 yX12_within wsX12_within) := goodIn_app (goodIn_of _ (by decide +kernel)) ggX12_covered_X12_within
set_option maxRecDepth 20000 in
theorem ggX12_covered_X12_refused : GoodIn wsX12_covered wsX12_refused := goodIn_r _ [11, 12, 189, 190, 191, 192, 193, 194, 195, 196, 197, 198, 199, 200, 201, 202, 203, 204, 205, 206, 207, 208, 209, 210, 211, 212, 213, 214, 215, 216, 217, 218, 219] (by decide +kernel) (by decide +kernel)
set_option maxRecDepth 20000 in
theorem gX12_covered_X12_refused : GoodIn wsX12_covered (wsV RX12 76 RX12 yX12_refused wsX12_refused) := goodIn_app (goodIn_of _ (by decide +kernel)) ggX12_covered_X12_refused
set_option maxRecDepth 20000 in
theorem ggX12_covered_X12_laysPieces : GoodIn wsX12_covered wsX12_laysPieces := goodIn_r _ [16, 17, 18, 19, 20, 21, 22, 23, 3, 24, 25, 26, 27, 28, 29, 30, 31, 32, 33, 34, 35, 36, 37, 38, 39, 40, 41, 42, 43, 44, 45, 46, 47, 48, 49, 50, 51, 52, 53, 54, 55, 56, 57, 58, 59, 60, 61, 62, 63, 64, 65, 66, 67, 68, 69, 70, 71, 72, 73, 74, 75, 76, 77, 78, 79, 80, 81, 82, 83, 84, 85, 86, 87, 88, 89, 90, 91, 92, 93, 94, 95, 96, 97, 98, 99, 100, 101, 102, 103, 104, 105, 106, 107, 108, 109, 110, 111, 112, 113, 114, 115, 116, 117, 118, 119, 120, 121, 122, 123, 124, 125, 126, 127, 128, 129, 130, 131, 132, 133, 134, 135, 136, 137, 138, 139, 140, 141, 142, 143, 144, 145, 146, 147, 148, 149, 150, 151, 152, 153, 154, 155, 156, 189, 190, 191, 192, 193, 194, 195, 196, 197, 198, 199, 200, 201, 202, 203, 204, 205, 206, 207, 208, 209, 210, 211, 212, 213, 214, 215, 216, 217, 218, 219] (by decide +kernel) (by decide +kernel)
set_option maxRecDepth 20000 in
theorem gX12_covered_X12_laysPieces : GoodIn wsX12_covered (wsV RX12 253 RX12 yX12_laysPieces wsX12_laysPieces) := goodIn_app (goodIn_of _ (by decide +kernel)) ggX12_covered_X12_laysPieces
set_option maxRecDepth 20000 in
theorem ggX12_covered_X12_isCovered : GoodIn wsX12_covered wsX12_isCovered := goodIn_r _ [160, 17, 161, 162, 163, 3, 164, 165, 166, 167, 168, 88, 169, 170, 171, 172, 173, 174, 175, 176, 177, 178, 179, 180, 181, 182, 183, 184, 76, 77, 78, 79, 18, 185, 186, 187, 188, 189, 190, 191, 192, 193, 194, 195, 196, 197, 198, 199, 200, 201, 202, 203, 204, 205, 206, 207, 208, 209, 210, 211, 212, 213, 214, 215, 216, 217, 218, 219] (by decide +kernel) (by decide +kernel)
set_option maxRecDepth 20000 in
theorem gX12_covered_X12_isCovered : GoodIn wsX12_covered (wsV RX12 277 RX12 yX12_isCovered wsX12_isCovered) := goodIn_app (goodIn_of _ (by decide +kernel)) ggX12_covered_X12_isCovered
theorem dX12_covered_0 : decode cX12_covered 0 = .ok (.aload_n 0, 1) := by decide +kernel
theorem dX12_covered_1 : decode cX12_covered 1 = .ok (.iload_n 1, 1) := by decide +kernel
theorem dX12_covered_2 : decode cX12_covered 2 = .ok (.iload_n 2, 1) := by decide +kernel
theorem dX12_covered_3 : decode cX12_covered 3 = .ok (.invokestatic 91, 3) := by decide +kernel
theorem dX12_covered_6 : decode cX12_covered 6 = .ok (.ifCond .eq 28, 3) := by decide +kernel
theorem dX12_covered_9 : decode cX12_covered 9 = .ok (.iload_n 3, 1) := by decide +kernel
theorem dX12_covered_10 : decode cX12_covered 10 = .ok (.iconst 0, 1) := by decide +kernel
theorem dX12_covered_11 : decode cX12_covered 11 = .ok (.bipush 20, 2) := by decide +kernel
theorem dX12_covered_13 : decode cX12_covered 13 = .ok (.invokestatic 65, 3) := by decide +kernel
theorem dX12_covered_16 : decode cX12_covered 16 = .ok (.ifCond .eq 18, 3) := by decide +kernel
theorem dX12_covered_19 : decode cX12_covered 19 = .ok (.iload 4, 2) := by decide +kernel
theorem dX12_covered_21 : decode cX12_covered 21 = .ok (.iconst 0, 1) := by decide +kernel
theorem dX12_covered_22 : decode cX12_covered 22 = .ok (.bipush 20, 2) := by decide +kernel
theorem dX12_covered_24 : decode cX12_covered 24 = .ok (.invokestatic 65, 3) := by decide +kernel
theorem dX12_covered_27 : decode cX12_covered 27 = .ok (.ifCond .eq 7, 3) := by decide +kernel
theorem dX12_covered_30 : decode cX12_covered 30 = .ok (.iconst 0, 1) := by decide +kernel
theorem dX12_covered_31 : decode cX12_covered 31 = .ok (.goto 4, 3) := by decide +kernel
theorem dX12_covered_34 : decode cX12_covered 34 = .ok (.iconst 1, 1) := by decide +kernel
theorem dX12_covered_35 : decode cX12_covered 35 = .ok (.invokevirtual 76, 3) := by decide +kernel
theorem dX12_covered_38 : decode cX12_covered 38 = .ok (.ifCond .eq 5, 3) := by decide +kernel
theorem dX12_covered_41 : decode cX12_covered 41 = .ok (.iconst 0, 1) := by decide +kernel
theorem dX12_covered_42 : decode cX12_covered 42 = .ok (.ireturn, 1) := by decide +kernel
theorem dX12_covered_43 : decode cX12_covered 43 = .ok (.aload_n 0, 1) := by decide +kernel
theorem dX12_covered_44 : decode cX12_covered 44 = .ok (.invokevirtual 253, 3) := by decide +kernel
theorem dX12_covered_47 : decode cX12_covered 47 = .ok (.iconst 0, 1) := by decide +kernel
theorem dX12_covered_48 : decode cX12_covered 48 = .ok (.istore 5, 2) := by decide +kernel
theorem dX12_covered_50 : decode cX12_covered 50 = .ok (.iload_n 1, 1) := by decide +kernel
theorem dX12_covered_51 : decode cX12_covered 51 = .ok (.istore 6, 2) := by decide +kernel
theorem dX12_covered_53 : decode cX12_covered 53 = .ok (.iload 6, 2) := by decide +kernel
theorem dX12_covered_55 : decode cX12_covered 55 = .ok (.iload_n 1, 1) := by decide +kernel
theorem dX12_covered_56 : decode cX12_covered 56 = .ok (.iload_n 3, 1) := by decide +kernel
theorem dX12_covered_57 : decode cX12_covered 57 = .ok (.iadd, 1) := by decide +kernel
theorem dX12_covered_58 : decode cX12_covered 58 = .ok (.if_icmp .gt 54, 3) := by decide +kernel
theorem dX12_covered_61 : decode cX12_covered 61 = .ok (.iload_n 2, 1) := by decide +kernel
theorem dX12_covered_62 : decode cX12_covered 62 = .ok (.istore 7, 2) := by decide +kernel
theorem dX12_covered_64 : decode cX12_covered 64 = .ok (.iload 7, 2) := by decide +kernel
theorem dX12_covered_66 : decode cX12_covered 66 = .ok (.iload_n 2, 1) := by decide +kernel
theorem dX12_covered_67 : decode cX12_covered 67 = .ok (.iload 4, 2) := by decide +kernel
theorem dX12_covered_69 : decode cX12_covered 69 = .ok (.iadd, 1) := by decide +kernel
theorem dX12_covered_70 : decode cX12_covered 70 = .ok (.if_icmp .gt 36, 3) := by decide +kernel
theorem dX12_covered_73 : decode cX12_covered 73 = .ok (.iload 5, 2) := by decide +kernel
theorem dX12_covered_75 : decode cX12_covered 75 = .ok (.aload_n 0, 1) := by decide +kernel
theorem dX12_covered_76 : decode cX12_covered 76 = .ok (.bipush 64, 2) := by decide +kernel
theorem dX12_covered_78 : decode cX12_covered 78 = .ok (.iload 6, 2) := by decide +kernel
theorem dX12_covered_80 : decode cX12_covered 80 = .ok (.imul, 1) := by decide +kernel
theorem dX12_covered_81 : decode cX12_covered 81 = .ok (.bipush 64, 2) := by decide +kernel
theorem dX12_covered_83 : decode cX12_covered 83 = .ok (.iload 7, 2) := by decide +kernel
theorem dX12_covered_85 : decode cX12_covered 85 = .ok (.imul, 1) := by decide +kernel
theorem dX12_covered_86 : decode cX12_covered 86 = .ok (.invokevirtual 277, 3) := by decide +kernel
theorem dX12_covered_89 : decode cX12_covered 89 = .ok (.ifCond .eq 7, 3) := by decide +kernel
theorem dX12_covered_92 : decode cX12_covered 92 = .ok (.iconst 1, 1) := by decide +kernel
theorem dX12_covered_93 : decode cX12_covered 93 = .ok (.goto 4, 3) := by decide +kernel
theorem dX12_covered_96 : decode cX12_covered 96 = .ok (.iconst 0, 1) := by decide +kernel
theorem dX12_covered_97 : decode cX12_covered 97 = .ok (.iadd, 1) := by decide +kernel
theorem dX12_covered_98 : decode cX12_covered 98 = .ok (.istore 5, 2) := by decide +kernel
theorem dX12_covered_100 : decode cX12_covered 100 = .ok (.iinc 7 1, 3) := by decide +kernel
theorem dX12_covered_103 : decode cX12_covered 103 = .ok (.goto (-39), 3) := by decide +kernel
theorem dX12_covered_106 : decode cX12_covered 106 = .ok (.iinc 6 1, 3) := by decide +kernel
theorem dX12_covered_109 : decode cX12_covered 109 = .ok (.goto (-56), 3) := by decide +kernel
theorem dX12_covered_112 : decode cX12_covered 112 = .ok (.iload 5, 2) := by decide +kernel
theorem dX12_covered_114 : decode cX12_covered 114 = .ok (.ireturn, 1) := by decide +kernel
set_option maxRecDepth 20000 in
theorem ggX12_nearest_X12_isPlace : GoodIn wsX12_nearest wsX12_isPlace := goodIn_r _ [5, 6, 7, 4, 8] (by decide +kernel) (by decide +kernel)
set_option maxRecDepth 20000 in
theorem gX12_nearest_X12_isPlace : GoodIn wsX12_nearest (va_wsS RX12 91 yX12_isPlace wsX12_isPlace) := goodIn_app (goodIn_of _ (by decide +kernel)) ggX12_nearest_X12_isPlace
set_option maxRecDepth 20000 in
theorem ggX12_nearest_X12_refused : GoodIn wsX12_nearest wsX12_refused := goodIn_r _ [12, 13, 29, 30, 31, 32, 33, 34, 35, 36, 37, 38, 39, 40, 41, 42, 43, 44, 45, 46, 47, 48, 49, 50, 51, 52, 53, 54, 55, 56, 57, 58, 59] (by decide +kernel) (by decide +kernel)
set_option maxRecDepth 20000 in
theorem gX12_nearest_X12_refused : GoodIn wsX12_nearest (wsV RX12 76 RX12 yX12_refused wsX12_refused) := goodIn_app (goodIn_of _ (by decide +kernel)) ggX12_nearest_X12_refused
set_option maxRecDepth 20000 in
theorem ggX12_nearest_X12_points : GoodIn wsX12_nearest wsX12_points := goodIn_r _ [17, 1, 18, 19, 4, 20, 29, 30, 31, 32, 33, 34, 35, 36, 37, 38, 39, 40, 41, 42, 43, 44, 45, 46, 47, 48, 49, 50, 51, 52, 53, 54, 55, 56, 57, 58, 59] (by decide +kernel) (by decide +kernel)
set_option maxRecDepth 20000 in
theorem gX12_nearest_X12_points : GoodIn wsX12_nearest (wsV RX12 88 RX12 yX12_points wsX12_points) := goodIn_app (goodIn_of _ (by decide +kernel)) ggX12_nearest_X12_points
set_option maxRecDepth 20000 in
theorem ggX12_nearest_X12_x : GoodIn wsX12_nearest wsX12_x := goodIn_r _ [24, 1, 18, 19, 4, 20, 29, 30, 31, 32, 33, 34, 35, 36, 37, 38, 39, 40, 41, 42, 43, 44, 45, 46, 47, 48, 49, 50, 51, 52, 53, 54, 55, 56, 57, 58, 59] (by decide +kernel) (by decide +kernel)
set_option maxRecDepth 20000 in
theorem gX12_nearest_X12_x : GoodIn wsX12_nearest (wsV RX12 122 RX12 yX12_x wsX12_x) := goodIn_app (goodIn_of _ (by decide +kernel)) ggX12_nearest_X12_x
set_option maxRecDepth 20000 in
theorem ggX12_nearest_X12_y : GoodIn wsX12_nearest wsX12_y := goodIn_r _ [28, 1, 18, 19, 4, 20, 29, 30, 31, 32, 33, 34, 35, 36, 37, 38, 39, 40, 41, 42, 43, 44, 45, 46, 47, 48, 49, 50, 51, 52, 53, 54, 55, 56, 57, 58, 59] (by decide +kernel) (by decide +kernel)
set_option maxRecDepth 20000 in
theorem gX12_nearest_X12_y : GoodIn wsX12_nearest (wsV RX12 126 RX12 yX12_y wsX12_y) := goodIn_app (goodIn_of _ (by decide +kernel)) ggX12_nearest_X12_y
theorem dX12_nearest_0 : decode cX12_nearest 0 = .ok (.aload_n 0, 1) := by decide +kernel
theorem dX12_nearest_1 : decode cX12_nearest 1 = .ok (.iload_n 1, 1) := by decide +kernel
theorem dX12_nearest_2 : decode cX12_nearest 2 = .ok (.iload_n 2, 1) := by decide +kernel
theorem dX12_nearest_3 : decode cX12_nearest 3 = .ok (.invokestatic 91, 3) := by decide +kernel
theorem dX12_nearest_6 : decode cX12_nearest 6 = .ok (.ifCond .eq 7, 3) := by decide +kernel
theorem dX12_nearest_9 : decode cX12_nearest 9 = .ok (.iconst 0, 1) := by decide +kernel
theorem dX12_nearest_10 : decode cX12_nearest 10 = .ok (.goto 4, 3) := by decide +kernel
theorem dX12_nearest_13 : decode cX12_nearest 13 = .ok (.iconst 1, 1) := by decide +kernel
theorem dX12_nearest_14 : decode cX12_nearest 14 = .ok (.invokevirtual 76, 3) := by decide +kernel
theorem dX12_nearest_17 : decode cX12_nearest 17 = .ok (.ifCond .eq 5, 3) := by decide +kernel
theorem dX12_nearest_20 : decode cX12_nearest 20 = .ok (.iconst 0, 1) := by decide +kernel
theorem dX12_nearest_21 : decode cX12_nearest 21 = .ok (.ireturn, 1) := by decide +kernel
theorem dX12_nearest_22 : decode cX12_nearest 22 = .ok (.iconst (-1), 1) := by decide +kernel
theorem dX12_nearest_23 : decode cX12_nearest 23 = .ok (.istore_n 3, 1) := by decide +kernel
theorem dX12_nearest_24 : decode cX12_nearest 24 = .ok (.iconst 0, 1) := by decide +kernel
theorem dX12_nearest_25 : decode cX12_nearest 25 = .ok (.istore 4, 2) := by decide +kernel
theorem dX12_nearest_27 : decode cX12_nearest 27 = .ok (.iload 4, 2) := by decide +kernel
theorem dX12_nearest_29 : decode cX12_nearest 29 = .ok (.aload_n 0, 1) := by decide +kernel
theorem dX12_nearest_30 : decode cX12_nearest 30 = .ok (.getfield 7, 3) := by decide +kernel
theorem dX12_nearest_33 : decode cX12_nearest 33 = .ok (.bipush 13, 2) := by decide +kernel
theorem dX12_nearest_35 : decode cX12_nearest 35 = .ok (.iaload, 1) := by decide +kernel
theorem dX12_nearest_36 : decode cX12_nearest 36 = .ok (.if_icmp .ge 89, 3) := by decide +kernel
theorem dX12_nearest_39 : decode cX12_nearest 39 = .ok (.iconst 0, 1) := by decide +kernel
theorem dX12_nearest_40 : decode cX12_nearest 40 = .ok (.istore 5, 2) := by decide +kernel
theorem dX12_nearest_42 : decode cX12_nearest 42 = .ok (.iload 5, 2) := by decide +kernel
theorem dX12_nearest_44 : decode cX12_nearest 44 = .ok (.aload_n 0, 1) := by decide +kernel
theorem dX12_nearest_45 : decode cX12_nearest 45 = .ok (.iload 4, 2) := by decide +kernel
theorem dX12_nearest_47 : decode cX12_nearest 47 = .ok (.invokevirtual 88, 3) := by decide +kernel
theorem dX12_nearest_50 : decode cX12_nearest 50 = .ok (.if_icmp .ge 69, 3) := by decide +kernel
theorem dX12_nearest_53 : decode cX12_nearest 53 = .ok (.aload_n 0, 1) := by decide +kernel
theorem dX12_nearest_54 : decode cX12_nearest 54 = .ok (.iload 4, 2) := by decide +kernel
theorem dX12_nearest_56 : decode cX12_nearest 56 = .ok (.iload 5, 2) := by decide +kernel
theorem dX12_nearest_58 : decode cX12_nearest 58 = .ok (.invokevirtual 122, 3) := by decide +kernel
theorem dX12_nearest_61 : decode cX12_nearest 61 = .ok (.iload_n 1, 1) := by decide +kernel
theorem dX12_nearest_62 : decode cX12_nearest 62 = .ok (.isub, 1) := by decide +kernel
theorem dX12_nearest_63 : decode cX12_nearest 63 = .ok (.istore 6, 2) := by decide +kernel
theorem dX12_nearest_65 : decode cX12_nearest 65 = .ok (.aload_n 0, 1) := by decide +kernel
theorem dX12_nearest_66 : decode cX12_nearest 66 = .ok (.iload 4, 2) := by decide +kernel
theorem dX12_nearest_68 : decode cX12_nearest 68 = .ok (.iload 5, 2) := by decide +kernel
theorem dX12_nearest_70 : decode cX12_nearest 70 = .ok (.invokevirtual 126, 3) := by decide +kernel
theorem dX12_nearest_73 : decode cX12_nearest 73 = .ok (.iload_n 2, 1) := by decide +kernel
theorem dX12_nearest_74 : decode cX12_nearest 74 = .ok (.isub, 1) := by decide +kernel
theorem dX12_nearest_75 : decode cX12_nearest 75 = .ok (.istore 7, 2) := by decide +kernel
theorem dX12_nearest_77 : decode cX12_nearest 77 = .ok (.iload_n 3, 1) := by decide +kernel
theorem dX12_nearest_78 : decode cX12_nearest 78 = .ok (.iconst (-1), 1) := by decide +kernel
theorem dX12_nearest_79 : decode cX12_nearest 79 = .ok (.if_icmp .eq 18, 3) := by decide +kernel
theorem dX12_nearest_82 : decode cX12_nearest 82 = .ok (.iload 6, 2) := by decide +kernel
theorem dX12_nearest_84 : decode cX12_nearest 84 = .ok (.iload 6, 2) := by decide +kernel
theorem dX12_nearest_86 : decode cX12_nearest 86 = .ok (.imul, 1) := by decide +kernel
theorem dX12_nearest_87 : decode cX12_nearest 87 = .ok (.iload 7, 2) := by decide +kernel
theorem dX12_nearest_89 : decode cX12_nearest 89 = .ok (.iload 7, 2) := by decide +kernel
theorem dX12_nearest_91 : decode cX12_nearest 91 = .ok (.imul, 1) := by decide +kernel
theorem dX12_nearest_92 : decode cX12_nearest 92 = .ok (.iadd, 1) := by decide +kernel
theorem dX12_nearest_93 : decode cX12_nearest 93 = .ok (.iload_n 3, 1) := by decide +kernel
theorem dX12_nearest_94 : decode cX12_nearest 94 = .ok (.if_icmp .ge 17, 3) := by decide +kernel
theorem dX12_nearest_97 : decode cX12_nearest 97 = .ok (.iload 6, 2) := by decide +kernel
theorem dX12_nearest_99 : decode cX12_nearest 99 = .ok (.iload 6, 2) := by decide +kernel
theorem dX12_nearest_101 : decode cX12_nearest 101 = .ok (.imul, 1) := by decide +kernel
theorem dX12_nearest_102 : decode cX12_nearest 102 = .ok (.iload 7, 2) := by decide +kernel
theorem dX12_nearest_104 : decode cX12_nearest 104 = .ok (.iload 7, 2) := by decide +kernel
theorem dX12_nearest_106 : decode cX12_nearest 106 = .ok (.imul, 1) := by decide +kernel
theorem dX12_nearest_107 : decode cX12_nearest 107 = .ok (.iadd, 1) := by decide +kernel
theorem dX12_nearest_108 : decode cX12_nearest 108 = .ok (.goto 4, 3) := by decide +kernel
theorem dX12_nearest_111 : decode cX12_nearest 111 = .ok (.iload_n 3, 1) := by decide +kernel
theorem dX12_nearest_112 : decode cX12_nearest 112 = .ok (.istore_n 3, 1) := by decide +kernel
theorem dX12_nearest_113 : decode cX12_nearest 113 = .ok (.iinc 5 1, 3) := by decide +kernel
theorem dX12_nearest_116 : decode cX12_nearest 116 = .ok (.goto (-74), 3) := by decide +kernel
theorem dX12_nearest_119 : decode cX12_nearest 119 = .ok (.iinc 4 1, 3) := by decide +kernel
theorem dX12_nearest_122 : decode cX12_nearest 122 = .ok (.goto (-95), 3) := by decide +kernel
theorem dX12_nearest_125 : decode cX12_nearest 125 = .ok (.iload_n 3, 1) := by decide +kernel
theorem dX12_nearest_126 : decode cX12_nearest 126 = .ok (.ireturn, 1) := by decide +kernel
set_option maxRecDepth 20000 in
theorem ggX12_append_X12_within : GoodIn wsX12_append wsX12_within := goodIn_r _ [6] (by decide +kernel) (by decide +kernel)
set_option maxRecDepth 20000 in
theorem gX12_append_X12_within : GoodIn wsX12_append (va_wsS RX12 65 yX12_within wsX12_within) := goodIn_app (goodIn_of _ (by decide +kernel)) ggX12_append_X12_within
set_option maxRecDepth 20000 in
theorem ggX12_append_X12_refused : GoodIn wsX12_append wsX12_refused := goodIn_r _ [10, 11, 12, 13, 14, 15, 16, 17, 18, 19, 20, 21, 22, 23, 24, 25, 26, 27, 28, 29, 30, 31, 32, 33, 34, 35, 36, 37, 38, 39, 40, 41, 42] (by decide +kernel) (by decide +kernel)
set_option maxRecDepth 20000 in
theorem gX12_append_X12_refused : GoodIn wsX12_append (wsV RX12 76 RX12 yX12_refused wsX12_refused) := goodIn_app (goodIn_of _ (by decide +kernel)) ggX12_append_X12_refused
theorem dX12_append_0 : decode cX12_append 0 = .ok (.aload_n 0, 1) := by decide +kernel
theorem dX12_append_1 : decode cX12_append 1 = .ok (.iload_n 1, 1) := by decide +kernel
theorem dX12_append_2 : decode cX12_append 2 = .ok (.iconst 0, 1) := by decide +kernel
theorem dX12_append_3 : decode cX12_append 3 = .ok (.bipush 127, 2) := by decide +kernel
theorem dX12_append_5 : decode cX12_append 5 = .ok (.invokestatic 65, 3) := by decide +kernel
theorem dX12_append_8 : decode cX12_append 8 = .ok (.ifCond .ne 7, 3) := by decide +kernel
theorem dX12_append_11 : decode cX12_append 11 = .ok (.iconst 1, 1) := by decide +kernel
theorem dX12_append_12 : decode cX12_append 12 = .ok (.goto 18, 3) := by decide +kernel
theorem dX12_append_15 : decode cX12_append 15 = .ok (.aload_n 0, 1) := by decide +kernel
theorem dX12_append_16 : decode cX12_append 16 = .ok (.getfield 280, 3) := by decide +kernel
theorem dX12_append_19 : decode cX12_append 19 = .ok (.sipush 150, 3) := by decide +kernel
theorem dX12_append_22 : decode cX12_append 22 = .ok (.if_icmp .ne 7, 3) := by decide +kernel
theorem dX12_append_25 : decode cX12_append 25 = .ok (.iconst 2, 1) := by decide +kernel
theorem dX12_append_26 : decode cX12_append 26 = .ok (.goto 4, 3) := by decide +kernel
theorem dX12_append_29 : decode cX12_append 29 = .ok (.iconst 0, 1) := by decide +kernel
theorem dX12_append_30 : decode cX12_append 30 = .ok (.invokevirtual 76, 3) := by decide +kernel
theorem dX12_append_33 : decode cX12_append 33 = .ok (.ifCond .eq 5, 3) := by decide +kernel
theorem dX12_append_36 : decode cX12_append 36 = .ok (.iconst 0, 1) := by decide +kernel
theorem dX12_append_37 : decode cX12_append 37 = .ok (.ireturn, 1) := by decide +kernel
theorem dX12_append_38 : decode cX12_append 38 = .ok (.aload_n 0, 1) := by decide +kernel
theorem dX12_append_39 : decode cX12_append 39 = .ok (.getfield 16, 3) := by decide +kernel
theorem dX12_append_42 : decode cX12_append 42 = .ok (.aload_n 0, 1) := by decide +kernel
theorem dX12_append_43 : decode cX12_append 43 = .ok (.getfield 280, 3) := by decide +kernel
theorem dX12_append_46 : decode cX12_append 46 = .ok (.iload_n 1, 1) := by decide +kernel
theorem dX12_append_47 : decode cX12_append 47 = .ok (.iastore, 1) := by decide +kernel
theorem dX12_append_48 : decode cX12_append 48 = .ok (.aload_n 0, 1) := by decide +kernel
theorem dX12_append_49 : decode cX12_append 49 = .ok (.dup, 1) := by decide +kernel
theorem dX12_append_50 : decode cX12_append 50 = .ok (.getfield 280, 3) := by decide +kernel
theorem dX12_append_53 : decode cX12_append 53 = .ok (.iconst 1, 1) := by decide +kernel
theorem dX12_append_54 : decode cX12_append 54 = .ok (.iadd, 1) := by decide +kernel
theorem dX12_append_55 : decode cX12_append 55 = .ok (.putfield 280, 3) := by decide +kernel
theorem dX12_append_58 : decode cX12_append 58 = .ok (.aload_n 0, 1) := by decide +kernel
theorem dX12_append_59 : decode cX12_append 59 = .ok (.getfield 280, 3) := by decide +kernel
theorem dX12_append_62 : decode cX12_append 62 = .ok (.ireturn, 1) := by decide +kernel
theorem dX12_clearText_0 : decode cX12_clearText 0 = .ok (.aload_n 0, 1) := by decide +kernel
theorem dX12_clearText_1 : decode cX12_clearText 1 = .ok (.iconst 0, 1) := by decide +kernel
theorem dX12_clearText_2 : decode cX12_clearText 2 = .ok (.putfield 61, 3) := by decide +kernel
theorem dX12_clearText_5 : decode cX12_clearText 5 = .ok (.aload_n 0, 1) := by decide +kernel
theorem dX12_clearText_6 : decode cX12_clearText 6 = .ok (.getfield 280, 3) := by decide +kernel
theorem dX12_clearText_9 : decode cX12_clearText 9 = .ok (.istore_n 1, 1) := by decide +kernel
theorem dX12_clearText_10 : decode cX12_clearText 10 = .ok (.aload_n 0, 1) := by decide +kernel
theorem dX12_clearText_11 : decode cX12_clearText 11 = .ok (.iconst 0, 1) := by decide +kernel
theorem dX12_clearText_12 : decode cX12_clearText 12 = .ok (.putfield 280, 3) := by decide +kernel
theorem dX12_clearText_15 : decode cX12_clearText 15 = .ok (.iload_n 1, 1) := by decide +kernel
theorem dX12_clearText_16 : decode cX12_clearText 16 = .ok (.ireturn, 1) := by decide +kernel
set_option maxRecDepth 20000 in
theorem ggX12_isAt_X12_within : GoodIn wsX12_isAt wsX12_within := goodIn_r _ [7] (by decide +kernel) (by decide +kernel)
set_option maxRecDepth 20000 in
theorem gX12_isAt_X12_within : GoodIn wsX12_isAt (va_wsS RX12 65 yX12_within wsX12_within) := goodIn_app (goodIn_of _ (by decide +kernel)) ggX12_isAt_X12_within
theorem dX12_isAt_0 : decode cX12_isAt 0 = .ok (.aload_n 0, 1) := by decide +kernel
theorem dX12_isAt_1 : decode cX12_isAt 1 = .ok (.getfield 283, 3) := by decide +kernel
theorem dX12_isAt_4 : decode cX12_isAt 4 = .ok (.aload_n 0, 1) := by decide +kernel
theorem dX12_isAt_5 : decode cX12_isAt 5 = .ok (.getfield 280, 3) := by decide +kernel
theorem dX12_isAt_8 : decode cX12_isAt 8 = .ok (.if_icmp .ge 24, 3) := by decide +kernel
theorem dX12_isAt_11 : decode cX12_isAt 11 = .ok (.aload_n 0, 1) := by decide +kernel
theorem dX12_isAt_12 : decode cX12_isAt 12 = .ok (.getfield 16, 3) := by decide +kernel
theorem dX12_isAt_15 : decode cX12_isAt 15 = .ok (.aload_n 0, 1) := by decide +kernel
theorem dX12_isAt_16 : decode cX12_isAt 16 = .ok (.getfield 283, 3) := by decide +kernel
theorem dX12_isAt_19 : decode cX12_isAt 19 = .ok (.iaload, 1) := by decide +kernel
theorem dX12_isAt_20 : decode cX12_isAt 20 = .ok (.iload_n 1, 1) := by decide +kernel
theorem dX12_isAt_21 : decode cX12_isAt 21 = .ok (.iload_n 2, 1) := by decide +kernel
theorem dX12_isAt_22 : decode cX12_isAt 22 = .ok (.invokestatic 65, 3) := by decide +kernel
theorem dX12_isAt_25 : decode cX12_isAt 25 = .ok (.ifCond .eq 7, 3) := by decide +kernel
theorem dX12_isAt_28 : decode cX12_isAt 28 = .ok (.iconst 1, 1) := by decide +kernel
theorem dX12_isAt_29 : decode cX12_isAt 29 = .ok (.goto 4, 3) := by decide +kernel
theorem dX12_isAt_32 : decode cX12_isAt 32 = .ok (.iconst 0, 1) := by decide +kernel
theorem dX12_isAt_33 : decode cX12_isAt 33 = .ok (.ireturn, 1) := by decide +kernel
set_option maxRecDepth 20000 in
theorem ggX12_passes_X12_isAt : GoodIn wsX12_passes wsX12_isAt := goodIn_r _ [6, 1, 7, 8, 9, 10, 5, 11, 12, 13, 14, 15, 16, 17, 18, 19, 20, 21, 22, 23, 24, 25, 26, 27, 28, 29, 30, 31, 32, 33, 34, 35, 36, 37, 38, 39, 40, 41, 42] (by decide +kernel) (by decide +kernel)
set_option maxRecDepth 20000 in
theorem gX12_passes_X12_isAt : GoodIn wsX12_passes (wsV RX12 286 RX12 yX12_isAt wsX12_isAt) := goodIn_app (goodIn_of _ (by decide +kernel)) ggX12_passes_X12_isAt
theorem dX12_passes_0 : decode cX12_passes 0 = .ok (.aload_n 0, 1) := by decide +kernel
theorem dX12_passes_1 : decode cX12_passes 1 = .ok (.iload_n 1, 1) := by decide +kernel
theorem dX12_passes_2 : decode cX12_passes 2 = .ok (.iload_n 1, 1) := by decide +kernel
theorem dX12_passes_3 : decode cX12_passes 3 = .ok (.invokevirtual 286, 3) := by decide +kernel
theorem dX12_passes_6 : decode cX12_passes 6 = .ok (.istore_n 2, 1) := by decide +kernel
theorem dX12_passes_7 : decode cX12_passes 7 = .ok (.aload_n 0, 1) := by decide +kernel
theorem dX12_passes_8 : decode cX12_passes 8 = .ok (.dup, 1) := by decide +kernel
theorem dX12_passes_9 : decode cX12_passes 9 = .ok (.getfield 283, 3) := by decide +kernel
theorem dX12_passes_12 : decode cX12_passes 12 = .ok (.iload_n 2, 1) := by decide +kernel
theorem dX12_passes_13 : decode cX12_passes 13 = .ok (.ifCond .eq 7, 3) := by decide +kernel
theorem dX12_passes_16 : decode cX12_passes 16 = .ok (.iconst 1, 1) := by decide +kernel
theorem dX12_passes_17 : decode cX12_passes 17 = .ok (.goto 4, 3) := by decide +kernel
theorem dX12_passes_20 : decode cX12_passes 20 = .ok (.iconst 0, 1) := by decide +kernel
theorem dX12_passes_21 : decode cX12_passes 21 = .ok (.iadd, 1) := by decide +kernel
theorem dX12_passes_22 : decode cX12_passes 22 = .ok (.putfield 283, 3) := by decide +kernel
theorem dX12_passes_25 : decode cX12_passes 25 = .ok (.iload_n 2, 1) := by decide +kernel
theorem dX12_passes_26 : decode cX12_passes 26 = .ok (.ireturn, 1) := by decide +kernel
set_option maxRecDepth 20000 in
theorem ggX12_reads_X12_passes : GoodIn wsX12_reads wsX12_passes := goodIn_r _ [8, 1, 9, 10, 11, 7, 12, 13, 3, 14, 15, 16, 17, 18, 19, 20, 21, 22, 23, 24, 25, 26, 27, 28, 29, 30, 31, 32, 33, 34, 35, 36, 37, 38, 39, 40, 41, 42, 43, 44, 45, 46, 47] (by decide +kernel) (by decide +kernel)
set_option maxRecDepth 20000 in
theorem gX12_reads_X12_passes : GoodIn wsX12_reads (wsV RX12 289 RX12 yX12_passes wsX12_passes) := goodIn_app (goodIn_of _ (by decide +kernel)) ggX12_reads_X12_passes
set_option maxRecDepth 20000 in
theorem ggX12_reads_X12_isAt : GoodIn wsX12_reads wsX12_isAt := goodIn_r _ [12, 1, 13, 3, 14, 15, 7, 16, 17, 18, 19, 20, 21, 22, 23, 24, 25, 26, 27, 28, 29, 30, 31, 32, 33, 34, 35, 36, 37, 38, 39, 40, 41, 42, 43, 44, 45, 46, 47] (by decide +kernel) (by decide +kernel)
set_option maxRecDepth 20000 in
theorem gX12_reads_X12_isAt : GoodIn wsX12_reads (wsV RX12 286 RX12 yX12_isAt wsX12_isAt) := goodIn_app (goodIn_of _ (by decide +kernel)) ggX12_reads_X12_isAt
set_option maxRecDepth 20000 in
theorem ggX12_reads_X12_within : GoodIn wsX12_reads wsX12_within := goodIn_r _ [16] (by decide +kernel) (by decide +kernel)
set_option maxRecDepth 20000 in
theorem gX12_reads_X12_within : GoodIn wsX12_reads (va_wsS RX12 65 yX12_within wsX12_within) := goodIn_app (goodIn_of _ (by decide +kernel)) ggX12_reads_X12_within
theorem dX12_reads_0 : decode cX12_reads 0 = .ok (.aload_n 0, 1) := by decide +kernel
theorem dX12_reads_1 : decode cX12_reads 1 = .ok (.getfield 283, 3) := by decide +kernel
theorem dX12_reads_4 : decode cX12_reads 4 = .ok (.istore_n 1, 1) := by decide +kernel
theorem dX12_reads_5 : decode cX12_reads 5 = .ok (.aload_n 0, 1) := by decide +kernel
theorem dX12_reads_6 : decode cX12_reads 6 = .ok (.bipush 45, 2) := by decide +kernel
theorem dX12_reads_8 : decode cX12_reads 8 = .ok (.invokevirtual 289, 3) := by decide +kernel
theorem dX12_reads_11 : decode cX12_reads 11 = .ok (.istore_n 2, 1) := by decide +kernel
theorem dX12_reads_12 : decode cX12_reads 12 = .ok (.iconst 0, 1) := by decide +kernel
theorem dX12_reads_13 : decode cX12_reads 13 = .ok (.istore_n 3, 1) := by decide +kernel
theorem dX12_reads_14 : decode cX12_reads 14 = .ok (.aload_n 0, 1) := by decide +kernel
theorem dX12_reads_15 : decode cX12_reads 15 = .ok (.iconst 0, 1) := by decide +kernel
theorem dX12_reads_16 : decode cX12_reads 16 = .ok (.putfield 292, 3) := by decide +kernel
theorem dX12_reads_19 : decode cX12_reads 19 = .ok (.iload_n 3, 1) := by decide +kernel
theorem dX12_reads_20 : decode cX12_reads 20 = .ok (.iconst 3, 1) := by decide +kernel
theorem dX12_reads_21 : decode cX12_reads 21 = .ok (.if_icmp .ge 54, 3) := by decide +kernel
theorem dX12_reads_24 : decode cX12_reads 24 = .ok (.aload_n 0, 1) := by decide +kernel
theorem dX12_reads_25 : decode cX12_reads 25 = .ok (.bipush 48, 2) := by decide +kernel
theorem dX12_reads_27 : decode cX12_reads 27 = .ok (.bipush 57, 2) := by decide +kernel
theorem dX12_reads_29 : decode cX12_reads 29 = .ok (.invokevirtual 286, 3) := by decide +kernel
theorem dX12_reads_32 : decode cX12_reads 32 = .ok (.ifCond .eq 43, 3) := by decide +kernel
theorem dX12_reads_35 : decode cX12_reads 35 = .ok (.aload_n 0, 1) := by decide +kernel
theorem dX12_reads_36 : decode cX12_reads 36 = .ok (.bipush 10, 2) := by decide +kernel
theorem dX12_reads_38 : decode cX12_reads 38 = .ok (.aload_n 0, 1) := by decide +kernel
theorem dX12_reads_39 : decode cX12_reads 39 = .ok (.getfield 292, 3) := by decide +kernel
theorem dX12_reads_42 : decode cX12_reads 42 = .ok (.imul, 1) := by decide +kernel
theorem dX12_reads_43 : decode cX12_reads 43 = .ok (.aload_n 0, 1) := by decide +kernel
theorem dX12_reads_44 : decode cX12_reads 44 = .ok (.getfield 16, 3) := by decide +kernel
theorem dX12_reads_47 : decode cX12_reads 47 = .ok (.aload_n 0, 1) := by decide +kernel
theorem dX12_reads_48 : decode cX12_reads 48 = .ok (.getfield 283, 3) := by decide +kernel
theorem dX12_reads_51 : decode cX12_reads 51 = .ok (.iaload, 1) := by decide +kernel
theorem dX12_reads_52 : decode cX12_reads 52 = .ok (.iadd, 1) := by decide +kernel
theorem dX12_reads_53 : decode cX12_reads 53 = .ok (.bipush 48, 2) := by decide +kernel
theorem dX12_reads_55 : decode cX12_reads 55 = .ok (.isub, 1) := by decide +kernel
theorem dX12_reads_56 : decode cX12_reads 56 = .ok (.putfield 292, 3) := by decide +kernel
theorem dX12_reads_59 : decode cX12_reads 59 = .ok (.aload_n 0, 1) := by decide +kernel
theorem dX12_reads_60 : decode cX12_reads 60 = .ok (.dup, 1) := by decide +kernel
theorem dX12_reads_61 : decode cX12_reads 61 = .ok (.getfield 283, 3) := by decide +kernel
theorem dX12_reads_64 : decode cX12_reads 64 = .ok (.iconst 1, 1) := by decide +kernel
theorem dX12_reads_65 : decode cX12_reads 65 = .ok (.iadd, 1) := by decide +kernel
theorem dX12_reads_66 : decode cX12_reads 66 = .ok (.putfield 283, 3) := by decide +kernel
theorem dX12_reads_69 : decode cX12_reads 69 = .ok (.iinc 3 1, 3) := by decide +kernel
theorem dX12_reads_72 : decode cX12_reads 72 = .ok (.goto (-53), 3) := by decide +kernel
theorem dX12_reads_75 : decode cX12_reads 75 = .ok (.aload_n 0, 1) := by decide +kernel
theorem dX12_reads_76 : decode cX12_reads 76 = .ok (.iload_n 2, 1) := by decide +kernel
theorem dX12_reads_77 : decode cX12_reads 77 = .ok (.ifCond .eq 11, 3) := by decide +kernel
theorem dX12_reads_80 : decode cX12_reads 80 = .ok (.aload_n 0, 1) := by decide +kernel
theorem dX12_reads_81 : decode cX12_reads 81 = .ok (.getfield 292, 3) := by decide +kernel
theorem dX12_reads_84 : decode cX12_reads 84 = .ok (.ineg, 1) := by decide +kernel
theorem dX12_reads_85 : decode cX12_reads 85 = .ok (.goto 7, 3) := by decide +kernel
theorem dX12_reads_88 : decode cX12_reads 88 = .ok (.aload_n 0, 1) := by decide +kernel
theorem dX12_reads_89 : decode cX12_reads 89 = .ok (.getfield 292, 3) := by decide +kernel
theorem dX12_reads_92 : decode cX12_reads 92 = .ok (.putfield 292, 3) := by decide +kernel
theorem dX12_reads_95 : decode cX12_reads 95 = .ok (.iload_n 3, 1) := by decide +kernel
theorem dX12_reads_96 : decode cX12_reads 96 = .ok (.ifCond .eq 14, 3) := by decide +kernel
theorem dX12_reads_99 : decode cX12_reads 99 = .ok (.aload_n 0, 1) := by decide +kernel
theorem dX12_reads_100 : decode cX12_reads 100 = .ok (.bipush 48, 2) := by decide +kernel
theorem dX12_reads_102 : decode cX12_reads 102 = .ok (.bipush 57, 2) := by decide +kernel
theorem dX12_reads_104 : decode cX12_reads 104 = .ok (.invokevirtual 286, 3) := by decide +kernel
theorem dX12_reads_107 : decode cX12_reads 107 = .ok (.ifCond .eq 5, 3) := by decide +kernel
theorem dX12_reads_110 : decode cX12_reads 110 = .ok (.iconst 0, 1) := by decide +kernel
theorem dX12_reads_111 : decode cX12_reads 111 = .ok (.ireturn, 1) := by decide +kernel
theorem dX12_reads_112 : decode cX12_reads 112 = .ok (.aload_n 0, 1) := by decide +kernel
theorem dX12_reads_113 : decode cX12_reads 113 = .ok (.getfield 292, 3) := by decide +kernel
theorem dX12_reads_116 : decode cX12_reads 116 = .ok (.bipush (-100), 2) := by decide +kernel
theorem dX12_reads_118 : decode cX12_reads 118 = .ok (.bipush 100, 2) := by decide +kernel
theorem dX12_reads_120 : decode cX12_reads 120 = .ok (.invokestatic 65, 3) := by decide +kernel
theorem dX12_reads_123 : decode cX12_reads 123 = .ok (.istore 4, 2) := by decide +kernel
theorem dX12_reads_125 : decode cX12_reads 125 = .ok (.aload_n 0, 1) := by decide +kernel
theorem dX12_reads_126 : decode cX12_reads 126 = .ok (.iload 4, 2) := by decide +kernel
theorem dX12_reads_128 : decode cX12_reads 128 = .ok (.ifCond .eq 10, 3) := by decide +kernel
theorem dX12_reads_131 : decode cX12_reads 131 = .ok (.aload_n 0, 1) := by decide +kernel
theorem dX12_reads_132 : decode cX12_reads 132 = .ok (.getfield 283, 3) := by decide +kernel
theorem dX12_reads_135 : decode cX12_reads 135 = .ok (.goto 4, 3) := by decide +kernel
theorem dX12_reads_138 : decode cX12_reads 138 = .ok (.iload_n 1, 1) := by decide +kernel
theorem dX12_reads_139 : decode cX12_reads 139 = .ok (.putfield 283, 3) := by decide +kernel
theorem dX12_reads_142 : decode cX12_reads 142 = .ok (.iload 4, 2) := by decide +kernel
theorem dX12_reads_144 : decode cX12_reads 144 = .ok (.ireturn, 1) := by decide +kernel
set_option maxRecDepth 20000 in
theorem ggX12_readsPoint_X12_reads : GoodIn wsX12_readsPoint wsX12_reads := goodIn_r _ [7, 8, 1, 9, 10, 11, 12, 6, 13, 14, 15, 16, 17, 18, 19, 20, 21, 22, 23, 24, 25, 26, 27, 28, 29, 30, 31, 32, 33, 34, 35, 36, 37, 38, 39, 40, 41, 42, 43, 44, 45, 46, 47, 48, 49, 50, 51, 52] (by decide +kernel) (by decide +kernel)
set_option maxRecDepth 20000 in
theorem gX12_readsPoint_X12_reads : GoodIn wsX12_readsPoint (wsV RX12 295 RX12 yX12_reads wsX12_reads) := goodIn_app (goodIn_of _ (by decide +kernel)) ggX12_readsPoint_X12_reads
set_option maxRecDepth 20000 in
theorem ggX12_readsPoint_X12_passes : GoodIn wsX12_readsPoint wsX12_passes := goodIn_r _ [13, 8, 14, 15, 16, 6, 17, 18, 9, 19, 20, 21, 22, 23, 24, 25, 26, 27, 28, 29, 30, 31, 32, 33, 34, 35, 36, 37, 38, 39, 40, 41, 42, 43, 44, 45, 46, 47, 48, 49, 50, 51, 52] (by decide +kernel) (by decide +kernel)
set_option maxRecDepth 20000 in
theorem gX12_readsPoint_X12_passes : GoodIn wsX12_readsPoint (wsV RX12 289 RX12 yX12_passes wsX12_passes) := goodIn_app (goodIn_of _ (by decide +kernel)) ggX12_readsPoint_X12_passes
theorem dX12_readsPoint_0 : decode cX12_readsPoint 0 = .ok (.aload_n 0, 1) := by decide +kernel
theorem dX12_readsPoint_1 : decode cX12_readsPoint 1 = .ok (.invokevirtual 295, 3) := by decide +kernel
theorem dX12_readsPoint_4 : decode cX12_readsPoint 4 = .ok (.ifCond .ne 5, 3) := by decide +kernel
theorem dX12_readsPoint_7 : decode cX12_readsPoint 7 = .ok (.iconst 0, 1) := by decide +kernel
theorem dX12_readsPoint_8 : decode cX12_readsPoint 8 = .ok (.ireturn, 1) := by decide +kernel
theorem dX12_readsPoint_9 : decode cX12_readsPoint 9 = .ok (.aload_n 0, 1) := by decide +kernel
theorem dX12_readsPoint_10 : decode cX12_readsPoint 10 = .ok (.aload_n 0, 1) := by decide +kernel
theorem dX12_readsPoint_11 : decode cX12_readsPoint 11 = .ok (.getfield 292, 3) := by decide +kernel
theorem dX12_readsPoint_14 : decode cX12_readsPoint 14 = .ok (.putfield 298, 3) := by decide +kernel
theorem dX12_readsPoint_17 : decode cX12_readsPoint 17 = .ok (.aload_n 0, 1) := by decide +kernel
theorem dX12_readsPoint_18 : decode cX12_readsPoint 18 = .ok (.bipush 44, 2) := by decide +kernel
theorem dX12_readsPoint_20 : decode cX12_readsPoint 20 = .ok (.invokevirtual 289, 3) := by decide +kernel
theorem dX12_readsPoint_23 : decode cX12_readsPoint 23 = .ok (.ifCond .eq 14, 3) := by decide +kernel
theorem dX12_readsPoint_26 : decode cX12_readsPoint 26 = .ok (.aload_n 0, 1) := by decide +kernel
theorem dX12_readsPoint_27 : decode cX12_readsPoint 27 = .ok (.invokevirtual 295, 3) := by decide +kernel
theorem dX12_readsPoint_30 : decode cX12_readsPoint 30 = .ok (.ifCond .eq 7, 3) := by decide +kernel
theorem dX12_readsPoint_33 : decode cX12_readsPoint 33 = .ok (.iconst 1, 1) := by decide +kernel
theorem dX12_readsPoint_34 : decode cX12_readsPoint 34 = .ok (.goto 4, 3) := by decide +kernel
theorem dX12_readsPoint_37 : decode cX12_readsPoint 37 = .ok (.iconst 0, 1) := by decide +kernel
theorem dX12_readsPoint_38 : decode cX12_readsPoint 38 = .ok (.ireturn, 1) := by decide +kernel
set_option maxRecDepth 20000 in
theorem ggX12_readsPath_X12_passes : GoodIn wsX12_readsPath wsX12_passes := goodIn_r _ [10, 1, 11, 12, 13, 9, 14, 3, 15, 16, 17, 18, 46, 47, 48, 49, 50, 51, 52, 53, 54, 55, 56, 57, 58, 59, 60, 61, 62, 63, 64, 65, 66, 67, 68, 69, 70, 71, 72, 73, 74, 75, 76] (by decide +kernel) (by decide +kernel)
set_option maxRecDepth 20000 in
theorem gX12_readsPath_X12_passes : GoodIn wsX12_readsPath (wsV RX12 289 RX12 yX12_passes wsX12_passes) := goodIn_app (goodIn_of _ (by decide +kernel)) ggX12_readsPath_X12_passes
set_option maxRecDepth 20000 in
theorem ggX12_readsPath_X12_readsPoint : GoodIn wsX12_readsPath wsX12_readsPoint := goodIn_r _ [22, 5, 4, 23, 24, 25, 9, 26, 1, 15, 6, 7, 8, 10, 11, 12, 13, 14, 3, 16, 17, 18, 46, 47, 48, 49, 50, 51, 52, 53, 54, 55, 56, 57, 58, 59, 60, 61, 62, 63, 64, 65, 66, 67, 68, 69, 70, 71, 72, 73, 74, 75, 76] (by decide +kernel) (by decide +kernel)
set_option maxRecDepth 20000 in
theorem gX12_readsPath_X12_readsPoint : GoodIn wsX12_readsPath (wsV RX12 301 RX12 yX12_readsPoint wsX12_readsPoint) := goodIn_app (goodIn_of _ (by decide +kernel)) ggX12_readsPath_X12_readsPoint
set_option maxRecDepth 20000 in
theorem ggX12_readsPath_X12_begins : GoodIn wsX12_readsPath wsX12_begins := goodIn_r _ [30, 2, 31, 32, 9, 33, 34, 35, 36, 37, 46, 47, 48, 49, 50, 51, 52, 53, 54, 55, 56, 57, 58, 59, 60, 61, 62, 63, 64, 65, 66, 67, 68, 69, 70, 71, 72, 73, 74, 75, 76] (by decide +kernel) (by decide +kernel)
set_option maxRecDepth 20000 in
theorem gX12_readsPath_X12_begins : GoodIn wsX12_readsPath (wsV RX12 98 RX12 yX12_begins wsX12_begins) := goodIn_app (goodIn_of _ (by decide +kernel)) ggX12_readsPath_X12_begins
set_option maxRecDepth 20000 in
theorem ggX12_readsPath_X12_points : GoodIn wsX12_readsPath wsX12_points := goodIn_r _ [41, 2, 31, 32, 9, 33, 46, 47, 48, 49, 50, 51, 52, 53, 54, 55, 56, 57, 58, 59, 60, 61, 62, 63, 64, 65, 66, 67, 68, 69, 70, 71, 72, 73, 74, 75, 76] (by decide +kernel) (by decide +kernel)
set_option maxRecDepth 20000 in
theorem gX12_readsPath_X12_points : GoodIn wsX12_readsPath (wsV RX12 88 RX12 yX12_points wsX12_points) := goodIn_app (goodIn_of _ (by decide +kernel)) ggX12_readsPath_X12_points
set_option maxRecDepth 20000 in
theorem ggX12_readsPath_X12_follows : GoodIn wsX12_readsPath wsX12_follows := goodIn_r _ [45, 2, 38, 39, 40, 9, 41, 31, 32, 33, 34, 35, 36, 37, 46, 47, 48, 49, 50, 51, 52, 53, 54, 55, 56, 57, 58, 59, 60, 61, 62, 63, 64, 65, 66, 67, 68, 69, 70, 71, 72, 73, 74, 75, 76] (by decide +kernel) (by decide +kernel)
set_option maxRecDepth 20000 in
theorem gX12_readsPath_X12_follows : GoodIn wsX12_readsPath (wsV RX12 109 RX12 yX12_follows wsX12_follows) := goodIn_app (goodIn_of _ (by decide +kernel)) ggX12_readsPath_X12_follows
set_option maxRecDepth 20000 in
theorem ggX12_readsPath_X12_at : GoodIn wsX12_readsPath wsX12_at := goodIn_r _ [33] (by decide +kernel) (by decide +kernel)
set_option maxRecDepth 20000 in
theorem gX12_readsPath_X12_at : GoodIn wsX12_readsPath (va_wsS RX12 80 yX12_at wsX12_at) := goodIn_app (goodIn_of _ (by decide +kernel)) ggX12_readsPath_X12_at
theorem dX12_readsPath_0 : decode cX12_readsPath 0 = .ok (.aload_n 0, 1) := by decide +kernel
theorem dX12_readsPath_1 : decode cX12_readsPath 1 = .ok (.iconst 0, 1) := by decide +kernel
theorem dX12_readsPath_2 : decode cX12_readsPath 2 = .ok (.putfield 283, 3) := by decide +kernel
theorem dX12_readsPath_5 : decode cX12_readsPath 5 = .ok (.aload_n 0, 1) := by decide +kernel
theorem dX12_readsPath_6 : decode cX12_readsPath 6 = .ok (.getfield 7, 3) := by decide +kernel
theorem dX12_readsPath_9 : decode cX12_readsPath 9 = .ok (.bipush 13, 2) := by decide +kernel
theorem dX12_readsPath_11 : decode cX12_readsPath 11 = .ok (.iconst 0, 1) := by decide +kernel
theorem dX12_readsPath_12 : decode cX12_readsPath 12 = .ok (.iastore, 1) := by decide +kernel
theorem dX12_readsPath_13 : decode cX12_readsPath 13 = .ok (.aload_n 0, 1) := by decide +kernel
theorem dX12_readsPath_14 : decode cX12_readsPath 14 = .ok (.getfield 283, 3) := by decide +kernel
theorem dX12_readsPath_17 : decode cX12_readsPath 17 = .ok (.aload_n 0, 1) := by decide +kernel
theorem dX12_readsPath_18 : decode cX12_readsPath 18 = .ok (.getfield 280, 3) := by decide +kernel
theorem dX12_readsPath_21 : decode cX12_readsPath 21 = .ok (.if_icmp .ge 131, 3) := by decide +kernel
theorem dX12_readsPath_24 : decode cX12_readsPath 24 = .ok (.aload_n 0, 1) := by decide +kernel
theorem dX12_readsPath_25 : decode cX12_readsPath 25 = .ok (.getfield 7, 3) := by decide +kernel
theorem dX12_readsPath_28 : decode cX12_readsPath 28 = .ok (.bipush 13, 2) := by decide +kernel
theorem dX12_readsPath_30 : decode cX12_readsPath 30 = .ok (.iaload, 1) := by decide +kernel
theorem dX12_readsPath_31 : decode cX12_readsPath 31 = .ok (.iconst 4, 1) := by decide +kernel
theorem dX12_readsPath_32 : decode cX12_readsPath 32 = .ok (.if_icmp .eq 19, 3) := by decide +kernel
theorem dX12_readsPath_35 : decode cX12_readsPath 35 = .ok (.aload_n 0, 1) := by decide +kernel
theorem dX12_readsPath_36 : decode cX12_readsPath 36 = .ok (.bipush 77, 2) := by decide +kernel
theorem dX12_readsPath_38 : decode cX12_readsPath 38 = .ok (.invokevirtual 289, 3) := by decide +kernel
theorem dX12_readsPath_41 : decode cX12_readsPath 41 = .ok (.ifCond .eq 10, 3) := by decide +kernel
theorem dX12_readsPath_44 : decode cX12_readsPath 44 = .ok (.aload_n 0, 1) := by decide +kernel
theorem dX12_readsPath_45 : decode cX12_readsPath 45 = .ok (.invokevirtual 301, 3) := by decide +kernel
theorem dX12_readsPath_48 : decode cX12_readsPath 48 = .ok (.ifCond .ne 5, 3) := by decide +kernel
theorem dX12_readsPath_51 : decode cX12_readsPath 51 = .ok (.iconst 0, 1) := by decide +kernel
theorem dX12_readsPath_52 : decode cX12_readsPath 52 = .ok (.ireturn, 1) := by decide +kernel
theorem dX12_readsPath_53 : decode cX12_readsPath 53 = .ok (.aload_n 0, 1) := by decide +kernel
theorem dX12_readsPath_54 : decode cX12_readsPath 54 = .ok (.aload_n 0, 1) := by decide +kernel
theorem dX12_readsPath_55 : decode cX12_readsPath 55 = .ok (.getfield 298, 3) := by decide +kernel
theorem dX12_readsPath_58 : decode cX12_readsPath 58 = .ok (.aload_n 0, 1) := by decide +kernel
theorem dX12_readsPath_59 : decode cX12_readsPath 59 = .ok (.getfield 292, 3) := by decide +kernel
theorem dX12_readsPath_62 : decode cX12_readsPath 62 = .ok (.invokevirtual 98, 3) := by decide +kernel
theorem dX12_readsPath_65 : decode cX12_readsPath 65 = .ok (.aload_n 0, 1) := by decide +kernel
theorem dX12_readsPath_66 : decode cX12_readsPath 66 = .ok (.aload_n 0, 1) := by decide +kernel
theorem dX12_readsPath_67 : decode cX12_readsPath 67 = .ok (.getfield 7, 3) := by decide +kernel
theorem dX12_readsPath_70 : decode cX12_readsPath 70 = .ok (.bipush 13, 2) := by decide +kernel
theorem dX12_readsPath_72 : decode cX12_readsPath 72 = .ok (.iaload, 1) := by decide +kernel
theorem dX12_readsPath_73 : decode cX12_readsPath 73 = .ok (.iconst 1, 1) := by decide +kernel
theorem dX12_readsPath_74 : decode cX12_readsPath 74 = .ok (.isub, 1) := by decide +kernel
theorem dX12_readsPath_75 : decode cX12_readsPath 75 = .ok (.invokevirtual 88, 3) := by decide +kernel
theorem dX12_readsPath_78 : decode cX12_readsPath 78 = .ok (.bipush 8, 2) := by decide +kernel
theorem dX12_readsPath_80 : decode cX12_readsPath 80 = .ok (.if_icmp .ge 36, 3) := by decide +kernel
theorem dX12_readsPath_83 : decode cX12_readsPath 83 = .ok (.aload_n 0, 1) := by decide +kernel
theorem dX12_readsPath_84 : decode cX12_readsPath 84 = .ok (.bipush 76, 2) := by decide +kernel
theorem dX12_readsPath_86 : decode cX12_readsPath 86 = .ok (.invokevirtual 289, 3) := by decide +kernel
theorem dX12_readsPath_89 : decode cX12_readsPath 89 = .ok (.ifCond .eq 27, 3) := by decide +kernel
theorem dX12_readsPath_92 : decode cX12_readsPath 92 = .ok (.aload_n 0, 1) := by decide +kernel
theorem dX12_readsPath_93 : decode cX12_readsPath 93 = .ok (.invokevirtual 301, 3) := by decide +kernel
theorem dX12_readsPath_96 : decode cX12_readsPath 96 = .ok (.ifCond .ne 5, 3) := by decide +kernel
theorem dX12_readsPath_99 : decode cX12_readsPath 99 = .ok (.iconst 0, 1) := by decide +kernel
theorem dX12_readsPath_100 : decode cX12_readsPath 100 = .ok (.ireturn, 1) := by decide +kernel
theorem dX12_readsPath_101 : decode cX12_readsPath 101 = .ok (.aload_n 0, 1) := by decide +kernel
theorem dX12_readsPath_102 : decode cX12_readsPath 102 = .ok (.aload_n 0, 1) := by decide +kernel
theorem dX12_readsPath_103 : decode cX12_readsPath 103 = .ok (.getfield 298, 3) := by decide +kernel
theorem dX12_readsPath_106 : decode cX12_readsPath 106 = .ok (.aload_n 0, 1) := by decide +kernel
theorem dX12_readsPath_107 : decode cX12_readsPath 107 = .ok (.getfield 292, 3) := by decide +kernel
theorem dX12_readsPath_110 : decode cX12_readsPath 110 = .ok (.invokevirtual 109, 3) := by decide +kernel
theorem dX12_readsPath_113 : decode cX12_readsPath 113 = .ok (.goto (-48), 3) := by decide +kernel
theorem dX12_readsPath_116 : decode cX12_readsPath 116 = .ok (.aload_n 0, 1) := by decide +kernel
theorem dX12_readsPath_117 : decode cX12_readsPath 117 = .ok (.getfield 7, 3) := by decide +kernel
theorem dX12_readsPath_120 : decode cX12_readsPath 120 = .ok (.aload_n 0, 1) := by decide +kernel
theorem dX12_readsPath_121 : decode cX12_readsPath 121 = .ok (.getfield 7, 3) := by decide +kernel
theorem dX12_readsPath_124 : decode cX12_readsPath 124 = .ok (.bipush 13, 2) := by decide +kernel
theorem dX12_readsPath_126 : decode cX12_readsPath 126 = .ok (.iaload, 1) := by decide +kernel
theorem dX12_readsPath_127 : decode cX12_readsPath 127 = .ok (.iconst 1, 1) := by decide +kernel
theorem dX12_readsPath_128 : decode cX12_readsPath 128 = .ok (.isub, 1) := by decide +kernel
theorem dX12_readsPath_129 : decode cX12_readsPath 129 = .ok (.invokestatic 80, 3) := by decide +kernel
theorem dX12_readsPath_132 : decode cX12_readsPath 132 = .ok (.iconst 1, 1) := by decide +kernel
theorem dX12_readsPath_133 : decode cX12_readsPath 133 = .ok (.iadd, 1) := by decide +kernel
theorem dX12_readsPath_134 : decode cX12_readsPath 134 = .ok (.aload_n 0, 1) := by decide +kernel
theorem dX12_readsPath_135 : decode cX12_readsPath 135 = .ok (.bipush 90, 2) := by decide +kernel
theorem dX12_readsPath_137 : decode cX12_readsPath 137 = .ok (.invokevirtual 289, 3) := by decide +kernel
theorem dX12_readsPath_140 : decode cX12_readsPath 140 = .ok (.ifCond .eq 7, 3) := by decide +kernel
theorem dX12_readsPath_143 : decode cX12_readsPath 143 = .ok (.iconst 1, 1) := by decide +kernel
theorem dX12_readsPath_144 : decode cX12_readsPath 144 = .ok (.goto 4, 3) := by decide +kernel
theorem dX12_readsPath_147 : decode cX12_readsPath 147 = .ok (.iconst 0, 1) := by decide +kernel
theorem dX12_readsPath_148 : decode cX12_readsPath 148 = .ok (.iastore, 1) := by decide +kernel
theorem dX12_readsPath_149 : decode cX12_readsPath 149 = .ok (.goto (-136), 3) := by decide +kernel
theorem dX12_readsPath_152 : decode cX12_readsPath 152 = .ok (.iconst 1, 1) := by decide +kernel
theorem dX12_readsPath_153 : decode cX12_readsPath 153 = .ok (.ireturn, 1) := by decide +kernel
set_option maxRecDepth 20000 in
theorem ggX12_parse_X12_readsPath : GoodIn wsX12_parse wsX12_readsPath := goodIn_r _ [9, 4, 3, 10, 11, 12, 13, 14, 15, 8, 16, 17, 18, 19, 20, 21, 22, 23, 24, 25, 26, 27, 28, 29, 30, 31, 32, 33, 34, 35, 36, 37, 38, 39, 40, 41, 42, 43, 44, 45, 46, 47, 48, 49, 50, 51, 58, 59, 60, 61, 62, 63, 64, 65, 66, 67, 68, 69, 70, 71, 72, 73, 74, 75, 76, 77, 78, 79, 80, 81, 82, 83, 84, 85, 86, 87, 88] (by decide +kernel) (by decide +kernel)
set_option maxRecDepth 20000 in
theorem gX12_parse_X12_readsPath : GoodIn wsX12_parse (wsV RX12 304 RX12 yX12_readsPath wsX12_readsPath) := goodIn_app (goodIn_of _ (by decide +kernel)) ggX12_parse_X12_readsPath
set_option maxRecDepth 20000 in
theorem ggX12_parse_X12_saves : GoodIn wsX12_parse wsX12_saves := goodIn_r _ [55, 56, 57, 3, 58, 59, 60, 61, 62, 63, 64, 65, 66, 67, 68, 69, 70, 71, 72, 73, 74, 75, 76, 77, 78, 79, 80, 81, 82, 83, 84, 85, 86, 87, 88] (by decide +kernel) (by decide +kernel)
set_option maxRecDepth 20000 in
theorem gX12_parse_X12_saves : GoodIn wsX12_parse (wsV RX12 95 RX12 yX12_saves wsX12_saves) := goodIn_app (goodIn_of _ (by decide +kernel)) ggX12_parse_X12_saves
theorem dX12_parse_0 : decode cX12_parse 0 = .ok (.aload_n 0, 1) := by decide +kernel
theorem dX12_parse_1 : decode cX12_parse 1 = .ok (.iconst 0, 1) := by decide +kernel
theorem dX12_parse_2 : decode cX12_parse 2 = .ok (.putfield 61, 3) := by decide +kernel
theorem dX12_parse_5 : decode cX12_parse 5 = .ok (.iconst 0, 1) := by decide +kernel
theorem dX12_parse_6 : decode cX12_parse 6 = .ok (.istore_n 1, 1) := by decide +kernel
theorem dX12_parse_7 : decode cX12_parse 7 = .ok (.iload_n 1, 1) := by decide +kernel
theorem dX12_parse_8 : decode cX12_parse 8 = .ok (.bipush 86, 2) := by decide +kernel
theorem dX12_parse_10 : decode cX12_parse 10 = .ok (.if_icmp .ge 21, 3) := by decide +kernel
theorem dX12_parse_13 : decode cX12_parse 13 = .ok (.aload_n 0, 1) := by decide +kernel
theorem dX12_parse_14 : decode cX12_parse 14 = .ok (.getfield 55, 3) := by decide +kernel
theorem dX12_parse_17 : decode cX12_parse 17 = .ok (.iload_n 1, 1) := by decide +kernel
theorem dX12_parse_18 : decode cX12_parse 18 = .ok (.aload_n 0, 1) := by decide +kernel
theorem dX12_parse_19 : decode cX12_parse 19 = .ok (.getfield 7, 3) := by decide +kernel
theorem dX12_parse_22 : decode cX12_parse 22 = .ok (.iload_n 1, 1) := by decide +kernel
theorem dX12_parse_23 : decode cX12_parse 23 = .ok (.iaload, 1) := by decide +kernel
theorem dX12_parse_24 : decode cX12_parse 24 = .ok (.iastore, 1) := by decide +kernel
theorem dX12_parse_25 : decode cX12_parse 25 = .ok (.iinc 1 1, 3) := by decide +kernel
theorem dX12_parse_28 : decode cX12_parse 28 = .ok (.goto (-21), 3) := by decide +kernel
theorem dX12_parse_31 : decode cX12_parse 31 = .ok (.aload_n 0, 1) := by decide +kernel
theorem dX12_parse_32 : decode cX12_parse 32 = .ok (.invokevirtual 304, 3) := by decide +kernel
theorem dX12_parse_35 : decode cX12_parse 35 = .ok (.istore_n 1, 1) := by decide +kernel
theorem dX12_parse_36 : decode cX12_parse 36 = .ok (.iconst 0, 1) := by decide +kernel
theorem dX12_parse_37 : decode cX12_parse 37 = .ok (.istore_n 2, 1) := by decide +kernel
theorem dX12_parse_38 : decode cX12_parse 38 = .ok (.iload_n 2, 1) := by decide +kernel
theorem dX12_parse_39 : decode cX12_parse 39 = .ok (.bipush 86, 2) := by decide +kernel
theorem dX12_parse_41 : decode cX12_parse 41 = .ok (.if_icmp .ge 35, 3) := by decide +kernel
theorem dX12_parse_44 : decode cX12_parse 44 = .ok (.aload_n 0, 1) := by decide +kernel
theorem dX12_parse_45 : decode cX12_parse 45 = .ok (.getfield 7, 3) := by decide +kernel
theorem dX12_parse_48 : decode cX12_parse 48 = .ok (.iload_n 2, 1) := by decide +kernel
theorem dX12_parse_49 : decode cX12_parse 49 = .ok (.iaload, 1) := by decide +kernel
theorem dX12_parse_50 : decode cX12_parse 50 = .ok (.istore_n 3, 1) := by decide +kernel
theorem dX12_parse_51 : decode cX12_parse 51 = .ok (.aload_n 0, 1) := by decide +kernel
theorem dX12_parse_52 : decode cX12_parse 52 = .ok (.getfield 7, 3) := by decide +kernel
theorem dX12_parse_55 : decode cX12_parse 55 = .ok (.iload_n 2, 1) := by decide +kernel
theorem dX12_parse_56 : decode cX12_parse 56 = .ok (.aload_n 0, 1) := by decide +kernel
theorem dX12_parse_57 : decode cX12_parse 57 = .ok (.getfield 55, 3) := by decide +kernel
theorem dX12_parse_60 : decode cX12_parse 60 = .ok (.iload_n 2, 1) := by decide +kernel
theorem dX12_parse_61 : decode cX12_parse 61 = .ok (.iaload, 1) := by decide +kernel
theorem dX12_parse_62 : decode cX12_parse 62 = .ok (.iastore, 1) := by decide +kernel
theorem dX12_parse_63 : decode cX12_parse 63 = .ok (.aload_n 0, 1) := by decide +kernel
theorem dX12_parse_64 : decode cX12_parse 64 = .ok (.getfield 55, 3) := by decide +kernel
theorem dX12_parse_67 : decode cX12_parse 67 = .ok (.iload_n 2, 1) := by decide +kernel
theorem dX12_parse_68 : decode cX12_parse 68 = .ok (.iload_n 3, 1) := by decide +kernel
theorem dX12_parse_69 : decode cX12_parse 69 = .ok (.iastore, 1) := by decide +kernel
theorem dX12_parse_70 : decode cX12_parse 70 = .ok (.iinc 2 1, 3) := by decide +kernel
theorem dX12_parse_73 : decode cX12_parse 73 = .ok (.goto (-35), 3) := by decide +kernel
theorem dX12_parse_76 : decode cX12_parse 76 = .ok (.iload_n 1, 1) := by decide +kernel
theorem dX12_parse_77 : decode cX12_parse 77 = .ok (.ifCond .ne 11, 3) := by decide +kernel
theorem dX12_parse_80 : decode cX12_parse 80 = .ok (.bipush (-10), 2) := by decide +kernel
theorem dX12_parse_82 : decode cX12_parse 82 = .ok (.aload_n 0, 1) := by decide +kernel
theorem dX12_parse_83 : decode cX12_parse 83 = .ok (.getfield 283, 3) := by decide +kernel
theorem dX12_parse_86 : decode cX12_parse 86 = .ok (.isub, 1) := by decide +kernel
theorem dX12_parse_87 : decode cX12_parse 87 = .ok (.ireturn, 1) := by decide +kernel
theorem dX12_parse_88 : decode cX12_parse 88 = .ok (.aload_n 0, 1) := by decide +kernel
theorem dX12_parse_89 : decode cX12_parse 89 = .ok (.invokevirtual 95, 3) := by decide +kernel
theorem dX12_parse_92 : decode cX12_parse 92 = .ok (.iconst 0, 1) := by decide +kernel
theorem dX12_parse_93 : decode cX12_parse 93 = .ok (.istore_n 2, 1) := by decide +kernel
theorem dX12_parse_94 : decode cX12_parse 94 = .ok (.iload_n 2, 1) := by decide +kernel
theorem dX12_parse_95 : decode cX12_parse 95 = .ok (.bipush 86, 2) := by decide +kernel
theorem dX12_parse_97 : decode cX12_parse 97 = .ok (.if_icmp .ge 21, 3) := by decide +kernel
theorem dX12_parse_100 : decode cX12_parse 100 = .ok (.aload_n 0, 1) := by decide +kernel
theorem dX12_parse_101 : decode cX12_parse 101 = .ok (.getfield 7, 3) := by decide +kernel
theorem dX12_parse_104 : decode cX12_parse 104 = .ok (.iload_n 2, 1) := by decide +kernel
theorem dX12_parse_105 : decode cX12_parse 105 = .ok (.aload_n 0, 1) := by decide +kernel
theorem dX12_parse_106 : decode cX12_parse 106 = .ok (.getfield 55, 3) := by decide +kernel
theorem dX12_parse_109 : decode cX12_parse 109 = .ok (.iload_n 2, 1) := by decide +kernel
theorem dX12_parse_110 : decode cX12_parse 110 = .ok (.iaload, 1) := by decide +kernel
theorem dX12_parse_111 : decode cX12_parse 111 = .ok (.iastore, 1) := by decide +kernel
theorem dX12_parse_112 : decode cX12_parse 112 = .ok (.iinc 2 1, 3) := by decide +kernel
theorem dX12_parse_115 : decode cX12_parse 115 = .ok (.goto (-21), 3) := by decide +kernel
theorem dX12_parse_118 : decode cX12_parse 118 = .ok (.aload_n 0, 1) := by decide +kernel
theorem dX12_parse_119 : decode cX12_parse 119 = .ok (.getfield 7, 3) := by decide +kernel
theorem dX12_parse_122 : decode cX12_parse 122 = .ok (.bipush 13, 2) := by decide +kernel
theorem dX12_parse_124 : decode cX12_parse 124 = .ok (.iaload, 1) := by decide +kernel
theorem dX12_parse_125 : decode cX12_parse 125 = .ok (.ireturn, 1) := by decide +kernel
theorem dX12_writes_0 : decode cX12_writes 0 = .ok (.aload_n 0, 1) := by decide +kernel
theorem dX12_writes_1 : decode cX12_writes 1 = .ok (.getfield 58, 3) := by decide +kernel
theorem dX12_writes_4 : decode cX12_writes 4 = .ok (.aload_n 0, 1) := by decide +kernel
theorem dX12_writes_5 : decode cX12_writes 5 = .ok (.getfield 307, 3) := by decide +kernel
theorem dX12_writes_8 : decode cX12_writes 8 = .ok (.iload_n 1, 1) := by decide +kernel
theorem dX12_writes_9 : decode cX12_writes 9 = .ok (.iastore, 1) := by decide +kernel
theorem dX12_writes_10 : decode cX12_writes 10 = .ok (.aload_n 0, 1) := by decide +kernel
theorem dX12_writes_11 : decode cX12_writes 11 = .ok (.dup, 1) := by decide +kernel
theorem dX12_writes_12 : decode cX12_writes 12 = .ok (.getfield 307, 3) := by decide +kernel
theorem dX12_writes_15 : decode cX12_writes 15 = .ok (.iconst 1, 1) := by decide +kernel
theorem dX12_writes_16 : decode cX12_writes 16 = .ok (.iadd, 1) := by decide +kernel
theorem dX12_writes_17 : decode cX12_writes 17 = .ok (.putfield 307, 3) := by decide +kernel
theorem dX12_writes_20 : decode cX12_writes 20 = .ok (.return_, 1) := by decide +kernel
set_option maxRecDepth 20000 in
theorem ggX12_writesNumber_X12_writes : GoodIn wsX12_writesNumber wsX12_writes := goodIn_r _ [5, 6, 7, 8, 9, 10, 11, 12, 13, 14, 15, 16, 17, 18, 19, 20, 21, 22, 23, 24, 25, 26, 27, 28, 29, 30, 31, 32, 33, 34, 35, 36, 37, 38] (by decide +kernel) (by decide +kernel)
set_option maxRecDepth 20000 in
theorem gX12_writesNumber_X12_writes : GoodIn wsX12_writesNumber (wsV RX12 310 RX12 yX12_writes wsX12_writes) := goodIn_app (goodIn_of _ (by decide +kernel)) ggX12_writesNumber_X12_writes
theorem dX12_writesNumber_0 : decode cX12_writesNumber 0 = .ok (.iload_n 1, 1) := by decide +kernel
theorem dX12_writesNumber_1 : decode cX12_writesNumber 1 = .ok (.ifCond .ge 8, 3) := by decide +kernel
theorem dX12_writesNumber_4 : decode cX12_writesNumber 4 = .ok (.iload_n 1, 1) := by decide +kernel
theorem dX12_writesNumber_5 : decode cX12_writesNumber 5 = .ok (.ineg, 1) := by decide +kernel
theorem dX12_writesNumber_6 : decode cX12_writesNumber 6 = .ok (.goto 4, 3) := by decide +kernel
theorem dX12_writesNumber_9 : decode cX12_writesNumber 9 = .ok (.iload_n 1, 1) := by decide +kernel
theorem dX12_writesNumber_10 : decode cX12_writesNumber 10 = .ok (.istore_n 2, 1) := by decide +kernel
theorem dX12_writesNumber_11 : decode cX12_writesNumber 11 = .ok (.iload_n 1, 1) := by decide +kernel
theorem dX12_writesNumber_12 : decode cX12_writesNumber 12 = .ok (.ifCond .ge 9, 3) := by decide +kernel
theorem dX12_writesNumber_15 : decode cX12_writesNumber 15 = .ok (.aload_n 0, 1) := by decide +kernel
theorem dX12_writesNumber_16 : decode cX12_writesNumber 16 = .ok (.bipush 45, 2) := by decide +kernel
theorem dX12_writesNumber_18 : decode cX12_writesNumber 18 = .ok (.invokevirtual 310, 3) := by decide +kernel
theorem dX12_writesNumber_21 : decode cX12_writesNumber 21 = .ok (.bipush 100, 2) := by decide +kernel
theorem dX12_writesNumber_23 : decode cX12_writesNumber 23 = .ok (.istore_n 3, 1) := by decide +kernel
theorem dX12_writesNumber_24 : decode cX12_writesNumber 24 = .ok (.iload_n 3, 1) := by decide +kernel
theorem dX12_writesNumber_25 : decode cX12_writesNumber 25 = .ok (.ifCond .le 34, 3) := by decide +kernel
theorem dX12_writesNumber_28 : decode cX12_writesNumber 28 = .ok (.iload_n 2, 1) := by decide +kernel
theorem dX12_writesNumber_29 : decode cX12_writesNumber 29 = .ok (.iload_n 3, 1) := by decide +kernel
theorem dX12_writesNumber_30 : decode cX12_writesNumber 30 = .ok (.if_icmp .ge 8, 3) := by decide +kernel
theorem dX12_writesNumber_33 : decode cX12_writesNumber 33 = .ok (.iload_n 3, 1) := by decide +kernel
theorem dX12_writesNumber_34 : decode cX12_writesNumber 34 = .ok (.iconst 1, 1) := by decide +kernel
theorem dX12_writesNumber_35 : decode cX12_writesNumber 35 = .ok (.if_icmp .ne 16, 3) := by decide +kernel
theorem dX12_writesNumber_38 : decode cX12_writesNumber 38 = .ok (.aload_n 0, 1) := by decide +kernel
theorem dX12_writesNumber_39 : decode cX12_writesNumber 39 = .ok (.bipush 48, 2) := by decide +kernel
theorem dX12_writesNumber_41 : decode cX12_writesNumber 41 = .ok (.iload_n 2, 1) := by decide +kernel
theorem dX12_writesNumber_42 : decode cX12_writesNumber 42 = .ok (.iload_n 3, 1) := by decide +kernel
theorem dX12_writesNumber_43 : decode cX12_writesNumber 43 = .ok (.idiv, 1) := by decide +kernel
theorem dX12_writesNumber_44 : decode cX12_writesNumber 44 = .ok (.bipush 10, 2) := by decide +kernel
theorem dX12_writesNumber_46 : decode cX12_writesNumber 46 = .ok (.irem, 1) := by decide +kernel
theorem dX12_writesNumber_47 : decode cX12_writesNumber 47 = .ok (.iadd, 1) := by decide +kernel
theorem dX12_writesNumber_48 : decode cX12_writesNumber 48 = .ok (.invokevirtual 310, 3) := by decide +kernel
theorem dX12_writesNumber_51 : decode cX12_writesNumber 51 = .ok (.iload_n 3, 1) := by decide +kernel
theorem dX12_writesNumber_52 : decode cX12_writesNumber 52 = .ok (.bipush 10, 2) := by decide +kernel
theorem dX12_writesNumber_54 : decode cX12_writesNumber 54 = .ok (.idiv, 1) := by decide +kernel
theorem dX12_writesNumber_55 : decode cX12_writesNumber 55 = .ok (.istore_n 3, 1) := by decide +kernel
theorem dX12_writesNumber_56 : decode cX12_writesNumber 56 = .ok (.goto (-32), 3) := by decide +kernel
theorem dX12_writesNumber_59 : decode cX12_writesNumber 59 = .ok (.return_, 1) := by decide +kernel
set_option maxRecDepth 20000 in
theorem ggX12_written_X12_refused : GoodIn wsX12_written wsX12_refused := goodIn_r _ [8, 9, 37, 38, 39, 40, 41, 42, 43, 44, 45, 46, 47, 48, 49, 50, 51, 52, 53, 54, 55, 56, 57, 58, 59, 60, 61, 62, 63, 64, 65, 66, 67] (by decide +kernel) (by decide +kernel)
set_option maxRecDepth 20000 in
theorem gX12_written_X12_refused : GoodIn wsX12_written (wsV RX12 76 RX12 yX12_refused wsX12_refused) := goodIn_app (goodIn_of _ (by decide +kernel)) ggX12_written_X12_refused
set_option maxRecDepth 20000 in
theorem ggX12_written_X12_points : GoodIn wsX12_written wsX12_points := goodIn_r _ [13, 2, 14, 15, 7, 16, 37, 38, 39, 40, 41, 42, 43, 44, 45, 46, 47, 48, 49, 50, 51, 52, 53, 54, 55, 56, 57, 58, 59, 60, 61, 62, 63, 64, 65, 66, 67] (by decide +kernel) (by decide +kernel)
set_option maxRecDepth 20000 in
theorem gX12_written_X12_points : GoodIn wsX12_written (wsV RX12 88 RX12 yX12_points wsX12_points) := goodIn_app (goodIn_of _ (by decide +kernel)) ggX12_written_X12_points
set_option maxRecDepth 20000 in
theorem ggX12_written_X12_writes : GoodIn wsX12_written wsX12_writes := goodIn_r _ [20, 3, 1, 37, 38, 39, 40, 41, 42, 43, 44, 45, 46, 47, 48, 49, 50, 51, 52, 53, 54, 55, 56, 57, 58, 59, 60, 61, 62, 63, 64, 65, 66, 67] (by decide +kernel) (by decide +kernel)
set_option maxRecDepth 20000 in
theorem gX12_written_X12_writes : GoodIn wsX12_written (wsV RX12 310 RX12 yX12_writes wsX12_writes) := goodIn_app (goodIn_of _ (by decide +kernel)) ggX12_written_X12_writes
set_option maxRecDepth 20000 in
theorem ggX12_written_X12_x : GoodIn wsX12_written wsX12_x := goodIn_r _ [24, 2, 14, 15, 7, 16, 37, 38, 39, 40, 41, 42, 43, 44, 45, 46, 47, 48, 49, 50, 51, 52, 53, 54, 55, 56, 57, 58, 59, 60, 61, 62, 63, 64, 65, 66, 67] (by decide +kernel) (by decide +kernel)
set_option maxRecDepth 20000 in
theorem gX12_written_X12_x : GoodIn wsX12_written (wsV RX12 122 RX12 yX12_x wsX12_x) := goodIn_app (goodIn_of _ (by decide +kernel)) ggX12_written_X12_x
set_option maxRecDepth 20000 in
theorem ggX12_written_X12_writesNumber : GoodIn wsX12_written wsX12_writesNumber := goodIn_r _ [28, 17, 18, 19, 7, 20, 3, 1, 37, 38, 39, 40, 41, 42, 43, 44, 45, 46, 47, 48, 49, 50, 51, 52, 53, 54, 55, 56, 57, 58, 59, 60, 61, 62, 63, 64, 65, 66, 67] (by decide +kernel) (by decide +kernel)
set_option maxRecDepth 20000 in
theorem gX12_written_X12_writesNumber : GoodIn wsX12_written (wsV RX12 313 RX12 yX12_writesNumber wsX12_writesNumber) := goodIn_app (goodIn_of _ (by decide +kernel)) ggX12_written_X12_writesNumber
set_option maxRecDepth 20000 in
theorem ggX12_written_X12_y : GoodIn wsX12_written wsX12_y := goodIn_r _ [32, 2, 14, 15, 7, 16, 37, 38, 39, 40, 41, 42, 43, 44, 45, 46, 47, 48, 49, 50, 51, 52, 53, 54, 55, 56, 57, 58, 59, 60, 61, 62, 63, 64, 65, 66, 67] (by decide +kernel) (by decide +kernel)
set_option maxRecDepth 20000 in
theorem gX12_written_X12_y : GoodIn wsX12_written (wsV RX12 126 RX12 yX12_y wsX12_y) := goodIn_app (goodIn_of _ (by decide +kernel)) ggX12_written_X12_y
set_option maxRecDepth 20000 in
theorem ggX12_written_X12_isClosed : GoodIn wsX12_written wsX12_isClosed := goodIn_r _ [36, 2, 14, 15, 7, 16, 37, 38, 39, 40, 41, 42, 43, 44, 45, 46, 47, 48, 49, 50, 51, 52, 53, 54, 55, 56, 57, 58, 59, 60, 61, 62, 63, 64, 65, 66, 67] (by decide +kernel) (by decide +kernel)
set_option maxRecDepth 20000 in
theorem gX12_written_X12_isClosed : GoodIn wsX12_written (wsV RX12 102 RX12 yX12_isClosed wsX12_isClosed) := goodIn_app (goodIn_of _ (by decide +kernel)) ggX12_written_X12_isClosed
theorem dX12_written_0 : decode cX12_written 0 = .ok (.aload_n 0, 1) := by decide +kernel
theorem dX12_written_1 : decode cX12_written 1 = .ok (.iload_n 1, 1) := by decide +kernel
theorem dX12_written_2 : decode cX12_written 2 = .ok (.ifCond .ge 7, 3) := by decide +kernel
theorem dX12_written_5 : decode cX12_written 5 = .ok (.iconst 1, 1) := by decide +kernel
theorem dX12_written_6 : decode cX12_written 6 = .ok (.goto 4, 3) := by decide +kernel
theorem dX12_written_9 : decode cX12_written 9 = .ok (.iconst 0, 1) := by decide +kernel
theorem dX12_written_10 : decode cX12_written 10 = .ok (.invokevirtual 76, 3) := by decide +kernel
theorem dX12_written_13 : decode cX12_written 13 = .ok (.ifCond .eq 5, 3) := by decide +kernel
theorem dX12_written_16 : decode cX12_written 16 = .ok (.iconst 0, 1) := by decide +kernel
theorem dX12_written_17 : decode cX12_written 17 = .ok (.ireturn, 1) := by decide +kernel
theorem dX12_written_18 : decode cX12_written 18 = .ok (.aload_n 0, 1) := by decide +kernel
theorem dX12_written_19 : decode cX12_written 19 = .ok (.iconst 0, 1) := by decide +kernel
theorem dX12_written_20 : decode cX12_written 20 = .ok (.putfield 307, 3) := by decide +kernel
theorem dX12_written_23 : decode cX12_written 23 = .ok (.iconst 0, 1) := by decide +kernel
theorem dX12_written_24 : decode cX12_written 24 = .ok (.istore_n 2, 1) := by decide +kernel
theorem dX12_written_25 : decode cX12_written 25 = .ok (.iload_n 2, 1) := by decide +kernel
theorem dX12_written_26 : decode cX12_written 26 = .ok (.aload_n 0, 1) := by decide +kernel
theorem dX12_written_27 : decode cX12_written 27 = .ok (.getfield 7, 3) := by decide +kernel
theorem dX12_written_30 : decode cX12_written 30 = .ok (.bipush 13, 2) := by decide +kernel
theorem dX12_written_32 : decode cX12_written 32 = .ok (.iaload, 1) := by decide +kernel
theorem dX12_written_33 : decode cX12_written 33 = .ok (.if_icmp .ge 81, 3) := by decide +kernel
theorem dX12_written_36 : decode cX12_written 36 = .ok (.iconst 0, 1) := by decide +kernel
theorem dX12_written_37 : decode cX12_written 37 = .ok (.istore_n 3, 1) := by decide +kernel
theorem dX12_written_38 : decode cX12_written 38 = .ok (.iload_n 3, 1) := by decide +kernel
theorem dX12_written_39 : decode cX12_written 39 = .ok (.aload_n 0, 1) := by decide +kernel
theorem dX12_written_40 : decode cX12_written 40 = .ok (.iload_n 2, 1) := by decide +kernel
theorem dX12_written_41 : decode cX12_written 41 = .ok (.invokevirtual 88, 3) := by decide +kernel
theorem dX12_written_44 : decode cX12_written 44 = .ok (.if_icmp .ge 50, 3) := by decide +kernel
theorem dX12_written_47 : decode cX12_written 47 = .ok (.aload_n 0, 1) := by decide +kernel
theorem dX12_written_48 : decode cX12_written 48 = .ok (.iload_n 3, 1) := by decide +kernel
theorem dX12_written_49 : decode cX12_written 49 = .ok (.ifCond .ne 8, 3) := by decide +kernel
theorem dX12_written_52 : decode cX12_written 52 = .ok (.bipush 77, 2) := by decide +kernel
theorem dX12_written_54 : decode cX12_written 54 = .ok (.goto 5, 3) := by decide +kernel
theorem dX12_written_57 : decode cX12_written 57 = .ok (.bipush 76, 2) := by decide +kernel
theorem dX12_written_59 : decode cX12_written 59 = .ok (.invokevirtual 310, 3) := by decide +kernel
theorem dX12_written_62 : decode cX12_written 62 = .ok (.aload_n 0, 1) := by decide +kernel
theorem dX12_written_63 : decode cX12_written 63 = .ok (.aload_n 0, 1) := by decide +kernel
theorem dX12_written_64 : decode cX12_written 64 = .ok (.iload_n 2, 1) := by decide +kernel
theorem dX12_written_65 : decode cX12_written 65 = .ok (.iload_n 3, 1) := by decide +kernel
theorem dX12_written_66 : decode cX12_written 66 = .ok (.invokevirtual 122, 3) := by decide +kernel
theorem dX12_written_69 : decode cX12_written 69 = .ok (.invokevirtual 313, 3) := by decide +kernel
theorem dX12_written_72 : decode cX12_written 72 = .ok (.aload_n 0, 1) := by decide +kernel
theorem dX12_written_73 : decode cX12_written 73 = .ok (.bipush 44, 2) := by decide +kernel
theorem dX12_written_75 : decode cX12_written 75 = .ok (.invokevirtual 310, 3) := by decide +kernel
theorem dX12_written_78 : decode cX12_written 78 = .ok (.aload_n 0, 1) := by decide +kernel
theorem dX12_written_79 : decode cX12_written 79 = .ok (.aload_n 0, 1) := by decide +kernel
theorem dX12_written_80 : decode cX12_written 80 = .ok (.iload_n 2, 1) := by decide +kernel
theorem dX12_written_81 : decode cX12_written 81 = .ok (.iload_n 3, 1) := by decide +kernel
theorem dX12_written_82 : decode cX12_written 82 = .ok (.invokevirtual 126, 3) := by decide +kernel
theorem dX12_written_85 : decode cX12_written 85 = .ok (.invokevirtual 313, 3) := by decide +kernel
theorem dX12_written_88 : decode cX12_written 88 = .ok (.iinc 3 1, 3) := by decide +kernel
theorem dX12_written_91 : decode cX12_written 91 = .ok (.goto (-53), 3) := by decide +kernel
theorem dX12_written_94 : decode cX12_written 94 = .ok (.aload_n 0, 1) := by decide +kernel
theorem dX12_written_95 : decode cX12_written 95 = .ok (.iload_n 2, 1) := by decide +kernel
theorem dX12_written_96 : decode cX12_written 96 = .ok (.invokevirtual 102, 3) := by decide +kernel
theorem dX12_written_99 : decode cX12_written 99 = .ok (.ifCond .eq 9, 3) := by decide +kernel
theorem dX12_written_102 : decode cX12_written 102 = .ok (.aload_n 0, 1) := by decide +kernel
theorem dX12_written_103 : decode cX12_written 103 = .ok (.bipush 90, 2) := by decide +kernel
theorem dX12_written_105 : decode cX12_written 105 = .ok (.invokevirtual 310, 3) := by decide +kernel
theorem dX12_written_108 : decode cX12_written 108 = .ok (.iinc 2 1, 3) := by decide +kernel
theorem dX12_written_111 : decode cX12_written 111 = .ok (.goto (-86), 3) := by decide +kernel
theorem dX12_written_114 : decode cX12_written 114 = .ok (.iload_n 1, 1) := by decide +kernel
theorem dX12_written_115 : decode cX12_written 115 = .ok (.aload_n 0, 1) := by decide +kernel
theorem dX12_written_116 : decode cX12_written 116 = .ok (.getfield 307, 3) := by decide +kernel
theorem dX12_written_119 : decode cX12_written 119 = .ok (.if_icmp .ge 12, 3) := by decide +kernel
theorem dX12_written_122 : decode cX12_written 122 = .ok (.aload_n 0, 1) := by decide +kernel
theorem dX12_written_123 : decode cX12_written 123 = .ok (.getfield 58, 3) := by decide +kernel
theorem dX12_written_126 : decode cX12_written 126 = .ok (.iload_n 1, 1) := by decide +kernel
theorem dX12_written_127 : decode cX12_written 127 = .ok (.iaload, 1) := by decide +kernel
theorem dX12_written_128 : decode cX12_written 128 = .ok (.goto 4, 3) := by decide +kernel
theorem dX12_written_131 : decode cX12_written 131 = .ok (.iconst (-1), 1) := by decide +kernel
theorem dX12_written_132 : decode cX12_written 132 = .ok (.ireturn, 1) := by decide +kernel
theorem dX12_mix_0 : decode cX12_mix 0 = .ok (.aload_n 0, 1) := by decide +kernel
theorem dX12_mix_1 : decode cX12_mix 1 = .ok (.ldc2_w 316, 3) := by decide +kernel
theorem dX12_mix_4 : decode cX12_mix 4 = .ok (.aload_n 0, 1) := by decide +kernel
theorem dX12_mix_5 : decode cX12_mix 5 = .ok (.getfield 318, 3) := by decide +kernel
theorem dX12_mix_8 : decode cX12_mix 8 = .ok (.lmul, 1) := by decide +kernel
theorem dX12_mix_9 : decode cX12_mix 9 = .ok (.iload_n 1, 1) := by decide +kernel
theorem dX12_mix_10 : decode cX12_mix 10 = .ok (.i2l, 1) := by decide +kernel
theorem dX12_mix_11 : decode cX12_mix 11 = .ok (.ladd, 1) := by decide +kernel
theorem dX12_mix_12 : decode cX12_mix 12 = .ok (.putfield 318, 3) := by decide +kernel
theorem dX12_mix_15 : decode cX12_mix 15 = .ok (.return_, 1) := by decide +kernel
set_option maxRecDepth 20000 in
theorem ggX12_mixAll_X12_mix : GoodIn wsX12_mixAll wsX12_mix := goodIn_r _ [6, 7, 8, 9, 10, 11, 12, 13, 14, 15, 16, 17, 18, 19, 20, 21, 22, 23, 24, 25, 26, 27, 28, 29, 30, 31, 32, 33, 34, 35, 36, 37, 38, 39] (by decide +kernel) (by decide +kernel)
set_option maxRecDepth 20000 in
theorem gX12_mixAll_X12_mix : GoodIn wsX12_mixAll (wsV RX12 322 RX12 yX12_mix wsX12_mix) := goodIn_app (goodIn_of _ (by decide +kernel)) ggX12_mixAll_X12_mix
theorem dX12_mixAll_0 : decode cX12_mixAll 0 = .ok (.iload_n 1, 1) := by decide +kernel
theorem dX12_mixAll_1 : decode cX12_mixAll 1 = .ok (.istore_n 3, 1) := by decide +kernel
theorem dX12_mixAll_2 : decode cX12_mixAll 2 = .ok (.iload_n 3, 1) := by decide +kernel
theorem dX12_mixAll_3 : decode cX12_mixAll 3 = .ok (.iload_n 1, 1) := by decide +kernel
theorem dX12_mixAll_4 : decode cX12_mixAll 4 = .ok (.iload_n 2, 1) := by decide +kernel
theorem dX12_mixAll_5 : decode cX12_mixAll 5 = .ok (.iadd, 1) := by decide +kernel
theorem dX12_mixAll_6 : decode cX12_mixAll 6 = .ok (.if_icmp .ge 19, 3) := by decide +kernel
theorem dX12_mixAll_9 : decode cX12_mixAll 9 = .ok (.aload_n 0, 1) := by decide +kernel
theorem dX12_mixAll_10 : decode cX12_mixAll 10 = .ok (.aload_n 0, 1) := by decide +kernel
theorem dX12_mixAll_11 : decode cX12_mixAll 11 = .ok (.getfield 7, 3) := by decide +kernel
theorem dX12_mixAll_14 : decode cX12_mixAll 14 = .ok (.iload_n 3, 1) := by decide +kernel
theorem dX12_mixAll_15 : decode cX12_mixAll 15 = .ok (.iaload, 1) := by decide +kernel
theorem dX12_mixAll_16 : decode cX12_mixAll 16 = .ok (.invokevirtual 322, 3) := by decide +kernel
theorem dX12_mixAll_19 : decode cX12_mixAll 19 = .ok (.iinc 3 1, 3) := by decide +kernel
theorem dX12_mixAll_22 : decode cX12_mixAll 22 = .ok (.goto (-20), 3) := by decide +kernel
theorem dX12_mixAll_25 : decode cX12_mixAll 25 = .ok (.return_, 1) := by decide +kernel
set_option maxRecDepth 20000 in
theorem ggX12_mixSubpath_X12_tellSubpath : GoodIn wsX12_mixSubpath wsX12_tellSubpath := goodIn_r _ [6, 7, 8, 9, 10, 11, 12, 5, 13, 14, 15, 16, 17, 18, 19, 20, 21, 22, 23, 24, 25, 26, 27, 28, 29, 30, 31, 32, 33, 34, 35, 36, 37, 38, 39, 40, 41, 42, 43, 44, 86, 87, 88, 89, 90, 91, 92, 93, 94, 95, 96, 97, 98, 99, 100, 101, 102, 103, 104, 105, 106, 107, 108, 109, 110, 111, 112, 113, 114, 115, 116] (by decide +kernel) (by decide +kernel)
set_option maxRecDepth 20000 in
theorem gX12_mixSubpath_X12_tellSubpath : GoodIn wsX12_mixSubpath (wsV RX12 157 RX12 yX12_tellSubpath wsX12_tellSubpath) := goodIn_app (goodIn_of _ (by decide +kernel)) ggX12_mixSubpath_X12_tellSubpath
set_option maxRecDepth 20000 in
theorem ggX12_mixSubpath_X12_mix : GoodIn wsX12_mixSubpath wsX12_mix := goodIn_r _ [48, 49, 50, 86, 87, 88, 89, 90, 91, 92, 93, 94, 95, 96, 97, 98, 99, 100, 101, 102, 103, 104, 105, 106, 107, 108, 109, 110, 111, 112, 113, 114, 115, 116] (by decide +kernel) (by decide +kernel)
set_option maxRecDepth 20000 in
theorem gX12_mixSubpath_X12_mix : GoodIn wsX12_mixSubpath (wsV RX12 322 RX12 yX12_mix wsX12_mix) := goodIn_app (goodIn_of _ (by decide +kernel)) ggX12_mixSubpath_X12_mix
set_option maxRecDepth 20000 in
theorem ggX12_mixSubpath_X12_at : GoodIn wsX12_mixSubpath wsX12_at := goodIn_r _ [27] (by decide +kernel) (by decide +kernel)
set_option maxRecDepth 20000 in
theorem gX12_mixSubpath_X12_at : GoodIn wsX12_mixSubpath (va_wsS RX12 80 yX12_at wsX12_at) := goodIn_app (goodIn_of _ (by decide +kernel)) ggX12_mixSubpath_X12_at
set_option maxRecDepth 20000 in
theorem ggX12_mixSubpath_X12_points : GoodIn wsX12_mixSubpath wsX12_points := goodIn_r _ [24, 7, 25, 26, 5, 27, 86, 87, 88, 89, 90, 91, 92, 93, 94, 95, 96, 97, 98, 99, 100, 101, 102, 103, 104, 105, 106, 107, 108, 109, 110, 111, 112, 113, 114, 115, 116] (by decide +kernel) (by decide +kernel)
set_option maxRecDepth 20000 in
theorem gX12_mixSubpath_X12_points : GoodIn wsX12_mixSubpath (wsV RX12 88 RX12 yX12_points wsX12_points) := goodIn_app (goodIn_of _ (by decide +kernel)) ggX12_mixSubpath_X12_points
set_option maxRecDepth 20000 in
theorem ggX12_mixSubpath_X12_mixAll : GoodIn wsX12_mixSubpath wsX12_mixAll := goodIn_r _ [54, 7, 45, 46, 47, 5, 48, 49, 50, 86, 87, 88, 89, 90, 91, 92, 93, 94, 95, 96, 97, 98, 99, 100, 101, 102, 103, 104, 105, 106, 107, 108, 109, 110, 111, 112, 113, 114, 115, 116] (by decide +kernel) (by decide +kernel)
set_option maxRecDepth 20000 in
theorem gX12_mixSubpath_X12_mixAll : GoodIn wsX12_mixSubpath (wsV RX12 325 RX12 yX12_mixAll wsX12_mixAll) := goodIn_app (goodIn_of _ (by decide +kernel)) ggX12_mixSubpath_X12_mixAll
set_option maxRecDepth 20000 in
theorem ggX12_mixSubpath_X12_laysRuns : GoodIn wsX12_mixSubpath wsX12_laysRuns := goodIn_r _ [58, 7, 1, 59, 9, 60, 61, 62, 63, 64, 5, 65, 10, 11, 12, 13, 8, 14, 15, 16, 17, 18, 19, 20, 21, 22, 23, 24, 25, 26, 27, 28, 29, 30, 31, 32, 33, 34, 35, 36, 37, 38, 39, 40, 41, 42, 43, 44, 66, 67, 68, 69, 86, 87, 88, 89, 90, 91, 92, 93, 94, 95, 96, 97, 98, 99, 100, 101, 102, 103, 104, 105, 106, 107, 108, 109, 110, 111, 112, 113, 114, 115, 116] (by decide +kernel) (by decide +kernel)
set_option maxRecDepth 20000 in
theorem gX12_mixSubpath_X12_laysRuns : GoodIn wsX12_mixSubpath (wsV RX12 185 RX12 yX12_laysRuns wsX12_laysRuns) := goodIn_app (goodIn_of _ (by decide +kernel)) ggX12_mixSubpath_X12_laysRuns
set_option maxRecDepth 20000 in
theorem ggX12_mixSubpath_X12_tellRun : GoodIn wsX12_mixSubpath wsX12_tellRun := goodIn_r _ [73, 60, 61, 74, 59, 75, 76, 77, 5, 78, 9, 79, 80, 81, 82, 8, 20, 18, 83, 84, 85, 86, 87, 88, 89, 90, 91, 92, 93, 94, 95, 96, 97, 98, 99, 100, 101, 102, 103, 104, 105, 106, 107, 108, 109, 110, 111, 112, 113, 114, 115, 116] (by decide +kernel) (by decide +kernel)
set_option maxRecDepth 20000 in
theorem gX12_mixSubpath_X12_tellRun : GoodIn wsX12_mixSubpath (wsV RX12 191 RX12 yX12_tellRun wsX12_tellRun) := goodIn_app (goodIn_of _ (by decide +kernel)) ggX12_mixSubpath_X12_tellRun
theorem dX12_mixSubpath_0 : decode cX12_mixSubpath 0 = .ok (.iconst 0, 1) := by decide +kernel
theorem dX12_mixSubpath_1 : decode cX12_mixSubpath 1 = .ok (.istore_n 2, 1) := by decide +kernel
theorem dX12_mixSubpath_2 : decode cX12_mixSubpath 2 = .ok (.iload_n 2, 1) := by decide +kernel
theorem dX12_mixSubpath_3 : decode cX12_mixSubpath 3 = .ok (.iconst 4, 1) := by decide +kernel
theorem dX12_mixSubpath_4 : decode cX12_mixSubpath 4 = .ok (.if_icmp .ge 19, 3) := by decide +kernel
theorem dX12_mixSubpath_7 : decode cX12_mixSubpath 7 = .ok (.aload_n 0, 1) := by decide +kernel
theorem dX12_mixSubpath_8 : decode cX12_mixSubpath 8 = .ok (.aload_n 0, 1) := by decide +kernel
theorem dX12_mixSubpath_9 : decode cX12_mixSubpath 9 = .ok (.iload_n 1, 1) := by decide +kernel
theorem dX12_mixSubpath_10 : decode cX12_mixSubpath 10 = .ok (.iload_n 2, 1) := by decide +kernel
theorem dX12_mixSubpath_11 : decode cX12_mixSubpath 11 = .ok (.invokevirtual 157, 3) := by decide +kernel
theorem dX12_mixSubpath_14 : decode cX12_mixSubpath 14 = .ok (.invokevirtual 322, 3) := by decide +kernel
theorem dX12_mixSubpath_17 : decode cX12_mixSubpath 17 = .ok (.iinc 2 1, 3) := by decide +kernel
theorem dX12_mixSubpath_20 : decode cX12_mixSubpath 20 = .ok (.goto (-18), 3) := by decide +kernel
theorem dX12_mixSubpath_23 : decode cX12_mixSubpath 23 = .ok (.aload_n 0, 1) := by decide +kernel
theorem dX12_mixSubpath_24 : decode cX12_mixSubpath 24 = .ok (.iload_n 1, 1) := by decide +kernel
theorem dX12_mixSubpath_25 : decode cX12_mixSubpath 25 = .ok (.invokestatic 80, 3) := by decide +kernel
theorem dX12_mixSubpath_28 : decode cX12_mixSubpath 28 = .ok (.iconst 2, 1) := by decide +kernel
theorem dX12_mixSubpath_29 : decode cX12_mixSubpath 29 = .ok (.iadd, 1) := by decide +kernel
theorem dX12_mixSubpath_30 : decode cX12_mixSubpath 30 = .ok (.iconst 2, 1) := by decide +kernel
theorem dX12_mixSubpath_31 : decode cX12_mixSubpath 31 = .ok (.aload_n 0, 1) := by decide +kernel
theorem dX12_mixSubpath_32 : decode cX12_mixSubpath 32 = .ok (.iload_n 1, 1) := by decide +kernel
theorem dX12_mixSubpath_33 : decode cX12_mixSubpath 33 = .ok (.invokevirtual 88, 3) := by decide +kernel
theorem dX12_mixSubpath_36 : decode cX12_mixSubpath 36 = .ok (.imul, 1) := by decide +kernel
theorem dX12_mixSubpath_37 : decode cX12_mixSubpath 37 = .ok (.invokevirtual 325, 3) := by decide +kernel
theorem dX12_mixSubpath_40 : decode cX12_mixSubpath 40 = .ok (.aload_n 0, 1) := by decide +kernel
theorem dX12_mixSubpath_41 : decode cX12_mixSubpath 41 = .ok (.iload_n 1, 1) := by decide +kernel
theorem dX12_mixSubpath_42 : decode cX12_mixSubpath 42 = .ok (.invokevirtual 185, 3) := by decide +kernel
theorem dX12_mixSubpath_45 : decode cX12_mixSubpath 45 = .ok (.aload_n 0, 1) := by decide +kernel
theorem dX12_mixSubpath_46 : decode cX12_mixSubpath 46 = .ok (.aload_n 0, 1) := by decide +kernel
theorem dX12_mixSubpath_47 : decode cX12_mixSubpath 47 = .ok (.getfield 169, 3) := by decide +kernel
theorem dX12_mixSubpath_50 : decode cX12_mixSubpath 50 = .ok (.invokevirtual 322, 3) := by decide +kernel
theorem dX12_mixSubpath_53 : decode cX12_mixSubpath 53 = .ok (.iconst 0, 1) := by decide +kernel
theorem dX12_mixSubpath_54 : decode cX12_mixSubpath 54 = .ok (.istore_n 2, 1) := by decide +kernel
theorem dX12_mixSubpath_55 : decode cX12_mixSubpath 55 = .ok (.iload_n 2, 1) := by decide +kernel
theorem dX12_mixSubpath_56 : decode cX12_mixSubpath 56 = .ok (.aload_n 0, 1) := by decide +kernel
theorem dX12_mixSubpath_57 : decode cX12_mixSubpath 57 = .ok (.getfield 169, 3) := by decide +kernel
theorem dX12_mixSubpath_60 : decode cX12_mixSubpath 60 = .ok (.if_icmp .ge 32, 3) := by decide +kernel
theorem dX12_mixSubpath_63 : decode cX12_mixSubpath 63 = .ok (.iconst 0, 1) := by decide +kernel
theorem dX12_mixSubpath_64 : decode cX12_mixSubpath 64 = .ok (.istore_n 3, 1) := by decide +kernel
theorem dX12_mixSubpath_65 : decode cX12_mixSubpath 65 = .ok (.iload_n 3, 1) := by decide +kernel
theorem dX12_mixSubpath_66 : decode cX12_mixSubpath 66 = .ok (.iconst 4, 1) := by decide +kernel
theorem dX12_mixSubpath_67 : decode cX12_mixSubpath 67 = .ok (.if_icmp .ge 19, 3) := by decide +kernel
theorem dX12_mixSubpath_70 : decode cX12_mixSubpath 70 = .ok (.aload_n 0, 1) := by decide +kernel
theorem dX12_mixSubpath_71 : decode cX12_mixSubpath 71 = .ok (.aload_n 0, 1) := by decide +kernel
theorem dX12_mixSubpath_72 : decode cX12_mixSubpath 72 = .ok (.iload_n 2, 1) := by decide +kernel
theorem dX12_mixSubpath_73 : decode cX12_mixSubpath 73 = .ok (.iload_n 3, 1) := by decide +kernel
theorem dX12_mixSubpath_74 : decode cX12_mixSubpath 74 = .ok (.invokevirtual 191, 3) := by decide +kernel
theorem dX12_mixSubpath_77 : decode cX12_mixSubpath 77 = .ok (.invokevirtual 322, 3) := by decide +kernel
theorem dX12_mixSubpath_80 : decode cX12_mixSubpath 80 = .ok (.iinc 3 1, 3) := by decide +kernel
theorem dX12_mixSubpath_83 : decode cX12_mixSubpath 83 = .ok (.goto (-18), 3) := by decide +kernel
theorem dX12_mixSubpath_86 : decode cX12_mixSubpath 86 = .ok (.iinc 2 1, 3) := by decide +kernel
theorem dX12_mixSubpath_89 : decode cX12_mixSubpath 89 = .ok (.goto (-34), 3) := by decide +kernel
theorem dX12_mixSubpath_92 : decode cX12_mixSubpath 92 = .ok (.return_, 1) := by decide +kernel
set_option maxRecDepth 20000 in
theorem ggX12_digest_X12_mix : GoodIn wsX12_digest wsX12_mix := goodIn_r _ [12, 13, 3, 188, 189, 190, 191, 192, 193, 194, 195, 196, 197, 198, 199, 200, 201, 202, 203, 204, 205, 206, 207, 208, 209, 210, 211, 212, 213, 214, 215, 216, 217, 218] (by decide +kernel) (by decide +kernel)
set_option maxRecDepth 20000 in
theorem gX12_digest_X12_mix : GoodIn wsX12_digest (wsV RX12 322 RX12 yX12_mix wsX12_mix) := goodIn_app (goodIn_of _ (by decide +kernel)) ggX12_digest_X12_mix
set_option maxRecDepth 20000 in
theorem ggX12_digest_X12_mixAll : GoodIn wsX12_digest wsX12_mixAll := goodIn_r _ [17, 5, 8, 9, 10, 11, 12, 13, 3, 188, 189, 190, 191, 192, 193, 194, 195, 196, 197, 198, 199, 200, 201, 202, 203, 204, 205, 206, 207, 208, 209, 210, 211, 212, 213, 214, 215, 216, 217, 218] (by decide +kernel) (by decide +kernel)
set_option maxRecDepth 20000 in
theorem gX12_digest_X12_mixAll : GoodIn wsX12_digest (wsV RX12 325 RX12 yX12_mixAll wsX12_mixAll) := goodIn_app (goodIn_of _ (by decide +kernel)) ggX12_digest_X12_mixAll
set_option maxRecDepth 20000 in
theorem ggX12_digest_X12_mixSubpath : GoodIn wsX12_digest wsX12_mixSubpath := goodIn_r _ [21, 22, 23, 24, 25, 11, 26, 5, 27, 28, 29, 30, 31, 32, 33, 34, 35, 36, 37, 38, 39, 40, 41, 42, 43, 44, 45, 46, 47, 48, 49, 50, 51, 52, 53, 54, 55, 56, 57, 58, 59, 60, 61, 62, 63, 8, 9, 10, 12, 13, 3, 14, 15, 16, 17, 64, 65, 66, 67, 68, 69, 70, 71, 72, 73, 74, 75, 76, 77, 78, 79, 80, 81, 82, 83, 84, 85, 86, 87, 88, 89, 90, 91, 92, 93, 94, 188, 189, 190, 191, 192, 193, 194, 195, 196, 197, 198, 199, 200, 201, 202, 203, 204, 205, 206, 207, 208, 209, 210, 211, 212, 213, 214, 215, 216, 217, 218] (by decide +kernel) (by decide +kernel)
set_option maxRecDepth 20000 in
theorem gX12_digest_X12_mixSubpath : GoodIn wsX12_digest (wsV RX12 330 RX12 yX12_mixSubpath wsX12_mixSubpath) := goodIn_app (goodIn_of _ (by decide +kernel)) ggX12_digest_X12_mixSubpath
set_option maxRecDepth 20000 in
theorem ggX12_digest_X12_laysPieces : GoodIn wsX12_digest wsX12_laysPieces := goodIn_r _ [98, 6, 5, 27, 22, 64, 65, 66, 11, 67, 68, 28, 69, 70, 71, 72, 73, 74, 29, 30, 31, 32, 33, 34, 35, 36, 37, 38, 39, 40, 41, 42, 43, 44, 45, 46, 47, 48, 49, 50, 51, 52, 53, 54, 55, 56, 57, 58, 59, 60, 61, 62, 63, 75, 76, 77, 78, 99, 100, 101, 102, 103, 104, 105, 106, 107, 108, 109, 110, 111, 112, 113, 114, 115, 116, 117, 118, 119, 120, 121, 122, 123, 83, 92, 93, 94, 84, 85, 86, 87, 88, 89, 90, 91, 124, 125, 126, 127, 128, 129, 130, 131, 132, 133, 134, 135, 136, 137, 138, 139, 140, 141, 142, 143, 144, 145, 146, 147, 148, 149, 150, 151, 152, 153, 154, 155, 156, 157, 158, 159, 160, 161, 162, 163, 164, 165, 166, 167, 168, 169, 170, 171, 188, 189, 190, 191, 192, 193, 194, 195, 196, 197, 198, 199, 200, 201, 202, 203, 204, 205, 206, 207, 208, 209, 210, 211, 212, 213, 214, 215, 216, 217, 218] (by decide +kernel) (by decide +kernel)
set_option maxRecDepth 20000 in
theorem gX12_digest_X12_laysPieces : GoodIn wsX12_digest (wsV RX12 253 RX12 yX12_laysPieces wsX12_laysPieces) := goodIn_app (goodIn_of _ (by decide +kernel)) ggX12_digest_X12_laysPieces
set_option maxRecDepth 20000 in
theorem ggX12_digest_X12_kindOf : GoodIn wsX12_digest wsX12_kindOf := goodIn_r _ [175, 115, 188, 189, 190, 191, 192, 193, 194, 195, 196, 197, 198, 199, 200, 201, 202, 203, 204, 205, 206, 207, 208, 209, 210, 211, 212, 213, 214, 215, 216, 217, 218] (by decide +kernel) (by decide +kernel)
set_option maxRecDepth 20000 in
theorem gX12_digest_X12_kindOf : GoodIn wsX12_digest (wsV RX12 247 RX12 yX12_kindOf wsX12_kindOf) := goodIn_app (goodIn_of _ (by decide +kernel)) ggX12_digest_X12_kindOf
set_option maxRecDepth 20000 in
theorem ggX12_digest_X12_cornersOf : GoodIn wsX12_digest wsX12_cornersOf := goodIn_r _ [179, 172, 173, 174, 11, 175, 115, 188, 189, 190, 191, 192, 193, 194, 195, 196, 197, 198, 199, 200, 201, 202, 203, 204, 205, 206, 207, 208, 209, 210, 211, 212, 213, 214, 215, 216, 217, 218] (by decide +kernel) (by decide +kernel)
set_option maxRecDepth 20000 in
theorem gX12_digest_X12_cornersOf : GoodIn wsX12_digest (wsV RX12 250 RX12 yX12_cornersOf wsX12_cornersOf) := goodIn_app (goodIn_of _ (by decide +kernel)) ggX12_digest_X12_cornersOf
set_option maxRecDepth 20000 in
theorem ggX12_digest_X12_cornerX : GoodIn wsX12_digest wsX12_cornerX := goodIn_r _ [183, 115, 176, 177, 178, 11, 179, 172, 173, 174, 175, 188, 189, 190, 191, 192, 193, 194, 195, 196, 197, 198, 199, 200, 201, 202, 203, 204, 205, 206, 207, 208, 209, 210, 211, 212, 213, 214, 215, 216, 217, 218] (by decide +kernel) (by decide +kernel)
set_option maxRecDepth 20000 in
theorem gX12_digest_X12_cornerX : GoodIn wsX12_digest (wsV RX12 256 RX12 yX12_cornerX wsX12_cornerX) := goodIn_app (goodIn_of _ (by decide +kernel)) ggX12_digest_X12_cornerX
set_option maxRecDepth 20000 in
theorem ggX12_digest_X12_cornerY : GoodIn wsX12_digest wsX12_cornerY := goodIn_r _ [187, 115, 176, 177, 178, 11, 179, 172, 173, 174, 175, 188, 189, 190, 191, 192, 193, 194, 195, 196, 197, 198, 199, 200, 201, 202, 203, 204, 205, 206, 207, 208, 209, 210, 211, 212, 213, 214, 215, 216, 217, 218] (by decide +kernel) (by decide +kernel)
set_option maxRecDepth 20000 in
theorem gX12_digest_X12_cornerY : GoodIn wsX12_digest (wsV RX12 259 RX12 yX12_cornerY wsX12_cornerY) := goodIn_app (goodIn_of _ (by decide +kernel)) ggX12_digest_X12_cornerY
theorem dX12_digest_0 : decode cX12_digest 0 = .ok (.aload_n 0, 1) := by decide +kernel
theorem dX12_digest_1 : decode cX12_digest 1 = .ok (.iconst 0, 1) := by decide +kernel
theorem dX12_digest_2 : decode cX12_digest 2 = .ok (.putfield 61, 3) := by decide +kernel
theorem dX12_digest_5 : decode cX12_digest 5 = .ok (.aload_n 0, 1) := by decide +kernel
theorem dX12_digest_6 : decode cX12_digest 6 = .ok (.ldc2_w 328, 3) := by decide +kernel
theorem dX12_digest_9 : decode cX12_digest 9 = .ok (.putfield 318, 3) := by decide +kernel
theorem dX12_digest_12 : decode cX12_digest 12 = .ok (.aload_n 0, 1) := by decide +kernel
theorem dX12_digest_13 : decode cX12_digest 13 = .ok (.aload_n 0, 1) := by decide +kernel
theorem dX12_digest_14 : decode cX12_digest 14 = .ok (.getfield 280, 3) := by decide +kernel
theorem dX12_digest_17 : decode cX12_digest 17 = .ok (.invokevirtual 322, 3) := by decide +kernel
theorem dX12_digest_20 : decode cX12_digest 20 = .ok (.aload_n 0, 1) := by decide +kernel
theorem dX12_digest_21 : decode cX12_digest 21 = .ok (.iconst 0, 1) := by decide +kernel
theorem dX12_digest_22 : decode cX12_digest 22 = .ok (.bipush 7, 2) := by decide +kernel
theorem dX12_digest_24 : decode cX12_digest 24 = .ok (.aload_n 0, 1) := by decide +kernel
theorem dX12_digest_25 : decode cX12_digest 25 = .ok (.getfield 7, 3) := by decide +kernel
theorem dX12_digest_28 : decode cX12_digest 28 = .ok (.bipush 6, 2) := by decide +kernel
theorem dX12_digest_30 : decode cX12_digest 30 = .ok (.iaload, 1) := by decide +kernel
theorem dX12_digest_31 : decode cX12_digest 31 = .ok (.iadd, 1) := by decide +kernel
theorem dX12_digest_32 : decode cX12_digest 32 = .ok (.invokevirtual 325, 3) := by decide +kernel
theorem dX12_digest_35 : decode cX12_digest 35 = .ok (.aload_n 0, 1) := by decide +kernel
theorem dX12_digest_36 : decode cX12_digest 36 = .ok (.aload_n 0, 1) := by decide +kernel
theorem dX12_digest_37 : decode cX12_digest 37 = .ok (.getfield 7, 3) := by decide +kernel
theorem dX12_digest_40 : decode cX12_digest 40 = .ok (.bipush 13, 2) := by decide +kernel
theorem dX12_digest_42 : decode cX12_digest 42 = .ok (.iaload, 1) := by decide +kernel
theorem dX12_digest_43 : decode cX12_digest 43 = .ok (.invokevirtual 322, 3) := by decide +kernel
theorem dX12_digest_46 : decode cX12_digest 46 = .ok (.iconst 0, 1) := by decide +kernel
theorem dX12_digest_47 : decode cX12_digest 47 = .ok (.istore_n 1, 1) := by decide +kernel
theorem dX12_digest_48 : decode cX12_digest 48 = .ok (.iload_n 1, 1) := by decide +kernel
theorem dX12_digest_49 : decode cX12_digest 49 = .ok (.aload_n 0, 1) := by decide +kernel
theorem dX12_digest_50 : decode cX12_digest 50 = .ok (.getfield 7, 3) := by decide +kernel
theorem dX12_digest_53 : decode cX12_digest 53 = .ok (.bipush 13, 2) := by decide +kernel
theorem dX12_digest_55 : decode cX12_digest 55 = .ok (.iaload, 1) := by decide +kernel
theorem dX12_digest_56 : decode cX12_digest 56 = .ok (.if_icmp .ge 14, 3) := by decide +kernel
theorem dX12_digest_59 : decode cX12_digest 59 = .ok (.aload_n 0, 1) := by decide +kernel
theorem dX12_digest_60 : decode cX12_digest 60 = .ok (.iload_n 1, 1) := by decide +kernel
theorem dX12_digest_61 : decode cX12_digest 61 = .ok (.invokevirtual 330, 3) := by decide +kernel
theorem dX12_digest_64 : decode cX12_digest 64 = .ok (.iinc 1 1, 3) := by decide +kernel
theorem dX12_digest_67 : decode cX12_digest 67 = .ok (.goto (-19), 3) := by decide +kernel
theorem dX12_digest_70 : decode cX12_digest 70 = .ok (.aload_n 0, 1) := by decide +kernel
theorem dX12_digest_71 : decode cX12_digest 71 = .ok (.invokevirtual 253, 3) := by decide +kernel
theorem dX12_digest_74 : decode cX12_digest 74 = .ok (.aload_n 0, 1) := by decide +kernel
theorem dX12_digest_75 : decode cX12_digest 75 = .ok (.aload_n 0, 1) := by decide +kernel
theorem dX12_digest_76 : decode cX12_digest 76 = .ok (.getfield 194, 3) := by decide +kernel
theorem dX12_digest_79 : decode cX12_digest 79 = .ok (.invokevirtual 322, 3) := by decide +kernel
theorem dX12_digest_82 : decode cX12_digest 82 = .ok (.iconst 0, 1) := by decide +kernel
theorem dX12_digest_83 : decode cX12_digest 83 = .ok (.istore_n 1, 1) := by decide +kernel
theorem dX12_digest_84 : decode cX12_digest 84 = .ok (.iload_n 1, 1) := by decide +kernel
theorem dX12_digest_85 : decode cX12_digest 85 = .ok (.aload_n 0, 1) := by decide +kernel
theorem dX12_digest_86 : decode cX12_digest 86 = .ok (.getfield 194, 3) := by decide +kernel
theorem dX12_digest_89 : decode cX12_digest 89 = .ok (.if_icmp .ge 55, 3) := by decide +kernel
theorem dX12_digest_92 : decode cX12_digest 92 = .ok (.aload_n 0, 1) := by decide +kernel
theorem dX12_digest_93 : decode cX12_digest 93 = .ok (.aload_n 0, 1) := by decide +kernel
theorem dX12_digest_94 : decode cX12_digest 94 = .ok (.iload_n 1, 1) := by decide +kernel
theorem dX12_digest_95 : decode cX12_digest 95 = .ok (.invokevirtual 247, 3) := by decide +kernel
theorem dX12_digest_98 : decode cX12_digest 98 = .ok (.invokevirtual 322, 3) := by decide +kernel
theorem dX12_digest_101 : decode cX12_digest 101 = .ok (.iconst 0, 1) := by decide +kernel
theorem dX12_digest_102 : decode cX12_digest 102 = .ok (.istore_n 2, 1) := by decide +kernel
theorem dX12_digest_103 : decode cX12_digest 103 = .ok (.iload_n 2, 1) := by decide +kernel
theorem dX12_digest_104 : decode cX12_digest 104 = .ok (.aload_n 0, 1) := by decide +kernel
theorem dX12_digest_105 : decode cX12_digest 105 = .ok (.iload_n 1, 1) := by decide +kernel
theorem dX12_digest_106 : decode cX12_digest 106 = .ok (.invokevirtual 250, 3) := by decide +kernel
theorem dX12_digest_109 : decode cX12_digest 109 = .ok (.if_icmp .ge 29, 3) := by decide +kernel
theorem dX12_digest_112 : decode cX12_digest 112 = .ok (.aload_n 0, 1) := by decide +kernel
theorem dX12_digest_113 : decode cX12_digest 113 = .ok (.aload_n 0, 1) := by decide +kernel
theorem dX12_digest_114 : decode cX12_digest 114 = .ok (.iload_n 1, 1) := by decide +kernel
theorem dX12_digest_115 : decode cX12_digest 115 = .ok (.iload_n 2, 1) := by decide +kernel
theorem dX12_digest_116 : decode cX12_digest 116 = .ok (.invokevirtual 256, 3) := by decide +kernel
theorem dX12_digest_119 : decode cX12_digest 119 = .ok (.invokevirtual 322, 3) := by decide +kernel
theorem dX12_digest_122 : decode cX12_digest 122 = .ok (.aload_n 0, 1) := by decide +kernel
theorem dX12_digest_123 : decode cX12_digest 123 = .ok (.aload_n 0, 1) := by decide +kernel
theorem dX12_digest_124 : decode cX12_digest 124 = .ok (.iload_n 1, 1) := by decide +kernel
theorem dX12_digest_125 : decode cX12_digest 125 = .ok (.iload_n 2, 1) := by decide +kernel
theorem dX12_digest_126 : decode cX12_digest 126 = .ok (.invokevirtual 259, 3) := by decide +kernel
theorem dX12_digest_129 : decode cX12_digest 129 = .ok (.invokevirtual 322, 3) := by decide +kernel
theorem dX12_digest_132 : decode cX12_digest 132 = .ok (.iinc 2 1, 3) := by decide +kernel
theorem dX12_digest_135 : decode cX12_digest 135 = .ok (.goto (-32), 3) := by decide +kernel
theorem dX12_digest_138 : decode cX12_digest 138 = .ok (.iinc 1 1, 3) := by decide +kernel
theorem dX12_digest_141 : decode cX12_digest 141 = .ok (.goto (-57), 3) := by decide +kernel
theorem dX12_digest_144 : decode cX12_digest 144 = .ok (.aload_n 0, 1) := by decide +kernel
theorem dX12_digest_145 : decode cX12_digest 145 = .ok (.aload_n 0, 1) := by decide +kernel
theorem dX12_digest_146 : decode cX12_digest 146 = .ok (.getfield 73, 3) := by decide +kernel
theorem dX12_digest_149 : decode cX12_digest 149 = .ok (.invokevirtual 322, 3) := by decide +kernel
theorem dX12_digest_152 : decode cX12_digest 152 = .ok (.aload_n 0, 1) := by decide +kernel
theorem dX12_digest_153 : decode cX12_digest 153 = .ok (.getfield 318, 3) := by decide +kernel
theorem dX12_digest_156 : decode cX12_digest 156 = .ok (.lreturn, 1) := by decide +kernel
theorem dJ6_bitCount_0f7a4_0 : decode cJ6_bitCount_0f7a4 0 = .ok (.iload_n 0, 1) := by decide +kernel
theorem dJ6_bitCount_0f7a4_1 : decode cJ6_bitCount_0f7a4 1 = .ok (.iload_n 0, 1) := by decide +kernel
theorem dJ6_bitCount_0f7a4_2 : decode cJ6_bitCount_0f7a4 2 = .ok (.iconst 1, 1) := by decide +kernel
theorem dJ6_bitCount_0f7a4_3 : decode cJ6_bitCount_0f7a4 3 = .ok (.iushr, 1) := by decide +kernel
theorem dJ6_bitCount_0f7a4_4 : decode cJ6_bitCount_0f7a4 4 = .ok (.ldc_w 265, 3) := by decide +kernel
theorem dJ6_bitCount_0f7a4_7 : decode cJ6_bitCount_0f7a4 7 = .ok (.iand, 1) := by decide +kernel
theorem dJ6_bitCount_0f7a4_8 : decode cJ6_bitCount_0f7a4 8 = .ok (.isub, 1) := by decide +kernel
theorem dJ6_bitCount_0f7a4_9 : decode cJ6_bitCount_0f7a4 9 = .ok (.istore_n 0, 1) := by decide +kernel
theorem dJ6_bitCount_0f7a4_10 : decode cJ6_bitCount_0f7a4 10 = .ok (.iload_n 0, 1) := by decide +kernel
theorem dJ6_bitCount_0f7a4_11 : decode cJ6_bitCount_0f7a4 11 = .ok (.ldc_w 266, 3) := by decide +kernel
theorem dJ6_bitCount_0f7a4_14 : decode cJ6_bitCount_0f7a4 14 = .ok (.iand, 1) := by decide +kernel
theorem dJ6_bitCount_0f7a4_15 : decode cJ6_bitCount_0f7a4 15 = .ok (.iload_n 0, 1) := by decide +kernel
theorem dJ6_bitCount_0f7a4_16 : decode cJ6_bitCount_0f7a4 16 = .ok (.iconst 2, 1) := by decide +kernel
theorem dJ6_bitCount_0f7a4_17 : decode cJ6_bitCount_0f7a4 17 = .ok (.iushr, 1) := by decide +kernel
theorem dJ6_bitCount_0f7a4_18 : decode cJ6_bitCount_0f7a4 18 = .ok (.ldc_w 266, 3) := by decide +kernel
theorem dJ6_bitCount_0f7a4_21 : decode cJ6_bitCount_0f7a4 21 = .ok (.iand, 1) := by decide +kernel
theorem dJ6_bitCount_0f7a4_22 : decode cJ6_bitCount_0f7a4 22 = .ok (.iadd, 1) := by decide +kernel
theorem dJ6_bitCount_0f7a4_23 : decode cJ6_bitCount_0f7a4 23 = .ok (.istore_n 0, 1) := by decide +kernel
theorem dJ6_bitCount_0f7a4_24 : decode cJ6_bitCount_0f7a4 24 = .ok (.iload_n 0, 1) := by decide +kernel
theorem dJ6_bitCount_0f7a4_25 : decode cJ6_bitCount_0f7a4 25 = .ok (.iload_n 0, 1) := by decide +kernel
theorem dJ6_bitCount_0f7a4_26 : decode cJ6_bitCount_0f7a4 26 = .ok (.iconst 4, 1) := by decide +kernel
theorem dJ6_bitCount_0f7a4_27 : decode cJ6_bitCount_0f7a4 27 = .ok (.iushr, 1) := by decide +kernel
theorem dJ6_bitCount_0f7a4_28 : decode cJ6_bitCount_0f7a4 28 = .ok (.iadd, 1) := by decide +kernel
theorem dJ6_bitCount_0f7a4_29 : decode cJ6_bitCount_0f7a4 29 = .ok (.ldc_w 267, 3) := by decide +kernel
theorem dJ6_bitCount_0f7a4_32 : decode cJ6_bitCount_0f7a4 32 = .ok (.iand, 1) := by decide +kernel
theorem dJ6_bitCount_0f7a4_33 : decode cJ6_bitCount_0f7a4 33 = .ok (.istore_n 0, 1) := by decide +kernel
theorem dJ6_bitCount_0f7a4_34 : decode cJ6_bitCount_0f7a4 34 = .ok (.iload_n 0, 1) := by decide +kernel
theorem dJ6_bitCount_0f7a4_35 : decode cJ6_bitCount_0f7a4 35 = .ok (.iload_n 0, 1) := by decide +kernel
theorem dJ6_bitCount_0f7a4_36 : decode cJ6_bitCount_0f7a4 36 = .ok (.bipush 8, 2) := by decide +kernel
theorem dJ6_bitCount_0f7a4_38 : decode cJ6_bitCount_0f7a4 38 = .ok (.iushr, 1) := by decide +kernel
theorem dJ6_bitCount_0f7a4_39 : decode cJ6_bitCount_0f7a4 39 = .ok (.iadd, 1) := by decide +kernel
theorem dJ6_bitCount_0f7a4_40 : decode cJ6_bitCount_0f7a4 40 = .ok (.istore_n 0, 1) := by decide +kernel
theorem dJ6_bitCount_0f7a4_41 : decode cJ6_bitCount_0f7a4 41 = .ok (.iload_n 0, 1) := by decide +kernel
theorem dJ6_bitCount_0f7a4_42 : decode cJ6_bitCount_0f7a4 42 = .ok (.iload_n 0, 1) := by decide +kernel
theorem dJ6_bitCount_0f7a4_43 : decode cJ6_bitCount_0f7a4 43 = .ok (.bipush 16, 2) := by decide +kernel
theorem dJ6_bitCount_0f7a4_45 : decode cJ6_bitCount_0f7a4 45 = .ok (.iushr, 1) := by decide +kernel
theorem dJ6_bitCount_0f7a4_46 : decode cJ6_bitCount_0f7a4 46 = .ok (.iadd, 1) := by decide +kernel
theorem dJ6_bitCount_0f7a4_47 : decode cJ6_bitCount_0f7a4 47 = .ok (.istore_n 0, 1) := by decide +kernel
theorem dJ6_bitCount_0f7a4_48 : decode cJ6_bitCount_0f7a4 48 = .ok (.iload_n 0, 1) := by decide +kernel
theorem dJ6_bitCount_0f7a4_49 : decode cJ6_bitCount_0f7a4 49 = .ok (.bipush 63, 2) := by decide +kernel
theorem dJ6_bitCount_0f7a4_51 : decode cJ6_bitCount_0f7a4 51 = .ok (.iand, 1) := by decide +kernel
theorem dJ6_bitCount_0f7a4_52 : decode cJ6_bitCount_0f7a4 52 = .ok (.ireturn, 1) := by decide +kernel
theorem dJ9_floorDiv_7cf53_0 : decode cJ9_floorDiv_7cf53 0 = .ok (.iload_n 0, 1) := by decide +kernel
theorem dJ9_floorDiv_7cf53_1 : decode cJ9_floorDiv_7cf53 1 = .ok (.iload_n 1, 1) := by decide +kernel
theorem dJ9_floorDiv_7cf53_2 : decode cJ9_floorDiv_7cf53 2 = .ok (.idiv, 1) := by decide +kernel
theorem dJ9_floorDiv_7cf53_3 : decode cJ9_floorDiv_7cf53 3 = .ok (.istore_n 2, 1) := by decide +kernel
theorem dJ9_floorDiv_7cf53_4 : decode cJ9_floorDiv_7cf53 4 = .ok (.iload_n 0, 1) := by decide +kernel
theorem dJ9_floorDiv_7cf53_5 : decode cJ9_floorDiv_7cf53 5 = .ok (.iload_n 1, 1) := by decide +kernel
theorem dJ9_floorDiv_7cf53_6 : decode cJ9_floorDiv_7cf53 6 = .ok (.ixor, 1) := by decide +kernel
theorem dJ9_floorDiv_7cf53_7 : decode cJ9_floorDiv_7cf53 7 = .ok (.ifCond .ge 14, 3) := by decide +kernel
theorem dJ9_floorDiv_7cf53_10 : decode cJ9_floorDiv_7cf53 10 = .ok (.iload_n 2, 1) := by decide +kernel
theorem dJ9_floorDiv_7cf53_11 : decode cJ9_floorDiv_7cf53 11 = .ok (.iload_n 1, 1) := by decide +kernel
theorem dJ9_floorDiv_7cf53_12 : decode cJ9_floorDiv_7cf53 12 = .ok (.imul, 1) := by decide +kernel
theorem dJ9_floorDiv_7cf53_13 : decode cJ9_floorDiv_7cf53 13 = .ok (.iload_n 0, 1) := by decide +kernel
theorem dJ9_floorDiv_7cf53_14 : decode cJ9_floorDiv_7cf53 14 = .ok (.if_icmp .eq 7, 3) := by decide +kernel
theorem dJ9_floorDiv_7cf53_17 : decode cJ9_floorDiv_7cf53 17 = .ok (.iload_n 2, 1) := by decide +kernel
theorem dJ9_floorDiv_7cf53_18 : decode cJ9_floorDiv_7cf53 18 = .ok (.iconst 1, 1) := by decide +kernel
theorem dJ9_floorDiv_7cf53_19 : decode cJ9_floorDiv_7cf53 19 = .ok (.isub, 1) := by decide +kernel
theorem dJ9_floorDiv_7cf53_20 : decode cJ9_floorDiv_7cf53 20 = .ok (.ireturn, 1) := by decide +kernel
theorem dJ9_floorDiv_7cf53_21 : decode cJ9_floorDiv_7cf53 21 = .ok (.iload_n 2, 1) := by decide +kernel
theorem dJ9_floorDiv_7cf53_22 : decode cJ9_floorDiv_7cf53 22 = .ok (.ireturn, 1) := by decide +kernel
theorem dJ9_abs_0f7a4_0 : decode cJ9_abs_0f7a4 0 = .ok (.iload_n 0, 1) := by decide +kernel
theorem dJ9_abs_0f7a4_1 : decode cJ9_abs_0f7a4 1 = .ok (.ifCond .ge 8, 3) := by decide +kernel
theorem dJ9_abs_0f7a4_4 : decode cJ9_abs_0f7a4 4 = .ok (.iload_n 0, 1) := by decide +kernel
theorem dJ9_abs_0f7a4_5 : decode cJ9_abs_0f7a4 5 = .ok (.ineg, 1) := by decide +kernel
theorem dJ9_abs_0f7a4_6 : decode cJ9_abs_0f7a4 6 = .ok (.goto 4, 3) := by decide +kernel
theorem dJ9_abs_0f7a4_9 : decode cJ9_abs_0f7a4 9 = .ok (.iload_n 0, 1) := by decide +kernel
theorem dJ9_abs_0f7a4_10 : decode cJ9_abs_0f7a4 10 = .ok (.ireturn, 1) := by decide +kernel
theorem dJ9_abs_067f4_0 : decode cJ9_abs_067f4 0 = .ok (.lload_n 0, 1) := by decide +kernel
theorem dJ9_abs_067f4_1 : decode cJ9_abs_067f4 1 = .ok (.lconst 0, 1) := by decide +kernel
theorem dJ9_abs_067f4_2 : decode cJ9_abs_067f4 2 = .ok (.lcmp, 1) := by decide +kernel
theorem dJ9_abs_067f4_3 : decode cJ9_abs_067f4 3 = .ok (.ifCond .ge 8, 3) := by decide +kernel
theorem dJ9_abs_067f4_6 : decode cJ9_abs_067f4 6 = .ok (.lload_n 0, 1) := by decide +kernel
theorem dJ9_abs_067f4_7 : decode cJ9_abs_067f4 7 = .ok (.lneg, 1) := by decide +kernel
theorem dJ9_abs_067f4_8 : decode cJ9_abs_067f4 8 = .ok (.goto 4, 3) := by decide +kernel
theorem dJ9_abs_067f4_11 : decode cJ9_abs_067f4 11 = .ok (.lload_n 0, 1) := by decide +kernel
theorem dJ9_abs_067f4_12 : decode cJ9_abs_067f4 12 = .ok (.lreturn, 1) := by decide +kernel
theorem dJ9_max_7cf53_0 : decode cJ9_max_7cf53 0 = .ok (.iload_n 0, 1) := by decide +kernel
theorem dJ9_max_7cf53_1 : decode cJ9_max_7cf53 1 = .ok (.iload_n 1, 1) := by decide +kernel
theorem dJ9_max_7cf53_2 : decode cJ9_max_7cf53 2 = .ok (.if_icmp .lt 7, 3) := by decide +kernel
theorem dJ9_max_7cf53_5 : decode cJ9_max_7cf53 5 = .ok (.iload_n 0, 1) := by decide +kernel
theorem dJ9_max_7cf53_6 : decode cJ9_max_7cf53 6 = .ok (.goto 4, 3) := by decide +kernel
theorem dJ9_max_7cf53_9 : decode cJ9_max_7cf53 9 = .ok (.iload_n 1, 1) := by decide +kernel
theorem dJ9_max_7cf53_10 : decode cJ9_max_7cf53 10 = .ok (.ireturn, 1) := by decide +kernel
theorem dJ9_min_7cf53_0 : decode cJ9_min_7cf53 0 = .ok (.iload_n 0, 1) := by decide +kernel
theorem dJ9_min_7cf53_1 : decode cJ9_min_7cf53 1 = .ok (.iload_n 1, 1) := by decide +kernel
theorem dJ9_min_7cf53_2 : decode cJ9_min_7cf53 2 = .ok (.if_icmp .gt 7, 3) := by decide +kernel
theorem dJ9_min_7cf53_5 : decode cJ9_min_7cf53 5 = .ok (.iload_n 0, 1) := by decide +kernel
theorem dJ9_min_7cf53_6 : decode cJ9_min_7cf53 6 = .ok (.goto 4, 3) := by decide +kernel
theorem dJ9_min_7cf53_9 : decode cJ9_min_7cf53 9 = .ok (.iload_n 1, 1) := by decide +kernel
theorem dJ9_min_7cf53_10 : decode cJ9_min_7cf53 10 = .ok (.ireturn, 1) := by decide +kernel
set_option maxRecDepth 20000 in
theorem ggL_moveTo_X11_moveTo : GoodIn wsL_moveTo wsX11_moveTo := goodIn_ca (goodIn_ca (goodIn_r _ [7, 8, 9, 10, 6, 11, 12, 13, 14, 15, 16, 17, 18, 19, 20, 21, 22, 23, 24, 25, 26, 27, 28, 29, 30, 31, 32, 33, 34, 35, 36, 37, 38, 39, 40, 41, 42, 43, 44, 45, 46, 47, 48, 49, 50, 51, 52, 53, 54, 55, 56, 57, 58, 59, 60, 61, 62, 63, 64, 65, 66, 67, 68, 69, 70, 71, 72, 73, 74, 75, 76, 77, 78, 79, 80, 81, 82, 83, 84, 85, 86, 87, 88, 89, 90, 91, 92, 93, 94, 95, 96, 97, 98, 99, 100, 101, 102, 103, 104, 105, 106] (by decide +kernel) (by decide +kernel)) (goodIn_sub (fun _ h => List.mem_cons_of_mem _ (List.mem_append_left _ (List.mem_append_right _ h))) (by decide +kernel))) (goodIn_sub (fun _ h => List.mem_cons_of_mem _ (List.mem_append_right _ h)) (by decide +kernel))
set_option maxRecDepth 20000 in
theorem gL_moveTo_X11_moveTo : GoodIn wsL_moveTo (wsV RL 7 RX11 yX11_moveTo wsX11_moveTo) := goodIn_app (goodIn_of _ (by decide +kernel)) ggL_moveTo_X11_moveTo
theorem dL_moveTo_0 : decode cL_moveTo 0 = .ok (.aload_n 3, 1) := by decide +kernel
theorem dL_moveTo_1 : decode cL_moveTo 1 = .ok (.iconst 0, 1) := by decide +kernel
theorem dL_moveTo_2 : decode cL_moveTo 2 = .ok (.aload_n 0, 1) := by decide +kernel
theorem dL_moveTo_3 : decode cL_moveTo 3 = .ok (.iload_n 1, 1) := by decide +kernel
theorem dL_moveTo_4 : decode cL_moveTo 4 = .ok (.iload_n 2, 1) := by decide +kernel
theorem dL_moveTo_5 : decode cL_moveTo 5 = .ok (.invokevirtual 7, 3) := by decide +kernel
theorem dL_moveTo_8 : decode cL_moveTo 8 = .ok (.i2l, 1) := by decide +kernel
theorem dL_moveTo_9 : decode cL_moveTo 9 = .ok (.lastore, 1) := by decide +kernel
theorem dL_moveTo_10 : decode cL_moveTo 10 = .ok (.goto 11, 3) := by decide +kernel
theorem dL_moveTo_13 : decode cL_moveTo 13 = .ok (.astore 4, 2) := by decide +kernel
theorem dL_moveTo_15 : decode cL_moveTo 15 = .ok (.iconst 1, 1) := by decide +kernel
theorem dL_moveTo_16 : decode cL_moveTo 16 = .ok (.ireturn, 1) := by decide +kernel
theorem dL_moveTo_17 : decode cL_moveTo 17 = .ok (.astore 4, 2) := by decide +kernel
theorem dL_moveTo_19 : decode cL_moveTo 19 = .ok (.iconst 2, 1) := by decide +kernel
theorem dL_moveTo_20 : decode cL_moveTo 20 = .ok (.ireturn, 1) := by decide +kernel
theorem dL_moveTo_21 : decode cL_moveTo 21 = .ok (.iconst 0, 1) := by decide +kernel
theorem dL_moveTo_22 : decode cL_moveTo 22 = .ok (.ireturn, 1) := by decide +kernel
set_option maxRecDepth 20000 in
theorem ggL_lineTo_X11_lineTo : GoodIn wsL_lineTo wsX11_lineTo := goodIn_ca (goodIn_ca (goodIn_r _ [7, 8, 9, 10, 6, 11, 12, 13, 14, 15, 16, 17, 18, 19, 20, 21, 22, 23, 24, 25, 26, 27, 28, 29, 30, 31, 32, 33, 34, 35, 36, 37, 38, 39, 40, 41, 42, 43, 44, 45, 46, 47, 48, 49, 50, 51, 52, 53, 54, 55, 56, 57, 58, 59, 60, 61, 62, 63, 64, 65, 66, 67, 68, 69, 70, 71, 72, 73, 74, 75, 76, 77, 78, 79, 80, 81, 82, 83, 84, 85, 86, 87, 88, 89, 90, 91, 92, 93, 94, 95, 96, 97, 98, 99, 100, 101, 102] (by decide +kernel) (by decide +kernel)) (goodIn_sub (fun _ h => List.mem_cons_of_mem _ (List.mem_append_left _ (List.mem_append_right _ h))) (by decide +kernel))) (goodIn_sub (fun _ h => List.mem_cons_of_mem _ (List.mem_append_right _ h)) (by decide +kernel))
set_option maxRecDepth 20000 in
theorem gL_lineTo_X11_lineTo : GoodIn wsL_lineTo (wsV RL 17 RX11 yX11_lineTo wsX11_lineTo) := goodIn_app (goodIn_of _ (by decide +kernel)) ggL_lineTo_X11_lineTo
theorem dL_lineTo_0 : decode cL_lineTo 0 = .ok (.aload_n 3, 1) := by decide +kernel
theorem dL_lineTo_1 : decode cL_lineTo 1 = .ok (.iconst 0, 1) := by decide +kernel
theorem dL_lineTo_2 : decode cL_lineTo 2 = .ok (.aload_n 0, 1) := by decide +kernel
theorem dL_lineTo_3 : decode cL_lineTo 3 = .ok (.iload_n 1, 1) := by decide +kernel
theorem dL_lineTo_4 : decode cL_lineTo 4 = .ok (.iload_n 2, 1) := by decide +kernel
theorem dL_lineTo_5 : decode cL_lineTo 5 = .ok (.invokevirtual 17, 3) := by decide +kernel
theorem dL_lineTo_8 : decode cL_lineTo 8 = .ok (.i2l, 1) := by decide +kernel
theorem dL_lineTo_9 : decode cL_lineTo 9 = .ok (.lastore, 1) := by decide +kernel
theorem dL_lineTo_10 : decode cL_lineTo 10 = .ok (.goto 11, 3) := by decide +kernel
theorem dL_lineTo_13 : decode cL_lineTo 13 = .ok (.astore 4, 2) := by decide +kernel
theorem dL_lineTo_15 : decode cL_lineTo 15 = .ok (.iconst 1, 1) := by decide +kernel
theorem dL_lineTo_16 : decode cL_lineTo 16 = .ok (.ireturn, 1) := by decide +kernel
theorem dL_lineTo_17 : decode cL_lineTo 17 = .ok (.astore 4, 2) := by decide +kernel
theorem dL_lineTo_19 : decode cL_lineTo 19 = .ok (.iconst 2, 1) := by decide +kernel
theorem dL_lineTo_20 : decode cL_lineTo 20 = .ok (.ireturn, 1) := by decide +kernel
theorem dL_lineTo_21 : decode cL_lineTo 21 = .ok (.iconst 0, 1) := by decide +kernel
theorem dL_lineTo_22 : decode cL_lineTo 22 = .ok (.ireturn, 1) := by decide +kernel
set_option maxRecDepth 20000 in
theorem ggL_close_X11_close : GoodIn wsL_close wsX11_close := goodIn_ca (goodIn_r _ [6, 7, 8, 9, 10, 11, 12, 13, 14, 15, 16, 17, 18, 19, 20, 21, 22, 23, 24, 25, 26, 27, 5, 28, 29, 30, 31, 32, 33, 34, 35, 36, 37, 38, 39, 40, 41, 42, 43, 44, 45, 46, 47, 48, 49, 50, 51, 52, 53, 54, 55, 56, 57, 58, 59, 60, 61, 62, 63, 64, 65, 66, 67, 68, 69, 70, 71, 72, 73, 74, 75, 76, 77, 78, 79, 80, 81, 82, 83, 84, 85, 86, 87, 88, 89, 90, 91, 92, 93, 94, 95, 96, 97, 98, 99, 100, 101, 102, 103, 104, 105, 106, 107, 108, 109, 110, 111, 112, 113, 114, 115, 116, 117, 118, 119, 120, 121, 122, 123, 124, 125, 126, 127, 128, 129, 130, 131, 132, 133, 134, 135, 136, 137, 138, 139, 140, 141, 142, 143, 144, 145, 146, 147, 148, 149, 150, 151, 152, 153, 154, 155, 156, 157, 158, 159, 160, 161, 162, 163, 164] (by decide +kernel) (by decide +kernel)) (goodIn_sub (fun _ h => List.mem_cons_of_mem _ (List.mem_append_right _ h)) (by decide +kernel))
set_option maxRecDepth 20000 in
theorem gL_close_X11_close : GoodIn wsL_close (wsV RL 20 RX11 yX11_close wsX11_close) := goodIn_app (goodIn_of _ (by decide +kernel)) ggL_close_X11_close
theorem dL_close_0 : decode cL_close 0 = .ok (.aload_n 1, 1) := by decide +kernel
theorem dL_close_1 : decode cL_close 1 = .ok (.iconst 0, 1) := by decide +kernel
theorem dL_close_2 : decode cL_close 2 = .ok (.aload_n 0, 1) := by decide +kernel
theorem dL_close_3 : decode cL_close 3 = .ok (.invokevirtual 20, 3) := by decide +kernel
theorem dL_close_6 : decode cL_close 6 = .ok (.i2l, 1) := by decide +kernel
theorem dL_close_7 : decode cL_close 7 = .ok (.lastore, 1) := by decide +kernel
theorem dL_close_8 : decode cL_close 8 = .ok (.goto 6, 3) := by decide +kernel
theorem dL_close_11 : decode cL_close 11 = .ok (.astore_n 2, 1) := by decide +kernel
theorem dL_close_12 : decode cL_close 12 = .ok (.iconst 1, 1) := by decide +kernel
theorem dL_close_13 : decode cL_close 13 = .ok (.ireturn, 1) := by decide +kernel
theorem dL_close_14 : decode cL_close 14 = .ok (.iconst 0, 1) := by decide +kernel
theorem dL_close_15 : decode cL_close 15 = .ok (.ireturn, 1) := by decide +kernel
set_option maxRecDepth 20000 in
theorem ggL_remove_X11_remove : GoodIn wsL_remove wsX11_remove := goodIn_ca (goodIn_r _ [6, 7, 8, 9, 10, 11, 12, 13, 14, 15, 16, 17, 18, 19, 5, 20, 21, 22, 23, 24, 25, 26, 27, 28, 29, 30, 31, 32, 33, 34, 35, 36, 37, 38, 39, 40, 41, 42, 43, 44, 45, 46, 47, 48, 49, 50, 51, 52, 53, 54, 55, 56, 57, 58, 59, 60, 61, 62, 63, 64, 65, 66, 67, 68, 69, 70, 71, 72, 73, 74, 75, 76, 77, 78, 79, 80, 81, 82, 83] (by decide +kernel) (by decide +kernel)) (goodIn_sub (fun _ h => List.mem_cons_of_mem _ (List.mem_append_right _ h)) (by decide +kernel))
set_option maxRecDepth 20000 in
theorem gL_remove_X11_remove : GoodIn wsL_remove (wsV RL 24 RX11 yX11_remove wsX11_remove) := goodIn_app (goodIn_of _ (by decide +kernel)) ggL_remove_X11_remove
theorem dL_remove_0 : decode cL_remove 0 = .ok (.aload_n 2, 1) := by decide +kernel
theorem dL_remove_1 : decode cL_remove 1 = .ok (.iconst 0, 1) := by decide +kernel
theorem dL_remove_2 : decode cL_remove 2 = .ok (.aload_n 0, 1) := by decide +kernel
theorem dL_remove_3 : decode cL_remove 3 = .ok (.iload_n 1, 1) := by decide +kernel
theorem dL_remove_4 : decode cL_remove 4 = .ok (.invokevirtual 24, 3) := by decide +kernel
theorem dL_remove_7 : decode cL_remove 7 = .ok (.i2l, 1) := by decide +kernel
theorem dL_remove_8 : decode cL_remove 8 = .ok (.lastore, 1) := by decide +kernel
theorem dL_remove_9 : decode cL_remove 9 = .ok (.goto 6, 3) := by decide +kernel
theorem dL_remove_12 : decode cL_remove 12 = .ok (.astore_n 3, 1) := by decide +kernel
theorem dL_remove_13 : decode cL_remove 13 = .ok (.iconst 1, 1) := by decide +kernel
theorem dL_remove_14 : decode cL_remove 14 = .ok (.ireturn, 1) := by decide +kernel
theorem dL_remove_15 : decode cL_remove 15 = .ok (.iconst 0, 1) := by decide +kernel
theorem dL_remove_16 : decode cL_remove 16 = .ok (.ireturn, 1) := by decide +kernel
set_option maxRecDepth 20000 in
theorem ggL_reverse_X11_reverse : GoodIn wsL_reverse wsX11_reverse := goodIn_ca (goodIn_r _ [6, 7, 8, 9, 10, 11, 12, 13, 14, 15, 16, 17, 18, 19, 5, 20, 21, 22, 23, 24, 25, 26, 27, 28, 29, 30, 31, 32, 33, 34, 35, 36, 37, 38, 39, 40, 41, 42, 43, 44, 45, 46, 47, 48, 49, 50, 51, 52, 53, 54, 55, 56, 57, 58, 59, 60, 61, 62, 63, 64, 65, 66, 67, 68, 69, 70, 71, 72, 73, 74, 75, 76, 77, 78, 79, 80, 81, 82, 83, 84, 85, 86, 87, 88, 89, 90, 91, 92, 93, 94, 95, 96, 97, 98, 99] (by decide +kernel) (by decide +kernel)) (goodIn_sub (fun _ h => List.mem_cons_of_mem _ (List.mem_append_right _ h)) (by decide +kernel))
set_option maxRecDepth 20000 in
theorem gL_reverse_X11_reverse : GoodIn wsL_reverse (wsV RL 30 RX11 yX11_reverse wsX11_reverse) := goodIn_app (goodIn_of _ (by decide +kernel)) ggL_reverse_X11_reverse
theorem dL_reverse_0 : decode cL_reverse 0 = .ok (.aload_n 2, 1) := by decide +kernel
theorem dL_reverse_1 : decode cL_reverse 1 = .ok (.iconst 0, 1) := by decide +kernel
theorem dL_reverse_2 : decode cL_reverse 2 = .ok (.aload_n 0, 1) := by decide +kernel
theorem dL_reverse_3 : decode cL_reverse 3 = .ok (.iload_n 1, 1) := by decide +kernel
theorem dL_reverse_4 : decode cL_reverse 4 = .ok (.invokevirtual 30, 3) := by decide +kernel
theorem dL_reverse_7 : decode cL_reverse 7 = .ok (.i2l, 1) := by decide +kernel
theorem dL_reverse_8 : decode cL_reverse 8 = .ok (.lastore, 1) := by decide +kernel
theorem dL_reverse_9 : decode cL_reverse 9 = .ok (.goto 6, 3) := by decide +kernel
theorem dL_reverse_12 : decode cL_reverse 12 = .ok (.astore_n 3, 1) := by decide +kernel
theorem dL_reverse_13 : decode cL_reverse 13 = .ok (.iconst 1, 1) := by decide +kernel
theorem dL_reverse_14 : decode cL_reverse 14 = .ok (.ireturn, 1) := by decide +kernel
theorem dL_reverse_15 : decode cL_reverse 15 = .ok (.iconst 0, 1) := by decide +kernel
theorem dL_reverse_16 : decode cL_reverse 16 = .ok (.ireturn, 1) := by decide +kernel
set_option maxRecDepth 20000 in
theorem ggL_simplify_X11_simplify : GoodIn wsL_simplify wsX11_simplify := goodIn_ca (goodIn_r _ [6, 7, 8, 9, 10, 11, 12, 13, 14, 15, 16, 17, 18, 19, 5, 20, 21, 22, 23, 24, 25, 26, 27, 28, 29, 30, 31, 32, 33, 34, 35, 36, 37, 38, 39, 40, 41, 42, 43, 44, 45, 46, 47, 48, 49, 50, 51, 52, 53, 54, 55, 56, 57, 58, 59, 60, 61, 62, 63, 64, 65, 66, 67, 68, 69, 70, 71, 72, 73, 74, 75, 76, 77, 78, 79, 80, 81, 82, 83, 84, 85, 86, 87, 88, 89, 90, 91, 92, 93, 94, 95, 96, 97, 98, 99, 100, 101, 102, 103, 104, 105, 106, 107, 108, 109, 110, 111, 112, 113, 114, 115, 116, 117, 118, 119, 120, 121, 122, 123, 124, 125] (by decide +kernel) (by decide +kernel)) (goodIn_sub (fun _ h => List.mem_cons_of_mem _ (List.mem_append_right _ h)) (by decide +kernel))
set_option maxRecDepth 20000 in
theorem gL_simplify_X11_simplify : GoodIn wsL_simplify (wsV RL 33 RX11 yX11_simplify wsX11_simplify) := goodIn_app (goodIn_of _ (by decide +kernel)) ggL_simplify_X11_simplify
theorem dL_simplify_0 : decode cL_simplify 0 = .ok (.aload_n 2, 1) := by decide +kernel
theorem dL_simplify_1 : decode cL_simplify 1 = .ok (.iconst 0, 1) := by decide +kernel
theorem dL_simplify_2 : decode cL_simplify 2 = .ok (.aload_n 0, 1) := by decide +kernel
theorem dL_simplify_3 : decode cL_simplify 3 = .ok (.iload_n 1, 1) := by decide +kernel
theorem dL_simplify_4 : decode cL_simplify 4 = .ok (.invokevirtual 33, 3) := by decide +kernel
theorem dL_simplify_7 : decode cL_simplify 7 = .ok (.i2l, 1) := by decide +kernel
theorem dL_simplify_8 : decode cL_simplify 8 = .ok (.lastore, 1) := by decide +kernel
theorem dL_simplify_9 : decode cL_simplify 9 = .ok (.goto 6, 3) := by decide +kernel
theorem dL_simplify_12 : decode cL_simplify 12 = .ok (.astore_n 3, 1) := by decide +kernel
theorem dL_simplify_13 : decode cL_simplify 13 = .ok (.iconst 1, 1) := by decide +kernel
theorem dL_simplify_14 : decode cL_simplify 14 = .ok (.ireturn, 1) := by decide +kernel
theorem dL_simplify_15 : decode cL_simplify 15 = .ok (.iconst 0, 1) := by decide +kernel
theorem dL_simplify_16 : decode cL_simplify 16 = .ok (.ireturn, 1) := by decide +kernel
set_option maxRecDepth 20000 in
theorem ggL_transform_X11_transform : GoodIn wsL_transform wsX11_transform := goodIn_ca (goodIn_ca (goodIn_r _ [7, 8, 9, 10, 6, 11, 12, 13, 14, 15, 16, 17, 18, 19, 20, 21, 22, 23, 24, 25, 26, 27, 28, 29, 30, 31, 32, 33, 34, 35, 36, 37, 38, 39, 40, 41, 42, 43, 44, 45, 46, 47, 48, 49, 50, 51, 52, 53, 54, 55, 56, 57, 58, 59, 60, 61, 62, 63, 64, 65, 66, 67, 68, 69, 70, 71, 72, 73, 74, 75, 76, 77, 78, 79, 80, 81, 82, 83, 84, 85, 86, 87, 88, 89, 90, 91, 92, 93, 94, 95, 96, 97, 98, 99, 100, 101, 102, 103, 104, 105, 106, 107, 108, 109, 110, 111, 112, 113, 114, 115, 116, 117, 118, 119, 120, 121] (by decide +kernel) (by decide +kernel)) (goodIn_sub (fun _ h => List.mem_cons_of_mem _ (List.mem_append_left _ (List.mem_append_right _ h))) (by decide +kernel))) (goodIn_sub (fun _ h => List.mem_cons_of_mem _ (List.mem_append_right _ h)) (by decide +kernel))
set_option maxRecDepth 20000 in
theorem gL_transform_X11_transform : GoodIn wsL_transform (wsV RL 36 RX11 yX11_transform wsX11_transform) := goodIn_app (goodIn_of _ (by decide +kernel)) ggL_transform_X11_transform
theorem dL_transform_0 : decode cL_transform 0 = .ok (.aload 4, 2) := by decide +kernel
theorem dL_transform_2 : decode cL_transform 2 = .ok (.iconst 0, 1) := by decide +kernel
theorem dL_transform_3 : decode cL_transform 3 = .ok (.aload_n 0, 1) := by decide +kernel
theorem dL_transform_4 : decode cL_transform 4 = .ok (.iload_n 1, 1) := by decide +kernel
theorem dL_transform_5 : decode cL_transform 5 = .ok (.iload_n 2, 1) := by decide +kernel
theorem dL_transform_6 : decode cL_transform 6 = .ok (.iload_n 3, 1) := by decide +kernel
theorem dL_transform_7 : decode cL_transform 7 = .ok (.invokevirtual 36, 3) := by decide +kernel
theorem dL_transform_10 : decode cL_transform 10 = .ok (.i2l, 1) := by decide +kernel
theorem dL_transform_11 : decode cL_transform 11 = .ok (.lastore, 1) := by decide +kernel
theorem dL_transform_12 : decode cL_transform 12 = .ok (.goto 11, 3) := by decide +kernel
theorem dL_transform_15 : decode cL_transform 15 = .ok (.astore 5, 2) := by decide +kernel
theorem dL_transform_17 : decode cL_transform 17 = .ok (.iconst 1, 1) := by decide +kernel
theorem dL_transform_18 : decode cL_transform 18 = .ok (.ireturn, 1) := by decide +kernel
theorem dL_transform_19 : decode cL_transform 19 = .ok (.astore 5, 2) := by decide +kernel
theorem dL_transform_21 : decode cL_transform 21 = .ok (.iconst 2, 1) := by decide +kernel
theorem dL_transform_22 : decode cL_transform 22 = .ok (.ireturn, 1) := by decide +kernel
theorem dL_transform_23 : decode cL_transform 23 = .ok (.iconst 0, 1) := by decide +kernel
theorem dL_transform_24 : decode cL_transform 24 = .ok (.ireturn, 1) := by decide +kernel
set_option maxRecDepth 20000 in
theorem ggL_subpath_X11_subpath : GoodIn wsL_subpath wsX11_subpath := goodIn_ca (goodIn_ca (goodIn_r _ [7, 8, 9, 10, 11, 12, 13, 14, 15, 16, 17, 18, 19, 20, 6, 21, 22, 23, 24, 25, 26, 27, 28, 29, 30, 31, 32, 33, 34, 35, 36, 37, 38, 39, 40, 41, 42, 43, 44, 45, 46, 47, 48, 49, 50, 51, 52, 53, 54, 55, 56, 57, 58, 59, 60, 61, 62, 63, 64, 65, 66, 67, 68, 69, 70, 71, 72, 73, 74, 75, 76, 77, 78, 79, 80, 81, 82, 83, 84, 85, 86, 87, 88, 89, 90, 91, 92, 93, 94, 95, 96, 97, 98, 99, 100, 101, 102, 103, 104, 105, 106, 107, 108, 109, 110, 111, 112, 113, 114, 115, 116, 117, 118, 119, 120, 121, 122, 123, 124, 125, 126, 127, 128, 129, 130, 131, 132, 133, 134, 135, 136, 137, 138, 139, 140, 141, 142, 143, 144, 145, 146, 147] (by decide +kernel) (by decide +kernel)) (goodIn_sub (fun _ h => List.mem_cons_of_mem _ (List.mem_append_left _ (List.mem_append_right _ h))) (by decide +kernel))) (goodIn_sub (fun _ h => List.mem_cons_of_mem _ (List.mem_append_right _ h)) (by decide +kernel))
set_option maxRecDepth 20000 in
theorem gL_subpath_X11_subpath : GoodIn wsL_subpath (wsV RL 40 RX11 yX11_subpath wsX11_subpath) := goodIn_app (goodIn_of _ (by decide +kernel)) ggL_subpath_X11_subpath
theorem dL_subpath_0 : decode cL_subpath 0 = .ok (.aload_n 3, 1) := by decide +kernel
theorem dL_subpath_1 : decode cL_subpath 1 = .ok (.iconst 0, 1) := by decide +kernel
theorem dL_subpath_2 : decode cL_subpath 2 = .ok (.aload_n 0, 1) := by decide +kernel
theorem dL_subpath_3 : decode cL_subpath 3 = .ok (.iload_n 1, 1) := by decide +kernel
theorem dL_subpath_4 : decode cL_subpath 4 = .ok (.iload_n 2, 1) := by decide +kernel
theorem dL_subpath_5 : decode cL_subpath 5 = .ok (.invokevirtual 40, 3) := by decide +kernel
theorem dL_subpath_8 : decode cL_subpath 8 = .ok (.i2l, 1) := by decide +kernel
theorem dL_subpath_9 : decode cL_subpath 9 = .ok (.lastore, 1) := by decide +kernel
theorem dL_subpath_10 : decode cL_subpath 10 = .ok (.goto 11, 3) := by decide +kernel
theorem dL_subpath_13 : decode cL_subpath 13 = .ok (.astore 4, 2) := by decide +kernel
theorem dL_subpath_15 : decode cL_subpath 15 = .ok (.iconst 1, 1) := by decide +kernel
theorem dL_subpath_16 : decode cL_subpath 16 = .ok (.ireturn, 1) := by decide +kernel
theorem dL_subpath_17 : decode cL_subpath 17 = .ok (.astore 4, 2) := by decide +kernel
theorem dL_subpath_19 : decode cL_subpath 19 = .ok (.iconst 2, 1) := by decide +kernel
theorem dL_subpath_20 : decode cL_subpath 20 = .ok (.ireturn, 1) := by decide +kernel
theorem dL_subpath_21 : decode cL_subpath 21 = .ok (.iconst 0, 1) := by decide +kernel
theorem dL_subpath_22 : decode cL_subpath 22 = .ok (.ireturn, 1) := by decide +kernel
set_option maxRecDepth 20000 in
theorem ggL_point_X11_point : GoodIn wsL_point wsX11_point := goodIn_ca (goodIn_r _ [6, 7, 8, 9, 10, 11, 12, 13, 14, 15, 16, 17, 18, 19, 5, 20, 21, 22, 23, 24, 25, 26, 27, 28, 29, 30, 31, 32, 33, 34, 35, 36, 37, 38, 39, 40, 41, 42, 43, 44, 45, 46, 47, 48] (by decide +kernel) (by decide +kernel)) (goodIn_sub (fun _ h => List.mem_cons_of_mem _ (List.mem_append_right _ h)) (by decide +kernel))
set_option maxRecDepth 20000 in
theorem gL_point_X11_point : GoodIn wsL_point (wsV RL 43 RX11 yX11_point wsX11_point) := goodIn_app (goodIn_of _ (by decide +kernel)) ggL_point_X11_point
theorem dL_point_0 : decode cL_point 0 = .ok (.aload 4, 2) := by decide +kernel
theorem dL_point_2 : decode cL_point 2 = .ok (.iconst 0, 1) := by decide +kernel
theorem dL_point_3 : decode cL_point 3 = .ok (.aload_n 0, 1) := by decide +kernel
theorem dL_point_4 : decode cL_point 4 = .ok (.iload_n 1, 1) := by decide +kernel
theorem dL_point_5 : decode cL_point 5 = .ok (.iload_n 2, 1) := by decide +kernel
theorem dL_point_6 : decode cL_point 6 = .ok (.iload_n 3, 1) := by decide +kernel
theorem dL_point_7 : decode cL_point 7 = .ok (.invokevirtual 43, 3) := by decide +kernel
theorem dL_point_10 : decode cL_point 10 = .ok (.i2l, 1) := by decide +kernel
theorem dL_point_11 : decode cL_point 11 = .ok (.lastore, 1) := by decide +kernel
theorem dL_point_12 : decode cL_point 12 = .ok (.goto 7, 3) := by decide +kernel
theorem dL_point_15 : decode cL_point 15 = .ok (.astore 5, 2) := by decide +kernel
theorem dL_point_17 : decode cL_point 17 = .ok (.iconst 1, 1) := by decide +kernel
theorem dL_point_18 : decode cL_point 18 = .ok (.ireturn, 1) := by decide +kernel
theorem dL_point_19 : decode cL_point 19 = .ok (.iconst 0, 1) := by decide +kernel
theorem dL_point_20 : decode cL_point 20 = .ok (.ireturn, 1) := by decide +kernel
set_option maxRecDepth 20000 in
theorem ggL_pointAt_X11_pointAt : GoodIn wsL_pointAt wsX11_pointAt := goodIn_ca (goodIn_ca (goodIn_r _ [7, 8, 9, 10, 11, 12, 13, 14, 15, 16, 17, 18, 19, 20, 21, 6, 22, 23, 24, 25, 26, 27, 28, 29, 30, 31, 32, 33, 34, 35, 36, 37, 38, 39, 40, 41, 42, 43, 44, 45, 46, 47, 48, 49, 50, 51, 52, 53, 54, 55, 56, 57, 58, 59, 60, 61, 62, 63, 64, 65, 66, 67, 68, 69, 70, 71, 72, 73, 74, 75, 76, 77, 78, 79, 80, 81, 82, 83, 84, 85, 86, 87, 88, 89, 90, 91, 92, 93, 94, 95, 96, 97, 98, 99, 100, 101, 102, 103, 104, 105, 106, 107, 108, 109, 110, 111, 112, 113, 114, 115, 116, 117, 118, 119, 120, 121, 122, 123, 124, 125, 126, 127, 128, 129, 130, 131, 132, 133, 134, 135, 136, 137, 138, 139, 140, 141, 142, 143, 144, 145, 146, 147, 148, 149, 150, 151, 152, 153, 154, 155, 156, 157] (by decide +kernel) (by decide +kernel)) (goodIn_sub (fun _ h => List.mem_cons_of_mem _ (List.mem_append_left _ (List.mem_append_right _ h))) (by decide +kernel))) (goodIn_sub (fun _ h => List.mem_cons_of_mem _ (List.mem_append_right _ h)) (by decide +kernel))
set_option maxRecDepth 20000 in
theorem gL_pointAt_X11_pointAt : GoodIn wsL_pointAt (wsV RL 47 RX11 yX11_pointAt wsX11_pointAt) := goodIn_app (goodIn_of _ (by decide +kernel)) ggL_pointAt_X11_pointAt
theorem dL_pointAt_0 : decode cL_pointAt 0 = .ok (.aload 4, 2) := by decide +kernel
theorem dL_pointAt_2 : decode cL_pointAt 2 = .ok (.iconst 0, 1) := by decide +kernel
theorem dL_pointAt_3 : decode cL_pointAt 3 = .ok (.aload_n 0, 1) := by decide +kernel
theorem dL_pointAt_4 : decode cL_pointAt 4 = .ok (.iload_n 1, 1) := by decide +kernel
theorem dL_pointAt_5 : decode cL_pointAt 5 = .ok (.iload_n 2, 1) := by decide +kernel
theorem dL_pointAt_6 : decode cL_pointAt 6 = .ok (.iload_n 3, 1) := by decide +kernel
theorem dL_pointAt_7 : decode cL_pointAt 7 = .ok (.invokevirtual 47, 3) := by decide +kernel
theorem dL_pointAt_10 : decode cL_pointAt 10 = .ok (.i2l, 1) := by decide +kernel
theorem dL_pointAt_11 : decode cL_pointAt 11 = .ok (.lastore, 1) := by decide +kernel
theorem dL_pointAt_12 : decode cL_pointAt 12 = .ok (.goto 11, 3) := by decide +kernel
theorem dL_pointAt_15 : decode cL_pointAt 15 = .ok (.astore 5, 2) := by decide +kernel
theorem dL_pointAt_17 : decode cL_pointAt 17 = .ok (.iconst 1, 1) := by decide +kernel
theorem dL_pointAt_18 : decode cL_pointAt 18 = .ok (.ireturn, 1) := by decide +kernel
theorem dL_pointAt_19 : decode cL_pointAt 19 = .ok (.astore 5, 2) := by decide +kernel
theorem dL_pointAt_21 : decode cL_pointAt 21 = .ok (.iconst 2, 1) := by decide +kernel
theorem dL_pointAt_22 : decode cL_pointAt 22 = .ok (.ireturn, 1) := by decide +kernel
theorem dL_pointAt_23 : decode cL_pointAt 23 = .ok (.iconst 0, 1) := by decide +kernel
theorem dL_pointAt_24 : decode cL_pointAt 24 = .ok (.ireturn, 1) := by decide +kernel
set_option maxRecDepth 20000 in
theorem ggL_setStyle_X11_setStyle : GoodIn wsL_setStyle wsX11_setStyle := goodIn_ca (goodIn_r _ [6, 7, 8, 9, 5, 10, 11, 12, 13, 14, 15, 16, 17, 18, 19, 20, 21, 22, 23, 24, 25, 26, 27, 28, 29, 30, 31, 32, 33, 34, 35, 36, 37, 38, 39, 40, 41, 42, 43, 44, 45, 46, 47, 48, 49, 50, 51, 52, 53, 54, 55, 56, 57, 58, 59, 60, 61, 62, 63, 64, 65, 66, 67, 68] (by decide +kernel) (by decide +kernel)) (goodIn_sub (fun _ h => List.mem_cons_of_mem _ (List.mem_append_right _ h)) (by decide +kernel))
set_option maxRecDepth 20000 in
theorem gL_setStyle_X11_setStyle : GoodIn wsL_setStyle (wsV RL 50 RX11 yX11_setStyle wsX11_setStyle) := goodIn_app (goodIn_of _ (by decide +kernel)) ggL_setStyle_X11_setStyle
theorem dL_setStyle_0 : decode cL_setStyle 0 = .ok (.aload 5, 2) := by decide +kernel
