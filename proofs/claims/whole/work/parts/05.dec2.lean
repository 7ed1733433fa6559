theorem dX5_readNumber_69 : decode cX5_readNumber 69 = .ok (.aload_n 0, 1) := by decide +kernel
theorem dX5_readNumber_70 : decode cX5_readNumber 70 = .ok (.invokevirtual 51, 3) := by decide +kernel
theorem dX5_readNumber_73 : decode cX5_readNumber 73 = .ok (.iadd, 1) := by decide +kernel
theorem dX5_readNumber_74 : decode cX5_readNumber 74 = .ok (.bipush 48, 2) := by decide +kernel
theorem dX5_readNumber_76 : decode cX5_readNumber 76 = .ok (.isub, 1) := by decide +kernel
theorem dX5_readNumber_77 : decode cX5_readNumber 77 = .ok (.istore_n 3, 1) := by decide +kernel
theorem dX5_readNumber_78 : decode cX5_readNumber 78 = .ok (.aload_n 0, 1) := by decide +kernel
theorem dX5_readNumber_79 : decode cX5_readNumber 79 = .ok (.dup, 1) := by decide +kernel
theorem dX5_readNumber_80 : decode cX5_readNumber 80 = .ok (.getfield 19, 3) := by decide +kernel
theorem dX5_readNumber_83 : decode cX5_readNumber 83 = .ok (.iconst 1, 1) := by decide +kernel
theorem dX5_readNumber_84 : decode cX5_readNumber 84 = .ok (.iadd, 1) := by decide +kernel
theorem dX5_readNumber_85 : decode cX5_readNumber 85 = .ok (.putfield 19, 3) := by decide +kernel
theorem dX5_readNumber_88 : decode cX5_readNumber 88 = .ok (.iinc 4 1, 3) := by decide +kernel
theorem dX5_readNumber_91 : decode cX5_readNumber 91 = .ok (.goto (-42), 3) := by decide +kernel
theorem dX5_readNumber_94 : decode cX5_readNumber 94 = .ok (.iload 4, 2) := by decide +kernel
theorem dX5_readNumber_96 : decode cX5_readNumber 96 = .ok (.ifCond .eq 13, 3) := by decide +kernel
theorem dX5_readNumber_99 : decode cX5_readNumber 99 = .ok (.aload_n 0, 1) := by decide +kernel
theorem dX5_readNumber_100 : decode cX5_readNumber 100 = .ok (.invokevirtual 51, 3) := by decide +kernel
theorem dX5_readNumber_103 : decode cX5_readNumber 103 = .ok (.invokestatic 64, 3) := by decide +kernel
theorem dX5_readNumber_106 : decode cX5_readNumber 106 = .ok (.ifCond .eq 14, 3) := by decide +kernel
theorem dX5_readNumber_109 : decode cX5_readNumber 109 = .ok (.aload_n 0, 1) := by decide +kernel
theorem dX5_readNumber_110 : decode cX5_readNumber 110 = .ok (.aload_n 0, 1) := by decide +kernel
theorem dX5_readNumber_111 : decode cX5_readNumber 111 = .ok (.getfield 19, 3) := by decide +kernel
theorem dX5_readNumber_114 : decode cX5_readNumber 114 = .ok (.putfield 22, 3) := by decide +kernel
theorem dX5_readNumber_117 : decode cX5_readNumber 117 = .ok (.goto 14, 3) := by decide +kernel
theorem dX5_readNumber_120 : decode cX5_readNumber 120 = .ok (.iload_n 3, 1) := by decide +kernel
theorem dX5_readNumber_121 : decode cX5_readNumber 121 = .ok (.bipush 100, 2) := by decide +kernel
theorem dX5_readNumber_123 : decode cX5_readNumber 123 = .ok (.if_icmp .le 8, 3) := by decide +kernel
theorem dX5_readNumber_126 : decode cX5_readNumber 126 = .ok (.aload_n 0, 1) := by decide +kernel
theorem dX5_readNumber_127 : decode cX5_readNumber 127 = .ok (.iload_n 1, 1) := by decide +kernel
theorem dX5_readNumber_128 : decode cX5_readNumber 128 = .ok (.putfield 22, 3) := by decide +kernel
theorem dX5_readNumber_131 : decode cX5_readNumber 131 = .ok (.iload_n 2, 1) := by decide +kernel
theorem dX5_readNumber_132 : decode cX5_readNumber 132 = .ok (.ifCond .eq 8, 3) := by decide +kernel
theorem dX5_readNumber_135 : decode cX5_readNumber 135 = .ok (.iload_n 3, 1) := by decide +kernel
theorem dX5_readNumber_136 : decode cX5_readNumber 136 = .ok (.ineg, 1) := by decide +kernel
theorem dX5_readNumber_137 : decode cX5_readNumber 137 = .ok (.goto 4, 3) := by decide +kernel
theorem dX5_readNumber_140 : decode cX5_readNumber 140 = .ok (.iload_n 3, 1) := by decide +kernel
theorem dX5_readNumber_141 : decode cX5_readNumber 141 = .ok (.ireturn, 1) := by decide +kernel
set_option maxRecDepth 20000 in
theorem ggX5_expect_X5_next : GoodIn wsX5_expect wsX5_next := goodIn_r _ [7, 2, 8, 9, 10, 11, 12, 13, 14, 15, 16, 17, 18, 19] (by decide +kernel) (by decide +kernel)
set_option maxRecDepth 20000 in
theorem gX5_expect_X5_next : GoodIn wsX5_expect (wsV RX5 51 RX5 yX5_next wsX5_next) := goodIn_app (goodIn_of _ (by decide +kernel)) ggX5_expect_X5_next
theorem dX5_expect_0 : decode cX5_expect 0 = .ok (.aload_n 0, 1) := by decide +kernel
theorem dX5_expect_1 : decode cX5_expect 1 = .ok (.getfield 22, 3) := by decide +kernel
theorem dX5_expect_4 : decode cX5_expect 4 = .ok (.iconst (-1), 1) := by decide +kernel
theorem dX5_expect_5 : decode cX5_expect 5 = .ok (.if_icmp .eq 4, 3) := by decide +kernel
theorem dX5_expect_8 : decode cX5_expect 8 = .ok (.return_, 1) := by decide +kernel
theorem dX5_expect_9 : decode cX5_expect 9 = .ok (.aload_n 0, 1) := by decide +kernel
theorem dX5_expect_10 : decode cX5_expect 10 = .ok (.invokevirtual 51, 3) := by decide +kernel
theorem dX5_expect_13 : decode cX5_expect 13 = .ok (.iload_n 1, 1) := by decide +kernel
theorem dX5_expect_14 : decode cX5_expect 14 = .ok (.if_icmp .ne 16, 3) := by decide +kernel
theorem dX5_expect_17 : decode cX5_expect 17 = .ok (.aload_n 0, 1) := by decide +kernel
theorem dX5_expect_18 : decode cX5_expect 18 = .ok (.dup, 1) := by decide +kernel
theorem dX5_expect_19 : decode cX5_expect 19 = .ok (.getfield 19, 3) := by decide +kernel
theorem dX5_expect_22 : decode cX5_expect 22 = .ok (.iconst 1, 1) := by decide +kernel
theorem dX5_expect_23 : decode cX5_expect 23 = .ok (.iadd, 1) := by decide +kernel
theorem dX5_expect_24 : decode cX5_expect 24 = .ok (.putfield 19, 3) := by decide +kernel
theorem dX5_expect_27 : decode cX5_expect 27 = .ok (.goto 11, 3) := by decide +kernel
theorem dX5_expect_30 : decode cX5_expect 30 = .ok (.aload_n 0, 1) := by decide +kernel
theorem dX5_expect_31 : decode cX5_expect 31 = .ok (.aload_n 0, 1) := by decide +kernel
theorem dX5_expect_32 : decode cX5_expect 32 = .ok (.getfield 19, 3) := by decide +kernel
theorem dX5_expect_35 : decode cX5_expect 35 = .ok (.putfield 22, 3) := by decide +kernel
theorem dX5_expect_38 : decode cX5_expect 38 = .ok (.return_, 1) := by decide +kernel
set_option maxRecDepth 20000 in
theorem ggX5_next_X4_at : GoodIn wsX5_next wsX4_at := goodIn_r _ [7] (by decide +kernel) (by decide +kernel)
set_option maxRecDepth 20000 in
theorem gX5_next_X4_at : GoodIn wsX5_next (va_wsS RX5 68 yX4_at wsX4_at) := goodIn_app (goodIn_of _ (by decide +kernel)) ggX5_next_X4_at
theorem dX5_next_0 : decode cX5_next 0 = .ok (.aload_n 0, 1) := by decide +kernel
theorem dX5_next_1 : decode cX5_next 1 = .ok (.getfield 19, 3) := by decide +kernel
theorem dX5_next_4 : decode cX5_next 4 = .ok (.ifCond .lt 28, 3) := by decide +kernel
theorem dX5_next_7 : decode cX5_next 7 = .ok (.aload_n 0, 1) := by decide +kernel
theorem dX5_next_8 : decode cX5_next 8 = .ok (.getfield 19, 3) := by decide +kernel
theorem dX5_next_11 : decode cX5_next 11 = .ok (.aload_n 0, 1) := by decide +kernel
theorem dX5_next_12 : decode cX5_next 12 = .ok (.getfield 15, 3) := by decide +kernel
theorem dX5_next_15 : decode cX5_next 15 = .ok (.if_icmp .ge 17, 3) := by decide +kernel
theorem dX5_next_18 : decode cX5_next 18 = .ok (.aload_n 0, 1) := by decide +kernel
theorem dX5_next_19 : decode cX5_next 19 = .ok (.getfield 11, 3) := by decide +kernel
theorem dX5_next_22 : decode cX5_next 22 = .ok (.aload_n 0, 1) := by decide +kernel
theorem dX5_next_23 : decode cX5_next 23 = .ok (.getfield 19, 3) := by decide +kernel
theorem dX5_next_26 : decode cX5_next 26 = .ok (.invokestatic 68, 3) := by decide +kernel
theorem dX5_next_29 : decode cX5_next 29 = .ok (.goto 4, 3) := by decide +kernel
theorem dX5_next_32 : decode cX5_next 32 = .ok (.iconst (-1), 1) := by decide +kernel
theorem dX5_next_33 : decode cX5_next 33 = .ok (.ireturn, 1) := by decide +kernel
theorem dX5_isDigit_0 : decode cX5_isDigit 0 = .ok (.iload_n 0, 1) := by decide +kernel
theorem dX5_isDigit_1 : decode cX5_isDigit 1 = .ok (.bipush 48, 2) := by decide +kernel
theorem dX5_isDigit_3 : decode cX5_isDigit 3 = .ok (.if_icmp .lt 13, 3) := by decide +kernel
theorem dX5_isDigit_6 : decode cX5_isDigit 6 = .ok (.iload_n 0, 1) := by decide +kernel
theorem dX5_isDigit_7 : decode cX5_isDigit 7 = .ok (.bipush 57, 2) := by decide +kernel
theorem dX5_isDigit_9 : decode cX5_isDigit 9 = .ok (.if_icmp .gt 7, 3) := by decide +kernel
theorem dX5_isDigit_12 : decode cX5_isDigit 12 = .ok (.iconst 1, 1) := by decide +kernel
theorem dX5_isDigit_13 : decode cX5_isDigit 13 = .ok (.goto 4, 3) := by decide +kernel
theorem dX5_isDigit_16 : decode cX5_isDigit 16 = .ok (.iconst 0, 1) := by decide +kernel
theorem dX5_isDigit_17 : decode cX5_isDigit 17 = .ok (.ireturn, 1) := by decide +kernel
theorem dX6_init_0 : decode cX6_init 0 = .ok (.aload_n 0, 1) := by decide +kernel
theorem dX6_init_1 : decode cX6_init 1 = .ok (.invokespecial 3, 3) := by decide +kernel
theorem dX6_init_4 : decode cX6_init 4 = .ok (.aload_n 0, 1) := by decide +kernel
theorem dX6_init_5 : decode cX6_init 5 = .ok (.sipush 324, 3) := by decide +kernel
theorem dX6_init_8 : decode cX6_init 8 = .ok (.newarray .int, 2) := by decide +kernel
theorem dX6_init_10 : decode cX6_init 10 = .ok (.putfield 11, 3) := by decide +kernel
theorem dX6_init_13 : decode cX6_init 13 = .ok (.return_, 1) := by decide +kernel
set_option maxRecDepth 20000 in
theorem ggX6_byteOf_X1_subpathCount : GoodIn wsX6_byteOf wsX1_subpathCount := goodIn_r _ [7, 8, 9, 10, 6, 11, 12, 58] (by decide +kernel) (by decide +kernel)
set_option maxRecDepth 20000 in
theorem gX6_byteOf_X1_subpathCount : GoodIn wsX6_byteOf (wsV RX6 19 RX1 yX1_subpathCount wsX1_subpathCount) := goodIn_app (goodIn_of _ (by decide +kernel)) ggX6_byteOf_X1_subpathCount
set_option maxRecDepth 20000 in
theorem ggX6_byteOf_X6_writeSubpath : GoodIn wsX6_byteOf wsX6_writeSubpath := goodIn_r _ [17, 18, 19, 20, 6, 21, 8, 9, 10, 11, 12, 22, 23, 24, 25, 26, 27, 16, 28, 1, 2, 29, 30, 31, 32, 33, 34, 35, 36, 37, 38, 39, 40, 41, 42, 43, 44, 45, 46, 47, 48, 49, 50, 51, 58, 56, 57] (by decide +kernel) (by decide +kernel)
set_option maxRecDepth 20000 in
theorem gX6_byteOf_X6_writeSubpath : GoodIn wsX6_byteOf (wsV RX6 25 RX6 yX6_writeSubpath wsX6_writeSubpath) := goodIn_app (goodIn_of _ (by decide +kernel)) ggX6_byteOf_X6_writeSubpath
set_option maxRecDepth 20000 in
theorem ggX6_byteOf_X4_at : GoodIn wsX6_byteOf wsX4_at := goodIn_r _ [55] (by decide +kernel) (by decide +kernel)
set_option maxRecDepth 20000 in
theorem gX6_byteOf_X4_at : GoodIn wsX6_byteOf (va_wsS RX6 29 yX4_at wsX4_at) := goodIn_app (goodIn_of _ (by decide +kernel)) ggX6_byteOf_X4_at
theorem dX6_byteOf_0 : decode cX6_byteOf 0 = .ok (.aload_n 0, 1) := by decide +kernel
theorem dX6_byteOf_1 : decode cX6_byteOf 1 = .ok (.iconst 0, 1) := by decide +kernel
theorem dX6_byteOf_2 : decode cX6_byteOf 2 = .ok (.putfield 15, 3) := by decide +kernel
theorem dX6_byteOf_5 : decode cX6_byteOf 5 = .ok (.iconst 0, 1) := by decide +kernel
theorem dX6_byteOf_6 : decode cX6_byteOf 6 = .ok (.istore_n 3, 1) := by decide +kernel
theorem dX6_byteOf_7 : decode cX6_byteOf 7 = .ok (.iload_n 3, 1) := by decide +kernel
theorem dX6_byteOf_8 : decode cX6_byteOf 8 = .ok (.aload_n 1, 1) := by decide +kernel
theorem dX6_byteOf_9 : decode cX6_byteOf 9 = .ok (.invokevirtual 19, 3) := by decide +kernel
theorem dX6_byteOf_12 : decode cX6_byteOf 12 = .ok (.if_icmp .ge 15, 3) := by decide +kernel
theorem dX6_byteOf_15 : decode cX6_byteOf 15 = .ok (.aload_n 0, 1) := by decide +kernel
theorem dX6_byteOf_16 : decode cX6_byteOf 16 = .ok (.aload_n 1, 1) := by decide +kernel
theorem dX6_byteOf_17 : decode cX6_byteOf 17 = .ok (.iload_n 3, 1) := by decide +kernel
theorem dX6_byteOf_18 : decode cX6_byteOf 18 = .ok (.invokevirtual 25, 3) := by decide +kernel
theorem dX6_byteOf_21 : decode cX6_byteOf 21 = .ok (.iinc 3 1, 3) := by decide +kernel
theorem dX6_byteOf_24 : decode cX6_byteOf 24 = .ok (.goto (-17), 3) := by decide +kernel
theorem dX6_byteOf_27 : decode cX6_byteOf 27 = .ok (.iload_n 2, 1) := by decide +kernel
theorem dX6_byteOf_28 : decode cX6_byteOf 28 = .ok (.ifCond .lt 22, 3) := by decide +kernel
theorem dX6_byteOf_31 : decode cX6_byteOf 31 = .ok (.iload_n 2, 1) := by decide +kernel
theorem dX6_byteOf_32 : decode cX6_byteOf 32 = .ok (.aload_n 0, 1) := by decide +kernel
theorem dX6_byteOf_33 : decode cX6_byteOf 33 = .ok (.getfield 15, 3) := by decide +kernel
theorem dX6_byteOf_36 : decode cX6_byteOf 36 = .ok (.if_icmp .ge 14, 3) := by decide +kernel
theorem dX6_byteOf_39 : decode cX6_byteOf 39 = .ok (.aload_n 0, 1) := by decide +kernel
theorem dX6_byteOf_40 : decode cX6_byteOf 40 = .ok (.getfield 11, 3) := by decide +kernel
theorem dX6_byteOf_43 : decode cX6_byteOf 43 = .ok (.iload_n 2, 1) := by decide +kernel
theorem dX6_byteOf_44 : decode cX6_byteOf 44 = .ok (.invokestatic 29, 3) := by decide +kernel
theorem dX6_byteOf_47 : decode cX6_byteOf 47 = .ok (.goto 4, 3) := by decide +kernel
theorem dX6_byteOf_50 : decode cX6_byteOf 50 = .ok (.iconst (-1), 1) := by decide +kernel
theorem dX6_byteOf_51 : decode cX6_byteOf 51 = .ok (.ireturn, 1) := by decide +kernel
set_option maxRecDepth 20000 in
theorem ggX6_writeSubpath_X1_pointCount : GoodIn wsX6_writeSubpath wsX1_pointCount := goodIn_r _ [5, 6, 7, 8, 4, 9, 10, 11, 12, 13, 44] (by decide +kernel) (by decide +kernel)
set_option maxRecDepth 20000 in
theorem gX6_writeSubpath_X1_pointCount : GoodIn wsX6_writeSubpath (wsV RX6 35 RX1 yX1_pointCount wsX1_pointCount) := goodIn_app (goodIn_of _ (by decide +kernel)) ggX6_writeSubpath_X1_pointCount
set_option maxRecDepth 20000 in
theorem ggX6_writeSubpath_X6_write : GoodIn wsX6_writeSubpath wsX6_write := goodIn_r _ [18, 19, 20, 45, 46] (by decide +kernel) (by decide +kernel)
set_option maxRecDepth 20000 in
theorem gX6_writeSubpath_X6_write : GoodIn wsX6_writeSubpath (wsV RX6 39 RX6 yX6_write wsX6_write) := goodIn_app (goodIn_of _ (by decide +kernel)) ggX6_writeSubpath_X6_write
set_option maxRecDepth 20000 in
theorem ggX6_writeSubpath_X1_xOf : GoodIn wsX6_writeSubpath wsX1_xOf := goodIn_r _ [24, 25, 26, 4, 27, 6, 7, 8, 9, 10, 44] (by decide +kernel) (by decide +kernel)
set_option maxRecDepth 20000 in
theorem gX6_writeSubpath_X1_xOf : GoodIn wsX6_writeSubpath (wsV RX6 43 RX1 yX1_xOf wsX1_xOf) := goodIn_app (goodIn_of _ (by decide +kernel)) ggX6_writeSubpath_X1_xOf
set_option maxRecDepth 20000 in
theorem ggX6_writeSubpath_X6_writeNumber : GoodIn wsX6_writeSubpath wsX6_writeNumber := goodIn_r _ [31, 32, 33, 34, 35, 14, 15, 16, 17, 18, 19, 20, 45, 46] (by decide +kernel) (by decide +kernel)
set_option maxRecDepth 20000 in
theorem gX6_writeSubpath_X6_writeNumber : GoodIn wsX6_writeSubpath (wsV RX6 47 RX6 yX6_writeNumber wsX6_writeNumber) := goodIn_app (goodIn_of _ (by decide +kernel)) ggX6_writeSubpath_X6_writeNumber
set_option maxRecDepth 20000 in
theorem ggX6_writeSubpath_X1_yOf : GoodIn wsX6_writeSubpath wsX1_yOf := goodIn_r _ [39, 25, 26, 4, 27, 6, 7, 8, 9, 10, 44] (by decide +kernel) (by decide +kernel)
set_option maxRecDepth 20000 in
theorem gX6_writeSubpath_X1_yOf : GoodIn wsX6_writeSubpath (wsV RX6 50 RX1 yX1_yOf wsX1_yOf) := goodIn_app (goodIn_of _ (by decide +kernel)) ggX6_writeSubpath_X1_yOf
set_option maxRecDepth 20000 in
theorem ggX6_writeSubpath_X1_isClosed : GoodIn wsX6_writeSubpath wsX1_isClosed := goodIn_r _ [43, 6, 7, 8, 4, 9, 10, 11, 12, 13, 44] (by decide +kernel) (by decide +kernel)
set_option maxRecDepth 20000 in
theorem gX6_writeSubpath_X1_isClosed : GoodIn wsX6_writeSubpath (wsV RX6 53 RX1 yX1_isClosed wsX1_isClosed) := goodIn_app (goodIn_of _ (by decide +kernel)) ggX6_writeSubpath_X1_isClosed
theorem dX6_writeSubpath_0 : decode cX6_writeSubpath 0 = .ok (.iconst 0, 1) := by decide +kernel
theorem dX6_writeSubpath_1 : decode cX6_writeSubpath 1 = .ok (.istore_n 3, 1) := by decide +kernel
theorem dX6_writeSubpath_2 : decode cX6_writeSubpath 2 = .ok (.iload_n 3, 1) := by decide +kernel
theorem dX6_writeSubpath_3 : decode cX6_writeSubpath 3 = .ok (.aload_n 1, 1) := by decide +kernel
theorem dX6_writeSubpath_4 : decode cX6_writeSubpath 4 = .ok (.iload_n 2, 1) := by decide +kernel
theorem dX6_writeSubpath_5 : decode cX6_writeSubpath 5 = .ok (.invokevirtual 35, 3) := by decide +kernel
theorem dX6_writeSubpath_8 : decode cX6_writeSubpath 8 = .ok (.if_icmp .ge 50, 3) := by decide +kernel
theorem dX6_writeSubpath_11 : decode cX6_writeSubpath 11 = .ok (.aload_n 0, 1) := by decide +kernel
theorem dX6_writeSubpath_12 : decode cX6_writeSubpath 12 = .ok (.iload_n 3, 1) := by decide +kernel
theorem dX6_writeSubpath_13 : decode cX6_writeSubpath 13 = .ok (.ifCond .ne 8, 3) := by decide +kernel
theorem dX6_writeSubpath_16 : decode cX6_writeSubpath 16 = .ok (.bipush 77, 2) := by decide +kernel
theorem dX6_writeSubpath_18 : decode cX6_writeSubpath 18 = .ok (.goto 5, 3) := by decide +kernel
theorem dX6_writeSubpath_21 : decode cX6_writeSubpath 21 = .ok (.bipush 76, 2) := by decide +kernel
theorem dX6_writeSubpath_23 : decode cX6_writeSubpath 23 = .ok (.invokevirtual 39, 3) := by decide +kernel
theorem dX6_writeSubpath_26 : decode cX6_writeSubpath 26 = .ok (.aload_n 0, 1) := by decide +kernel
theorem dX6_writeSubpath_27 : decode cX6_writeSubpath 27 = .ok (.aload_n 1, 1) := by decide +kernel
theorem dX6_writeSubpath_28 : decode cX6_writeSubpath 28 = .ok (.iload_n 2, 1) := by decide +kernel
theorem dX6_writeSubpath_29 : decode cX6_writeSubpath 29 = .ok (.iload_n 3, 1) := by decide +kernel
theorem dX6_writeSubpath_30 : decode cX6_writeSubpath 30 = .ok (.invokevirtual 43, 3) := by decide +kernel
theorem dX6_writeSubpath_33 : decode cX6_writeSubpath 33 = .ok (.invokevirtual 47, 3) := by decide +kernel
theorem dX6_writeSubpath_36 : decode cX6_writeSubpath 36 = .ok (.aload_n 0, 1) := by decide +kernel
theorem dX6_writeSubpath_37 : decode cX6_writeSubpath 37 = .ok (.bipush 44, 2) := by decide +kernel
theorem dX6_writeSubpath_39 : decode cX6_writeSubpath 39 = .ok (.invokevirtual 39, 3) := by decide +kernel
theorem dX6_writeSubpath_42 : decode cX6_writeSubpath 42 = .ok (.aload_n 0, 1) := by decide +kernel
theorem dX6_writeSubpath_43 : decode cX6_writeSubpath 43 = .ok (.aload_n 1, 1) := by decide +kernel
theorem dX6_writeSubpath_44 : decode cX6_writeSubpath 44 = .ok (.iload_n 2, 1) := by decide +kernel
theorem dX6_writeSubpath_45 : decode cX6_writeSubpath 45 = .ok (.iload_n 3, 1) := by decide +kernel
theorem dX6_writeSubpath_46 : decode cX6_writeSubpath 46 = .ok (.invokevirtual 50, 3) := by decide +kernel
theorem dX6_writeSubpath_49 : decode cX6_writeSubpath 49 = .ok (.invokevirtual 47, 3) := by decide +kernel
theorem dX6_writeSubpath_52 : decode cX6_writeSubpath 52 = .ok (.iinc 3 1, 3) := by decide +kernel
theorem dX6_writeSubpath_55 : decode cX6_writeSubpath 55 = .ok (.goto (-53), 3) := by decide +kernel
theorem dX6_writeSubpath_58 : decode cX6_writeSubpath 58 = .ok (.aload_n 1, 1) := by decide +kernel
theorem dX6_writeSubpath_59 : decode cX6_writeSubpath 59 = .ok (.iload_n 2, 1) := by decide +kernel
theorem dX6_writeSubpath_60 : decode cX6_writeSubpath 60 = .ok (.invokevirtual 53, 3) := by decide +kernel
theorem dX6_writeSubpath_63 : decode cX6_writeSubpath 63 = .ok (.ifCond .eq 9, 3) := by decide +kernel
theorem dX6_writeSubpath_66 : decode cX6_writeSubpath 66 = .ok (.aload_n 0, 1) := by decide +kernel
theorem dX6_writeSubpath_67 : decode cX6_writeSubpath 67 = .ok (.bipush 90, 2) := by decide +kernel
theorem dX6_writeSubpath_69 : decode cX6_writeSubpath 69 = .ok (.invokevirtual 39, 3) := by decide +kernel
theorem dX6_writeSubpath_72 : decode cX6_writeSubpath 72 = .ok (.return_, 1) := by decide +kernel
set_option maxRecDepth 20000 in
theorem ggX6_writeNumber_X6_write : GoodIn wsX6_writeNumber wsX6_write := goodIn_r _ [9, 10, 11, 12, 13] (by decide +kernel) (by decide +kernel)
set_option maxRecDepth 20000 in
theorem gX6_writeNumber_X6_write : GoodIn wsX6_writeNumber (wsV RX6 39 RX6 yX6_write wsX6_write) := goodIn_app (goodIn_of _ (by decide +kernel)) ggX6_writeNumber_X6_write
theorem dX6_writeNumber_0 : decode cX6_writeNumber 0 = .ok (.iload_n 1, 1) := by decide +kernel
theorem dX6_writeNumber_1 : decode cX6_writeNumber 1 = .ok (.ifCond .ge 9, 3) := by decide +kernel
theorem dX6_writeNumber_4 : decode cX6_writeNumber 4 = .ok (.aload_n 0, 1) := by decide +kernel
theorem dX6_writeNumber_5 : decode cX6_writeNumber 5 = .ok (.bipush 45, 2) := by decide +kernel
theorem dX6_writeNumber_7 : decode cX6_writeNumber 7 = .ok (.invokevirtual 39, 3) := by decide +kernel
theorem dX6_writeNumber_10 : decode cX6_writeNumber 10 = .ok (.iload_n 1, 1) := by decide +kernel
theorem dX6_writeNumber_11 : decode cX6_writeNumber 11 = .ok (.invokestatic 57, 3) := by decide +kernel
theorem dX6_writeNumber_14 : decode cX6_writeNumber 14 = .ok (.istore_n 2, 1) := by decide +kernel
theorem dX6_writeNumber_15 : decode cX6_writeNumber 15 = .ok (.iload_n 2, 1) := by decide +kernel
theorem dX6_writeNumber_16 : decode cX6_writeNumber 16 = .ok (.bipush 100, 2) := by decide +kernel
theorem dX6_writeNumber_18 : decode cX6_writeNumber 18 = .ok (.if_icmp .lt 14, 3) := by decide +kernel
theorem dX6_writeNumber_21 : decode cX6_writeNumber 21 = .ok (.aload_n 0, 1) := by decide +kernel
theorem dX6_writeNumber_22 : decode cX6_writeNumber 22 = .ok (.bipush 48, 2) := by decide +kernel
theorem dX6_writeNumber_24 : decode cX6_writeNumber 24 = .ok (.iload_n 2, 1) := by decide +kernel
theorem dX6_writeNumber_25 : decode cX6_writeNumber 25 = .ok (.bipush 100, 2) := by decide +kernel
theorem dX6_writeNumber_27 : decode cX6_writeNumber 27 = .ok (.idiv, 1) := by decide +kernel
theorem dX6_writeNumber_28 : decode cX6_writeNumber 28 = .ok (.iadd, 1) := by decide +kernel
theorem dX6_writeNumber_29 : decode cX6_writeNumber 29 = .ok (.invokevirtual 39, 3) := by decide +kernel
theorem dX6_writeNumber_32 : decode cX6_writeNumber 32 = .ok (.iload_n 2, 1) := by decide +kernel
theorem dX6_writeNumber_33 : decode cX6_writeNumber 33 = .ok (.bipush 10, 2) := by decide +kernel
theorem dX6_writeNumber_35 : decode cX6_writeNumber 35 = .ok (.if_icmp .lt 17, 3) := by decide +kernel
theorem dX6_writeNumber_38 : decode cX6_writeNumber 38 = .ok (.aload_n 0, 1) := by decide +kernel
theorem dX6_writeNumber_39 : decode cX6_writeNumber 39 = .ok (.bipush 48, 2) := by decide +kernel
theorem dX6_writeNumber_41 : decode cX6_writeNumber 41 = .ok (.iload_n 2, 1) := by decide +kernel
theorem dX6_writeNumber_42 : decode cX6_writeNumber 42 = .ok (.bipush 10, 2) := by decide +kernel
theorem dX6_writeNumber_44 : decode cX6_writeNumber 44 = .ok (.idiv, 1) := by decide +kernel
theorem dX6_writeNumber_45 : decode cX6_writeNumber 45 = .ok (.bipush 10, 2) := by decide +kernel
theorem dX6_writeNumber_47 : decode cX6_writeNumber 47 = .ok (.irem, 1) := by decide +kernel
theorem dX6_writeNumber_48 : decode cX6_writeNumber 48 = .ok (.iadd, 1) := by decide +kernel
theorem dX6_writeNumber_49 : decode cX6_writeNumber 49 = .ok (.invokevirtual 39, 3) := by decide +kernel
theorem dX6_writeNumber_52 : decode cX6_writeNumber 52 = .ok (.aload_n 0, 1) := by decide +kernel
theorem dX6_writeNumber_53 : decode cX6_writeNumber 53 = .ok (.bipush 48, 2) := by decide +kernel
theorem dX6_writeNumber_55 : decode cX6_writeNumber 55 = .ok (.iload_n 2, 1) := by decide +kernel
theorem dX6_writeNumber_56 : decode cX6_writeNumber 56 = .ok (.bipush 10, 2) := by decide +kernel
theorem dX6_writeNumber_58 : decode cX6_writeNumber 58 = .ok (.irem, 1) := by decide +kernel
theorem dX6_writeNumber_59 : decode cX6_writeNumber 59 = .ok (.iadd, 1) := by decide +kernel
theorem dX6_writeNumber_60 : decode cX6_writeNumber 60 = .ok (.invokevirtual 39, 3) := by decide +kernel
theorem dX6_writeNumber_63 : decode cX6_writeNumber 63 = .ok (.return_, 1) := by decide +kernel
theorem dX6_write_0 : decode cX6_write 0 = .ok (.aload_n 0, 1) := by decide +kernel
theorem dX6_write_1 : decode cX6_write 1 = .ok (.getfield 15, 3) := by decide +kernel
theorem dX6_write_4 : decode cX6_write 4 = .ok (.ifCond .lt 33, 3) := by decide +kernel
theorem dX6_write_7 : decode cX6_write 7 = .ok (.aload_n 0, 1) := by decide +kernel
theorem dX6_write_8 : decode cX6_write 8 = .ok (.getfield 15, 3) := by decide +kernel
theorem dX6_write_11 : decode cX6_write 11 = .ok (.sipush 324, 3) := by decide +kernel
theorem dX6_write_14 : decode cX6_write 14 = .ok (.if_icmp .ge 23, 3) := by decide +kernel
theorem dX6_write_17 : decode cX6_write 17 = .ok (.aload_n 0, 1) := by decide +kernel
theorem dX6_write_18 : decode cX6_write 18 = .ok (.getfield 11, 3) := by decide +kernel
theorem dX6_write_21 : decode cX6_write 21 = .ok (.aload_n 0, 1) := by decide +kernel
theorem dX6_write_22 : decode cX6_write 22 = .ok (.getfield 15, 3) := by decide +kernel
theorem dX6_write_25 : decode cX6_write 25 = .ok (.iload_n 1, 1) := by decide +kernel
theorem dX6_write_26 : decode cX6_write 26 = .ok (.iastore, 1) := by decide +kernel
theorem dX6_write_27 : decode cX6_write 27 = .ok (.aload_n 0, 1) := by decide +kernel
theorem dX6_write_28 : decode cX6_write 28 = .ok (.dup, 1) := by decide +kernel
theorem dX6_write_29 : decode cX6_write 29 = .ok (.getfield 15, 3) := by decide +kernel
theorem dX6_write_32 : decode cX6_write 32 = .ok (.iconst 1, 1) := by decide +kernel
theorem dX6_write_33 : decode cX6_write 33 = .ok (.iadd, 1) := by decide +kernel
theorem dX6_write_34 : decode cX6_write 34 = .ok (.putfield 15, 3) := by decide +kernel
theorem dX6_write_37 : decode cX6_write 37 = .ok (.return_, 1) := by decide +kernel
theorem dX7_init_0 : decode cX7_init 0 = .ok (.aload_n 0, 1) := by decide +kernel
theorem dX7_init_1 : decode cX7_init 1 = .ok (.invokespecial 3, 3) := by decide +kernel
theorem dX7_init_4 : decode cX7_init 4 = .ok (.aload_n 0, 1) := by decide +kernel
theorem dX7_init_5 : decode cX7_init 5 = .ok (.sipush 2800, 3) := by decide +kernel
theorem dX7_init_8 : decode cX7_init 8 = .ok (.newarray .int, 2) := by decide +kernel
theorem dX7_init_10 : decode cX7_init 10 = .ok (.putfield 11, 3) := by decide +kernel
theorem dX7_init_13 : decode cX7_init 13 = .ok (.aload_n 0, 1) := by decide +kernel
theorem dX7_init_14 : decode cX7_init 14 = .ok (.sipush 11200, 3) := by decide +kernel
theorem dX7_init_17 : decode cX7_init 17 = .ok (.newarray .int, 2) := by decide +kernel
theorem dX7_init_19 : decode cX7_init 19 = .ok (.putfield 15, 3) := by decide +kernel
theorem dX7_init_22 : decode cX7_init 22 = .ok (.aload_n 0, 1) := by decide +kernel
theorem dX7_init_23 : decode cX7_init 23 = .ok (.sipush 11200, 3) := by decide +kernel
theorem dX7_init_26 : decode cX7_init 26 = .ok (.newarray .int, 2) := by decide +kernel
theorem dX7_init_28 : decode cX7_init 28 = .ok (.putfield 18, 3) := by decide +kernel
theorem dX7_init_31 : decode cX7_init 31 = .ok (.return_, 1) := by decide +kernel
theorem dX7_clear_0 : decode cX7_clear 0 = .ok (.aload_n 0, 1) := by decide +kernel
theorem dX7_clear_1 : decode cX7_clear 1 = .ok (.iconst 0, 1) := by decide +kernel
theorem dX7_clear_2 : decode cX7_clear 2 = .ok (.putfield 21, 3) := by decide +kernel
theorem dX7_clear_5 : decode cX7_clear 5 = .ok (.aload_n 0, 1) := by decide +kernel
theorem dX7_clear_6 : decode cX7_clear 6 = .ok (.iload_n 1, 1) := by decide +kernel
theorem dX7_clear_7 : decode cX7_clear 7 = .ok (.putfield 25, 3) := by decide +kernel
theorem dX7_clear_10 : decode cX7_clear 10 = .ok (.return_, 1) := by decide +kernel
theorem dX7_start_0 : decode cX7_start 0 = .ok (.aload_n 0, 1) := by decide +kernel
theorem dX7_start_1 : decode cX7_start 1 = .ok (.getfield 21, 3) := by decide +kernel
theorem dX7_start_4 : decode cX7_start 4 = .ok (.ifCond .lt 38, 3) := by decide +kernel
theorem dX7_start_7 : decode cX7_start 7 = .ok (.aload_n 0, 1) := by decide +kernel
theorem dX7_start_8 : decode cX7_start 8 = .ok (.getfield 21, 3) := by decide +kernel
theorem dX7_start_11 : decode cX7_start 11 = .ok (.sipush 2800, 3) := by decide +kernel
theorem dX7_start_14 : decode cX7_start 14 = .ok (.if_icmp .ge 28, 3) := by decide +kernel
theorem dX7_start_17 : decode cX7_start 17 = .ok (.aload_n 0, 1) := by decide +kernel
theorem dX7_start_18 : decode cX7_start 18 = .ok (.getfield 11, 3) := by decide +kernel
theorem dX7_start_21 : decode cX7_start 21 = .ok (.aload_n 0, 1) := by decide +kernel
theorem dX7_start_22 : decode cX7_start 22 = .ok (.getfield 21, 3) := by decide +kernel
theorem dX7_start_25 : decode cX7_start 25 = .ok (.iload_n 1, 1) := by decide +kernel
theorem dX7_start_26 : decode cX7_start 26 = .ok (.iastore, 1) := by decide +kernel
theorem dX7_start_27 : decode cX7_start 27 = .ok (.aload_n 0, 1) := by decide +kernel
theorem dX7_start_28 : decode cX7_start 28 = .ok (.dup, 1) := by decide +kernel
theorem dX7_start_29 : decode cX7_start 29 = .ok (.getfield 21, 3) := by decide +kernel
theorem dX7_start_32 : decode cX7_start 32 = .ok (.iconst 1, 1) := by decide +kernel
theorem dX7_start_33 : decode cX7_start 33 = .ok (.iadd, 1) := by decide +kernel
theorem dX7_start_34 : decode cX7_start 34 = .ok (.putfield 21, 3) := by decide +kernel
theorem dX7_start_37 : decode cX7_start 37 = .ok (.aload_n 0, 1) := by decide +kernel
theorem dX7_start_38 : decode cX7_start 38 = .ok (.iconst 0, 1) := by decide +kernel
theorem dX7_start_39 : decode cX7_start 39 = .ok (.putfield 28, 3) := by decide +kernel
theorem dX7_start_42 : decode cX7_start 42 = .ok (.return_, 1) := by decide +kernel
theorem dX7_addCorner_0 : decode cX7_addCorner 0 = .ok (.iconst 4, 1) := by decide +kernel
theorem dX7_addCorner_1 : decode cX7_addCorner 1 = .ok (.aload_n 0, 1) := by decide +kernel
theorem dX7_addCorner_2 : decode cX7_addCorner 2 = .ok (.getfield 21, 3) := by decide +kernel
theorem dX7_addCorner_5 : decode cX7_addCorner 5 = .ok (.iconst 1, 1) := by decide +kernel
theorem dX7_addCorner_6 : decode cX7_addCorner 6 = .ok (.isub, 1) := by decide +kernel
theorem dX7_addCorner_7 : decode cX7_addCorner 7 = .ok (.imul, 1) := by decide +kernel
theorem dX7_addCorner_8 : decode cX7_addCorner 8 = .ok (.aload_n 0, 1) := by decide +kernel
theorem dX7_addCorner_9 : decode cX7_addCorner 9 = .ok (.getfield 28, 3) := by decide +kernel
theorem dX7_addCorner_12 : decode cX7_addCorner 12 = .ok (.iadd, 1) := by decide +kernel
theorem dX7_addCorner_13 : decode cX7_addCorner 13 = .ok (.istore_n 3, 1) := by decide +kernel
theorem dX7_addCorner_14 : decode cX7_addCorner 14 = .ok (.aload_n 0, 1) := by decide +kernel
theorem dX7_addCorner_15 : decode cX7_addCorner 15 = .ok (.getfield 28, 3) := by decide +kernel
theorem dX7_addCorner_18 : decode cX7_addCorner 18 = .ok (.iconst 4, 1) := by decide +kernel
theorem dX7_addCorner_19 : decode cX7_addCorner 19 = .ok (.if_icmp .ge 38, 3) := by decide +kernel
theorem dX7_addCorner_22 : decode cX7_addCorner 22 = .ok (.iload_n 3, 1) := by decide +kernel
theorem dX7_addCorner_23 : decode cX7_addCorner 23 = .ok (.ifCond .lt 34, 3) := by decide +kernel
theorem dX7_addCorner_26 : decode cX7_addCorner 26 = .ok (.iload_n 3, 1) := by decide +kernel
theorem dX7_addCorner_27 : decode cX7_addCorner 27 = .ok (.sipush 11200, 3) := by decide +kernel
theorem dX7_addCorner_30 : decode cX7_addCorner 30 = .ok (.if_icmp .ge 27, 3) := by decide +kernel
theorem dX7_addCorner_33 : decode cX7_addCorner 33 = .ok (.aload_n 0, 1) := by decide +kernel
theorem dX7_addCorner_34 : decode cX7_addCorner 34 = .ok (.getfield 15, 3) := by decide +kernel
theorem dX7_addCorner_37 : decode cX7_addCorner 37 = .ok (.iload_n 3, 1) := by decide +kernel
theorem dX7_addCorner_38 : decode cX7_addCorner 38 = .ok (.iload_n 1, 1) := by decide +kernel
theorem dX7_addCorner_39 : decode cX7_addCorner 39 = .ok (.iastore, 1) := by decide +kernel
theorem dX7_addCorner_40 : decode cX7_addCorner 40 = .ok (.aload_n 0, 1) := by decide +kernel
theorem dX7_addCorner_41 : decode cX7_addCorner 41 = .ok (.getfield 18, 3) := by decide +kernel
theorem dX7_addCorner_44 : decode cX7_addCorner 44 = .ok (.iload_n 3, 1) := by decide +kernel
theorem dX7_addCorner_45 : decode cX7_addCorner 45 = .ok (.iload_n 2, 1) := by decide +kernel
theorem dX7_addCorner_46 : decode cX7_addCorner 46 = .ok (.iastore, 1) := by decide +kernel
theorem dX7_addCorner_47 : decode cX7_addCorner 47 = .ok (.aload_n 0, 1) := by decide +kernel
theorem dX7_addCorner_48 : decode cX7_addCorner 48 = .ok (.dup, 1) := by decide +kernel
theorem dX7_addCorner_49 : decode cX7_addCorner 49 = .ok (.getfield 28, 3) := by decide +kernel
theorem dX7_addCorner_52 : decode cX7_addCorner 52 = .ok (.iconst 1, 1) := by decide +kernel
theorem dX7_addCorner_53 : decode cX7_addCorner 53 = .ok (.iadd, 1) := by decide +kernel
theorem dX7_addCorner_54 : decode cX7_addCorner 54 = .ok (.putfield 28, 3) := by decide +kernel
theorem dX7_addCorner_57 : decode cX7_addCorner 57 = .ok (.return_, 1) := by decide +kernel
theorem dX7_size_0 : decode cX7_size 0 = .ok (.aload_n 0, 1) := by decide +kernel
theorem dX7_size_1 : decode cX7_size 1 = .ok (.getfield 21, 3) := by decide +kernel
theorem dX7_size_4 : decode cX7_size 4 = .ok (.ireturn, 1) := by decide +kernel
set_option maxRecDepth 20000 in
theorem ggX7_countOf_X7_kindOf : GoodIn wsX7_countOf wsX7_kindOf := goodIn_r _ [6, 7, 8, 9, 10, 11, 12, 13, 14, 15, 16, 17] (by decide +kernel) (by decide +kernel)
set_option maxRecDepth 20000 in
theorem gX7_countOf_X7_kindOf : GoodIn wsX7_countOf (wsV RX7 31 RX7 yX7_kindOf wsX7_kindOf) := goodIn_app (goodIn_of _ (by decide +kernel)) ggX7_countOf_X7_kindOf
theorem dX7_countOf_0 : decode cX7_countOf 0 = .ok (.iconst 0, 1) := by decide +kernel
theorem dX7_countOf_1 : decode cX7_countOf 1 = .ok (.istore_n 2, 1) := by decide +kernel
theorem dX7_countOf_2 : decode cX7_countOf 2 = .ok (.iconst 0, 1) := by decide +kernel
theorem dX7_countOf_3 : decode cX7_countOf 3 = .ok (.istore_n 3, 1) := by decide +kernel
theorem dX7_countOf_4 : decode cX7_countOf 4 = .ok (.iload_n 3, 1) := by decide +kernel
theorem dX7_countOf_5 : decode cX7_countOf 5 = .ok (.aload_n 0, 1) := by decide +kernel
theorem dX7_countOf_6 : decode cX7_countOf 6 = .ok (.getfield 21, 3) := by decide +kernel
theorem dX7_countOf_9 : decode cX7_countOf 9 = .ok (.if_icmp .ge 21, 3) := by decide +kernel
theorem dX7_countOf_12 : decode cX7_countOf 12 = .ok (.aload_n 0, 1) := by decide +kernel
theorem dX7_countOf_13 : decode cX7_countOf 13 = .ok (.iload_n 3, 1) := by decide +kernel
theorem dX7_countOf_14 : decode cX7_countOf 14 = .ok (.invokevirtual 31, 3) := by decide +kernel
theorem dX7_countOf_17 : decode cX7_countOf 17 = .ok (.iload_n 1, 1) := by decide +kernel
theorem dX7_countOf_18 : decode cX7_countOf 18 = .ok (.if_icmp .ne 6, 3) := by decide +kernel
theorem dX7_countOf_21 : decode cX7_countOf 21 = .ok (.iinc 2 1, 3) := by decide +kernel
theorem dX7_countOf_24 : decode cX7_countOf 24 = .ok (.iinc 3 1, 3) := by decide +kernel
theorem dX7_countOf_27 : decode cX7_countOf 27 = .ok (.goto (-23), 3) := by decide +kernel
theorem dX7_countOf_30 : decode cX7_countOf 30 = .ok (.iload_n 2, 1) := by decide +kernel
theorem dX7_countOf_31 : decode cX7_countOf 31 = .ok (.ireturn, 1) := by decide +kernel
set_option maxRecDepth 20000 in
theorem ggX7_kindOf_X4_at : GoodIn wsX7_kindOf wsX4_at := goodIn_r _ [5] (by decide +kernel) (by decide +kernel)
set_option maxRecDepth 20000 in
theorem gX7_kindOf_X4_at : GoodIn wsX7_kindOf (va_wsS RX7 35 yX4_at wsX4_at) := goodIn_app (goodIn_of _ (by decide +kernel)) ggX7_kindOf_X4_at
theorem dX7_kindOf_0 : decode cX7_kindOf 0 = .ok (.aload_n 0, 1) := by decide +kernel
theorem dX7_kindOf_1 : decode cX7_kindOf 1 = .ok (.getfield 11, 3) := by decide +kernel
theorem dX7_kindOf_4 : decode cX7_kindOf 4 = .ok (.iload_n 1, 1) := by decide +kernel
theorem dX7_kindOf_5 : decode cX7_kindOf 5 = .ok (.invokestatic 35, 3) := by decide +kernel
theorem dX7_kindOf_8 : decode cX7_kindOf 8 = .ok (.ireturn, 1) := by decide +kernel
set_option maxRecDepth 20000 in
theorem ggX7_cornerCount_X4_at : GoodIn wsX7_cornerCount wsX4_at := goodIn_r _ [5] (by decide +kernel) (by decide +kernel)
set_option maxRecDepth 20000 in
theorem gX7_cornerCount_X4_at : GoodIn wsX7_cornerCount (va_wsS RX7 35 yX4_at wsX4_at) := goodIn_app (goodIn_of _ (by decide +kernel)) ggX7_cornerCount_X4_at
theorem dX7_cornerCount_0 : decode cX7_cornerCount 0 = .ok (.aload_n 0, 1) := by decide +kernel
theorem dX7_cornerCount_1 : decode cX7_cornerCount 1 = .ok (.getfield 11, 3) := by decide +kernel
theorem dX7_cornerCount_4 : decode cX7_cornerCount 4 = .ok (.iload_n 1, 1) := by decide +kernel
theorem dX7_cornerCount_5 : decode cX7_cornerCount 5 = .ok (.invokestatic 35, 3) := by decide +kernel
theorem dX7_cornerCount_8 : decode cX7_cornerCount 8 = .ok (.lookupswitch 32 #[(2, 30), (3, 28)], 28) := by decide +kernel
theorem dX7_cornerCount_36 : decode cX7_cornerCount 36 = .ok (.iconst 1, 1) := by decide +kernel
theorem dX7_cornerCount_37 : decode cX7_cornerCount 37 = .ok (.ireturn, 1) := by decide +kernel
theorem dX7_cornerCount_38 : decode cX7_cornerCount 38 = .ok (.iconst 3, 1) := by decide +kernel
theorem dX7_cornerCount_39 : decode cX7_cornerCount 39 = .ok (.ireturn, 1) := by decide +kernel
theorem dX7_cornerCount_40 : decode cX7_cornerCount 40 = .ok (.iconst 4, 1) := by decide +kernel
theorem dX7_cornerCount_41 : decode cX7_cornerCount 41 = .ok (.ireturn, 1) := by decide +kernel
set_option maxRecDepth 20000 in
theorem ggX7_cornerX_X4_at : GoodIn wsX7_cornerX wsX4_at := goodIn_r _ [5] (by decide +kernel) (by decide +kernel)
set_option maxRecDepth 20000 in
theorem gX7_cornerX_X4_at : GoodIn wsX7_cornerX (va_wsS RX7 35 yX4_at wsX4_at) := goodIn_app (goodIn_of _ (by decide +kernel)) ggX7_cornerX_X4_at
theorem dX7_cornerX_0 : decode cX7_cornerX 0 = .ok (.aload_n 0, 1) := by decide +kernel
theorem dX7_cornerX_1 : decode cX7_cornerX 1 = .ok (.getfield 15, 3) := by decide +kernel
theorem dX7_cornerX_4 : decode cX7_cornerX 4 = .ok (.iconst 4, 1) := by decide +kernel
theorem dX7_cornerX_5 : decode cX7_cornerX 5 = .ok (.iload_n 1, 1) := by decide +kernel
theorem dX7_cornerX_6 : decode cX7_cornerX 6 = .ok (.imul, 1) := by decide +kernel
theorem dX7_cornerX_7 : decode cX7_cornerX 7 = .ok (.iload_n 2, 1) := by decide +kernel
theorem dX7_cornerX_8 : decode cX7_cornerX 8 = .ok (.iadd, 1) := by decide +kernel
theorem dX7_cornerX_9 : decode cX7_cornerX 9 = .ok (.invokestatic 35, 3) := by decide +kernel
theorem dX7_cornerX_12 : decode cX7_cornerX 12 = .ok (.ireturn, 1) := by decide +kernel
set_option maxRecDepth 20000 in
theorem ggX7_cornerY_X4_at : GoodIn wsX7_cornerY wsX4_at := goodIn_r _ [5] (by decide +kernel) (by decide +kernel)
set_option maxRecDepth 20000 in
theorem gX7_cornerY_X4_at : GoodIn wsX7_cornerY (va_wsS RX7 35 yX4_at wsX4_at) := goodIn_app (goodIn_of _ (by decide +kernel)) ggX7_cornerY_X4_at
theorem dX7_cornerY_0 : decode cX7_cornerY 0 = .ok (.aload_n 0, 1) := by decide +kernel
theorem dX7_cornerY_1 : decode cX7_cornerY 1 = .ok (.getfield 18, 3) := by decide +kernel
theorem dX7_cornerY_4 : decode cX7_cornerY 4 = .ok (.iconst 4, 1) := by decide +kernel
theorem dX7_cornerY_5 : decode cX7_cornerY 5 = .ok (.iload_n 1, 1) := by decide +kernel
theorem dX7_cornerY_6 : decode cX7_cornerY 6 = .ok (.imul, 1) := by decide +kernel
theorem dX7_cornerY_7 : decode cX7_cornerY 7 = .ok (.iload_n 2, 1) := by decide +kernel
theorem dX7_cornerY_8 : decode cX7_cornerY 8 = .ok (.iadd, 1) := by decide +kernel
theorem dX7_cornerY_9 : decode cX7_cornerY 9 = .ok (.invokestatic 35, 3) := by decide +kernel
theorem dX7_cornerY_12 : decode cX7_cornerY 12 = .ok (.ireturn, 1) := by decide +kernel
set_option maxRecDepth 20000 in
theorem ggX7_doubleArea_X7_cornerCount : GoodIn wsX7_doubleArea wsX7_cornerCount := goodIn_r _ [9, 10, 11, 12, 13, 14, 25, 26, 27, 28, 29, 30] (by decide +kernel) (by decide +kernel)
set_option maxRecDepth 20000 in
theorem gX7_doubleArea_X7_cornerCount : GoodIn wsX7_doubleArea (wsV RX7 41 RX7 yX7_cornerCount wsX7_cornerCount) := goodIn_app (goodIn_of _ (by decide +kernel)) ggX7_doubleArea_X7_cornerCount
set_option maxRecDepth 20000 in
theorem ggX7_doubleArea_X7_cornerX : GoodIn wsX7_doubleArea wsX7_cornerX := goodIn_r _ [18, 19, 11, 12, 13, 14, 25, 26, 27, 28, 29, 30] (by decide +kernel) (by decide +kernel)
set_option maxRecDepth 20000 in
theorem gX7_doubleArea_X7_cornerX : GoodIn wsX7_doubleArea (wsV RX7 44 RX7 yX7_cornerX wsX7_cornerX) := goodIn_app (goodIn_of _ (by decide +kernel)) ggX7_doubleArea_X7_cornerX
set_option maxRecDepth 20000 in
theorem ggX7_doubleArea_X7_cornerY : GoodIn wsX7_doubleArea wsX7_cornerY := goodIn_r _ [23, 24, 11, 12, 13, 14, 25, 26, 27, 28, 29, 30] (by decide +kernel) (by decide +kernel)
set_option maxRecDepth 20000 in
theorem gX7_doubleArea_X7_cornerY : GoodIn wsX7_doubleArea (wsV RX7 47 RX7 yX7_cornerY wsX7_cornerY) := goodIn_app (goodIn_of _ (by decide +kernel)) ggX7_doubleArea_X7_cornerY
theorem dX7_doubleArea_0 : decode cX7_doubleArea 0 = .ok (.lconst 0, 1) := by decide +kernel
theorem dX7_doubleArea_1 : decode cX7_doubleArea 1 = .ok (.lstore_n 2, 1) := by decide +kernel
theorem dX7_doubleArea_2 : decode cX7_doubleArea 2 = .ok (.aload_n 0, 1) := by decide +kernel
theorem dX7_doubleArea_3 : decode cX7_doubleArea 3 = .ok (.iload_n 1, 1) := by decide +kernel
theorem dX7_doubleArea_4 : decode cX7_doubleArea 4 = .ok (.invokevirtual 41, 3) := by decide +kernel
theorem dX7_doubleArea_7 : decode cX7_doubleArea 7 = .ok (.istore 4, 2) := by decide +kernel
theorem dX7_doubleArea_9 : decode cX7_doubleArea 9 = .ok (.iconst 0, 1) := by decide +kernel
theorem dX7_doubleArea_10 : decode cX7_doubleArea 10 = .ok (.istore 5, 2) := by decide +kernel
theorem dX7_doubleArea_12 : decode cX7_doubleArea 12 = .ok (.iload 5, 2) := by decide +kernel
theorem dX7_doubleArea_14 : decode cX7_doubleArea 14 = .ok (.iload 4, 2) := by decide +kernel
theorem dX7_doubleArea_16 : decode cX7_doubleArea 16 = .ok (.if_icmp .ge 68, 3) := by decide +kernel
theorem dX7_doubleArea_19 : decode cX7_doubleArea 19 = .ok (.iload 5, 2) := by decide +kernel
theorem dX7_doubleArea_21 : decode cX7_doubleArea 21 = .ok (.iconst 1, 1) := by decide +kernel
theorem dX7_doubleArea_22 : decode cX7_doubleArea 22 = .ok (.iadd, 1) := by decide +kernel
theorem dX7_doubleArea_23 : decode cX7_doubleArea 23 = .ok (.iload 4, 2) := by decide +kernel
theorem dX7_doubleArea_25 : decode cX7_doubleArea 25 = .ok (.if_icmp .ge 10, 3) := by decide +kernel
theorem dX7_doubleArea_28 : decode cX7_doubleArea 28 = .ok (.iload 5, 2) := by decide +kernel
theorem dX7_doubleArea_30 : decode cX7_doubleArea 30 = .ok (.iconst 1, 1) := by decide +kernel
theorem dX7_doubleArea_31 : decode cX7_doubleArea 31 = .ok (.iadd, 1) := by decide +kernel
theorem dX7_doubleArea_32 : decode cX7_doubleArea 32 = .ok (.goto 4, 3) := by decide +kernel
theorem dX7_doubleArea_35 : decode cX7_doubleArea 35 = .ok (.iconst 0, 1) := by decide +kernel
theorem dX7_doubleArea_36 : decode cX7_doubleArea 36 = .ok (.istore 6, 2) := by decide +kernel
theorem dX7_doubleArea_38 : decode cX7_doubleArea 38 = .ok (.lload_n 2, 1) := by decide +kernel
theorem dX7_doubleArea_39 : decode cX7_doubleArea 39 = .ok (.aload_n 0, 1) := by decide +kernel
theorem dX7_doubleArea_40 : decode cX7_doubleArea 40 = .ok (.iload_n 1, 1) := by decide +kernel
theorem dX7_doubleArea_41 : decode cX7_doubleArea 41 = .ok (.iload 5, 2) := by decide +kernel
theorem dX7_doubleArea_43 : decode cX7_doubleArea 43 = .ok (.invokevirtual 44, 3) := by decide +kernel
theorem dX7_doubleArea_46 : decode cX7_doubleArea 46 = .ok (.i2l, 1) := by decide +kernel
theorem dX7_doubleArea_47 : decode cX7_doubleArea 47 = .ok (.aload_n 0, 1) := by decide +kernel
theorem dX7_doubleArea_48 : decode cX7_doubleArea 48 = .ok (.iload_n 1, 1) := by decide +kernel
theorem dX7_doubleArea_49 : decode cX7_doubleArea 49 = .ok (.iload 6, 2) := by decide +kernel
theorem dX7_doubleArea_51 : decode cX7_doubleArea 51 = .ok (.invokevirtual 47, 3) := by decide +kernel
theorem dX7_doubleArea_54 : decode cX7_doubleArea 54 = .ok (.i2l, 1) := by decide +kernel
theorem dX7_doubleArea_55 : decode cX7_doubleArea 55 = .ok (.lmul, 1) := by decide +kernel
theorem dX7_doubleArea_56 : decode cX7_doubleArea 56 = .ok (.ladd, 1) := by decide +kernel
theorem dX7_doubleArea_57 : decode cX7_doubleArea 57 = .ok (.lstore_n 2, 1) := by decide +kernel
theorem dX7_doubleArea_58 : decode cX7_doubleArea 58 = .ok (.lload_n 2, 1) := by decide +kernel
theorem dX7_doubleArea_59 : decode cX7_doubleArea 59 = .ok (.aload_n 0, 1) := by decide +kernel
theorem dX7_doubleArea_60 : decode cX7_doubleArea 60 = .ok (.iload_n 1, 1) := by decide +kernel
theorem dX7_doubleArea_61 : decode cX7_doubleArea 61 = .ok (.iload 6, 2) := by decide +kernel
theorem dX7_doubleArea_63 : decode cX7_doubleArea 63 = .ok (.invokevirtual 44, 3) := by decide +kernel
theorem dX7_doubleArea_66 : decode cX7_doubleArea 66 = .ok (.i2l, 1) := by decide +kernel
theorem dX7_doubleArea_67 : decode cX7_doubleArea 67 = .ok (.aload_n 0, 1) := by decide +kernel
theorem dX7_doubleArea_68 : decode cX7_doubleArea 68 = .ok (.iload_n 1, 1) := by decide +kernel
theorem dX7_doubleArea_69 : decode cX7_doubleArea 69 = .ok (.iload 5, 2) := by decide +kernel
theorem dX7_doubleArea_71 : decode cX7_doubleArea 71 = .ok (.invokevirtual 47, 3) := by decide +kernel
theorem dX7_doubleArea_74 : decode cX7_doubleArea 74 = .ok (.i2l, 1) := by decide +kernel
theorem dX7_doubleArea_75 : decode cX7_doubleArea 75 = .ok (.lmul, 1) := by decide +kernel
theorem dX7_doubleArea_76 : decode cX7_doubleArea 76 = .ok (.lsub, 1) := by decide +kernel
theorem dX7_doubleArea_77 : decode cX7_doubleArea 77 = .ok (.lstore_n 2, 1) := by decide +kernel
theorem dX7_doubleArea_78 : decode cX7_doubleArea 78 = .ok (.iinc 5 1, 3) := by decide +kernel
theorem dX7_doubleArea_81 : decode cX7_doubleArea 81 = .ok (.goto (-69), 3) := by decide +kernel
theorem dX7_doubleArea_84 : decode cX7_doubleArea 84 = .ok (.lload_n 2, 1) := by decide +kernel
theorem dX7_doubleArea_85 : decode cX7_doubleArea 85 = .ok (.invokestatic 49, 3) := by decide +kernel
theorem dX7_doubleArea_88 : decode cX7_doubleArea 88 = .ok (.lreturn, 1) := by decide +kernel
set_option maxRecDepth 20000 in
theorem ggX7_edgeOf_X7_cornerCount : GoodIn wsX7_edgeOf wsX7_cornerCount := goodIn_r _ [6, 7, 8, 9, 10, 11, 26, 27, 28, 29, 30, 31] (by decide +kernel) (by decide +kernel)
set_option maxRecDepth 20000 in
theorem gX7_edgeOf_X7_cornerCount : GoodIn wsX7_edgeOf (wsV RX7 41 RX7 yX7_cornerCount wsX7_cornerCount) := goodIn_app (goodIn_of _ (by decide +kernel)) ggX7_edgeOf_X7_cornerCount
set_option maxRecDepth 20000 in
theorem ggX7_edgeOf_X7_cornerY : GoodIn wsX7_edgeOf wsX7_cornerY := goodIn_r _ [15, 16, 8, 9, 10, 11, 26, 27, 28, 29, 30, 31] (by decide +kernel) (by decide +kernel)
set_option maxRecDepth 20000 in
theorem gX7_edgeOf_X7_cornerY : GoodIn wsX7_edgeOf (wsV RX7 47 RX7 yX7_cornerY wsX7_cornerY) := goodIn_app (goodIn_of _ (by decide +kernel)) ggX7_edgeOf_X7_cornerY
set_option maxRecDepth 20000 in
theorem ggX7_edgeOf_X7_cornerX : GoodIn wsX7_edgeOf wsX7_cornerX := goodIn_r _ [20, 21, 8, 9, 10, 11, 26, 27, 28, 29, 30, 31] (by decide +kernel) (by decide +kernel)
set_option maxRecDepth 20000 in
theorem gX7_edgeOf_X7_cornerX : GoodIn wsX7_edgeOf (wsV RX7 44 RX7 yX7_cornerX wsX7_cornerX) := goodIn_app (goodIn_of _ (by decide +kernel)) ggX7_edgeOf_X7_cornerX
set_option maxRecDepth 20000 in
theorem ggX7_edgeOf_X7_kindOf : GoodIn wsX7_edgeOf wsX7_kindOf := goodIn_r _ [25, 7, 8, 9, 10, 11, 26, 27, 28, 29, 30, 31] (by decide +kernel) (by decide +kernel)
set_option maxRecDepth 20000 in
theorem gX7_edgeOf_X7_kindOf : GoodIn wsX7_edgeOf (wsV RX7 31 RX7 yX7_kindOf wsX7_kindOf) := goodIn_app (goodIn_of _ (by decide +kernel)) ggX7_edgeOf_X7_kindOf
theorem dX7_edgeOf_0 : decode cX7_edgeOf 0 = .ok (.iload_n 2, 1) := by decide +kernel
theorem dX7_edgeOf_1 : decode cX7_edgeOf 1 = .ok (.iconst 1, 1) := by decide +kernel
theorem dX7_edgeOf_2 : decode cX7_edgeOf 2 = .ok (.iand, 1) := by decide +kernel
theorem dX7_edgeOf_3 : decode cX7_edgeOf 3 = .ok (.iconst 1, 1) := by decide +kernel
theorem dX7_edgeOf_4 : decode cX7_edgeOf 4 = .ok (.if_icmp .ne 7, 3) := by decide +kernel
theorem dX7_edgeOf_7 : decode cX7_edgeOf 7 = .ok (.iconst 1, 1) := by decide +kernel
theorem dX7_edgeOf_8 : decode cX7_edgeOf 8 = .ok (.goto 4, 3) := by decide +kernel
theorem dX7_edgeOf_11 : decode cX7_edgeOf 11 = .ok (.iconst 0, 1) := by decide +kernel
theorem dX7_edgeOf_12 : decode cX7_edgeOf 12 = .ok (.istore_n 3, 1) := by decide +kernel
theorem dX7_edgeOf_13 : decode cX7_edgeOf 13 = .ok (.iconst 0, 1) := by decide +kernel
theorem dX7_edgeOf_14 : decode cX7_edgeOf 14 = .ok (.istore 4, 2) := by decide +kernel
theorem dX7_edgeOf_16 : decode cX7_edgeOf 16 = .ok (.iconst 0, 1) := by decide +kernel
theorem dX7_edgeOf_17 : decode cX7_edgeOf 17 = .ok (.istore 5, 2) := by decide +kernel
theorem dX7_edgeOf_19 : decode cX7_edgeOf 19 = .ok (.iload 5, 2) := by decide +kernel
theorem dX7_edgeOf_21 : decode cX7_edgeOf 21 = .ok (.aload_n 0, 1) := by decide +kernel
theorem dX7_edgeOf_22 : decode cX7_edgeOf 22 = .ok (.iload_n 1, 1) := by decide +kernel
theorem dX7_edgeOf_23 : decode cX7_edgeOf 23 = .ok (.invokevirtual 41, 3) := by decide +kernel
theorem dX7_edgeOf_26 : decode cX7_edgeOf 26 = .ok (.if_icmp .ge 63, 3) := by decide +kernel
theorem dX7_edgeOf_29 : decode cX7_edgeOf 29 = .ok (.iload_n 2, 1) := by decide +kernel
theorem dX7_edgeOf_30 : decode cX7_edgeOf 30 = .ok (.iconst 2, 1) := by decide +kernel
theorem dX7_edgeOf_31 : decode cX7_edgeOf 31 = .ok (.if_icmp .lt 13, 3) := by decide +kernel
theorem dX7_edgeOf_34 : decode cX7_edgeOf 34 = .ok (.aload_n 0, 1) := by decide +kernel
theorem dX7_edgeOf_35 : decode cX7_edgeOf 35 = .ok (.iload_n 1, 1) := by decide +kernel
theorem dX7_edgeOf_36 : decode cX7_edgeOf 36 = .ok (.iload 5, 2) := by decide +kernel
theorem dX7_edgeOf_38 : decode cX7_edgeOf 38 = .ok (.invokevirtual 47, 3) := by decide +kernel
theorem dX7_edgeOf_41 : decode cX7_edgeOf 41 = .ok (.goto 10, 3) := by decide +kernel
theorem dX7_edgeOf_44 : decode cX7_edgeOf 44 = .ok (.aload_n 0, 1) := by decide +kernel
theorem dX7_edgeOf_45 : decode cX7_edgeOf 45 = .ok (.iload_n 1, 1) := by decide +kernel
theorem dX7_edgeOf_46 : decode cX7_edgeOf 46 = .ok (.iload 5, 2) := by decide +kernel
theorem dX7_edgeOf_48 : decode cX7_edgeOf 48 = .ok (.invokevirtual 44, 3) := by decide +kernel
theorem dX7_edgeOf_51 : decode cX7_edgeOf 51 = .ok (.istore 6, 2) := by decide +kernel
theorem dX7_edgeOf_53 : decode cX7_edgeOf 53 = .ok (.iload 5, 2) := by decide +kernel
theorem dX7_edgeOf_55 : decode cX7_edgeOf 55 = .ok (.ifCond .eq 24, 3) := by decide +kernel
theorem dX7_edgeOf_58 : decode cX7_edgeOf 58 = .ok (.iload_n 3, 1) := by decide +kernel
theorem dX7_edgeOf_59 : decode cX7_edgeOf 59 = .ok (.ifCond .eq 13, 3) := by decide +kernel
theorem dX7_edgeOf_62 : decode cX7_edgeOf 62 = .ok (.iload 6, 2) := by decide +kernel
theorem dX7_edgeOf_64 : decode cX7_edgeOf 64 = .ok (.iload 4, 2) := by decide +kernel
theorem dX7_edgeOf_66 : decode cX7_edgeOf 66 = .ok (.if_icmp .le 17, 3) := by decide +kernel
theorem dX7_edgeOf_69 : decode cX7_edgeOf 69 = .ok (.goto 10, 3) := by decide +kernel
theorem dX7_edgeOf_72 : decode cX7_edgeOf 72 = .ok (.iload 6, 2) := by decide +kernel
theorem dX7_edgeOf_74 : decode cX7_edgeOf 74 = .ok (.iload 4, 2) := by decide +kernel
theorem dX7_edgeOf_76 : decode cX7_edgeOf 76 = .ok (.if_icmp .ge 7, 3) := by decide +kernel
theorem dX7_edgeOf_79 : decode cX7_edgeOf 79 = .ok (.iload 6, 2) := by decide +kernel
theorem dX7_edgeOf_81 : decode cX7_edgeOf 81 = .ok (.istore 4, 2) := by decide +kernel
theorem dX7_edgeOf_83 : decode cX7_edgeOf 83 = .ok (.iinc 5 1, 3) := by decide +kernel
theorem dX7_edgeOf_86 : decode cX7_edgeOf 86 = .ok (.goto (-67), 3) := by decide +kernel
theorem dX7_edgeOf_89 : decode cX7_edgeOf 89 = .ok (.aload_n 0, 1) := by decide +kernel
theorem dX7_edgeOf_90 : decode cX7_edgeOf 90 = .ok (.iload_n 1, 1) := by decide +kernel
theorem dX7_edgeOf_91 : decode cX7_edgeOf 91 = .ok (.invokevirtual 31, 3) := by decide +kernel
theorem dX7_edgeOf_94 : decode cX7_edgeOf 94 = .ok (.iconst 3, 1) := by decide +kernel
theorem dX7_edgeOf_95 : decode cX7_edgeOf 95 = .ok (.if_icmp .ne 10, 3) := by decide +kernel
theorem dX7_edgeOf_98 : decode cX7_edgeOf 98 = .ok (.aload_n 0, 1) := by decide +kernel
theorem dX7_edgeOf_99 : decode cX7_edgeOf 99 = .ok (.getfield 25, 3) := by decide +kernel
theorem dX7_edgeOf_102 : decode cX7_edgeOf 102 = .ok (.goto 4, 3) := by decide +kernel
theorem dX7_edgeOf_105 : decode cX7_edgeOf 105 = .ok (.iconst 0, 1) := by decide +kernel
theorem dX7_edgeOf_106 : decode cX7_edgeOf 106 = .ok (.istore 5, 2) := by decide +kernel
theorem dX7_edgeOf_108 : decode cX7_edgeOf 108 = .ok (.iload_n 3, 1) := by decide +kernel
theorem dX7_edgeOf_109 : decode cX7_edgeOf 109 = .ok (.ifCond .eq 11, 3) := by decide +kernel
theorem dX7_edgeOf_112 : decode cX7_edgeOf 112 = .ok (.iload 4, 2) := by decide +kernel
theorem dX7_edgeOf_114 : decode cX7_edgeOf 114 = .ok (.iload 5, 2) := by decide +kernel
theorem dX7_edgeOf_116 : decode cX7_edgeOf 116 = .ok (.iadd, 1) := by decide +kernel
theorem dX7_edgeOf_117 : decode cX7_edgeOf 117 = .ok (.goto 8, 3) := by decide +kernel
theorem dX7_edgeOf_120 : decode cX7_edgeOf 120 = .ok (.iload 4, 2) := by decide +kernel
theorem dX7_edgeOf_122 : decode cX7_edgeOf 122 = .ok (.iload 5, 2) := by decide +kernel
theorem dX7_edgeOf_124 : decode cX7_edgeOf 124 = .ok (.isub, 1) := by decide +kernel
theorem dX7_edgeOf_125 : decode cX7_edgeOf 125 = .ok (.ireturn, 1) := by decide +kernel
set_option maxRecDepth 20000 in
theorem ggX7_edgeOfAll_X7_edgeOf : GoodIn wsX7_edgeOfAll wsX7_edgeOf := goodIn_r _ [13, 14, 15, 16, 17, 12, 18, 19, 20, 21, 22, 23, 24, 25, 26, 27, 28, 29, 30, 31, 32, 33, 34, 35, 36, 37, 38, 39, 40, 41, 42, 43] (by decide +kernel) (by decide +kernel)
set_option maxRecDepth 20000 in
theorem gX7_edgeOfAll_X7_edgeOf : GoodIn wsX7_edgeOfAll (wsV RX7 55 RX7 yX7_edgeOf wsX7_edgeOf) := goodIn_app (goodIn_of _ (by decide +kernel)) ggX7_edgeOfAll_X7_edgeOf
theorem dX7_edgeOfAll_0 : decode cX7_edgeOfAll 0 = .ok (.iload_n 1, 1) := by decide +kernel
theorem dX7_edgeOfAll_1 : decode cX7_edgeOfAll 1 = .ok (.iconst 1, 1) := by decide +kernel
theorem dX7_edgeOfAll_2 : decode cX7_edgeOfAll 2 = .ok (.iand, 1) := by decide +kernel
theorem dX7_edgeOfAll_3 : decode cX7_edgeOfAll 3 = .ok (.iconst 1, 1) := by decide +kernel
theorem dX7_edgeOfAll_4 : decode cX7_edgeOfAll 4 = .ok (.if_icmp .ne 7, 3) := by decide +kernel
theorem dX7_edgeOfAll_7 : decode cX7_edgeOfAll 7 = .ok (.iconst 1, 1) := by decide +kernel
theorem dX7_edgeOfAll_8 : decode cX7_edgeOfAll 8 = .ok (.goto 4, 3) := by decide +kernel
theorem dX7_edgeOfAll_11 : decode cX7_edgeOfAll 11 = .ok (.iconst 0, 1) := by decide +kernel
theorem dX7_edgeOfAll_12 : decode cX7_edgeOfAll 12 = .ok (.istore_n 2, 1) := by decide +kernel
theorem dX7_edgeOfAll_13 : decode cX7_edgeOfAll 13 = .ok (.aload_n 0, 1) := by decide +kernel
theorem dX7_edgeOfAll_14 : decode cX7_edgeOfAll 14 = .ok (.iconst 0, 1) := by decide +kernel
theorem dX7_edgeOfAll_15 : decode cX7_edgeOfAll 15 = .ok (.iload_n 1, 1) := by decide +kernel
theorem dX7_edgeOfAll_16 : decode cX7_edgeOfAll 16 = .ok (.invokevirtual 55, 3) := by decide +kernel
theorem dX7_edgeOfAll_19 : decode cX7_edgeOfAll 19 = .ok (.istore_n 3, 1) := by decide +kernel
theorem dX7_edgeOfAll_20 : decode cX7_edgeOfAll 20 = .ok (.iconst 1, 1) := by decide +kernel
theorem dX7_edgeOfAll_21 : decode cX7_edgeOfAll 21 = .ok (.istore 4, 2) := by decide +kernel
theorem dX7_edgeOfAll_23 : decode cX7_edgeOfAll 23 = .ok (.iload 4, 2) := by decide +kernel
theorem dX7_edgeOfAll_25 : decode cX7_edgeOfAll 25 = .ok (.aload_n 0, 1) := by decide +kernel
theorem dX7_edgeOfAll_26 : decode cX7_edgeOfAll 26 = .ok (.getfield 21, 3) := by decide +kernel
theorem dX7_edgeOfAll_29 : decode cX7_edgeOfAll 29 = .ok (.if_icmp .ge 38, 3) := by decide +kernel
theorem dX7_edgeOfAll_32 : decode cX7_edgeOfAll 32 = .ok (.aload_n 0, 1) := by decide +kernel
theorem dX7_edgeOfAll_33 : decode cX7_edgeOfAll 33 = .ok (.iload 4, 2) := by decide +kernel
theorem dX7_edgeOfAll_35 : decode cX7_edgeOfAll 35 = .ok (.iload_n 1, 1) := by decide +kernel
theorem dX7_edgeOfAll_36 : decode cX7_edgeOfAll 36 = .ok (.invokevirtual 55, 3) := by decide +kernel
theorem dX7_edgeOfAll_39 : decode cX7_edgeOfAll 39 = .ok (.istore 5, 2) := by decide +kernel
theorem dX7_edgeOfAll_41 : decode cX7_edgeOfAll 41 = .ok (.iload_n 2, 1) := by decide +kernel
theorem dX7_edgeOfAll_42 : decode cX7_edgeOfAll 42 = .ok (.ifCond .eq 12, 3) := by decide +kernel
theorem dX7_edgeOfAll_45 : decode cX7_edgeOfAll 45 = .ok (.iload_n 3, 1) := by decide +kernel
theorem dX7_edgeOfAll_46 : decode cX7_edgeOfAll 46 = .ok (.iload 5, 2) := by decide +kernel
theorem dX7_edgeOfAll_48 : decode cX7_edgeOfAll 48 = .ok (.invokestatic 58, 3) := by decide +kernel
theorem dX7_edgeOfAll_51 : decode cX7_edgeOfAll 51 = .ok (.goto 9, 3) := by decide +kernel
theorem dX7_edgeOfAll_54 : decode cX7_edgeOfAll 54 = .ok (.iload_n 3, 1) := by decide +kernel
theorem dX7_edgeOfAll_55 : decode cX7_edgeOfAll 55 = .ok (.iload 5, 2) := by decide +kernel
theorem dX7_edgeOfAll_57 : decode cX7_edgeOfAll 57 = .ok (.invokestatic 61, 3) := by decide +kernel
theorem dX7_edgeOfAll_60 : decode cX7_edgeOfAll 60 = .ok (.istore_n 3, 1) := by decide +kernel
theorem dX7_edgeOfAll_61 : decode cX7_edgeOfAll 61 = .ok (.iinc 4 1, 3) := by decide +kernel
theorem dX7_edgeOfAll_64 : decode cX7_edgeOfAll 64 = .ok (.goto (-41), 3) := by decide +kernel
theorem dX7_edgeOfAll_67 : decode cX7_edgeOfAll 67 = .ok (.iload_n 3, 1) := by decide +kernel
theorem dX7_edgeOfAll_68 : decode cX7_edgeOfAll 68 = .ok (.ireturn, 1) := by decide +kernel
set_option maxRecDepth 20000 in
theorem ggX7_countAround_X7_covers : GoodIn wsX7_countAround wsX7_covers := goodIn_r _ [6, 7, 8, 9, 10, 5, 11, 12, 13, 14, 15, 16, 17, 18, 19, 20, 21, 22, 23, 24, 25, 26, 27, 28, 29, 30, 31, 32, 33, 34, 35, 36, 37, 38, 39, 40, 41, 42, 43, 44, 45, 46, 47, 48] (by decide +kernel) (by decide +kernel)
set_option maxRecDepth 20000 in
theorem gX7_countAround_X7_covers : GoodIn wsX7_countAround (wsV RX7 64 RX7 yX7_covers wsX7_covers) := goodIn_app (goodIn_of _ (by decide +kernel)) ggX7_countAround_X7_covers
theorem dX7_countAround_0 : decode cX7_countAround 0 = .ok (.iconst 0, 1) := by decide +kernel
theorem dX7_countAround_1 : decode cX7_countAround 1 = .ok (.istore_n 3, 1) := by decide +kernel
theorem dX7_countAround_2 : decode cX7_countAround 2 = .ok (.iconst 0, 1) := by decide +kernel
theorem dX7_countAround_3 : decode cX7_countAround 3 = .ok (.istore 4, 2) := by decide +kernel
theorem dX7_countAround_5 : decode cX7_countAround 5 = .ok (.iload 4, 2) := by decide +kernel
theorem dX7_countAround_7 : decode cX7_countAround 7 = .ok (.aload_n 0, 1) := by decide +kernel
theorem dX7_countAround_8 : decode cX7_countAround 8 = .ok (.getfield 21, 3) := by decide +kernel
theorem dX7_countAround_11 : decode cX7_countAround 11 = .ok (.if_icmp .ge 23, 3) := by decide +kernel
theorem dX7_countAround_14 : decode cX7_countAround 14 = .ok (.aload_n 0, 1) := by decide +kernel
theorem dX7_countAround_15 : decode cX7_countAround 15 = .ok (.iload 4, 2) := by decide +kernel
theorem dX7_countAround_17 : decode cX7_countAround 17 = .ok (.iload_n 1, 1) := by decide +kernel
theorem dX7_countAround_18 : decode cX7_countAround 18 = .ok (.iload_n 2, 1) := by decide +kernel
theorem dX7_countAround_19 : decode cX7_countAround 19 = .ok (.invokevirtual 64, 3) := by decide +kernel
theorem dX7_countAround_22 : decode cX7_countAround 22 = .ok (.ifCond .eq 6, 3) := by decide +kernel
theorem dX7_countAround_25 : decode cX7_countAround 25 = .ok (.iinc 3 1, 3) := by decide +kernel
theorem dX7_countAround_28 : decode cX7_countAround 28 = .ok (.iinc 4 1, 3) := by decide +kernel
theorem dX7_countAround_31 : decode cX7_countAround 31 = .ok (.goto (-26), 3) := by decide +kernel
theorem dX7_countAround_34 : decode cX7_countAround 34 = .ok (.iload_n 3, 1) := by decide +kernel
theorem dX7_countAround_35 : decode cX7_countAround 35 = .ok (.ireturn, 1) := by decide +kernel
set_option maxRecDepth 20000 in
theorem ggX7_covers_X7_kindOf : GoodIn wsX7_covers wsX7_kindOf := goodIn_r _ [6, 7, 8, 9, 10, 11, 38, 39, 40, 41, 42, 43] (by decide +kernel) (by decide +kernel)
set_option maxRecDepth 20000 in
theorem gX7_covers_X7_kindOf : GoodIn wsX7_covers (wsV RX7 31 RX7 yX7_kindOf wsX7_kindOf) := goodIn_app (goodIn_of _ (by decide +kernel)) ggX7_covers_X7_kindOf
set_option maxRecDepth 20000 in
theorem ggX7_covers_X7_cornerX : GoodIn wsX7_covers wsX7_cornerX := goodIn_r _ [15, 16, 8, 9, 10, 11, 38, 39, 40, 41, 42, 43] (by decide +kernel) (by decide +kernel)
set_option maxRecDepth 20000 in
theorem gX7_covers_X7_cornerX : GoodIn wsX7_covers (wsV RX7 44 RX7 yX7_cornerX wsX7_cornerX) := goodIn_app (goodIn_of _ (by decide +kernel)) ggX7_covers_X7_cornerX
set_option maxRecDepth 20000 in
theorem ggX7_covers_X7_cornerY : GoodIn wsX7_covers wsX7_cornerY := goodIn_r _ [20, 21, 8, 9, 10, 11, 38, 39, 40, 41, 42, 43] (by decide +kernel) (by decide +kernel)
set_option maxRecDepth 20000 in
theorem gX7_covers_X7_cornerY : GoodIn wsX7_covers (wsV RX7 47 RX7 yX7_cornerY wsX7_cornerY) := goodIn_app (goodIn_of _ (by decide +kernel)) ggX7_covers_X7_cornerY
set_option maxRecDepth 20000 in
theorem ggX7_covers_X7_isOnOneSide : GoodIn wsX7_covers wsX7_isOnOneSide := goodIn_r _ [25, 26, 27, 28, 5, 29, 7, 8, 9, 10, 11, 12, 13, 14, 15, 16, 17, 18, 19, 20, 21, 38, 39, 40, 41, 42, 43] (by decide +kernel) (by decide +kernel)
set_option maxRecDepth 20000 in
theorem gX7_covers_X7_isOnOneSide : GoodIn wsX7_covers (wsV RX7 68 RX7 yX7_isOnOneSide wsX7_isOnOneSide) := goodIn_app (goodIn_of _ (by decide +kernel)) ggX7_covers_X7_isOnOneSide
set_option maxRecDepth 20000 in
theorem ggX7_covers_X7_isInBox : GoodIn wsX7_covers wsX7_isInBox := goodIn_r _ [33, 34, 35, 36, 5, 37, 1, 26, 27, 28, 29, 7, 8, 9, 10, 11, 17, 18, 19, 20, 21, 12, 13, 14, 15, 16, 2, 3, 4, 6, 38, 39, 40, 41, 42, 43] (by decide +kernel) (by decide +kernel)
set_option maxRecDepth 20000 in
theorem gX7_covers_X7_isInBox : GoodIn wsX7_covers (wsV RX7 71 RX7 yX7_isInBox wsX7_isInBox) := goodIn_app (goodIn_of _ (by decide +kernel)) ggX7_covers_X7_isInBox
theorem dX7_covers_0 : decode cX7_covers 0 = .ok (.aload_n 0, 1) := by decide +kernel
theorem dX7_covers_1 : decode cX7_covers 1 = .ok (.iload_n 1, 1) := by decide +kernel
theorem dX7_covers_2 : decode cX7_covers 2 = .ok (.invokevirtual 31, 3) := by decide +kernel
theorem dX7_covers_5 : decode cX7_covers 5 = .ok (.iconst 3, 1) := by decide +kernel
theorem dX7_covers_6 : decode cX7_covers 6 = .ok (.if_icmp .ne 57, 3) := by decide +kernel
theorem dX7_covers_9 : decode cX7_covers 9 = .ok (.iload_n 2, 1) := by decide +kernel
theorem dX7_covers_10 : decode cX7_covers 10 = .ok (.aload_n 0, 1) := by decide +kernel
theorem dX7_covers_11 : decode cX7_covers 11 = .ok (.iload_n 1, 1) := by decide +kernel
theorem dX7_covers_12 : decode cX7_covers 12 = .ok (.iconst 0, 1) := by decide +kernel
theorem dX7_covers_13 : decode cX7_covers 13 = .ok (.invokevirtual 44, 3) := by decide +kernel
theorem dX7_covers_16 : decode cX7_covers 16 = .ok (.isub, 1) := by decide +kernel
theorem dX7_covers_17 : decode cX7_covers 17 = .ok (.i2l, 1) := by decide +kernel
theorem dX7_covers_18 : decode cX7_covers 18 = .ok (.lstore 4, 2) := by decide +kernel
theorem dX7_covers_20 : decode cX7_covers 20 = .ok (.iload_n 3, 1) := by decide +kernel
theorem dX7_covers_21 : decode cX7_covers 21 = .ok (.aload_n 0, 1) := by decide +kernel
theorem dX7_covers_22 : decode cX7_covers 22 = .ok (.iload_n 1, 1) := by decide +kernel
theorem dX7_covers_23 : decode cX7_covers 23 = .ok (.iconst 0, 1) := by decide +kernel
theorem dX7_covers_24 : decode cX7_covers 24 = .ok (.invokevirtual 47, 3) := by decide +kernel
theorem dX7_covers_27 : decode cX7_covers 27 = .ok (.isub, 1) := by decide +kernel
theorem dX7_covers_28 : decode cX7_covers 28 = .ok (.i2l, 1) := by decide +kernel
theorem dX7_covers_29 : decode cX7_covers 29 = .ok (.lstore 6, 2) := by decide +kernel
theorem dX7_covers_31 : decode cX7_covers 31 = .ok (.lload 4, 2) := by decide +kernel
theorem dX7_covers_33 : decode cX7_covers 33 = .ok (.lload 4, 2) := by decide +kernel
theorem dX7_covers_35 : decode cX7_covers 35 = .ok (.lmul, 1) := by decide +kernel
theorem dX7_covers_36 : decode cX7_covers 36 = .ok (.lload 6, 2) := by decide +kernel
theorem dX7_covers_38 : decode cX7_covers 38 = .ok (.lload 6, 2) := by decide +kernel
theorem dX7_covers_40 : decode cX7_covers 40 = .ok (.lmul, 1) := by decide +kernel
theorem dX7_covers_41 : decode cX7_covers 41 = .ok (.ladd, 1) := by decide +kernel
theorem dX7_covers_42 : decode cX7_covers 42 = .ok (.aload_n 0, 1) := by decide +kernel
theorem dX7_covers_43 : decode cX7_covers 43 = .ok (.getfield 25, 3) := by decide +kernel
theorem dX7_covers_46 : decode cX7_covers 46 = .ok (.i2l, 1) := by decide +kernel
theorem dX7_covers_47 : decode cX7_covers 47 = .ok (.aload_n 0, 1) := by decide +kernel
theorem dX7_covers_48 : decode cX7_covers 48 = .ok (.getfield 25, 3) := by decide +kernel
theorem dX7_covers_51 : decode cX7_covers 51 = .ok (.i2l, 1) := by decide +kernel
theorem dX7_covers_52 : decode cX7_covers 52 = .ok (.lmul, 1) := by decide +kernel
theorem dX7_covers_53 : decode cX7_covers 53 = .ok (.lcmp, 1) := by decide +kernel
theorem dX7_covers_54 : decode cX7_covers 54 = .ok (.ifCond .gt 7, 3) := by decide +kernel
theorem dX7_covers_57 : decode cX7_covers 57 = .ok (.iconst 1, 1) := by decide +kernel
theorem dX7_covers_58 : decode cX7_covers 58 = .ok (.goto 4, 3) := by decide +kernel
theorem dX7_covers_61 : decode cX7_covers 61 = .ok (.iconst 0, 1) := by decide +kernel
theorem dX7_covers_62 : decode cX7_covers 62 = .ok (.ireturn, 1) := by decide +kernel
theorem dX7_covers_63 : decode cX7_covers 63 = .ok (.aload_n 0, 1) := by decide +kernel
theorem dX7_covers_64 : decode cX7_covers 64 = .ok (.iload_n 1, 1) := by decide +kernel
theorem dX7_covers_65 : decode cX7_covers 65 = .ok (.iload_n 2, 1) := by decide +kernel
theorem dX7_covers_66 : decode cX7_covers 66 = .ok (.iload_n 3, 1) := by decide +kernel
theorem dX7_covers_67 : decode cX7_covers 67 = .ok (.invokevirtual 68, 3) := by decide +kernel
theorem dX7_covers_70 : decode cX7_covers 70 = .ok (.ifCond .eq 17, 3) := by decide +kernel
theorem dX7_covers_73 : decode cX7_covers 73 = .ok (.aload_n 0, 1) := by decide +kernel
theorem dX7_covers_74 : decode cX7_covers 74 = .ok (.iload_n 1, 1) := by decide +kernel
theorem dX7_covers_75 : decode cX7_covers 75 = .ok (.iload_n 2, 1) := by decide +kernel
theorem dX7_covers_76 : decode cX7_covers 76 = .ok (.iload_n 3, 1) := by decide +kernel
theorem dX7_covers_77 : decode cX7_covers 77 = .ok (.invokevirtual 71, 3) := by decide +kernel
theorem dX7_covers_80 : decode cX7_covers 80 = .ok (.ifCond .eq 7, 3) := by decide +kernel
theorem dX7_covers_83 : decode cX7_covers 83 = .ok (.iconst 1, 1) := by decide +kernel
theorem dX7_covers_84 : decode cX7_covers 84 = .ok (.goto 4, 3) := by decide +kernel
theorem dX7_covers_87 : decode cX7_covers 87 = .ok (.iconst 0, 1) := by decide +kernel
theorem dX7_covers_88 : decode cX7_covers 88 = .ok (.ireturn, 1) := by decide +kernel
set_option maxRecDepth 20000 in
theorem ggX7_isInBox_X7_edgeOf : GoodIn wsX7_isInBox wsX7_edgeOf := goodIn_r _ [5, 6, 7, 8, 9, 4, 10, 11, 12, 13, 14, 15, 16, 17, 18, 19, 20, 21, 22, 23, 24, 25, 26, 27, 28, 29, 30, 31, 32, 33, 34, 35] (by decide +kernel) (by decide +kernel)
set_option maxRecDepth 20000 in
theorem gX7_isInBox_X7_edgeOf : GoodIn wsX7_isInBox (wsV RX7 55 RX7 yX7_edgeOf wsX7_edgeOf) := goodIn_app (goodIn_of _ (by decide +kernel)) ggX7_isInBox_X7_edgeOf
theorem dX7_isInBox_0 : decode cX7_isInBox 0 = .ok (.iload_n 2, 1) := by decide +kernel
theorem dX7_isInBox_1 : decode cX7_isInBox 1 = .ok (.aload_n 0, 1) := by decide +kernel
theorem dX7_isInBox_2 : decode cX7_isInBox 2 = .ok (.iload_n 1, 1) := by decide +kernel
theorem dX7_isInBox_3 : decode cX7_isInBox 3 = .ok (.iconst 0, 1) := by decide +kernel
theorem dX7_isInBox_4 : decode cX7_isInBox 4 = .ok (.invokevirtual 55, 3) := by decide +kernel
theorem dX7_isInBox_7 : decode cX7_isInBox 7 = .ok (.if_icmp .lt 37, 3) := by decide +kernel
theorem dX7_isInBox_10 : decode cX7_isInBox 10 = .ok (.iload_n 2, 1) := by decide +kernel
theorem dX7_isInBox_11 : decode cX7_isInBox 11 = .ok (.aload_n 0, 1) := by decide +kernel
theorem dX7_isInBox_12 : decode cX7_isInBox 12 = .ok (.iload_n 1, 1) := by decide +kernel
theorem dX7_isInBox_13 : decode cX7_isInBox 13 = .ok (.iconst 1, 1) := by decide +kernel
theorem dX7_isInBox_14 : decode cX7_isInBox 14 = .ok (.invokevirtual 55, 3) := by decide +kernel
theorem dX7_isInBox_17 : decode cX7_isInBox 17 = .ok (.if_icmp .gt 27, 3) := by decide +kernel
theorem dX7_isInBox_20 : decode cX7_isInBox 20 = .ok (.iload_n 3, 1) := by decide +kernel
theorem dX7_isInBox_21 : decode cX7_isInBox 21 = .ok (.aload_n 0, 1) := by decide +kernel
theorem dX7_isInBox_22 : decode cX7_isInBox 22 = .ok (.iload_n 1, 1) := by decide +kernel
theorem dX7_isInBox_23 : decode cX7_isInBox 23 = .ok (.iconst 2, 1) := by decide +kernel
theorem dX7_isInBox_24 : decode cX7_isInBox 24 = .ok (.invokevirtual 55, 3) := by decide +kernel
theorem dX7_isInBox_27 : decode cX7_isInBox 27 = .ok (.if_icmp .lt 17, 3) := by decide +kernel
theorem dX7_isInBox_30 : decode cX7_isInBox 30 = .ok (.iload_n 3, 1) := by decide +kernel
theorem dX7_isInBox_31 : decode cX7_isInBox 31 = .ok (.aload_n 0, 1) := by decide +kernel
theorem dX7_isInBox_32 : decode cX7_isInBox 32 = .ok (.iload_n 1, 1) := by decide +kernel
theorem dX7_isInBox_33 : decode cX7_isInBox 33 = .ok (.iconst 3, 1) := by decide +kernel
theorem dX7_isInBox_34 : decode cX7_isInBox 34 = .ok (.invokevirtual 55, 3) := by decide +kernel
theorem dX7_isInBox_37 : decode cX7_isInBox 37 = .ok (.if_icmp .gt 7, 3) := by decide +kernel
theorem dX7_isInBox_40 : decode cX7_isInBox 40 = .ok (.iconst 1, 1) := by decide +kernel
theorem dX7_isInBox_41 : decode cX7_isInBox 41 = .ok (.goto 4, 3) := by decide +kernel
theorem dX7_isInBox_44 : decode cX7_isInBox 44 = .ok (.iconst 0, 1) := by decide +kernel
theorem dX7_isInBox_45 : decode cX7_isInBox 45 = .ok (.ireturn, 1) := by decide +kernel
set_option maxRecDepth 20000 in
theorem ggX7_isOnOneSide_X7_cornerCount : GoodIn wsX7_isOnOneSide wsX7_cornerCount := goodIn_r _ [5, 6, 7, 8, 9, 10, 21, 22, 23, 24, 25, 26] (by decide +kernel) (by decide +kernel)
set_option maxRecDepth 20000 in
theorem gX7_isOnOneSide_X7_cornerCount : GoodIn wsX7_isOnOneSide (wsV RX7 41 RX7 yX7_cornerCount wsX7_cornerCount) := goodIn_app (goodIn_of _ (by decide +kernel)) ggX7_isOnOneSide_X7_cornerCount
set_option maxRecDepth 20000 in
theorem ggX7_isOnOneSide_X7_cornerX : GoodIn wsX7_isOnOneSide wsX7_cornerX := goodIn_r _ [14, 15, 7, 8, 9, 10, 21, 22, 23, 24, 25, 26] (by decide +kernel) (by decide +kernel)
set_option maxRecDepth 20000 in
theorem gX7_isOnOneSide_X7_cornerX : GoodIn wsX7_isOnOneSide (wsV RX7 44 RX7 yX7_cornerX wsX7_cornerX) := goodIn_app (goodIn_of _ (by decide +kernel)) ggX7_isOnOneSide_X7_cornerX
set_option maxRecDepth 20000 in
theorem ggX7_isOnOneSide_X7_cornerY : GoodIn wsX7_isOnOneSide wsX7_cornerY := goodIn_r _ [19, 20, 7, 8, 9, 10, 21, 22, 23, 24, 25, 26] (by decide +kernel) (by decide +kernel)
set_option maxRecDepth 20000 in
theorem gX7_isOnOneSide_X7_cornerY : GoodIn wsX7_isOnOneSide (wsV RX7 47 RX7 yX7_cornerY wsX7_cornerY) := goodIn_app (goodIn_of _ (by decide +kernel)) ggX7_isOnOneSide_X7_cornerY
theorem dX7_isOnOneSide_0 : decode cX7_isOnOneSide 0 = .ok (.iconst 0, 1) := by decide +kernel
theorem dX7_isOnOneSide_1 : decode cX7_isOnOneSide 1 = .ok (.istore 4, 2) := by decide +kernel
theorem dX7_isOnOneSide_3 : decode cX7_isOnOneSide 3 = .ok (.iconst 0, 1) := by decide +kernel
theorem dX7_isOnOneSide_4 : decode cX7_isOnOneSide 4 = .ok (.istore 5, 2) := by decide +kernel
theorem dX7_isOnOneSide_6 : decode cX7_isOnOneSide 6 = .ok (.aload_n 0, 1) := by decide +kernel
theorem dX7_isOnOneSide_7 : decode cX7_isOnOneSide 7 = .ok (.iload_n 1, 1) := by decide +kernel
theorem dX7_isOnOneSide_8 : decode cX7_isOnOneSide 8 = .ok (.invokevirtual 41, 3) := by decide +kernel
theorem dX7_isOnOneSide_11 : decode cX7_isOnOneSide 11 = .ok (.istore 6, 2) := by decide +kernel
theorem dX7_isOnOneSide_13 : decode cX7_isOnOneSide 13 = .ok (.iconst 0, 1) := by decide +kernel
theorem dX7_isOnOneSide_14 : decode cX7_isOnOneSide 14 = .ok (.istore 7, 2) := by decide +kernel
theorem dX7_isOnOneSide_16 : decode cX7_isOnOneSide 16 = .ok (.iload 7, 2) := by decide +kernel
theorem dX7_isOnOneSide_18 : decode cX7_isOnOneSide 18 = .ok (.iload 6, 2) := by decide +kernel
theorem dX7_isOnOneSide_20 : decode cX7_isOnOneSide 20 = .ok (.if_icmp .ge 143, 3) := by decide +kernel
theorem dX7_isOnOneSide_23 : decode cX7_isOnOneSide 23 = .ok (.iload 7, 2) := by decide +kernel
theorem dX7_isOnOneSide_25 : decode cX7_isOnOneSide 25 = .ok (.iconst 1, 1) := by decide +kernel
theorem dX7_isOnOneSide_26 : decode cX7_isOnOneSide 26 = .ok (.iadd, 1) := by decide +kernel
theorem dX7_isOnOneSide_27 : decode cX7_isOnOneSide 27 = .ok (.iload 6, 2) := by decide +kernel
theorem dX7_isOnOneSide_29 : decode cX7_isOnOneSide 29 = .ok (.if_icmp .ge 10, 3) := by decide +kernel
theorem dX7_isOnOneSide_32 : decode cX7_isOnOneSide 32 = .ok (.iload 7, 2) := by decide +kernel
theorem dX7_isOnOneSide_34 : decode cX7_isOnOneSide 34 = .ok (.iconst 1, 1) := by decide +kernel
theorem dX7_isOnOneSide_35 : decode cX7_isOnOneSide 35 = .ok (.iadd, 1) := by decide +kernel
theorem dX7_isOnOneSide_36 : decode cX7_isOnOneSide 36 = .ok (.goto 4, 3) := by decide +kernel
theorem dX7_isOnOneSide_39 : decode cX7_isOnOneSide 39 = .ok (.iconst 0, 1) := by decide +kernel
theorem dX7_isOnOneSide_40 : decode cX7_isOnOneSide 40 = .ok (.istore 8, 2) := by decide +kernel
theorem dX7_isOnOneSide_42 : decode cX7_isOnOneSide 42 = .ok (.aload_n 0, 1) := by decide +kernel
theorem dX7_isOnOneSide_43 : decode cX7_isOnOneSide 43 = .ok (.iload_n 1, 1) := by decide +kernel
theorem dX7_isOnOneSide_44 : decode cX7_isOnOneSide 44 = .ok (.iload 8, 2) := by decide +kernel
theorem dX7_isOnOneSide_46 : decode cX7_isOnOneSide 46 = .ok (.invokevirtual 44, 3) := by decide +kernel
theorem dX7_isOnOneSide_49 : decode cX7_isOnOneSide 49 = .ok (.aload_n 0, 1) := by decide +kernel
theorem dX7_isOnOneSide_50 : decode cX7_isOnOneSide 50 = .ok (.iload_n 1, 1) := by decide +kernel
theorem dX7_isOnOneSide_51 : decode cX7_isOnOneSide 51 = .ok (.iload 7, 2) := by decide +kernel
theorem dX7_isOnOneSide_53 : decode cX7_isOnOneSide 53 = .ok (.invokevirtual 44, 3) := by decide +kernel
theorem dX7_isOnOneSide_56 : decode cX7_isOnOneSide 56 = .ok (.isub, 1) := by decide +kernel
theorem dX7_isOnOneSide_57 : decode cX7_isOnOneSide 57 = .ok (.i2l, 1) := by decide +kernel
theorem dX7_isOnOneSide_58 : decode cX7_isOnOneSide 58 = .ok (.lstore 9, 2) := by decide +kernel
theorem dX7_isOnOneSide_60 : decode cX7_isOnOneSide 60 = .ok (.aload_n 0, 1) := by decide +kernel
theorem dX7_isOnOneSide_61 : decode cX7_isOnOneSide 61 = .ok (.iload_n 1, 1) := by decide +kernel
theorem dX7_isOnOneSide_62 : decode cX7_isOnOneSide 62 = .ok (.iload 8, 2) := by decide +kernel
theorem dX7_isOnOneSide_64 : decode cX7_isOnOneSide 64 = .ok (.invokevirtual 47, 3) := by decide +kernel
theorem dX7_isOnOneSide_67 : decode cX7_isOnOneSide 67 = .ok (.aload_n 0, 1) := by decide +kernel
theorem dX7_isOnOneSide_68 : decode cX7_isOnOneSide 68 = .ok (.iload_n 1, 1) := by decide +kernel
theorem dX7_isOnOneSide_69 : decode cX7_isOnOneSide 69 = .ok (.iload 7, 2) := by decide +kernel
theorem dX7_isOnOneSide_71 : decode cX7_isOnOneSide 71 = .ok (.invokevirtual 47, 3) := by decide +kernel
theorem dX7_isOnOneSide_74 : decode cX7_isOnOneSide 74 = .ok (.isub, 1) := by decide +kernel
theorem dX7_isOnOneSide_75 : decode cX7_isOnOneSide 75 = .ok (.i2l, 1) := by decide +kernel
theorem dX7_isOnOneSide_76 : decode cX7_isOnOneSide 76 = .ok (.lstore 11, 2) := by decide +kernel
theorem dX7_isOnOneSide_78 : decode cX7_isOnOneSide 78 = .ok (.lload 9, 2) := by decide +kernel
theorem dX7_isOnOneSide_80 : decode cX7_isOnOneSide 80 = .ok (.iload_n 3, 1) := by decide +kernel
theorem dX7_isOnOneSide_81 : decode cX7_isOnOneSide 81 = .ok (.aload_n 0, 1) := by decide +kernel
theorem dX7_isOnOneSide_82 : decode cX7_isOnOneSide 82 = .ok (.iload_n 1, 1) := by decide +kernel
theorem dX7_isOnOneSide_83 : decode cX7_isOnOneSide 83 = .ok (.iload 7, 2) := by decide +kernel
theorem dX7_isOnOneSide_85 : decode cX7_isOnOneSide 85 = .ok (.invokevirtual 47, 3) := by decide +kernel
theorem dX7_isOnOneSide_88 : decode cX7_isOnOneSide 88 = .ok (.isub, 1) := by decide +kernel
theorem dX7_isOnOneSide_89 : decode cX7_isOnOneSide 89 = .ok (.i2l, 1) := by decide +kernel
theorem dX7_isOnOneSide_90 : decode cX7_isOnOneSide 90 = .ok (.lmul, 1) := by decide +kernel
theorem dX7_isOnOneSide_91 : decode cX7_isOnOneSide 91 = .ok (.lload 11, 2) := by decide +kernel
theorem dX7_isOnOneSide_93 : decode cX7_isOnOneSide 93 = .ok (.iload_n 2, 1) := by decide +kernel
theorem dX7_isOnOneSide_94 : decode cX7_isOnOneSide 94 = .ok (.aload_n 0, 1) := by decide +kernel
theorem dX7_isOnOneSide_95 : decode cX7_isOnOneSide 95 = .ok (.iload_n 1, 1) := by decide +kernel
theorem dX7_isOnOneSide_96 : decode cX7_isOnOneSide 96 = .ok (.iload 7, 2) := by decide +kernel
theorem dX7_isOnOneSide_98 : decode cX7_isOnOneSide 98 = .ok (.invokevirtual 44, 3) := by decide +kernel
theorem dX7_isOnOneSide_101 : decode cX7_isOnOneSide 101 = .ok (.isub, 1) := by decide +kernel
theorem dX7_isOnOneSide_102 : decode cX7_isOnOneSide 102 = .ok (.i2l, 1) := by decide +kernel
theorem dX7_isOnOneSide_103 : decode cX7_isOnOneSide 103 = .ok (.lmul, 1) := by decide +kernel
theorem dX7_isOnOneSide_104 : decode cX7_isOnOneSide 104 = .ok (.lsub, 1) := by decide +kernel
theorem dX7_isOnOneSide_105 : decode cX7_isOnOneSide 105 = .ok (.lstore 13, 2) := by decide +kernel
theorem dX7_isOnOneSide_107 : decode cX7_isOnOneSide 107 = .ok (.iload 4, 2) := by decide +kernel
theorem dX7_isOnOneSide_109 : decode cX7_isOnOneSide 109 = .ok (.ifCond .ne 10, 3) := by decide +kernel
theorem dX7_isOnOneSide_112 : decode cX7_isOnOneSide 112 = .ok (.lload 13, 2) := by decide +kernel
theorem dX7_isOnOneSide_114 : decode cX7_isOnOneSide 114 = .ok (.lconst 0, 1) := by decide +kernel
theorem dX7_isOnOneSide_115 : decode cX7_isOnOneSide 115 = .ok (.lcmp, 1) := by decide +kernel
theorem dX7_isOnOneSide_116 : decode cX7_isOnOneSide 116 = .ok (.ifCond .le 7, 3) := by decide +kernel
theorem dX7_isOnOneSide_119 : decode cX7_isOnOneSide 119 = .ok (.iconst 1, 1) := by decide +kernel
theorem dX7_isOnOneSide_120 : decode cX7_isOnOneSide 120 = .ok (.goto 4, 3) := by decide +kernel
theorem dX7_isOnOneSide_123 : decode cX7_isOnOneSide 123 = .ok (.iconst 0, 1) := by decide +kernel
theorem dX7_isOnOneSide_124 : decode cX7_isOnOneSide 124 = .ok (.istore 4, 2) := by decide +kernel
theorem dX7_isOnOneSide_126 : decode cX7_isOnOneSide 126 = .ok (.iload 5, 2) := by decide +kernel
theorem dX7_isOnOneSide_128 : decode cX7_isOnOneSide 128 = .ok (.ifCond .ne 10, 3) := by decide +kernel
theorem dX7_isOnOneSide_131 : decode cX7_isOnOneSide 131 = .ok (.lload 13, 2) := by decide +kernel
theorem dX7_isOnOneSide_133 : decode cX7_isOnOneSide 133 = .ok (.lconst 0, 1) := by decide +kernel
theorem dX7_isOnOneSide_134 : decode cX7_isOnOneSide 134 = .ok (.lcmp, 1) := by decide +kernel
theorem dX7_isOnOneSide_135 : decode cX7_isOnOneSide 135 = .ok (.ifCond .ge 7, 3) := by decide +kernel
theorem dX7_isOnOneSide_138 : decode cX7_isOnOneSide 138 = .ok (.iconst 1, 1) := by decide +kernel
theorem dX7_isOnOneSide_139 : decode cX7_isOnOneSide 139 = .ok (.goto 4, 3) := by decide +kernel
theorem dX7_isOnOneSide_142 : decode cX7_isOnOneSide 142 = .ok (.iconst 0, 1) := by decide +kernel
theorem dX7_isOnOneSide_143 : decode cX7_isOnOneSide 143 = .ok (.istore 5, 2) := by decide +kernel
theorem dX7_isOnOneSide_145 : decode cX7_isOnOneSide 145 = .ok (.iload 4, 2) := by decide +kernel
theorem dX7_isOnOneSide_147 : decode cX7_isOnOneSide 147 = .ok (.ifCond .eq 10, 3) := by decide +kernel
theorem dX7_isOnOneSide_150 : decode cX7_isOnOneSide 150 = .ok (.iload 5, 2) := by decide +kernel
theorem dX7_isOnOneSide_152 : decode cX7_isOnOneSide 152 = .ok (.ifCond .eq 5, 3) := by decide +kernel
theorem dX7_isOnOneSide_155 : decode cX7_isOnOneSide 155 = .ok (.iconst 0, 1) := by decide +kernel
theorem dX7_isOnOneSide_156 : decode cX7_isOnOneSide 156 = .ok (.ireturn, 1) := by decide +kernel
theorem dX7_isOnOneSide_157 : decode cX7_isOnOneSide 157 = .ok (.iinc 7 1, 3) := by decide +kernel
theorem dX7_isOnOneSide_160 : decode cX7_isOnOneSide 160 = .ok (.goto (-144), 3) := by decide +kernel
theorem dX7_isOnOneSide_163 : decode cX7_isOnOneSide 163 = .ok (.iconst 1, 1) := by decide +kernel
theorem dX7_isOnOneSide_164 : decode cX7_isOnOneSide 164 = .ok (.ireturn, 1) := by decide +kernel
set_option maxRecDepth 20000 in
theorem ggX8_init_X0_init : GoodIn wsX8_init wsX0_init := goodIn_r _ [19, 20, 2, 3, 8, 21, 22, 23, 24, 25, 26] (by decide +kernel) (by decide +kernel)
set_option maxRecDepth 20000 in
theorem gX8_init_X0_init_n11 : GoodIn wsX8_init (wsX0_init) := ggX8_init_X0_init
theorem dX8_init_0 : decode cX8_init 0 = .ok (.aload_n 0, 1) := by decide +kernel
theorem dX8_init_1 : decode cX8_init 1 = .ok (.invokespecial 3, 3) := by decide +kernel
theorem dX8_init_4 : decode cX8_init 4 = .ok (.aload_n 0, 1) := by decide +kernel
theorem dX8_init_5 : decode cX8_init 5 = .ok (.new 9, 3) := by decide +kernel
theorem dX8_init_8 : decode cX8_init 8 = .ok (.dup, 1) := by decide +kernel
theorem dX8_init_9 : decode cX8_init 9 = .ok (.invokespecial 11, 3) := by decide +kernel
theorem dX8_init_12 : decode cX8_init 12 = .ok (.putfield 12, 3) := by decide +kernel
theorem dX8_init_15 : decode cX8_init 15 = .ok (.aload_n 0, 1) := by decide +kernel
theorem dX8_init_16 : decode cX8_init 16 = .ok (.iconst 5, 1) := by decide +kernel
theorem dX8_init_17 : decode cX8_init 17 = .ok (.newarray .int, 2) := by decide +kernel
theorem dX8_init_19 : decode cX8_init 19 = .ok (.putfield 18, 3) := by decide +kernel
theorem dX8_init_22 : decode cX8_init 22 = .ok (.aload_n 0, 1) := by decide +kernel
theorem dX8_init_23 : decode cX8_init 23 = .ok (.sipush 928, 3) := by decide +kernel
theorem dX8_init_26 : decode cX8_init 26 = .ok (.newarray .int, 2) := by decide +kernel
theorem dX8_init_28 : decode cX8_init 28 = .ok (.putfield 22, 3) := by decide +kernel
theorem dX8_init_31 : decode cX8_init 31 = .ok (.aload_n 0, 1) := by decide +kernel
theorem dX8_init_32 : decode cX8_init 32 = .ok (.sipush 928, 3) := by decide +kernel
theorem dX8_init_35 : decode cX8_init 35 = .ok (.newarray .int, 2) := by decide +kernel
theorem dX8_init_37 : decode cX8_init 37 = .ok (.putfield 25, 3) := by decide +kernel
theorem dX8_init_40 : decode cX8_init 40 = .ok (.aload_n 0, 1) := by decide +kernel
theorem dX8_init_41 : decode cX8_init 41 = .ok (.sipush 928, 3) := by decide +kernel
theorem dX8_init_44 : decode cX8_init 44 = .ok (.newarray .int, 2) := by decide +kernel
theorem dX8_init_46 : decode cX8_init 46 = .ok (.putfield 28, 3) := by decide +kernel
theorem dX8_init_49 : decode cX8_init 49 = .ok (.aload_n 0, 1) := by decide +kernel
theorem dX8_init_50 : decode cX8_init 50 = .ok (.sipush 928, 3) := by decide +kernel
theorem dX8_init_53 : decode cX8_init 53 = .ok (.newarray .int, 2) := by decide +kernel
theorem dX8_init_55 : decode cX8_init 55 = .ok (.putfield 31, 3) := by decide +kernel
theorem dX8_init_58 : decode cX8_init 58 = .ok (.aload_n 0, 1) := by decide +kernel
theorem dX8_init_59 : decode cX8_init 59 = .ok (.sipush 928, 3) := by decide +kernel
theorem dX8_init_62 : decode cX8_init 62 = .ok (.newarray .int, 2) := by decide +kernel
theorem dX8_init_64 : decode cX8_init 64 = .ok (.putfield 34, 3) := by decide +kernel
theorem dX8_init_67 : decode cX8_init 67 = .ok (.aload_n 0, 1) := by decide +kernel
theorem dX8_init_68 : decode cX8_init 68 = .ok (.sipush 1024, 3) := by decide +kernel
theorem dX8_init_71 : decode cX8_init 71 = .ok (.newarray .int, 2) := by decide +kernel
theorem dX8_init_73 : decode cX8_init 73 = .ok (.putfield 37, 3) := by decide +kernel
theorem dX8_init_76 : decode cX8_init 76 = .ok (.aload_n 0, 1) := by decide +kernel
theorem dX8_init_77 : decode cX8_init 77 = .ok (.sipush 1024, 3) := by decide +kernel
theorem dX8_init_80 : decode cX8_init 80 = .ok (.newarray .int, 2) := by decide +kernel
theorem dX8_init_82 : decode cX8_init 82 = .ok (.putfield 40, 3) := by decide +kernel
theorem dX8_init_85 : decode cX8_init 85 = .ok (.aload_n 0, 1) := by decide +kernel
theorem dX8_init_86 : decode cX8_init 86 = .ok (.sipush 1024, 3) := by decide +kernel
theorem dX8_init_89 : decode cX8_init 89 = .ok (.newarray .int, 2) := by decide +kernel
theorem dX8_init_91 : decode cX8_init 91 = .ok (.putfield 43, 3) := by decide +kernel
theorem dX8_init_94 : decode cX8_init 94 = .ok (.return_, 1) := by decide +kernel
set_option maxRecDepth 20000 in
theorem ggX8_walk_X0_take : GoodIn wsX8_walk wsX0_take := goodIn_r _ [9, 10, 11, 12, 13, 14, 15, 16, 17, 18, 19, 20, 21, 22, 141, 142, 143, 144, 145, 146] (by decide +kernel) (by decide +kernel)
set_option maxRecDepth 20000 in
theorem gX8_walk_X0_take : GoodIn wsX8_walk (wsV RX8 53 RX0 yX0_take wsX0_take) := goodIn_app (goodIn_of _ (by decide +kernel)) ggX8_walk_X0_take
set_option maxRecDepth 20000 in
theorem ggX8_walk_X1_cell : GoodIn wsX8_walk wsX1_cell := goodIn_r _ [21, 22, 146] (by decide +kernel) (by decide +kernel)
set_option maxRecDepth 20000 in
theorem gX8_walk_X1_cell : GoodIn wsX8_walk (wsV RX8 59 RX1 yX1_cell wsX1_cell) := goodIn_app (goodIn_of _ (by decide +kernel)) ggX8_walk_X1_cell
set_option maxRecDepth 20000 in
theorem ggX8_walk_X0_goToPhase : GoodIn wsX8_walk wsX0_goToPhase := goodIn_r _ [27, 16, 28, 29, 30, 31, 32, 8, 33, 14, 15, 34, 141, 142, 143, 144, 145] (by decide +kernel) (by decide +kernel)
set_option maxRecDepth 20000 in
theorem gX8_walk_X0_goToPhase : GoodIn wsX8_walk (wsV RX8 63 RX0 yX0_goToPhase wsX0_goToPhase) := goodIn_app (goodIn_of _ (by decide +kernel)) ggX8_walk_X0_goToPhase
set_option maxRecDepth 20000 in
theorem ggX8_walk_X8_walkSubpath : GoodIn wsX8_walk wsX8_walkSubpath := goodIn_r _ [39, 3, 40, 11, 12, 13, 41, 42, 43, 44, 45, 46, 47, 48, 49, 50, 51, 52, 53, 54, 55, 56, 57, 58, 59, 60, 61, 62, 63, 64, 65, 8, 66, 29, 67, 68, 69, 70, 28, 71, 72, 73, 38, 74, 1, 75, 76, 77, 78, 2, 79, 80, 81, 82, 83, 84, 85, 86, 87, 88, 89, 90, 30, 31, 32, 33, 14, 15, 34, 129, 130, 131, 132, 133, 134, 135, 136, 137, 138, 139, 140, 147, 148, 149, 150, 151, 152, 153, 154, 155, 156, 157, 141, 142, 143, 144, 145] (by decide +kernel) (by decide +kernel)
set_option maxRecDepth 20000 in
theorem gX8_walk_X8_walkSubpath : GoodIn wsX8_walk (wsV RX8 66 RX8 yX8_walkSubpath wsX8_walkSubpath) := goodIn_app (goodIn_of _ (by decide +kernel)) ggX8_walk_X8_walkSubpath
set_option maxRecDepth 20000 in
theorem ggX8_walk_X1_isClosed : GoodIn wsX8_walk wsX1_isClosed := goodIn_r _ [94, 95, 18, 19, 20, 21, 22, 96, 97, 98, 146] (by decide +kernel) (by decide +kernel)
set_option maxRecDepth 20000 in
theorem gX8_walk_X1_isClosed : GoodIn wsX8_walk (wsV RX8 70 RX1 yX1_isClosed wsX1_isClosed) := goodIn_app (goodIn_of _ (by decide +kernel)) ggX8_walk_X1_isClosed
set_option maxRecDepth 20000 in
theorem ggX8_walk_X9_lengthOf : GoodIn wsX8_walk wsX9_lengthOf := goodIn_r _ [102, 103, 55, 56, 47, 57, 49, 50, 51, 52, 53, 104, 105, 106, 107, 62, 147, 148, 149, 150, 151, 152, 153, 154, 155, 156, 157] (by decide +kernel) (by decide +kernel)
set_option maxRecDepth 20000 in
theorem gX8_walk_X9_lengthOf : GoodIn wsX8_walk (wsV RX8 74 RX9 yX9_lengthOf wsX9_lengthOf) := goodIn_app (goodIn_of _ (by decide +kernel)) ggX8_walk_X9_lengthOf
set_option maxRecDepth 20000 in
theorem ggX8_walk_X8_joinEnds : GoodIn wsX8_walk wsX8_joinEnds := goodIn_r _ [111, 1, 75, 76, 77, 78, 79, 112, 113, 114, 38, 115, 4, 116, 51, 52, 53, 117, 118, 119, 120, 84, 121, 122, 123, 124, 85, 125, 126, 127, 128, 86, 80, 81, 82, 83, 2, 129, 130, 131, 132, 133, 134, 135, 136, 137, 138, 139, 140] (by decide +kernel) (by decide +kernel)
set_option maxRecDepth 20000 in
theorem gX8_walk_X8_joinEnds : GoodIn wsX8_walk (wsV RX8 79 RX8 yX8_joinEnds wsX8_joinEnds) := goodIn_app (goodIn_of _ (by decide +kernel)) ggX8_walk_X8_joinEnds
theorem dX8_walk_0 : decode cX8_walk 0 = .ok (.aload_n 0, 1) := by decide +kernel
theorem dX8_walk_1 : decode cX8_walk 1 = .ok (.iconst 0, 1) := by decide +kernel
theorem dX8_walk_2 : decode cX8_walk 2 = .ok (.putfield 46, 3) := by decide +kernel
theorem dX8_walk_5 : decode cX8_walk 5 = .ok (.aload_n 0, 1) := by decide +kernel
theorem dX8_walk_6 : decode cX8_walk 6 = .ok (.iconst 0, 1) := by decide +kernel
theorem dX8_walk_7 : decode cX8_walk 7 = .ok (.putfield 50, 3) := by decide +kernel
theorem dX8_walk_10 : decode cX8_walk 10 = .ok (.aload_n 0, 1) := by decide +kernel
theorem dX8_walk_11 : decode cX8_walk 11 = .ok (.getfield 12, 3) := by decide +kernel
theorem dX8_walk_14 : decode cX8_walk 14 = .ok (.aload_n 1, 1) := by decide +kernel
theorem dX8_walk_15 : decode cX8_walk 15 = .ok (.invokevirtual 53, 3) := by decide +kernel
theorem dX8_walk_18 : decode cX8_walk 18 = .ok (.iconst 0, 1) := by decide +kernel
theorem dX8_walk_19 : decode cX8_walk 19 = .ok (.istore_n 3, 1) := by decide +kernel
theorem dX8_walk_20 : decode cX8_walk 20 = .ok (.iload_n 3, 1) := by decide +kernel
theorem dX8_walk_21 : decode cX8_walk 21 = .ok (.iconst 4, 1) := by decide +kernel
theorem dX8_walk_22 : decode cX8_walk 22 = .ok (.if_icmp .ge 62, 3) := by decide +kernel
theorem dX8_walk_25 : decode cX8_walk 25 = .ok (.aload_n 0, 1) := by decide +kernel
theorem dX8_walk_26 : decode cX8_walk 26 = .ok (.getfield 18, 3) := by decide +kernel
theorem dX8_walk_29 : decode cX8_walk 29 = .ok (.iload_n 3, 1) := by decide +kernel
theorem dX8_walk_30 : decode cX8_walk 30 = .ok (.aload_n 0, 1) := by decide +kernel
theorem dX8_walk_31 : decode cX8_walk 31 = .ok (.getfield 46, 3) := by decide +kernel
theorem dX8_walk_34 : decode cX8_walk 34 = .ok (.iastore, 1) := by decide +kernel
theorem dX8_walk_35 : decode cX8_walk 35 = .ok (.iload_n 3, 1) := by decide +kernel
theorem dX8_walk_36 : decode cX8_walk 36 = .ok (.ifCond .eq 11, 3) := by decide +kernel
theorem dX8_walk_39 : decode cX8_walk 39 = .ok (.aload_n 1, 1) := by decide +kernel
theorem dX8_walk_40 : decode cX8_walk 40 = .ok (.iconst 5, 1) := by decide +kernel
theorem dX8_walk_41 : decode cX8_walk 41 = .ok (.invokevirtual 59, 3) := by decide +kernel
theorem dX8_walk_44 : decode cX8_walk 44 = .ok (.ifCond .ne 10, 3) := by decide +kernel
theorem dX8_walk_47 : decode cX8_walk 47 = .ok (.aload_n 0, 1) := by decide +kernel
theorem dX8_walk_48 : decode cX8_walk 48 = .ok (.getfield 12, 3) := by decide +kernel
theorem dX8_walk_51 : decode cX8_walk 51 = .ok (.invokevirtual 63, 3) := by decide +kernel
theorem dX8_walk_54 : decode cX8_walk 54 = .ok (.aload_n 0, 1) := by decide +kernel
theorem dX8_walk_55 : decode cX8_walk 55 = .ok (.aload_n 2, 1) := by decide +kernel
theorem dX8_walk_56 : decode cX8_walk 56 = .ok (.iload_n 3, 1) := by decide +kernel
theorem dX8_walk_57 : decode cX8_walk 57 = .ok (.invokevirtual 66, 3) := by decide +kernel
theorem dX8_walk_60 : decode cX8_walk 60 = .ok (.aload_n 1, 1) := by decide +kernel
theorem dX8_walk_61 : decode cX8_walk 61 = .ok (.iload_n 3, 1) := by decide +kernel
theorem dX8_walk_62 : decode cX8_walk 62 = .ok (.invokevirtual 70, 3) := by decide +kernel
theorem dX8_walk_65 : decode cX8_walk 65 = .ok (.ifCond .eq 13, 3) := by decide +kernel
theorem dX8_walk_68 : decode cX8_walk 68 = .ok (.aload_n 0, 1) := by decide +kernel
theorem dX8_walk_69 : decode cX8_walk 69 = .ok (.iload_n 3, 1) := by decide +kernel
theorem dX8_walk_70 : decode cX8_walk 70 = .ok (.aload_n 2, 1) := by decide +kernel
theorem dX8_walk_71 : decode cX8_walk 71 = .ok (.iload_n 3, 1) := by decide +kernel
theorem dX8_walk_72 : decode cX8_walk 72 = .ok (.invokevirtual 74, 3) := by decide +kernel
theorem dX8_walk_75 : decode cX8_walk 75 = .ok (.invokevirtual 79, 3) := by decide +kernel
theorem dX8_walk_78 : decode cX8_walk 78 = .ok (.iinc 3 1, 3) := by decide +kernel
theorem dX8_walk_81 : decode cX8_walk 81 = .ok (.goto (-61), 3) := by decide +kernel
theorem dX8_walk_84 : decode cX8_walk 84 = .ok (.aload_n 0, 1) := by decide +kernel
theorem dX8_walk_85 : decode cX8_walk 85 = .ok (.getfield 18, 3) := by decide +kernel
theorem dX8_walk_88 : decode cX8_walk 88 = .ok (.iconst 4, 1) := by decide +kernel
theorem dX8_walk_89 : decode cX8_walk 89 = .ok (.aload_n 0, 1) := by decide +kernel
theorem dX8_walk_90 : decode cX8_walk 90 = .ok (.getfield 46, 3) := by decide +kernel
theorem dX8_walk_93 : decode cX8_walk 93 = .ok (.iastore, 1) := by decide +kernel
theorem dX8_walk_94 : decode cX8_walk 94 = .ok (.return_, 1) := by decide +kernel
set_option maxRecDepth 20000 in
theorem ggX8_walkSubpath_X9_firstOf : GoodIn wsX8_walkSubpath wsX9_firstOf := goodIn_r _ [13, 14, 15, 16, 17, 18, 81, 82, 83, 84, 85, 86, 87, 88, 89, 90, 91] (by decide +kernel) (by decide +kernel)
set_option maxRecDepth 20000 in
theorem gX8_walkSubpath_X9_firstOf : GoodIn wsX8_walkSubpath (wsV RX8 83 RX9 yX9_firstOf wsX9_firstOf) := goodIn_app (goodIn_of _ (by decide +kernel)) ggX8_walkSubpath_X9_firstOf
set_option maxRecDepth 20000 in
theorem ggX8_walkSubpath_X9_endOf : GoodIn wsX8_walkSubpath wsX9_endOf := goodIn_r _ [22, 14, 15, 16, 17, 18, 81, 82, 83, 84, 85, 86, 87, 88, 89, 90, 91] (by decide +kernel) (by decide +kernel)
set_option maxRecDepth 20000 in
theorem gX8_walkSubpath_X9_endOf : GoodIn wsX8_walkSubpath (wsV RX8 86 RX9 yX9_endOf wsX9_endOf) := goodIn_app (goodIn_of _ (by decide +kernel)) ggX8_walkSubpath_X9_endOf
set_option maxRecDepth 20000 in
theorem ggX8_walkSubpath_X9_size : GoodIn wsX8_walkSubpath wsX9_size := goodIn_r _ [26, 27, 15, 16, 17, 18, 81, 82, 83, 84, 85, 86, 87, 88, 89, 90, 91] (by decide +kernel) (by decide +kernel)
set_option maxRecDepth 20000 in
theorem gX8_walkSubpath_X9_size : GoodIn wsX8_walkSubpath (wsV RX8 89 RX9 yX9_size wsX9_size) := goodIn_app (goodIn_of _ (by decide +kernel)) ggX8_walkSubpath_X9_size
set_option maxRecDepth 20000 in
theorem ggX8_walkSubpath_X0_ahead : GoodIn wsX8_walkSubpath wsX0_ahead := goodIn_r _ [32, 33, 92, 93, 94, 95, 96] (by decide +kernel) (by decide +kernel)
set_option maxRecDepth 20000 in
theorem gX8_walkSubpath_X0_ahead : GoodIn wsX8_walkSubpath (wsV RX8 92 RX0 yX0_ahead wsX0_ahead) := goodIn_app (goodIn_of _ (by decide +kernel)) ggX8_walkSubpath_X0_ahead
set_option maxRecDepth 20000 in
theorem ggX8_walkSubpath_X0_isOn : GoodIn wsX8_walkSubpath wsX0_isOn := goodIn_r _ [37, 38, 92, 93, 94, 95, 96] (by decide +kernel) (by decide +kernel)
set_option maxRecDepth 20000 in
theorem gX8_walkSubpath_X0_isOn : GoodIn wsX8_walkSubpath (wsV RX8 105 RX0 yX0_isOn wsX0_isOn) := goodIn_app (goodIn_of _ (by decide +kernel)) ggX8_walkSubpath_X0_isOn
set_option maxRecDepth 20000 in
theorem ggX8_walkSubpath_X8_addRun : GoodIn wsX8_walkSubpath wsX8_addRun := goodIn_r _ [43, 44, 45, 46, 47, 48, 49, 50, 69, 70, 71, 72, 73, 74, 75, 76, 77, 78, 79, 80] (by decide +kernel) (by decide +kernel)
set_option maxRecDepth 20000 in
theorem gX8_walkSubpath_X8_addRun : GoodIn wsX8_walkSubpath (wsV RX8 109 RX8 yX8_addRun wsX8_addRun) := goodIn_app (goodIn_of _ (by decide +kernel)) ggX8_walkSubpath_X8_addRun
set_option maxRecDepth 20000 in
theorem ggX8_walkSubpath_X8_addSpan : GoodIn wsX8_walkSubpath wsX8_addSpan := goodIn_r _ [54, 44, 49, 55, 56, 57, 46, 50, 69, 70, 71, 72, 73, 74, 75, 76, 77, 78, 79, 80] (by decide +kernel) (by decide +kernel)
set_option maxRecDepth 20000 in
theorem gX8_walkSubpath_X8_addSpan : GoodIn wsX8_walkSubpath (wsV RX8 113 RX8 yX8_addSpan wsX8_addSpan) := goodIn_app (goodIn_of _ (by decide +kernel)) ggX8_walkSubpath_X8_addSpan
set_option maxRecDepth 20000 in
theorem ggX8_walkSubpath_X0_pass : GoodIn wsX8_walkSubpath wsX0_pass := goodIn_r _ [61, 33, 38, 62, 63, 64, 31, 65, 66, 67, 68, 92, 93, 94, 95, 96] (by decide +kernel) (by decide +kernel)
set_option maxRecDepth 20000 in
theorem gX8_walkSubpath_X0_pass : GoodIn wsX8_walkSubpath (wsV RX8 117 RX0 yX0_pass wsX0_pass) := goodIn_app (goodIn_of _ (by decide +kernel)) ggX8_walkSubpath_X0_pass
theorem dX8_walkSubpath_0 : decode cX8_walkSubpath 0 = .ok (.iconst 0, 1) := by decide +kernel
theorem dX8_walkSubpath_1 : decode cX8_walkSubpath 1 = .ok (.istore_n 3, 1) := by decide +kernel
theorem dX8_walkSubpath_2 : decode cX8_walkSubpath 2 = .ok (.iconst 0, 1) := by decide +kernel
theorem dX8_walkSubpath_3 : decode cX8_walkSubpath 3 = .ok (.istore 4, 2) := by decide +kernel
theorem dX8_walkSubpath_5 : decode cX8_walkSubpath 5 = .ok (.aload_n 1, 1) := by decide +kernel
theorem dX8_walkSubpath_6 : decode cX8_walkSubpath 6 = .ok (.iload_n 2, 1) := by decide +kernel
theorem dX8_walkSubpath_7 : decode cX8_walkSubpath 7 = .ok (.invokevirtual 83, 3) := by decide +kernel
theorem dX8_walkSubpath_10 : decode cX8_walkSubpath 10 = .ok (.istore 5, 2) := by decide +kernel
theorem dX8_walkSubpath_12 : decode cX8_walkSubpath 12 = .ok (.iload 5, 2) := by decide +kernel
theorem dX8_walkSubpath_14 : decode cX8_walkSubpath 14 = .ok (.aload_n 1, 1) := by decide +kernel
theorem dX8_walkSubpath_15 : decode cX8_walkSubpath 15 = .ok (.iload_n 2, 1) := by decide +kernel
theorem dX8_walkSubpath_16 : decode cX8_walkSubpath 16 = .ok (.invokevirtual 86, 3) := by decide +kernel
theorem dX8_walkSubpath_19 : decode cX8_walkSubpath 19 = .ok (.if_icmp .ge 120, 3) := by decide +kernel
theorem dX8_walkSubpath_22 : decode cX8_walkSubpath 22 = .ok (.aload_n 1, 1) := by decide +kernel
theorem dX8_walkSubpath_23 : decode cX8_walkSubpath 23 = .ok (.iload 5, 2) := by decide +kernel
theorem dX8_walkSubpath_25 : decode cX8_walkSubpath 25 = .ok (.invokevirtual 89, 3) := by decide +kernel
theorem dX8_walkSubpath_28 : decode cX8_walkSubpath 28 = .ok (.istore 6, 2) := by decide +kernel
theorem dX8_walkSubpath_30 : decode cX8_walkSubpath 30 = .ok (.iconst 1, 1) := by decide +kernel
theorem dX8_walkSubpath_31 : decode cX8_walkSubpath 31 = .ok (.istore 7, 2) := by decide +kernel
theorem dX8_walkSubpath_33 : decode cX8_walkSubpath 33 = .ok (.iconst 0, 1) := by decide +kernel
theorem dX8_walkSubpath_34 : decode cX8_walkSubpath 34 = .ok (.istore 8, 2) := by decide +kernel
theorem dX8_walkSubpath_36 : decode cX8_walkSubpath 36 = .ok (.iload 8, 2) := by decide +kernel
theorem dX8_walkSubpath_38 : decode cX8_walkSubpath 38 = .ok (.iload 6, 2) := by decide +kernel
theorem dX8_walkSubpath_40 : decode cX8_walkSubpath 40 = .ok (.if_icmp .ge 86, 3) := by decide +kernel
theorem dX8_walkSubpath_43 : decode cX8_walkSubpath 43 = .ok (.iconst 1, 1) := by decide +kernel
theorem dX8_walkSubpath_44 : decode cX8_walkSubpath 44 = .ok (.aload_n 0, 1) := by decide +kernel
theorem dX8_walkSubpath_45 : decode cX8_walkSubpath 45 = .ok (.getfield 12, 3) := by decide +kernel
theorem dX8_walkSubpath_48 : decode cX8_walkSubpath 48 = .ok (.invokevirtual 92, 3) := by decide +kernel
theorem dX8_walkSubpath_51 : decode cX8_walkSubpath 51 = .ok (.iload 6, 2) := by decide +kernel
theorem dX8_walkSubpath_53 : decode cX8_walkSubpath 53 = .ok (.iload 8, 2) := by decide +kernel
theorem dX8_walkSubpath_55 : decode cX8_walkSubpath 55 = .ok (.isub, 1) := by decide +kernel
theorem dX8_walkSubpath_56 : decode cX8_walkSubpath 56 = .ok (.invokestatic 96, 3) := by decide +kernel
theorem dX8_walkSubpath_59 : decode cX8_walkSubpath 59 = .ok (.invokestatic 102, 3) := by decide +kernel
theorem dX8_walkSubpath_62 : decode cX8_walkSubpath 62 = .ok (.istore 7, 2) := by decide +kernel
theorem dX8_walkSubpath_64 : decode cX8_walkSubpath 64 = .ok (.aload_n 0, 1) := by decide +kernel
theorem dX8_walkSubpath_65 : decode cX8_walkSubpath 65 = .ok (.getfield 12, 3) := by decide +kernel
theorem dX8_walkSubpath_68 : decode cX8_walkSubpath 68 = .ok (.invokevirtual 105, 3) := by decide +kernel
theorem dX8_walkSubpath_71 : decode cX8_walkSubpath 71 = .ok (.ifCond .eq 31, 3) := by decide +kernel
theorem dX8_walkSubpath_74 : decode cX8_walkSubpath 74 = .ok (.iload_n 3, 1) := by decide +kernel
theorem dX8_walkSubpath_75 : decode cX8_walkSubpath 75 = .ok (.ifCond .ne 12, 3) := by decide +kernel
theorem dX8_walkSubpath_78 : decode cX8_walkSubpath 78 = .ok (.aload_n 0, 1) := by decide +kernel
theorem dX8_walkSubpath_79 : decode cX8_walkSubpath 79 = .ok (.iload 4, 2) := by decide +kernel
theorem dX8_walkSubpath_81 : decode cX8_walkSubpath 81 = .ok (.iload 8, 2) := by decide +kernel
theorem dX8_walkSubpath_83 : decode cX8_walkSubpath 83 = .ok (.iadd, 1) := by decide +kernel
theorem dX8_walkSubpath_84 : decode cX8_walkSubpath 84 = .ok (.invokevirtual 109, 3) := by decide +kernel
theorem dX8_walkSubpath_87 : decode cX8_walkSubpath 87 = .ok (.aload_n 0, 1) := by decide +kernel
theorem dX8_walkSubpath_88 : decode cX8_walkSubpath 88 = .ok (.iload 5, 2) := by decide +kernel
theorem dX8_walkSubpath_90 : decode cX8_walkSubpath 90 = .ok (.iload 8, 2) := by decide +kernel
theorem dX8_walkSubpath_92 : decode cX8_walkSubpath 92 = .ok (.iload 8, 2) := by decide +kernel
theorem dX8_walkSubpath_94 : decode cX8_walkSubpath 94 = .ok (.iload 7, 2) := by decide +kernel
theorem dX8_walkSubpath_96 : decode cX8_walkSubpath 96 = .ok (.iadd, 1) := by decide +kernel
theorem dX8_walkSubpath_97 : decode cX8_walkSubpath 97 = .ok (.invokevirtual 113, 3) := by decide +kernel
theorem dX8_walkSubpath_100 : decode cX8_walkSubpath 100 = .ok (.iconst 1, 1) := by decide +kernel
theorem dX8_walkSubpath_101 : decode cX8_walkSubpath 101 = .ok (.istore_n 3, 1) := by decide +kernel
theorem dX8_walkSubpath_102 : decode cX8_walkSubpath 102 = .ok (.aload_n 0, 1) := by decide +kernel
theorem dX8_walkSubpath_103 : decode cX8_walkSubpath 103 = .ok (.getfield 12, 3) := by decide +kernel
theorem dX8_walkSubpath_106 : decode cX8_walkSubpath 106 = .ok (.iload 7, 2) := by decide +kernel
theorem dX8_walkSubpath_108 : decode cX8_walkSubpath 108 = .ok (.invokevirtual 117, 3) := by decide +kernel
theorem dX8_walkSubpath_111 : decode cX8_walkSubpath 111 = .ok (.ifCond .eq 5, 3) := by decide +kernel
theorem dX8_walkSubpath_114 : decode cX8_walkSubpath 114 = .ok (.iconst 0, 1) := by decide +kernel
theorem dX8_walkSubpath_115 : decode cX8_walkSubpath 115 = .ok (.istore_n 3, 1) := by decide +kernel
theorem dX8_walkSubpath_116 : decode cX8_walkSubpath 116 = .ok (.iload 8, 2) := by decide +kernel
theorem dX8_walkSubpath_118 : decode cX8_walkSubpath 118 = .ok (.iload 7, 2) := by decide +kernel
theorem dX8_walkSubpath_120 : decode cX8_walkSubpath 120 = .ok (.iadd, 1) := by decide +kernel
theorem dX8_walkSubpath_121 : decode cX8_walkSubpath 121 = .ok (.istore 8, 2) := by decide +kernel
theorem dX8_walkSubpath_123 : decode cX8_walkSubpath 123 = .ok (.goto (-87), 3) := by decide +kernel
theorem dX8_walkSubpath_126 : decode cX8_walkSubpath 126 = .ok (.iload 4, 2) := by decide +kernel
theorem dX8_walkSubpath_128 : decode cX8_walkSubpath 128 = .ok (.iload 6, 2) := by decide +kernel
theorem dX8_walkSubpath_130 : decode cX8_walkSubpath 130 = .ok (.iadd, 1) := by decide +kernel
theorem dX8_walkSubpath_131 : decode cX8_walkSubpath 131 = .ok (.istore 4, 2) := by decide +kernel
theorem dX8_walkSubpath_133 : decode cX8_walkSubpath 133 = .ok (.iinc 5 1, 3) := by decide +kernel
theorem dX8_walkSubpath_136 : decode cX8_walkSubpath 136 = .ok (.goto (-124), 3) := by decide +kernel
theorem dX8_walkSubpath_139 : decode cX8_walkSubpath 139 = .ok (.return_, 1) := by decide +kernel
theorem dX8_addRun_0 : decode cX8_addRun 0 = .ok (.aload_n 0, 1) := by decide +kernel
theorem dX8_addRun_1 : decode cX8_addRun 1 = .ok (.getfield 46, 3) := by decide +kernel
theorem dX8_addRun_4 : decode cX8_addRun 4 = .ok (.ifCond .lt 76, 3) := by decide +kernel
theorem dX8_addRun_7 : decode cX8_addRun 7 = .ok (.aload_n 0, 1) := by decide +kernel
theorem dX8_addRun_8 : decode cX8_addRun 8 = .ok (.getfield 46, 3) := by decide +kernel
theorem dX8_addRun_11 : decode cX8_addRun 11 = .ok (.sipush 928, 3) := by decide +kernel
theorem dX8_addRun_14 : decode cX8_addRun 14 = .ok (.if_icmp .ge 66, 3) := by decide +kernel
theorem dX8_addRun_17 : decode cX8_addRun 17 = .ok (.aload_n 0, 1) := by decide +kernel
theorem dX8_addRun_18 : decode cX8_addRun 18 = .ok (.getfield 22, 3) := by decide +kernel
theorem dX8_addRun_21 : decode cX8_addRun 21 = .ok (.aload_n 0, 1) := by decide +kernel
theorem dX8_addRun_22 : decode cX8_addRun 22 = .ok (.getfield 46, 3) := by decide +kernel
theorem dX8_addRun_25 : decode cX8_addRun 25 = .ok (.iload_n 1, 1) := by decide +kernel
theorem dX8_addRun_26 : decode cX8_addRun 26 = .ok (.iastore, 1) := by decide +kernel
theorem dX8_addRun_27 : decode cX8_addRun 27 = .ok (.aload_n 0, 1) := by decide +kernel
theorem dX8_addRun_28 : decode cX8_addRun 28 = .ok (.getfield 25, 3) := by decide +kernel
theorem dX8_addRun_31 : decode cX8_addRun 31 = .ok (.aload_n 0, 1) := by decide +kernel
theorem dX8_addRun_32 : decode cX8_addRun 32 = .ok (.getfield 46, 3) := by decide +kernel
theorem dX8_addRun_35 : decode cX8_addRun 35 = .ok (.iconst 0, 1) := by decide +kernel
theorem dX8_addRun_36 : decode cX8_addRun 36 = .ok (.iastore, 1) := by decide +kernel
theorem dX8_addRun_37 : decode cX8_addRun 37 = .ok (.aload_n 0, 1) := by decide +kernel
theorem dX8_addRun_38 : decode cX8_addRun 38 = .ok (.getfield 28, 3) := by decide +kernel
theorem dX8_addRun_41 : decode cX8_addRun 41 = .ok (.aload_n 0, 1) := by decide +kernel
theorem dX8_addRun_42 : decode cX8_addRun 42 = .ok (.getfield 46, 3) := by decide +kernel
theorem dX8_addRun_45 : decode cX8_addRun 45 = .ok (.iconst 0, 1) := by decide +kernel
theorem dX8_addRun_46 : decode cX8_addRun 46 = .ok (.iastore, 1) := by decide +kernel
theorem dX8_addRun_47 : decode cX8_addRun 47 = .ok (.aload_n 0, 1) := by decide +kernel
theorem dX8_addRun_48 : decode cX8_addRun 48 = .ok (.getfield 31, 3) := by decide +kernel
theorem dX8_addRun_51 : decode cX8_addRun 51 = .ok (.aload_n 0, 1) := by decide +kernel
theorem dX8_addRun_52 : decode cX8_addRun 52 = .ok (.getfield 46, 3) := by decide +kernel
theorem dX8_addRun_55 : decode cX8_addRun 55 = .ok (.aload_n 0, 1) := by decide +kernel
theorem dX8_addRun_56 : decode cX8_addRun 56 = .ok (.getfield 50, 3) := by decide +kernel
theorem dX8_addRun_59 : decode cX8_addRun 59 = .ok (.iastore, 1) := by decide +kernel
theorem dX8_addRun_60 : decode cX8_addRun 60 = .ok (.aload_n 0, 1) := by decide +kernel
theorem dX8_addRun_61 : decode cX8_addRun 61 = .ok (.getfield 34, 3) := by decide +kernel
theorem dX8_addRun_64 : decode cX8_addRun 64 = .ok (.aload_n 0, 1) := by decide +kernel
theorem dX8_addRun_65 : decode cX8_addRun 65 = .ok (.getfield 46, 3) := by decide +kernel
theorem dX8_addRun_68 : decode cX8_addRun 68 = .ok (.iconst 0, 1) := by decide +kernel
theorem dX8_addRun_69 : decode cX8_addRun 69 = .ok (.iastore, 1) := by decide +kernel
theorem dX8_addRun_70 : decode cX8_addRun 70 = .ok (.aload_n 0, 1) := by decide +kernel
theorem dX8_addRun_71 : decode cX8_addRun 71 = .ok (.dup, 1) := by decide +kernel
theorem dX8_addRun_72 : decode cX8_addRun 72 = .ok (.getfield 46, 3) := by decide +kernel
theorem dX8_addRun_75 : decode cX8_addRun 75 = .ok (.iconst 1, 1) := by decide +kernel
theorem dX8_addRun_76 : decode cX8_addRun 76 = .ok (.iadd, 1) := by decide +kernel
theorem dX8_addRun_77 : decode cX8_addRun 77 = .ok (.putfield 46, 3) := by decide +kernel
theorem dX8_addRun_80 : decode cX8_addRun 80 = .ok (.return_, 1) := by decide +kernel
theorem dX8_addSpan_0 : decode cX8_addSpan 0 = .ok (.aload_n 0, 1) := by decide +kernel
theorem dX8_addSpan_1 : decode cX8_addSpan 1 = .ok (.getfield 46, 3) := by decide +kernel
theorem dX8_addSpan_4 : decode cX8_addSpan 4 = .ok (.iconst 1, 1) := by decide +kernel
theorem dX8_addSpan_5 : decode cX8_addSpan 5 = .ok (.isub, 1) := by decide +kernel
theorem dX8_addSpan_6 : decode cX8_addSpan 6 = .ok (.istore 4, 2) := by decide +kernel
theorem dX8_addSpan_8 : decode cX8_addSpan 8 = .ok (.iload 4, 2) := by decide +kernel
theorem dX8_addSpan_10 : decode cX8_addSpan 10 = .ok (.ifCond .lt 92, 3) := by decide +kernel
theorem dX8_addSpan_13 : decode cX8_addSpan 13 = .ok (.iload 4, 2) := by decide +kernel
theorem dX8_addSpan_15 : decode cX8_addSpan 15 = .ok (.sipush 928, 3) := by decide +kernel
theorem dX8_addSpan_18 : decode cX8_addSpan 18 = .ok (.if_icmp .ge 84, 3) := by decide +kernel
theorem dX8_addSpan_21 : decode cX8_addSpan 21 = .ok (.aload_n 0, 1) := by decide +kernel
theorem dX8_addSpan_22 : decode cX8_addSpan 22 = .ok (.getfield 50, 3) := by decide +kernel
theorem dX8_addSpan_25 : decode cX8_addSpan 25 = .ok (.ifCond .lt 77, 3) := by decide +kernel
theorem dX8_addSpan_28 : decode cX8_addSpan 28 = .ok (.aload_n 0, 1) := by decide +kernel
theorem dX8_addSpan_29 : decode cX8_addSpan 29 = .ok (.getfield 50, 3) := by decide +kernel
theorem dX8_addSpan_32 : decode cX8_addSpan 32 = .ok (.sipush 1024, 3) := by decide +kernel
theorem dX8_addSpan_35 : decode cX8_addSpan 35 = .ok (.if_icmp .ge 67, 3) := by decide +kernel
theorem dX8_addSpan_38 : decode cX8_addSpan 38 = .ok (.aload_n 0, 1) := by decide +kernel
theorem dX8_addSpan_39 : decode cX8_addSpan 39 = .ok (.getfield 37, 3) := by decide +kernel
theorem dX8_addSpan_42 : decode cX8_addSpan 42 = .ok (.aload_n 0, 1) := by decide +kernel
theorem dX8_addSpan_43 : decode cX8_addSpan 43 = .ok (.getfield 50, 3) := by decide +kernel
theorem dX8_addSpan_46 : decode cX8_addSpan 46 = .ok (.iload_n 1, 1) := by decide +kernel
theorem dX8_addSpan_47 : decode cX8_addSpan 47 = .ok (.iastore, 1) := by decide +kernel
theorem dX8_addSpan_48 : decode cX8_addSpan 48 = .ok (.aload_n 0, 1) := by decide +kernel
theorem dX8_addSpan_49 : decode cX8_addSpan 49 = .ok (.getfield 40, 3) := by decide +kernel
theorem dX8_addSpan_52 : decode cX8_addSpan 52 = .ok (.aload_n 0, 1) := by decide +kernel
theorem dX8_addSpan_53 : decode cX8_addSpan 53 = .ok (.getfield 50, 3) := by decide +kernel
theorem dX8_addSpan_56 : decode cX8_addSpan 56 = .ok (.iload_n 2, 1) := by decide +kernel
theorem dX8_addSpan_57 : decode cX8_addSpan 57 = .ok (.iastore, 1) := by decide +kernel
theorem dX8_addSpan_58 : decode cX8_addSpan 58 = .ok (.aload_n 0, 1) := by decide +kernel
theorem dX8_addSpan_59 : decode cX8_addSpan 59 = .ok (.getfield 43, 3) := by decide +kernel
theorem dX8_addSpan_62 : decode cX8_addSpan 62 = .ok (.aload_n 0, 1) := by decide +kernel
theorem dX8_addSpan_63 : decode cX8_addSpan 63 = .ok (.getfield 50, 3) := by decide +kernel
theorem dX8_addSpan_66 : decode cX8_addSpan 66 = .ok (.iload_n 3, 1) := by decide +kernel
theorem dX8_addSpan_67 : decode cX8_addSpan 67 = .ok (.iastore, 1) := by decide +kernel
theorem dX8_addSpan_68 : decode cX8_addSpan 68 = .ok (.aload_n 0, 1) := by decide +kernel
theorem dX8_addSpan_69 : decode cX8_addSpan 69 = .ok (.dup, 1) := by decide +kernel
theorem dX8_addSpan_70 : decode cX8_addSpan 70 = .ok (.getfield 50, 3) := by decide +kernel
theorem dX8_addSpan_73 : decode cX8_addSpan 73 = .ok (.iconst 1, 1) := by decide +kernel
theorem dX8_addSpan_74 : decode cX8_addSpan 74 = .ok (.iadd, 1) := by decide +kernel
theorem dX8_addSpan_75 : decode cX8_addSpan 75 = .ok (.putfield 50, 3) := by decide +kernel
theorem dX8_addSpan_78 : decode cX8_addSpan 78 = .ok (.aload_n 0, 1) := by decide +kernel
theorem dX8_addSpan_79 : decode cX8_addSpan 79 = .ok (.getfield 25, 3) := by decide +kernel
theorem dX8_addSpan_82 : decode cX8_addSpan 82 = .ok (.iload 4, 2) := by decide +kernel
theorem dX8_addSpan_84 : decode cX8_addSpan 84 = .ok (.dup2, 1) := by decide +kernel
theorem dX8_addSpan_85 : decode cX8_addSpan 85 = .ok (.iaload, 1) := by decide +kernel
theorem dX8_addSpan_86 : decode cX8_addSpan 86 = .ok (.iload_n 3, 1) := by decide +kernel
theorem dX8_addSpan_87 : decode cX8_addSpan 87 = .ok (.iload_n 2, 1) := by decide +kernel
theorem dX8_addSpan_88 : decode cX8_addSpan 88 = .ok (.isub, 1) := by decide +kernel
theorem dX8_addSpan_89 : decode cX8_addSpan 89 = .ok (.iadd, 1) := by decide +kernel
theorem dX8_addSpan_90 : decode cX8_addSpan 90 = .ok (.iastore, 1) := by decide +kernel
theorem dX8_addSpan_91 : decode cX8_addSpan 91 = .ok (.aload_n 0, 1) := by decide +kernel
theorem dX8_addSpan_92 : decode cX8_addSpan 92 = .ok (.getfield 34, 3) := by decide +kernel
theorem dX8_addSpan_95 : decode cX8_addSpan 95 = .ok (.iload 4, 2) := by decide +kernel
theorem dX8_addSpan_97 : decode cX8_addSpan 97 = .ok (.dup2, 1) := by decide +kernel
theorem dX8_addSpan_98 : decode cX8_addSpan 98 = .ok (.iaload, 1) := by decide +kernel
theorem dX8_addSpan_99 : decode cX8_addSpan 99 = .ok (.iconst 1, 1) := by decide +kernel
theorem dX8_addSpan_100 : decode cX8_addSpan 100 = .ok (.iadd, 1) := by decide +kernel
theorem dX8_addSpan_101 : decode cX8_addSpan 101 = .ok (.iastore, 1) := by decide +kernel
theorem dX8_addSpan_102 : decode cX8_addSpan 102 = .ok (.return_, 1) := by decide +kernel
set_option maxRecDepth 20000 in
theorem ggX8_joinEnds_X8_firstOf : GoodIn wsX8_joinEnds wsX8_firstOf := goodIn_r _ [11, 12, 13, 14, 15, 16, 37, 38, 39, 40, 41, 42, 43, 44, 45, 46, 47, 48] (by decide +kernel) (by decide +kernel)
set_option maxRecDepth 20000 in
theorem gX8_joinEnds_X8_firstOf : GoodIn wsX8_joinEnds (wsV RX8 120 RX8 yX8_firstOf wsX8_firstOf) := goodIn_app (goodIn_of _ (by decide +kernel)) ggX8_joinEnds_X8_firstOf
set_option maxRecDepth 20000 in
theorem ggX8_joinEnds_X8_segmentOf : GoodIn wsX8_joinEnds wsX8_segmentOf := goodIn_r _ [20, 21, 13, 14, 15, 16, 37, 38, 39, 40, 41, 42, 43, 44, 45, 46, 47, 48] (by decide +kernel) (by decide +kernel)
set_option maxRecDepth 20000 in
theorem gX8_joinEnds_X8_segmentOf : GoodIn wsX8_joinEnds (wsV RX8 121 RX8 yX8_segmentOf wsX8_segmentOf) := goodIn_app (goodIn_of _ (by decide +kernel)) ggX8_joinEnds_X8_segmentOf
set_option maxRecDepth 20000 in
theorem ggX8_joinEnds_X8_fromOf : GoodIn wsX8_joinEnds wsX8_fromOf := goodIn_r _ [25, 26, 13, 14, 15, 16, 37, 38, 39, 40, 41, 42, 43, 44, 45, 46, 47, 48] (by decide +kernel) (by decide +kernel)
set_option maxRecDepth 20000 in
theorem gX8_joinEnds_X8_fromOf : GoodIn wsX8_joinEnds (wsV RX8 124 RX8 yX8_fromOf wsX8_fromOf) := goodIn_app (goodIn_of _ (by decide +kernel)) ggX8_joinEnds_X8_fromOf
set_option maxRecDepth 20000 in
theorem ggX8_joinEnds_X8_toOf : GoodIn wsX8_joinEnds wsX8_toOf := goodIn_r _ [30, 31, 13, 14, 15, 16, 37, 38, 39, 40, 41, 42, 43, 44, 45, 46, 47, 48] (by decide +kernel) (by decide +kernel)
set_option maxRecDepth 20000 in
theorem gX8_joinEnds_X8_toOf : GoodIn wsX8_joinEnds (wsV RX8 127 RX8 yX8_toOf wsX8_toOf) := goodIn_app (goodIn_of _ (by decide +kernel)) ggX8_joinEnds_X8_toOf
set_option maxRecDepth 20000 in
theorem ggX8_joinEnds_X8_addSpan : GoodIn wsX8_joinEnds wsX8_addSpan := goodIn_r _ [35, 1, 36, 21, 26, 31, 3, 6, 37, 38, 39, 40, 41, 42, 43, 44, 45, 46, 47, 48] (by decide +kernel) (by decide +kernel)
set_option maxRecDepth 20000 in
theorem gX8_joinEnds_X8_addSpan : GoodIn wsX8_joinEnds (wsV RX8 113 RX8 yX8_addSpan wsX8_addSpan) := goodIn_app (goodIn_of _ (by decide +kernel)) ggX8_joinEnds_X8_addSpan
theorem dX8_joinEnds_0 : decode cX8_joinEnds 0 = .ok (.aload_n 0, 1) := by decide +kernel
theorem dX8_joinEnds_1 : decode cX8_joinEnds 1 = .ok (.iload_n 1, 1) := by decide +kernel
theorem dX8_joinEnds_2 : decode cX8_joinEnds 2 = .ok (.invokevirtual 120, 3) := by decide +kernel
theorem dX8_joinEnds_5 : decode cX8_joinEnds 5 = .ok (.istore_n 3, 1) := by decide +kernel
theorem dX8_joinEnds_6 : decode cX8_joinEnds 6 = .ok (.aload_n 0, 1) := by decide +kernel
theorem dX8_joinEnds_7 : decode cX8_joinEnds 7 = .ok (.getfield 46, 3) := by decide +kernel
theorem dX8_joinEnds_10 : decode cX8_joinEnds 10 = .ok (.iconst 1, 1) := by decide +kernel
theorem dX8_joinEnds_11 : decode cX8_joinEnds 11 = .ok (.isub, 1) := by decide +kernel
theorem dX8_joinEnds_12 : decode cX8_joinEnds 12 = .ok (.istore 4, 2) := by decide +kernel
theorem dX8_joinEnds_14 : decode cX8_joinEnds 14 = .ok (.iload_n 3, 1) := by decide +kernel
theorem dX8_joinEnds_15 : decode cX8_joinEnds 15 = .ok (.ifCond .lt 45, 3) := by decide +kernel
theorem dX8_joinEnds_18 : decode cX8_joinEnds 18 = .ok (.iload 4, 2) := by decide +kernel
theorem dX8_joinEnds_20 : decode cX8_joinEnds 20 = .ok (.iload_n 3, 1) := by decide +kernel
theorem dX8_joinEnds_21 : decode cX8_joinEnds 21 = .ok (.if_icmp .lt 39, 3) := by decide +kernel
theorem dX8_joinEnds_24 : decode cX8_joinEnds 24 = .ok (.iload 4, 2) := by decide +kernel
theorem dX8_joinEnds_26 : decode cX8_joinEnds 26 = .ok (.sipush 928, 3) := by decide +kernel
theorem dX8_joinEnds_29 : decode cX8_joinEnds 29 = .ok (.if_icmp .ge 31, 3) := by decide +kernel
theorem dX8_joinEnds_32 : decode cX8_joinEnds 32 = .ok (.aload_n 0, 1) := by decide +kernel
theorem dX8_joinEnds_33 : decode cX8_joinEnds 33 = .ok (.getfield 22, 3) := by decide +kernel
theorem dX8_joinEnds_36 : decode cX8_joinEnds 36 = .ok (.iload_n 3, 1) := by decide +kernel
theorem dX8_joinEnds_37 : decode cX8_joinEnds 37 = .ok (.iaload, 1) := by decide +kernel
theorem dX8_joinEnds_38 : decode cX8_joinEnds 38 = .ok (.ifCond .ne 22, 3) := by decide +kernel
theorem dX8_joinEnds_41 : decode cX8_joinEnds 41 = .ok (.aload_n 0, 1) := by decide +kernel
theorem dX8_joinEnds_42 : decode cX8_joinEnds 42 = .ok (.getfield 22, 3) := by decide +kernel
theorem dX8_joinEnds_45 : decode cX8_joinEnds 45 = .ok (.iload 4, 2) := by decide +kernel
theorem dX8_joinEnds_47 : decode cX8_joinEnds 47 = .ok (.iaload, 1) := by decide +kernel
theorem dX8_joinEnds_48 : decode cX8_joinEnds 48 = .ok (.aload_n 0, 1) := by decide +kernel
theorem dX8_joinEnds_49 : decode cX8_joinEnds 49 = .ok (.getfield 25, 3) := by decide +kernel
theorem dX8_joinEnds_52 : decode cX8_joinEnds 52 = .ok (.iload 4, 2) := by decide +kernel
theorem dX8_joinEnds_54 : decode cX8_joinEnds 54 = .ok (.iaload, 1) := by decide +kernel
theorem dX8_joinEnds_55 : decode cX8_joinEnds 55 = .ok (.iadd, 1) := by decide +kernel
theorem dX8_joinEnds_56 : decode cX8_joinEnds 56 = .ok (.iload_n 2, 1) := by decide +kernel
theorem dX8_joinEnds_57 : decode cX8_joinEnds 57 = .ok (.if_icmp .eq 4, 3) := by decide +kernel
theorem dX8_joinEnds_60 : decode cX8_joinEnds 60 = .ok (.return_, 1) := by decide +kernel
theorem dX8_joinEnds_61 : decode cX8_joinEnds 61 = .ok (.iload_n 3, 1) := by decide +kernel
theorem dX8_joinEnds_62 : decode cX8_joinEnds 62 = .ok (.iload 4, 2) := by decide +kernel
theorem dX8_joinEnds_64 : decode cX8_joinEnds 64 = .ok (.if_icmp .ne 11, 3) := by decide +kernel
theorem dX8_joinEnds_67 : decode cX8_joinEnds 67 = .ok (.aload_n 0, 1) := by decide +kernel
theorem dX8_joinEnds_68 : decode cX8_joinEnds 68 = .ok (.getfield 28, 3) := by decide +kernel
theorem dX8_joinEnds_71 : decode cX8_joinEnds 71 = .ok (.iload_n 3, 1) := by decide +kernel
theorem dX8_joinEnds_72 : decode cX8_joinEnds 72 = .ok (.iconst 1, 1) := by decide +kernel
theorem dX8_joinEnds_73 : decode cX8_joinEnds 73 = .ok (.iastore, 1) := by decide +kernel
theorem dX8_joinEnds_74 : decode cX8_joinEnds 74 = .ok (.return_, 1) := by decide +kernel
theorem dX8_joinEnds_75 : decode cX8_joinEnds 75 = .ok (.aload_n 0, 1) := by decide +kernel
theorem dX8_joinEnds_76 : decode cX8_joinEnds 76 = .ok (.getfield 31, 3) := by decide +kernel
theorem dX8_joinEnds_79 : decode cX8_joinEnds 79 = .ok (.iload_n 3, 1) := by decide +kernel
theorem dX8_joinEnds_80 : decode cX8_joinEnds 80 = .ok (.iaload, 1) := by decide +kernel
theorem dX8_joinEnds_81 : decode cX8_joinEnds 81 = .ok (.istore 5, 2) := by decide +kernel
theorem dX8_joinEnds_83 : decode cX8_joinEnds 83 = .ok (.iload 5, 2) := by decide +kernel
theorem dX8_joinEnds_85 : decode cX8_joinEnds 85 = .ok (.aload_n 0, 1) := by decide +kernel
theorem dX8_joinEnds_86 : decode cX8_joinEnds 86 = .ok (.getfield 34, 3) := by decide +kernel
theorem dX8_joinEnds_89 : decode cX8_joinEnds 89 = .ok (.iload_n 3, 1) := by decide +kernel
theorem dX8_joinEnds_90 : decode cX8_joinEnds 90 = .ok (.iaload, 1) := by decide +kernel
theorem dX8_joinEnds_91 : decode cX8_joinEnds 91 = .ok (.iadd, 1) := by decide +kernel
theorem dX8_joinEnds_92 : decode cX8_joinEnds 92 = .ok (.istore 6, 2) := by decide +kernel
theorem dX8_joinEnds_94 : decode cX8_joinEnds 94 = .ok (.iload 5, 2) := by decide +kernel
theorem dX8_joinEnds_96 : decode cX8_joinEnds 96 = .ok (.istore 7, 2) := by decide +kernel
theorem dX8_joinEnds_98 : decode cX8_joinEnds 98 = .ok (.iload 7, 2) := by decide +kernel
theorem dX8_joinEnds_100 : decode cX8_joinEnds 100 = .ok (.iload 6, 2) := by decide +kernel
theorem dX8_joinEnds_102 : decode cX8_joinEnds 102 = .ok (.if_icmp .ge 31, 3) := by decide +kernel
theorem dX8_joinEnds_105 : decode cX8_joinEnds 105 = .ok (.aload_n 0, 1) := by decide +kernel
theorem dX8_joinEnds_106 : decode cX8_joinEnds 106 = .ok (.aload_n 0, 1) := by decide +kernel
theorem dX8_joinEnds_107 : decode cX8_joinEnds 107 = .ok (.iload 7, 2) := by decide +kernel
theorem dX8_joinEnds_109 : decode cX8_joinEnds 109 = .ok (.invokevirtual 121, 3) := by decide +kernel
theorem dX8_joinEnds_112 : decode cX8_joinEnds 112 = .ok (.aload_n 0, 1) := by decide +kernel
theorem dX8_joinEnds_113 : decode cX8_joinEnds 113 = .ok (.iload 7, 2) := by decide +kernel
theorem dX8_joinEnds_115 : decode cX8_joinEnds 115 = .ok (.invokevirtual 124, 3) := by decide +kernel
theorem dX8_joinEnds_118 : decode cX8_joinEnds 118 = .ok (.aload_n 0, 1) := by decide +kernel
theorem dX8_joinEnds_119 : decode cX8_joinEnds 119 = .ok (.iload 7, 2) := by decide +kernel
theorem dX8_joinEnds_121 : decode cX8_joinEnds 121 = .ok (.invokevirtual 127, 3) := by decide +kernel
theorem dX8_joinEnds_124 : decode cX8_joinEnds 124 = .ok (.invokevirtual 113, 3) := by decide +kernel
theorem dX8_joinEnds_127 : decode cX8_joinEnds 127 = .ok (.iinc 7 1, 3) := by decide +kernel
theorem dX8_joinEnds_130 : decode cX8_joinEnds 130 = .ok (.goto (-32), 3) := by decide +kernel
theorem dX8_joinEnds_133 : decode cX8_joinEnds 133 = .ok (.aload_n 0, 1) := by decide +kernel
theorem dX8_joinEnds_134 : decode cX8_joinEnds 134 = .ok (.getfield 22, 3) := by decide +kernel
theorem dX8_joinEnds_137 : decode cX8_joinEnds 137 = .ok (.iload_n 3, 1) := by decide +kernel
theorem dX8_joinEnds_138 : decode cX8_joinEnds 138 = .ok (.aload_n 0, 1) := by decide +kernel
theorem dX8_joinEnds_139 : decode cX8_joinEnds 139 = .ok (.getfield 22, 3) := by decide +kernel
theorem dX8_joinEnds_142 : decode cX8_joinEnds 142 = .ok (.iload 4, 2) := by decide +kernel
theorem dX8_joinEnds_144 : decode cX8_joinEnds 144 = .ok (.iaload, 1) := by decide +kernel
theorem dX8_joinEnds_145 : decode cX8_joinEnds 145 = .ok (.iastore, 1) := by decide +kernel
theorem dX8_joinEnds_146 : decode cX8_joinEnds 146 = .ok (.aload_n 0, 1) := by decide +kernel
theorem dX8_joinEnds_147 : decode cX8_joinEnds 147 = .ok (.getfield 25, 3) := by decide +kernel
theorem dX8_joinEnds_150 : decode cX8_joinEnds 150 = .ok (.iload_n 3, 1) := by decide +kernel
theorem dX8_joinEnds_151 : decode cX8_joinEnds 151 = .ok (.aload_n 0, 1) := by decide +kernel
theorem dX8_joinEnds_152 : decode cX8_joinEnds 152 = .ok (.getfield 25, 3) := by decide +kernel
theorem dX8_joinEnds_155 : decode cX8_joinEnds 155 = .ok (.iload 4, 2) := by decide +kernel
theorem dX8_joinEnds_157 : decode cX8_joinEnds 157 = .ok (.iaload, 1) := by decide +kernel
theorem dX8_joinEnds_158 : decode cX8_joinEnds 158 = .ok (.iastore, 1) := by decide +kernel
theorem dX8_joinEnds_159 : decode cX8_joinEnds 159 = .ok (.aload_n 0, 1) := by decide +kernel
theorem dX8_joinEnds_160 : decode cX8_joinEnds 160 = .ok (.getfield 31, 3) := by decide +kernel
theorem dX8_joinEnds_163 : decode cX8_joinEnds 163 = .ok (.iload_n 3, 1) := by decide +kernel
theorem dX8_joinEnds_164 : decode cX8_joinEnds 164 = .ok (.aload_n 0, 1) := by decide +kernel
theorem dX8_joinEnds_165 : decode cX8_joinEnds 165 = .ok (.getfield 31, 3) := by decide +kernel
theorem dX8_joinEnds_168 : decode cX8_joinEnds 168 = .ok (.iload 4, 2) := by decide +kernel
theorem dX8_joinEnds_170 : decode cX8_joinEnds 170 = .ok (.iaload, 1) := by decide +kernel
theorem dX8_joinEnds_171 : decode cX8_joinEnds 171 = .ok (.iastore, 1) := by decide +kernel
theorem dX8_joinEnds_172 : decode cX8_joinEnds 172 = .ok (.aload_n 0, 1) := by decide +kernel
theorem dX8_joinEnds_173 : decode cX8_joinEnds 173 = .ok (.getfield 34, 3) := by decide +kernel
theorem dX8_joinEnds_176 : decode cX8_joinEnds 176 = .ok (.iload_n 3, 1) := by decide +kernel
theorem dX8_joinEnds_177 : decode cX8_joinEnds 177 = .ok (.aload_n 0, 1) := by decide +kernel
theorem dX8_joinEnds_178 : decode cX8_joinEnds 178 = .ok (.getfield 34, 3) := by decide +kernel
theorem dX8_joinEnds_181 : decode cX8_joinEnds 181 = .ok (.iload 4, 2) := by decide +kernel
theorem dX8_joinEnds_183 : decode cX8_joinEnds 183 = .ok (.iaload, 1) := by decide +kernel
theorem dX8_joinEnds_184 : decode cX8_joinEnds 184 = .ok (.iastore, 1) := by decide +kernel
theorem dX8_joinEnds_185 : decode cX8_joinEnds 185 = .ok (.aload_n 0, 1) := by decide +kernel
theorem dX8_joinEnds_186 : decode cX8_joinEnds 186 = .ok (.dup, 1) := by decide +kernel
theorem dX8_joinEnds_187 : decode cX8_joinEnds 187 = .ok (.getfield 46, 3) := by decide +kernel
theorem dX8_joinEnds_190 : decode cX8_joinEnds 190 = .ok (.iconst 1, 1) := by decide +kernel
theorem dX8_joinEnds_191 : decode cX8_joinEnds 191 = .ok (.isub, 1) := by decide +kernel
theorem dX8_joinEnds_192 : decode cX8_joinEnds 192 = .ok (.putfield 46, 3) := by decide +kernel
theorem dX8_joinEnds_195 : decode cX8_joinEnds 195 = .ok (.return_, 1) := by decide +kernel
set_option maxRecDepth 20000 in
theorem ggX8_firstOf_X4_at : GoodIn wsX8_firstOf wsX4_at := goodIn_r _ [5] (by decide +kernel) (by decide +kernel)
set_option maxRecDepth 20000 in
theorem gX8_firstOf_X4_at : GoodIn wsX8_firstOf (va_wsS RX8 130 yX4_at wsX4_at) := goodIn_app (goodIn_of _ (by decide +kernel)) ggX8_firstOf_X4_at
theorem dX8_firstOf_0 : decode cX8_firstOf 0 = .ok (.aload_n 0, 1) := by decide +kernel
theorem dX8_firstOf_1 : decode cX8_firstOf 1 = .ok (.getfield 18, 3) := by decide +kernel
theorem dX8_firstOf_4 : decode cX8_firstOf 4 = .ok (.iload_n 1, 1) := by decide +kernel
theorem dX8_firstOf_5 : decode cX8_firstOf 5 = .ok (.invokestatic 130, 3) := by decide +kernel
theorem dX8_firstOf_8 : decode cX8_firstOf 8 = .ok (.ireturn, 1) := by decide +kernel
set_option maxRecDepth 20000 in
theorem ggX8_countOf_X4_at : GoodIn wsX8_countOf wsX4_at := goodIn_r _ [5] (by decide +kernel) (by decide +kernel)
set_option maxRecDepth 20000 in
theorem gX8_countOf_X4_at : GoodIn wsX8_countOf (va_wsS RX8 130 yX4_at wsX4_at) := goodIn_app (goodIn_of _ (by decide +kernel)) ggX8_countOf_X4_at
set_option maxRecDepth 20000 in
theorem ggX8_countOf_X8_firstOf : GoodIn wsX8_countOf wsX8_firstOf := goodIn_r _ [10, 1, 2, 3, 4, 5, 11, 12, 13, 14, 15, 16, 17, 18, 19, 20, 21, 22] (by decide +kernel) (by decide +kernel)
set_option maxRecDepth 20000 in
theorem gX8_countOf_X8_firstOf : GoodIn wsX8_countOf (wsV RX8 120 RX8 yX8_firstOf wsX8_firstOf) := goodIn_app (goodIn_of _ (by decide +kernel)) ggX8_countOf_X8_firstOf
theorem dX8_countOf_0 : decode cX8_countOf 0 = .ok (.aload_n 0, 1) := by decide +kernel
theorem dX8_countOf_1 : decode cX8_countOf 1 = .ok (.getfield 18, 3) := by decide +kernel
theorem dX8_countOf_4 : decode cX8_countOf 4 = .ok (.iload_n 1, 1) := by decide +kernel
theorem dX8_countOf_5 : decode cX8_countOf 5 = .ok (.iconst 1, 1) := by decide +kernel
theorem dX8_countOf_6 : decode cX8_countOf 6 = .ok (.iadd, 1) := by decide +kernel
theorem dX8_countOf_7 : decode cX8_countOf 7 = .ok (.invokestatic 130, 3) := by decide +kernel
theorem dX8_countOf_10 : decode cX8_countOf 10 = .ok (.aload_n 0, 1) := by decide +kernel
theorem dX8_countOf_11 : decode cX8_countOf 11 = .ok (.iload_n 1, 1) := by decide +kernel
theorem dX8_countOf_12 : decode cX8_countOf 12 = .ok (.invokevirtual 120, 3) := by decide +kernel
theorem dX8_countOf_15 : decode cX8_countOf 15 = .ok (.isub, 1) := by decide +kernel
theorem dX8_countOf_16 : decode cX8_countOf 16 = .ok (.ireturn, 1) := by decide +kernel
set_option maxRecDepth 20000 in
theorem ggX8_about_X4_at : GoodIn wsX8_about wsX4_at := goodIn_r _ [7] (by decide +kernel) (by decide +kernel)
set_option maxRecDepth 20000 in
theorem gX8_about_X4_at : GoodIn wsX8_about (va_wsS RX8 130 yX4_at wsX4_at) := goodIn_app (goodIn_of _ (by decide +kernel)) ggX8_about_X4_at
set_option maxRecDepth 20000 in
theorem ggX8_about_X8_spansOf : GoodIn wsX8_about wsX8_spansOf := goodIn_r _ [12, 13, 4, 5, 6, 7, 14, 15, 16, 17, 18, 19, 20, 21, 22, 23, 24, 25] (by decide +kernel) (by decide +kernel)
set_option maxRecDepth 20000 in
theorem gX8_about_X8_spansOf : GoodIn wsX8_about (wsV RX8 136 RX8 yX8_spansOf wsX8_spansOf) := goodIn_app (goodIn_of _ (by decide +kernel)) ggX8_about_X8_spansOf
theorem dX8_about_0 : decode cX8_about 0 = .ok (.iload_n 2, 1) := by decide +kernel
theorem dX8_about_1 : decode cX8_about 1 = .ok (.ifCond .ne 12, 3) := by decide +kernel
theorem dX8_about_4 : decode cX8_about 4 = .ok (.aload_n 0, 1) := by decide +kernel
theorem dX8_about_5 : decode cX8_about 5 = .ok (.getfield 22, 3) := by decide +kernel
theorem dX8_about_8 : decode cX8_about 8 = .ok (.iload_n 1, 1) := by decide +kernel
theorem dX8_about_9 : decode cX8_about 9 = .ok (.invokestatic 130, 3) := by decide +kernel
theorem dX8_about_12 : decode cX8_about 12 = .ok (.ireturn, 1) := by decide +kernel
theorem dX8_about_13 : decode cX8_about 13 = .ok (.iload_n 2, 1) := by decide +kernel
theorem dX8_about_14 : decode cX8_about 14 = .ok (.iconst 1, 1) := by decide +kernel
theorem dX8_about_15 : decode cX8_about 15 = .ok (.if_icmp .ne 12, 3) := by decide +kernel
theorem dX8_about_18 : decode cX8_about 18 = .ok (.aload_n 0, 1) := by decide +kernel
theorem dX8_about_19 : decode cX8_about 19 = .ok (.getfield 25, 3) := by decide +kernel
theorem dX8_about_22 : decode cX8_about 22 = .ok (.iload_n 1, 1) := by decide +kernel
theorem dX8_about_23 : decode cX8_about 23 = .ok (.invokestatic 130, 3) := by decide +kernel
theorem dX8_about_26 : decode cX8_about 26 = .ok (.ireturn, 1) := by decide +kernel
theorem dX8_about_27 : decode cX8_about 27 = .ok (.iload_n 2, 1) := by decide +kernel
theorem dX8_about_28 : decode cX8_about 28 = .ok (.iconst 2, 1) := by decide +kernel
theorem dX8_about_29 : decode cX8_about 29 = .ok (.if_icmp .ne 11, 3) := by decide +kernel
theorem dX8_about_32 : decode cX8_about 32 = .ok (.aload_n 0, 1) := by decide +kernel
theorem dX8_about_33 : decode cX8_about 33 = .ok (.iload_n 1, 1) := by decide +kernel
theorem dX8_about_34 : decode cX8_about 34 = .ok (.invokevirtual 136, 3) := by decide +kernel
theorem dX8_about_37 : decode cX8_about 37 = .ok (.goto 11, 3) := by decide +kernel
theorem dX8_about_40 : decode cX8_about 40 = .ok (.aload_n 0, 1) := by decide +kernel
theorem dX8_about_41 : decode cX8_about 41 = .ok (.getfield 28, 3) := by decide +kernel
theorem dX8_about_44 : decode cX8_about 44 = .ok (.iload_n 1, 1) := by decide +kernel
theorem dX8_about_45 : decode cX8_about 45 = .ok (.invokestatic 130, 3) := by decide +kernel
theorem dX8_about_48 : decode cX8_about 48 = .ok (.ireturn, 1) := by decide +kernel
set_option maxRecDepth 20000 in
theorem ggX8_isRing_X4_at : GoodIn wsX8_isRing wsX4_at := goodIn_r _ [5] (by decide +kernel) (by decide +kernel)
set_option maxRecDepth 20000 in
theorem gX8_isRing_X4_at : GoodIn wsX8_isRing (va_wsS RX8 130 yX4_at wsX4_at) := goodIn_app (goodIn_of _ (by decide +kernel)) ggX8_isRing_X4_at
theorem dX8_isRing_0 : decode cX8_isRing 0 = .ok (.aload_n 0, 1) := by decide +kernel
theorem dX8_isRing_1 : decode cX8_isRing 1 = .ok (.getfield 28, 3) := by decide +kernel
theorem dX8_isRing_4 : decode cX8_isRing 4 = .ok (.iload_n 1, 1) := by decide +kernel
theorem dX8_isRing_5 : decode cX8_isRing 5 = .ok (.invokestatic 130, 3) := by decide +kernel
theorem dX8_isRing_8 : decode cX8_isRing 8 = .ok (.iconst 1, 1) := by decide +kernel
theorem dX8_isRing_9 : decode cX8_isRing 9 = .ok (.if_icmp .ne 7, 3) := by decide +kernel
theorem dX8_isRing_12 : decode cX8_isRing 12 = .ok (.iconst 1, 1) := by decide +kernel
theorem dX8_isRing_13 : decode cX8_isRing 13 = .ok (.goto 4, 3) := by decide +kernel
theorem dX8_isRing_16 : decode cX8_isRing 16 = .ok (.iconst 0, 1) := by decide +kernel
theorem dX8_isRing_17 : decode cX8_isRing 17 = .ok (.ireturn, 1) := by decide +kernel
set_option maxRecDepth 20000 in
theorem ggX8_totalLength_X4_at : GoodIn wsX8_totalLength wsX4_at := goodIn_r _ [6] (by decide +kernel) (by decide +kernel)
set_option maxRecDepth 20000 in
theorem gX8_totalLength_X4_at : GoodIn wsX8_totalLength (va_wsS RX8 130 yX4_at wsX4_at) := goodIn_app (goodIn_of _ (by decide +kernel)) ggX8_totalLength_X4_at
theorem dX8_totalLength_0 : decode cX8_totalLength 0 = .ok (.iconst 0, 1) := by decide +kernel
theorem dX8_totalLength_1 : decode cX8_totalLength 1 = .ok (.istore_n 1, 1) := by decide +kernel
theorem dX8_totalLength_2 : decode cX8_totalLength 2 = .ok (.iconst 0, 1) := by decide +kernel
theorem dX8_totalLength_3 : decode cX8_totalLength 3 = .ok (.istore_n 2, 1) := by decide +kernel
theorem dX8_totalLength_4 : decode cX8_totalLength 4 = .ok (.iload_n 2, 1) := by decide +kernel
theorem dX8_totalLength_5 : decode cX8_totalLength 5 = .ok (.aload_n 0, 1) := by decide +kernel
theorem dX8_totalLength_6 : decode cX8_totalLength 6 = .ok (.getfield 46, 3) := by decide +kernel
theorem dX8_totalLength_9 : decode cX8_totalLength 9 = .ok (.if_icmp .ge 20, 3) := by decide +kernel
theorem dX8_totalLength_12 : decode cX8_totalLength 12 = .ok (.iload_n 1, 1) := by decide +kernel
theorem dX8_totalLength_13 : decode cX8_totalLength 13 = .ok (.aload_n 0, 1) := by decide +kernel
theorem dX8_totalLength_14 : decode cX8_totalLength 14 = .ok (.getfield 25, 3) := by decide +kernel
theorem dX8_totalLength_17 : decode cX8_totalLength 17 = .ok (.iload_n 2, 1) := by decide +kernel
theorem dX8_totalLength_18 : decode cX8_totalLength 18 = .ok (.invokestatic 130, 3) := by decide +kernel
theorem dX8_totalLength_21 : decode cX8_totalLength 21 = .ok (.iadd, 1) := by decide +kernel
theorem dX8_totalLength_22 : decode cX8_totalLength 22 = .ok (.istore_n 1, 1) := by decide +kernel
theorem dX8_totalLength_23 : decode cX8_totalLength 23 = .ok (.iinc 2 1, 3) := by decide +kernel
theorem dX8_totalLength_26 : decode cX8_totalLength 26 = .ok (.goto (-22), 3) := by decide +kernel
theorem dX8_totalLength_29 : decode cX8_totalLength 29 = .ok (.iload_n 1, 1) := by decide +kernel
theorem dX8_totalLength_30 : decode cX8_totalLength 30 = .ok (.ireturn, 1) := by decide +kernel
set_option maxRecDepth 20000 in
theorem ggX8_firstSpanOf_X4_at : GoodIn wsX8_firstSpanOf wsX4_at := goodIn_r _ [5] (by decide +kernel) (by decide +kernel)
set_option maxRecDepth 20000 in
theorem gX8_firstSpanOf_X4_at : GoodIn wsX8_firstSpanOf (va_wsS RX8 130 yX4_at wsX4_at) := goodIn_app (goodIn_of _ (by decide +kernel)) ggX8_firstSpanOf_X4_at
theorem dX8_firstSpanOf_0 : decode cX8_firstSpanOf 0 = .ok (.aload_n 0, 1) := by decide +kernel
theorem dX8_firstSpanOf_1 : decode cX8_firstSpanOf 1 = .ok (.getfield 31, 3) := by decide +kernel
theorem dX8_firstSpanOf_4 : decode cX8_firstSpanOf 4 = .ok (.iload_n 1, 1) := by decide +kernel
theorem dX8_firstSpanOf_5 : decode cX8_firstSpanOf 5 = .ok (.invokestatic 130, 3) := by decide +kernel
theorem dX8_firstSpanOf_8 : decode cX8_firstSpanOf 8 = .ok (.ireturn, 1) := by decide +kernel
set_option maxRecDepth 20000 in
theorem ggX8_spansOf_X4_at : GoodIn wsX8_spansOf wsX4_at := goodIn_r _ [5] (by decide +kernel) (by decide +kernel)
set_option maxRecDepth 20000 in
theorem gX8_spansOf_X4_at : GoodIn wsX8_spansOf (va_wsS RX8 130 yX4_at wsX4_at) := goodIn_app (goodIn_of _ (by decide +kernel)) ggX8_spansOf_X4_at
theorem dX8_spansOf_0 : decode cX8_spansOf 0 = .ok (.aload_n 0, 1) := by decide +kernel
theorem dX8_spansOf_1 : decode cX8_spansOf 1 = .ok (.getfield 34, 3) := by decide +kernel
theorem dX8_spansOf_4 : decode cX8_spansOf 4 = .ok (.iload_n 1, 1) := by decide +kernel
theorem dX8_spansOf_5 : decode cX8_spansOf 5 = .ok (.invokestatic 130, 3) := by decide +kernel
theorem dX8_spansOf_8 : decode cX8_spansOf 8 = .ok (.ireturn, 1) := by decide +kernel
set_option maxRecDepth 20000 in
theorem ggX8_segmentOf_X4_at : GoodIn wsX8_segmentOf wsX4_at := goodIn_r _ [5] (by decide +kernel) (by decide +kernel)
set_option maxRecDepth 20000 in
theorem gX8_segmentOf_X4_at : GoodIn wsX8_segmentOf (va_wsS RX8 130 yX4_at wsX4_at) := goodIn_app (goodIn_of _ (by decide +kernel)) ggX8_segmentOf_X4_at
theorem dX8_segmentOf_0 : decode cX8_segmentOf 0 = .ok (.aload_n 0, 1) := by decide +kernel
theorem dX8_segmentOf_1 : decode cX8_segmentOf 1 = .ok (.getfield 37, 3) := by decide +kernel
theorem dX8_segmentOf_4 : decode cX8_segmentOf 4 = .ok (.iload_n 1, 1) := by decide +kernel
theorem dX8_segmentOf_5 : decode cX8_segmentOf 5 = .ok (.invokestatic 130, 3) := by decide +kernel
theorem dX8_segmentOf_8 : decode cX8_segmentOf 8 = .ok (.ireturn, 1) := by decide +kernel
set_option maxRecDepth 20000 in
theorem ggX8_fromOf_X4_at : GoodIn wsX8_fromOf wsX4_at := goodIn_r _ [5] (by decide +kernel) (by decide +kernel)
set_option maxRecDepth 20000 in
theorem gX8_fromOf_X4_at : GoodIn wsX8_fromOf (va_wsS RX8 130 yX4_at wsX4_at) := goodIn_app (goodIn_of _ (by decide +kernel)) ggX8_fromOf_X4_at
theorem dX8_fromOf_0 : decode cX8_fromOf 0 = .ok (.aload_n 0, 1) := by decide +kernel
theorem dX8_fromOf_1 : decode cX8_fromOf 1 = .ok (.getfield 40, 3) := by decide +kernel
theorem dX8_fromOf_4 : decode cX8_fromOf 4 = .ok (.iload_n 1, 1) := by decide +kernel
theorem dX8_fromOf_5 : decode cX8_fromOf 5 = .ok (.invokestatic 130, 3) := by decide +kernel
theorem dX8_fromOf_8 : decode cX8_fromOf 8 = .ok (.ireturn, 1) := by decide +kernel
set_option maxRecDepth 20000 in
theorem ggX8_toOf_X4_at : GoodIn wsX8_toOf wsX4_at := goodIn_r _ [5] (by decide +kernel) (by decide +kernel)
set_option maxRecDepth 20000 in
theorem gX8_toOf_X4_at : GoodIn wsX8_toOf (va_wsS RX8 130 yX4_at wsX4_at) := goodIn_app (goodIn_of _ (by decide +kernel)) ggX8_toOf_X4_at
theorem dX8_toOf_0 : decode cX8_toOf 0 = .ok (.aload_n 0, 1) := by decide +kernel
theorem dX8_toOf_1 : decode cX8_toOf 1 = .ok (.getfield 43, 3) := by decide +kernel
theorem dX8_toOf_4 : decode cX8_toOf 4 = .ok (.iload_n 1, 1) := by decide +kernel
theorem dX8_toOf_5 : decode cX8_toOf 5 = .ok (.invokestatic 130, 3) := by decide +kernel
theorem dX8_toOf_8 : decode cX8_toOf 8 = .ok (.ireturn, 1) := by decide +kernel
theorem dX9_init_0 : decode cX9_init 0 = .ok (.aload_n 0, 1) := by decide +kernel
theorem dX9_init_1 : decode cX9_init 1 = .ok (.invokespecial 3, 3) := by decide +kernel
theorem dX9_init_4 : decode cX9_init 4 = .ok (.aload_n 0, 1) := by decide +kernel
theorem dX9_init_5 : decode cX9_init 5 = .ok (.iconst 5, 1) := by decide +kernel
theorem dX9_init_6 : decode cX9_init 6 = .ok (.newarray .int, 2) := by decide +kernel
theorem dX9_init_8 : decode cX9_init 8 = .ok (.putfield 9, 3) := by decide +kernel
theorem dX9_init_11 : decode cX9_init 11 = .ok (.aload_n 0, 1) := by decide +kernel
theorem dX9_init_12 : decode cX9_init 12 = .ok (.bipush 32, 2) := by decide +kernel
theorem dX9_init_14 : decode cX9_init 14 = .ok (.newarray .int, 2) := by decide +kernel
theorem dX9_init_16 : decode cX9_init 16 = .ok (.putfield 15, 3) := by decide +kernel
theorem dX9_init_19 : decode cX9_init 19 = .ok (.aload_n 0, 1) := by decide +kernel
theorem dX9_init_20 : decode cX9_init 20 = .ok (.bipush 32, 2) := by decide +kernel
theorem dX9_init_22 : decode cX9_init 22 = .ok (.newarray .int, 2) := by decide +kernel
theorem dX9_init_24 : decode cX9_init 24 = .ok (.putfield 18, 3) := by decide +kernel
theorem dX9_init_27 : decode cX9_init 27 = .ok (.aload_n 0, 1) := by decide +kernel
theorem dX9_init_28 : decode cX9_init 28 = .ok (.bipush 32, 2) := by decide +kernel
theorem dX9_init_30 : decode cX9_init 30 = .ok (.newarray .int, 2) := by decide +kernel
theorem dX9_init_32 : decode cX9_init 32 = .ok (.putfield 21, 3) := by decide +kernel
theorem dX9_init_35 : decode cX9_init 35 = .ok (.aload_n 0, 1) := by decide +kernel
theorem dX9_init_36 : decode cX9_init 36 = .ok (.bipush 32, 2) := by decide +kernel
theorem dX9_init_38 : decode cX9_init 38 = .ok (.newarray .int, 2) := by decide +kernel
theorem dX9_init_40 : decode cX9_init 40 = .ok (.putfield 24, 3) := by decide +kernel
theorem dX9_init_43 : decode cX9_init 43 = .ok (.aload_n 0, 1) := by decide +kernel
theorem dX9_init_44 : decode cX9_init 44 = .ok (.bipush 32, 2) := by decide +kernel
theorem dX9_init_46 : decode cX9_init 46 = .ok (.newarray .int, 2) := by decide +kernel
theorem dX9_init_48 : decode cX9_init 48 = .ok (.putfield 27, 3) := by decide +kernel
theorem dX9_init_51 : decode cX9_init 51 = .ok (.aload_n 0, 1) := by decide +kernel
theorem dX9_init_52 : decode cX9_init 52 = .ok (.bipush 32, 2) := by decide +kernel
theorem dX9_init_54 : decode cX9_init 54 = .ok (.newarray .int, 2) := by decide +kernel
theorem dX9_init_56 : decode cX9_init 56 = .ok (.putfield 30, 3) := by decide +kernel
theorem dX9_init_59 : decode cX9_init 59 = .ok (.aload_n 0, 1) := by decide +kernel
theorem dX9_init_60 : decode cX9_init 60 = .ok (.bipush 32, 2) := by decide +kernel
theorem dX9_init_62 : decode cX9_init 62 = .ok (.newarray .int, 2) := by decide +kernel
theorem dX9_init_64 : decode cX9_init 64 = .ok (.putfield 33, 3) := by decide +kernel
theorem dX9_init_67 : decode cX9_init 67 = .ok (.aload_n 0, 1) := by decide +kernel
theorem dX9_init_68 : decode cX9_init 68 = .ok (.bipush 32, 2) := by decide +kernel
theorem dX9_init_70 : decode cX9_init 70 = .ok (.newarray .int, 2) := by decide +kernel
theorem dX9_init_72 : decode cX9_init 72 = .ok (.putfield 36, 3) := by decide +kernel
theorem dX9_init_75 : decode cX9_init 75 = .ok (.aload_n 0, 1) := by decide +kernel
theorem dX9_init_76 : decode cX9_init 76 = .ok (.bipush 32, 2) := by decide +kernel
theorem dX9_init_78 : decode cX9_init 78 = .ok (.newarray .int, 2) := by decide +kernel
theorem dX9_init_80 : decode cX9_init 80 = .ok (.putfield 39, 3) := by decide +kernel
theorem dX9_init_83 : decode cX9_init 83 = .ok (.return_, 1) := by decide +kernel
set_option maxRecDepth 20000 in
theorem ggX9_measure_X1_halfWidth : GoodIn wsX9_measure wsX1_halfWidth := goodIn_r _ [7, 8, 9, 10, 6, 11, 12, 69] (by decide +kernel) (by decide +kernel)
set_option maxRecDepth 20000 in
theorem gX9_measure_X1_halfWidth : GoodIn wsX9_measure (wsV RX9 42 RX1 yX1_halfWidth wsX1_halfWidth) := goodIn_app (goodIn_of _ (by decide +kernel)) ggX9_measure_X1_halfWidth
set_option maxRecDepth 20000 in
theorem ggX9_measure_X1_pointCount : GoodIn wsX9_measure wsX1_pointCount := goodIn_r _ [16, 8, 9, 10, 6, 11, 12, 17, 18, 19, 69] (by decide +kernel) (by decide +kernel)
set_option maxRecDepth 20000 in
theorem gX9_measure_X1_pointCount : GoodIn wsX9_measure (wsV RX9 52 RX1 yX1_pointCount wsX1_pointCount) := goodIn_app (goodIn_of _ (by decide +kernel)) ggX9_measure_X1_pointCount
set_option maxRecDepth 20000 in
theorem ggX9_measure_X1_isClosed : GoodIn wsX9_measure wsX1_isClosed := goodIn_r _ [23, 8, 9, 10, 6, 11, 12, 17, 18, 19, 69] (by decide +kernel) (by decide +kernel)
set_option maxRecDepth 20000 in
theorem gX9_measure_X1_isClosed : GoodIn wsX9_measure (wsV RX9 56 RX1 yX1_isClosed wsX1_isClosed) := goodIn_app (goodIn_of _ (by decide +kernel)) ggX9_measure_X1_isClosed
set_option maxRecDepth 20000 in
theorem ggX9_measure_X1_xOf : GoodIn wsX9_measure wsX1_xOf := goodIn_r _ [27, 28, 29, 6, 30, 8, 9, 10, 11, 12, 69] (by decide +kernel) (by decide +kernel)
set_option maxRecDepth 20000 in
theorem gX9_measure_X1_xOf : GoodIn wsX9_measure (wsV RX9 60 RX1 yX1_xOf wsX1_xOf) := goodIn_app (goodIn_of _ (by decide +kernel)) ggX9_measure_X1_xOf
set_option maxRecDepth 20000 in
theorem ggX9_measure_X1_yOf : GoodIn wsX9_measure wsX1_yOf := goodIn_r _ [34, 28, 29, 6, 30, 8, 9, 10, 11, 12, 69] (by decide +kernel) (by decide +kernel)
set_option maxRecDepth 20000 in
theorem gX9_measure_X1_yOf : GoodIn wsX9_measure (wsV RX9 64 RX1 yX1_yOf wsX1_yOf) := goodIn_app (goodIn_of _ (by decide +kernel)) ggX9_measure_X1_yOf
set_option maxRecDepth 20000 in
theorem ggX9_measure_X9_addSegment : GoodIn wsX9_measure wsX9_addSegment := goodIn_r _ [39, 1, 40, 41, 42, 43, 44, 45, 46, 47, 48, 49, 50, 51, 52, 53, 54, 55, 56, 57, 58, 59, 60, 61, 62, 63, 64, 65, 66, 67, 68] (by decide +kernel) (by decide +kernel)
set_option maxRecDepth 20000 in
theorem gX9_measure_X9_addSegment : GoodIn wsX9_measure (wsV RX9 67 RX9 yX9_addSegment wsX9_addSegment) := goodIn_app (goodIn_of _ (by decide +kernel)) ggX9_measure_X9_addSegment
theorem dX9_measure_0 : decode cX9_measure 0 = .ok (.bipush 64, 2) := by decide +kernel
theorem dX9_measure_2 : decode cX9_measure 2 = .ok (.aload_n 1, 1) := by decide +kernel
theorem dX9_measure_3 : decode cX9_measure 3 = .ok (.invokevirtual 42, 3) := by decide +kernel
theorem dX9_measure_6 : decode cX9_measure 6 = .ok (.imul, 1) := by decide +kernel
theorem dX9_measure_7 : decode cX9_measure 7 = .ok (.istore_n 2, 1) := by decide +kernel
theorem dX9_measure_8 : decode cX9_measure 8 = .ok (.aload_n 0, 1) := by decide +kernel
theorem dX9_measure_9 : decode cX9_measure 9 = .ok (.iconst 0, 1) := by decide +kernel
theorem dX9_measure_10 : decode cX9_measure 10 = .ok (.putfield 48, 3) := by decide +kernel
theorem dX9_measure_13 : decode cX9_measure 13 = .ok (.iconst 0, 1) := by decide +kernel
theorem dX9_measure_14 : decode cX9_measure 14 = .ok (.istore_n 3, 1) := by decide +kernel
theorem dX9_measure_15 : decode cX9_measure 15 = .ok (.iload_n 3, 1) := by decide +kernel
theorem dX9_measure_16 : decode cX9_measure 16 = .ok (.iconst 4, 1) := by decide +kernel
theorem dX9_measure_17 : decode cX9_measure 17 = .ok (.if_icmp .ge 136, 3) := by decide +kernel
theorem dX9_measure_20 : decode cX9_measure 20 = .ok (.aload_n 0, 1) := by decide +kernel
theorem dX9_measure_21 : decode cX9_measure 21 = .ok (.getfield 9, 3) := by decide +kernel
theorem dX9_measure_24 : decode cX9_measure 24 = .ok (.iload_n 3, 1) := by decide +kernel
theorem dX9_measure_25 : decode cX9_measure 25 = .ok (.aload_n 0, 1) := by decide +kernel
theorem dX9_measure_26 : decode cX9_measure 26 = .ok (.getfield 48, 3) := by decide +kernel
theorem dX9_measure_29 : decode cX9_measure 29 = .ok (.iastore, 1) := by decide +kernel
theorem dX9_measure_30 : decode cX9_measure 30 = .ok (.aload_n 1, 1) := by decide +kernel
theorem dX9_measure_31 : decode cX9_measure 31 = .ok (.iload_n 3, 1) := by decide +kernel
theorem dX9_measure_32 : decode cX9_measure 32 = .ok (.invokevirtual 52, 3) := by decide +kernel
theorem dX9_measure_35 : decode cX9_measure 35 = .ok (.istore 4, 2) := by decide +kernel
theorem dX9_measure_37 : decode cX9_measure 37 = .ok (.aload_n 1, 1) := by decide +kernel
theorem dX9_measure_38 : decode cX9_measure 38 = .ok (.iload_n 3, 1) := by decide +kernel
theorem dX9_measure_39 : decode cX9_measure 39 = .ok (.invokevirtual 56, 3) := by decide +kernel
theorem dX9_measure_42 : decode cX9_measure 42 = .ok (.ifCond .eq 8, 3) := by decide +kernel
theorem dX9_measure_45 : decode cX9_measure 45 = .ok (.iload 4, 2) := by decide +kernel
theorem dX9_measure_47 : decode cX9_measure 47 = .ok (.goto 7, 3) := by decide +kernel
theorem dX9_measure_50 : decode cX9_measure 50 = .ok (.iload 4, 2) := by decide +kernel
theorem dX9_measure_52 : decode cX9_measure 52 = .ok (.iconst 1, 1) := by decide +kernel
theorem dX9_measure_53 : decode cX9_measure 53 = .ok (.isub, 1) := by decide +kernel
theorem dX9_measure_54 : decode cX9_measure 54 = .ok (.istore 5, 2) := by decide +kernel
theorem dX9_measure_56 : decode cX9_measure 56 = .ok (.iconst 0, 1) := by decide +kernel
theorem dX9_measure_57 : decode cX9_measure 57 = .ok (.istore 6, 2) := by decide +kernel
theorem dX9_measure_59 : decode cX9_measure 59 = .ok (.iload 6, 2) := by decide +kernel
theorem dX9_measure_61 : decode cX9_measure 61 = .ok (.iload 5, 2) := by decide +kernel
theorem dX9_measure_63 : decode cX9_measure 63 = .ok (.if_icmp .ge 84, 3) := by decide +kernel
theorem dX9_measure_66 : decode cX9_measure 66 = .ok (.iload 6, 2) := by decide +kernel
theorem dX9_measure_68 : decode cX9_measure 68 = .ok (.iconst 1, 1) := by decide +kernel
theorem dX9_measure_69 : decode cX9_measure 69 = .ok (.iadd, 1) := by decide +kernel
theorem dX9_measure_70 : decode cX9_measure 70 = .ok (.iload 4, 2) := by decide +kernel
theorem dX9_measure_72 : decode cX9_measure 72 = .ok (.if_icmp .ge 10, 3) := by decide +kernel
theorem dX9_measure_75 : decode cX9_measure 75 = .ok (.iload 6, 2) := by decide +kernel
theorem dX9_measure_77 : decode cX9_measure 77 = .ok (.iconst 1, 1) := by decide +kernel
theorem dX9_measure_78 : decode cX9_measure 78 = .ok (.iadd, 1) := by decide +kernel
theorem dX9_measure_79 : decode cX9_measure 79 = .ok (.goto 4, 3) := by decide +kernel
theorem dX9_measure_82 : decode cX9_measure 82 = .ok (.iconst 0, 1) := by decide +kernel
theorem dX9_measure_83 : decode cX9_measure 83 = .ok (.istore 7, 2) := by decide +kernel
theorem dX9_measure_85 : decode cX9_measure 85 = .ok (.aload_n 1, 1) := by decide +kernel
theorem dX9_measure_86 : decode cX9_measure 86 = .ok (.iload_n 3, 1) := by decide +kernel
theorem dX9_measure_87 : decode cX9_measure 87 = .ok (.iload 6, 2) := by decide +kernel
theorem dX9_measure_89 : decode cX9_measure 89 = .ok (.invokevirtual 60, 3) := by decide +kernel
theorem dX9_measure_92 : decode cX9_measure 92 = .ok (.istore 8, 2) := by decide +kernel
theorem dX9_measure_94 : decode cX9_measure 94 = .ok (.aload_n 1, 1) := by decide +kernel
theorem dX9_measure_95 : decode cX9_measure 95 = .ok (.iload_n 3, 1) := by decide +kernel
theorem dX9_measure_96 : decode cX9_measure 96 = .ok (.iload 6, 2) := by decide +kernel
theorem dX9_measure_98 : decode cX9_measure 98 = .ok (.invokevirtual 64, 3) := by decide +kernel
theorem dX9_measure_101 : decode cX9_measure 101 = .ok (.istore 9, 2) := by decide +kernel
theorem dX9_measure_103 : decode cX9_measure 103 = .ok (.aload_n 1, 1) := by decide +kernel
theorem dX9_measure_104 : decode cX9_measure 104 = .ok (.iload_n 3, 1) := by decide +kernel
theorem dX9_measure_105 : decode cX9_measure 105 = .ok (.iload 7, 2) := by decide +kernel
theorem dX9_measure_107 : decode cX9_measure 107 = .ok (.invokevirtual 60, 3) := by decide +kernel
theorem dX9_measure_110 : decode cX9_measure 110 = .ok (.iload 8, 2) := by decide +kernel
theorem dX9_measure_112 : decode cX9_measure 112 = .ok (.isub, 1) := by decide +kernel
theorem dX9_measure_113 : decode cX9_measure 113 = .ok (.istore 10, 2) := by decide +kernel
theorem dX9_measure_115 : decode cX9_measure 115 = .ok (.aload_n 1, 1) := by decide +kernel
theorem dX9_measure_116 : decode cX9_measure 116 = .ok (.iload_n 3, 1) := by decide +kernel
theorem dX9_measure_117 : decode cX9_measure 117 = .ok (.iload 7, 2) := by decide +kernel
theorem dX9_measure_119 : decode cX9_measure 119 = .ok (.invokevirtual 64, 3) := by decide +kernel
theorem dX9_measure_122 : decode cX9_measure 122 = .ok (.iload 9, 2) := by decide +kernel
theorem dX9_measure_124 : decode cX9_measure 124 = .ok (.isub, 1) := by decide +kernel
theorem dX9_measure_125 : decode cX9_measure 125 = .ok (.istore 11, 2) := by decide +kernel
theorem dX9_measure_127 : decode cX9_measure 127 = .ok (.aload_n 0, 1) := by decide +kernel
theorem dX9_measure_128 : decode cX9_measure 128 = .ok (.iload 8, 2) := by decide +kernel
theorem dX9_measure_130 : decode cX9_measure 130 = .ok (.iload 9, 2) := by decide +kernel
theorem dX9_measure_132 : decode cX9_measure 132 = .ok (.iload 10, 2) := by decide +kernel
theorem dX9_measure_134 : decode cX9_measure 134 = .ok (.iload 11, 2) := by decide +kernel
theorem dX9_measure_136 : decode cX9_measure 136 = .ok (.iload_n 2, 1) := by decide +kernel
theorem dX9_measure_137 : decode cX9_measure 137 = .ok (.i2l, 1) := by decide +kernel
theorem dX9_measure_138 : decode cX9_measure 138 = .ok (.invokevirtual 67, 3) := by decide +kernel
theorem dX9_measure_141 : decode cX9_measure 141 = .ok (.iinc 6 1, 3) := by decide +kernel
theorem dX9_measure_144 : decode cX9_measure 144 = .ok (.goto (-85), 3) := by decide +kernel
theorem dX9_measure_147 : decode cX9_measure 147 = .ok (.iinc 3 1, 3) := by decide +kernel
theorem dX9_measure_150 : decode cX9_measure 150 = .ok (.goto (-135), 3) := by decide +kernel
theorem dX9_measure_153 : decode cX9_measure 153 = .ok (.aload_n 0, 1) := by decide +kernel
theorem dX9_measure_154 : decode cX9_measure 154 = .ok (.getfield 9, 3) := by decide +kernel
theorem dX9_measure_157 : decode cX9_measure 157 = .ok (.iconst 4, 1) := by decide +kernel
theorem dX9_measure_158 : decode cX9_measure 158 = .ok (.aload_n 0, 1) := by decide +kernel
theorem dX9_measure_159 : decode cX9_measure 159 = .ok (.getfield 48, 3) := by decide +kernel
theorem dX9_measure_162 : decode cX9_measure 162 = .ok (.iastore, 1) := by decide +kernel
theorem dX9_measure_163 : decode cX9_measure 163 = .ok (.return_, 1) := by decide +kernel
set_option maxRecDepth 20000 in
theorem ggX9_addSegment_X4_root : GoodIn wsX9_addSegment wsX4_root := goodIn_r _ [14, 15] (by decide +kernel) (by decide +kernel)
set_option maxRecDepth 20000 in
theorem gX9_addSegment_X4_root : GoodIn wsX9_addSegment (va_wsS RX9 71 yX4_root wsX4_root) := goodIn_app (goodIn_of _ (by decide +kernel)) ggX9_addSegment_X4_root
set_option maxRecDepth 20000 in
theorem ggX9_addSegment_X4_round : GoodIn wsX9_addSegment wsX4_round := goodIn_r _ [18, 19] (by decide +kernel) (by decide +kernel)
set_option maxRecDepth 20000 in
theorem gX9_addSegment_X4_round : GoodIn wsX9_addSegment (va_wsS RX9 77 yX4_round wsX4_round) := goodIn_app (goodIn_of _ (by decide +kernel)) ggX9_addSegment_X4_round
theorem dX9_addSegment_0 : decode cX9_addSegment 0 = .ok (.aload_n 0, 1) := by decide +kernel
theorem dX9_addSegment_1 : decode cX9_addSegment 1 = .ok (.getfield 48, 3) := by decide +kernel
theorem dX9_addSegment_4 : decode cX9_addSegment 4 = .ok (.istore 7, 2) := by decide +kernel
theorem dX9_addSegment_6 : decode cX9_addSegment 6 = .ok (.iload_n 3, 1) := by decide +kernel
theorem dX9_addSegment_7 : decode cX9_addSegment 7 = .ok (.ifCond .ne 8, 3) := by decide +kernel
theorem dX9_addSegment_10 : decode cX9_addSegment 10 = .ok (.iload 4, 2) := by decide +kernel
theorem dX9_addSegment_12 : decode cX9_addSegment 12 = .ok (.ifCond .eq 15, 3) := by decide +kernel
theorem dX9_addSegment_15 : decode cX9_addSegment 15 = .ok (.iload 7, 2) := by decide +kernel
theorem dX9_addSegment_17 : decode cX9_addSegment 17 = .ok (.ifCond .lt 10, 3) := by decide +kernel
theorem dX9_addSegment_20 : decode cX9_addSegment 20 = .ok (.iload 7, 2) := by decide +kernel
theorem dX9_addSegment_22 : decode cX9_addSegment 22 = .ok (.bipush 32, 2) := by decide +kernel
theorem dX9_addSegment_24 : decode cX9_addSegment 24 = .ok (.if_icmp .lt 4, 3) := by decide +kernel
theorem dX9_addSegment_27 : decode cX9_addSegment 27 = .ok (.return_, 1) := by decide +kernel
theorem dX9_addSegment_28 : decode cX9_addSegment 28 = .ok (.aload_n 0, 1) := by decide +kernel
theorem dX9_addSegment_29 : decode cX9_addSegment 29 = .ok (.getfield 15, 3) := by decide +kernel
theorem dX9_addSegment_32 : decode cX9_addSegment 32 = .ok (.iload 7, 2) := by decide +kernel
theorem dX9_addSegment_34 : decode cX9_addSegment 34 = .ok (.bipush 64, 2) := by decide +kernel
theorem dX9_addSegment_36 : decode cX9_addSegment 36 = .ok (.iload_n 1, 1) := by decide +kernel
theorem dX9_addSegment_37 : decode cX9_addSegment 37 = .ok (.imul, 1) := by decide +kernel
theorem dX9_addSegment_38 : decode cX9_addSegment 38 = .ok (.iastore, 1) := by decide +kernel
theorem dX9_addSegment_39 : decode cX9_addSegment 39 = .ok (.aload_n 0, 1) := by decide +kernel
theorem dX9_addSegment_40 : decode cX9_addSegment 40 = .ok (.getfield 18, 3) := by decide +kernel
theorem dX9_addSegment_43 : decode cX9_addSegment 43 = .ok (.iload 7, 2) := by decide +kernel
theorem dX9_addSegment_45 : decode cX9_addSegment 45 = .ok (.bipush 64, 2) := by decide +kernel
theorem dX9_addSegment_47 : decode cX9_addSegment 47 = .ok (.iload_n 2, 1) := by decide +kernel
theorem dX9_addSegment_48 : decode cX9_addSegment 48 = .ok (.imul, 1) := by decide +kernel
theorem dX9_addSegment_49 : decode cX9_addSegment 49 = .ok (.iastore, 1) := by decide +kernel
theorem dX9_addSegment_50 : decode cX9_addSegment 50 = .ok (.aload_n 0, 1) := by decide +kernel
theorem dX9_addSegment_51 : decode cX9_addSegment 51 = .ok (.getfield 21, 3) := by decide +kernel
theorem dX9_addSegment_54 : decode cX9_addSegment 54 = .ok (.iload 7, 2) := by decide +kernel
theorem dX9_addSegment_56 : decode cX9_addSegment 56 = .ok (.iload_n 3, 1) := by decide +kernel
theorem dX9_addSegment_57 : decode cX9_addSegment 57 = .ok (.iastore, 1) := by decide +kernel
theorem dX9_addSegment_58 : decode cX9_addSegment 58 = .ok (.aload_n 0, 1) := by decide +kernel
theorem dX9_addSegment_59 : decode cX9_addSegment 59 = .ok (.getfield 24, 3) := by decide +kernel
theorem dX9_addSegment_62 : decode cX9_addSegment 62 = .ok (.iload 7, 2) := by decide +kernel
theorem dX9_addSegment_64 : decode cX9_addSegment 64 = .ok (.iload 4, 2) := by decide +kernel
theorem dX9_addSegment_66 : decode cX9_addSegment 66 = .ok (.iastore, 1) := by decide +kernel
theorem dX9_addSegment_67 : decode cX9_addSegment 67 = .ok (.aload_n 0, 1) := by decide +kernel
theorem dX9_addSegment_68 : decode cX9_addSegment 68 = .ok (.getfield 27, 3) := by decide +kernel
theorem dX9_addSegment_71 : decode cX9_addSegment 71 = .ok (.iload 7, 2) := by decide +kernel
theorem dX9_addSegment_73 : decode cX9_addSegment 73 = .ok (.sipush 4096, 3) := by decide +kernel
theorem dX9_addSegment_76 : decode cX9_addSegment 76 = .ok (.iload_n 3, 1) := by decide +kernel
theorem dX9_addSegment_77 : decode cX9_addSegment 77 = .ok (.iload_n 3, 1) := by decide +kernel
theorem dX9_addSegment_78 : decode cX9_addSegment 78 = .ok (.imul, 1) := by decide +kernel
theorem dX9_addSegment_79 : decode cX9_addSegment 79 = .ok (.iload 4, 2) := by decide +kernel
theorem dX9_addSegment_81 : decode cX9_addSegment 81 = .ok (.iload 4, 2) := by decide +kernel
theorem dX9_addSegment_83 : decode cX9_addSegment 83 = .ok (.imul, 1) := by decide +kernel
theorem dX9_addSegment_84 : decode cX9_addSegment 84 = .ok (.iadd, 1) := by decide +kernel
theorem dX9_addSegment_85 : decode cX9_addSegment 85 = .ok (.imul, 1) := by decide +kernel
theorem dX9_addSegment_86 : decode cX9_addSegment 86 = .ok (.i2l, 1) := by decide +kernel
theorem dX9_addSegment_87 : decode cX9_addSegment 87 = .ok (.invokestatic 71, 3) := by decide +kernel
theorem dX9_addSegment_90 : decode cX9_addSegment 90 = .ok (.iastore, 1) := by decide +kernel
theorem dX9_addSegment_91 : decode cX9_addSegment 91 = .ok (.aload_n 0, 1) := by decide +kernel
theorem dX9_addSegment_92 : decode cX9_addSegment 92 = .ok (.getfield 30, 3) := by decide +kernel
theorem dX9_addSegment_95 : decode cX9_addSegment 95 = .ok (.iload 7, 2) := by decide +kernel
theorem dX9_addSegment_97 : decode cX9_addSegment 97 = .ok (.iload 4, 2) := by decide +kernel
theorem dX9_addSegment_99 : decode cX9_addSegment 99 = .ok (.ineg, 1) := by decide +kernel
theorem dX9_addSegment_100 : decode cX9_addSegment 100 = .ok (.i2l, 1) := by decide +kernel
theorem dX9_addSegment_101 : decode cX9_addSegment 101 = .ok (.lload 5, 2) := by decide +kernel
theorem dX9_addSegment_103 : decode cX9_addSegment 103 = .ok (.lmul, 1) := by decide +kernel
theorem dX9_addSegment_104 : decode cX9_addSegment 104 = .ok (.aload_n 0, 1) := by decide +kernel
theorem dX9_addSegment_105 : decode cX9_addSegment 105 = .ok (.getfield 27, 3) := by decide +kernel
theorem dX9_addSegment_108 : decode cX9_addSegment 108 = .ok (.iload 7, 2) := by decide +kernel
theorem dX9_addSegment_110 : decode cX9_addSegment 110 = .ok (.iaload, 1) := by decide +kernel
theorem dX9_addSegment_111 : decode cX9_addSegment 111 = .ok (.i2l, 1) := by decide +kernel
theorem dX9_addSegment_112 : decode cX9_addSegment 112 = .ok (.invokestatic 77, 3) := by decide +kernel
theorem dX9_addSegment_115 : decode cX9_addSegment 115 = .ok (.iastore, 1) := by decide +kernel
theorem dX9_addSegment_116 : decode cX9_addSegment 116 = .ok (.aload_n 0, 1) := by decide +kernel
theorem dX9_addSegment_117 : decode cX9_addSegment 117 = .ok (.getfield 33, 3) := by decide +kernel
theorem dX9_addSegment_120 : decode cX9_addSegment 120 = .ok (.iload 7, 2) := by decide +kernel
theorem dX9_addSegment_122 : decode cX9_addSegment 122 = .ok (.iload_n 3, 1) := by decide +kernel
theorem dX9_addSegment_123 : decode cX9_addSegment 123 = .ok (.i2l, 1) := by decide +kernel
theorem dX9_addSegment_124 : decode cX9_addSegment 124 = .ok (.lload 5, 2) := by decide +kernel
theorem dX9_addSegment_126 : decode cX9_addSegment 126 = .ok (.lmul, 1) := by decide +kernel
theorem dX9_addSegment_127 : decode cX9_addSegment 127 = .ok (.aload_n 0, 1) := by decide +kernel
theorem dX9_addSegment_128 : decode cX9_addSegment 128 = .ok (.getfield 27, 3) := by decide +kernel
theorem dX9_addSegment_131 : decode cX9_addSegment 131 = .ok (.iload 7, 2) := by decide +kernel
theorem dX9_addSegment_133 : decode cX9_addSegment 133 = .ok (.iaload, 1) := by decide +kernel
theorem dX9_addSegment_134 : decode cX9_addSegment 134 = .ok (.i2l, 1) := by decide +kernel
theorem dX9_addSegment_135 : decode cX9_addSegment 135 = .ok (.invokestatic 77, 3) := by decide +kernel
theorem dX9_addSegment_138 : decode cX9_addSegment 138 = .ok (.iastore, 1) := by decide +kernel
theorem dX9_addSegment_139 : decode cX9_addSegment 139 = .ok (.aload_n 0, 1) := by decide +kernel
theorem dX9_addSegment_140 : decode cX9_addSegment 140 = .ok (.getfield 36, 3) := by decide +kernel
theorem dX9_addSegment_143 : decode cX9_addSegment 143 = .ok (.iload 7, 2) := by decide +kernel
theorem dX9_addSegment_145 : decode cX9_addSegment 145 = .ok (.iload_n 3, 1) := by decide +kernel
theorem dX9_addSegment_146 : decode cX9_addSegment 146 = .ok (.i2l, 1) := by decide +kernel
theorem dX9_addSegment_147 : decode cX9_addSegment 147 = .ok (.lload 5, 2) := by decide +kernel
theorem dX9_addSegment_149 : decode cX9_addSegment 149 = .ok (.lmul, 1) := by decide +kernel
theorem dX9_addSegment_150 : decode cX9_addSegment 150 = .ok (.aload_n 0, 1) := by decide +kernel
theorem dX9_addSegment_151 : decode cX9_addSegment 151 = .ok (.getfield 27, 3) := by decide +kernel
theorem dX9_addSegment_154 : decode cX9_addSegment 154 = .ok (.iload 7, 2) := by decide +kernel
theorem dX9_addSegment_156 : decode cX9_addSegment 156 = .ok (.iaload, 1) := by decide +kernel
theorem dX9_addSegment_157 : decode cX9_addSegment 157 = .ok (.i2l, 1) := by decide +kernel
theorem dX9_addSegment_158 : decode cX9_addSegment 158 = .ok (.invokestatic 77, 3) := by decide +kernel
theorem dX9_addSegment_161 : decode cX9_addSegment 161 = .ok (.iastore, 1) := by decide +kernel
theorem dX9_addSegment_162 : decode cX9_addSegment 162 = .ok (.aload_n 0, 1) := by decide +kernel
theorem dX9_addSegment_163 : decode cX9_addSegment 163 = .ok (.getfield 39, 3) := by decide +kernel
theorem dX9_addSegment_166 : decode cX9_addSegment 166 = .ok (.iload 7, 2) := by decide +kernel
