theorem dX9_addSegment_168 : decode cX9_addSegment 168 = .ok (.iload 4, 2) := by decide +kernel
theorem dX9_addSegment_170 : decode cX9_addSegment 170 = .ok (.i2l, 1) := by decide +kernel
theorem dX9_addSegment_171 : decode cX9_addSegment 171 = .ok (.lload 5, 2) := by decide +kernel
theorem dX9_addSegment_173 : decode cX9_addSegment 173 = .ok (.lmul, 1) := by decide +kernel
theorem dX9_addSegment_174 : decode cX9_addSegment 174 = .ok (.aload_n 0, 1) := by decide +kernel
theorem dX9_addSegment_175 : decode cX9_addSegment 175 = .ok (.getfield 27, 3) := by decide +kernel
theorem dX9_addSegment_178 : decode cX9_addSegment 178 = .ok (.iload 7, 2) := by decide +kernel
theorem dX9_addSegment_180 : decode cX9_addSegment 180 = .ok (.iaload, 1) := by decide +kernel
theorem dX9_addSegment_181 : decode cX9_addSegment 181 = .ok (.i2l, 1) := by decide +kernel
theorem dX9_addSegment_182 : decode cX9_addSegment 182 = .ok (.invokestatic 77, 3) := by decide +kernel
theorem dX9_addSegment_185 : decode cX9_addSegment 185 = .ok (.iastore, 1) := by decide +kernel
theorem dX9_addSegment_186 : decode cX9_addSegment 186 = .ok (.aload_n 0, 1) := by decide +kernel
theorem dX9_addSegment_187 : decode cX9_addSegment 187 = .ok (.dup, 1) := by decide +kernel
theorem dX9_addSegment_188 : decode cX9_addSegment 188 = .ok (.getfield 48, 3) := by decide +kernel
theorem dX9_addSegment_191 : decode cX9_addSegment 191 = .ok (.iconst 1, 1) := by decide +kernel
theorem dX9_addSegment_192 : decode cX9_addSegment 192 = .ok (.iadd, 1) := by decide +kernel
theorem dX9_addSegment_193 : decode cX9_addSegment 193 = .ok (.putfield 48, 3) := by decide +kernel
theorem dX9_addSegment_196 : decode cX9_addSegment 196 = .ok (.return_, 1) := by decide +kernel
set_option maxRecDepth 20000 in
theorem ggX9_firstOf_X4_at : GoodIn wsX9_firstOf wsX4_at := goodIn_r _ [5] (by decide +kernel) (by decide +kernel)
set_option maxRecDepth 20000 in
theorem gX9_firstOf_X4_at : GoodIn wsX9_firstOf (va_wsS RX9 81 yX4_at wsX4_at) := goodIn_app (goodIn_of _ (by decide +kernel)) ggX9_firstOf_X4_at
theorem dX9_firstOf_0 : decode cX9_firstOf 0 = .ok (.aload_n 0, 1) := by decide +kernel
theorem dX9_firstOf_1 : decode cX9_firstOf 1 = .ok (.getfield 9, 3) := by decide +kernel
theorem dX9_firstOf_4 : decode cX9_firstOf 4 = .ok (.iload_n 1, 1) := by decide +kernel
theorem dX9_firstOf_5 : decode cX9_firstOf 5 = .ok (.invokestatic 81, 3) := by decide +kernel
theorem dX9_firstOf_8 : decode cX9_firstOf 8 = .ok (.ireturn, 1) := by decide +kernel
set_option maxRecDepth 20000 in
theorem ggX9_endOf_X4_at : GoodIn wsX9_endOf wsX4_at := goodIn_r _ [5] (by decide +kernel) (by decide +kernel)
set_option maxRecDepth 20000 in
theorem gX9_endOf_X4_at : GoodIn wsX9_endOf (va_wsS RX9 81 yX4_at wsX4_at) := goodIn_app (goodIn_of _ (by decide +kernel)) ggX9_endOf_X4_at
theorem dX9_endOf_0 : decode cX9_endOf 0 = .ok (.aload_n 0, 1) := by decide +kernel
theorem dX9_endOf_1 : decode cX9_endOf 1 = .ok (.getfield 9, 3) := by decide +kernel
theorem dX9_endOf_4 : decode cX9_endOf 4 = .ok (.iload_n 1, 1) := by decide +kernel
theorem dX9_endOf_5 : decode cX9_endOf 5 = .ok (.iconst 1, 1) := by decide +kernel
theorem dX9_endOf_6 : decode cX9_endOf 6 = .ok (.iadd, 1) := by decide +kernel
theorem dX9_endOf_7 : decode cX9_endOf 7 = .ok (.invokestatic 81, 3) := by decide +kernel
theorem dX9_endOf_10 : decode cX9_endOf 10 = .ok (.ireturn, 1) := by decide +kernel
set_option maxRecDepth 20000 in
theorem ggX9_countOf_X9_endOf : GoodIn wsX9_countOf wsX9_endOf := goodIn_r _ [5, 6, 7, 8, 9, 10, 15, 16, 17, 18, 19, 20, 21, 22, 23, 24, 25] (by decide +kernel) (by decide +kernel)
set_option maxRecDepth 20000 in
theorem gX9_countOf_X9_endOf : GoodIn wsX9_countOf (wsV RX9 85 RX9 yX9_endOf wsX9_endOf) := goodIn_app (goodIn_of _ (by decide +kernel)) ggX9_countOf_X9_endOf
set_option maxRecDepth 20000 in
theorem ggX9_countOf_X9_firstOf : GoodIn wsX9_countOf wsX9_firstOf := goodIn_r _ [14, 6, 7, 8, 9, 10, 15, 16, 17, 18, 19, 20, 21, 22, 23, 24, 25] (by decide +kernel) (by decide +kernel)
set_option maxRecDepth 20000 in
theorem gX9_countOf_X9_firstOf : GoodIn wsX9_countOf (wsV RX9 88 RX9 yX9_firstOf wsX9_firstOf) := goodIn_app (goodIn_of _ (by decide +kernel)) ggX9_countOf_X9_firstOf
theorem dX9_countOf_0 : decode cX9_countOf 0 = .ok (.aload_n 0, 1) := by decide +kernel
theorem dX9_countOf_1 : decode cX9_countOf 1 = .ok (.iload_n 1, 1) := by decide +kernel
theorem dX9_countOf_2 : decode cX9_countOf 2 = .ok (.invokevirtual 85, 3) := by decide +kernel
theorem dX9_countOf_5 : decode cX9_countOf 5 = .ok (.aload_n 0, 1) := by decide +kernel
theorem dX9_countOf_6 : decode cX9_countOf 6 = .ok (.iload_n 1, 1) := by decide +kernel
theorem dX9_countOf_7 : decode cX9_countOf 7 = .ok (.invokevirtual 88, 3) := by decide +kernel
theorem dX9_countOf_10 : decode cX9_countOf 10 = .ok (.isub, 1) := by decide +kernel
theorem dX9_countOf_11 : decode cX9_countOf 11 = .ok (.ireturn, 1) := by decide +kernel
set_option maxRecDepth 20000 in
theorem ggX9_size_X4_at : GoodIn wsX9_size wsX4_at := goodIn_r _ [5] (by decide +kernel) (by decide +kernel)
set_option maxRecDepth 20000 in
theorem gX9_size_X4_at : GoodIn wsX9_size (va_wsS RX9 81 yX4_at wsX4_at) := goodIn_app (goodIn_of _ (by decide +kernel)) ggX9_size_X4_at
theorem dX9_size_0 : decode cX9_size 0 = .ok (.aload_n 0, 1) := by decide +kernel
theorem dX9_size_1 : decode cX9_size 1 = .ok (.getfield 27, 3) := by decide +kernel
theorem dX9_size_4 : decode cX9_size 4 = .ok (.iload_n 1, 1) := by decide +kernel
theorem dX9_size_5 : decode cX9_size 5 = .ok (.invokestatic 81, 3) := by decide +kernel
theorem dX9_size_8 : decode cX9_size 8 = .ok (.ireturn, 1) := by decide +kernel
set_option maxRecDepth 20000 in
theorem ggX9_lengthOf_X9_endOf : GoodIn wsX9_lengthOf wsX9_endOf := goodIn_r _ [5, 6, 7, 8, 9, 10, 16, 17, 18, 19, 20, 21, 22, 23, 24, 25, 26] (by decide +kernel) (by decide +kernel)
set_option maxRecDepth 20000 in
theorem gX9_lengthOf_X9_endOf : GoodIn wsX9_lengthOf (wsV RX9 85 RX9 yX9_endOf wsX9_endOf) := goodIn_app (goodIn_of _ (by decide +kernel)) ggX9_lengthOf_X9_endOf
set_option maxRecDepth 20000 in
theorem ggX9_lengthOf_X9_startOf : GoodIn wsX9_lengthOf wsX9_startOf := goodIn_r _ [14, 6, 15, 7, 8, 9, 10, 16, 17, 18, 19, 20, 21, 22, 23, 24, 25, 26] (by decide +kernel) (by decide +kernel)
set_option maxRecDepth 20000 in
theorem gX9_lengthOf_X9_startOf : GoodIn wsX9_lengthOf (wsV RX9 91 RX9 yX9_startOf wsX9_startOf) := goodIn_app (goodIn_of _ (by decide +kernel)) ggX9_lengthOf_X9_startOf
theorem dX9_lengthOf_0 : decode cX9_lengthOf 0 = .ok (.aload_n 0, 1) := by decide +kernel
theorem dX9_lengthOf_1 : decode cX9_lengthOf 1 = .ok (.iload_n 1, 1) := by decide +kernel
theorem dX9_lengthOf_2 : decode cX9_lengthOf 2 = .ok (.aload_n 0, 1) := by decide +kernel
theorem dX9_lengthOf_3 : decode cX9_lengthOf 3 = .ok (.iload_n 1, 1) := by decide +kernel
theorem dX9_lengthOf_4 : decode cX9_lengthOf 4 = .ok (.invokevirtual 85, 3) := by decide +kernel
theorem dX9_lengthOf_7 : decode cX9_lengthOf 7 = .ok (.invokevirtual 91, 3) := by decide +kernel
theorem dX9_lengthOf_10 : decode cX9_lengthOf 10 = .ok (.ireturn, 1) := by decide +kernel
set_option maxRecDepth 20000 in
theorem ggX9_totalLength_X9_size : GoodIn wsX9_totalLength wsX9_size := goodIn_r _ [6, 7, 8, 9, 10, 11, 12, 13, 14, 15, 16, 17, 18, 19, 20, 21, 22] (by decide +kernel) (by decide +kernel)
set_option maxRecDepth 20000 in
theorem gX9_totalLength_X9_size : GoodIn wsX9_totalLength (wsV RX9 94 RX9 yX9_size wsX9_size) := goodIn_app (goodIn_of _ (by decide +kernel)) ggX9_totalLength_X9_size
theorem dX9_totalLength_0 : decode cX9_totalLength 0 = .ok (.iconst 0, 1) := by decide +kernel
theorem dX9_totalLength_1 : decode cX9_totalLength 1 = .ok (.istore_n 1, 1) := by decide +kernel
theorem dX9_totalLength_2 : decode cX9_totalLength 2 = .ok (.iconst 0, 1) := by decide +kernel
theorem dX9_totalLength_3 : decode cX9_totalLength 3 = .ok (.istore_n 2, 1) := by decide +kernel
theorem dX9_totalLength_4 : decode cX9_totalLength 4 = .ok (.iload_n 2, 1) := by decide +kernel
theorem dX9_totalLength_5 : decode cX9_totalLength 5 = .ok (.aload_n 0, 1) := by decide +kernel
theorem dX9_totalLength_6 : decode cX9_totalLength 6 = .ok (.getfield 48, 3) := by decide +kernel
theorem dX9_totalLength_9 : decode cX9_totalLength 9 = .ok (.if_icmp .ge 17, 3) := by decide +kernel
theorem dX9_totalLength_12 : decode cX9_totalLength 12 = .ok (.iload_n 1, 1) := by decide +kernel
theorem dX9_totalLength_13 : decode cX9_totalLength 13 = .ok (.aload_n 0, 1) := by decide +kernel
theorem dX9_totalLength_14 : decode cX9_totalLength 14 = .ok (.iload_n 2, 1) := by decide +kernel
theorem dX9_totalLength_15 : decode cX9_totalLength 15 = .ok (.invokevirtual 94, 3) := by decide +kernel
theorem dX9_totalLength_18 : decode cX9_totalLength 18 = .ok (.iadd, 1) := by decide +kernel
theorem dX9_totalLength_19 : decode cX9_totalLength 19 = .ok (.istore_n 1, 1) := by decide +kernel
theorem dX9_totalLength_20 : decode cX9_totalLength 20 = .ok (.iinc 2 1, 3) := by decide +kernel
theorem dX9_totalLength_23 : decode cX9_totalLength 23 = .ok (.goto (-19), 3) := by decide +kernel
theorem dX9_totalLength_26 : decode cX9_totalLength 26 = .ok (.iload_n 1, 1) := by decide +kernel
theorem dX9_totalLength_27 : decode cX9_totalLength 27 = .ok (.ireturn, 1) := by decide +kernel
set_option maxRecDepth 20000 in
theorem ggX9_startOf_X4_at : GoodIn wsX9_startOf wsX4_at := goodIn_r _ [6] (by decide +kernel) (by decide +kernel)
set_option maxRecDepth 20000 in
theorem gX9_startOf_X4_at : GoodIn wsX9_startOf (va_wsS RX9 81 yX4_at wsX4_at) := goodIn_app (goodIn_of _ (by decide +kernel)) ggX9_startOf_X4_at
theorem dX9_startOf_0 : decode cX9_startOf 0 = .ok (.iconst 0, 1) := by decide +kernel
theorem dX9_startOf_1 : decode cX9_startOf 1 = .ok (.istore_n 3, 1) := by decide +kernel
theorem dX9_startOf_2 : decode cX9_startOf 2 = .ok (.aload_n 0, 1) := by decide +kernel
theorem dX9_startOf_3 : decode cX9_startOf 3 = .ok (.getfield 9, 3) := by decide +kernel
theorem dX9_startOf_6 : decode cX9_startOf 6 = .ok (.iload_n 1, 1) := by decide +kernel
theorem dX9_startOf_7 : decode cX9_startOf 7 = .ok (.invokestatic 81, 3) := by decide +kernel
theorem dX9_startOf_10 : decode cX9_startOf 10 = .ok (.istore 4, 2) := by decide +kernel
theorem dX9_startOf_12 : decode cX9_startOf 12 = .ok (.iload 4, 2) := by decide +kernel
theorem dX9_startOf_14 : decode cX9_startOf 14 = .ok (.iload_n 2, 1) := by decide +kernel
theorem dX9_startOf_15 : decode cX9_startOf 15 = .ok (.if_icmp .ge 21, 3) := by decide +kernel
theorem dX9_startOf_18 : decode cX9_startOf 18 = .ok (.iload_n 3, 1) := by decide +kernel
theorem dX9_startOf_19 : decode cX9_startOf 19 = .ok (.aload_n 0, 1) := by decide +kernel
theorem dX9_startOf_20 : decode cX9_startOf 20 = .ok (.getfield 27, 3) := by decide +kernel
theorem dX9_startOf_23 : decode cX9_startOf 23 = .ok (.iload 4, 2) := by decide +kernel
theorem dX9_startOf_25 : decode cX9_startOf 25 = .ok (.invokestatic 81, 3) := by decide +kernel
theorem dX9_startOf_28 : decode cX9_startOf 28 = .ok (.iadd, 1) := by decide +kernel
theorem dX9_startOf_29 : decode cX9_startOf 29 = .ok (.istore_n 3, 1) := by decide +kernel
theorem dX9_startOf_30 : decode cX9_startOf 30 = .ok (.iinc 4 1, 3) := by decide +kernel
theorem dX9_startOf_33 : decode cX9_startOf 33 = .ok (.goto (-21), 3) := by decide +kernel
theorem dX9_startOf_36 : decode cX9_startOf 36 = .ok (.iload_n 3, 1) := by decide +kernel
theorem dX9_startOf_37 : decode cX9_startOf 37 = .ok (.ireturn, 1) := by decide +kernel
set_option maxRecDepth 20000 in
theorem ggX9_segmentAt_X9_firstOf : GoodIn wsX9_segmentAt wsX9_firstOf := goodIn_r _ [5, 6, 7, 8, 9, 10, 20, 21, 22, 23, 24, 25, 26, 27, 28, 29, 30] (by decide +kernel) (by decide +kernel)
set_option maxRecDepth 20000 in
theorem gX9_segmentAt_X9_firstOf : GoodIn wsX9_segmentAt (wsV RX9 88 RX9 yX9_firstOf wsX9_firstOf) := goodIn_app (goodIn_of _ (by decide +kernel)) ggX9_segmentAt_X9_firstOf
set_option maxRecDepth 20000 in
theorem ggX9_segmentAt_X9_endOf : GoodIn wsX9_segmentAt wsX9_endOf := goodIn_r _ [14, 6, 7, 8, 9, 10, 20, 21, 22, 23, 24, 25, 26, 27, 28, 29, 30] (by decide +kernel) (by decide +kernel)
set_option maxRecDepth 20000 in
theorem gX9_segmentAt_X9_endOf : GoodIn wsX9_segmentAt (wsV RX9 85 RX9 yX9_endOf wsX9_endOf) := goodIn_app (goodIn_of _ (by decide +kernel)) ggX9_segmentAt_X9_endOf
set_option maxRecDepth 20000 in
theorem ggX9_segmentAt_X9_size : GoodIn wsX9_segmentAt wsX9_size := goodIn_r _ [18, 19, 7, 8, 9, 10, 20, 21, 22, 23, 24, 25, 26, 27, 28, 29, 30] (by decide +kernel) (by decide +kernel)
set_option maxRecDepth 20000 in
theorem gX9_segmentAt_X9_size : GoodIn wsX9_segmentAt (wsV RX9 94 RX9 yX9_size wsX9_size) := goodIn_app (goodIn_of _ (by decide +kernel)) ggX9_segmentAt_X9_size
theorem dX9_segmentAt_0 : decode cX9_segmentAt 0 = .ok (.iconst 0, 1) := by decide +kernel
theorem dX9_segmentAt_1 : decode cX9_segmentAt 1 = .ok (.istore_n 3, 1) := by decide +kernel
theorem dX9_segmentAt_2 : decode cX9_segmentAt 2 = .ok (.aload_n 0, 1) := by decide +kernel
theorem dX9_segmentAt_3 : decode cX9_segmentAt 3 = .ok (.iload_n 1, 1) := by decide +kernel
theorem dX9_segmentAt_4 : decode cX9_segmentAt 4 = .ok (.invokevirtual 88, 3) := by decide +kernel
theorem dX9_segmentAt_7 : decode cX9_segmentAt 7 = .ok (.istore 4, 2) := by decide +kernel
theorem dX9_segmentAt_9 : decode cX9_segmentAt 9 = .ok (.iload 4, 2) := by decide +kernel
theorem dX9_segmentAt_11 : decode cX9_segmentAt 11 = .ok (.aload_n 0, 1) := by decide +kernel
theorem dX9_segmentAt_12 : decode cX9_segmentAt 12 = .ok (.iload_n 1, 1) := by decide +kernel
theorem dX9_segmentAt_13 : decode cX9_segmentAt 13 = .ok (.invokevirtual 85, 3) := by decide +kernel
theorem dX9_segmentAt_16 : decode cX9_segmentAt 16 = .ok (.if_icmp .ge 26, 3) := by decide +kernel
theorem dX9_segmentAt_19 : decode cX9_segmentAt 19 = .ok (.iload_n 3, 1) := by decide +kernel
theorem dX9_segmentAt_20 : decode cX9_segmentAt 20 = .ok (.aload_n 0, 1) := by decide +kernel
theorem dX9_segmentAt_21 : decode cX9_segmentAt 21 = .ok (.iload 4, 2) := by decide +kernel
theorem dX9_segmentAt_23 : decode cX9_segmentAt 23 = .ok (.invokevirtual 94, 3) := by decide +kernel
theorem dX9_segmentAt_26 : decode cX9_segmentAt 26 = .ok (.iadd, 1) := by decide +kernel
theorem dX9_segmentAt_27 : decode cX9_segmentAt 27 = .ok (.istore_n 3, 1) := by decide +kernel
theorem dX9_segmentAt_28 : decode cX9_segmentAt 28 = .ok (.iload_n 2, 1) := by decide +kernel
theorem dX9_segmentAt_29 : decode cX9_segmentAt 29 = .ok (.iload_n 3, 1) := by decide +kernel
theorem dX9_segmentAt_30 : decode cX9_segmentAt 30 = .ok (.if_icmp .gt 6, 3) := by decide +kernel
theorem dX9_segmentAt_33 : decode cX9_segmentAt 33 = .ok (.iload 4, 2) := by decide +kernel
theorem dX9_segmentAt_35 : decode cX9_segmentAt 35 = .ok (.ireturn, 1) := by decide +kernel
theorem dX9_segmentAt_36 : decode cX9_segmentAt 36 = .ok (.iinc 4 1, 3) := by decide +kernel
theorem dX9_segmentAt_39 : decode cX9_segmentAt 39 = .ok (.goto (-30), 3) := by decide +kernel
theorem dX9_segmentAt_42 : decode cX9_segmentAt 42 = .ok (.iconst (-1), 1) := by decide +kernel
theorem dX9_segmentAt_43 : decode cX9_segmentAt 43 = .ok (.ireturn, 1) := by decide +kernel
set_option maxRecDepth 20000 in
theorem ggX9_xAt_X4_at : GoodIn wsX9_xAt wsX4_at := goodIn_r _ [8] (by decide +kernel) (by decide +kernel)
set_option maxRecDepth 20000 in
theorem gX9_xAt_X4_at : GoodIn wsX9_xAt (va_wsS RX9 81 yX4_at wsX4_at) := goodIn_app (goodIn_of _ (by decide +kernel)) ggX9_xAt_X4_at
set_option maxRecDepth 20000 in
theorem ggX9_xAt_X4_round : GoodIn wsX9_xAt wsX4_round := goodIn_r _ [11, 12] (by decide +kernel) (by decide +kernel)
set_option maxRecDepth 20000 in
theorem gX9_xAt_X4_round : GoodIn wsX9_xAt (va_wsS RX9 77 yX4_round wsX4_round) := goodIn_app (goodIn_of _ (by decide +kernel)) ggX9_xAt_X4_round
theorem dX9_xAt_0 : decode cX9_xAt 0 = .ok (.ldc2_w 97, 3) := by decide +kernel
theorem dX9_xAt_3 : decode cX9_xAt 3 = .ok (.aload_n 0, 1) := by decide +kernel
theorem dX9_xAt_4 : decode cX9_xAt 4 = .ok (.getfield 21, 3) := by decide +kernel
theorem dX9_xAt_7 : decode cX9_xAt 7 = .ok (.iload_n 1, 1) := by decide +kernel
theorem dX9_xAt_8 : decode cX9_xAt 8 = .ok (.invokestatic 81, 3) := by decide +kernel
theorem dX9_xAt_11 : decode cX9_xAt 11 = .ok (.i2l, 1) := by decide +kernel
theorem dX9_xAt_12 : decode cX9_xAt 12 = .ok (.lmul, 1) := by decide +kernel
theorem dX9_xAt_13 : decode cX9_xAt 13 = .ok (.iload_n 2, 1) := by decide +kernel
theorem dX9_xAt_14 : decode cX9_xAt 14 = .ok (.i2l, 1) := by decide +kernel
theorem dX9_xAt_15 : decode cX9_xAt 15 = .ok (.lmul, 1) := by decide +kernel
theorem dX9_xAt_16 : decode cX9_xAt 16 = .ok (.lstore_n 3, 1) := by decide +kernel
theorem dX9_xAt_17 : decode cX9_xAt 17 = .ok (.aload_n 0, 1) := by decide +kernel
theorem dX9_xAt_18 : decode cX9_xAt 18 = .ok (.getfield 15, 3) := by decide +kernel
theorem dX9_xAt_21 : decode cX9_xAt 21 = .ok (.iload_n 1, 1) := by decide +kernel
theorem dX9_xAt_22 : decode cX9_xAt 22 = .ok (.invokestatic 81, 3) := by decide +kernel
theorem dX9_xAt_25 : decode cX9_xAt 25 = .ok (.lload_n 3, 1) := by decide +kernel
theorem dX9_xAt_26 : decode cX9_xAt 26 = .ok (.aload_n 0, 1) := by decide +kernel
theorem dX9_xAt_27 : decode cX9_xAt 27 = .ok (.getfield 27, 3) := by decide +kernel
theorem dX9_xAt_30 : decode cX9_xAt 30 = .ok (.iload_n 1, 1) := by decide +kernel
theorem dX9_xAt_31 : decode cX9_xAt 31 = .ok (.invokestatic 81, 3) := by decide +kernel
theorem dX9_xAt_34 : decode cX9_xAt 34 = .ok (.i2l, 1) := by decide +kernel
theorem dX9_xAt_35 : decode cX9_xAt 35 = .ok (.invokestatic 77, 3) := by decide +kernel
theorem dX9_xAt_38 : decode cX9_xAt 38 = .ok (.iadd, 1) := by decide +kernel
theorem dX9_xAt_39 : decode cX9_xAt 39 = .ok (.ireturn, 1) := by decide +kernel
set_option maxRecDepth 20000 in
theorem ggX9_yAt_X4_at : GoodIn wsX9_yAt wsX4_at := goodIn_r _ [8] (by decide +kernel) (by decide +kernel)
set_option maxRecDepth 20000 in
theorem gX9_yAt_X4_at : GoodIn wsX9_yAt (va_wsS RX9 81 yX4_at wsX4_at) := goodIn_app (goodIn_of _ (by decide +kernel)) ggX9_yAt_X4_at
set_option maxRecDepth 20000 in
theorem ggX9_yAt_X4_round : GoodIn wsX9_yAt wsX4_round := goodIn_r _ [11, 12] (by decide +kernel) (by decide +kernel)
set_option maxRecDepth 20000 in
theorem gX9_yAt_X4_round : GoodIn wsX9_yAt (va_wsS RX9 77 yX4_round wsX4_round) := goodIn_app (goodIn_of _ (by decide +kernel)) ggX9_yAt_X4_round
theorem dX9_yAt_0 : decode cX9_yAt 0 = .ok (.ldc2_w 97, 3) := by decide +kernel
theorem dX9_yAt_3 : decode cX9_yAt 3 = .ok (.aload_n 0, 1) := by decide +kernel
theorem dX9_yAt_4 : decode cX9_yAt 4 = .ok (.getfield 24, 3) := by decide +kernel
theorem dX9_yAt_7 : decode cX9_yAt 7 = .ok (.iload_n 1, 1) := by decide +kernel
theorem dX9_yAt_8 : decode cX9_yAt 8 = .ok (.invokestatic 81, 3) := by decide +kernel
theorem dX9_yAt_11 : decode cX9_yAt 11 = .ok (.i2l, 1) := by decide +kernel
theorem dX9_yAt_12 : decode cX9_yAt 12 = .ok (.lmul, 1) := by decide +kernel
theorem dX9_yAt_13 : decode cX9_yAt 13 = .ok (.iload_n 2, 1) := by decide +kernel
theorem dX9_yAt_14 : decode cX9_yAt 14 = .ok (.i2l, 1) := by decide +kernel
theorem dX9_yAt_15 : decode cX9_yAt 15 = .ok (.lmul, 1) := by decide +kernel
theorem dX9_yAt_16 : decode cX9_yAt 16 = .ok (.lstore_n 3, 1) := by decide +kernel
theorem dX9_yAt_17 : decode cX9_yAt 17 = .ok (.aload_n 0, 1) := by decide +kernel
theorem dX9_yAt_18 : decode cX9_yAt 18 = .ok (.getfield 18, 3) := by decide +kernel
theorem dX9_yAt_21 : decode cX9_yAt 21 = .ok (.iload_n 1, 1) := by decide +kernel
theorem dX9_yAt_22 : decode cX9_yAt 22 = .ok (.invokestatic 81, 3) := by decide +kernel
theorem dX9_yAt_25 : decode cX9_yAt 25 = .ok (.lload_n 3, 1) := by decide +kernel
theorem dX9_yAt_26 : decode cX9_yAt 26 = .ok (.aload_n 0, 1) := by decide +kernel
theorem dX9_yAt_27 : decode cX9_yAt 27 = .ok (.getfield 27, 3) := by decide +kernel
theorem dX9_yAt_30 : decode cX9_yAt 30 = .ok (.iload_n 1, 1) := by decide +kernel
theorem dX9_yAt_31 : decode cX9_yAt 31 = .ok (.invokestatic 81, 3) := by decide +kernel
theorem dX9_yAt_34 : decode cX9_yAt 34 = .ok (.i2l, 1) := by decide +kernel
theorem dX9_yAt_35 : decode cX9_yAt 35 = .ok (.invokestatic 77, 3) := by decide +kernel
theorem dX9_yAt_38 : decode cX9_yAt 38 = .ok (.iadd, 1) := by decide +kernel
theorem dX9_yAt_39 : decode cX9_yAt 39 = .ok (.ireturn, 1) := by decide +kernel
set_option maxRecDepth 20000 in
theorem ggX9_normalX_X4_at : GoodIn wsX9_normalX wsX4_at := goodIn_r _ [5] (by decide +kernel) (by decide +kernel)
set_option maxRecDepth 20000 in
theorem gX9_normalX_X4_at : GoodIn wsX9_normalX (va_wsS RX9 81 yX4_at wsX4_at) := goodIn_app (goodIn_of _ (by decide +kernel)) ggX9_normalX_X4_at
theorem dX9_normalX_0 : decode cX9_normalX 0 = .ok (.aload_n 0, 1) := by decide +kernel
theorem dX9_normalX_1 : decode cX9_normalX 1 = .ok (.getfield 30, 3) := by decide +kernel
theorem dX9_normalX_4 : decode cX9_normalX 4 = .ok (.iload_n 1, 1) := by decide +kernel
theorem dX9_normalX_5 : decode cX9_normalX 5 = .ok (.invokestatic 81, 3) := by decide +kernel
theorem dX9_normalX_8 : decode cX9_normalX 8 = .ok (.ireturn, 1) := by decide +kernel
set_option maxRecDepth 20000 in
theorem ggX9_normalY_X4_at : GoodIn wsX9_normalY wsX4_at := goodIn_r _ [5] (by decide +kernel) (by decide +kernel)
set_option maxRecDepth 20000 in
theorem gX9_normalY_X4_at : GoodIn wsX9_normalY (va_wsS RX9 81 yX4_at wsX4_at) := goodIn_app (goodIn_of _ (by decide +kernel)) ggX9_normalY_X4_at
theorem dX9_normalY_0 : decode cX9_normalY 0 = .ok (.aload_n 0, 1) := by decide +kernel
theorem dX9_normalY_1 : decode cX9_normalY 1 = .ok (.getfield 33, 3) := by decide +kernel
theorem dX9_normalY_4 : decode cX9_normalY 4 = .ok (.iload_n 1, 1) := by decide +kernel
theorem dX9_normalY_5 : decode cX9_normalY 5 = .ok (.invokestatic 81, 3) := by decide +kernel
theorem dX9_normalY_8 : decode cX9_normalY 8 = .ok (.ireturn, 1) := by decide +kernel
set_option maxRecDepth 20000 in
theorem ggX9_alongX_X4_at : GoodIn wsX9_alongX wsX4_at := goodIn_r _ [5] (by decide +kernel) (by decide +kernel)
set_option maxRecDepth 20000 in
theorem gX9_alongX_X4_at : GoodIn wsX9_alongX (va_wsS RX9 81 yX4_at wsX4_at) := goodIn_app (goodIn_of _ (by decide +kernel)) ggX9_alongX_X4_at
theorem dX9_alongX_0 : decode cX9_alongX 0 = .ok (.aload_n 0, 1) := by decide +kernel
theorem dX9_alongX_1 : decode cX9_alongX 1 = .ok (.getfield 36, 3) := by decide +kernel
theorem dX9_alongX_4 : decode cX9_alongX 4 = .ok (.iload_n 1, 1) := by decide +kernel
theorem dX9_alongX_5 : decode cX9_alongX 5 = .ok (.invokestatic 81, 3) := by decide +kernel
theorem dX9_alongX_8 : decode cX9_alongX 8 = .ok (.ireturn, 1) := by decide +kernel
set_option maxRecDepth 20000 in
theorem ggX9_alongY_X4_at : GoodIn wsX9_alongY wsX4_at := goodIn_r _ [5] (by decide +kernel) (by decide +kernel)
set_option maxRecDepth 20000 in
theorem gX9_alongY_X4_at : GoodIn wsX9_alongY (va_wsS RX9 81 yX4_at wsX4_at) := goodIn_app (goodIn_of _ (by decide +kernel)) ggX9_alongY_X4_at
theorem dX9_alongY_0 : decode cX9_alongY 0 = .ok (.aload_n 0, 1) := by decide +kernel
theorem dX9_alongY_1 : decode cX9_alongY 1 = .ok (.getfield 39, 3) := by decide +kernel
theorem dX9_alongY_4 : decode cX9_alongY 4 = .ok (.iload_n 1, 1) := by decide +kernel
theorem dX9_alongY_5 : decode cX9_alongY 5 = .ok (.invokestatic 81, 3) := by decide +kernel
theorem dX9_alongY_8 : decode cX9_alongY 8 = .ok (.ireturn, 1) := by decide +kernel
set_option maxRecDepth 20000 in
theorem ggX9_cross_X4_at : GoodIn wsX9_cross wsX4_at := goodIn_r _ [6] (by decide +kernel) (by decide +kernel)
set_option maxRecDepth 20000 in
theorem gX9_cross_X4_at : GoodIn wsX9_cross (va_wsS RX9 81 yX4_at wsX4_at) := goodIn_app (goodIn_of _ (by decide +kernel)) ggX9_cross_X4_at
theorem dX9_cross_0 : decode cX9_cross 0 = .ok (.aload_n 0, 1) := by decide +kernel
theorem dX9_cross_1 : decode cX9_cross 1 = .ok (.getfield 21, 3) := by decide +kernel
theorem dX9_cross_4 : decode cX9_cross 4 = .ok (.iload_n 1, 1) := by decide +kernel
theorem dX9_cross_5 : decode cX9_cross 5 = .ok (.invokestatic 81, 3) := by decide +kernel
theorem dX9_cross_8 : decode cX9_cross 8 = .ok (.i2l, 1) := by decide +kernel
theorem dX9_cross_9 : decode cX9_cross 9 = .ok (.aload_n 0, 1) := by decide +kernel
theorem dX9_cross_10 : decode cX9_cross 10 = .ok (.getfield 24, 3) := by decide +kernel
theorem dX9_cross_13 : decode cX9_cross 13 = .ok (.iload_n 2, 1) := by decide +kernel
theorem dX9_cross_14 : decode cX9_cross 14 = .ok (.invokestatic 81, 3) := by decide +kernel
theorem dX9_cross_17 : decode cX9_cross 17 = .ok (.i2l, 1) := by decide +kernel
theorem dX9_cross_18 : decode cX9_cross 18 = .ok (.lmul, 1) := by decide +kernel
theorem dX9_cross_19 : decode cX9_cross 19 = .ok (.aload_n 0, 1) := by decide +kernel
theorem dX9_cross_20 : decode cX9_cross 20 = .ok (.getfield 24, 3) := by decide +kernel
theorem dX9_cross_23 : decode cX9_cross 23 = .ok (.iload_n 1, 1) := by decide +kernel
theorem dX9_cross_24 : decode cX9_cross 24 = .ok (.invokestatic 81, 3) := by decide +kernel
theorem dX9_cross_27 : decode cX9_cross 27 = .ok (.i2l, 1) := by decide +kernel
theorem dX9_cross_28 : decode cX9_cross 28 = .ok (.aload_n 0, 1) := by decide +kernel
theorem dX9_cross_29 : decode cX9_cross 29 = .ok (.getfield 21, 3) := by decide +kernel
theorem dX9_cross_32 : decode cX9_cross 32 = .ok (.iload_n 2, 1) := by decide +kernel
theorem dX9_cross_33 : decode cX9_cross 33 = .ok (.invokestatic 81, 3) := by decide +kernel
theorem dX9_cross_36 : decode cX9_cross 36 = .ok (.i2l, 1) := by decide +kernel
theorem dX9_cross_37 : decode cX9_cross 37 = .ok (.lmul, 1) := by decide +kernel
theorem dX9_cross_38 : decode cX9_cross 38 = .ok (.lsub, 1) := by decide +kernel
theorem dX9_cross_39 : decode cX9_cross 39 = .ok (.lreturn, 1) := by decide +kernel
set_option maxRecDepth 20000 in
theorem ggX9_dot_X4_at : GoodIn wsX9_dot wsX4_at := goodIn_r _ [6] (by decide +kernel) (by decide +kernel)
set_option maxRecDepth 20000 in
theorem gX9_dot_X4_at : GoodIn wsX9_dot (va_wsS RX9 81 yX4_at wsX4_at) := goodIn_app (goodIn_of _ (by decide +kernel)) ggX9_dot_X4_at
theorem dX9_dot_0 : decode cX9_dot 0 = .ok (.aload_n 0, 1) := by decide +kernel
theorem dX9_dot_1 : decode cX9_dot 1 = .ok (.getfield 21, 3) := by decide +kernel
theorem dX9_dot_4 : decode cX9_dot 4 = .ok (.iload_n 1, 1) := by decide +kernel
theorem dX9_dot_5 : decode cX9_dot 5 = .ok (.invokestatic 81, 3) := by decide +kernel
theorem dX9_dot_8 : decode cX9_dot 8 = .ok (.i2l, 1) := by decide +kernel
theorem dX9_dot_9 : decode cX9_dot 9 = .ok (.aload_n 0, 1) := by decide +kernel
theorem dX9_dot_10 : decode cX9_dot 10 = .ok (.getfield 21, 3) := by decide +kernel
theorem dX9_dot_13 : decode cX9_dot 13 = .ok (.iload_n 2, 1) := by decide +kernel
theorem dX9_dot_14 : decode cX9_dot 14 = .ok (.invokestatic 81, 3) := by decide +kernel
theorem dX9_dot_17 : decode cX9_dot 17 = .ok (.i2l, 1) := by decide +kernel
theorem dX9_dot_18 : decode cX9_dot 18 = .ok (.lmul, 1) := by decide +kernel
theorem dX9_dot_19 : decode cX9_dot 19 = .ok (.aload_n 0, 1) := by decide +kernel
theorem dX9_dot_20 : decode cX9_dot 20 = .ok (.getfield 24, 3) := by decide +kernel
theorem dX9_dot_23 : decode cX9_dot 23 = .ok (.iload_n 1, 1) := by decide +kernel
theorem dX9_dot_24 : decode cX9_dot 24 = .ok (.invokestatic 81, 3) := by decide +kernel
theorem dX9_dot_27 : decode cX9_dot 27 = .ok (.i2l, 1) := by decide +kernel
theorem dX9_dot_28 : decode cX9_dot 28 = .ok (.aload_n 0, 1) := by decide +kernel
theorem dX9_dot_29 : decode cX9_dot 29 = .ok (.getfield 24, 3) := by decide +kernel
theorem dX9_dot_32 : decode cX9_dot 32 = .ok (.iload_n 2, 1) := by decide +kernel
theorem dX9_dot_33 : decode cX9_dot 33 = .ok (.invokestatic 81, 3) := by decide +kernel
theorem dX9_dot_36 : decode cX9_dot 36 = .ok (.i2l, 1) := by decide +kernel
theorem dX9_dot_37 : decode cX9_dot 37 = .ok (.lmul, 1) := by decide +kernel
theorem dX9_dot_38 : decode cX9_dot 38 = .ok (.ladd, 1) := by decide +kernel
theorem dX9_dot_39 : decode cX9_dot 39 = .ok (.lreturn, 1) := by decide +kernel
set_option maxRecDepth 20000 in
theorem ggX10_init_X9_init : GoodIn wsX10_init wsX9_init := goodIn_r _ [17, 18, 2, 3, 19, 20, 21, 22, 23, 24, 25, 26, 27, 28, 29, 56, 57, 58, 59, 60, 61, 62, 63, 64, 65, 66] (by decide +kernel) (by decide +kernel)
set_option maxRecDepth 20000 in
theorem gX10_init_X9_init_n11 : GoodIn wsX10_init (wsX9_init) := ggX10_init_X9_init
set_option maxRecDepth 20000 in
theorem ggX10_init_X8_init : GoodIn wsX10_init wsX8_init := goodIn_r _ [31, 32, 2, 3, 33, 34, 35, 36, 19, 37, 38, 39, 40, 41, 42, 43, 44, 45, 46, 47, 48, 49, 93, 94, 95, 96, 97, 75, 76, 77, 78, 79, 80, 81, 82, 83, 84, 85, 86] (by decide +kernel) (by decide +kernel)
set_option maxRecDepth 20000 in
theorem gX10_init_X8_init_n20 : GoodIn wsX10_init (wsX8_init) := ggX10_init_X8_init
set_option maxRecDepth 20000 in
theorem ggX10_init_X7_init : GoodIn wsX10_init wsX7_init := goodIn_r _ [51, 52, 2, 3, 19, 53, 54, 55, 87, 88, 89, 90, 91, 92] (by decide +kernel) (by decide +kernel)
set_option maxRecDepth 20000 in
theorem gX10_init_X7_init_n27 : GoodIn wsX10_init (wsX7_init) := ggX10_init_X7_init
theorem dX10_init_0 : decode cX10_init 0 = .ok (.aload_n 0, 1) := by decide +kernel
theorem dX10_init_1 : decode cX10_init 1 = .ok (.invokespecial 3, 3) := by decide +kernel
theorem dX10_init_4 : decode cX10_init 4 = .ok (.aload_n 0, 1) := by decide +kernel
theorem dX10_init_5 : decode cX10_init 5 = .ok (.new 9, 3) := by decide +kernel
theorem dX10_init_8 : decode cX10_init 8 = .ok (.dup, 1) := by decide +kernel
theorem dX10_init_9 : decode cX10_init 9 = .ok (.invokespecial 11, 3) := by decide +kernel
theorem dX10_init_12 : decode cX10_init 12 = .ok (.putfield 12, 3) := by decide +kernel
theorem dX10_init_15 : decode cX10_init 15 = .ok (.aload_n 0, 1) := by decide +kernel
theorem dX10_init_16 : decode cX10_init 16 = .ok (.new 18, 3) := by decide +kernel
theorem dX10_init_19 : decode cX10_init 19 = .ok (.dup, 1) := by decide +kernel
theorem dX10_init_20 : decode cX10_init 20 = .ok (.invokespecial 20, 3) := by decide +kernel
theorem dX10_init_23 : decode cX10_init 23 = .ok (.putfield 21, 3) := by decide +kernel
theorem dX10_init_26 : decode cX10_init 26 = .ok (.aload_n 0, 1) := by decide +kernel
theorem dX10_init_27 : decode cX10_init 27 = .ok (.new 25, 3) := by decide +kernel
theorem dX10_init_30 : decode cX10_init 30 = .ok (.dup, 1) := by decide +kernel
theorem dX10_init_31 : decode cX10_init 31 = .ok (.invokespecial 27, 3) := by decide +kernel
theorem dX10_init_34 : decode cX10_init 34 = .ok (.putfield 28, 3) := by decide +kernel
theorem dX10_init_37 : decode cX10_init 37 = .ok (.return_, 1) := by decide +kernel
theorem dX10_forget_0 : decode cX10_forget 0 = .ok (.aload_n 0, 1) := by decide +kernel
theorem dX10_forget_1 : decode cX10_forget 1 = .ok (.iconst 0, 1) := by decide +kernel
theorem dX10_forget_2 : decode cX10_forget 2 = .ok (.putfield 32, 3) := by decide +kernel
theorem dX10_forget_5 : decode cX10_forget 5 = .ok (.return_, 1) := by decide +kernel
set_option maxRecDepth 20000 in
theorem ggX10_measured_X9_measure : GoodIn wsX10_measured wsX9_measure := goodIn_r _ [7, 8, 9, 10, 11, 12, 13, 14, 15, 16, 17, 18, 19, 20, 21, 22, 23, 24, 25, 26, 27, 28, 29, 30, 31, 32, 33, 34, 35, 36, 37, 38, 39, 40, 41, 42, 43, 44, 6, 45, 46, 47, 48, 49, 50, 51, 52, 53, 54, 55, 56, 57, 58, 59, 60, 61, 62, 63, 72, 73, 74, 75, 76, 77, 78, 79, 80, 81, 82, 83] (by decide +kernel) (by decide +kernel)
set_option maxRecDepth 20000 in
theorem gX10_measured_X9_measure : GoodIn wsX10_measured (wsV RX10 36 RX9 yX9_measure wsX9_measure) := goodIn_app (goodIn_of _ (by decide +kernel)) ggX10_measured_X9_measure
theorem dX10_measured_0 : decode cX10_measured 0 = .ok (.aload_n 0, 1) := by decide +kernel
theorem dX10_measured_1 : decode cX10_measured 1 = .ok (.getfield 32, 3) := by decide +kernel
theorem dX10_measured_4 : decode cX10_measured 4 = .ok (.iconst 1, 1) := by decide +kernel
theorem dX10_measured_5 : decode cX10_measured 5 = .ok (.if_icmp .ge 16, 3) := by decide +kernel
theorem dX10_measured_8 : decode cX10_measured 8 = .ok (.aload_n 0, 1) := by decide +kernel
theorem dX10_measured_9 : decode cX10_measured 9 = .ok (.getfield 12, 3) := by decide +kernel
theorem dX10_measured_12 : decode cX10_measured 12 = .ok (.aload_n 1, 1) := by decide +kernel
theorem dX10_measured_13 : decode cX10_measured 13 = .ok (.invokevirtual 36, 3) := by decide +kernel
theorem dX10_measured_16 : decode cX10_measured 16 = .ok (.aload_n 0, 1) := by decide +kernel
theorem dX10_measured_17 : decode cX10_measured 17 = .ok (.iconst 1, 1) := by decide +kernel
theorem dX10_measured_18 : decode cX10_measured 18 = .ok (.putfield 32, 3) := by decide +kernel
theorem dX10_measured_21 : decode cX10_measured 21 = .ok (.aload_n 0, 1) := by decide +kernel
theorem dX10_measured_22 : decode cX10_measured 22 = .ok (.getfield 12, 3) := by decide +kernel
theorem dX10_measured_25 : decode cX10_measured 25 = .ok (.areturn, 1) := by decide +kernel
set_option maxRecDepth 20000 in
theorem ggX10_walked_X10_measured : GoodIn wsX10_walked wsX10_measured := goodIn_r _ [7, 1, 8, 9, 10, 11, 12, 13, 14, 15, 16, 17, 18, 19, 20, 21, 22, 23, 24, 25, 26, 27, 28, 29, 30, 31, 32, 33, 34, 35, 36, 37, 38, 39, 40, 41, 42, 43, 44, 45, 46, 47, 48, 49, 50, 51, 52, 53, 54, 55, 56, 57, 58, 59, 60, 61, 62, 63, 64, 65, 66, 67, 68, 69, 186, 187, 188, 189, 190, 191, 192, 193, 194, 195, 196, 197, 198, 199, 200, 201, 202, 203, 204, 205] (by decide +kernel) (by decide +kernel)
set_option maxRecDepth 20000 in
theorem gX10_walked_X10_measured : GoodIn wsX10_walked (wsV RX10 40 RX10 yX10_measured wsX10_measured) := goodIn_app (goodIn_of _ (by decide +kernel)) ggX10_walked_X10_measured
set_option maxRecDepth 20000 in
theorem ggX10_walked_X8_walk : GoodIn wsX10_walked wsX8_walk := goodIn_r _ [74, 75, 76, 77, 78, 79, 80, 81, 82, 83, 84, 85, 86, 87, 88, 89, 90, 91, 22, 23, 19, 24, 25, 92, 93, 94, 95, 96, 97, 98, 99, 100, 101, 102, 103, 104, 105, 106, 73, 107, 108, 109, 110, 111, 112, 113, 114, 12, 115, 15, 116, 117, 63, 118, 119, 120, 121, 122, 123, 124, 125, 126, 56, 127, 128, 129, 130, 131, 132, 133, 134, 135, 136, 137, 138, 139, 140, 141, 142, 143, 144, 145, 146, 147, 148, 149, 150, 151, 152, 153, 154, 155, 34, 35, 36, 21, 30, 31, 32, 156, 157, 158, 159, 160, 161, 162, 163, 164, 165, 166, 167, 168, 169, 170, 171, 172, 173, 174, 175, 176, 177, 178, 179, 180, 181, 182, 183, 184, 185, 206, 207, 208, 209, 210, 211, 212, 213, 214, 215, 216, 217, 218, 219, 220, 221, 222, 205, 194, 195, 196, 197, 198, 199, 200, 201, 202, 203, 204] (by decide +kernel) (by decide +kernel)
set_option maxRecDepth 20000 in
theorem gX10_walked_X8_walk : GoodIn wsX10_walked (wsV RX10 44 RX8 yX8_walk wsX8_walk) := goodIn_app (goodIn_of _ (by decide +kernel)) ggX10_walked_X8_walk
theorem dX10_walked_0 : decode cX10_walked 0 = .ok (.aload_n 0, 1) := by decide +kernel
theorem dX10_walked_1 : decode cX10_walked 1 = .ok (.getfield 32, 3) := by decide +kernel
theorem dX10_walked_4 : decode cX10_walked 4 = .ok (.iconst 2, 1) := by decide +kernel
theorem dX10_walked_5 : decode cX10_walked 5 = .ok (.if_icmp .ge 21, 3) := by decide +kernel
theorem dX10_walked_8 : decode cX10_walked 8 = .ok (.aload_n 0, 1) := by decide +kernel
theorem dX10_walked_9 : decode cX10_walked 9 = .ok (.getfield 21, 3) := by decide +kernel
theorem dX10_walked_12 : decode cX10_walked 12 = .ok (.aload_n 1, 1) := by decide +kernel
theorem dX10_walked_13 : decode cX10_walked 13 = .ok (.aload_n 0, 1) := by decide +kernel
theorem dX10_walked_14 : decode cX10_walked 14 = .ok (.aload_n 1, 1) := by decide +kernel
theorem dX10_walked_15 : decode cX10_walked 15 = .ok (.invokevirtual 40, 3) := by decide +kernel
theorem dX10_walked_18 : decode cX10_walked 18 = .ok (.invokevirtual 44, 3) := by decide +kernel
theorem dX10_walked_21 : decode cX10_walked 21 = .ok (.aload_n 0, 1) := by decide +kernel
theorem dX10_walked_22 : decode cX10_walked 22 = .ok (.iconst 2, 1) := by decide +kernel
theorem dX10_walked_23 : decode cX10_walked 23 = .ok (.putfield 32, 3) := by decide +kernel
theorem dX10_walked_26 : decode cX10_walked 26 = .ok (.aload_n 0, 1) := by decide +kernel
theorem dX10_walked_27 : decode cX10_walked 27 = .ok (.getfield 21, 3) := by decide +kernel
theorem dX10_walked_30 : decode cX10_walked 30 = .ok (.areturn, 1) := by decide +kernel
set_option maxRecDepth 20000 in
theorem ggX10_outlined_X10_walked : GoodIn wsX10_outlined wsX10_walked := goodIn_r _ [7, 1, 8, 9, 10, 11, 6, 12, 13, 14, 15, 16, 17, 18, 19, 20, 21, 22, 23, 24, 25, 26, 27, 28, 29, 30, 31, 32, 33, 34, 35, 36, 37, 38, 39, 40, 41, 42, 43, 44, 45, 46, 47, 48, 49, 50, 51, 52, 53, 54, 55, 56, 57, 58, 59, 60, 61, 62, 63, 64, 65, 66, 67, 68, 69, 70, 71, 72, 73, 74, 75, 76, 77, 78, 79, 80, 81, 82, 83, 84, 85, 86, 87, 88, 89, 90, 91, 92, 93, 94, 95, 96, 97, 98, 99, 100, 101, 102, 103, 104, 105, 106, 107, 108, 109, 110, 111, 112, 113, 114, 115, 116, 117, 118, 119, 120, 121, 122, 123, 124, 125, 126, 127, 128, 129, 130, 131, 132, 133, 134, 135, 136, 137, 138, 139, 140, 141, 142, 143, 144, 145, 146, 147, 148, 149, 150, 151, 152, 153, 154, 155, 156, 157, 158, 159, 160, 161, 162, 163, 164, 165, 166, 167, 168, 169, 170, 171, 172, 173, 174, 175, 176, 177, 178, 179, 180, 181, 182, 183, 184, 185, 186, 187, 188, 189, 190, 318, 319, 320, 321, 322, 323, 324, 325, 326, 327, 328, 329, 330, 331, 332, 333, 334, 335, 336, 337, 338, 339, 340, 341, 342, 343, 344, 345, 346, 347, 348, 349, 350, 351, 352, 353, 354] (by decide +kernel) (by decide +kernel)
set_option maxRecDepth 20000 in
theorem gX10_outlined_X10_walked : GoodIn wsX10_outlined (wsV RX10 48 RX10 yX10_walked wsX10_walked) := goodIn_app (goodIn_of _ (by decide +kernel)) ggX10_outlined_X10_walked
set_option maxRecDepth 20000 in
theorem ggX10_outlined_X10_outline : GoodIn wsX10_outlined wsX10_outline := goodIn_r _ [194, 195, 196, 197, 198, 2, 13, 8, 199, 22, 23, 24, 25, 26, 27, 28, 29, 30, 200, 201, 202, 203, 204, 205, 206, 207, 208, 209, 210, 211, 212, 213, 214, 17, 215, 165, 125, 126, 127, 20, 121, 122, 68, 123, 216, 118, 119, 120, 217, 43, 44, 45, 46, 47, 48, 218, 50, 51, 52, 219, 220, 221, 6, 222, 223, 224, 225, 226, 227, 228, 229, 230, 231, 232, 233, 234, 235, 236, 237, 238, 239, 175, 176, 78, 177, 83, 178, 240, 241, 242, 243, 174, 244, 245, 246, 247, 248, 249, 250, 251, 147, 252, 253, 254, 255, 148, 256, 257, 258, 259, 146, 260, 261, 262, 263, 264, 180, 181, 182, 153, 265, 184, 185, 186, 154, 266, 267, 268, 269, 270, 59, 57, 61, 71, 72, 73, 74, 271, 272, 273, 274, 60, 58, 275, 188, 189, 190, 155, 276, 277, 278, 279, 62, 280, 281, 282, 283, 63, 284, 285, 286, 287, 288, 289, 290, 291, 292, 293, 294, 295, 296, 297, 298, 299, 300, 301, 302, 303, 304, 305, 306, 307, 308, 309, 310, 311, 312, 313, 64, 314, 315, 316, 317, 65, 318, 319, 320, 321, 322, 323, 324, 325, 337, 355, 356, 357, 358, 359, 360, 326, 327, 328, 329, 330, 331, 332, 333, 334, 335, 336, 338, 339, 340, 341, 342, 343, 344, 345, 346, 347, 348, 349] (by decide +kernel) (by decide +kernel)
set_option maxRecDepth 20000 in
theorem gX10_outlined_X10_outline : GoodIn wsX10_outlined (wsV RX10 52 RX10 yX10_outline wsX10_outline) := goodIn_app (goodIn_of _ (by decide +kernel)) ggX10_outlined_X10_outline
theorem dX10_outlined_0 : decode cX10_outlined 0 = .ok (.aload_n 0, 1) := by decide +kernel
theorem dX10_outlined_1 : decode cX10_outlined 1 = .ok (.getfield 32, 3) := by decide +kernel
theorem dX10_outlined_4 : decode cX10_outlined 4 = .ok (.iconst 3, 1) := by decide +kernel
theorem dX10_outlined_5 : decode cX10_outlined 5 = .ok (.if_icmp .ge 19, 3) := by decide +kernel
theorem dX10_outlined_8 : decode cX10_outlined 8 = .ok (.aload_n 0, 1) := by decide +kernel
theorem dX10_outlined_9 : decode cX10_outlined 9 = .ok (.aload_n 1, 1) := by decide +kernel
theorem dX10_outlined_10 : decode cX10_outlined 10 = .ok (.invokevirtual 48, 3) := by decide +kernel
theorem dX10_outlined_13 : decode cX10_outlined 13 = .ok (.pop, 1) := by decide +kernel
theorem dX10_outlined_14 : decode cX10_outlined 14 = .ok (.aload_n 0, 1) := by decide +kernel
theorem dX10_outlined_15 : decode cX10_outlined 15 = .ok (.aload_n 1, 1) := by decide +kernel
theorem dX10_outlined_16 : decode cX10_outlined 16 = .ok (.invokevirtual 52, 3) := by decide +kernel
theorem dX10_outlined_19 : decode cX10_outlined 19 = .ok (.aload_n 0, 1) := by decide +kernel
theorem dX10_outlined_20 : decode cX10_outlined 20 = .ok (.iconst 3, 1) := by decide +kernel
theorem dX10_outlined_21 : decode cX10_outlined 21 = .ok (.putfield 32, 3) := by decide +kernel
theorem dX10_outlined_24 : decode cX10_outlined 24 = .ok (.aload_n 0, 1) := by decide +kernel
theorem dX10_outlined_25 : decode cX10_outlined 25 = .ok (.getfield 28, 3) := by decide +kernel
theorem dX10_outlined_28 : decode cX10_outlined 28 = .ok (.areturn, 1) := by decide +kernel
set_option maxRecDepth 20000 in
theorem ggX10_outline_X1_halfWidth : GoodIn wsX10_outline wsX1_halfWidth := goodIn_r _ [12, 13, 14, 15, 11, 16, 17, 202] (by decide +kernel) (by decide +kernel)
set_option maxRecDepth 20000 in
theorem gX10_outline_X1_halfWidth : GoodIn wsX10_outline (wsV RX10 55 RX1 yX1_halfWidth wsX1_halfWidth) := goodIn_app (goodIn_of _ (by decide +kernel)) ggX10_outline_X1_halfWidth
set_option maxRecDepth 20000 in
theorem ggX10_outline_X1_cell : GoodIn wsX10_outline wsX1_cell := goodIn_r _ [16, 17, 202] (by decide +kernel) (by decide +kernel)
set_option maxRecDepth 20000 in
theorem gX10_outline_X1_cell : GoodIn wsX10_outline (wsV RX10 64 RX1 yX1_cell wsX1_cell) := goodIn_app (goodIn_of _ (by decide +kernel)) ggX10_outline_X1_cell
set_option maxRecDepth 20000 in
theorem ggX10_outline_X7_clear : GoodIn wsX10_outline wsX7_clear := goodIn_r _ [23, 24, 25, 203, 204, 205, 206, 207, 208] (by decide +kernel) (by decide +kernel)
set_option maxRecDepth 20000 in
theorem gX10_outline_X7_clear : GoodIn wsX10_outline (wsV RX10 77 RX7 yX7_clear wsX7_clear) := goodIn_app (goodIn_of _ (by decide +kernel)) ggX10_outline_X7_clear
set_option maxRecDepth 20000 in
theorem ggX10_outline_X1_subpathCount : GoodIn wsX10_outline wsX1_subpathCount := goodIn_r _ [29, 13, 14, 15, 11, 16, 17, 202] (by decide +kernel) (by decide +kernel)
set_option maxRecDepth 20000 in
theorem gX10_outline_X1_subpathCount : GoodIn wsX10_outline (wsV RX10 81 RX1 yX1_subpathCount wsX1_subpathCount) := goodIn_app (goodIn_of _ (by decide +kernel)) ggX10_outline_X1_subpathCount
set_option maxRecDepth 20000 in
theorem ggX10_outline_X9_countOf : GoodIn wsX10_outline wsX9_countOf := goodIn_r _ [34, 35, 36, 37, 33, 38, 39, 40, 41, 42, 43, 44, 45, 46, 47, 209, 210, 211, 212, 213, 214, 215, 216, 217, 218, 219] (by decide +kernel) (by decide +kernel)
set_option maxRecDepth 20000 in
theorem gX10_outline_X9_countOf : GoodIn wsX10_outline (wsV RX10 84 RX9 yX9_countOf wsX9_countOf) := goodIn_app (goodIn_of _ (by decide +kernel)) ggX10_outline_X9_countOf
set_option maxRecDepth 20000 in
theorem ggX10_outline_X1_xOf : GoodIn wsX10_outline wsX1_xOf := goodIn_r _ [51, 52, 53, 11, 54, 13, 14, 15, 16, 17, 202] (by decide +kernel) (by decide +kernel)
set_option maxRecDepth 20000 in
theorem gX10_outline_X1_xOf : GoodIn wsX10_outline (wsV RX10 87 RX1 yX1_xOf wsX1_xOf) := goodIn_app (goodIn_of _ (by decide +kernel)) ggX10_outline_X1_xOf
set_option maxRecDepth 20000 in
theorem ggX10_outline_X1_yOf : GoodIn wsX10_outline wsX1_yOf := goodIn_r _ [58, 52, 53, 11, 54, 13, 14, 15, 16, 17, 202] (by decide +kernel) (by decide +kernel)
set_option maxRecDepth 20000 in
theorem gX10_outline_X1_yOf : GoodIn wsX10_outline (wsV RX10 91 RX1 yX1_yOf wsX1_yOf) := goodIn_app (goodIn_of _ (by decide +kernel)) ggX10_outline_X1_yOf
set_option maxRecDepth 20000 in
theorem ggX10_outline_X10_addDot : GoodIn wsX10_outline wsX10_addDot := goodIn_r _ [63, 4, 5, 1, 64, 65, 66, 62, 67, 68, 69, 70, 22, 71, 24, 72, 73, 74, 75, 76, 77, 78, 79, 194, 195, 196, 197, 198, 199, 200, 201, 203, 204, 205, 206, 207, 208] (by decide +kernel) (by decide +kernel)
set_option maxRecDepth 20000 in
theorem gX10_outline_X10_addDot : GoodIn wsX10_outline (wsV RX10 94 RX10 yX10_addDot wsX10_addDot) := goodIn_app (goodIn_of _ (by decide +kernel)) ggX10_outline_X10_addDot
set_option maxRecDepth 20000 in
theorem ggX10_outline_X8_firstOf : GoodIn wsX10_outline wsX8_firstOf := goodIn_r _ [84, 85, 86, 41, 42, 43, 220, 221, 222, 223, 224, 225, 226, 227, 228, 229, 230, 231] (by decide +kernel) (by decide +kernel)
set_option maxRecDepth 20000 in
theorem gX10_outline_X8_firstOf : GoodIn wsX10_outline (wsV RX10 98 RX8 yX8_firstOf wsX8_firstOf) := goodIn_app (goodIn_of _ (by decide +kernel)) ggX10_outline_X8_firstOf
set_option maxRecDepth 20000 in
theorem ggX10_outline_X8_countOf : GoodIn wsX10_outline wsX8_countOf := goodIn_r _ [90, 85, 86, 41, 42, 43, 91, 81, 82, 83, 84, 220, 221, 222, 223, 224, 225, 226, 227, 228, 229, 230, 231] (by decide +kernel) (by decide +kernel)
set_option maxRecDepth 20000 in
theorem gX10_outline_X8_countOf : GoodIn wsX10_outline (wsV RX10 101 RX8 yX8_countOf wsX8_countOf) := goodIn_app (goodIn_of _ (by decide +kernel)) ggX10_outline_X8_countOf
set_option maxRecDepth 20000 in
theorem ggX10_outline_X10_outlineRun : GoodIn wsX10_outline wsX10_outlineRun := goodIn_r _ [95, 7, 96, 97, 98, 83, 99, 100, 86, 41, 42, 43, 101, 102, 103, 104, 105, 106, 107, 108, 109, 110, 111, 112, 113, 62, 114, 6, 5, 115, 116, 117, 118, 119, 120, 121, 122, 123, 124, 125, 126, 127, 33, 128, 129, 130, 131, 132, 40, 133, 134, 135, 136, 137, 138, 139, 140, 141, 142, 143, 144, 145, 146, 147, 148, 149, 150, 151, 152, 153, 154, 155, 156, 157, 68, 69, 70, 22, 71, 24, 72, 73, 74, 75, 76, 77, 78, 79, 158, 159, 160, 161, 2, 162, 163, 164, 165, 166, 167, 168, 169, 64, 65, 66, 67, 170, 171, 172, 173, 3, 174, 175, 176, 177, 178, 1, 179, 180, 181, 182, 183, 4, 184, 185, 186, 187, 188, 189, 190, 191, 192, 193, 194, 195, 196, 197, 198, 199, 200, 201, 220, 221, 222, 223, 224, 225, 226, 227, 228, 229, 230, 231, 209, 210, 211, 212, 213, 214, 215, 216, 217, 218, 219, 203, 204, 205, 206, 207, 208] (by decide +kernel) (by decide +kernel)
set_option maxRecDepth 20000 in
theorem gX10_outline_X10_outlineRun : GoodIn wsX10_outline (wsV RX10 102 RX10 yX10_outlineRun wsX10_outlineRun) := goodIn_app (goodIn_of _ (by decide +kernel)) ggX10_outline_X10_outlineRun
theorem dX10_outline_0 : decode cX10_outline 0 = .ok (.aload_n 0, 1) := by decide +kernel
theorem dX10_outline_1 : decode cX10_outline 1 = .ok (.aload_n 1, 1) := by decide +kernel
theorem dX10_outline_2 : decode cX10_outline 2 = .ok (.invokevirtual 55, 3) := by decide +kernel
theorem dX10_outline_5 : decode cX10_outline 5 = .ok (.putfield 61, 3) := by decide +kernel
theorem dX10_outline_8 : decode cX10_outline 8 = .ok (.aload_n 0, 1) := by decide +kernel
theorem dX10_outline_9 : decode cX10_outline 9 = .ok (.aload_n 1, 1) := by decide +kernel
theorem dX10_outline_10 : decode cX10_outline 10 = .ok (.iconst 1, 1) := by decide +kernel
theorem dX10_outline_11 : decode cX10_outline 11 = .ok (.invokevirtual 64, 3) := by decide +kernel
theorem dX10_outline_14 : decode cX10_outline 14 = .ok (.putfield 68, 3) := by decide +kernel
theorem dX10_outline_17 : decode cX10_outline 17 = .ok (.aload_n 0, 1) := by decide +kernel
theorem dX10_outline_18 : decode cX10_outline 18 = .ok (.aload_n 1, 1) := by decide +kernel
theorem dX10_outline_19 : decode cX10_outline 19 = .ok (.iconst 2, 1) := by decide +kernel
theorem dX10_outline_20 : decode cX10_outline 20 = .ok (.invokevirtual 64, 3) := by decide +kernel
theorem dX10_outline_23 : decode cX10_outline 23 = .ok (.putfield 71, 3) := by decide +kernel
theorem dX10_outline_26 : decode cX10_outline 26 = .ok (.aload_n 0, 1) := by decide +kernel
theorem dX10_outline_27 : decode cX10_outline 27 = .ok (.aload_n 1, 1) := by decide +kernel
theorem dX10_outline_28 : decode cX10_outline 28 = .ok (.iconst 3, 1) := by decide +kernel
theorem dX10_outline_29 : decode cX10_outline 29 = .ok (.invokevirtual 64, 3) := by decide +kernel
theorem dX10_outline_32 : decode cX10_outline 32 = .ok (.putfield 74, 3) := by decide +kernel
theorem dX10_outline_35 : decode cX10_outline 35 = .ok (.aload_n 0, 1) := by decide +kernel
theorem dX10_outline_36 : decode cX10_outline 36 = .ok (.getfield 28, 3) := by decide +kernel
theorem dX10_outline_39 : decode cX10_outline 39 = .ok (.aload_n 0, 1) := by decide +kernel
theorem dX10_outline_40 : decode cX10_outline 40 = .ok (.getfield 61, 3) := by decide +kernel
theorem dX10_outline_43 : decode cX10_outline 43 = .ok (.invokevirtual 77, 3) := by decide +kernel
theorem dX10_outline_46 : decode cX10_outline 46 = .ok (.iconst 0, 1) := by decide +kernel
theorem dX10_outline_47 : decode cX10_outline 47 = .ok (.istore_n 2, 1) := by decide +kernel
theorem dX10_outline_48 : decode cX10_outline 48 = .ok (.iload_n 2, 1) := by decide +kernel
theorem dX10_outline_49 : decode cX10_outline 49 = .ok (.aload_n 1, 1) := by decide +kernel
theorem dX10_outline_50 : decode cX10_outline 50 = .ok (.invokevirtual 81, 3) := by decide +kernel
theorem dX10_outline_53 : decode cX10_outline 53 = .ok (.if_icmp .ge 88, 3) := by decide +kernel
theorem dX10_outline_56 : decode cX10_outline 56 = .ok (.aload_n 0, 1) := by decide +kernel
theorem dX10_outline_57 : decode cX10_outline 57 = .ok (.getfield 12, 3) := by decide +kernel
theorem dX10_outline_60 : decode cX10_outline 60 = .ok (.iload_n 2, 1) := by decide +kernel
theorem dX10_outline_61 : decode cX10_outline 61 = .ok (.invokevirtual 84, 3) := by decide +kernel
theorem dX10_outline_64 : decode cX10_outline 64 = .ok (.ifCond .ne 25, 3) := by decide +kernel
theorem dX10_outline_67 : decode cX10_outline 67 = .ok (.aload_n 0, 1) := by decide +kernel
theorem dX10_outline_68 : decode cX10_outline 68 = .ok (.bipush 64, 2) := by decide +kernel
theorem dX10_outline_70 : decode cX10_outline 70 = .ok (.aload_n 1, 1) := by decide +kernel
theorem dX10_outline_71 : decode cX10_outline 71 = .ok (.iload_n 2, 1) := by decide +kernel
theorem dX10_outline_72 : decode cX10_outline 72 = .ok (.iconst 0, 1) := by decide +kernel
theorem dX10_outline_73 : decode cX10_outline 73 = .ok (.invokevirtual 87, 3) := by decide +kernel
theorem dX10_outline_76 : decode cX10_outline 76 = .ok (.imul, 1) := by decide +kernel
theorem dX10_outline_77 : decode cX10_outline 77 = .ok (.bipush 64, 2) := by decide +kernel
theorem dX10_outline_79 : decode cX10_outline 79 = .ok (.aload_n 1, 1) := by decide +kernel
theorem dX10_outline_80 : decode cX10_outline 80 = .ok (.iload_n 2, 1) := by decide +kernel
theorem dX10_outline_81 : decode cX10_outline 81 = .ok (.iconst 0, 1) := by decide +kernel
theorem dX10_outline_82 : decode cX10_outline 82 = .ok (.invokevirtual 91, 3) := by decide +kernel
theorem dX10_outline_85 : decode cX10_outline 85 = .ok (.imul, 1) := by decide +kernel
theorem dX10_outline_86 : decode cX10_outline 86 = .ok (.invokevirtual 94, 3) := by decide +kernel
theorem dX10_outline_89 : decode cX10_outline 89 = .ok (.aload_n 0, 1) := by decide +kernel
theorem dX10_outline_90 : decode cX10_outline 90 = .ok (.getfield 21, 3) := by decide +kernel
theorem dX10_outline_93 : decode cX10_outline 93 = .ok (.iload_n 2, 1) := by decide +kernel
theorem dX10_outline_94 : decode cX10_outline 94 = .ok (.invokevirtual 98, 3) := by decide +kernel
theorem dX10_outline_97 : decode cX10_outline 97 = .ok (.aload_n 0, 1) := by decide +kernel
theorem dX10_outline_98 : decode cX10_outline 98 = .ok (.getfield 21, 3) := by decide +kernel
theorem dX10_outline_101 : decode cX10_outline 101 = .ok (.iload_n 2, 1) := by decide +kernel
theorem dX10_outline_102 : decode cX10_outline 102 = .ok (.invokevirtual 101, 3) := by decide +kernel
theorem dX10_outline_105 : decode cX10_outline 105 = .ok (.iadd, 1) := by decide +kernel
theorem dX10_outline_106 : decode cX10_outline 106 = .ok (.istore_n 3, 1) := by decide +kernel
theorem dX10_outline_107 : decode cX10_outline 107 = .ok (.aload_n 0, 1) := by decide +kernel
theorem dX10_outline_108 : decode cX10_outline 108 = .ok (.getfield 21, 3) := by decide +kernel
theorem dX10_outline_111 : decode cX10_outline 111 = .ok (.iload_n 2, 1) := by decide +kernel
theorem dX10_outline_112 : decode cX10_outline 112 = .ok (.invokevirtual 98, 3) := by decide +kernel
theorem dX10_outline_115 : decode cX10_outline 115 = .ok (.istore 4, 2) := by decide +kernel
theorem dX10_outline_117 : decode cX10_outline 117 = .ok (.iload 4, 2) := by decide +kernel
theorem dX10_outline_119 : decode cX10_outline 119 = .ok (.iload_n 3, 1) := by decide +kernel
theorem dX10_outline_120 : decode cX10_outline 120 = .ok (.if_icmp .ge 15, 3) := by decide +kernel
theorem dX10_outline_123 : decode cX10_outline 123 = .ok (.aload_n 0, 1) := by decide +kernel
theorem dX10_outline_124 : decode cX10_outline 124 = .ok (.iload 4, 2) := by decide +kernel
theorem dX10_outline_126 : decode cX10_outline 126 = .ok (.invokevirtual 102, 3) := by decide +kernel
theorem dX10_outline_129 : decode cX10_outline 129 = .ok (.iinc 4 1, 3) := by decide +kernel
theorem dX10_outline_132 : decode cX10_outline 132 = .ok (.goto (-15), 3) := by decide +kernel
theorem dX10_outline_135 : decode cX10_outline 135 = .ok (.iinc 2 1, 3) := by decide +kernel
theorem dX10_outline_138 : decode cX10_outline 138 = .ok (.goto (-90), 3) := by decide +kernel
theorem dX10_outline_141 : decode cX10_outline 141 = .ok (.return_, 1) := by decide +kernel
set_option maxRecDepth 20000 in
theorem ggX10_addDot_X10_addDisc : GoodIn wsX10_addDot wsX10_addDisc := goodIn_r _ [8, 2, 9, 10, 11, 12, 13, 14, 15, 16, 17, 18, 19, 20, 21, 22, 23, 24, 25, 26, 27, 28, 29, 30, 31, 32, 33, 34, 35, 36] (by decide +kernel) (by decide +kernel)
set_option maxRecDepth 20000 in
theorem gX10_addDot_X10_addDisc : GoodIn wsX10_addDot (wsV RX10 105 RX10 yX10_addDisc wsX10_addDisc) := goodIn_app (goodIn_of _ (by decide +kernel)) ggX10_addDot_X10_addDisc
set_option maxRecDepth 20000 in
theorem ggX10_addDot_X7_start : GoodIn wsX10_addDot wsX7_start := goodIn_r _ [13, 14, 15, 16, 31, 32, 33, 34, 35, 36] (by decide +kernel) (by decide +kernel)
set_option maxRecDepth 20000 in
theorem gX10_addDot_X7_start : GoodIn wsX10_addDot (wsV RX10 108 RX7 yX7_start wsX7_start) := goodIn_app (goodIn_of _ (by decide +kernel)) ggX10_addDot_X7_start
set_option maxRecDepth 20000 in
theorem ggX10_addDot_X7_addCorner : GoodIn wsX10_addDot wsX7_addCorner := goodIn_r _ [20, 14, 16, 21, 22, 31, 32, 33, 34, 35, 36] (by decide +kernel) (by decide +kernel)
set_option maxRecDepth 20000 in
theorem gX10_addDot_X7_addCorner : GoodIn wsX10_addDot (wsV RX10 111 RX7 yX7_addCorner wsX7_addCorner) := goodIn_app (goodIn_of _ (by decide +kernel)) ggX10_addDot_X7_addCorner
theorem dX10_addDot_0 : decode cX10_addDot 0 = .ok (.aload_n 0, 1) := by decide +kernel
theorem dX10_addDot_1 : decode cX10_addDot 1 = .ok (.getfield 74, 3) := by decide +kernel
theorem dX10_addDot_4 : decode cX10_addDot 4 = .ok (.iconst 1, 1) := by decide +kernel
theorem dX10_addDot_5 : decode cX10_addDot 5 = .ok (.if_icmp .ne 12, 3) := by decide +kernel
theorem dX10_addDot_8 : decode cX10_addDot 8 = .ok (.aload_n 0, 1) := by decide +kernel
theorem dX10_addDot_9 : decode cX10_addDot 9 = .ok (.iload_n 1, 1) := by decide +kernel
theorem dX10_addDot_10 : decode cX10_addDot 10 = .ok (.iload_n 2, 1) := by decide +kernel
theorem dX10_addDot_11 : decode cX10_addDot 11 = .ok (.invokevirtual 105, 3) := by decide +kernel
theorem dX10_addDot_14 : decode cX10_addDot 14 = .ok (.goto 95, 3) := by decide +kernel
theorem dX10_addDot_17 : decode cX10_addDot 17 = .ok (.aload_n 0, 1) := by decide +kernel
theorem dX10_addDot_18 : decode cX10_addDot 18 = .ok (.getfield 74, 3) := by decide +kernel
theorem dX10_addDot_21 : decode cX10_addDot 21 = .ok (.iconst 2, 1) := by decide +kernel
theorem dX10_addDot_22 : decode cX10_addDot 22 = .ok (.if_icmp .ne 87, 3) := by decide +kernel
theorem dX10_addDot_25 : decode cX10_addDot 25 = .ok (.aload_n 0, 1) := by decide +kernel
theorem dX10_addDot_26 : decode cX10_addDot 26 = .ok (.getfield 28, 3) := by decide +kernel
theorem dX10_addDot_29 : decode cX10_addDot 29 = .ok (.iconst 4, 1) := by decide +kernel
theorem dX10_addDot_30 : decode cX10_addDot 30 = .ok (.invokevirtual 108, 3) := by decide +kernel
theorem dX10_addDot_33 : decode cX10_addDot 33 = .ok (.aload_n 0, 1) := by decide +kernel
theorem dX10_addDot_34 : decode cX10_addDot 34 = .ok (.getfield 28, 3) := by decide +kernel
theorem dX10_addDot_37 : decode cX10_addDot 37 = .ok (.iload_n 1, 1) := by decide +kernel
theorem dX10_addDot_38 : decode cX10_addDot 38 = .ok (.aload_n 0, 1) := by decide +kernel
theorem dX10_addDot_39 : decode cX10_addDot 39 = .ok (.getfield 61, 3) := by decide +kernel
theorem dX10_addDot_42 : decode cX10_addDot 42 = .ok (.isub, 1) := by decide +kernel
theorem dX10_addDot_43 : decode cX10_addDot 43 = .ok (.iload_n 2, 1) := by decide +kernel
theorem dX10_addDot_44 : decode cX10_addDot 44 = .ok (.aload_n 0, 1) := by decide +kernel
theorem dX10_addDot_45 : decode cX10_addDot 45 = .ok (.getfield 61, 3) := by decide +kernel
theorem dX10_addDot_48 : decode cX10_addDot 48 = .ok (.isub, 1) := by decide +kernel
theorem dX10_addDot_49 : decode cX10_addDot 49 = .ok (.invokevirtual 111, 3) := by decide +kernel
theorem dX10_addDot_52 : decode cX10_addDot 52 = .ok (.aload_n 0, 1) := by decide +kernel
theorem dX10_addDot_53 : decode cX10_addDot 53 = .ok (.getfield 28, 3) := by decide +kernel
theorem dX10_addDot_56 : decode cX10_addDot 56 = .ok (.iload_n 1, 1) := by decide +kernel
theorem dX10_addDot_57 : decode cX10_addDot 57 = .ok (.aload_n 0, 1) := by decide +kernel
theorem dX10_addDot_58 : decode cX10_addDot 58 = .ok (.getfield 61, 3) := by decide +kernel
theorem dX10_addDot_61 : decode cX10_addDot 61 = .ok (.iadd, 1) := by decide +kernel
theorem dX10_addDot_62 : decode cX10_addDot 62 = .ok (.iload_n 2, 1) := by decide +kernel
theorem dX10_addDot_63 : decode cX10_addDot 63 = .ok (.aload_n 0, 1) := by decide +kernel
theorem dX10_addDot_64 : decode cX10_addDot 64 = .ok (.getfield 61, 3) := by decide +kernel
theorem dX10_addDot_67 : decode cX10_addDot 67 = .ok (.isub, 1) := by decide +kernel
theorem dX10_addDot_68 : decode cX10_addDot 68 = .ok (.invokevirtual 111, 3) := by decide +kernel
theorem dX10_addDot_71 : decode cX10_addDot 71 = .ok (.aload_n 0, 1) := by decide +kernel
theorem dX10_addDot_72 : decode cX10_addDot 72 = .ok (.getfield 28, 3) := by decide +kernel
theorem dX10_addDot_75 : decode cX10_addDot 75 = .ok (.iload_n 1, 1) := by decide +kernel
theorem dX10_addDot_76 : decode cX10_addDot 76 = .ok (.aload_n 0, 1) := by decide +kernel
theorem dX10_addDot_77 : decode cX10_addDot 77 = .ok (.getfield 61, 3) := by decide +kernel
theorem dX10_addDot_80 : decode cX10_addDot 80 = .ok (.iadd, 1) := by decide +kernel
theorem dX10_addDot_81 : decode cX10_addDot 81 = .ok (.iload_n 2, 1) := by decide +kernel
theorem dX10_addDot_82 : decode cX10_addDot 82 = .ok (.aload_n 0, 1) := by decide +kernel
theorem dX10_addDot_83 : decode cX10_addDot 83 = .ok (.getfield 61, 3) := by decide +kernel
theorem dX10_addDot_86 : decode cX10_addDot 86 = .ok (.iadd, 1) := by decide +kernel
theorem dX10_addDot_87 : decode cX10_addDot 87 = .ok (.invokevirtual 111, 3) := by decide +kernel
theorem dX10_addDot_90 : decode cX10_addDot 90 = .ok (.aload_n 0, 1) := by decide +kernel
theorem dX10_addDot_91 : decode cX10_addDot 91 = .ok (.getfield 28, 3) := by decide +kernel
theorem dX10_addDot_94 : decode cX10_addDot 94 = .ok (.iload_n 1, 1) := by decide +kernel
theorem dX10_addDot_95 : decode cX10_addDot 95 = .ok (.aload_n 0, 1) := by decide +kernel
theorem dX10_addDot_96 : decode cX10_addDot 96 = .ok (.getfield 61, 3) := by decide +kernel
theorem dX10_addDot_99 : decode cX10_addDot 99 = .ok (.isub, 1) := by decide +kernel
theorem dX10_addDot_100 : decode cX10_addDot 100 = .ok (.iload_n 2, 1) := by decide +kernel
theorem dX10_addDot_101 : decode cX10_addDot 101 = .ok (.aload_n 0, 1) := by decide +kernel
theorem dX10_addDot_102 : decode cX10_addDot 102 = .ok (.getfield 61, 3) := by decide +kernel
theorem dX10_addDot_105 : decode cX10_addDot 105 = .ok (.iadd, 1) := by decide +kernel
theorem dX10_addDot_106 : decode cX10_addDot 106 = .ok (.invokevirtual 111, 3) := by decide +kernel
theorem dX10_addDot_109 : decode cX10_addDot 109 = .ok (.return_, 1) := by decide +kernel
set_option maxRecDepth 20000 in
theorem ggX10_outlineRun_X8_firstSpanOf : GoodIn wsX10_outlineRun wsX8_firstSpanOf := goodIn_r _ [6, 7, 8, 9, 10, 11, 140, 141, 142, 143, 144, 145, 146, 147, 148, 149, 150, 151] (by decide +kernel) (by decide +kernel)
set_option maxRecDepth 20000 in
theorem gX10_outlineRun_X8_firstSpanOf : GoodIn wsX10_outlineRun (wsV RX10 114 RX8 yX8_firstSpanOf wsX8_firstSpanOf) := goodIn_app (goodIn_of _ (by decide +kernel)) ggX10_outlineRun_X8_firstSpanOf
set_option maxRecDepth 20000 in
theorem ggX10_outlineRun_X8_spansOf : GoodIn wsX10_outlineRun wsX8_spansOf := goodIn_r _ [15, 16, 8, 9, 10, 11, 140, 141, 142, 143, 144, 145, 146, 147, 148, 149, 150, 151] (by decide +kernel) (by decide +kernel)
set_option maxRecDepth 20000 in
theorem gX10_outlineRun_X8_spansOf : GoodIn wsX10_outlineRun (wsV RX10 117 RX8 yX8_spansOf wsX8_spansOf) := goodIn_app (goodIn_of _ (by decide +kernel)) ggX10_outlineRun_X8_spansOf
set_option maxRecDepth 20000 in
theorem ggX10_outlineRun_X8_isRing : GoodIn wsX10_outlineRun wsX8_isRing := goodIn_r _ [20, 21, 8, 9, 10, 11, 140, 141, 142, 143, 144, 145, 146, 147, 148, 149, 150, 151] (by decide +kernel) (by decide +kernel)
set_option maxRecDepth 20000 in
theorem gX10_outlineRun_X8_isRing : GoodIn wsX10_outlineRun (wsV RX10 120 RX8 yX8_isRing wsX8_isRing) := goodIn_app (goodIn_of _ (by decide +kernel)) ggX10_outlineRun_X8_isRing
set_option maxRecDepth 20000 in
theorem ggX10_outlineRun_X10_addStrip : GoodIn wsX10_outlineRun wsX10_addStrip := goodIn_r _ [26, 1, 27, 28, 29, 30, 31, 5, 32, 33, 8, 9, 10, 11, 34, 35, 36, 37, 38, 39, 40, 41, 42, 43, 44, 45, 46, 47, 48, 49, 50, 51, 52, 53, 54, 55, 56, 57, 58, 59, 60, 61, 62, 63, 64, 65, 66, 67, 68, 69, 70, 71, 72, 73, 74, 75, 76, 77, 78, 79, 80, 81, 82, 83, 84, 85, 86, 87, 132, 133, 134, 135, 136, 137, 138, 139, 140, 141, 142, 143, 144, 145, 146, 147, 148, 149, 150, 151, 152, 153, 154, 155, 156, 157, 158, 159, 160, 161, 162, 163, 164, 165, 166, 167, 168] (by decide +kernel) (by decide +kernel)
set_option maxRecDepth 20000 in
theorem gX10_outlineRun_X10_addStrip : GoodIn wsX10_outlineRun (wsV RX10 124 RX10 yX10_addStrip wsX10_addStrip) := goodIn_app (goodIn_of _ (by decide +kernel)) ggX10_outlineRun_X10_addStrip
set_option maxRecDepth 20000 in
theorem ggX10_outlineRun_X10_addJoin : GoodIn wsX10_outlineRun wsX10_addJoin := goodIn_r _ [91, 1, 27, 92, 28, 29, 30, 31, 5, 32, 33, 8, 9, 10, 11, 93, 94, 95, 42, 96, 45, 57, 48, 97, 98, 99, 100, 59, 60, 61, 62, 63, 39, 40, 41, 43, 44, 46, 47, 49, 50, 51, 52, 53, 54, 55, 56, 58, 101, 102, 103, 25, 104, 74, 75, 76, 77, 78, 79, 80, 81, 82, 83, 84, 85, 86, 87, 64, 65, 66, 67, 68, 69, 70, 71, 72, 73, 105, 106, 107, 108, 109, 110, 111, 112, 113, 114, 115, 116, 132, 133, 134, 135, 136, 137, 138, 139, 140, 141, 142, 143, 144, 145, 146, 147, 148, 149, 150, 151, 152, 153, 154, 155, 156, 157, 158, 159, 160, 161, 162, 163, 164, 165, 166, 167, 168] (by decide +kernel) (by decide +kernel)
set_option maxRecDepth 20000 in
theorem gX10_outlineRun_X10_addJoin : GoodIn wsX10_outlineRun (wsV RX10 127 RX10 yX10_addJoin wsX10_addJoin) := goodIn_app (goodIn_of _ (by decide +kernel)) ggX10_outlineRun_X10_addJoin
set_option maxRecDepth 20000 in
theorem ggX10_outlineRun_X8_segmentOf : GoodIn wsX10_outlineRun wsX8_segmentOf := goodIn_r _ [32, 33, 8, 9, 10, 11, 140, 141, 142, 143, 144, 145, 146, 147, 148, 149, 150, 151] (by decide +kernel) (by decide +kernel)
set_option maxRecDepth 20000 in
theorem gX10_outlineRun_X8_segmentOf : GoodIn wsX10_outlineRun (wsV RX10 130 RX8 yX8_segmentOf wsX8_segmentOf) := goodIn_app (goodIn_of _ (by decide +kernel)) ggX10_outlineRun_X8_segmentOf
set_option maxRecDepth 20000 in
theorem ggX10_outlineRun_X8_fromOf : GoodIn wsX10_outlineRun wsX8_fromOf := goodIn_r _ [37, 38, 8, 9, 10, 11, 140, 141, 142, 143, 144, 145, 146, 147, 148, 149, 150, 151] (by decide +kernel) (by decide +kernel)
set_option maxRecDepth 20000 in
theorem gX10_outlineRun_X8_fromOf : GoodIn wsX10_outlineRun (wsV RX10 133 RX8 yX8_fromOf wsX8_fromOf) := goodIn_app (goodIn_of _ (by decide +kernel)) ggX10_outlineRun_X8_fromOf
set_option maxRecDepth 20000 in
theorem ggX10_outlineRun_X10_addCap : GoodIn wsX10_outlineRun wsX10_addCap := goodIn_r _ [120, 27, 121, 28, 39, 40, 41, 42, 43, 44, 45, 46, 47, 48, 9, 10, 11, 49, 50, 51, 52, 53, 54, 55, 56, 57, 58, 101, 102, 103, 25, 104, 74, 75, 76, 77, 78, 79, 80, 81, 82, 83, 84, 85, 86, 87, 64, 65, 66, 67, 68, 69, 70, 71, 72, 73, 122, 123, 124, 125, 126, 127, 128, 129, 130, 131, 132, 133, 134, 135, 136, 137, 138, 139, 152, 153, 154, 155, 156, 157, 158, 159, 160, 161, 162, 163, 164, 165, 166, 167, 168] (by decide +kernel) (by decide +kernel)
set_option maxRecDepth 20000 in
theorem gX10_outlineRun_X10_addCap : GoodIn wsX10_outlineRun (wsV RX10 136 RX10 yX10_addCap wsX10_addCap) := goodIn_app (goodIn_of _ (by decide +kernel)) ggX10_outlineRun_X10_addCap
set_option maxRecDepth 20000 in
theorem ggX10_outlineRun_X8_toOf : GoodIn wsX10_outlineRun wsX8_toOf := goodIn_r _ [62, 63, 8, 9, 10, 11, 140, 141, 142, 143, 144, 145, 146, 147, 148, 149, 150, 151] (by decide +kernel) (by decide +kernel)
set_option maxRecDepth 20000 in
theorem gX10_outlineRun_X8_toOf : GoodIn wsX10_outlineRun (wsV RX10 140 RX8 yX8_toOf wsX8_toOf) := goodIn_app (goodIn_of _ (by decide +kernel)) ggX10_outlineRun_X8_toOf
theorem dX10_outlineRun_0 : decode cX10_outlineRun 0 = .ok (.aload_n 0, 1) := by decide +kernel
theorem dX10_outlineRun_1 : decode cX10_outlineRun 1 = .ok (.getfield 21, 3) := by decide +kernel
theorem dX10_outlineRun_4 : decode cX10_outlineRun 4 = .ok (.iload_n 1, 1) := by decide +kernel
theorem dX10_outlineRun_5 : decode cX10_outlineRun 5 = .ok (.invokevirtual 114, 3) := by decide +kernel
theorem dX10_outlineRun_8 : decode cX10_outlineRun 8 = .ok (.istore_n 2, 1) := by decide +kernel
theorem dX10_outlineRun_9 : decode cX10_outlineRun 9 = .ok (.iload_n 2, 1) := by decide +kernel
theorem dX10_outlineRun_10 : decode cX10_outlineRun 10 = .ok (.aload_n 0, 1) := by decide +kernel
theorem dX10_outlineRun_11 : decode cX10_outlineRun 11 = .ok (.getfield 21, 3) := by decide +kernel
theorem dX10_outlineRun_14 : decode cX10_outlineRun 14 = .ok (.iload_n 1, 1) := by decide +kernel
theorem dX10_outlineRun_15 : decode cX10_outlineRun 15 = .ok (.invokevirtual 117, 3) := by decide +kernel
theorem dX10_outlineRun_18 : decode cX10_outlineRun 18 = .ok (.iadd, 1) := by decide +kernel
theorem dX10_outlineRun_19 : decode cX10_outlineRun 19 = .ok (.istore_n 3, 1) := by decide +kernel
theorem dX10_outlineRun_20 : decode cX10_outlineRun 20 = .ok (.aload_n 0, 1) := by decide +kernel
theorem dX10_outlineRun_21 : decode cX10_outlineRun 21 = .ok (.getfield 21, 3) := by decide +kernel
theorem dX10_outlineRun_24 : decode cX10_outlineRun 24 = .ok (.iload_n 1, 1) := by decide +kernel
theorem dX10_outlineRun_25 : decode cX10_outlineRun 25 = .ok (.invokevirtual 120, 3) := by decide +kernel
theorem dX10_outlineRun_28 : decode cX10_outlineRun 28 = .ok (.istore 4, 2) := by decide +kernel
theorem dX10_outlineRun_30 : decode cX10_outlineRun 30 = .ok (.iload_n 2, 1) := by decide +kernel
theorem dX10_outlineRun_31 : decode cX10_outlineRun 31 = .ok (.istore 5, 2) := by decide +kernel
theorem dX10_outlineRun_33 : decode cX10_outlineRun 33 = .ok (.iload 5, 2) := by decide +kernel
theorem dX10_outlineRun_35 : decode cX10_outlineRun 35 = .ok (.iload_n 3, 1) := by decide +kernel
theorem dX10_outlineRun_36 : decode cX10_outlineRun 36 = .ok (.if_icmp .ge 48, 3) := by decide +kernel
theorem dX10_outlineRun_39 : decode cX10_outlineRun 39 = .ok (.aload_n 0, 1) := by decide +kernel
theorem dX10_outlineRun_40 : decode cX10_outlineRun 40 = .ok (.iload 5, 2) := by decide +kernel
theorem dX10_outlineRun_42 : decode cX10_outlineRun 42 = .ok (.invokevirtual 124, 3) := by decide +kernel
theorem dX10_outlineRun_45 : decode cX10_outlineRun 45 = .ok (.iload 5, 2) := by decide +kernel
theorem dX10_outlineRun_47 : decode cX10_outlineRun 47 = .ok (.iconst 1, 1) := by decide +kernel
theorem dX10_outlineRun_48 : decode cX10_outlineRun 48 = .ok (.iadd, 1) := by decide +kernel
theorem dX10_outlineRun_49 : decode cX10_outlineRun 49 = .ok (.iload_n 3, 1) := by decide +kernel
theorem dX10_outlineRun_50 : decode cX10_outlineRun 50 = .ok (.if_icmp .ge 16, 3) := by decide +kernel
theorem dX10_outlineRun_53 : decode cX10_outlineRun 53 = .ok (.aload_n 0, 1) := by decide +kernel
theorem dX10_outlineRun_54 : decode cX10_outlineRun 54 = .ok (.iload 5, 2) := by decide +kernel
theorem dX10_outlineRun_56 : decode cX10_outlineRun 56 = .ok (.iload 5, 2) := by decide +kernel
theorem dX10_outlineRun_58 : decode cX10_outlineRun 58 = .ok (.iconst 1, 1) := by decide +kernel
theorem dX10_outlineRun_59 : decode cX10_outlineRun 59 = .ok (.iadd, 1) := by decide +kernel
theorem dX10_outlineRun_60 : decode cX10_outlineRun 60 = .ok (.invokevirtual 127, 3) := by decide +kernel
theorem dX10_outlineRun_63 : decode cX10_outlineRun 63 = .ok (.goto 15, 3) := by decide +kernel
theorem dX10_outlineRun_66 : decode cX10_outlineRun 66 = .ok (.iload 4, 2) := by decide +kernel
theorem dX10_outlineRun_68 : decode cX10_outlineRun 68 = .ok (.ifCond .eq 10, 3) := by decide +kernel
theorem dX10_outlineRun_71 : decode cX10_outlineRun 71 = .ok (.aload_n 0, 1) := by decide +kernel
theorem dX10_outlineRun_72 : decode cX10_outlineRun 72 = .ok (.iload 5, 2) := by decide +kernel
theorem dX10_outlineRun_74 : decode cX10_outlineRun 74 = .ok (.iload_n 2, 1) := by decide +kernel
theorem dX10_outlineRun_75 : decode cX10_outlineRun 75 = .ok (.invokevirtual 127, 3) := by decide +kernel
theorem dX10_outlineRun_78 : decode cX10_outlineRun 78 = .ok (.iinc 5 1, 3) := by decide +kernel
theorem dX10_outlineRun_81 : decode cX10_outlineRun 81 = .ok (.goto (-48), 3) := by decide +kernel
theorem dX10_outlineRun_84 : decode cX10_outlineRun 84 = .ok (.iload 4, 2) := by decide +kernel
theorem dX10_outlineRun_86 : decode cX10_outlineRun 86 = .ok (.ifCond .ne 54, 3) := by decide +kernel
theorem dX10_outlineRun_89 : decode cX10_outlineRun 89 = .ok (.iload_n 2, 1) := by decide +kernel
theorem dX10_outlineRun_90 : decode cX10_outlineRun 90 = .ok (.iload_n 3, 1) := by decide +kernel
theorem dX10_outlineRun_91 : decode cX10_outlineRun 91 = .ok (.if_icmp .ge 49, 3) := by decide +kernel
theorem dX10_outlineRun_94 : decode cX10_outlineRun 94 = .ok (.aload_n 0, 1) := by decide +kernel
theorem dX10_outlineRun_95 : decode cX10_outlineRun 95 = .ok (.aload_n 0, 1) := by decide +kernel
theorem dX10_outlineRun_96 : decode cX10_outlineRun 96 = .ok (.getfield 21, 3) := by decide +kernel
theorem dX10_outlineRun_99 : decode cX10_outlineRun 99 = .ok (.iload_n 2, 1) := by decide +kernel
theorem dX10_outlineRun_100 : decode cX10_outlineRun 100 = .ok (.invokevirtual 130, 3) := by decide +kernel
theorem dX10_outlineRun_103 : decode cX10_outlineRun 103 = .ok (.aload_n 0, 1) := by decide +kernel
theorem dX10_outlineRun_104 : decode cX10_outlineRun 104 = .ok (.getfield 21, 3) := by decide +kernel
theorem dX10_outlineRun_107 : decode cX10_outlineRun 107 = .ok (.iload_n 2, 1) := by decide +kernel
theorem dX10_outlineRun_108 : decode cX10_outlineRun 108 = .ok (.invokevirtual 133, 3) := by decide +kernel
theorem dX10_outlineRun_111 : decode cX10_outlineRun 111 = .ok (.iconst (-1), 1) := by decide +kernel
theorem dX10_outlineRun_112 : decode cX10_outlineRun 112 = .ok (.invokevirtual 136, 3) := by decide +kernel
theorem dX10_outlineRun_115 : decode cX10_outlineRun 115 = .ok (.aload_n 0, 1) := by decide +kernel
theorem dX10_outlineRun_116 : decode cX10_outlineRun 116 = .ok (.aload_n 0, 1) := by decide +kernel
theorem dX10_outlineRun_117 : decode cX10_outlineRun 117 = .ok (.getfield 21, 3) := by decide +kernel
theorem dX10_outlineRun_120 : decode cX10_outlineRun 120 = .ok (.iload_n 3, 1) := by decide +kernel
theorem dX10_outlineRun_121 : decode cX10_outlineRun 121 = .ok (.iconst 1, 1) := by decide +kernel
theorem dX10_outlineRun_122 : decode cX10_outlineRun 122 = .ok (.isub, 1) := by decide +kernel
theorem dX10_outlineRun_123 : decode cX10_outlineRun 123 = .ok (.invokevirtual 130, 3) := by decide +kernel
theorem dX10_outlineRun_126 : decode cX10_outlineRun 126 = .ok (.aload_n 0, 1) := by decide +kernel
theorem dX10_outlineRun_127 : decode cX10_outlineRun 127 = .ok (.getfield 21, 3) := by decide +kernel
theorem dX10_outlineRun_130 : decode cX10_outlineRun 130 = .ok (.iload_n 3, 1) := by decide +kernel
theorem dX10_outlineRun_131 : decode cX10_outlineRun 131 = .ok (.iconst 1, 1) := by decide +kernel
theorem dX10_outlineRun_132 : decode cX10_outlineRun 132 = .ok (.isub, 1) := by decide +kernel
theorem dX10_outlineRun_133 : decode cX10_outlineRun 133 = .ok (.invokevirtual 140, 3) := by decide +kernel
theorem dX10_outlineRun_136 : decode cX10_outlineRun 136 = .ok (.iconst 1, 1) := by decide +kernel
theorem dX10_outlineRun_137 : decode cX10_outlineRun 137 = .ok (.invokevirtual 136, 3) := by decide +kernel
theorem dX10_outlineRun_140 : decode cX10_outlineRun 140 = .ok (.return_, 1) := by decide +kernel
set_option maxRecDepth 20000 in
theorem ggX10_addStrip_X8_segmentOf : GoodIn wsX10_addStrip wsX8_segmentOf := goodIn_r _ [8, 9, 10, 11, 12, 13, 76, 77, 78, 79, 80, 81, 82, 83, 84, 85, 86, 87] (by decide +kernel) (by decide +kernel)
set_option maxRecDepth 20000 in
theorem gX10_addStrip_X8_segmentOf : GoodIn wsX10_addStrip (wsV RX10 130 RX8 yX8_segmentOf wsX8_segmentOf) := goodIn_app (goodIn_of _ (by decide +kernel)) ggX10_addStrip_X8_segmentOf
set_option maxRecDepth 20000 in
theorem ggX10_addStrip_X8_fromOf : GoodIn wsX10_addStrip wsX8_fromOf := goodIn_r _ [17, 18, 10, 11, 12, 13, 76, 77, 78, 79, 80, 81, 82, 83, 84, 85, 86, 87] (by decide +kernel) (by decide +kernel)
set_option maxRecDepth 20000 in
theorem gX10_addStrip_X8_fromOf : GoodIn wsX10_addStrip (wsV RX10 133 RX8 yX8_fromOf wsX8_fromOf) := goodIn_app (goodIn_of _ (by decide +kernel)) ggX10_addStrip_X8_fromOf
set_option maxRecDepth 20000 in
theorem ggX10_addStrip_X9_xAt : GoodIn wsX10_addStrip wsX9_xAt := goodIn_r _ [23, 24, 25, 26, 27, 28, 11, 12, 13, 29, 30, 31, 32, 88, 89, 90, 91, 92, 93, 94, 95, 96, 97, 98] (by decide +kernel) (by decide +kernel)
set_option maxRecDepth 20000 in
theorem gX10_addStrip_X9_xAt : GoodIn wsX10_addStrip (wsV RX10 143 RX9 yX9_xAt wsX9_xAt) := goodIn_app (goodIn_of _ (by decide +kernel)) ggX10_addStrip_X9_xAt
set_option maxRecDepth 20000 in
theorem ggX10_addStrip_X9_yAt : GoodIn wsX10_addStrip wsX9_yAt := goodIn_r _ [36, 24, 37, 38, 27, 28, 11, 12, 13, 29, 30, 31, 32, 88, 89, 90, 91, 92, 93, 94, 95, 96, 97, 98] (by decide +kernel) (by decide +kernel)
set_option maxRecDepth 20000 in
theorem gX10_addStrip_X9_yAt : GoodIn wsX10_addStrip (wsV RX10 146 RX9 yX9_yAt wsX9_yAt) := goodIn_app (goodIn_of _ (by decide +kernel)) ggX10_addStrip_X9_yAt
set_option maxRecDepth 20000 in
theorem ggX10_addStrip_X8_toOf : GoodIn wsX10_addStrip wsX8_toOf := goodIn_r _ [42, 43, 10, 11, 12, 13, 76, 77, 78, 79, 80, 81, 82, 83, 84, 85, 86, 87] (by decide +kernel) (by decide +kernel)
set_option maxRecDepth 20000 in
theorem gX10_addStrip_X8_toOf : GoodIn wsX10_addStrip (wsV RX10 140 RX8 yX8_toOf wsX8_toOf) := goodIn_app (goodIn_of _ (by decide +kernel)) ggX10_addStrip_X8_toOf
set_option maxRecDepth 20000 in
theorem ggX10_addStrip_X9_normalX : GoodIn wsX10_addStrip wsX9_normalX := goodIn_r _ [47, 48, 28, 11, 12, 13, 88, 89, 90, 91, 92, 93, 94, 95, 96, 97, 98] (by decide +kernel) (by decide +kernel)
set_option maxRecDepth 20000 in
theorem gX10_addStrip_X9_normalX : GoodIn wsX10_addStrip (wsV RX10 149 RX9 yX9_normalX wsX9_normalX) := goodIn_app (goodIn_of _ (by decide +kernel)) ggX10_addStrip_X9_normalX
set_option maxRecDepth 20000 in
theorem ggX10_addStrip_X9_normalY : GoodIn wsX10_addStrip wsX9_normalY := goodIn_r _ [52, 53, 28, 11, 12, 13, 88, 89, 90, 91, 92, 93, 94, 95, 96, 97, 98] (by decide +kernel) (by decide +kernel)
set_option maxRecDepth 20000 in
theorem gX10_addStrip_X9_normalY : GoodIn wsX10_addStrip (wsV RX10 152 RX9 yX9_normalY wsX9_normalY) := goodIn_app (goodIn_of _ (by decide +kernel)) ggX10_addStrip_X9_normalY
set_option maxRecDepth 20000 in
theorem ggX10_addStrip_X7_start : GoodIn wsX10_addStrip wsX7_start := goodIn_r _ [58, 59, 60, 61, 99, 100, 101, 102, 103, 104] (by decide +kernel) (by decide +kernel)
set_option maxRecDepth 20000 in
theorem gX10_addStrip_X7_start : GoodIn wsX10_addStrip (wsV RX10 108 RX7 yX7_start wsX7_start) := goodIn_app (goodIn_of _ (by decide +kernel)) ggX10_addStrip_X7_start
set_option maxRecDepth 20000 in
theorem ggX10_addStrip_X7_addCorner : GoodIn wsX10_addStrip wsX7_addCorner := goodIn_r _ [65, 59, 61, 66, 67, 99, 100, 101, 102, 103, 104] (by decide +kernel) (by decide +kernel)
set_option maxRecDepth 20000 in
theorem gX10_addStrip_X7_addCorner : GoodIn wsX10_addStrip (wsV RX10 111 RX7 yX7_addCorner wsX7_addCorner) := goodIn_app (goodIn_of _ (by decide +kernel)) ggX10_addStrip_X7_addCorner
theorem dX10_addStrip_0 : decode cX10_addStrip 0 = .ok (.aload_n 0, 1) := by decide +kernel
theorem dX10_addStrip_1 : decode cX10_addStrip 1 = .ok (.getfield 21, 3) := by decide +kernel
theorem dX10_addStrip_4 : decode cX10_addStrip 4 = .ok (.iload_n 1, 1) := by decide +kernel
theorem dX10_addStrip_5 : decode cX10_addStrip 5 = .ok (.invokevirtual 130, 3) := by decide +kernel
theorem dX10_addStrip_8 : decode cX10_addStrip 8 = .ok (.istore_n 2, 1) := by decide +kernel
theorem dX10_addStrip_9 : decode cX10_addStrip 9 = .ok (.aload_n 0, 1) := by decide +kernel
theorem dX10_addStrip_10 : decode cX10_addStrip 10 = .ok (.getfield 12, 3) := by decide +kernel
theorem dX10_addStrip_13 : decode cX10_addStrip 13 = .ok (.iload_n 2, 1) := by decide +kernel
theorem dX10_addStrip_14 : decode cX10_addStrip 14 = .ok (.aload_n 0, 1) := by decide +kernel
theorem dX10_addStrip_15 : decode cX10_addStrip 15 = .ok (.getfield 21, 3) := by decide +kernel
theorem dX10_addStrip_18 : decode cX10_addStrip 18 = .ok (.iload_n 1, 1) := by decide +kernel
theorem dX10_addStrip_19 : decode cX10_addStrip 19 = .ok (.invokevirtual 133, 3) := by decide +kernel
theorem dX10_addStrip_22 : decode cX10_addStrip 22 = .ok (.invokevirtual 143, 3) := by decide +kernel
theorem dX10_addStrip_25 : decode cX10_addStrip 25 = .ok (.istore_n 3, 1) := by decide +kernel
theorem dX10_addStrip_26 : decode cX10_addStrip 26 = .ok (.aload_n 0, 1) := by decide +kernel
theorem dX10_addStrip_27 : decode cX10_addStrip 27 = .ok (.getfield 12, 3) := by decide +kernel
theorem dX10_addStrip_30 : decode cX10_addStrip 30 = .ok (.iload_n 2, 1) := by decide +kernel
theorem dX10_addStrip_31 : decode cX10_addStrip 31 = .ok (.aload_n 0, 1) := by decide +kernel
theorem dX10_addStrip_32 : decode cX10_addStrip 32 = .ok (.getfield 21, 3) := by decide +kernel
theorem dX10_addStrip_35 : decode cX10_addStrip 35 = .ok (.iload_n 1, 1) := by decide +kernel
theorem dX10_addStrip_36 : decode cX10_addStrip 36 = .ok (.invokevirtual 133, 3) := by decide +kernel
theorem dX10_addStrip_39 : decode cX10_addStrip 39 = .ok (.invokevirtual 146, 3) := by decide +kernel
theorem dX10_addStrip_42 : decode cX10_addStrip 42 = .ok (.istore 4, 2) := by decide +kernel
theorem dX10_addStrip_44 : decode cX10_addStrip 44 = .ok (.aload_n 0, 1) := by decide +kernel
theorem dX10_addStrip_45 : decode cX10_addStrip 45 = .ok (.getfield 12, 3) := by decide +kernel
theorem dX10_addStrip_48 : decode cX10_addStrip 48 = .ok (.iload_n 2, 1) := by decide +kernel
theorem dX10_addStrip_49 : decode cX10_addStrip 49 = .ok (.aload_n 0, 1) := by decide +kernel
theorem dX10_addStrip_50 : decode cX10_addStrip 50 = .ok (.getfield 21, 3) := by decide +kernel
theorem dX10_addStrip_53 : decode cX10_addStrip 53 = .ok (.iload_n 1, 1) := by decide +kernel
theorem dX10_addStrip_54 : decode cX10_addStrip 54 = .ok (.invokevirtual 140, 3) := by decide +kernel
theorem dX10_addStrip_57 : decode cX10_addStrip 57 = .ok (.invokevirtual 143, 3) := by decide +kernel
theorem dX10_addStrip_60 : decode cX10_addStrip 60 = .ok (.istore 5, 2) := by decide +kernel
theorem dX10_addStrip_62 : decode cX10_addStrip 62 = .ok (.aload_n 0, 1) := by decide +kernel
theorem dX10_addStrip_63 : decode cX10_addStrip 63 = .ok (.getfield 12, 3) := by decide +kernel
theorem dX10_addStrip_66 : decode cX10_addStrip 66 = .ok (.iload_n 2, 1) := by decide +kernel
theorem dX10_addStrip_67 : decode cX10_addStrip 67 = .ok (.aload_n 0, 1) := by decide +kernel
theorem dX10_addStrip_68 : decode cX10_addStrip 68 = .ok (.getfield 21, 3) := by decide +kernel
theorem dX10_addStrip_71 : decode cX10_addStrip 71 = .ok (.iload_n 1, 1) := by decide +kernel
theorem dX10_addStrip_72 : decode cX10_addStrip 72 = .ok (.invokevirtual 140, 3) := by decide +kernel
theorem dX10_addStrip_75 : decode cX10_addStrip 75 = .ok (.invokevirtual 146, 3) := by decide +kernel
theorem dX10_addStrip_78 : decode cX10_addStrip 78 = .ok (.istore 6, 2) := by decide +kernel
theorem dX10_addStrip_80 : decode cX10_addStrip 80 = .ok (.aload_n 0, 1) := by decide +kernel
theorem dX10_addStrip_81 : decode cX10_addStrip 81 = .ok (.getfield 12, 3) := by decide +kernel
theorem dX10_addStrip_84 : decode cX10_addStrip 84 = .ok (.iload_n 2, 1) := by decide +kernel
theorem dX10_addStrip_85 : decode cX10_addStrip 85 = .ok (.invokevirtual 149, 3) := by decide +kernel
theorem dX10_addStrip_88 : decode cX10_addStrip 88 = .ok (.istore 7, 2) := by decide +kernel
theorem dX10_addStrip_90 : decode cX10_addStrip 90 = .ok (.aload_n 0, 1) := by decide +kernel
theorem dX10_addStrip_91 : decode cX10_addStrip 91 = .ok (.getfield 12, 3) := by decide +kernel
theorem dX10_addStrip_94 : decode cX10_addStrip 94 = .ok (.iload_n 2, 1) := by decide +kernel
theorem dX10_addStrip_95 : decode cX10_addStrip 95 = .ok (.invokevirtual 152, 3) := by decide +kernel
theorem dX10_addStrip_98 : decode cX10_addStrip 98 = .ok (.istore 8, 2) := by decide +kernel
theorem dX10_addStrip_100 : decode cX10_addStrip 100 = .ok (.aload_n 0, 1) := by decide +kernel
theorem dX10_addStrip_101 : decode cX10_addStrip 101 = .ok (.getfield 28, 3) := by decide +kernel
theorem dX10_addStrip_104 : decode cX10_addStrip 104 = .ok (.iconst 0, 1) := by decide +kernel
theorem dX10_addStrip_105 : decode cX10_addStrip 105 = .ok (.invokevirtual 108, 3) := by decide +kernel
theorem dX10_addStrip_108 : decode cX10_addStrip 108 = .ok (.aload_n 0, 1) := by decide +kernel
theorem dX10_addStrip_109 : decode cX10_addStrip 109 = .ok (.getfield 28, 3) := by decide +kernel
theorem dX10_addStrip_112 : decode cX10_addStrip 112 = .ok (.iload_n 3, 1) := by decide +kernel
theorem dX10_addStrip_113 : decode cX10_addStrip 113 = .ok (.iload 7, 2) := by decide +kernel
theorem dX10_addStrip_115 : decode cX10_addStrip 115 = .ok (.iadd, 1) := by decide +kernel
theorem dX10_addStrip_116 : decode cX10_addStrip 116 = .ok (.iload 4, 2) := by decide +kernel
theorem dX10_addStrip_118 : decode cX10_addStrip 118 = .ok (.iload 8, 2) := by decide +kernel
theorem dX10_addStrip_120 : decode cX10_addStrip 120 = .ok (.iadd, 1) := by decide +kernel
theorem dX10_addStrip_121 : decode cX10_addStrip 121 = .ok (.invokevirtual 111, 3) := by decide +kernel
theorem dX10_addStrip_124 : decode cX10_addStrip 124 = .ok (.aload_n 0, 1) := by decide +kernel
theorem dX10_addStrip_125 : decode cX10_addStrip 125 = .ok (.getfield 28, 3) := by decide +kernel
theorem dX10_addStrip_128 : decode cX10_addStrip 128 = .ok (.iload 5, 2) := by decide +kernel
theorem dX10_addStrip_130 : decode cX10_addStrip 130 = .ok (.iload 7, 2) := by decide +kernel
theorem dX10_addStrip_132 : decode cX10_addStrip 132 = .ok (.iadd, 1) := by decide +kernel
theorem dX10_addStrip_133 : decode cX10_addStrip 133 = .ok (.iload 6, 2) := by decide +kernel
theorem dX10_addStrip_135 : decode cX10_addStrip 135 = .ok (.iload 8, 2) := by decide +kernel
theorem dX10_addStrip_137 : decode cX10_addStrip 137 = .ok (.iadd, 1) := by decide +kernel
theorem dX10_addStrip_138 : decode cX10_addStrip 138 = .ok (.invokevirtual 111, 3) := by decide +kernel
theorem dX10_addStrip_141 : decode cX10_addStrip 141 = .ok (.aload_n 0, 1) := by decide +kernel
theorem dX10_addStrip_142 : decode cX10_addStrip 142 = .ok (.getfield 28, 3) := by decide +kernel
theorem dX10_addStrip_145 : decode cX10_addStrip 145 = .ok (.iload 5, 2) := by decide +kernel
theorem dX10_addStrip_147 : decode cX10_addStrip 147 = .ok (.iload 7, 2) := by decide +kernel
theorem dX10_addStrip_149 : decode cX10_addStrip 149 = .ok (.isub, 1) := by decide +kernel
theorem dX10_addStrip_150 : decode cX10_addStrip 150 = .ok (.iload 6, 2) := by decide +kernel
theorem dX10_addStrip_152 : decode cX10_addStrip 152 = .ok (.iload 8, 2) := by decide +kernel
theorem dX10_addStrip_154 : decode cX10_addStrip 154 = .ok (.isub, 1) := by decide +kernel
theorem dX10_addStrip_155 : decode cX10_addStrip 155 = .ok (.invokevirtual 111, 3) := by decide +kernel
theorem dX10_addStrip_158 : decode cX10_addStrip 158 = .ok (.aload_n 0, 1) := by decide +kernel
theorem dX10_addStrip_159 : decode cX10_addStrip 159 = .ok (.getfield 28, 3) := by decide +kernel
theorem dX10_addStrip_162 : decode cX10_addStrip 162 = .ok (.iload_n 3, 1) := by decide +kernel
theorem dX10_addStrip_163 : decode cX10_addStrip 163 = .ok (.iload 7, 2) := by decide +kernel
theorem dX10_addStrip_165 : decode cX10_addStrip 165 = .ok (.isub, 1) := by decide +kernel
theorem dX10_addStrip_166 : decode cX10_addStrip 166 = .ok (.iload 4, 2) := by decide +kernel
theorem dX10_addStrip_168 : decode cX10_addStrip 168 = .ok (.iload 8, 2) := by decide +kernel
theorem dX10_addStrip_170 : decode cX10_addStrip 170 = .ok (.isub, 1) := by decide +kernel
theorem dX10_addStrip_171 : decode cX10_addStrip 171 = .ok (.invokevirtual 111, 3) := by decide +kernel
theorem dX10_addStrip_174 : decode cX10_addStrip 174 = .ok (.return_, 1) := by decide +kernel
set_option maxRecDepth 20000 in
theorem ggX10_addJoin_X8_segmentOf : GoodIn wsX10_addJoin wsX8_segmentOf := goodIn_r _ [9, 10, 11, 12, 13, 14, 97, 98, 99, 100, 101, 102, 103, 104, 105, 106, 107, 108] (by decide +kernel) (by decide +kernel)
set_option maxRecDepth 20000 in
theorem gX10_addJoin_X8_segmentOf : GoodIn wsX10_addJoin (wsV RX10 130 RX8 yX8_segmentOf wsX8_segmentOf) := goodIn_app (goodIn_of _ (by decide +kernel)) ggX10_addJoin_X8_segmentOf
set_option maxRecDepth 20000 in
theorem ggX10_addJoin_X9_cross : GoodIn wsX10_addJoin wsX9_cross := goodIn_r _ [19, 20, 21, 22, 12, 13, 14, 109, 110, 111, 112, 113, 114, 115, 116, 117, 118, 119] (by decide +kernel) (by decide +kernel)
set_option maxRecDepth 20000 in
theorem gX10_addJoin_X9_cross : GoodIn wsX10_addJoin (wsV RX10 155 RX9 yX9_cross wsX9_cross) := goodIn_app (goodIn_of _ (by decide +kernel)) ggX10_addJoin_X9_cross
set_option maxRecDepth 20000 in
theorem ggX10_addJoin_X9_dot : GoodIn wsX10_addJoin wsX9_dot := goodIn_r _ [26, 20, 21, 22, 12, 13, 14, 109, 110, 111, 112, 113, 114, 115, 116, 117, 118, 119] (by decide +kernel) (by decide +kernel)
set_option maxRecDepth 20000 in
theorem gX10_addJoin_X9_dot : GoodIn wsX10_addJoin (wsV RX10 159 RX9 yX9_dot wsX9_dot) := goodIn_app (goodIn_of _ (by decide +kernel)) ggX10_addJoin_X9_dot
set_option maxRecDepth 20000 in
theorem ggX10_addJoin_X8_toOf : GoodIn wsX10_addJoin wsX8_toOf := goodIn_r _ [30, 31, 11, 12, 13, 14, 97, 98, 99, 100, 101, 102, 103, 104, 105, 106, 107, 108] (by decide +kernel) (by decide +kernel)
set_option maxRecDepth 20000 in
theorem gX10_addJoin_X8_toOf : GoodIn wsX10_addJoin (wsV RX10 140 RX8 yX8_toOf wsX8_toOf) := goodIn_app (goodIn_of _ (by decide +kernel)) ggX10_addJoin_X8_toOf
set_option maxRecDepth 20000 in
theorem ggX10_addJoin_X9_xAt : GoodIn wsX10_addJoin wsX9_xAt := goodIn_r _ [35, 36, 20, 37, 38, 22, 12, 13, 14, 39, 40, 41, 42, 109, 110, 111, 112, 113, 114, 115, 116, 117, 118, 119] (by decide +kernel) (by decide +kernel)
set_option maxRecDepth 20000 in
theorem gX10_addJoin_X9_xAt : GoodIn wsX10_addJoin (wsV RX10 143 RX9 yX9_xAt wsX9_xAt) := goodIn_app (goodIn_of _ (by decide +kernel)) ggX10_addJoin_X9_xAt
set_option maxRecDepth 20000 in
theorem ggX10_addJoin_X9_yAt : GoodIn wsX10_addJoin wsX9_yAt := goodIn_r _ [46, 36, 21, 47, 38, 22, 12, 13, 14, 39, 40, 41, 42, 109, 110, 111, 112, 113, 114, 115, 116, 117, 118, 119] (by decide +kernel) (by decide +kernel)
set_option maxRecDepth 20000 in
theorem gX10_addJoin_X9_yAt : GoodIn wsX10_addJoin (wsV RX10 146 RX9 yX9_yAt wsX9_yAt) := goodIn_app (goodIn_of _ (by decide +kernel)) ggX10_addJoin_X9_yAt
set_option maxRecDepth 20000 in
theorem ggX10_addJoin_X10_addDisc : GoodIn wsX10_addJoin wsX10_addDisc := goodIn_r _ [52, 4, 53, 54, 55, 56, 57, 58, 59, 60, 61, 62, 63, 64, 65, 66, 89, 90, 91, 92, 93, 94, 95, 96, 120, 121, 122, 123, 124, 125] (by decide +kernel) (by decide +kernel)
set_option maxRecDepth 20000 in
theorem gX10_addJoin_X10_addDisc : GoodIn wsX10_addJoin (wsV RX10 105 RX10 yX10_addDisc wsX10_addDisc) := goodIn_app (goodIn_of _ (by decide +kernel)) ggX10_addJoin_X10_addDisc
set_option maxRecDepth 20000 in
theorem ggX10_addJoin_X9_normalX : GoodIn wsX10_addJoin wsX9_normalX := goodIn_r _ [70, 71, 22, 12, 13, 14, 109, 110, 111, 112, 113, 114, 115, 116, 117, 118, 119] (by decide +kernel) (by decide +kernel)
set_option maxRecDepth 20000 in
theorem gX10_addJoin_X9_normalX : GoodIn wsX10_addJoin (wsV RX10 149 RX9 yX9_normalX wsX9_normalX) := goodIn_app (goodIn_of _ (by decide +kernel)) ggX10_addJoin_X9_normalX
set_option maxRecDepth 20000 in
theorem ggX10_addJoin_X9_normalY : GoodIn wsX10_addJoin wsX9_normalY := goodIn_r _ [75, 76, 22, 12, 13, 14, 109, 110, 111, 112, 113, 114, 115, 116, 117, 118, 119] (by decide +kernel) (by decide +kernel)
set_option maxRecDepth 20000 in
theorem gX10_addJoin_X9_normalY : GoodIn wsX10_addJoin (wsV RX10 152 RX9 yX9_normalY wsX9_normalY) := goodIn_app (goodIn_of _ (by decide +kernel)) ggX10_addJoin_X9_normalY
set_option maxRecDepth 20000 in
theorem ggX10_addJoin_X10_isInLimit : GoodIn wsX10_addJoin wsX10_isInLimit := goodIn_r _ [80, 81, 82, 89, 90, 91, 92, 93, 94, 95, 96] (by decide +kernel) (by decide +kernel)
set_option maxRecDepth 20000 in
theorem gX10_addJoin_X10_isInLimit : GoodIn wsX10_addJoin (wsV RX10 162 RX10 yX10_isInLimit wsX10_isInLimit) := goodIn_app (goodIn_of _ (by decide +kernel)) ggX10_addJoin_X10_isInLimit
set_option maxRecDepth 20000 in
theorem ggX10_addJoin_X7_start : GoodIn wsX10_addJoin wsX7_start := goodIn_r _ [57, 58, 59, 60, 120, 121, 122, 123, 124, 125] (by decide +kernel) (by decide +kernel)
set_option maxRecDepth 20000 in
theorem gX10_addJoin_X7_start : GoodIn wsX10_addJoin (wsV RX10 108 RX7 yX7_start wsX7_start) := goodIn_app (goodIn_of _ (by decide +kernel)) ggX10_addJoin_X7_start
set_option maxRecDepth 20000 in
theorem ggX10_addJoin_X7_addCorner : GoodIn wsX10_addJoin wsX7_addCorner := goodIn_r _ [64, 58, 60, 65, 66, 120, 121, 122, 123, 124, 125] (by decide +kernel) (by decide +kernel)
set_option maxRecDepth 20000 in
theorem gX10_addJoin_X7_addCorner : GoodIn wsX10_addJoin (wsV RX10 111 RX7 yX7_addCorner wsX7_addCorner) := goodIn_app (goodIn_of _ (by decide +kernel)) ggX10_addJoin_X7_addCorner
set_option maxRecDepth 20000 in
theorem ggX10_addJoin_X10_addTip : GoodIn wsX10_addJoin wsX10_addTip := goodIn_r _ [86, 82, 87, 4, 88, 40, 13, 41, 42, 61, 62, 63, 56, 64, 58, 60, 65, 66, 89, 90, 91, 92, 93, 94, 95, 96, 120, 121, 122, 123, 124, 125] (by decide +kernel) (by decide +kernel)
set_option maxRecDepth 20000 in
theorem gX10_addJoin_X10_addTip : GoodIn wsX10_addJoin (wsV RX10 166 RX10 yX10_addTip wsX10_addTip) := goodIn_app (goodIn_of _ (by decide +kernel)) ggX10_addJoin_X10_addTip
theorem dX10_addJoin_0 : decode cX10_addJoin 0 = .ok (.aload_n 0, 1) := by decide +kernel
theorem dX10_addJoin_1 : decode cX10_addJoin 1 = .ok (.getfield 21, 3) := by decide +kernel
theorem dX10_addJoin_4 : decode cX10_addJoin 4 = .ok (.iload_n 1, 1) := by decide +kernel
theorem dX10_addJoin_5 : decode cX10_addJoin 5 = .ok (.invokevirtual 130, 3) := by decide +kernel
theorem dX10_addJoin_8 : decode cX10_addJoin 8 = .ok (.istore_n 3, 1) := by decide +kernel
theorem dX10_addJoin_9 : decode cX10_addJoin 9 = .ok (.aload_n 0, 1) := by decide +kernel
theorem dX10_addJoin_10 : decode cX10_addJoin 10 = .ok (.getfield 21, 3) := by decide +kernel
theorem dX10_addJoin_13 : decode cX10_addJoin 13 = .ok (.iload_n 2, 1) := by decide +kernel
theorem dX10_addJoin_14 : decode cX10_addJoin 14 = .ok (.invokevirtual 130, 3) := by decide +kernel
theorem dX10_addJoin_17 : decode cX10_addJoin 17 = .ok (.istore 4, 2) := by decide +kernel
theorem dX10_addJoin_19 : decode cX10_addJoin 19 = .ok (.aload_n 0, 1) := by decide +kernel
theorem dX10_addJoin_20 : decode cX10_addJoin 20 = .ok (.getfield 12, 3) := by decide +kernel
theorem dX10_addJoin_23 : decode cX10_addJoin 23 = .ok (.iload_n 3, 1) := by decide +kernel
theorem dX10_addJoin_24 : decode cX10_addJoin 24 = .ok (.iload 4, 2) := by decide +kernel
theorem dX10_addJoin_26 : decode cX10_addJoin 26 = .ok (.invokevirtual 155, 3) := by decide +kernel
theorem dX10_addJoin_29 : decode cX10_addJoin 29 = .ok (.lstore 5, 2) := by decide +kernel
theorem dX10_addJoin_31 : decode cX10_addJoin 31 = .ok (.aload_n 0, 1) := by decide +kernel
theorem dX10_addJoin_32 : decode cX10_addJoin 32 = .ok (.getfield 12, 3) := by decide +kernel
theorem dX10_addJoin_35 : decode cX10_addJoin 35 = .ok (.iload_n 3, 1) := by decide +kernel
theorem dX10_addJoin_36 : decode cX10_addJoin 36 = .ok (.iload 4, 2) := by decide +kernel
theorem dX10_addJoin_38 : decode cX10_addJoin 38 = .ok (.invokevirtual 159, 3) := by decide +kernel
theorem dX10_addJoin_41 : decode cX10_addJoin 41 = .ok (.lstore 7, 2) := by decide +kernel
theorem dX10_addJoin_43 : decode cX10_addJoin 43 = .ok (.iload_n 3, 1) := by decide +kernel
theorem dX10_addJoin_44 : decode cX10_addJoin 44 = .ok (.iload 4, 2) := by decide +kernel
theorem dX10_addJoin_46 : decode cX10_addJoin 46 = .ok (.if_icmp .eq 17, 3) := by decide +kernel
theorem dX10_addJoin_49 : decode cX10_addJoin 49 = .ok (.lload 5, 2) := by decide +kernel
theorem dX10_addJoin_51 : decode cX10_addJoin 51 = .ok (.lconst 0, 1) := by decide +kernel
theorem dX10_addJoin_52 : decode cX10_addJoin 52 = .ok (.lcmp, 1) := by decide +kernel
theorem dX10_addJoin_53 : decode cX10_addJoin 53 = .ok (.ifCond .ne 11, 3) := by decide +kernel
theorem dX10_addJoin_56 : decode cX10_addJoin 56 = .ok (.lload 7, 2) := by decide +kernel
theorem dX10_addJoin_58 : decode cX10_addJoin 58 = .ok (.lconst 0, 1) := by decide +kernel
theorem dX10_addJoin_59 : decode cX10_addJoin 59 = .ok (.lcmp, 1) := by decide +kernel
theorem dX10_addJoin_60 : decode cX10_addJoin 60 = .ok (.ifCond .le 4, 3) := by decide +kernel
theorem dX10_addJoin_63 : decode cX10_addJoin 63 = .ok (.return_, 1) := by decide +kernel
theorem dX10_addJoin_64 : decode cX10_addJoin 64 = .ok (.aload_n 0, 1) := by decide +kernel
theorem dX10_addJoin_65 : decode cX10_addJoin 65 = .ok (.getfield 12, 3) := by decide +kernel
theorem dX10_addJoin_68 : decode cX10_addJoin 68 = .ok (.iload_n 3, 1) := by decide +kernel
theorem dX10_addJoin_69 : decode cX10_addJoin 69 = .ok (.aload_n 0, 1) := by decide +kernel
theorem dX10_addJoin_70 : decode cX10_addJoin 70 = .ok (.getfield 21, 3) := by decide +kernel
theorem dX10_addJoin_73 : decode cX10_addJoin 73 = .ok (.iload_n 1, 1) := by decide +kernel
theorem dX10_addJoin_74 : decode cX10_addJoin 74 = .ok (.invokevirtual 140, 3) := by decide +kernel
theorem dX10_addJoin_77 : decode cX10_addJoin 77 = .ok (.invokevirtual 143, 3) := by decide +kernel
theorem dX10_addJoin_80 : decode cX10_addJoin 80 = .ok (.istore 9, 2) := by decide +kernel
theorem dX10_addJoin_82 : decode cX10_addJoin 82 = .ok (.aload_n 0, 1) := by decide +kernel
theorem dX10_addJoin_83 : decode cX10_addJoin 83 = .ok (.getfield 12, 3) := by decide +kernel
theorem dX10_addJoin_86 : decode cX10_addJoin 86 = .ok (.iload_n 3, 1) := by decide +kernel
theorem dX10_addJoin_87 : decode cX10_addJoin 87 = .ok (.aload_n 0, 1) := by decide +kernel
theorem dX10_addJoin_88 : decode cX10_addJoin 88 = .ok (.getfield 21, 3) := by decide +kernel
theorem dX10_addJoin_91 : decode cX10_addJoin 91 = .ok (.iload_n 1, 1) := by decide +kernel
theorem dX10_addJoin_92 : decode cX10_addJoin 92 = .ok (.invokevirtual 140, 3) := by decide +kernel
theorem dX10_addJoin_95 : decode cX10_addJoin 95 = .ok (.invokevirtual 146, 3) := by decide +kernel
theorem dX10_addJoin_98 : decode cX10_addJoin 98 = .ok (.istore 10, 2) := by decide +kernel
theorem dX10_addJoin_100 : decode cX10_addJoin 100 = .ok (.aload_n 0, 1) := by decide +kernel
theorem dX10_addJoin_101 : decode cX10_addJoin 101 = .ok (.getfield 68, 3) := by decide +kernel
theorem dX10_addJoin_104 : decode cX10_addJoin 104 = .ok (.iconst 1, 1) := by decide +kernel
theorem dX10_addJoin_105 : decode cX10_addJoin 105 = .ok (.if_icmp .ne 11, 3) := by decide +kernel
theorem dX10_addJoin_108 : decode cX10_addJoin 108 = .ok (.aload_n 0, 1) := by decide +kernel
theorem dX10_addJoin_109 : decode cX10_addJoin 109 = .ok (.iload 9, 2) := by decide +kernel
theorem dX10_addJoin_111 : decode cX10_addJoin 111 = .ok (.iload 10, 2) := by decide +kernel
theorem dX10_addJoin_113 : decode cX10_addJoin 113 = .ok (.invokevirtual 105, 3) := by decide +kernel
theorem dX10_addJoin_116 : decode cX10_addJoin 116 = .ok (.aload_n 0, 1) := by decide +kernel
theorem dX10_addJoin_117 : decode cX10_addJoin 117 = .ok (.getfield 68, 3) := by decide +kernel
theorem dX10_addJoin_120 : decode cX10_addJoin 120 = .ok (.iconst 1, 1) := by decide +kernel
theorem dX10_addJoin_121 : decode cX10_addJoin 121 = .ok (.if_icmp .eq 10, 3) := by decide +kernel
theorem dX10_addJoin_124 : decode cX10_addJoin 124 = .ok (.lload 5, 2) := by decide +kernel
theorem dX10_addJoin_126 : decode cX10_addJoin 126 = .ok (.lconst 0, 1) := by decide +kernel
theorem dX10_addJoin_127 : decode cX10_addJoin 127 = .ok (.lcmp, 1) := by decide +kernel
theorem dX10_addJoin_128 : decode cX10_addJoin 128 = .ok (.ifCond .ne 4, 3) := by decide +kernel
theorem dX10_addJoin_131 : decode cX10_addJoin 131 = .ok (.return_, 1) := by decide +kernel
theorem dX10_addJoin_132 : decode cX10_addJoin 132 = .ok (.lload 5, 2) := by decide +kernel
theorem dX10_addJoin_134 : decode cX10_addJoin 134 = .ok (.lconst 0, 1) := by decide +kernel
theorem dX10_addJoin_135 : decode cX10_addJoin 135 = .ok (.lcmp, 1) := by decide +kernel
theorem dX10_addJoin_136 : decode cX10_addJoin 136 = .ok (.ifCond .le 7, 3) := by decide +kernel
theorem dX10_addJoin_139 : decode cX10_addJoin 139 = .ok (.iconst (-1), 1) := by decide +kernel
theorem dX10_addJoin_140 : decode cX10_addJoin 140 = .ok (.goto 4, 3) := by decide +kernel
theorem dX10_addJoin_143 : decode cX10_addJoin 143 = .ok (.iconst 1, 1) := by decide +kernel
theorem dX10_addJoin_144 : decode cX10_addJoin 144 = .ok (.istore 11, 2) := by decide +kernel
theorem dX10_addJoin_146 : decode cX10_addJoin 146 = .ok (.aload_n 0, 1) := by decide +kernel
theorem dX10_addJoin_147 : decode cX10_addJoin 147 = .ok (.getfield 12, 3) := by decide +kernel
theorem dX10_addJoin_150 : decode cX10_addJoin 150 = .ok (.iload_n 3, 1) := by decide +kernel
theorem dX10_addJoin_151 : decode cX10_addJoin 151 = .ok (.invokevirtual 149, 3) := by decide +kernel
theorem dX10_addJoin_154 : decode cX10_addJoin 154 = .ok (.istore 12, 2) := by decide +kernel
theorem dX10_addJoin_156 : decode cX10_addJoin 156 = .ok (.aload_n 0, 1) := by decide +kernel
theorem dX10_addJoin_157 : decode cX10_addJoin 157 = .ok (.getfield 12, 3) := by decide +kernel
theorem dX10_addJoin_160 : decode cX10_addJoin 160 = .ok (.iload_n 3, 1) := by decide +kernel
theorem dX10_addJoin_161 : decode cX10_addJoin 161 = .ok (.invokevirtual 152, 3) := by decide +kernel
theorem dX10_addJoin_164 : decode cX10_addJoin 164 = .ok (.istore 13, 2) := by decide +kernel
theorem dX10_addJoin_166 : decode cX10_addJoin 166 = .ok (.aload_n 0, 1) := by decide +kernel
theorem dX10_addJoin_167 : decode cX10_addJoin 167 = .ok (.getfield 12, 3) := by decide +kernel
theorem dX10_addJoin_170 : decode cX10_addJoin 170 = .ok (.iload 4, 2) := by decide +kernel
theorem dX10_addJoin_172 : decode cX10_addJoin 172 = .ok (.invokevirtual 149, 3) := by decide +kernel
theorem dX10_addJoin_175 : decode cX10_addJoin 175 = .ok (.istore 14, 2) := by decide +kernel
theorem dX10_addJoin_177 : decode cX10_addJoin 177 = .ok (.aload_n 0, 1) := by decide +kernel
theorem dX10_addJoin_178 : decode cX10_addJoin 178 = .ok (.getfield 12, 3) := by decide +kernel
theorem dX10_addJoin_181 : decode cX10_addJoin 181 = .ok (.iload 4, 2) := by decide +kernel
theorem dX10_addJoin_183 : decode cX10_addJoin 183 = .ok (.invokevirtual 152, 3) := by decide +kernel
theorem dX10_addJoin_186 : decode cX10_addJoin 186 = .ok (.istore 15, 2) := by decide +kernel
theorem dX10_addJoin_188 : decode cX10_addJoin 188 = .ok (.aload_n 0, 1) := by decide +kernel
theorem dX10_addJoin_189 : decode cX10_addJoin 189 = .ok (.getfield 68, 3) := by decide +kernel
theorem dX10_addJoin_192 : decode cX10_addJoin 192 = .ok (.ifCond .ne 37, 3) := by decide +kernel
theorem dX10_addJoin_195 : decode cX10_addJoin 195 = .ok (.aload_n 0, 1) := by decide +kernel
theorem dX10_addJoin_196 : decode cX10_addJoin 196 = .ok (.lload 7, 2) := by decide +kernel
theorem dX10_addJoin_198 : decode cX10_addJoin 198 = .ok (.aload_n 0, 1) := by decide +kernel
theorem dX10_addJoin_199 : decode cX10_addJoin 199 = .ok (.getfield 12, 3) := by decide +kernel
theorem dX10_addJoin_202 : decode cX10_addJoin 202 = .ok (.iload_n 3, 1) := by decide +kernel
theorem dX10_addJoin_203 : decode cX10_addJoin 203 = .ok (.iload_n 3, 1) := by decide +kernel
theorem dX10_addJoin_204 : decode cX10_addJoin 204 = .ok (.invokevirtual 159, 3) := by decide +kernel
theorem dX10_addJoin_207 : decode cX10_addJoin 207 = .ok (.aload_n 0, 1) := by decide +kernel
theorem dX10_addJoin_208 : decode cX10_addJoin 208 = .ok (.getfield 12, 3) := by decide +kernel
theorem dX10_addJoin_211 : decode cX10_addJoin 211 = .ok (.iload 4, 2) := by decide +kernel
theorem dX10_addJoin_213 : decode cX10_addJoin 213 = .ok (.iload 4, 2) := by decide +kernel
theorem dX10_addJoin_215 : decode cX10_addJoin 215 = .ok (.invokevirtual 159, 3) := by decide +kernel
theorem dX10_addJoin_218 : decode cX10_addJoin 218 = .ok (.lmul, 1) := by decide +kernel
theorem dX10_addJoin_219 : decode cX10_addJoin 219 = .ok (.invokevirtual 162, 3) := by decide +kernel
theorem dX10_addJoin_222 : decode cX10_addJoin 222 = .ok (.ifCond .eq 7, 3) := by decide +kernel
theorem dX10_addJoin_225 : decode cX10_addJoin 225 = .ok (.iconst 1, 1) := by decide +kernel
theorem dX10_addJoin_226 : decode cX10_addJoin 226 = .ok (.goto 4, 3) := by decide +kernel
theorem dX10_addJoin_229 : decode cX10_addJoin 229 = .ok (.iconst 0, 1) := by decide +kernel
theorem dX10_addJoin_230 : decode cX10_addJoin 230 = .ok (.istore 16, 2) := by decide +kernel
theorem dX10_addJoin_232 : decode cX10_addJoin 232 = .ok (.aload_n 0, 1) := by decide +kernel
theorem dX10_addJoin_233 : decode cX10_addJoin 233 = .ok (.getfield 28, 3) := by decide +kernel
theorem dX10_addJoin_236 : decode cX10_addJoin 236 = .ok (.iload 16, 2) := by decide +kernel
theorem dX10_addJoin_238 : decode cX10_addJoin 238 = .ok (.ifCond .eq 7, 3) := by decide +kernel
theorem dX10_addJoin_241 : decode cX10_addJoin 241 = .ok (.iconst 1, 1) := by decide +kernel
theorem dX10_addJoin_242 : decode cX10_addJoin 242 = .ok (.goto 4, 3) := by decide +kernel
theorem dX10_addJoin_245 : decode cX10_addJoin 245 = .ok (.iconst 2, 1) := by decide +kernel
theorem dX10_addJoin_246 : decode cX10_addJoin 246 = .ok (.invokevirtual 108, 3) := by decide +kernel
theorem dX10_addJoin_249 : decode cX10_addJoin 249 = .ok (.aload_n 0, 1) := by decide +kernel
theorem dX10_addJoin_250 : decode cX10_addJoin 250 = .ok (.getfield 28, 3) := by decide +kernel
theorem dX10_addJoin_253 : decode cX10_addJoin 253 = .ok (.iload 9, 2) := by decide +kernel
theorem dX10_addJoin_255 : decode cX10_addJoin 255 = .ok (.iload 10, 2) := by decide +kernel
theorem dX10_addJoin_257 : decode cX10_addJoin 257 = .ok (.invokevirtual 111, 3) := by decide +kernel
theorem dX10_addJoin_260 : decode cX10_addJoin 260 = .ok (.aload_n 0, 1) := by decide +kernel
theorem dX10_addJoin_261 : decode cX10_addJoin 261 = .ok (.getfield 28, 3) := by decide +kernel
theorem dX10_addJoin_264 : decode cX10_addJoin 264 = .ok (.iload 9, 2) := by decide +kernel
theorem dX10_addJoin_266 : decode cX10_addJoin 266 = .ok (.iload 11, 2) := by decide +kernel
theorem dX10_addJoin_268 : decode cX10_addJoin 268 = .ok (.iload 12, 2) := by decide +kernel
theorem dX10_addJoin_270 : decode cX10_addJoin 270 = .ok (.imul, 1) := by decide +kernel
theorem dX10_addJoin_271 : decode cX10_addJoin 271 = .ok (.iadd, 1) := by decide +kernel
theorem dX10_addJoin_272 : decode cX10_addJoin 272 = .ok (.iload 10, 2) := by decide +kernel
theorem dX10_addJoin_274 : decode cX10_addJoin 274 = .ok (.iload 11, 2) := by decide +kernel
theorem dX10_addJoin_276 : decode cX10_addJoin 276 = .ok (.iload 13, 2) := by decide +kernel
theorem dX10_addJoin_278 : decode cX10_addJoin 278 = .ok (.imul, 1) := by decide +kernel
theorem dX10_addJoin_279 : decode cX10_addJoin 279 = .ok (.iadd, 1) := by decide +kernel
theorem dX10_addJoin_280 : decode cX10_addJoin 280 = .ok (.invokevirtual 111, 3) := by decide +kernel
theorem dX10_addJoin_283 : decode cX10_addJoin 283 = .ok (.iload 16, 2) := by decide +kernel
theorem dX10_addJoin_285 : decode cX10_addJoin 285 = .ok (.ifCond .eq 25, 3) := by decide +kernel
theorem dX10_addJoin_288 : decode cX10_addJoin 288 = .ok (.aload_n 0, 1) := by decide +kernel
theorem dX10_addJoin_289 : decode cX10_addJoin 289 = .ok (.iload 9, 2) := by decide +kernel
theorem dX10_addJoin_291 : decode cX10_addJoin 291 = .ok (.iload 10, 2) := by decide +kernel
theorem dX10_addJoin_293 : decode cX10_addJoin 293 = .ok (.iload 11, 2) := by decide +kernel
theorem dX10_addJoin_295 : decode cX10_addJoin 295 = .ok (.iload 12, 2) := by decide +kernel
theorem dX10_addJoin_297 : decode cX10_addJoin 297 = .ok (.iload 14, 2) := by decide +kernel
theorem dX10_addJoin_299 : decode cX10_addJoin 299 = .ok (.iadd, 1) := by decide +kernel
theorem dX10_addJoin_300 : decode cX10_addJoin 300 = .ok (.i2l, 1) := by decide +kernel
theorem dX10_addJoin_301 : decode cX10_addJoin 301 = .ok (.iload 13, 2) := by decide +kernel
theorem dX10_addJoin_303 : decode cX10_addJoin 303 = .ok (.iload 15, 2) := by decide +kernel
theorem dX10_addJoin_305 : decode cX10_addJoin 305 = .ok (.iadd, 1) := by decide +kernel
theorem dX10_addJoin_306 : decode cX10_addJoin 306 = .ok (.i2l, 1) := by decide +kernel
theorem dX10_addJoin_307 : decode cX10_addJoin 307 = .ok (.invokevirtual 166, 3) := by decide +kernel
theorem dX10_addJoin_310 : decode cX10_addJoin 310 = .ok (.aload_n 0, 1) := by decide +kernel
theorem dX10_addJoin_311 : decode cX10_addJoin 311 = .ok (.getfield 28, 3) := by decide +kernel
theorem dX10_addJoin_314 : decode cX10_addJoin 314 = .ok (.iload 9, 2) := by decide +kernel
theorem dX10_addJoin_316 : decode cX10_addJoin 316 = .ok (.iload 11, 2) := by decide +kernel
theorem dX10_addJoin_318 : decode cX10_addJoin 318 = .ok (.iload 14, 2) := by decide +kernel
theorem dX10_addJoin_320 : decode cX10_addJoin 320 = .ok (.imul, 1) := by decide +kernel
theorem dX10_addJoin_321 : decode cX10_addJoin 321 = .ok (.iadd, 1) := by decide +kernel
theorem dX10_addJoin_322 : decode cX10_addJoin 322 = .ok (.iload 10, 2) := by decide +kernel
theorem dX10_addJoin_324 : decode cX10_addJoin 324 = .ok (.iload 11, 2) := by decide +kernel
theorem dX10_addJoin_326 : decode cX10_addJoin 326 = .ok (.iload 15, 2) := by decide +kernel
theorem dX10_addJoin_328 : decode cX10_addJoin 328 = .ok (.imul, 1) := by decide +kernel
theorem dX10_addJoin_329 : decode cX10_addJoin 329 = .ok (.iadd, 1) := by decide +kernel
theorem dX10_addJoin_330 : decode cX10_addJoin 330 = .ok (.invokevirtual 111, 3) := by decide +kernel
theorem dX10_addJoin_333 : decode cX10_addJoin 333 = .ok (.return_, 1) := by decide +kernel
set_option maxRecDepth 20000 in
theorem ggX10_addTip_X4_round : GoodIn wsX10_addTip wsX4_round := goodIn_r _ [7, 8] (by decide +kernel) (by decide +kernel)
set_option maxRecDepth 20000 in
theorem gX10_addTip_X4_round : GoodIn wsX10_addTip (va_wsS RX10 172 yX4_round wsX4_round) := goodIn_app (goodIn_of _ (by decide +kernel)) ggX10_addTip_X4_round
set_option maxRecDepth 20000 in
theorem ggX10_addTip_X7_addCorner : GoodIn wsX10_addTip wsX7_addCorner := goodIn_r _ [13, 14, 15, 16, 17, 26, 27, 28, 29, 30, 31] (by decide +kernel) (by decide +kernel)
set_option maxRecDepth 20000 in
theorem gX10_addTip_X7_addCorner : GoodIn wsX10_addTip (wsV RX10 111 RX7 yX7_addCorner wsX7_addCorner) := goodIn_app (goodIn_of _ (by decide +kernel)) ggX10_addTip_X7_addCorner
theorem dX10_addTip_0 : decode cX10_addTip 0 = .ok (.lload 4, 2) := by decide +kernel
theorem dX10_addTip_2 : decode cX10_addTip 2 = .ok (.lload 4, 2) := by decide +kernel
theorem dX10_addTip_4 : decode cX10_addTip 4 = .ok (.lmul, 1) := by decide +kernel
theorem dX10_addTip_5 : decode cX10_addTip 5 = .ok (.lload 6, 2) := by decide +kernel
theorem dX10_addTip_7 : decode cX10_addTip 7 = .ok (.lload 6, 2) := by decide +kernel
theorem dX10_addTip_9 : decode cX10_addTip 9 = .ok (.lmul, 1) := by decide +kernel
theorem dX10_addTip_10 : decode cX10_addTip 10 = .ok (.ladd, 1) := by decide +kernel
theorem dX10_addTip_11 : decode cX10_addTip 11 = .ok (.lstore 8, 2) := by decide +kernel
theorem dX10_addTip_13 : decode cX10_addTip 13 = .ok (.ldc2_w 170, 3) := by decide +kernel
theorem dX10_addTip_16 : decode cX10_addTip 16 = .ok (.aload_n 0, 1) := by decide +kernel
theorem dX10_addTip_17 : decode cX10_addTip 17 = .ok (.getfield 61, 3) := by decide +kernel
theorem dX10_addTip_20 : decode cX10_addTip 20 = .ok (.i2l, 1) := by decide +kernel
theorem dX10_addTip_21 : decode cX10_addTip 21 = .ok (.lmul, 1) := by decide +kernel
theorem dX10_addTip_22 : decode cX10_addTip 22 = .ok (.aload_n 0, 1) := by decide +kernel
theorem dX10_addTip_23 : decode cX10_addTip 23 = .ok (.getfield 61, 3) := by decide +kernel
theorem dX10_addTip_26 : decode cX10_addTip 26 = .ok (.i2l, 1) := by decide +kernel
theorem dX10_addTip_27 : decode cX10_addTip 27 = .ok (.lmul, 1) := by decide +kernel
theorem dX10_addTip_28 : decode cX10_addTip 28 = .ok (.lstore 10, 2) := by decide +kernel
theorem dX10_addTip_30 : decode cX10_addTip 30 = .ok (.iload_n 3, 1) := by decide +kernel
theorem dX10_addTip_31 : decode cX10_addTip 31 = .ok (.lload 10, 2) := by decide +kernel
theorem dX10_addTip_33 : decode cX10_addTip 33 = .ok (.lload 4, 2) := by decide +kernel
theorem dX10_addTip_35 : decode cX10_addTip 35 = .ok (.lmul, 1) := by decide +kernel
theorem dX10_addTip_36 : decode cX10_addTip 36 = .ok (.lload 8, 2) := by decide +kernel
theorem dX10_addTip_38 : decode cX10_addTip 38 = .ok (.invokestatic 172, 3) := by decide +kernel
theorem dX10_addTip_41 : decode cX10_addTip 41 = .ok (.imul, 1) := by decide +kernel
theorem dX10_addTip_42 : decode cX10_addTip 42 = .ok (.istore 12, 2) := by decide +kernel
theorem dX10_addTip_44 : decode cX10_addTip 44 = .ok (.iload_n 3, 1) := by decide +kernel
theorem dX10_addTip_45 : decode cX10_addTip 45 = .ok (.lload 10, 2) := by decide +kernel
theorem dX10_addTip_47 : decode cX10_addTip 47 = .ok (.lload 6, 2) := by decide +kernel
theorem dX10_addTip_49 : decode cX10_addTip 49 = .ok (.lmul, 1) := by decide +kernel
theorem dX10_addTip_50 : decode cX10_addTip 50 = .ok (.lload 8, 2) := by decide +kernel
theorem dX10_addTip_52 : decode cX10_addTip 52 = .ok (.invokestatic 172, 3) := by decide +kernel
theorem dX10_addTip_55 : decode cX10_addTip 55 = .ok (.imul, 1) := by decide +kernel
theorem dX10_addTip_56 : decode cX10_addTip 56 = .ok (.istore 13, 2) := by decide +kernel
theorem dX10_addTip_58 : decode cX10_addTip 58 = .ok (.aload_n 0, 1) := by decide +kernel
theorem dX10_addTip_59 : decode cX10_addTip 59 = .ok (.getfield 28, 3) := by decide +kernel
theorem dX10_addTip_62 : decode cX10_addTip 62 = .ok (.iload_n 1, 1) := by decide +kernel
theorem dX10_addTip_63 : decode cX10_addTip 63 = .ok (.iload 12, 2) := by decide +kernel
theorem dX10_addTip_65 : decode cX10_addTip 65 = .ok (.iadd, 1) := by decide +kernel
theorem dX10_addTip_66 : decode cX10_addTip 66 = .ok (.iload_n 2, 1) := by decide +kernel
theorem dX10_addTip_67 : decode cX10_addTip 67 = .ok (.iload 13, 2) := by decide +kernel
theorem dX10_addTip_69 : decode cX10_addTip 69 = .ok (.iadd, 1) := by decide +kernel
theorem dX10_addTip_70 : decode cX10_addTip 70 = .ok (.invokevirtual 111, 3) := by decide +kernel
theorem dX10_addTip_73 : decode cX10_addTip 73 = .ok (.return_, 1) := by decide +kernel
theorem dX10_isInLimit_0 : decode cX10_isInLimit 0 = .ok (.aload_n 0, 1) := by decide +kernel
theorem dX10_isInLimit_1 : decode cX10_isInLimit 1 = .ok (.getfield 71, 3) := by decide +kernel
theorem dX10_isInLimit_4 : decode cX10_isInLimit 4 = .ok (.i2l, 1) := by decide +kernel
theorem dX10_isInLimit_5 : decode cX10_isInLimit 5 = .ok (.aload_n 0, 1) := by decide +kernel
theorem dX10_isInLimit_6 : decode cX10_isInLimit 6 = .ok (.getfield 71, 3) := by decide +kernel
theorem dX10_isInLimit_9 : decode cX10_isInLimit 9 = .ok (.i2l, 1) := by decide +kernel
theorem dX10_isInLimit_10 : decode cX10_isInLimit 10 = .ok (.lmul, 1) := by decide +kernel
theorem dX10_isInLimit_11 : decode cX10_isInLimit 11 = .ok (.lload_n 1, 1) := by decide +kernel
theorem dX10_isInLimit_12 : decode cX10_isInLimit 12 = .ok (.lmul, 1) := by decide +kernel
theorem dX10_isInLimit_13 : decode cX10_isInLimit 13 = .ok (.lstore 5, 2) := by decide +kernel
theorem dX10_isInLimit_15 : decode cX10_isInLimit 15 = .ok (.aload_n 0, 1) := by decide +kernel
theorem dX10_isInLimit_16 : decode cX10_isInLimit 16 = .ok (.getfield 71, 3) := by decide +kernel
theorem dX10_isInLimit_19 : decode cX10_isInLimit 19 = .ok (.i2l, 1) := by decide +kernel
theorem dX10_isInLimit_20 : decode cX10_isInLimit 20 = .ok (.aload_n 0, 1) := by decide +kernel
theorem dX10_isInLimit_21 : decode cX10_isInLimit 21 = .ok (.getfield 71, 3) := by decide +kernel
theorem dX10_isInLimit_24 : decode cX10_isInLimit 24 = .ok (.i2l, 1) := by decide +kernel
theorem dX10_isInLimit_25 : decode cX10_isInLimit 25 = .ok (.lmul, 1) := by decide +kernel
theorem dX10_isInLimit_26 : decode cX10_isInLimit 26 = .ok (.ldc2_w 170, 3) := by decide +kernel
theorem dX10_isInLimit_29 : decode cX10_isInLimit 29 = .ok (.lsub, 1) := by decide +kernel
theorem dX10_isInLimit_30 : decode cX10_isInLimit 30 = .ok (.lstore 7, 2) := by decide +kernel
theorem dX10_isInLimit_32 : decode cX10_isInLimit 32 = .ok (.lload 5, 2) := by decide +kernel
theorem dX10_isInLimit_34 : decode cX10_isInLimit 34 = .ok (.lconst 0, 1) := by decide +kernel
theorem dX10_isInLimit_35 : decode cX10_isInLimit 35 = .ok (.lcmp, 1) := by decide +kernel
theorem dX10_isInLimit_36 : decode cX10_isInLimit 36 = .ok (.ifCond .ge 7, 3) := by decide +kernel
theorem dX10_isInLimit_39 : decode cX10_isInLimit 39 = .ok (.iconst 1, 1) := by decide +kernel
theorem dX10_isInLimit_40 : decode cX10_isInLimit 40 = .ok (.goto 4, 3) := by decide +kernel
theorem dX10_isInLimit_43 : decode cX10_isInLimit 43 = .ok (.iconst 0, 1) := by decide +kernel
theorem dX10_isInLimit_44 : decode cX10_isInLimit 44 = .ok (.lload 7, 2) := by decide +kernel
theorem dX10_isInLimit_46 : decode cX10_isInLimit 46 = .ok (.lconst 0, 1) := by decide +kernel
theorem dX10_isInLimit_47 : decode cX10_isInLimit 47 = .ok (.lcmp, 1) := by decide +kernel
theorem dX10_isInLimit_48 : decode cX10_isInLimit 48 = .ok (.ifCond .ge 7, 3) := by decide +kernel
theorem dX10_isInLimit_51 : decode cX10_isInLimit 51 = .ok (.iconst 1, 1) := by decide +kernel
theorem dX10_isInLimit_52 : decode cX10_isInLimit 52 = .ok (.goto 4, 3) := by decide +kernel
theorem dX10_isInLimit_55 : decode cX10_isInLimit 55 = .ok (.iconst 0, 1) := by decide +kernel
theorem dX10_isInLimit_56 : decode cX10_isInLimit 56 = .ok (.if_icmp .ne 16, 3) := by decide +kernel
theorem dX10_isInLimit_59 : decode cX10_isInLimit 59 = .ok (.lload 5, 2) := by decide +kernel
theorem dX10_isInLimit_61 : decode cX10_isInLimit 61 = .ok (.lconst 0, 1) := by decide +kernel
theorem dX10_isInLimit_62 : decode cX10_isInLimit 62 = .ok (.lcmp, 1) := by decide +kernel
theorem dX10_isInLimit_63 : decode cX10_isInLimit 63 = .ok (.ifCond .lt 7, 3) := by decide +kernel
theorem dX10_isInLimit_66 : decode cX10_isInLimit 66 = .ok (.iconst 1, 1) := by decide +kernel
theorem dX10_isInLimit_67 : decode cX10_isInLimit 67 = .ok (.goto 4, 3) := by decide +kernel
theorem dX10_isInLimit_70 : decode cX10_isInLimit 70 = .ok (.iconst 0, 1) := by decide +kernel
theorem dX10_isInLimit_71 : decode cX10_isInLimit 71 = .ok (.ireturn, 1) := by decide +kernel
theorem dX10_isInLimit_72 : decode cX10_isInLimit 72 = .ok (.lload 5, 2) := by decide +kernel
theorem dX10_isInLimit_74 : decode cX10_isInLimit 74 = .ok (.lload 5, 2) := by decide +kernel
theorem dX10_isInLimit_76 : decode cX10_isInLimit 76 = .ok (.lmul, 1) := by decide +kernel
theorem dX10_isInLimit_77 : decode cX10_isInLimit 77 = .ok (.lstore 9, 2) := by decide +kernel
theorem dX10_isInLimit_79 : decode cX10_isInLimit 79 = .ok (.lload 7, 2) := by decide +kernel
theorem dX10_isInLimit_81 : decode cX10_isInLimit 81 = .ok (.lload 7, 2) := by decide +kernel
theorem dX10_isInLimit_83 : decode cX10_isInLimit 83 = .ok (.lmul, 1) := by decide +kernel
theorem dX10_isInLimit_84 : decode cX10_isInLimit 84 = .ok (.lload_n 3, 1) := by decide +kernel
theorem dX10_isInLimit_85 : decode cX10_isInLimit 85 = .ok (.lmul, 1) := by decide +kernel
theorem dX10_isInLimit_86 : decode cX10_isInLimit 86 = .ok (.lstore 11, 2) := by decide +kernel
theorem dX10_isInLimit_88 : decode cX10_isInLimit 88 = .ok (.lload 5, 2) := by decide +kernel
theorem dX10_isInLimit_90 : decode cX10_isInLimit 90 = .ok (.lconst 0, 1) := by decide +kernel
theorem dX10_isInLimit_91 : decode cX10_isInLimit 91 = .ok (.lcmp, 1) := by decide +kernel
theorem dX10_isInLimit_92 : decode cX10_isInLimit 92 = .ok (.ifCond .ge 19, 3) := by decide +kernel
theorem dX10_isInLimit_95 : decode cX10_isInLimit 95 = .ok (.lload 11, 2) := by decide +kernel
theorem dX10_isInLimit_97 : decode cX10_isInLimit 97 = .ok (.lload 9, 2) := by decide +kernel
theorem dX10_isInLimit_99 : decode cX10_isInLimit 99 = .ok (.lcmp, 1) := by decide +kernel
theorem dX10_isInLimit_100 : decode cX10_isInLimit 100 = .ok (.ifCond .lt 7, 3) := by decide +kernel
theorem dX10_isInLimit_103 : decode cX10_isInLimit 103 = .ok (.iconst 1, 1) := by decide +kernel
theorem dX10_isInLimit_104 : decode cX10_isInLimit 104 = .ok (.goto 20, 3) := by decide +kernel
theorem dX10_isInLimit_107 : decode cX10_isInLimit 107 = .ok (.iconst 0, 1) := by decide +kernel
theorem dX10_isInLimit_108 : decode cX10_isInLimit 108 = .ok (.goto 16, 3) := by decide +kernel
theorem dX10_isInLimit_111 : decode cX10_isInLimit 111 = .ok (.lload 9, 2) := by decide +kernel
theorem dX10_isInLimit_113 : decode cX10_isInLimit 113 = .ok (.lload 11, 2) := by decide +kernel
theorem dX10_isInLimit_115 : decode cX10_isInLimit 115 = .ok (.lcmp, 1) := by decide +kernel
theorem dX10_isInLimit_116 : decode cX10_isInLimit 116 = .ok (.ifCond .lt 7, 3) := by decide +kernel
theorem dX10_isInLimit_119 : decode cX10_isInLimit 119 = .ok (.iconst 1, 1) := by decide +kernel
theorem dX10_isInLimit_120 : decode cX10_isInLimit 120 = .ok (.goto 4, 3) := by decide +kernel
theorem dX10_isInLimit_123 : decode cX10_isInLimit 123 = .ok (.iconst 0, 1) := by decide +kernel
theorem dX10_isInLimit_124 : decode cX10_isInLimit 124 = .ok (.ireturn, 1) := by decide +kernel
set_option maxRecDepth 20000 in
theorem ggX10_addCap_X9_xAt : GoodIn wsX10_addCap wsX9_xAt := goodIn_r _ [8, 9, 10, 11, 12, 13, 14, 15, 16, 17, 18, 19, 20, 74, 75, 76, 77, 78, 79, 80, 81, 82, 83, 84] (by decide +kernel) (by decide +kernel)
set_option maxRecDepth 20000 in
theorem gX10_addCap_X9_xAt : GoodIn wsX10_addCap (wsV RX10 143 RX9 yX9_xAt wsX9_xAt) := goodIn_app (goodIn_of _ (by decide +kernel)) ggX10_addCap_X9_xAt
set_option maxRecDepth 20000 in
theorem ggX10_addCap_X9_yAt : GoodIn wsX10_addCap wsX9_yAt := goodIn_r _ [24, 9, 25, 26, 12, 13, 14, 15, 16, 17, 18, 19, 20, 74, 75, 76, 77, 78, 79, 80, 81, 82, 83, 84] (by decide +kernel) (by decide +kernel)
set_option maxRecDepth 20000 in
theorem gX10_addCap_X9_yAt : GoodIn wsX10_addCap (wsV RX10 146 RX9 yX9_yAt wsX9_yAt) := goodIn_app (goodIn_of _ (by decide +kernel)) ggX10_addCap_X9_yAt
set_option maxRecDepth 20000 in
theorem ggX10_addCap_X10_addDisc : GoodIn wsX10_addCap wsX10_addDisc := goodIn_r _ [31, 3, 32, 33, 34, 35, 36, 37, 38, 39, 40, 41, 42, 43, 44, 45, 66, 67, 68, 69, 70, 71, 72, 73, 85, 86, 87, 88, 89, 90] (by decide +kernel) (by decide +kernel)
set_option maxRecDepth 20000 in
theorem gX10_addCap_X10_addDisc : GoodIn wsX10_addCap (wsV RX10 105 RX10 yX10_addDisc wsX10_addDisc) := goodIn_app (goodIn_of _ (by decide +kernel)) ggX10_addCap_X10_addDisc
set_option maxRecDepth 20000 in
theorem ggX10_addCap_X9_normalX : GoodIn wsX10_addCap wsX9_normalX := goodIn_r _ [49, 50, 13, 14, 15, 16, 74, 75, 76, 77, 78, 79, 80, 81, 82, 83, 84] (by decide +kernel) (by decide +kernel)
set_option maxRecDepth 20000 in
theorem gX10_addCap_X9_normalX : GoodIn wsX10_addCap (wsV RX10 149 RX9 yX9_normalX wsX9_normalX) := goodIn_app (goodIn_of _ (by decide +kernel)) ggX10_addCap_X9_normalX
set_option maxRecDepth 20000 in
theorem ggX10_addCap_X9_normalY : GoodIn wsX10_addCap wsX9_normalY := goodIn_r _ [54, 55, 13, 14, 15, 16, 74, 75, 76, 77, 78, 79, 80, 81, 82, 83, 84] (by decide +kernel) (by decide +kernel)
set_option maxRecDepth 20000 in
theorem gX10_addCap_X9_normalY : GoodIn wsX10_addCap (wsV RX10 152 RX9 yX9_normalY wsX9_normalY) := goodIn_app (goodIn_of _ (by decide +kernel)) ggX10_addCap_X9_normalY
set_option maxRecDepth 20000 in
theorem ggX10_addCap_X9_alongX : GoodIn wsX10_addCap wsX9_alongX := goodIn_r _ [59, 60, 13, 14, 15, 16, 74, 75, 76, 77, 78, 79, 80, 81, 82, 83, 84] (by decide +kernel) (by decide +kernel)
set_option maxRecDepth 20000 in
theorem gX10_addCap_X9_alongX : GoodIn wsX10_addCap (wsV RX10 178 RX9 yX9_alongX wsX9_alongX) := goodIn_app (goodIn_of _ (by decide +kernel)) ggX10_addCap_X9_alongX
set_option maxRecDepth 20000 in
theorem ggX10_addCap_X9_alongY : GoodIn wsX10_addCap wsX9_alongY := goodIn_r _ [64, 65, 13, 14, 15, 16, 74, 75, 76, 77, 78, 79, 80, 81, 82, 83, 84] (by decide +kernel) (by decide +kernel)
set_option maxRecDepth 20000 in
theorem gX10_addCap_X9_alongY : GoodIn wsX10_addCap (wsV RX10 181 RX9 yX9_alongY wsX9_alongY) := goodIn_app (goodIn_of _ (by decide +kernel)) ggX10_addCap_X9_alongY
set_option maxRecDepth 20000 in
theorem ggX10_addCap_X7_start : GoodIn wsX10_addCap wsX7_start := goodIn_r _ [36, 37, 38, 39, 85, 86, 87, 88, 89, 90] (by decide +kernel) (by decide +kernel)
set_option maxRecDepth 20000 in
theorem gX10_addCap_X7_start : GoodIn wsX10_addCap (wsV RX10 108 RX7 yX7_start wsX7_start) := goodIn_app (goodIn_of _ (by decide +kernel)) ggX10_addCap_X7_start
set_option maxRecDepth 20000 in
theorem ggX10_addCap_X7_addCorner : GoodIn wsX10_addCap wsX7_addCorner := goodIn_r _ [43, 37, 39, 44, 45, 85, 86, 87, 88, 89, 90] (by decide +kernel) (by decide +kernel)
set_option maxRecDepth 20000 in
theorem gX10_addCap_X7_addCorner : GoodIn wsX10_addCap (wsV RX10 111 RX7 yX7_addCorner wsX7_addCorner) := goodIn_app (goodIn_of _ (by decide +kernel)) ggX10_addCap_X7_addCorner
theorem dX10_addCap_0 : decode cX10_addCap 0 = .ok (.aload_n 0, 1) := by decide +kernel
theorem dX10_addCap_1 : decode cX10_addCap 1 = .ok (.getfield 12, 3) := by decide +kernel
theorem dX10_addCap_4 : decode cX10_addCap 4 = .ok (.iload_n 1, 1) := by decide +kernel
theorem dX10_addCap_5 : decode cX10_addCap 5 = .ok (.iload_n 2, 1) := by decide +kernel
theorem dX10_addCap_6 : decode cX10_addCap 6 = .ok (.invokevirtual 143, 3) := by decide +kernel
theorem dX10_addCap_9 : decode cX10_addCap 9 = .ok (.istore 4, 2) := by decide +kernel
theorem dX10_addCap_11 : decode cX10_addCap 11 = .ok (.aload_n 0, 1) := by decide +kernel
theorem dX10_addCap_12 : decode cX10_addCap 12 = .ok (.getfield 12, 3) := by decide +kernel
theorem dX10_addCap_15 : decode cX10_addCap 15 = .ok (.iload_n 1, 1) := by decide +kernel
theorem dX10_addCap_16 : decode cX10_addCap 16 = .ok (.iload_n 2, 1) := by decide +kernel
theorem dX10_addCap_17 : decode cX10_addCap 17 = .ok (.invokevirtual 146, 3) := by decide +kernel
theorem dX10_addCap_20 : decode cX10_addCap 20 = .ok (.istore 5, 2) := by decide +kernel
theorem dX10_addCap_22 : decode cX10_addCap 22 = .ok (.aload_n 0, 1) := by decide +kernel
theorem dX10_addCap_23 : decode cX10_addCap 23 = .ok (.getfield 74, 3) := by decide +kernel
theorem dX10_addCap_26 : decode cX10_addCap 26 = .ok (.iconst 1, 1) := by decide +kernel
theorem dX10_addCap_27 : decode cX10_addCap 27 = .ok (.if_icmp .ne 14, 3) := by decide +kernel
theorem dX10_addCap_30 : decode cX10_addCap 30 = .ok (.aload_n 0, 1) := by decide +kernel
theorem dX10_addCap_31 : decode cX10_addCap 31 = .ok (.iload 4, 2) := by decide +kernel
theorem dX10_addCap_33 : decode cX10_addCap 33 = .ok (.iload 5, 2) := by decide +kernel
theorem dX10_addCap_35 : decode cX10_addCap 35 = .ok (.invokevirtual 105, 3) := by decide +kernel
theorem dX10_addCap_38 : decode cX10_addCap 38 = .ok (.goto 143, 3) := by decide +kernel
theorem dX10_addCap_41 : decode cX10_addCap 41 = .ok (.aload_n 0, 1) := by decide +kernel
theorem dX10_addCap_42 : decode cX10_addCap 42 = .ok (.getfield 74, 3) := by decide +kernel
theorem dX10_addCap_45 : decode cX10_addCap 45 = .ok (.iconst 2, 1) := by decide +kernel
theorem dX10_addCap_46 : decode cX10_addCap 46 = .ok (.if_icmp .ne 135, 3) := by decide +kernel
theorem dX10_addCap_49 : decode cX10_addCap 49 = .ok (.aload_n 0, 1) := by decide +kernel
theorem dX10_addCap_50 : decode cX10_addCap 50 = .ok (.getfield 12, 3) := by decide +kernel
theorem dX10_addCap_53 : decode cX10_addCap 53 = .ok (.iload_n 1, 1) := by decide +kernel
theorem dX10_addCap_54 : decode cX10_addCap 54 = .ok (.invokevirtual 149, 3) := by decide +kernel
theorem dX10_addCap_57 : decode cX10_addCap 57 = .ok (.istore 6, 2) := by decide +kernel
theorem dX10_addCap_59 : decode cX10_addCap 59 = .ok (.aload_n 0, 1) := by decide +kernel
theorem dX10_addCap_60 : decode cX10_addCap 60 = .ok (.getfield 12, 3) := by decide +kernel
theorem dX10_addCap_63 : decode cX10_addCap 63 = .ok (.iload_n 1, 1) := by decide +kernel
theorem dX10_addCap_64 : decode cX10_addCap 64 = .ok (.invokevirtual 152, 3) := by decide +kernel
theorem dX10_addCap_67 : decode cX10_addCap 67 = .ok (.istore 7, 2) := by decide +kernel
theorem dX10_addCap_69 : decode cX10_addCap 69 = .ok (.iload_n 3, 1) := by decide +kernel
theorem dX10_addCap_70 : decode cX10_addCap 70 = .ok (.aload_n 0, 1) := by decide +kernel
theorem dX10_addCap_71 : decode cX10_addCap 71 = .ok (.getfield 12, 3) := by decide +kernel
theorem dX10_addCap_74 : decode cX10_addCap 74 = .ok (.iload_n 1, 1) := by decide +kernel
theorem dX10_addCap_75 : decode cX10_addCap 75 = .ok (.invokevirtual 178, 3) := by decide +kernel
theorem dX10_addCap_78 : decode cX10_addCap 78 = .ok (.imul, 1) := by decide +kernel
theorem dX10_addCap_79 : decode cX10_addCap 79 = .ok (.istore 8, 2) := by decide +kernel
theorem dX10_addCap_81 : decode cX10_addCap 81 = .ok (.iload_n 3, 1) := by decide +kernel
theorem dX10_addCap_82 : decode cX10_addCap 82 = .ok (.aload_n 0, 1) := by decide +kernel
theorem dX10_addCap_83 : decode cX10_addCap 83 = .ok (.getfield 12, 3) := by decide +kernel
theorem dX10_addCap_86 : decode cX10_addCap 86 = .ok (.iload_n 1, 1) := by decide +kernel
theorem dX10_addCap_87 : decode cX10_addCap 87 = .ok (.invokevirtual 181, 3) := by decide +kernel
theorem dX10_addCap_90 : decode cX10_addCap 90 = .ok (.imul, 1) := by decide +kernel
theorem dX10_addCap_91 : decode cX10_addCap 91 = .ok (.istore 9, 2) := by decide +kernel
theorem dX10_addCap_93 : decode cX10_addCap 93 = .ok (.aload_n 0, 1) := by decide +kernel
theorem dX10_addCap_94 : decode cX10_addCap 94 = .ok (.getfield 28, 3) := by decide +kernel
theorem dX10_addCap_97 : decode cX10_addCap 97 = .ok (.iconst 4, 1) := by decide +kernel
theorem dX10_addCap_98 : decode cX10_addCap 98 = .ok (.invokevirtual 108, 3) := by decide +kernel
theorem dX10_addCap_101 : decode cX10_addCap 101 = .ok (.aload_n 0, 1) := by decide +kernel
theorem dX10_addCap_102 : decode cX10_addCap 102 = .ok (.getfield 28, 3) := by decide +kernel
theorem dX10_addCap_105 : decode cX10_addCap 105 = .ok (.iload 4, 2) := by decide +kernel
theorem dX10_addCap_107 : decode cX10_addCap 107 = .ok (.iload 6, 2) := by decide +kernel
theorem dX10_addCap_109 : decode cX10_addCap 109 = .ok (.iadd, 1) := by decide +kernel
theorem dX10_addCap_110 : decode cX10_addCap 110 = .ok (.iload 5, 2) := by decide +kernel
theorem dX10_addCap_112 : decode cX10_addCap 112 = .ok (.iload 7, 2) := by decide +kernel
theorem dX10_addCap_114 : decode cX10_addCap 114 = .ok (.iadd, 1) := by decide +kernel
theorem dX10_addCap_115 : decode cX10_addCap 115 = .ok (.invokevirtual 111, 3) := by decide +kernel
theorem dX10_addCap_118 : decode cX10_addCap 118 = .ok (.aload_n 0, 1) := by decide +kernel
theorem dX10_addCap_119 : decode cX10_addCap 119 = .ok (.getfield 28, 3) := by decide +kernel
theorem dX10_addCap_122 : decode cX10_addCap 122 = .ok (.iload 4, 2) := by decide +kernel
theorem dX10_addCap_124 : decode cX10_addCap 124 = .ok (.iload 6, 2) := by decide +kernel
theorem dX10_addCap_126 : decode cX10_addCap 126 = .ok (.iadd, 1) := by decide +kernel
theorem dX10_addCap_127 : decode cX10_addCap 127 = .ok (.iload 8, 2) := by decide +kernel
theorem dX10_addCap_129 : decode cX10_addCap 129 = .ok (.iadd, 1) := by decide +kernel
theorem dX10_addCap_130 : decode cX10_addCap 130 = .ok (.iload 5, 2) := by decide +kernel
theorem dX10_addCap_132 : decode cX10_addCap 132 = .ok (.iload 7, 2) := by decide +kernel
theorem dX10_addCap_134 : decode cX10_addCap 134 = .ok (.iadd, 1) := by decide +kernel
theorem dX10_addCap_135 : decode cX10_addCap 135 = .ok (.iload 9, 2) := by decide +kernel
theorem dX10_addCap_137 : decode cX10_addCap 137 = .ok (.iadd, 1) := by decide +kernel
theorem dX10_addCap_138 : decode cX10_addCap 138 = .ok (.invokevirtual 111, 3) := by decide +kernel
theorem dX10_addCap_141 : decode cX10_addCap 141 = .ok (.aload_n 0, 1) := by decide +kernel
theorem dX10_addCap_142 : decode cX10_addCap 142 = .ok (.getfield 28, 3) := by decide +kernel
theorem dX10_addCap_145 : decode cX10_addCap 145 = .ok (.iload 4, 2) := by decide +kernel
theorem dX10_addCap_147 : decode cX10_addCap 147 = .ok (.iload 6, 2) := by decide +kernel
theorem dX10_addCap_149 : decode cX10_addCap 149 = .ok (.isub, 1) := by decide +kernel
theorem dX10_addCap_150 : decode cX10_addCap 150 = .ok (.iload 8, 2) := by decide +kernel
theorem dX10_addCap_152 : decode cX10_addCap 152 = .ok (.iadd, 1) := by decide +kernel
theorem dX10_addCap_153 : decode cX10_addCap 153 = .ok (.iload 5, 2) := by decide +kernel
theorem dX10_addCap_155 : decode cX10_addCap 155 = .ok (.iload 7, 2) := by decide +kernel
theorem dX10_addCap_157 : decode cX10_addCap 157 = .ok (.isub, 1) := by decide +kernel
theorem dX10_addCap_158 : decode cX10_addCap 158 = .ok (.iload 9, 2) := by decide +kernel
theorem dX10_addCap_160 : decode cX10_addCap 160 = .ok (.iadd, 1) := by decide +kernel
theorem dX10_addCap_161 : decode cX10_addCap 161 = .ok (.invokevirtual 111, 3) := by decide +kernel
theorem dX10_addCap_164 : decode cX10_addCap 164 = .ok (.aload_n 0, 1) := by decide +kernel
theorem dX10_addCap_165 : decode cX10_addCap 165 = .ok (.getfield 28, 3) := by decide +kernel
theorem dX10_addCap_168 : decode cX10_addCap 168 = .ok (.iload 4, 2) := by decide +kernel
theorem dX10_addCap_170 : decode cX10_addCap 170 = .ok (.iload 6, 2) := by decide +kernel
theorem dX10_addCap_172 : decode cX10_addCap 172 = .ok (.isub, 1) := by decide +kernel
theorem dX10_addCap_173 : decode cX10_addCap 173 = .ok (.iload 5, 2) := by decide +kernel
theorem dX10_addCap_175 : decode cX10_addCap 175 = .ok (.iload 7, 2) := by decide +kernel
theorem dX10_addCap_177 : decode cX10_addCap 177 = .ok (.isub, 1) := by decide +kernel
theorem dX10_addCap_178 : decode cX10_addCap 178 = .ok (.invokevirtual 111, 3) := by decide +kernel
theorem dX10_addCap_181 : decode cX10_addCap 181 = .ok (.return_, 1) := by decide +kernel
set_option maxRecDepth 20000 in
theorem ggX10_addDisc_X7_start : GoodIn wsX10_addDisc wsX7_start := goodIn_r _ [6, 7, 8, 9, 24, 25, 26, 27, 28, 29] (by decide +kernel) (by decide +kernel)
set_option maxRecDepth 20000 in
theorem gX10_addDisc_X7_start : GoodIn wsX10_addDisc (wsV RX10 108 RX7 yX7_start wsX7_start) := goodIn_app (goodIn_of _ (by decide +kernel)) ggX10_addDisc_X7_start
set_option maxRecDepth 20000 in
theorem ggX10_addDisc_X7_addCorner : GoodIn wsX10_addDisc wsX7_addCorner := goodIn_r _ [13, 7, 9, 14, 15, 24, 25, 26, 27, 28, 29] (by decide +kernel) (by decide +kernel)
set_option maxRecDepth 20000 in
theorem gX10_addDisc_X7_addCorner : GoodIn wsX10_addDisc (wsV RX10 111 RX7 yX7_addCorner wsX7_addCorner) := goodIn_app (goodIn_of _ (by decide +kernel)) ggX10_addDisc_X7_addCorner
theorem dX10_addDisc_0 : decode cX10_addDisc 0 = .ok (.aload_n 0, 1) := by decide +kernel
theorem dX10_addDisc_1 : decode cX10_addDisc 1 = .ok (.getfield 28, 3) := by decide +kernel
theorem dX10_addDisc_4 : decode cX10_addDisc 4 = .ok (.iconst 3, 1) := by decide +kernel
theorem dX10_addDisc_5 : decode cX10_addDisc 5 = .ok (.invokevirtual 108, 3) := by decide +kernel
theorem dX10_addDisc_8 : decode cX10_addDisc 8 = .ok (.aload_n 0, 1) := by decide +kernel
theorem dX10_addDisc_9 : decode cX10_addDisc 9 = .ok (.getfield 28, 3) := by decide +kernel
theorem dX10_addDisc_12 : decode cX10_addDisc 12 = .ok (.iload_n 1, 1) := by decide +kernel
theorem dX10_addDisc_13 : decode cX10_addDisc 13 = .ok (.iload_n 2, 1) := by decide +kernel
theorem dX10_addDisc_14 : decode cX10_addDisc 14 = .ok (.invokevirtual 111, 3) := by decide +kernel
theorem dX10_addDisc_17 : decode cX10_addDisc 17 = .ok (.return_, 1) := by decide +kernel
set_option maxRecDepth 20000 in
theorem ggX11_init_X1_init : GoodIn wsX11_init wsX1_init := goodIn_r _ [31, 32, 2, 3, 33, 34, 105] (by decide +kernel) (by decide +kernel)
set_option maxRecDepth 20000 in
theorem gX11_init_X1_init : GoodIn wsX11_init (wsX1_init) := ggX11_init_X1_init
set_option maxRecDepth 20000 in
theorem ggX11_init_X3_init : GoodIn wsX11_init wsX3_init := goodIn_r _ [36, 37, 2, 3, 33, 38, 113, 114] (by decide +kernel) (by decide +kernel)
set_option maxRecDepth 20000 in
theorem gX11_init_X3_init_n21 : GoodIn wsX11_init (wsX3_init) := ggX11_init_X3_init
set_option maxRecDepth 20000 in
theorem ggX11_init_X5_init : GoodIn wsX11_init wsX5_init := goodIn_r _ [40, 41, 2, 3, 33, 42, 115, 116, 117, 118, 119, 120] (by decide +kernel) (by decide +kernel)
set_option maxRecDepth 20000 in
theorem gX11_init_X5_init_n28 : GoodIn wsX11_init (wsX5_init) := ggX11_init_X5_init
set_option maxRecDepth 20000 in
theorem ggX11_init_X6_init : GoodIn wsX11_init wsX6_init := goodIn_r _ [44, 45, 2, 3, 33, 46, 121, 122] (by decide +kernel) (by decide +kernel)
set_option maxRecDepth 20000 in
theorem gX11_init_X6_init_n35 : GoodIn wsX11_init (wsX6_init) := ggX11_init_X6_init
set_option maxRecDepth 20000 in
theorem ggX11_init_X10_init : GoodIn wsX11_init wsX10_init := goodIn_r _ [48, 49, 2, 3, 50, 51, 52, 53, 54, 55, 56, 57, 58, 59, 60, 61, 62, 63, 64, 33, 65, 66, 67, 68, 69, 70, 71, 72, 73, 74, 75, 76, 77, 78, 79, 80, 81, 82, 83, 84, 85, 86, 87, 88, 89, 90, 91, 92, 93, 94, 95, 96, 97, 98, 99, 100, 132, 133, 134, 135, 136, 137, 138, 139, 140, 141, 142, 123, 124, 125, 126, 127, 128, 129, 130, 143, 144, 145, 146, 147, 148, 149, 150, 151, 152, 153, 154, 155, 156, 157, 158, 159, 160, 161, 162, 163, 164, 165] (by decide +kernel) (by decide +kernel)
set_option maxRecDepth 20000 in
theorem gX11_init_X10_init_n42 : GoodIn wsX11_init (wsX10_init) := ggX11_init_X10_init
set_option maxRecDepth 20000 in
theorem ggX11_init_X2_init : GoodIn wsX11_init wsX2_init := goodIn_r _ [102, 103, 2, 3, 33, 104, 131] (by decide +kernel) (by decide +kernel)
set_option maxRecDepth 20000 in
theorem gX11_init_X2_init_n49 : GoodIn wsX11_init (wsX2_init) := ggX11_init_X2_init
theorem dX11_init_0 : decode cX11_init 0 = .ok (.aload_n 0, 1) := by decide +kernel
theorem dX11_init_1 : decode cX11_init 1 = .ok (.invokespecial 3, 3) := by decide +kernel
theorem dX11_init_4 : decode cX11_init 4 = .ok (.aload_n 0, 1) := by decide +kernel
theorem dX11_init_5 : decode cX11_init 5 = .ok (.new 9, 3) := by decide +kernel
theorem dX11_init_8 : decode cX11_init 8 = .ok (.dup, 1) := by decide +kernel
theorem dX11_init_9 : decode cX11_init 9 = .ok (.invokespecial 11, 3) := by decide +kernel
theorem dX11_init_12 : decode cX11_init 12 = .ok (.putfield 12, 3) := by decide +kernel
theorem dX11_init_15 : decode cX11_init 15 = .ok (.aload_n 0, 1) := by decide +kernel
theorem dX11_init_16 : decode cX11_init 16 = .ok (.new 9, 3) := by decide +kernel
theorem dX11_init_19 : decode cX11_init 19 = .ok (.dup, 1) := by decide +kernel
theorem dX11_init_20 : decode cX11_init 20 = .ok (.invokespecial 11, 3) := by decide +kernel
theorem dX11_init_23 : decode cX11_init 23 = .ok (.putfield 16, 3) := by decide +kernel
theorem dX11_init_26 : decode cX11_init 26 = .ok (.aload_n 0, 1) := by decide +kernel
theorem dX11_init_27 : decode cX11_init 27 = .ok (.new 19, 3) := by decide +kernel
theorem dX11_init_30 : decode cX11_init 30 = .ok (.dup, 1) := by decide +kernel
theorem dX11_init_31 : decode cX11_init 31 = .ok (.invokespecial 21, 3) := by decide +kernel
theorem dX11_init_34 : decode cX11_init 34 = .ok (.putfield 22, 3) := by decide +kernel
theorem dX11_init_37 : decode cX11_init 37 = .ok (.aload_n 0, 1) := by decide +kernel
theorem dX11_init_38 : decode cX11_init 38 = .ok (.new 26, 3) := by decide +kernel
theorem dX11_init_41 : decode cX11_init 41 = .ok (.dup, 1) := by decide +kernel
theorem dX11_init_42 : decode cX11_init 42 = .ok (.invokespecial 28, 3) := by decide +kernel
theorem dX11_init_45 : decode cX11_init 45 = .ok (.putfield 29, 3) := by decide +kernel
theorem dX11_init_48 : decode cX11_init 48 = .ok (.aload_n 0, 1) := by decide +kernel
theorem dX11_init_49 : decode cX11_init 49 = .ok (.new 33, 3) := by decide +kernel
theorem dX11_init_52 : decode cX11_init 52 = .ok (.dup, 1) := by decide +kernel
theorem dX11_init_53 : decode cX11_init 53 = .ok (.invokespecial 35, 3) := by decide +kernel
theorem dX11_init_56 : decode cX11_init 56 = .ok (.putfield 36, 3) := by decide +kernel
theorem dX11_init_59 : decode cX11_init 59 = .ok (.aload_n 0, 1) := by decide +kernel
theorem dX11_init_60 : decode cX11_init 60 = .ok (.new 40, 3) := by decide +kernel
theorem dX11_init_63 : decode cX11_init 63 = .ok (.dup, 1) := by decide +kernel
theorem dX11_init_64 : decode cX11_init 64 = .ok (.invokespecial 42, 3) := by decide +kernel
theorem dX11_init_67 : decode cX11_init 67 = .ok (.putfield 43, 3) := by decide +kernel
theorem dX11_init_70 : decode cX11_init 70 = .ok (.aload_n 0, 1) := by decide +kernel
theorem dX11_init_71 : decode cX11_init 71 = .ok (.new 47, 3) := by decide +kernel
theorem dX11_init_74 : decode cX11_init 74 = .ok (.dup, 1) := by decide +kernel
theorem dX11_init_75 : decode cX11_init 75 = .ok (.invokespecial 49, 3) := by decide +kernel
theorem dX11_init_78 : decode cX11_init 78 = .ok (.putfield 50, 3) := by decide +kernel
theorem dX11_init_81 : decode cX11_init 81 = .ok (.return_, 1) := by decide +kernel
set_option maxRecDepth 20000 in
theorem ggX11_moveTo_X11_checkRange : GoodIn wsX11_moveTo wsX11_checkRange := goodIn_ca (goodIn_r _ [5, 6, 7] (by decide +kernel) (by decide +kernel)) (goodIn_sub (fun _ h => List.mem_cons_of_mem _ (List.mem_append_left _ (List.mem_append_right _ h))) (by decide +kernel))
set_option maxRecDepth 20000 in
theorem gX11_moveTo_X11_checkRange : GoodIn wsX11_moveTo (va_wsS RX11 54 yX11_checkRange wsX11_checkRange) := goodIn_app (goodIn_of _ (by decide +kernel)) ggX11_moveTo_X11_checkRange
set_option maxRecDepth 20000 in
theorem ggX11_moveTo_X1_subpathCount : GoodIn wsX11_moveTo wsX1_subpathCount := goodIn_r _ [12, 13, 14, 15, 11, 16, 17, 90] (by decide +kernel) (by decide +kernel)
set_option maxRecDepth 20000 in
theorem gX11_moveTo_X1_subpathCount : GoodIn wsX11_moveTo (wsV RX11 58 RX1 yX1_subpathCount wsX1_subpathCount) := goodIn_app (goodIn_of _ (by decide +kernel)) ggX11_moveTo_X1_subpathCount
set_option maxRecDepth 20000 in
theorem ggX11_moveTo_X11_checkState : GoodIn wsX11_moveTo wsX11_checkState := goodIn_ca (goodIn_r _ [20, 21, 22] (by decide +kernel) (by decide +kernel)) (goodIn_sub (fun _ h => List.mem_cons_of_mem _ (List.mem_append_right _ h)) (by decide +kernel))
set_option maxRecDepth 20000 in
theorem gX11_moveTo_X11_checkState : GoodIn wsX11_moveTo (va_wsS RX11 62 yX11_checkState wsX11_checkState) := goodIn_app (goodIn_of _ (by decide +kernel)) ggX11_moveTo_X11_checkState
set_option maxRecDepth 20000 in
theorem ggX11_moveTo_X11_saveState : GoodIn wsX11_moveTo wsX11_saveState := goodIn_r _ [26, 27, 1, 28, 29, 30, 31, 32, 33, 34, 35, 36, 37, 38, 39, 40, 41, 42, 11, 43, 17, 44, 45, 46, 47, 48, 49, 50, 83, 84, 85, 86, 87, 88, 89, 91, 92, 90, 93, 94, 95, 96, 97, 98, 99, 100] (by decide +kernel) (by decide +kernel)
set_option maxRecDepth 20000 in
theorem gX11_moveTo_X11_saveState : GoodIn wsX11_moveTo (wsV RX11 66 RX11 yX11_saveState wsX11_saveState) := goodIn_app (goodIn_of _ (by decide +kernel)) ggX11_moveTo_X11_saveState
set_option maxRecDepth 20000 in
theorem ggX11_moveTo_X1_startSubpath : GoodIn wsX11_moveTo wsX1_startSubpath := goodIn_r _ [54, 55, 9, 10, 11, 12, 13, 14, 15, 16, 17, 56, 57, 58, 59, 60, 61, 62, 63, 64, 65, 66, 67, 68, 69, 70, 71, 72, 73, 74, 75, 76, 77, 78, 79, 80, 81, 90] (by decide +kernel) (by decide +kernel)
set_option maxRecDepth 20000 in
theorem gX11_moveTo_X1_startSubpath : GoodIn wsX11_moveTo (wsV RX11 69 RX1 yX1_startSubpath wsX1_startSubpath) := goodIn_app (goodIn_of _ (by decide +kernel)) ggX11_moveTo_X1_startSubpath
set_option maxRecDepth 20000 in
theorem ggX11_moveTo_X1_lastSubpath : GoodIn wsX11_moveTo wsX1_lastSubpath := goodIn_r _ [70, 13, 14, 15, 11, 16, 17, 90] (by decide +kernel) (by decide +kernel)
set_option maxRecDepth 20000 in
theorem gX11_moveTo_X1_lastSubpath : GoodIn wsX11_moveTo (wsV RX11 73 RX1 yX1_lastSubpath wsX1_lastSubpath) := goodIn_app (goodIn_of _ (by decide +kernel)) ggX11_moveTo_X1_lastSubpath
theorem dX11_moveTo_0 : decode cX11_moveTo 0 = .ok (.iload_n 1, 1) := by decide +kernel
theorem dX11_moveTo_1 : decode cX11_moveTo 1 = .ok (.bipush (-100), 2) := by decide +kernel
theorem dX11_moveTo_3 : decode cX11_moveTo 3 = .ok (.bipush 100, 2) := by decide +kernel
theorem dX11_moveTo_5 : decode cX11_moveTo 5 = .ok (.invokestatic 54, 3) := by decide +kernel
theorem dX11_moveTo_8 : decode cX11_moveTo 8 = .ok (.iload_n 2, 1) := by decide +kernel
theorem dX11_moveTo_9 : decode cX11_moveTo 9 = .ok (.bipush (-100), 2) := by decide +kernel
theorem dX11_moveTo_11 : decode cX11_moveTo 11 = .ok (.bipush 100, 2) := by decide +kernel
theorem dX11_moveTo_13 : decode cX11_moveTo 13 = .ok (.invokestatic 54, 3) := by decide +kernel
theorem dX11_moveTo_16 : decode cX11_moveTo 16 = .ok (.aload_n 0, 1) := by decide +kernel
theorem dX11_moveTo_17 : decode cX11_moveTo 17 = .ok (.getfield 12, 3) := by decide +kernel
theorem dX11_moveTo_20 : decode cX11_moveTo 20 = .ok (.invokevirtual 58, 3) := by decide +kernel
theorem dX11_moveTo_23 : decode cX11_moveTo 23 = .ok (.iconst 4, 1) := by decide +kernel
theorem dX11_moveTo_24 : decode cX11_moveTo 24 = .ok (.if_icmp .ge 7, 3) := by decide +kernel
theorem dX11_moveTo_27 : decode cX11_moveTo 27 = .ok (.iconst 1, 1) := by decide +kernel
theorem dX11_moveTo_28 : decode cX11_moveTo 28 = .ok (.goto 4, 3) := by decide +kernel
theorem dX11_moveTo_31 : decode cX11_moveTo 31 = .ok (.iconst 0, 1) := by decide +kernel
theorem dX11_moveTo_32 : decode cX11_moveTo 32 = .ok (.invokestatic 62, 3) := by decide +kernel
theorem dX11_moveTo_35 : decode cX11_moveTo 35 = .ok (.aload_n 0, 1) := by decide +kernel
theorem dX11_moveTo_36 : decode cX11_moveTo 36 = .ok (.invokevirtual 66, 3) := by decide +kernel
theorem dX11_moveTo_39 : decode cX11_moveTo 39 = .ok (.aload_n 0, 1) := by decide +kernel
theorem dX11_moveTo_40 : decode cX11_moveTo 40 = .ok (.getfield 12, 3) := by decide +kernel
theorem dX11_moveTo_43 : decode cX11_moveTo 43 = .ok (.iload_n 1, 1) := by decide +kernel
theorem dX11_moveTo_44 : decode cX11_moveTo 44 = .ok (.iload_n 2, 1) := by decide +kernel
theorem dX11_moveTo_45 : decode cX11_moveTo 45 = .ok (.invokevirtual 69, 3) := by decide +kernel
theorem dX11_moveTo_48 : decode cX11_moveTo 48 = .ok (.aload_n 0, 1) := by decide +kernel
theorem dX11_moveTo_49 : decode cX11_moveTo 49 = .ok (.getfield 12, 3) := by decide +kernel
theorem dX11_moveTo_52 : decode cX11_moveTo 52 = .ok (.invokevirtual 73, 3) := by decide +kernel
theorem dX11_moveTo_55 : decode cX11_moveTo 55 = .ok (.ireturn, 1) := by decide +kernel
set_option maxRecDepth 20000 in
theorem ggX11_lineTo_X11_checkRange : GoodIn wsX11_lineTo wsX11_checkRange := goodIn_ca (goodIn_r _ [5, 6, 7] (by decide +kernel) (by decide +kernel)) (goodIn_sub (fun _ h => List.mem_cons_of_mem _ (List.mem_append_left _ (List.mem_append_right _ h))) (by decide +kernel))
set_option maxRecDepth 20000 in
theorem gX11_lineTo_X11_checkRange : GoodIn wsX11_lineTo (va_wsS RX11 54 yX11_checkRange wsX11_checkRange) := goodIn_app (goodIn_of _ (by decide +kernel)) ggX11_lineTo_X11_checkRange
set_option maxRecDepth 20000 in
theorem ggX11_lineTo_X1_lastSubpath : GoodIn wsX11_lineTo wsX1_lastSubpath := goodIn_r _ [12, 13, 14, 15, 11, 16, 17, 86] (by decide +kernel) (by decide +kernel)
set_option maxRecDepth 20000 in
theorem gX11_lineTo_X1_lastSubpath : GoodIn wsX11_lineTo (wsV RX11 73 RX1 yX1_lastSubpath wsX1_lastSubpath) := goodIn_app (goodIn_of _ (by decide +kernel)) ggX11_lineTo_X1_lastSubpath
set_option maxRecDepth 20000 in
theorem ggX11_lineTo_X1_isClosed : GoodIn wsX11_lineTo wsX1_isClosed := goodIn_r _ [21, 13, 14, 15, 11, 16, 17, 22, 23, 24, 86] (by decide +kernel) (by decide +kernel)
set_option maxRecDepth 20000 in
theorem gX11_lineTo_X1_isClosed : GoodIn wsX11_lineTo (wsV RX11 76 RX1 yX1_isClosed wsX1_isClosed) := goodIn_app (goodIn_of _ (by decide +kernel)) ggX11_lineTo_X1_isClosed
set_option maxRecDepth 20000 in
theorem ggX11_lineTo_X1_pointCount : GoodIn wsX11_lineTo wsX1_pointCount := goodIn_r _ [28, 13, 14, 15, 11, 16, 17, 22, 23, 24, 86] (by decide +kernel) (by decide +kernel)
set_option maxRecDepth 20000 in
theorem gX11_lineTo_X1_pointCount : GoodIn wsX11_lineTo (wsV RX11 80 RX1 yX1_pointCount wsX1_pointCount) := goodIn_app (goodIn_of _ (by decide +kernel)) ggX11_lineTo_X1_pointCount
set_option maxRecDepth 20000 in
theorem ggX11_lineTo_X11_checkState : GoodIn wsX11_lineTo wsX11_checkState := goodIn_ca (goodIn_r _ [31, 32, 33] (by decide +kernel) (by decide +kernel)) (goodIn_sub (fun _ h => List.mem_cons_of_mem _ (List.mem_append_right _ h)) (by decide +kernel))
set_option maxRecDepth 20000 in
theorem gX11_lineTo_X11_checkState : GoodIn wsX11_lineTo (va_wsS RX11 62 yX11_checkState wsX11_checkState) := goodIn_app (goodIn_of _ (by decide +kernel)) ggX11_lineTo_X11_checkState
set_option maxRecDepth 20000 in
theorem ggX11_lineTo_X11_saveState : GoodIn wsX11_lineTo wsX11_saveState := goodIn_r _ [37, 38, 1, 39, 40, 41, 42, 43, 44, 45, 46, 47, 48, 49, 50, 51, 52, 53, 11, 54, 17, 55, 56, 57, 58, 59, 60, 61, 79, 80, 81, 82, 83, 84, 85, 87, 88, 86, 89, 90, 91, 92, 93, 94, 95, 96] (by decide +kernel) (by decide +kernel)
set_option maxRecDepth 20000 in
theorem gX11_lineTo_X11_saveState : GoodIn wsX11_lineTo (wsV RX11 66 RX11 yX11_saveState wsX11_saveState) := goodIn_app (goodIn_of _ (by decide +kernel)) ggX11_lineTo_X11_saveState
set_option maxRecDepth 20000 in
theorem ggX11_lineTo_X1_addPoint : GoodIn wsX11_lineTo wsX1_addPoint := goodIn_r _ [65, 66, 9, 10, 11, 12, 13, 14, 15, 16, 17, 67, 26, 27, 28, 22, 23, 24, 68, 69, 70, 71, 72, 73, 74, 75, 76, 77, 78, 86] (by decide +kernel) (by decide +kernel)
set_option maxRecDepth 20000 in
theorem gX11_lineTo_X1_addPoint : GoodIn wsX11_lineTo (wsV RX11 84 RX1 yX1_addPoint wsX1_addPoint) := goodIn_app (goodIn_of _ (by decide +kernel)) ggX11_lineTo_X1_addPoint
theorem dX11_lineTo_0 : decode cX11_lineTo 0 = .ok (.iload_n 1, 1) := by decide +kernel
theorem dX11_lineTo_1 : decode cX11_lineTo 1 = .ok (.bipush (-100), 2) := by decide +kernel
theorem dX11_lineTo_3 : decode cX11_lineTo 3 = .ok (.bipush 100, 2) := by decide +kernel
theorem dX11_lineTo_5 : decode cX11_lineTo 5 = .ok (.invokestatic 54, 3) := by decide +kernel
theorem dX11_lineTo_8 : decode cX11_lineTo 8 = .ok (.iload_n 2, 1) := by decide +kernel
theorem dX11_lineTo_9 : decode cX11_lineTo 9 = .ok (.bipush (-100), 2) := by decide +kernel
theorem dX11_lineTo_11 : decode cX11_lineTo 11 = .ok (.bipush 100, 2) := by decide +kernel
theorem dX11_lineTo_13 : decode cX11_lineTo 13 = .ok (.invokestatic 54, 3) := by decide +kernel
theorem dX11_lineTo_16 : decode cX11_lineTo 16 = .ok (.aload_n 0, 1) := by decide +kernel
theorem dX11_lineTo_17 : decode cX11_lineTo 17 = .ok (.getfield 12, 3) := by decide +kernel
theorem dX11_lineTo_20 : decode cX11_lineTo 20 = .ok (.invokevirtual 73, 3) := by decide +kernel
theorem dX11_lineTo_23 : decode cX11_lineTo 23 = .ok (.istore_n 3, 1) := by decide +kernel
theorem dX11_lineTo_24 : decode cX11_lineTo 24 = .ok (.iload_n 3, 1) := by decide +kernel
theorem dX11_lineTo_25 : decode cX11_lineTo 25 = .ok (.ifCond .lt 31, 3) := by decide +kernel
theorem dX11_lineTo_28 : decode cX11_lineTo 28 = .ok (.aload_n 0, 1) := by decide +kernel
theorem dX11_lineTo_29 : decode cX11_lineTo 29 = .ok (.getfield 12, 3) := by decide +kernel
theorem dX11_lineTo_32 : decode cX11_lineTo 32 = .ok (.iload_n 3, 1) := by decide +kernel
theorem dX11_lineTo_33 : decode cX11_lineTo 33 = .ok (.invokevirtual 76, 3) := by decide +kernel
theorem dX11_lineTo_36 : decode cX11_lineTo 36 = .ok (.ifCond .ne 20, 3) := by decide +kernel
theorem dX11_lineTo_39 : decode cX11_lineTo 39 = .ok (.aload_n 0, 1) := by decide +kernel
theorem dX11_lineTo_40 : decode cX11_lineTo 40 = .ok (.getfield 12, 3) := by decide +kernel
theorem dX11_lineTo_43 : decode cX11_lineTo 43 = .ok (.iload_n 3, 1) := by decide +kernel
theorem dX11_lineTo_44 : decode cX11_lineTo 44 = .ok (.invokevirtual 80, 3) := by decide +kernel
theorem dX11_lineTo_47 : decode cX11_lineTo 47 = .ok (.bipush 8, 2) := by decide +kernel
theorem dX11_lineTo_49 : decode cX11_lineTo 49 = .ok (.if_icmp .ge 7, 3) := by decide +kernel
theorem dX11_lineTo_52 : decode cX11_lineTo 52 = .ok (.iconst 1, 1) := by decide +kernel
theorem dX11_lineTo_53 : decode cX11_lineTo 53 = .ok (.goto 4, 3) := by decide +kernel
theorem dX11_lineTo_56 : decode cX11_lineTo 56 = .ok (.iconst 0, 1) := by decide +kernel
theorem dX11_lineTo_57 : decode cX11_lineTo 57 = .ok (.invokestatic 62, 3) := by decide +kernel
theorem dX11_lineTo_60 : decode cX11_lineTo 60 = .ok (.aload_n 0, 1) := by decide +kernel
theorem dX11_lineTo_61 : decode cX11_lineTo 61 = .ok (.invokevirtual 66, 3) := by decide +kernel
theorem dX11_lineTo_64 : decode cX11_lineTo 64 = .ok (.aload_n 0, 1) := by decide +kernel
theorem dX11_lineTo_65 : decode cX11_lineTo 65 = .ok (.getfield 12, 3) := by decide +kernel
theorem dX11_lineTo_68 : decode cX11_lineTo 68 = .ok (.iload_n 1, 1) := by decide +kernel
theorem dX11_lineTo_69 : decode cX11_lineTo 69 = .ok (.iload_n 2, 1) := by decide +kernel
theorem dX11_lineTo_70 : decode cX11_lineTo 70 = .ok (.invokevirtual 84, 3) := by decide +kernel
theorem dX11_lineTo_73 : decode cX11_lineTo 73 = .ok (.aload_n 0, 1) := by decide +kernel
theorem dX11_lineTo_74 : decode cX11_lineTo 74 = .ok (.getfield 12, 3) := by decide +kernel
theorem dX11_lineTo_77 : decode cX11_lineTo 77 = .ok (.iload_n 3, 1) := by decide +kernel
theorem dX11_lineTo_78 : decode cX11_lineTo 78 = .ok (.invokevirtual 80, 3) := by decide +kernel
theorem dX11_lineTo_81 : decode cX11_lineTo 81 = .ok (.ireturn, 1) := by decide +kernel
set_option maxRecDepth 20000 in
theorem ggX11_close_X1_lastSubpath : GoodIn wsX11_close wsX1_lastSubpath := goodIn_r _ [7, 8, 9, 10, 6, 11, 12, 138] (by decide +kernel) (by decide +kernel)
set_option maxRecDepth 20000 in
theorem gX11_close_X1_lastSubpath : GoodIn wsX11_close (wsV RX11 73 RX1 yX1_lastSubpath wsX1_lastSubpath) := goodIn_app (goodIn_of _ (by decide +kernel)) ggX11_close_X1_lastSubpath
set_option maxRecDepth 20000 in
theorem ggX11_close_X1_isClosed : GoodIn wsX11_close wsX1_isClosed := goodIn_r _ [16, 8, 9, 10, 6, 11, 12, 17, 18, 19, 138] (by decide +kernel) (by decide +kernel)
set_option maxRecDepth 20000 in
theorem gX11_close_X1_isClosed : GoodIn wsX11_close (wsV RX11 76 RX1 yX1_isClosed wsX1_isClosed) := goodIn_app (goodIn_of _ (by decide +kernel)) ggX11_close_X1_isClosed
set_option maxRecDepth 20000 in
theorem ggX11_close_X11_checkState : GoodIn wsX11_close wsX11_checkState := goodIn_ca (goodIn_r _ [23, 24, 25] (by decide +kernel) (by decide +kernel)) (goodIn_sub (fun _ h => List.mem_cons_of_mem _ (List.mem_append_right _ h)) (by decide +kernel))
set_option maxRecDepth 20000 in
theorem gX11_close_X11_checkState : GoodIn wsX11_close (va_wsS RX11 62 yX11_checkState wsX11_checkState) := goodIn_app (goodIn_of _ (by decide +kernel)) ggX11_close_X11_checkState
set_option maxRecDepth 20000 in
theorem ggX11_close_X11_saveState : GoodIn wsX11_close wsX11_saveState := goodIn_r _ [29, 30, 1, 2, 31, 32, 33, 34, 35, 36, 37, 38, 39, 40, 41, 42, 43, 44, 6, 45, 12, 46, 47, 48, 49, 50, 51, 52, 131, 132, 133, 134, 135, 136, 137, 139, 140, 138, 141, 142, 143, 144, 145, 146, 147, 148] (by decide +kernel) (by decide +kernel)
set_option maxRecDepth 20000 in
theorem gX11_close_X11_saveState : GoodIn wsX11_close (wsV RX11 66 RX11 yX11_saveState wsX11_saveState) := goodIn_app (goodIn_of _ (by decide +kernel)) ggX11_close_X11_saveState
set_option maxRecDepth 20000 in
theorem ggX11_close_X1_closeLast : GoodIn wsX11_close wsX1_closeLast := goodIn_r _ [56, 57, 4, 5, 6, 7, 8, 9, 10, 11, 12, 17, 18, 19, 58, 59, 60, 61, 138] (by decide +kernel) (by decide +kernel)
set_option maxRecDepth 20000 in
theorem gX11_close_X1_closeLast : GoodIn wsX11_close (wsV RX11 87 RX1 yX1_closeLast wsX1_closeLast) := goodIn_app (goodIn_of _ (by decide +kernel)) ggX11_close_X1_closeLast
set_option maxRecDepth 20000 in
theorem ggX11_close_X10_measured : GoodIn wsX11_close wsX10_measured := goodIn_r _ [65, 52, 66, 67, 68, 69, 70, 71, 72, 73, 74, 75, 76, 6, 77, 8, 9, 10, 11, 12, 78, 79, 80, 81, 17, 18, 19, 82, 14, 15, 16, 83, 84, 85, 86, 87, 88, 89, 90, 91, 92, 93, 94, 95, 96, 97, 98, 99, 100, 101, 102, 103, 104, 105, 106, 107, 108, 109, 110, 111, 112, 113, 114, 115, 141, 142, 143, 144, 145, 146, 147, 148, 149, 150, 151, 152, 153, 154, 155, 156, 157, 158, 159, 138] (by decide +kernel) (by decide +kernel)
set_option maxRecDepth 20000 in
theorem gX11_close_X10_measured : GoodIn wsX11_close (wsV RX11 90 RX10 yX10_measured wsX10_measured) := goodIn_app (goodIn_of _ (by decide +kernel)) ggX11_close_X10_measured
set_option maxRecDepth 20000 in
theorem ggX11_close_X9_countOf : GoodIn wsX11_close wsX9_countOf := goodIn_r _ [119, 120, 121, 122, 70, 123, 73, 124, 125, 109, 126, 127, 128, 129, 130, 149, 150, 151, 152, 153, 154, 155, 156, 157, 158, 159] (by decide +kernel) (by decide +kernel)
set_option maxRecDepth 20000 in
theorem gX11_close_X9_countOf : GoodIn wsX11_close (wsV RX11 94 RX9 yX9_countOf wsX9_countOf) := goodIn_app (goodIn_of _ (by decide +kernel)) ggX11_close_X9_countOf
theorem dX11_close_0 : decode cX11_close 0 = .ok (.aload_n 0, 1) := by decide +kernel
theorem dX11_close_1 : decode cX11_close 1 = .ok (.getfield 12, 3) := by decide +kernel
theorem dX11_close_4 : decode cX11_close 4 = .ok (.invokevirtual 73, 3) := by decide +kernel
theorem dX11_close_7 : decode cX11_close 7 = .ok (.istore_n 1, 1) := by decide +kernel
theorem dX11_close_8 : decode cX11_close 8 = .ok (.iload_n 1, 1) := by decide +kernel
theorem dX11_close_9 : decode cX11_close 9 = .ok (.ifCond .lt 18, 3) := by decide +kernel
theorem dX11_close_12 : decode cX11_close 12 = .ok (.aload_n 0, 1) := by decide +kernel
theorem dX11_close_13 : decode cX11_close 13 = .ok (.getfield 12, 3) := by decide +kernel
theorem dX11_close_16 : decode cX11_close 16 = .ok (.iload_n 1, 1) := by decide +kernel
theorem dX11_close_17 : decode cX11_close 17 = .ok (.invokevirtual 76, 3) := by decide +kernel
theorem dX11_close_20 : decode cX11_close 20 = .ok (.ifCond .ne 7, 3) := by decide +kernel
theorem dX11_close_23 : decode cX11_close 23 = .ok (.iconst 1, 1) := by decide +kernel
theorem dX11_close_24 : decode cX11_close 24 = .ok (.goto 4, 3) := by decide +kernel
theorem dX11_close_27 : decode cX11_close 27 = .ok (.iconst 0, 1) := by decide +kernel
theorem dX11_close_28 : decode cX11_close 28 = .ok (.invokestatic 62, 3) := by decide +kernel
theorem dX11_close_31 : decode cX11_close 31 = .ok (.aload_n 0, 1) := by decide +kernel
theorem dX11_close_32 : decode cX11_close 32 = .ok (.invokevirtual 66, 3) := by decide +kernel
theorem dX11_close_35 : decode cX11_close 35 = .ok (.aload_n 0, 1) := by decide +kernel
theorem dX11_close_36 : decode cX11_close 36 = .ok (.getfield 12, 3) := by decide +kernel
theorem dX11_close_39 : decode cX11_close 39 = .ok (.invokevirtual 87, 3) := by decide +kernel
theorem dX11_close_42 : decode cX11_close 42 = .ok (.aload_n 0, 1) := by decide +kernel
theorem dX11_close_43 : decode cX11_close 43 = .ok (.getfield 43, 3) := by decide +kernel
theorem dX11_close_46 : decode cX11_close 46 = .ok (.aload_n 0, 1) := by decide +kernel
theorem dX11_close_47 : decode cX11_close 47 = .ok (.getfield 12, 3) := by decide +kernel
theorem dX11_close_50 : decode cX11_close 50 = .ok (.invokevirtual 90, 3) := by decide +kernel
theorem dX11_close_53 : decode cX11_close 53 = .ok (.iload_n 1, 1) := by decide +kernel
theorem dX11_close_54 : decode cX11_close 54 = .ok (.invokevirtual 94, 3) := by decide +kernel
theorem dX11_close_57 : decode cX11_close 57 = .ok (.ireturn, 1) := by decide +kernel
set_option maxRecDepth 20000 in
theorem ggX11_remove_X1_subpathCount : GoodIn wsX11_remove wsX1_subpathCount := goodIn_r _ [6, 7, 8, 9, 5, 10, 11, 68] (by decide +kernel) (by decide +kernel)
set_option maxRecDepth 20000 in
theorem gX11_remove_X1_subpathCount : GoodIn wsX11_remove (wsV RX11 58 RX1 yX1_subpathCount wsX1_subpathCount) := goodIn_app (goodIn_of _ (by decide +kernel)) ggX11_remove_X1_subpathCount
set_option maxRecDepth 20000 in
theorem ggX11_remove_X11_checkIndex : GoodIn wsX11_remove wsX11_checkIndex := goodIn_ca (goodIn_r _ [15, 16, 17] (by decide +kernel) (by decide +kernel)) (goodIn_sub (fun _ h => List.mem_cons_of_mem _ (List.mem_append_right _ h)) (by decide +kernel))
set_option maxRecDepth 20000 in
theorem gX11_remove_X11_checkIndex : GoodIn wsX11_remove (va_wsS RX11 99 yX11_checkIndex wsX11_checkIndex) := goodIn_app (goodIn_of _ (by decide +kernel)) ggX11_remove_X11_checkIndex
set_option maxRecDepth 20000 in
theorem ggX11_remove_X11_saveState : GoodIn wsX11_remove wsX11_saveState := goodIn_r _ [21, 22, 1, 23, 24, 25, 26, 27, 28, 29, 30, 31, 32, 33, 34, 35, 36, 37, 5, 38, 11, 39, 40, 41, 42, 43, 44, 45, 61, 62, 63, 64, 65, 66, 67, 69, 70, 68, 71, 72, 73, 74, 75, 76, 77, 78] (by decide +kernel) (by decide +kernel)
set_option maxRecDepth 20000 in
theorem gX11_remove_X11_saveState : GoodIn wsX11_remove (wsV RX11 66 RX11 yX11_saveState wsX11_saveState) := goodIn_app (goodIn_of _ (by decide +kernel)) ggX11_remove_X11_saveState
set_option maxRecDepth 20000 in
theorem ggX11_remove_X1_dropSubpath : GoodIn wsX11_remove wsX1_dropSubpath := goodIn_r _ [49, 50, 51, 52, 5, 53, 7, 8, 9, 10, 11, 54, 55, 56, 57, 58, 59, 60, 68] (by decide +kernel) (by decide +kernel)
set_option maxRecDepth 20000 in
theorem gX11_remove_X1_dropSubpath : GoodIn wsX11_remove (wsV RX11 102 RX1 yX1_dropSubpath wsX1_dropSubpath) := goodIn_app (goodIn_of _ (by decide +kernel)) ggX11_remove_X1_dropSubpath
theorem dX11_remove_0 : decode cX11_remove 0 = .ok (.iload_n 1, 1) := by decide +kernel
theorem dX11_remove_1 : decode cX11_remove 1 = .ok (.aload_n 0, 1) := by decide +kernel
theorem dX11_remove_2 : decode cX11_remove 2 = .ok (.getfield 12, 3) := by decide +kernel
theorem dX11_remove_5 : decode cX11_remove 5 = .ok (.invokevirtual 58, 3) := by decide +kernel
theorem dX11_remove_8 : decode cX11_remove 8 = .ok (.invokestatic 99, 3) := by decide +kernel
theorem dX11_remove_11 : decode cX11_remove 11 = .ok (.aload_n 0, 1) := by decide +kernel
theorem dX11_remove_12 : decode cX11_remove 12 = .ok (.invokevirtual 66, 3) := by decide +kernel
theorem dX11_remove_15 : decode cX11_remove 15 = .ok (.aload_n 0, 1) := by decide +kernel
theorem dX11_remove_16 : decode cX11_remove 16 = .ok (.getfield 12, 3) := by decide +kernel
theorem dX11_remove_19 : decode cX11_remove 19 = .ok (.iload_n 1, 1) := by decide +kernel
theorem dX11_remove_20 : decode cX11_remove 20 = .ok (.invokevirtual 102, 3) := by decide +kernel
theorem dX11_remove_23 : decode cX11_remove 23 = .ok (.aload_n 0, 1) := by decide +kernel
theorem dX11_remove_24 : decode cX11_remove 24 = .ok (.getfield 12, 3) := by decide +kernel
theorem dX11_remove_27 : decode cX11_remove 27 = .ok (.invokevirtual 58, 3) := by decide +kernel
theorem dX11_remove_30 : decode cX11_remove 30 = .ok (.ireturn, 1) := by decide +kernel
set_option maxRecDepth 20000 in
theorem ggX11_reverse_X1_subpathCount : GoodIn wsX11_reverse wsX1_subpathCount := goodIn_r _ [6, 7, 8, 9, 5, 10, 11, 84] (by decide +kernel) (by decide +kernel)
set_option maxRecDepth 20000 in
theorem gX11_reverse_X1_subpathCount : GoodIn wsX11_reverse (wsV RX11 58 RX1 yX1_subpathCount wsX1_subpathCount) := goodIn_app (goodIn_of _ (by decide +kernel)) ggX11_reverse_X1_subpathCount
set_option maxRecDepth 20000 in
theorem ggX11_reverse_X11_checkIndex : GoodIn wsX11_reverse wsX11_checkIndex := goodIn_ca (goodIn_r _ [15, 16, 17] (by decide +kernel) (by decide +kernel)) (goodIn_sub (fun _ h => List.mem_cons_of_mem _ (List.mem_append_right _ h)) (by decide +kernel))
set_option maxRecDepth 20000 in
theorem gX11_reverse_X11_checkIndex : GoodIn wsX11_reverse (va_wsS RX11 99 yX11_checkIndex wsX11_checkIndex) := goodIn_app (goodIn_of _ (by decide +kernel)) ggX11_reverse_X11_checkIndex
set_option maxRecDepth 20000 in
theorem ggX11_reverse_X11_saveState : GoodIn wsX11_reverse wsX11_saveState := goodIn_r _ [21, 22, 1, 23, 24, 25, 26, 27, 28, 29, 30, 31, 32, 33, 34, 35, 36, 37, 5, 38, 11, 39, 40, 41, 42, 43, 44, 45, 77, 78, 79, 80, 81, 82, 83, 85, 86, 84, 87, 88, 89, 90, 91, 92, 93, 94] (by decide +kernel) (by decide +kernel)
set_option maxRecDepth 20000 in
theorem gX11_reverse_X11_saveState : GoodIn wsX11_reverse (wsV RX11 66 RX11 yX11_saveState wsX11_saveState) := goodIn_app (goodIn_of _ (by decide +kernel)) ggX11_reverse_X11_saveState
set_option maxRecDepth 20000 in
theorem ggX11_reverse_X1_turnAround : GoodIn wsX11_reverse wsX1_turnAround := goodIn_r _ [49, 50, 51, 52, 5, 53, 7, 8, 9, 10, 11, 54, 55, 56, 57, 58, 59, 60, 61, 62, 63, 64, 65, 66, 67, 68, 69, 70, 71, 72, 73, 74, 75, 84] (by decide +kernel) (by decide +kernel)
set_option maxRecDepth 20000 in
theorem gX11_reverse_X1_turnAround : GoodIn wsX11_reverse (wsV RX11 106 RX1 yX1_turnAround wsX1_turnAround) := goodIn_app (goodIn_of _ (by decide +kernel)) ggX11_reverse_X1_turnAround
set_option maxRecDepth 20000 in
theorem ggX11_reverse_X1_pointCount : GoodIn wsX11_reverse wsX1_pointCount := goodIn_r _ [53, 7, 8, 9, 5, 10, 11, 54, 55, 56, 84] (by decide +kernel) (by decide +kernel)
set_option maxRecDepth 20000 in
theorem gX11_reverse_X1_pointCount : GoodIn wsX11_reverse (wsV RX11 80 RX1 yX1_pointCount wsX1_pointCount) := goodIn_app (goodIn_of _ (by decide +kernel)) ggX11_reverse_X1_pointCount
theorem dX11_reverse_0 : decode cX11_reverse 0 = .ok (.iload_n 1, 1) := by decide +kernel
theorem dX11_reverse_1 : decode cX11_reverse 1 = .ok (.aload_n 0, 1) := by decide +kernel
theorem dX11_reverse_2 : decode cX11_reverse 2 = .ok (.getfield 12, 3) := by decide +kernel
theorem dX11_reverse_5 : decode cX11_reverse 5 = .ok (.invokevirtual 58, 3) := by decide +kernel
theorem dX11_reverse_8 : decode cX11_reverse 8 = .ok (.invokestatic 99, 3) := by decide +kernel
theorem dX11_reverse_11 : decode cX11_reverse 11 = .ok (.aload_n 0, 1) := by decide +kernel
theorem dX11_reverse_12 : decode cX11_reverse 12 = .ok (.invokevirtual 66, 3) := by decide +kernel
theorem dX11_reverse_15 : decode cX11_reverse 15 = .ok (.aload_n 0, 1) := by decide +kernel
theorem dX11_reverse_16 : decode cX11_reverse 16 = .ok (.getfield 12, 3) := by decide +kernel
theorem dX11_reverse_19 : decode cX11_reverse 19 = .ok (.iload_n 1, 1) := by decide +kernel
theorem dX11_reverse_20 : decode cX11_reverse 20 = .ok (.invokevirtual 106, 3) := by decide +kernel
theorem dX11_reverse_23 : decode cX11_reverse 23 = .ok (.aload_n 0, 1) := by decide +kernel
theorem dX11_reverse_24 : decode cX11_reverse 24 = .ok (.getfield 12, 3) := by decide +kernel
theorem dX11_reverse_27 : decode cX11_reverse 27 = .ok (.iload_n 1, 1) := by decide +kernel
theorem dX11_reverse_28 : decode cX11_reverse 28 = .ok (.invokevirtual 80, 3) := by decide +kernel
theorem dX11_reverse_31 : decode cX11_reverse 31 = .ok (.ireturn, 1) := by decide +kernel
set_option maxRecDepth 20000 in
theorem ggX11_simplify_X1_subpathCount : GoodIn wsX11_simplify wsX1_subpathCount := goodIn_r _ [6, 7, 8, 9, 5, 10, 11, 110] (by decide +kernel) (by decide +kernel)
set_option maxRecDepth 20000 in
theorem gX11_simplify_X1_subpathCount : GoodIn wsX11_simplify (wsV RX11 58 RX1 yX1_subpathCount wsX1_subpathCount) := goodIn_app (goodIn_of _ (by decide +kernel)) ggX11_simplify_X1_subpathCount
set_option maxRecDepth 20000 in
theorem ggX11_simplify_X11_checkIndex : GoodIn wsX11_simplify wsX11_checkIndex := goodIn_ca (goodIn_r _ [15, 16, 17] (by decide +kernel) (by decide +kernel)) (goodIn_sub (fun _ h => List.mem_cons_of_mem _ (List.mem_append_right _ h)) (by decide +kernel))
set_option maxRecDepth 20000 in
theorem gX11_simplify_X11_checkIndex : GoodIn wsX11_simplify (va_wsS RX11 99 yX11_checkIndex wsX11_checkIndex) := goodIn_app (goodIn_of _ (by decide +kernel)) ggX11_simplify_X11_checkIndex
set_option maxRecDepth 20000 in
theorem ggX11_simplify_X11_saveState : GoodIn wsX11_simplify wsX11_saveState := goodIn_r _ [21, 22, 1, 23, 24, 25, 26, 27, 28, 29, 30, 31, 32, 33, 34, 35, 36, 37, 5, 38, 11, 39, 40, 41, 42, 43, 44, 45, 103, 104, 105, 106, 107, 108, 109, 111, 112, 110, 113, 114, 115, 116, 117, 118, 119, 120] (by decide +kernel) (by decide +kernel)
set_option maxRecDepth 20000 in
theorem gX11_simplify_X11_saveState : GoodIn wsX11_simplify (wsV RX11 66 RX11 yX11_saveState wsX11_saveState) := goodIn_app (goodIn_of _ (by decide +kernel)) ggX11_simplify_X11_saveState
set_option maxRecDepth 20000 in
theorem ggX11_simplify_X1_dropIdlePoints : GoodIn wsX11_simplify wsX1_dropIdlePoints := goodIn_r _ [49, 50, 51, 52, 5, 53, 54, 55, 56, 57, 7, 8, 9, 10, 11, 58, 59, 60, 61, 62, 63, 64, 65, 66, 67, 68, 69, 70, 71, 72, 73, 74, 75, 76, 77, 78, 79, 80, 81, 82, 83, 84, 85, 86, 87, 88, 89, 90, 91, 92, 93, 94, 95, 96, 97, 98, 99, 100, 101, 102, 110] (by decide +kernel) (by decide +kernel)
set_option maxRecDepth 20000 in
theorem gX11_simplify_X1_dropIdlePoints : GoodIn wsX11_simplify (wsV RX11 109 RX1 yX1_dropIdlePoints wsX1_dropIdlePoints) := goodIn_app (goodIn_of _ (by decide +kernel)) ggX11_simplify_X1_dropIdlePoints
theorem dX11_simplify_0 : decode cX11_simplify 0 = .ok (.iload_n 1, 1) := by decide +kernel
theorem dX11_simplify_1 : decode cX11_simplify 1 = .ok (.aload_n 0, 1) := by decide +kernel
theorem dX11_simplify_2 : decode cX11_simplify 2 = .ok (.getfield 12, 3) := by decide +kernel
theorem dX11_simplify_5 : decode cX11_simplify 5 = .ok (.invokevirtual 58, 3) := by decide +kernel
theorem dX11_simplify_8 : decode cX11_simplify 8 = .ok (.invokestatic 99, 3) := by decide +kernel
theorem dX11_simplify_11 : decode cX11_simplify 11 = .ok (.aload_n 0, 1) := by decide +kernel
theorem dX11_simplify_12 : decode cX11_simplify 12 = .ok (.invokevirtual 66, 3) := by decide +kernel
theorem dX11_simplify_15 : decode cX11_simplify 15 = .ok (.aload_n 0, 1) := by decide +kernel
theorem dX11_simplify_16 : decode cX11_simplify 16 = .ok (.getfield 12, 3) := by decide +kernel
theorem dX11_simplify_19 : decode cX11_simplify 19 = .ok (.iload_n 1, 1) := by decide +kernel
theorem dX11_simplify_20 : decode cX11_simplify 20 = .ok (.invokevirtual 109, 3) := by decide +kernel
theorem dX11_simplify_23 : decode cX11_simplify 23 = .ok (.ireturn, 1) := by decide +kernel
set_option maxRecDepth 20000 in
theorem ggX11_transform_X11_checkRange : GoodIn wsX11_transform wsX11_checkRange := goodIn_ca (goodIn_r _ [5, 6, 7] (by decide +kernel) (by decide +kernel)) (goodIn_sub (fun _ h => List.mem_cons_of_mem _ (List.mem_append_left _ (List.mem_append_right _ h))) (by decide +kernel))
set_option maxRecDepth 20000 in
theorem gX11_transform_X11_checkRange : GoodIn wsX11_transform (va_wsS RX11 54 yX11_checkRange wsX11_checkRange) := goodIn_app (goodIn_of _ (by decide +kernel)) ggX11_transform_X11_checkRange
set_option maxRecDepth 20000 in
theorem ggX11_transform_X1_canMove : GoodIn wsX11_transform wsX1_canMove := goodIn_r _ [12, 13, 14, 15, 16, 17, 18, 19, 20, 21, 22, 11, 23, 24, 25, 26, 27, 28, 29, 30, 31, 32, 33, 34, 35, 36, 37, 38, 39, 40, 41, 42, 43, 44, 45, 46, 47, 48, 49, 50, 51, 52, 105] (by decide +kernel) (by decide +kernel)
set_option maxRecDepth 20000 in
theorem gX11_transform_X1_canMove : GoodIn wsX11_transform (wsV RX11 112 RX1 yX1_canMove wsX1_canMove) := goodIn_app (goodIn_of _ (by decide +kernel)) ggX11_transform_X1_canMove
set_option maxRecDepth 20000 in
theorem ggX11_transform_X11_checkState : GoodIn wsX11_transform wsX11_checkState := goodIn_ca (goodIn_r _ [55, 56, 57] (by decide +kernel) (by decide +kernel)) (goodIn_sub (fun _ h => List.mem_cons_of_mem _ (List.mem_append_right _ h)) (by decide +kernel))
set_option maxRecDepth 20000 in
theorem gX11_transform_X11_checkState : GoodIn wsX11_transform (va_wsS RX11 62 yX11_checkState wsX11_checkState) := goodIn_app (goodIn_of _ (by decide +kernel)) ggX11_transform_X11_checkState
set_option maxRecDepth 20000 in
theorem ggX11_transform_X11_saveState : GoodIn wsX11_transform wsX11_saveState := goodIn_r _ [61, 62, 1, 63, 64, 65, 66, 67, 68, 69, 70, 71, 72, 73, 74, 75, 76, 77, 11, 78, 28, 79, 80, 81, 82, 83, 84, 85, 98, 99, 100, 101, 102, 103, 104, 106, 107, 105, 108, 109, 110, 111, 112, 113, 114, 115] (by decide +kernel) (by decide +kernel)
set_option maxRecDepth 20000 in
theorem gX11_transform_X11_saveState : GoodIn wsX11_transform (wsV RX11 66 RX11 yX11_saveState wsX11_saveState) := goodIn_app (goodIn_of _ (by decide +kernel)) ggX11_transform_X11_saveState
set_option maxRecDepth 20000 in
theorem ggX11_transform_X1_move : GoodIn wsX11_transform wsX1_move := goodIn_r _ [89, 20, 21, 22, 11, 23, 24, 25, 26, 27, 28, 29, 30, 31, 32, 33, 34, 35, 36, 37, 38, 39, 40, 41, 42, 43, 44, 45, 46, 47, 48, 49, 50, 51, 52, 90, 91, 92, 93, 94, 95, 96, 97, 105] (by decide +kernel) (by decide +kernel)
set_option maxRecDepth 20000 in
theorem gX11_transform_X1_move : GoodIn wsX11_transform (wsV RX11 116 RX1 yX1_move wsX1_move) := goodIn_app (goodIn_of _ (by decide +kernel)) ggX11_transform_X1_move
theorem dX11_transform_0 : decode cX11_transform 0 = .ok (.iload_n 1, 1) := by decide +kernel
theorem dX11_transform_1 : decode cX11_transform 1 = .ok (.iconst 0, 1) := by decide +kernel
theorem dX11_transform_2 : decode cX11_transform 2 = .ok (.iconst 3, 1) := by decide +kernel
theorem dX11_transform_3 : decode cX11_transform 3 = .ok (.invokestatic 54, 3) := by decide +kernel
theorem dX11_transform_6 : decode cX11_transform 6 = .ok (.iload_n 2, 1) := by decide +kernel
theorem dX11_transform_7 : decode cX11_transform 7 = .ok (.sipush (-200), 3) := by decide +kernel
theorem dX11_transform_10 : decode cX11_transform 10 = .ok (.sipush 200, 3) := by decide +kernel
theorem dX11_transform_13 : decode cX11_transform 13 = .ok (.invokestatic 54, 3) := by decide +kernel
theorem dX11_transform_16 : decode cX11_transform 16 = .ok (.iload_n 3, 1) := by decide +kernel
theorem dX11_transform_17 : decode cX11_transform 17 = .ok (.sipush (-200), 3) := by decide +kernel
theorem dX11_transform_20 : decode cX11_transform 20 = .ok (.sipush 200, 3) := by decide +kernel
theorem dX11_transform_23 : decode cX11_transform 23 = .ok (.invokestatic 54, 3) := by decide +kernel
theorem dX11_transform_26 : decode cX11_transform 26 = .ok (.aload_n 0, 1) := by decide +kernel
theorem dX11_transform_27 : decode cX11_transform 27 = .ok (.getfield 12, 3) := by decide +kernel
theorem dX11_transform_30 : decode cX11_transform 30 = .ok (.iload_n 1, 1) := by decide +kernel
theorem dX11_transform_31 : decode cX11_transform 31 = .ok (.iload_n 2, 1) := by decide +kernel
theorem dX11_transform_32 : decode cX11_transform 32 = .ok (.iload_n 3, 1) := by decide +kernel
theorem dX11_transform_33 : decode cX11_transform 33 = .ok (.invokevirtual 112, 3) := by decide +kernel
theorem dX11_transform_36 : decode cX11_transform 36 = .ok (.invokestatic 62, 3) := by decide +kernel
theorem dX11_transform_39 : decode cX11_transform 39 = .ok (.aload_n 0, 1) := by decide +kernel
theorem dX11_transform_40 : decode cX11_transform 40 = .ok (.invokevirtual 66, 3) := by decide +kernel
