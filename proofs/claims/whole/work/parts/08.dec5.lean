theorem dX12_puts_33 : decode cX12_puts 33 = .ok (.return_, 1) := by decide +kernel
set_option maxRecDepth 20000 in
theorem ggX12_begins_X12_at : GoodIn wsX12_begins wsX12_at := goodIn_r _ [5] (by decide +kernel) (by decide +kernel)
set_option maxRecDepth 20000 in
theorem gX12_begins_X12_at : GoodIn wsX12_begins (va_wsS RX12 80 yX12_at wsX12_at) := goodIn_app (goodIn_of _ (by decide +kernel)) ggX12_begins_X12_at
set_option maxRecDepth 20000 in
theorem ggX12_begins_X12_puts : GoodIn wsX12_begins wsX12_puts := goodIn_r _ [9, 1, 2, 3, 4, 5, 10, 11, 12, 13, 14, 15, 16, 17, 18, 19, 20, 21, 22, 23, 24, 25, 26, 27, 28, 29, 30, 31, 32, 33, 34, 35, 36, 37, 38, 39, 40] (by decide +kernel) (by decide +kernel)
set_option maxRecDepth 20000 in
theorem gX12_begins_X12_puts : GoodIn wsX12_begins (wsV RX12 84 RX12 yX12_puts wsX12_puts) := goodIn_app (goodIn_of _ (by decide +kernel)) ggX12_begins_X12_puts
theorem dX12_begins_0 : decode cX12_begins 0 = .ok (.aload_n 0, 1) := by decide +kernel
theorem dX12_begins_1 : decode cX12_begins 1 = .ok (.getfield 7, 3) := by decide +kernel
theorem dX12_begins_4 : decode cX12_begins 4 = .ok (.bipush 13, 2) := by decide +kernel
theorem dX12_begins_6 : decode cX12_begins 6 = .ok (.iaload, 1) := by decide +kernel
theorem dX12_begins_7 : decode cX12_begins 7 = .ok (.istore_n 3, 1) := by decide +kernel
theorem dX12_begins_8 : decode cX12_begins 8 = .ok (.aload_n 0, 1) := by decide +kernel
theorem dX12_begins_9 : decode cX12_begins 9 = .ok (.getfield 7, 3) := by decide +kernel
theorem dX12_begins_12 : decode cX12_begins 12 = .ok (.bipush 13, 2) := by decide +kernel
theorem dX12_begins_14 : decode cX12_begins 14 = .ok (.dup2, 1) := by decide +kernel
theorem dX12_begins_15 : decode cX12_begins 15 = .ok (.iaload, 1) := by decide +kernel
theorem dX12_begins_16 : decode cX12_begins 16 = .ok (.iconst 1, 1) := by decide +kernel
theorem dX12_begins_17 : decode cX12_begins 17 = .ok (.iadd, 1) := by decide +kernel
theorem dX12_begins_18 : decode cX12_begins 18 = .ok (.iastore, 1) := by decide +kernel
theorem dX12_begins_19 : decode cX12_begins 19 = .ok (.aload_n 0, 1) := by decide +kernel
theorem dX12_begins_20 : decode cX12_begins 20 = .ok (.getfield 7, 3) := by decide +kernel
theorem dX12_begins_23 : decode cX12_begins 23 = .ok (.iload_n 3, 1) := by decide +kernel
theorem dX12_begins_24 : decode cX12_begins 24 = .ok (.invokestatic 80, 3) := by decide +kernel
theorem dX12_begins_27 : decode cX12_begins 27 = .ok (.iconst 1, 1) := by decide +kernel
theorem dX12_begins_28 : decode cX12_begins 28 = .ok (.iastore, 1) := by decide +kernel
theorem dX12_begins_29 : decode cX12_begins 29 = .ok (.aload_n 0, 1) := by decide +kernel
theorem dX12_begins_30 : decode cX12_begins 30 = .ok (.getfield 7, 3) := by decide +kernel
theorem dX12_begins_33 : decode cX12_begins 33 = .ok (.iload_n 3, 1) := by decide +kernel
theorem dX12_begins_34 : decode cX12_begins 34 = .ok (.invokestatic 80, 3) := by decide +kernel
theorem dX12_begins_37 : decode cX12_begins 37 = .ok (.iconst 1, 1) := by decide +kernel
theorem dX12_begins_38 : decode cX12_begins 38 = .ok (.iadd, 1) := by decide +kernel
theorem dX12_begins_39 : decode cX12_begins 39 = .ok (.iconst 0, 1) := by decide +kernel
theorem dX12_begins_40 : decode cX12_begins 40 = .ok (.iastore, 1) := by decide +kernel
theorem dX12_begins_41 : decode cX12_begins 41 = .ok (.aload_n 0, 1) := by decide +kernel
theorem dX12_begins_42 : decode cX12_begins 42 = .ok (.iload_n 3, 1) := by decide +kernel
theorem dX12_begins_43 : decode cX12_begins 43 = .ok (.iconst 0, 1) := by decide +kernel
theorem dX12_begins_44 : decode cX12_begins 44 = .ok (.iload_n 1, 1) := by decide +kernel
theorem dX12_begins_45 : decode cX12_begins 45 = .ok (.iload_n 2, 1) := by decide +kernel
theorem dX12_begins_46 : decode cX12_begins 46 = .ok (.invokevirtual 84, 3) := by decide +kernel
theorem dX12_begins_49 : decode cX12_begins 49 = .ok (.return_, 1) := by decide +kernel
set_option maxRecDepth 20000 in
theorem ggX12_follows_X12_points : GoodIn wsX12_follows wsX12_points := goodIn_r _ [6, 1, 7, 8, 5, 9, 14, 15, 16, 17, 18, 19, 20, 21, 22, 23, 24, 25, 26, 27, 28, 29, 30, 31, 32, 33, 34, 35, 36, 37, 38, 39, 40, 41, 42, 43, 44] (by decide +kernel) (by decide +kernel)
set_option maxRecDepth 20000 in
theorem gX12_follows_X12_points : GoodIn wsX12_follows (wsV RX12 88 RX12 yX12_points wsX12_points) := goodIn_app (goodIn_of _ (by decide +kernel)) ggX12_follows_X12_points
set_option maxRecDepth 20000 in
theorem ggX12_follows_X12_puts : GoodIn wsX12_follows wsX12_puts := goodIn_r _ [13, 1, 7, 8, 5, 9, 14, 15, 16, 17, 18, 19, 20, 21, 22, 23, 24, 25, 26, 27, 28, 29, 30, 31, 32, 33, 34, 35, 36, 37, 38, 39, 40, 41, 42, 43, 44] (by decide +kernel) (by decide +kernel)
set_option maxRecDepth 20000 in
theorem gX12_follows_X12_puts : GoodIn wsX12_follows (wsV RX12 84 RX12 yX12_puts wsX12_puts) := goodIn_app (goodIn_of _ (by decide +kernel)) ggX12_follows_X12_puts
set_option maxRecDepth 20000 in
theorem ggX12_follows_X12_at : GoodIn wsX12_follows wsX12_at := goodIn_r _ [9] (by decide +kernel) (by decide +kernel)
set_option maxRecDepth 20000 in
theorem gX12_follows_X12_at : GoodIn wsX12_follows (va_wsS RX12 80 yX12_at wsX12_at) := goodIn_app (goodIn_of _ (by decide +kernel)) ggX12_follows_X12_at
theorem dX12_follows_0 : decode cX12_follows 0 = .ok (.aload_n 0, 1) := by decide +kernel
theorem dX12_follows_1 : decode cX12_follows 1 = .ok (.getfield 7, 3) := by decide +kernel
theorem dX12_follows_4 : decode cX12_follows 4 = .ok (.bipush 13, 2) := by decide +kernel
theorem dX12_follows_6 : decode cX12_follows 6 = .ok (.iaload, 1) := by decide +kernel
theorem dX12_follows_7 : decode cX12_follows 7 = .ok (.iconst 1, 1) := by decide +kernel
theorem dX12_follows_8 : decode cX12_follows 8 = .ok (.isub, 1) := by decide +kernel
theorem dX12_follows_9 : decode cX12_follows 9 = .ok (.istore_n 3, 1) := by decide +kernel
theorem dX12_follows_10 : decode cX12_follows 10 = .ok (.aload_n 0, 1) := by decide +kernel
theorem dX12_follows_11 : decode cX12_follows 11 = .ok (.iload_n 3, 1) := by decide +kernel
theorem dX12_follows_12 : decode cX12_follows 12 = .ok (.aload_n 0, 1) := by decide +kernel
theorem dX12_follows_13 : decode cX12_follows 13 = .ok (.iload_n 3, 1) := by decide +kernel
theorem dX12_follows_14 : decode cX12_follows 14 = .ok (.invokevirtual 88, 3) := by decide +kernel
theorem dX12_follows_17 : decode cX12_follows 17 = .ok (.iload_n 1, 1) := by decide +kernel
theorem dX12_follows_18 : decode cX12_follows 18 = .ok (.iload_n 2, 1) := by decide +kernel
theorem dX12_follows_19 : decode cX12_follows 19 = .ok (.invokevirtual 84, 3) := by decide +kernel
theorem dX12_follows_22 : decode cX12_follows 22 = .ok (.aload_n 0, 1) := by decide +kernel
theorem dX12_follows_23 : decode cX12_follows 23 = .ok (.getfield 7, 3) := by decide +kernel
theorem dX12_follows_26 : decode cX12_follows 26 = .ok (.iload_n 3, 1) := by decide +kernel
theorem dX12_follows_27 : decode cX12_follows 27 = .ok (.invokestatic 80, 3) := by decide +kernel
theorem dX12_follows_30 : decode cX12_follows 30 = .ok (.dup2, 1) := by decide +kernel
theorem dX12_follows_31 : decode cX12_follows 31 = .ok (.iaload, 1) := by decide +kernel
theorem dX12_follows_32 : decode cX12_follows 32 = .ok (.iconst 1, 1) := by decide +kernel
theorem dX12_follows_33 : decode cX12_follows 33 = .ok (.iadd, 1) := by decide +kernel
theorem dX12_follows_34 : decode cX12_follows 34 = .ok (.iastore, 1) := by decide +kernel
theorem dX12_follows_35 : decode cX12_follows 35 = .ok (.return_, 1) := by decide +kernel
set_option maxRecDepth 20000 in
theorem ggX12_moveTo_X12_isPlace : GoodIn wsX12_moveTo wsX12_isPlace := goodIn_r _ [5, 6, 7, 4, 8] (by decide +kernel) (by decide +kernel)
set_option maxRecDepth 20000 in
theorem gX12_moveTo_X12_isPlace : GoodIn wsX12_moveTo (va_wsS RX12 91 yX12_isPlace wsX12_isPlace) := goodIn_app (goodIn_of _ (by decide +kernel)) ggX12_moveTo_X12_isPlace
set_option maxRecDepth 20000 in
theorem ggX12_moveTo_X12_refused : GoodIn wsX12_moveTo wsX12_refused := goodIn_r _ [12, 13, 31, 32, 33, 34, 35, 36, 37, 38, 39, 40, 41, 42, 43, 44, 45, 46, 47, 48, 49, 50, 51, 52, 53, 54, 55, 56, 57, 58, 59, 60, 61] (by decide +kernel) (by decide +kernel)
set_option maxRecDepth 20000 in
theorem gX12_moveTo_X12_refused : GoodIn wsX12_moveTo (wsV RX12 76 RX12 yX12_refused wsX12_refused) := goodIn_app (goodIn_of _ (by decide +kernel)) ggX12_moveTo_X12_refused
set_option maxRecDepth 20000 in
theorem ggX12_moveTo_X12_saves : GoodIn wsX12_moveTo wsX12_saves := goodIn_r _ [17, 18, 19, 1, 31, 32, 33, 34, 35, 36, 37, 38, 39, 40, 41, 42, 43, 44, 45, 46, 47, 48, 49, 50, 51, 52, 53, 54, 55, 56, 57, 58, 59, 60, 61] (by decide +kernel) (by decide +kernel)
set_option maxRecDepth 20000 in
theorem gX12_moveTo_X12_saves : GoodIn wsX12_moveTo (wsV RX12 95 RX12 yX12_saves wsX12_saves) := goodIn_app (goodIn_of _ (by decide +kernel)) ggX12_moveTo_X12_saves
set_option maxRecDepth 20000 in
theorem ggX12_moveTo_X12_begins : GoodIn wsX12_moveTo wsX12_begins := goodIn_r _ [23, 1, 24, 25, 4, 26, 27, 28, 29, 30, 31, 32, 33, 34, 35, 36, 37, 38, 39, 40, 41, 42, 43, 44, 45, 46, 47, 48, 49, 50, 51, 52, 53, 54, 55, 56, 57, 58, 59, 60, 61] (by decide +kernel) (by decide +kernel)
set_option maxRecDepth 20000 in
theorem gX12_moveTo_X12_begins : GoodIn wsX12_moveTo (wsV RX12 98 RX12 yX12_begins wsX12_begins) := goodIn_app (goodIn_of _ (by decide +kernel)) ggX12_moveTo_X12_begins
theorem dX12_moveTo_0 : decode cX12_moveTo 0 = .ok (.aload_n 0, 1) := by decide +kernel
theorem dX12_moveTo_1 : decode cX12_moveTo 1 = .ok (.iload_n 1, 1) := by decide +kernel
theorem dX12_moveTo_2 : decode cX12_moveTo 2 = .ok (.iload_n 2, 1) := by decide +kernel
theorem dX12_moveTo_3 : decode cX12_moveTo 3 = .ok (.invokestatic 91, 3) := by decide +kernel
theorem dX12_moveTo_6 : decode cX12_moveTo 6 = .ok (.ifCond .ne 7, 3) := by decide +kernel
theorem dX12_moveTo_9 : decode cX12_moveTo 9 = .ok (.iconst 1, 1) := by decide +kernel
theorem dX12_moveTo_10 : decode cX12_moveTo 10 = .ok (.goto 19, 3) := by decide +kernel
theorem dX12_moveTo_13 : decode cX12_moveTo 13 = .ok (.aload_n 0, 1) := by decide +kernel
theorem dX12_moveTo_14 : decode cX12_moveTo 14 = .ok (.getfield 7, 3) := by decide +kernel
theorem dX12_moveTo_17 : decode cX12_moveTo 17 = .ok (.bipush 13, 2) := by decide +kernel
theorem dX12_moveTo_19 : decode cX12_moveTo 19 = .ok (.iaload, 1) := by decide +kernel
theorem dX12_moveTo_20 : decode cX12_moveTo 20 = .ok (.iconst 4, 1) := by decide +kernel
theorem dX12_moveTo_21 : decode cX12_moveTo 21 = .ok (.if_icmp .ne 7, 3) := by decide +kernel
theorem dX12_moveTo_24 : decode cX12_moveTo 24 = .ok (.iconst 2, 1) := by decide +kernel
theorem dX12_moveTo_25 : decode cX12_moveTo 25 = .ok (.goto 4, 3) := by decide +kernel
theorem dX12_moveTo_28 : decode cX12_moveTo 28 = .ok (.iconst 0, 1) := by decide +kernel
theorem dX12_moveTo_29 : decode cX12_moveTo 29 = .ok (.invokevirtual 76, 3) := by decide +kernel
theorem dX12_moveTo_32 : decode cX12_moveTo 32 = .ok (.ifCond .eq 5, 3) := by decide +kernel
theorem dX12_moveTo_35 : decode cX12_moveTo 35 = .ok (.iconst 0, 1) := by decide +kernel
theorem dX12_moveTo_36 : decode cX12_moveTo 36 = .ok (.ireturn, 1) := by decide +kernel
theorem dX12_moveTo_37 : decode cX12_moveTo 37 = .ok (.aload_n 0, 1) := by decide +kernel
theorem dX12_moveTo_38 : decode cX12_moveTo 38 = .ok (.invokevirtual 95, 3) := by decide +kernel
theorem dX12_moveTo_41 : decode cX12_moveTo 41 = .ok (.aload_n 0, 1) := by decide +kernel
theorem dX12_moveTo_42 : decode cX12_moveTo 42 = .ok (.iload_n 1, 1) := by decide +kernel
theorem dX12_moveTo_43 : decode cX12_moveTo 43 = .ok (.iload_n 2, 1) := by decide +kernel
theorem dX12_moveTo_44 : decode cX12_moveTo 44 = .ok (.invokevirtual 98, 3) := by decide +kernel
theorem dX12_moveTo_47 : decode cX12_moveTo 47 = .ok (.aload_n 0, 1) := by decide +kernel
theorem dX12_moveTo_48 : decode cX12_moveTo 48 = .ok (.getfield 7, 3) := by decide +kernel
theorem dX12_moveTo_51 : decode cX12_moveTo 51 = .ok (.bipush 13, 2) := by decide +kernel
theorem dX12_moveTo_53 : decode cX12_moveTo 53 = .ok (.iaload, 1) := by decide +kernel
theorem dX12_moveTo_54 : decode cX12_moveTo 54 = .ok (.iconst 1, 1) := by decide +kernel
theorem dX12_moveTo_55 : decode cX12_moveTo 55 = .ok (.isub, 1) := by decide +kernel
theorem dX12_moveTo_56 : decode cX12_moveTo 56 = .ok (.ireturn, 1) := by decide +kernel
set_option maxRecDepth 20000 in
theorem ggX12_isOpen_X12_isClosed : GoodIn wsX12_isOpen wsX12_isClosed := goodIn_r _ [6, 1, 7, 8, 5, 9, 10, 11, 12, 13, 14, 15, 16, 17, 18, 19, 20, 21, 22, 23, 24, 25, 26, 27, 28, 29, 30, 31, 32, 33, 34, 35, 36, 37, 38, 39, 40] (by decide +kernel) (by decide +kernel)
set_option maxRecDepth 20000 in
theorem gX12_isOpen_X12_isClosed : GoodIn wsX12_isOpen (wsV RX12 102 RX12 yX12_isClosed wsX12_isClosed) := goodIn_app (goodIn_of _ (by decide +kernel)) ggX12_isOpen_X12_isClosed
theorem dX12_isOpen_0 : decode cX12_isOpen 0 = .ok (.aload_n 0, 1) := by decide +kernel
theorem dX12_isOpen_1 : decode cX12_isOpen 1 = .ok (.getfield 7, 3) := by decide +kernel
theorem dX12_isOpen_4 : decode cX12_isOpen 4 = .ok (.bipush 13, 2) := by decide +kernel
theorem dX12_isOpen_6 : decode cX12_isOpen 6 = .ok (.iaload, 1) := by decide +kernel
theorem dX12_isOpen_7 : decode cX12_isOpen 7 = .ok (.ifCond .le 23, 3) := by decide +kernel
theorem dX12_isOpen_10 : decode cX12_isOpen 10 = .ok (.aload_n 0, 1) := by decide +kernel
theorem dX12_isOpen_11 : decode cX12_isOpen 11 = .ok (.aload_n 0, 1) := by decide +kernel
theorem dX12_isOpen_12 : decode cX12_isOpen 12 = .ok (.getfield 7, 3) := by decide +kernel
theorem dX12_isOpen_15 : decode cX12_isOpen 15 = .ok (.bipush 13, 2) := by decide +kernel
theorem dX12_isOpen_17 : decode cX12_isOpen 17 = .ok (.iaload, 1) := by decide +kernel
theorem dX12_isOpen_18 : decode cX12_isOpen 18 = .ok (.iconst 1, 1) := by decide +kernel
theorem dX12_isOpen_19 : decode cX12_isOpen 19 = .ok (.isub, 1) := by decide +kernel
theorem dX12_isOpen_20 : decode cX12_isOpen 20 = .ok (.invokevirtual 102, 3) := by decide +kernel
theorem dX12_isOpen_23 : decode cX12_isOpen 23 = .ok (.ifCond .ne 7, 3) := by decide +kernel
theorem dX12_isOpen_26 : decode cX12_isOpen 26 = .ok (.iconst 1, 1) := by decide +kernel
theorem dX12_isOpen_27 : decode cX12_isOpen 27 = .ok (.goto 4, 3) := by decide +kernel
theorem dX12_isOpen_30 : decode cX12_isOpen 30 = .ok (.iconst 0, 1) := by decide +kernel
theorem dX12_isOpen_31 : decode cX12_isOpen 31 = .ok (.ireturn, 1) := by decide +kernel
set_option maxRecDepth 20000 in
theorem ggX12_lineTo_X12_isPlace : GoodIn wsX12_lineTo wsX12_isPlace := goodIn_r _ [5, 6, 7, 4, 8] (by decide +kernel) (by decide +kernel)
set_option maxRecDepth 20000 in
theorem gX12_lineTo_X12_isPlace : GoodIn wsX12_lineTo (va_wsS RX12 91 yX12_isPlace wsX12_isPlace) := goodIn_app (goodIn_of _ (by decide +kernel)) ggX12_lineTo_X12_isPlace
set_option maxRecDepth 20000 in
theorem ggX12_lineTo_X12_isOpen : GoodIn wsX12_lineTo wsX12_isOpen := goodIn_r _ [12, 1, 13, 14, 15, 4, 16, 17, 18, 19, 43, 44, 45, 46, 47, 48, 49, 50, 51, 52, 53, 54, 55, 56, 57, 58, 59, 60, 61, 62, 63, 64, 65, 66, 67, 68, 69, 70, 71, 72, 73] (by decide +kernel) (by decide +kernel)
set_option maxRecDepth 20000 in
theorem gX12_lineTo_X12_isOpen : GoodIn wsX12_lineTo (wsV RX12 105 RX12 yX12_isOpen wsX12_isOpen) := goodIn_app (goodIn_of _ (by decide +kernel)) ggX12_lineTo_X12_isOpen
set_option maxRecDepth 20000 in
theorem ggX12_lineTo_X12_points : GoodIn wsX12_lineTo wsX12_points := goodIn_r _ [23, 1, 17, 18, 4, 19, 43, 44, 45, 46, 47, 48, 49, 50, 51, 52, 53, 54, 55, 56, 57, 58, 59, 60, 61, 62, 63, 64, 65, 66, 67, 68, 69, 70, 71, 72, 73] (by decide +kernel) (by decide +kernel)
set_option maxRecDepth 20000 in
theorem gX12_lineTo_X12_points : GoodIn wsX12_lineTo (wsV RX12 88 RX12 yX12_points wsX12_points) := goodIn_app (goodIn_of _ (by decide +kernel)) ggX12_lineTo_X12_points
set_option maxRecDepth 20000 in
theorem ggX12_lineTo_X12_refused : GoodIn wsX12_lineTo wsX12_refused := goodIn_r _ [27, 28, 43, 44, 45, 46, 47, 48, 49, 50, 51, 52, 53, 54, 55, 56, 57, 58, 59, 60, 61, 62, 63, 64, 65, 66, 67, 68, 69, 70, 71, 72, 73] (by decide +kernel) (by decide +kernel)
set_option maxRecDepth 20000 in
theorem gX12_lineTo_X12_refused : GoodIn wsX12_lineTo (wsV RX12 76 RX12 yX12_refused wsX12_refused) := goodIn_app (goodIn_of _ (by decide +kernel)) ggX12_lineTo_X12_refused
set_option maxRecDepth 20000 in
theorem ggX12_lineTo_X12_saves : GoodIn wsX12_lineTo wsX12_saves := goodIn_r _ [32, 33, 34, 1, 43, 44, 45, 46, 47, 48, 49, 50, 51, 52, 53, 54, 55, 56, 57, 58, 59, 60, 61, 62, 63, 64, 65, 66, 67, 68, 69, 70, 71, 72, 73] (by decide +kernel) (by decide +kernel)
set_option maxRecDepth 20000 in
theorem gX12_lineTo_X12_saves : GoodIn wsX12_lineTo (wsV RX12 95 RX12 yX12_saves wsX12_saves) := goodIn_app (goodIn_of _ (by decide +kernel)) ggX12_lineTo_X12_saves
set_option maxRecDepth 20000 in
theorem ggX12_lineTo_X12_follows : GoodIn wsX12_lineTo wsX12_follows := goodIn_r _ [38, 1, 20, 21, 22, 4, 23, 17, 18, 19, 39, 40, 41, 42, 43, 44, 45, 46, 47, 48, 49, 50, 51, 52, 53, 54, 55, 56, 57, 58, 59, 60, 61, 62, 63, 64, 65, 66, 67, 68, 69, 70, 71, 72, 73] (by decide +kernel) (by decide +kernel)
set_option maxRecDepth 20000 in
theorem gX12_lineTo_X12_follows : GoodIn wsX12_lineTo (wsV RX12 109 RX12 yX12_follows wsX12_follows) := goodIn_app (goodIn_of _ (by decide +kernel)) ggX12_lineTo_X12_follows
theorem dX12_lineTo_0 : decode cX12_lineTo 0 = .ok (.aload_n 0, 1) := by decide +kernel
theorem dX12_lineTo_1 : decode cX12_lineTo 1 = .ok (.iload_n 1, 1) := by decide +kernel
theorem dX12_lineTo_2 : decode cX12_lineTo 2 = .ok (.iload_n 2, 1) := by decide +kernel
theorem dX12_lineTo_3 : decode cX12_lineTo 3 = .ok (.invokestatic 91, 3) := by decide +kernel
theorem dX12_lineTo_6 : decode cX12_lineTo 6 = .ok (.ifCond .ne 7, 3) := by decide +kernel
theorem dX12_lineTo_9 : decode cX12_lineTo 9 = .ok (.iconst 1, 1) := by decide +kernel
theorem dX12_lineTo_10 : decode cX12_lineTo 10 = .ok (.goto 33, 3) := by decide +kernel
theorem dX12_lineTo_13 : decode cX12_lineTo 13 = .ok (.aload_n 0, 1) := by decide +kernel
theorem dX12_lineTo_14 : decode cX12_lineTo 14 = .ok (.invokevirtual 105, 3) := by decide +kernel
theorem dX12_lineTo_17 : decode cX12_lineTo 17 = .ok (.ifCond .eq 21, 3) := by decide +kernel
theorem dX12_lineTo_20 : decode cX12_lineTo 20 = .ok (.aload_n 0, 1) := by decide +kernel
theorem dX12_lineTo_21 : decode cX12_lineTo 21 = .ok (.aload_n 0, 1) := by decide +kernel
theorem dX12_lineTo_22 : decode cX12_lineTo 22 = .ok (.getfield 7, 3) := by decide +kernel
theorem dX12_lineTo_25 : decode cX12_lineTo 25 = .ok (.bipush 13, 2) := by decide +kernel
theorem dX12_lineTo_27 : decode cX12_lineTo 27 = .ok (.iaload, 1) := by decide +kernel
theorem dX12_lineTo_28 : decode cX12_lineTo 28 = .ok (.iconst 1, 1) := by decide +kernel
theorem dX12_lineTo_29 : decode cX12_lineTo 29 = .ok (.isub, 1) := by decide +kernel
theorem dX12_lineTo_30 : decode cX12_lineTo 30 = .ok (.invokevirtual 88, 3) := by decide +kernel
theorem dX12_lineTo_33 : decode cX12_lineTo 33 = .ok (.bipush 8, 2) := by decide +kernel
theorem dX12_lineTo_35 : decode cX12_lineTo 35 = .ok (.if_icmp .ne 7, 3) := by decide +kernel
theorem dX12_lineTo_38 : decode cX12_lineTo 38 = .ok (.iconst 2, 1) := by decide +kernel
theorem dX12_lineTo_39 : decode cX12_lineTo 39 = .ok (.goto 4, 3) := by decide +kernel
theorem dX12_lineTo_42 : decode cX12_lineTo 42 = .ok (.iconst 0, 1) := by decide +kernel
theorem dX12_lineTo_43 : decode cX12_lineTo 43 = .ok (.invokevirtual 76, 3) := by decide +kernel
theorem dX12_lineTo_46 : decode cX12_lineTo 46 = .ok (.ifCond .eq 5, 3) := by decide +kernel
theorem dX12_lineTo_49 : decode cX12_lineTo 49 = .ok (.iconst 0, 1) := by decide +kernel
theorem dX12_lineTo_50 : decode cX12_lineTo 50 = .ok (.ireturn, 1) := by decide +kernel
theorem dX12_lineTo_51 : decode cX12_lineTo 51 = .ok (.aload_n 0, 1) := by decide +kernel
theorem dX12_lineTo_52 : decode cX12_lineTo 52 = .ok (.invokevirtual 95, 3) := by decide +kernel
theorem dX12_lineTo_55 : decode cX12_lineTo 55 = .ok (.aload_n 0, 1) := by decide +kernel
theorem dX12_lineTo_56 : decode cX12_lineTo 56 = .ok (.iload_n 1, 1) := by decide +kernel
theorem dX12_lineTo_57 : decode cX12_lineTo 57 = .ok (.iload_n 2, 1) := by decide +kernel
theorem dX12_lineTo_58 : decode cX12_lineTo 58 = .ok (.invokevirtual 109, 3) := by decide +kernel
theorem dX12_lineTo_61 : decode cX12_lineTo 61 = .ok (.aload_n 0, 1) := by decide +kernel
theorem dX12_lineTo_62 : decode cX12_lineTo 62 = .ok (.aload_n 0, 1) := by decide +kernel
theorem dX12_lineTo_63 : decode cX12_lineTo 63 = .ok (.getfield 7, 3) := by decide +kernel
theorem dX12_lineTo_66 : decode cX12_lineTo 66 = .ok (.bipush 13, 2) := by decide +kernel
theorem dX12_lineTo_68 : decode cX12_lineTo 68 = .ok (.iaload, 1) := by decide +kernel
theorem dX12_lineTo_69 : decode cX12_lineTo 69 = .ok (.iconst 1, 1) := by decide +kernel
theorem dX12_lineTo_70 : decode cX12_lineTo 70 = .ok (.isub, 1) := by decide +kernel
theorem dX12_lineTo_71 : decode cX12_lineTo 71 = .ok (.invokevirtual 88, 3) := by decide +kernel
theorem dX12_lineTo_74 : decode cX12_lineTo 74 = .ok (.ireturn, 1) := by decide +kernel
set_option maxRecDepth 20000 in
theorem ggX12_close_X12_isOpen : GoodIn wsX12_close wsX12_isOpen := goodIn_r _ [7, 1, 8, 9, 10, 6, 11, 12, 13, 14, 55, 56, 57, 58, 59, 60, 61, 62, 63, 64, 65, 66, 67, 68, 69, 70, 71, 72, 73, 74, 75, 76, 77, 78, 79, 80, 81, 82, 83, 84, 85] (by decide +kernel) (by decide +kernel)
set_option maxRecDepth 20000 in
theorem gX12_close_X12_isOpen : GoodIn wsX12_close (wsV RX12 105 RX12 yX12_isOpen wsX12_isOpen) := goodIn_app (goodIn_of _ (by decide +kernel)) ggX12_close_X12_isOpen
set_option maxRecDepth 20000 in
theorem ggX12_close_X12_refused : GoodIn wsX12_close wsX12_refused := goodIn_r _ [18, 19, 55, 56, 57, 58, 59, 60, 61, 62, 63, 64, 65, 66, 67, 68, 69, 70, 71, 72, 73, 74, 75, 76, 77, 78, 79, 80, 81, 82, 83, 84, 85] (by decide +kernel) (by decide +kernel)
set_option maxRecDepth 20000 in
theorem gX12_close_X12_refused : GoodIn wsX12_close (wsV RX12 76 RX12 yX12_refused wsX12_refused) := goodIn_app (goodIn_of _ (by decide +kernel)) ggX12_close_X12_refused
set_option maxRecDepth 20000 in
theorem ggX12_close_X12_saves : GoodIn wsX12_close wsX12_saves := goodIn_r _ [23, 24, 25, 1, 55, 56, 57, 58, 59, 60, 61, 62, 63, 64, 65, 66, 67, 68, 69, 70, 71, 72, 73, 74, 75, 76, 77, 78, 79, 80, 81, 82, 83, 84, 85] (by decide +kernel) (by decide +kernel)
set_option maxRecDepth 20000 in
theorem gX12_close_X12_saves : GoodIn wsX12_close (wsV RX12 95 RX12 yX12_saves wsX12_saves) := goodIn_app (goodIn_of _ (by decide +kernel)) ggX12_close_X12_saves
set_option maxRecDepth 20000 in
theorem ggX12_close_X12_at : GoodIn wsX12_close wsX12_at := goodIn_r _ [14] (by decide +kernel) (by decide +kernel)
set_option maxRecDepth 20000 in
theorem gX12_close_X12_at : GoodIn wsX12_close (va_wsS RX12 80 yX12_at wsX12_at) := goodIn_app (goodIn_of _ (by decide +kernel)) ggX12_close_X12_at
set_option maxRecDepth 20000 in
theorem ggX12_close_X12_laysSegments : GoodIn wsX12_close wsX12_laysSegments := goodIn_r _ [29, 2, 30, 31, 32, 33, 34, 35, 36, 37, 38, 39, 40, 6, 41, 1, 12, 13, 14, 8, 9, 10, 11, 42, 43, 44, 45, 46, 47, 48, 49, 50, 51, 52, 53, 54, 55, 56, 57, 58, 59, 60, 61, 62, 63, 64, 65, 66, 67, 68, 69, 70, 71, 72, 73, 74, 75, 76, 77, 78, 79, 80, 81, 82, 83, 84, 85] (by decide +kernel) (by decide +kernel)
set_option maxRecDepth 20000 in
theorem gX12_close_X12_laysSegments : GoodIn wsX12_close (wsV RX12 112 RX12 yX12_laysSegments wsX12_laysSegments) := goodIn_app (goodIn_of _ (by decide +kernel)) ggX12_close_X12_laysSegments
theorem dX12_close_0 : decode cX12_close 0 = .ok (.aload_n 0, 1) := by decide +kernel
theorem dX12_close_1 : decode cX12_close 1 = .ok (.aload_n 0, 1) := by decide +kernel
theorem dX12_close_2 : decode cX12_close 2 = .ok (.invokevirtual 105, 3) := by decide +kernel
theorem dX12_close_5 : decode cX12_close 5 = .ok (.ifCond .eq 7, 3) := by decide +kernel
theorem dX12_close_8 : decode cX12_close 8 = .ok (.iconst 0, 1) := by decide +kernel
theorem dX12_close_9 : decode cX12_close 9 = .ok (.goto 4, 3) := by decide +kernel
theorem dX12_close_12 : decode cX12_close 12 = .ok (.iconst 1, 1) := by decide +kernel
theorem dX12_close_13 : decode cX12_close 13 = .ok (.invokevirtual 76, 3) := by decide +kernel
theorem dX12_close_16 : decode cX12_close 16 = .ok (.ifCond .eq 5, 3) := by decide +kernel
theorem dX12_close_19 : decode cX12_close 19 = .ok (.iconst 0, 1) := by decide +kernel
theorem dX12_close_20 : decode cX12_close 20 = .ok (.ireturn, 1) := by decide +kernel
theorem dX12_close_21 : decode cX12_close 21 = .ok (.aload_n 0, 1) := by decide +kernel
theorem dX12_close_22 : decode cX12_close 22 = .ok (.invokevirtual 95, 3) := by decide +kernel
theorem dX12_close_25 : decode cX12_close 25 = .ok (.aload_n 0, 1) := by decide +kernel
theorem dX12_close_26 : decode cX12_close 26 = .ok (.getfield 7, 3) := by decide +kernel
theorem dX12_close_29 : decode cX12_close 29 = .ok (.bipush 13, 2) := by decide +kernel
theorem dX12_close_31 : decode cX12_close 31 = .ok (.iaload, 1) := by decide +kernel
theorem dX12_close_32 : decode cX12_close 32 = .ok (.iconst 1, 1) := by decide +kernel
theorem dX12_close_33 : decode cX12_close 33 = .ok (.isub, 1) := by decide +kernel
theorem dX12_close_34 : decode cX12_close 34 = .ok (.istore_n 1, 1) := by decide +kernel
theorem dX12_close_35 : decode cX12_close 35 = .ok (.aload_n 0, 1) := by decide +kernel
theorem dX12_close_36 : decode cX12_close 36 = .ok (.getfield 7, 3) := by decide +kernel
theorem dX12_close_39 : decode cX12_close 39 = .ok (.iload_n 1, 1) := by decide +kernel
theorem dX12_close_40 : decode cX12_close 40 = .ok (.invokestatic 80, 3) := by decide +kernel
theorem dX12_close_43 : decode cX12_close 43 = .ok (.iconst 1, 1) := by decide +kernel
theorem dX12_close_44 : decode cX12_close 44 = .ok (.iadd, 1) := by decide +kernel
theorem dX12_close_45 : decode cX12_close 45 = .ok (.iconst 1, 1) := by decide +kernel
theorem dX12_close_46 : decode cX12_close 46 = .ok (.iastore, 1) := by decide +kernel
theorem dX12_close_47 : decode cX12_close 47 = .ok (.aload_n 0, 1) := by decide +kernel
theorem dX12_close_48 : decode cX12_close 48 = .ok (.iload_n 1, 1) := by decide +kernel
theorem dX12_close_49 : decode cX12_close 49 = .ok (.invokevirtual 112, 3) := by decide +kernel
theorem dX12_close_52 : decode cX12_close 52 = .ok (.aload_n 0, 1) := by decide +kernel
theorem dX12_close_53 : decode cX12_close 53 = .ok (.getfield 116, 3) := by decide +kernel
theorem dX12_close_56 : decode cX12_close 56 = .ok (.ireturn, 1) := by decide +kernel
set_option maxRecDepth 20000 in
theorem ggX12_remove_X12_isSubpath : GoodIn wsX12_remove wsX12_isSubpath := goodIn_r _ [6, 1, 7, 8, 5, 9, 24, 25, 26, 27, 28, 29, 30, 31, 32, 33, 34, 35, 36, 37, 38, 39, 40, 41, 42, 43, 44, 45, 46, 47, 48, 49, 50, 51, 52, 53, 54] (by decide +kernel) (by decide +kernel)
set_option maxRecDepth 20000 in
theorem gX12_remove_X12_isSubpath : GoodIn wsX12_remove (wsV RX12 119 RX12 yX12_isSubpath wsX12_isSubpath) := goodIn_app (goodIn_of _ (by decide +kernel)) ggX12_remove_X12_isSubpath
set_option maxRecDepth 20000 in
theorem ggX12_remove_X12_refused : GoodIn wsX12_remove wsX12_refused := goodIn_r _ [13, 14, 24, 25, 26, 27, 28, 29, 30, 31, 32, 33, 34, 35, 36, 37, 38, 39, 40, 41, 42, 43, 44, 45, 46, 47, 48, 49, 50, 51, 52, 53, 54] (by decide +kernel) (by decide +kernel)
set_option maxRecDepth 20000 in
theorem gX12_remove_X12_refused : GoodIn wsX12_remove (wsV RX12 76 RX12 yX12_refused wsX12_refused) := goodIn_app (goodIn_of _ (by decide +kernel)) ggX12_remove_X12_refused
set_option maxRecDepth 20000 in
theorem ggX12_remove_X12_saves : GoodIn wsX12_remove wsX12_saves := goodIn_r _ [18, 19, 20, 1, 24, 25, 26, 27, 28, 29, 30, 31, 32, 33, 34, 35, 36, 37, 38, 39, 40, 41, 42, 43, 44, 45, 46, 47, 48, 49, 50, 51, 52, 53, 54] (by decide +kernel) (by decide +kernel)
set_option maxRecDepth 20000 in
theorem gX12_remove_X12_saves : GoodIn wsX12_remove (wsV RX12 95 RX12 yX12_saves wsX12_saves) := goodIn_app (goodIn_of _ (by decide +kernel)) ggX12_remove_X12_saves
set_option maxRecDepth 20000 in
theorem ggX12_remove_X12_at : GoodIn wsX12_remove wsX12_at := goodIn_r _ [23] (by decide +kernel) (by decide +kernel)
set_option maxRecDepth 20000 in
theorem gX12_remove_X12_at : GoodIn wsX12_remove (va_wsS RX12 80 yX12_at wsX12_at) := goodIn_app (goodIn_of _ (by decide +kernel)) ggX12_remove_X12_at
theorem dX12_remove_0 : decode cX12_remove 0 = .ok (.aload_n 0, 1) := by decide +kernel
theorem dX12_remove_1 : decode cX12_remove 1 = .ok (.aload_n 0, 1) := by decide +kernel
theorem dX12_remove_2 : decode cX12_remove 2 = .ok (.iload_n 1, 1) := by decide +kernel
theorem dX12_remove_3 : decode cX12_remove 3 = .ok (.invokevirtual 119, 3) := by decide +kernel
theorem dX12_remove_6 : decode cX12_remove 6 = .ok (.ifCond .eq 7, 3) := by decide +kernel
theorem dX12_remove_9 : decode cX12_remove 9 = .ok (.iconst 0, 1) := by decide +kernel
theorem dX12_remove_10 : decode cX12_remove 10 = .ok (.goto 4, 3) := by decide +kernel
theorem dX12_remove_13 : decode cX12_remove 13 = .ok (.iconst 1, 1) := by decide +kernel
theorem dX12_remove_14 : decode cX12_remove 14 = .ok (.invokevirtual 76, 3) := by decide +kernel
theorem dX12_remove_17 : decode cX12_remove 17 = .ok (.ifCond .eq 5, 3) := by decide +kernel
theorem dX12_remove_20 : decode cX12_remove 20 = .ok (.iconst 0, 1) := by decide +kernel
theorem dX12_remove_21 : decode cX12_remove 21 = .ok (.ireturn, 1) := by decide +kernel
theorem dX12_remove_22 : decode cX12_remove 22 = .ok (.aload_n 0, 1) := by decide +kernel
theorem dX12_remove_23 : decode cX12_remove 23 = .ok (.invokevirtual 95, 3) := by decide +kernel
theorem dX12_remove_26 : decode cX12_remove 26 = .ok (.aload_n 0, 1) := by decide +kernel
theorem dX12_remove_27 : decode cX12_remove 27 = .ok (.getfield 7, 3) := by decide +kernel
theorem dX12_remove_30 : decode cX12_remove 30 = .ok (.bipush 13, 2) := by decide +kernel
theorem dX12_remove_32 : decode cX12_remove 32 = .ok (.dup2, 1) := by decide +kernel
theorem dX12_remove_33 : decode cX12_remove 33 = .ok (.iaload, 1) := by decide +kernel
theorem dX12_remove_34 : decode cX12_remove 34 = .ok (.iconst 1, 1) := by decide +kernel
theorem dX12_remove_35 : decode cX12_remove 35 = .ok (.isub, 1) := by decide +kernel
theorem dX12_remove_36 : decode cX12_remove 36 = .ok (.iastore, 1) := by decide +kernel
theorem dX12_remove_37 : decode cX12_remove 37 = .ok (.iload_n 1, 1) := by decide +kernel
theorem dX12_remove_38 : decode cX12_remove 38 = .ok (.invokestatic 80, 3) := by decide +kernel
theorem dX12_remove_41 : decode cX12_remove 41 = .ok (.istore_n 2, 1) := by decide +kernel
theorem dX12_remove_42 : decode cX12_remove 42 = .ok (.iload_n 2, 1) := by decide +kernel
theorem dX12_remove_43 : decode cX12_remove 43 = .ok (.aload_n 0, 1) := by decide +kernel
theorem dX12_remove_44 : decode cX12_remove 44 = .ok (.getfield 7, 3) := by decide +kernel
theorem dX12_remove_47 : decode cX12_remove 47 = .ok (.bipush 13, 2) := by decide +kernel
theorem dX12_remove_49 : decode cX12_remove 49 = .ok (.iaload, 1) := by decide +kernel
theorem dX12_remove_50 : decode cX12_remove 50 = .ok (.invokestatic 80, 3) := by decide +kernel
theorem dX12_remove_53 : decode cX12_remove 53 = .ok (.if_icmp .ge 24, 3) := by decide +kernel
theorem dX12_remove_56 : decode cX12_remove 56 = .ok (.aload_n 0, 1) := by decide +kernel
theorem dX12_remove_57 : decode cX12_remove 57 = .ok (.getfield 7, 3) := by decide +kernel
theorem dX12_remove_60 : decode cX12_remove 60 = .ok (.iload_n 2, 1) := by decide +kernel
theorem dX12_remove_61 : decode cX12_remove 61 = .ok (.aload_n 0, 1) := by decide +kernel
theorem dX12_remove_62 : decode cX12_remove 62 = .ok (.getfield 7, 3) := by decide +kernel
theorem dX12_remove_65 : decode cX12_remove 65 = .ok (.iload_n 2, 1) := by decide +kernel
theorem dX12_remove_66 : decode cX12_remove 66 = .ok (.bipush 18, 2) := by decide +kernel
theorem dX12_remove_68 : decode cX12_remove 68 = .ok (.iadd, 1) := by decide +kernel
theorem dX12_remove_69 : decode cX12_remove 69 = .ok (.iaload, 1) := by decide +kernel
theorem dX12_remove_70 : decode cX12_remove 70 = .ok (.iastore, 1) := by decide +kernel
theorem dX12_remove_71 : decode cX12_remove 71 = .ok (.iinc 2 1, 3) := by decide +kernel
theorem dX12_remove_74 : decode cX12_remove 74 = .ok (.goto (-32), 3) := by decide +kernel
theorem dX12_remove_77 : decode cX12_remove 77 = .ok (.aload_n 0, 1) := by decide +kernel
theorem dX12_remove_78 : decode cX12_remove 78 = .ok (.getfield 7, 3) := by decide +kernel
theorem dX12_remove_81 : decode cX12_remove 81 = .ok (.bipush 13, 2) := by decide +kernel
theorem dX12_remove_83 : decode cX12_remove 83 = .ok (.iaload, 1) := by decide +kernel
theorem dX12_remove_84 : decode cX12_remove 84 = .ok (.ireturn, 1) := by decide +kernel
set_option maxRecDepth 20000 in
theorem ggX12_reverse_X12_isSubpath : GoodIn wsX12_reverse wsX12_isSubpath := goodIn_r _ [5, 6, 7, 8, 4, 9, 40, 41, 42, 43, 44, 45, 46, 47, 48, 49, 50, 51, 52, 53, 54, 55, 56, 57, 58, 59, 60, 61, 62, 63, 64, 65, 66, 67, 68, 69, 70] (by decide +kernel) (by decide +kernel)
set_option maxRecDepth 20000 in
theorem gX12_reverse_X12_isSubpath : GoodIn wsX12_reverse (wsV RX12 119 RX12 yX12_isSubpath wsX12_isSubpath) := goodIn_app (goodIn_of _ (by decide +kernel)) ggX12_reverse_X12_isSubpath
set_option maxRecDepth 20000 in
theorem ggX12_reverse_X12_refused : GoodIn wsX12_reverse wsX12_refused := goodIn_r _ [13, 14, 40, 41, 42, 43, 44, 45, 46, 47, 48, 49, 50, 51, 52, 53, 54, 55, 56, 57, 58, 59, 60, 61, 62, 63, 64, 65, 66, 67, 68, 69, 70] (by decide +kernel) (by decide +kernel)
set_option maxRecDepth 20000 in
theorem gX12_reverse_X12_refused : GoodIn wsX12_reverse (wsV RX12 76 RX12 yX12_refused wsX12_refused) := goodIn_app (goodIn_of _ (by decide +kernel)) ggX12_reverse_X12_refused
set_option maxRecDepth 20000 in
theorem ggX12_reverse_X12_saves : GoodIn wsX12_reverse wsX12_saves := goodIn_r _ [18, 19, 20, 6, 40, 41, 42, 43, 44, 45, 46, 47, 48, 49, 50, 51, 52, 53, 54, 55, 56, 57, 58, 59, 60, 61, 62, 63, 64, 65, 66, 67, 68, 69, 70] (by decide +kernel) (by decide +kernel)
set_option maxRecDepth 20000 in
theorem gX12_reverse_X12_saves : GoodIn wsX12_reverse (wsV RX12 95 RX12 yX12_saves wsX12_saves) := goodIn_app (goodIn_of _ (by decide +kernel)) ggX12_reverse_X12_saves
set_option maxRecDepth 20000 in
theorem ggX12_reverse_X12_points : GoodIn wsX12_reverse wsX12_points := goodIn_r _ [24, 6, 25, 26, 4, 27, 40, 41, 42, 43, 44, 45, 46, 47, 48, 49, 50, 51, 52, 53, 54, 55, 56, 57, 58, 59, 60, 61, 62, 63, 64, 65, 66, 67, 68, 69, 70] (by decide +kernel) (by decide +kernel)
set_option maxRecDepth 20000 in
theorem gX12_reverse_X12_points : GoodIn wsX12_reverse (wsV RX12 88 RX12 yX12_points wsX12_points) := goodIn_app (goodIn_of _ (by decide +kernel)) ggX12_reverse_X12_points
set_option maxRecDepth 20000 in
theorem ggX12_reverse_X12_x : GoodIn wsX12_reverse wsX12_x := goodIn_r _ [31, 6, 25, 26, 4, 27, 40, 41, 42, 43, 44, 45, 46, 47, 48, 49, 50, 51, 52, 53, 54, 55, 56, 57, 58, 59, 60, 61, 62, 63, 64, 65, 66, 67, 68, 69, 70] (by decide +kernel) (by decide +kernel)
set_option maxRecDepth 20000 in
theorem gX12_reverse_X12_x : GoodIn wsX12_reverse (wsV RX12 122 RX12 yX12_x wsX12_x) := goodIn_app (goodIn_of _ (by decide +kernel)) ggX12_reverse_X12_x
set_option maxRecDepth 20000 in
theorem ggX12_reverse_X12_y : GoodIn wsX12_reverse wsX12_y := goodIn_r _ [35, 6, 25, 26, 4, 27, 40, 41, 42, 43, 44, 45, 46, 47, 48, 49, 50, 51, 52, 53, 54, 55, 56, 57, 58, 59, 60, 61, 62, 63, 64, 65, 66, 67, 68, 69, 70] (by decide +kernel) (by decide +kernel)
set_option maxRecDepth 20000 in
theorem gX12_reverse_X12_y : GoodIn wsX12_reverse (wsV RX12 126 RX12 yX12_y wsX12_y) := goodIn_app (goodIn_of _ (by decide +kernel)) ggX12_reverse_X12_y
set_option maxRecDepth 20000 in
theorem ggX12_reverse_X12_puts : GoodIn wsX12_reverse wsX12_puts := goodIn_r _ [39, 6, 25, 26, 4, 27, 40, 41, 42, 43, 44, 45, 46, 47, 48, 49, 50, 51, 52, 53, 54, 55, 56, 57, 58, 59, 60, 61, 62, 63, 64, 65, 66, 67, 68, 69, 70] (by decide +kernel) (by decide +kernel)
set_option maxRecDepth 20000 in
theorem gX12_reverse_X12_puts : GoodIn wsX12_reverse (wsV RX12 84 RX12 yX12_puts wsX12_puts) := goodIn_app (goodIn_of _ (by decide +kernel)) ggX12_reverse_X12_puts
theorem dX12_reverse_0 : decode cX12_reverse 0 = .ok (.aload_n 0, 1) := by decide +kernel
theorem dX12_reverse_1 : decode cX12_reverse 1 = .ok (.aload_n 0, 1) := by decide +kernel
theorem dX12_reverse_2 : decode cX12_reverse 2 = .ok (.iload_n 1, 1) := by decide +kernel
theorem dX12_reverse_3 : decode cX12_reverse 3 = .ok (.invokevirtual 119, 3) := by decide +kernel
theorem dX12_reverse_6 : decode cX12_reverse 6 = .ok (.ifCond .eq 7, 3) := by decide +kernel
theorem dX12_reverse_9 : decode cX12_reverse 9 = .ok (.iconst 0, 1) := by decide +kernel
theorem dX12_reverse_10 : decode cX12_reverse 10 = .ok (.goto 4, 3) := by decide +kernel
theorem dX12_reverse_13 : decode cX12_reverse 13 = .ok (.iconst 1, 1) := by decide +kernel
theorem dX12_reverse_14 : decode cX12_reverse 14 = .ok (.invokevirtual 76, 3) := by decide +kernel
theorem dX12_reverse_17 : decode cX12_reverse 17 = .ok (.ifCond .eq 5, 3) := by decide +kernel
theorem dX12_reverse_20 : decode cX12_reverse 20 = .ok (.iconst 0, 1) := by decide +kernel
theorem dX12_reverse_21 : decode cX12_reverse 21 = .ok (.ireturn, 1) := by decide +kernel
theorem dX12_reverse_22 : decode cX12_reverse 22 = .ok (.aload_n 0, 1) := by decide +kernel
theorem dX12_reverse_23 : decode cX12_reverse 23 = .ok (.invokevirtual 95, 3) := by decide +kernel
theorem dX12_reverse_26 : decode cX12_reverse 26 = .ok (.aload_n 0, 1) := by decide +kernel
theorem dX12_reverse_27 : decode cX12_reverse 27 = .ok (.iload_n 1, 1) := by decide +kernel
theorem dX12_reverse_28 : decode cX12_reverse 28 = .ok (.invokevirtual 88, 3) := by decide +kernel
theorem dX12_reverse_31 : decode cX12_reverse 31 = .ok (.istore_n 2, 1) := by decide +kernel
theorem dX12_reverse_32 : decode cX12_reverse 32 = .ok (.iconst 0, 1) := by decide +kernel
theorem dX12_reverse_33 : decode cX12_reverse 33 = .ok (.istore_n 3, 1) := by decide +kernel
theorem dX12_reverse_34 : decode cX12_reverse 34 = .ok (.iload_n 3, 1) := by decide +kernel
theorem dX12_reverse_35 : decode cX12_reverse 35 = .ok (.iload_n 2, 1) := by decide +kernel
theorem dX12_reverse_36 : decode cX12_reverse 36 = .ok (.iconst 2, 1) := by decide +kernel
theorem dX12_reverse_37 : decode cX12_reverse 37 = .ok (.idiv, 1) := by decide +kernel
theorem dX12_reverse_38 : decode cX12_reverse 38 = .ok (.if_icmp .ge 65, 3) := by decide +kernel
theorem dX12_reverse_41 : decode cX12_reverse 41 = .ok (.aload_n 0, 1) := by decide +kernel
theorem dX12_reverse_42 : decode cX12_reverse 42 = .ok (.iload_n 1, 1) := by decide +kernel
theorem dX12_reverse_43 : decode cX12_reverse 43 = .ok (.iload_n 2, 1) := by decide +kernel
theorem dX12_reverse_44 : decode cX12_reverse 44 = .ok (.iconst 1, 1) := by decide +kernel
theorem dX12_reverse_45 : decode cX12_reverse 45 = .ok (.isub, 1) := by decide +kernel
theorem dX12_reverse_46 : decode cX12_reverse 46 = .ok (.iload_n 3, 1) := by decide +kernel
theorem dX12_reverse_47 : decode cX12_reverse 47 = .ok (.isub, 1) := by decide +kernel
theorem dX12_reverse_48 : decode cX12_reverse 48 = .ok (.invokevirtual 122, 3) := by decide +kernel
theorem dX12_reverse_51 : decode cX12_reverse 51 = .ok (.istore 4, 2) := by decide +kernel
theorem dX12_reverse_53 : decode cX12_reverse 53 = .ok (.aload_n 0, 1) := by decide +kernel
theorem dX12_reverse_54 : decode cX12_reverse 54 = .ok (.iload_n 1, 1) := by decide +kernel
theorem dX12_reverse_55 : decode cX12_reverse 55 = .ok (.iload_n 2, 1) := by decide +kernel
theorem dX12_reverse_56 : decode cX12_reverse 56 = .ok (.iconst 1, 1) := by decide +kernel
theorem dX12_reverse_57 : decode cX12_reverse 57 = .ok (.isub, 1) := by decide +kernel
theorem dX12_reverse_58 : decode cX12_reverse 58 = .ok (.iload_n 3, 1) := by decide +kernel
theorem dX12_reverse_59 : decode cX12_reverse 59 = .ok (.isub, 1) := by decide +kernel
theorem dX12_reverse_60 : decode cX12_reverse 60 = .ok (.invokevirtual 126, 3) := by decide +kernel
theorem dX12_reverse_63 : decode cX12_reverse 63 = .ok (.istore 5, 2) := by decide +kernel
theorem dX12_reverse_65 : decode cX12_reverse 65 = .ok (.aload_n 0, 1) := by decide +kernel
theorem dX12_reverse_66 : decode cX12_reverse 66 = .ok (.iload_n 1, 1) := by decide +kernel
theorem dX12_reverse_67 : decode cX12_reverse 67 = .ok (.iload_n 2, 1) := by decide +kernel
theorem dX12_reverse_68 : decode cX12_reverse 68 = .ok (.iconst 1, 1) := by decide +kernel
theorem dX12_reverse_69 : decode cX12_reverse 69 = .ok (.isub, 1) := by decide +kernel
theorem dX12_reverse_70 : decode cX12_reverse 70 = .ok (.iload_n 3, 1) := by decide +kernel
theorem dX12_reverse_71 : decode cX12_reverse 71 = .ok (.isub, 1) := by decide +kernel
theorem dX12_reverse_72 : decode cX12_reverse 72 = .ok (.aload_n 0, 1) := by decide +kernel
theorem dX12_reverse_73 : decode cX12_reverse 73 = .ok (.iload_n 1, 1) := by decide +kernel
theorem dX12_reverse_74 : decode cX12_reverse 74 = .ok (.iload_n 3, 1) := by decide +kernel
theorem dX12_reverse_75 : decode cX12_reverse 75 = .ok (.invokevirtual 122, 3) := by decide +kernel
theorem dX12_reverse_78 : decode cX12_reverse 78 = .ok (.aload_n 0, 1) := by decide +kernel
theorem dX12_reverse_79 : decode cX12_reverse 79 = .ok (.iload_n 1, 1) := by decide +kernel
theorem dX12_reverse_80 : decode cX12_reverse 80 = .ok (.iload_n 3, 1) := by decide +kernel
theorem dX12_reverse_81 : decode cX12_reverse 81 = .ok (.invokevirtual 126, 3) := by decide +kernel
theorem dX12_reverse_84 : decode cX12_reverse 84 = .ok (.invokevirtual 84, 3) := by decide +kernel
theorem dX12_reverse_87 : decode cX12_reverse 87 = .ok (.aload_n 0, 1) := by decide +kernel
theorem dX12_reverse_88 : decode cX12_reverse 88 = .ok (.iload_n 1, 1) := by decide +kernel
theorem dX12_reverse_89 : decode cX12_reverse 89 = .ok (.iload_n 3, 1) := by decide +kernel
theorem dX12_reverse_90 : decode cX12_reverse 90 = .ok (.iload 4, 2) := by decide +kernel
theorem dX12_reverse_92 : decode cX12_reverse 92 = .ok (.iload 5, 2) := by decide +kernel
theorem dX12_reverse_94 : decode cX12_reverse 94 = .ok (.invokevirtual 84, 3) := by decide +kernel
theorem dX12_reverse_97 : decode cX12_reverse 97 = .ok (.iinc 3 1, 3) := by decide +kernel
theorem dX12_reverse_100 : decode cX12_reverse 100 = .ok (.goto (-66), 3) := by decide +kernel
theorem dX12_reverse_103 : decode cX12_reverse 103 = .ok (.iload_n 2, 1) := by decide +kernel
theorem dX12_reverse_104 : decode cX12_reverse 104 = .ok (.ireturn, 1) := by decide +kernel
set_option maxRecDepth 20000 in
theorem ggX12_isBetween_X12_within : GoodIn wsX12_isBetween wsX12_within := goodIn_r _ [4] (by decide +kernel) (by decide +kernel)
set_option maxRecDepth 20000 in
theorem gX12_isBetween_X12_within : GoodIn wsX12_isBetween (va_wsS RX12 65 yX12_within wsX12_within) := goodIn_app (goodIn_of _ (by decide +kernel)) ggX12_isBetween_X12_within
theorem dX12_isBetween_0 : decode cX12_isBetween 0 = .ok (.iload_n 0, 1) := by decide +kernel
theorem dX12_isBetween_1 : decode cX12_isBetween 1 = .ok (.iload_n 2, 1) := by decide +kernel
theorem dX12_isBetween_2 : decode cX12_isBetween 2 = .ok (.if_icmp .ge 12, 3) := by decide +kernel
theorem dX12_isBetween_5 : decode cX12_isBetween 5 = .ok (.iload_n 1, 1) := by decide +kernel
theorem dX12_isBetween_6 : decode cX12_isBetween 6 = .ok (.iload_n 0, 1) := by decide +kernel
theorem dX12_isBetween_7 : decode cX12_isBetween 7 = .ok (.iload_n 2, 1) := by decide +kernel
theorem dX12_isBetween_8 : decode cX12_isBetween 8 = .ok (.invokestatic 65, 3) := by decide +kernel
theorem dX12_isBetween_11 : decode cX12_isBetween 11 = .ok (.goto 9, 3) := by decide +kernel
theorem dX12_isBetween_14 : decode cX12_isBetween 14 = .ok (.iload_n 1, 1) := by decide +kernel
theorem dX12_isBetween_15 : decode cX12_isBetween 15 = .ok (.iload_n 2, 1) := by decide +kernel
theorem dX12_isBetween_16 : decode cX12_isBetween 16 = .ok (.iload_n 0, 1) := by decide +kernel
theorem dX12_isBetween_17 : decode cX12_isBetween 17 = .ok (.invokestatic 65, 3) := by decide +kernel
theorem dX12_isBetween_20 : decode cX12_isBetween 20 = .ok (.ireturn, 1) := by decide +kernel
set_option maxRecDepth 20000 in
theorem ggX12_isIdle_X12_points : GoodIn wsX12_isIdle wsX12_points := goodIn_r _ [5, 6, 7, 8, 4, 9, 28, 29, 30, 31, 32, 33, 34, 35, 36, 37, 38, 39, 40, 41, 42, 43, 44, 45, 46, 47, 48, 49, 50, 51, 52, 53, 54, 55, 56, 57, 58] (by decide +kernel) (by decide +kernel)
set_option maxRecDepth 20000 in
theorem gX12_isIdle_X12_points : GoodIn wsX12_isIdle (wsV RX12 88 RX12 yX12_points wsX12_points) := goodIn_app (goodIn_of _ (by decide +kernel)) ggX12_isIdle_X12_points
set_option maxRecDepth 20000 in
theorem ggX12_isIdle_X12_isClosed : GoodIn wsX12_isIdle wsX12_isClosed := goodIn_r _ [13, 6, 7, 8, 4, 9, 28, 29, 30, 31, 32, 33, 34, 35, 36, 37, 38, 39, 40, 41, 42, 43, 44, 45, 46, 47, 48, 49, 50, 51, 52, 53, 54, 55, 56, 57, 58] (by decide +kernel) (by decide +kernel)
set_option maxRecDepth 20000 in
theorem gX12_isIdle_X12_isClosed : GoodIn wsX12_isIdle (wsV RX12 102 RX12 yX12_isClosed wsX12_isClosed) := goodIn_app (goodIn_of _ (by decide +kernel)) ggX12_isIdle_X12_isClosed
set_option maxRecDepth 20000 in
theorem ggX12_isIdle_X12_x : GoodIn wsX12_isIdle wsX12_x := goodIn_r _ [17, 6, 7, 8, 4, 9, 28, 29, 30, 31, 32, 33, 34, 35, 36, 37, 38, 39, 40, 41, 42, 43, 44, 45, 46, 47, 48, 49, 50, 51, 52, 53, 54, 55, 56, 57, 58] (by decide +kernel) (by decide +kernel)
set_option maxRecDepth 20000 in
theorem gX12_isIdle_X12_x : GoodIn wsX12_isIdle (wsV RX12 122 RX12 yX12_x wsX12_x) := goodIn_app (goodIn_of _ (by decide +kernel)) ggX12_isIdle_X12_x
set_option maxRecDepth 20000 in
theorem ggX12_isIdle_X12_y : GoodIn wsX12_isIdle wsX12_y := goodIn_r _ [21, 6, 7, 8, 4, 9, 28, 29, 30, 31, 32, 33, 34, 35, 36, 37, 38, 39, 40, 41, 42, 43, 44, 45, 46, 47, 48, 49, 50, 51, 52, 53, 54, 55, 56, 57, 58] (by decide +kernel) (by decide +kernel)
set_option maxRecDepth 20000 in
theorem gX12_isIdle_X12_y : GoodIn wsX12_isIdle (wsV RX12 126 RX12 yX12_y wsX12_y) := goodIn_app (goodIn_of _ (by decide +kernel)) ggX12_isIdle_X12_y
set_option maxRecDepth 20000 in
theorem ggX12_isIdle_X12_isBetween : GoodIn wsX12_isIdle wsX12_isBetween := goodIn_r _ [24, 25, 26, 4, 27] (by decide +kernel) (by decide +kernel)
set_option maxRecDepth 20000 in
theorem gX12_isIdle_X12_isBetween : GoodIn wsX12_isIdle (va_wsS RX12 129 yX12_isBetween wsX12_isBetween) := goodIn_app (goodIn_of _ (by decide +kernel)) ggX12_isIdle_X12_isBetween
theorem dX12_isIdle_0 : decode cX12_isIdle 0 = .ok (.aload_n 0, 1) := by decide +kernel
theorem dX12_isIdle_1 : decode cX12_isIdle 1 = .ok (.iload_n 1, 1) := by decide +kernel
theorem dX12_isIdle_2 : decode cX12_isIdle 2 = .ok (.invokevirtual 88, 3) := by decide +kernel
theorem dX12_isIdle_5 : decode cX12_isIdle 5 = .ok (.istore_n 3, 1) := by decide +kernel
theorem dX12_isIdle_6 : decode cX12_isIdle 6 = .ok (.iload_n 2, 1) := by decide +kernel
theorem dX12_isIdle_7 : decode cX12_isIdle 7 = .ok (.ifCond .le 9, 3) := by decide +kernel
theorem dX12_isIdle_10 : decode cX12_isIdle 10 = .ok (.iload_n 2, 1) := by decide +kernel
theorem dX12_isIdle_11 : decode cX12_isIdle 11 = .ok (.iconst 1, 1) := by decide +kernel
theorem dX12_isIdle_12 : decode cX12_isIdle 12 = .ok (.isub, 1) := by decide +kernel
theorem dX12_isIdle_13 : decode cX12_isIdle 13 = .ok (.goto 18, 3) := by decide +kernel
theorem dX12_isIdle_16 : decode cX12_isIdle 16 = .ok (.aload_n 0, 1) := by decide +kernel
theorem dX12_isIdle_17 : decode cX12_isIdle 17 = .ok (.iload_n 1, 1) := by decide +kernel
theorem dX12_isIdle_18 : decode cX12_isIdle 18 = .ok (.invokevirtual 102, 3) := by decide +kernel
theorem dX12_isIdle_21 : decode cX12_isIdle 21 = .ok (.ifCond .eq 9, 3) := by decide +kernel
theorem dX12_isIdle_24 : decode cX12_isIdle 24 = .ok (.iload_n 3, 1) := by decide +kernel
theorem dX12_isIdle_25 : decode cX12_isIdle 25 = .ok (.iconst 1, 1) := by decide +kernel
theorem dX12_isIdle_26 : decode cX12_isIdle 26 = .ok (.isub, 1) := by decide +kernel
theorem dX12_isIdle_27 : decode cX12_isIdle 27 = .ok (.goto 4, 3) := by decide +kernel
theorem dX12_isIdle_30 : decode cX12_isIdle 30 = .ok (.iconst (-1), 1) := by decide +kernel
theorem dX12_isIdle_31 : decode cX12_isIdle 31 = .ok (.istore 4, 2) := by decide +kernel
theorem dX12_isIdle_33 : decode cX12_isIdle 33 = .ok (.iload_n 2, 1) := by decide +kernel
theorem dX12_isIdle_34 : decode cX12_isIdle 34 = .ok (.iload_n 3, 1) := by decide +kernel
theorem dX12_isIdle_35 : decode cX12_isIdle 35 = .ok (.iconst 1, 1) := by decide +kernel
theorem dX12_isIdle_36 : decode cX12_isIdle 36 = .ok (.isub, 1) := by decide +kernel
theorem dX12_isIdle_37 : decode cX12_isIdle 37 = .ok (.if_icmp .ge 9, 3) := by decide +kernel
theorem dX12_isIdle_40 : decode cX12_isIdle 40 = .ok (.iload_n 2, 1) := by decide +kernel
theorem dX12_isIdle_41 : decode cX12_isIdle 41 = .ok (.iconst 1, 1) := by decide +kernel
theorem dX12_isIdle_42 : decode cX12_isIdle 42 = .ok (.iadd, 1) := by decide +kernel
theorem dX12_isIdle_43 : decode cX12_isIdle 43 = .ok (.goto 16, 3) := by decide +kernel
theorem dX12_isIdle_46 : decode cX12_isIdle 46 = .ok (.aload_n 0, 1) := by decide +kernel
theorem dX12_isIdle_47 : decode cX12_isIdle 47 = .ok (.iload_n 1, 1) := by decide +kernel
theorem dX12_isIdle_48 : decode cX12_isIdle 48 = .ok (.invokevirtual 102, 3) := by decide +kernel
theorem dX12_isIdle_51 : decode cX12_isIdle 51 = .ok (.ifCond .eq 7, 3) := by decide +kernel
theorem dX12_isIdle_54 : decode cX12_isIdle 54 = .ok (.iconst 0, 1) := by decide +kernel
theorem dX12_isIdle_55 : decode cX12_isIdle 55 = .ok (.goto 4, 3) := by decide +kernel
theorem dX12_isIdle_58 : decode cX12_isIdle 58 = .ok (.iconst (-1), 1) := by decide +kernel
theorem dX12_isIdle_59 : decode cX12_isIdle 59 = .ok (.istore 5, 2) := by decide +kernel
theorem dX12_isIdle_61 : decode cX12_isIdle 61 = .ok (.iload 4, 2) := by decide +kernel
theorem dX12_isIdle_63 : decode cX12_isIdle 63 = .ok (.iconst (-1), 1) := by decide +kernel
theorem dX12_isIdle_64 : decode cX12_isIdle 64 = .ok (.if_icmp .eq 37, 3) := by decide +kernel
theorem dX12_isIdle_67 : decode cX12_isIdle 67 = .ok (.aload_n 0, 1) := by decide +kernel
theorem dX12_isIdle_68 : decode cX12_isIdle 68 = .ok (.iload_n 1, 1) := by decide +kernel
theorem dX12_isIdle_69 : decode cX12_isIdle 69 = .ok (.iload 4, 2) := by decide +kernel
theorem dX12_isIdle_71 : decode cX12_isIdle 71 = .ok (.invokevirtual 122, 3) := by decide +kernel
theorem dX12_isIdle_74 : decode cX12_isIdle 74 = .ok (.aload_n 0, 1) := by decide +kernel
theorem dX12_isIdle_75 : decode cX12_isIdle 75 = .ok (.iload_n 1, 1) := by decide +kernel
theorem dX12_isIdle_76 : decode cX12_isIdle 76 = .ok (.iload_n 2, 1) := by decide +kernel
theorem dX12_isIdle_77 : decode cX12_isIdle 77 = .ok (.invokevirtual 122, 3) := by decide +kernel
theorem dX12_isIdle_80 : decode cX12_isIdle 80 = .ok (.if_icmp .ne 21, 3) := by decide +kernel
theorem dX12_isIdle_83 : decode cX12_isIdle 83 = .ok (.aload_n 0, 1) := by decide +kernel
theorem dX12_isIdle_84 : decode cX12_isIdle 84 = .ok (.iload_n 1, 1) := by decide +kernel
theorem dX12_isIdle_85 : decode cX12_isIdle 85 = .ok (.iload 4, 2) := by decide +kernel
theorem dX12_isIdle_87 : decode cX12_isIdle 87 = .ok (.invokevirtual 126, 3) := by decide +kernel
theorem dX12_isIdle_90 : decode cX12_isIdle 90 = .ok (.aload_n 0, 1) := by decide +kernel
theorem dX12_isIdle_91 : decode cX12_isIdle 91 = .ok (.iload_n 1, 1) := by decide +kernel
theorem dX12_isIdle_92 : decode cX12_isIdle 92 = .ok (.iload_n 2, 1) := by decide +kernel
theorem dX12_isIdle_93 : decode cX12_isIdle 93 = .ok (.invokevirtual 126, 3) := by decide +kernel
theorem dX12_isIdle_96 : decode cX12_isIdle 96 = .ok (.if_icmp .ne 5, 3) := by decide +kernel
theorem dX12_isIdle_99 : decode cX12_isIdle 99 = .ok (.iconst 1, 1) := by decide +kernel
theorem dX12_isIdle_100 : decode cX12_isIdle 100 = .ok (.ireturn, 1) := by decide +kernel
theorem dX12_isIdle_101 : decode cX12_isIdle 101 = .ok (.iload 4, 2) := by decide +kernel
theorem dX12_isIdle_103 : decode cX12_isIdle 103 = .ok (.iconst (-1), 1) := by decide +kernel
theorem dX12_isIdle_104 : decode cX12_isIdle 104 = .ok (.if_icmp .eq 9, 3) := by decide +kernel
theorem dX12_isIdle_107 : decode cX12_isIdle 107 = .ok (.iload 5, 2) := by decide +kernel
theorem dX12_isIdle_109 : decode cX12_isIdle 109 = .ok (.iconst (-1), 1) := by decide +kernel
theorem dX12_isIdle_110 : decode cX12_isIdle 110 = .ok (.if_icmp .ne 5, 3) := by decide +kernel
theorem dX12_isIdle_113 : decode cX12_isIdle 113 = .ok (.iconst 0, 1) := by decide +kernel
theorem dX12_isIdle_114 : decode cX12_isIdle 114 = .ok (.ireturn, 1) := by decide +kernel
theorem dX12_isIdle_115 : decode cX12_isIdle 115 = .ok (.aload_n 0, 1) := by decide +kernel
theorem dX12_isIdle_116 : decode cX12_isIdle 116 = .ok (.iload_n 1, 1) := by decide +kernel
theorem dX12_isIdle_117 : decode cX12_isIdle 117 = .ok (.iload 5, 2) := by decide +kernel
theorem dX12_isIdle_119 : decode cX12_isIdle 119 = .ok (.invokevirtual 122, 3) := by decide +kernel
theorem dX12_isIdle_122 : decode cX12_isIdle 122 = .ok (.aload_n 0, 1) := by decide +kernel
theorem dX12_isIdle_123 : decode cX12_isIdle 123 = .ok (.iload_n 1, 1) := by decide +kernel
theorem dX12_isIdle_124 : decode cX12_isIdle 124 = .ok (.iload 4, 2) := by decide +kernel
theorem dX12_isIdle_126 : decode cX12_isIdle 126 = .ok (.invokevirtual 122, 3) := by decide +kernel
theorem dX12_isIdle_129 : decode cX12_isIdle 129 = .ok (.isub, 1) := by decide +kernel
theorem dX12_isIdle_130 : decode cX12_isIdle 130 = .ok (.aload_n 0, 1) := by decide +kernel
theorem dX12_isIdle_131 : decode cX12_isIdle 131 = .ok (.iload_n 1, 1) := by decide +kernel
theorem dX12_isIdle_132 : decode cX12_isIdle 132 = .ok (.iload_n 2, 1) := by decide +kernel
theorem dX12_isIdle_133 : decode cX12_isIdle 133 = .ok (.invokevirtual 126, 3) := by decide +kernel
theorem dX12_isIdle_136 : decode cX12_isIdle 136 = .ok (.aload_n 0, 1) := by decide +kernel
theorem dX12_isIdle_137 : decode cX12_isIdle 137 = .ok (.iload_n 1, 1) := by decide +kernel
theorem dX12_isIdle_138 : decode cX12_isIdle 138 = .ok (.iload 4, 2) := by decide +kernel
theorem dX12_isIdle_140 : decode cX12_isIdle 140 = .ok (.invokevirtual 126, 3) := by decide +kernel
theorem dX12_isIdle_143 : decode cX12_isIdle 143 = .ok (.isub, 1) := by decide +kernel
theorem dX12_isIdle_144 : decode cX12_isIdle 144 = .ok (.imul, 1) := by decide +kernel
theorem dX12_isIdle_145 : decode cX12_isIdle 145 = .ok (.aload_n 0, 1) := by decide +kernel
theorem dX12_isIdle_146 : decode cX12_isIdle 146 = .ok (.iload_n 1, 1) := by decide +kernel
theorem dX12_isIdle_147 : decode cX12_isIdle 147 = .ok (.iload 5, 2) := by decide +kernel
theorem dX12_isIdle_149 : decode cX12_isIdle 149 = .ok (.invokevirtual 126, 3) := by decide +kernel
theorem dX12_isIdle_152 : decode cX12_isIdle 152 = .ok (.aload_n 0, 1) := by decide +kernel
theorem dX12_isIdle_153 : decode cX12_isIdle 153 = .ok (.iload_n 1, 1) := by decide +kernel
theorem dX12_isIdle_154 : decode cX12_isIdle 154 = .ok (.iload 4, 2) := by decide +kernel
theorem dX12_isIdle_156 : decode cX12_isIdle 156 = .ok (.invokevirtual 126, 3) := by decide +kernel
theorem dX12_isIdle_159 : decode cX12_isIdle 159 = .ok (.isub, 1) := by decide +kernel
theorem dX12_isIdle_160 : decode cX12_isIdle 160 = .ok (.aload_n 0, 1) := by decide +kernel
theorem dX12_isIdle_161 : decode cX12_isIdle 161 = .ok (.iload_n 1, 1) := by decide +kernel
theorem dX12_isIdle_162 : decode cX12_isIdle 162 = .ok (.iload_n 2, 1) := by decide +kernel
theorem dX12_isIdle_163 : decode cX12_isIdle 163 = .ok (.invokevirtual 122, 3) := by decide +kernel
theorem dX12_isIdle_166 : decode cX12_isIdle 166 = .ok (.aload_n 0, 1) := by decide +kernel
theorem dX12_isIdle_167 : decode cX12_isIdle 167 = .ok (.iload_n 1, 1) := by decide +kernel
theorem dX12_isIdle_168 : decode cX12_isIdle 168 = .ok (.iload 4, 2) := by decide +kernel
theorem dX12_isIdle_170 : decode cX12_isIdle 170 = .ok (.invokevirtual 122, 3) := by decide +kernel
theorem dX12_isIdle_173 : decode cX12_isIdle 173 = .ok (.isub, 1) := by decide +kernel
theorem dX12_isIdle_174 : decode cX12_isIdle 174 = .ok (.imul, 1) := by decide +kernel
theorem dX12_isIdle_175 : decode cX12_isIdle 175 = .ok (.isub, 1) := by decide +kernel
theorem dX12_isIdle_176 : decode cX12_isIdle 176 = .ok (.istore 6, 2) := by decide +kernel
theorem dX12_isIdle_178 : decode cX12_isIdle 178 = .ok (.iload 6, 2) := by decide +kernel
theorem dX12_isIdle_180 : decode cX12_isIdle 180 = .ok (.ifCond .ne 59, 3) := by decide +kernel
theorem dX12_isIdle_183 : decode cX12_isIdle 183 = .ok (.aload_n 0, 1) := by decide +kernel
theorem dX12_isIdle_184 : decode cX12_isIdle 184 = .ok (.iload_n 1, 1) := by decide +kernel
theorem dX12_isIdle_185 : decode cX12_isIdle 185 = .ok (.iload 4, 2) := by decide +kernel
theorem dX12_isIdle_187 : decode cX12_isIdle 187 = .ok (.invokevirtual 122, 3) := by decide +kernel
theorem dX12_isIdle_190 : decode cX12_isIdle 190 = .ok (.aload_n 0, 1) := by decide +kernel
theorem dX12_isIdle_191 : decode cX12_isIdle 191 = .ok (.iload_n 1, 1) := by decide +kernel
theorem dX12_isIdle_192 : decode cX12_isIdle 192 = .ok (.iload_n 2, 1) := by decide +kernel
theorem dX12_isIdle_193 : decode cX12_isIdle 193 = .ok (.invokevirtual 122, 3) := by decide +kernel
theorem dX12_isIdle_196 : decode cX12_isIdle 196 = .ok (.aload_n 0, 1) := by decide +kernel
theorem dX12_isIdle_197 : decode cX12_isIdle 197 = .ok (.iload_n 1, 1) := by decide +kernel
theorem dX12_isIdle_198 : decode cX12_isIdle 198 = .ok (.iload 5, 2) := by decide +kernel
theorem dX12_isIdle_200 : decode cX12_isIdle 200 = .ok (.invokevirtual 122, 3) := by decide +kernel
theorem dX12_isIdle_203 : decode cX12_isIdle 203 = .ok (.invokestatic 129, 3) := by decide +kernel
theorem dX12_isIdle_206 : decode cX12_isIdle 206 = .ok (.ifCond .eq 33, 3) := by decide +kernel
theorem dX12_isIdle_209 : decode cX12_isIdle 209 = .ok (.aload_n 0, 1) := by decide +kernel
theorem dX12_isIdle_210 : decode cX12_isIdle 210 = .ok (.iload_n 1, 1) := by decide +kernel
theorem dX12_isIdle_211 : decode cX12_isIdle 211 = .ok (.iload 4, 2) := by decide +kernel
theorem dX12_isIdle_213 : decode cX12_isIdle 213 = .ok (.invokevirtual 126, 3) := by decide +kernel
theorem dX12_isIdle_216 : decode cX12_isIdle 216 = .ok (.aload_n 0, 1) := by decide +kernel
theorem dX12_isIdle_217 : decode cX12_isIdle 217 = .ok (.iload_n 1, 1) := by decide +kernel
theorem dX12_isIdle_218 : decode cX12_isIdle 218 = .ok (.iload_n 2, 1) := by decide +kernel
theorem dX12_isIdle_219 : decode cX12_isIdle 219 = .ok (.invokevirtual 126, 3) := by decide +kernel
theorem dX12_isIdle_222 : decode cX12_isIdle 222 = .ok (.aload_n 0, 1) := by decide +kernel
theorem dX12_isIdle_223 : decode cX12_isIdle 223 = .ok (.iload_n 1, 1) := by decide +kernel
theorem dX12_isIdle_224 : decode cX12_isIdle 224 = .ok (.iload 5, 2) := by decide +kernel
theorem dX12_isIdle_226 : decode cX12_isIdle 226 = .ok (.invokevirtual 126, 3) := by decide +kernel
theorem dX12_isIdle_229 : decode cX12_isIdle 229 = .ok (.invokestatic 129, 3) := by decide +kernel
theorem dX12_isIdle_232 : decode cX12_isIdle 232 = .ok (.ifCond .eq 7, 3) := by decide +kernel
theorem dX12_isIdle_235 : decode cX12_isIdle 235 = .ok (.iconst 1, 1) := by decide +kernel
theorem dX12_isIdle_236 : decode cX12_isIdle 236 = .ok (.goto 4, 3) := by decide +kernel
theorem dX12_isIdle_239 : decode cX12_isIdle 239 = .ok (.iconst 0, 1) := by decide +kernel
theorem dX12_isIdle_240 : decode cX12_isIdle 240 = .ok (.ireturn, 1) := by decide +kernel
set_option maxRecDepth 20000 in
theorem ggX12_firstIdle_X12_points : GoodIn wsX12_firstIdle wsX12_points := goodIn_r _ [5, 6, 7, 8, 4, 9, 32, 33, 34, 35, 36, 37, 38, 39, 40, 41, 42, 43, 44, 45, 46, 47, 48, 49, 50, 51, 52, 53, 54, 55, 56, 57, 58, 59, 60, 61, 62] (by decide +kernel) (by decide +kernel)
set_option maxRecDepth 20000 in
theorem gX12_firstIdle_X12_points : GoodIn wsX12_firstIdle (wsV RX12 88 RX12 yX12_points wsX12_points) := goodIn_app (goodIn_of _ (by decide +kernel)) ggX12_firstIdle_X12_points
set_option maxRecDepth 20000 in
theorem ggX12_firstIdle_X12_isIdle : GoodIn wsX12_firstIdle wsX12_isIdle := goodIn_r _ [13, 1, 2, 3, 4, 5, 6, 7, 8, 9, 14, 15, 16, 17, 18, 19, 20, 21, 22, 23, 24, 25, 26, 27, 28, 29, 30, 31, 32, 33, 34, 35, 36, 37, 38, 39, 40, 41, 42, 43, 44, 45, 46, 47, 48, 49, 50, 51, 52, 53, 54, 55, 56, 57, 58, 59, 60, 61, 62] (by decide +kernel) (by decide +kernel)
set_option maxRecDepth 20000 in
theorem gX12_firstIdle_X12_isIdle : GoodIn wsX12_firstIdle (wsV RX12 132 RX12 yX12_isIdle wsX12_isIdle) := goodIn_app (goodIn_of _ (by decide +kernel)) ggX12_firstIdle_X12_isIdle
theorem dX12_firstIdle_0 : decode cX12_firstIdle 0 = .ok (.iconst 0, 1) := by decide +kernel
theorem dX12_firstIdle_1 : decode cX12_firstIdle 1 = .ok (.istore_n 2, 1) := by decide +kernel
theorem dX12_firstIdle_2 : decode cX12_firstIdle 2 = .ok (.iload_n 2, 1) := by decide +kernel
theorem dX12_firstIdle_3 : decode cX12_firstIdle 3 = .ok (.aload_n 0, 1) := by decide +kernel
theorem dX12_firstIdle_4 : decode cX12_firstIdle 4 = .ok (.iload_n 1, 1) := by decide +kernel
theorem dX12_firstIdle_5 : decode cX12_firstIdle 5 = .ok (.invokevirtual 88, 3) := by decide +kernel
theorem dX12_firstIdle_8 : decode cX12_firstIdle 8 = .ok (.if_icmp .ge 29, 3) := by decide +kernel
theorem dX12_firstIdle_11 : decode cX12_firstIdle 11 = .ok (.aload_n 0, 1) := by decide +kernel
theorem dX12_firstIdle_12 : decode cX12_firstIdle 12 = .ok (.iload_n 1, 1) := by decide +kernel
theorem dX12_firstIdle_13 : decode cX12_firstIdle 13 = .ok (.invokevirtual 88, 3) := by decide +kernel
theorem dX12_firstIdle_16 : decode cX12_firstIdle 16 = .ok (.iconst 1, 1) := by decide +kernel
theorem dX12_firstIdle_17 : decode cX12_firstIdle 17 = .ok (.if_icmp .le 20, 3) := by decide +kernel
theorem dX12_firstIdle_20 : decode cX12_firstIdle 20 = .ok (.aload_n 0, 1) := by decide +kernel
theorem dX12_firstIdle_21 : decode cX12_firstIdle 21 = .ok (.iload_n 1, 1) := by decide +kernel
theorem dX12_firstIdle_22 : decode cX12_firstIdle 22 = .ok (.iload_n 2, 1) := by decide +kernel
theorem dX12_firstIdle_23 : decode cX12_firstIdle 23 = .ok (.invokevirtual 132, 3) := by decide +kernel
theorem dX12_firstIdle_26 : decode cX12_firstIdle 26 = .ok (.ifCond .eq 5, 3) := by decide +kernel
theorem dX12_firstIdle_29 : decode cX12_firstIdle 29 = .ok (.iload_n 2, 1) := by decide +kernel
theorem dX12_firstIdle_30 : decode cX12_firstIdle 30 = .ok (.ireturn, 1) := by decide +kernel
theorem dX12_firstIdle_31 : decode cX12_firstIdle 31 = .ok (.iinc 2 1, 3) := by decide +kernel
theorem dX12_firstIdle_34 : decode cX12_firstIdle 34 = .ok (.goto (-32), 3) := by decide +kernel
theorem dX12_firstIdle_37 : decode cX12_firstIdle 37 = .ok (.iconst (-1), 1) := by decide +kernel
theorem dX12_firstIdle_38 : decode cX12_firstIdle 38 = .ok (.ireturn, 1) := by decide +kernel
set_option maxRecDepth 20000 in
theorem ggX12_simplify_X12_isSubpath : GoodIn wsX12_simplify wsX12_isSubpath := goodIn_r _ [6, 1, 7, 8, 5, 9, 55, 56, 57, 58, 59, 60, 61, 62, 63, 64, 65, 66, 67, 68, 69, 70, 71, 72, 73, 74, 75, 76, 77, 78, 79, 80, 81, 82, 83, 84, 85] (by decide +kernel) (by decide +kernel)
set_option maxRecDepth 20000 in
theorem gX12_simplify_X12_isSubpath : GoodIn wsX12_simplify (wsV RX12 119 RX12 yX12_isSubpath wsX12_isSubpath) := goodIn_app (goodIn_of _ (by decide +kernel)) ggX12_simplify_X12_isSubpath
set_option maxRecDepth 20000 in
theorem ggX12_simplify_X12_refused : GoodIn wsX12_simplify wsX12_refused := goodIn_r _ [13, 14, 55, 56, 57, 58, 59, 60, 61, 62, 63, 64, 65, 66, 67, 68, 69, 70, 71, 72, 73, 74, 75, 76, 77, 78, 79, 80, 81, 82, 83, 84, 85] (by decide +kernel) (by decide +kernel)
set_option maxRecDepth 20000 in
theorem gX12_simplify_X12_refused : GoodIn wsX12_simplify (wsV RX12 76 RX12 yX12_refused wsX12_refused) := goodIn_app (goodIn_of _ (by decide +kernel)) ggX12_simplify_X12_refused
set_option maxRecDepth 20000 in
theorem ggX12_simplify_X12_saves : GoodIn wsX12_simplify wsX12_saves := goodIn_r _ [18, 19, 20, 1, 55, 56, 57, 58, 59, 60, 61, 62, 63, 64, 65, 66, 67, 68, 69, 70, 71, 72, 73, 74, 75, 76, 77, 78, 79, 80, 81, 82, 83, 84, 85] (by decide +kernel) (by decide +kernel)
set_option maxRecDepth 20000 in
theorem gX12_simplify_X12_saves : GoodIn wsX12_simplify (wsV RX12 95 RX12 yX12_saves wsX12_saves) := goodIn_app (goodIn_of _ (by decide +kernel)) ggX12_simplify_X12_saves
set_option maxRecDepth 20000 in
theorem ggX12_simplify_X12_firstIdle : GoodIn wsX12_simplify wsX12_firstIdle := goodIn_r _ [24, 25, 26, 27, 5, 28, 1, 29, 30, 31, 32, 33, 34, 35, 36, 37, 38, 39, 40, 41, 42, 43, 44, 45, 46, 47, 48, 49, 50, 7, 8, 9, 55, 56, 57, 58, 59, 60, 61, 62, 63, 64, 65, 66, 67, 68, 69, 70, 71, 72, 73, 74, 75, 76, 77, 78, 79, 80, 81, 82, 83, 84, 85] (by decide +kernel) (by decide +kernel)
set_option maxRecDepth 20000 in
theorem gX12_simplify_X12_firstIdle : GoodIn wsX12_simplify (wsV RX12 135 RX12 yX12_firstIdle wsX12_firstIdle) := goodIn_app (goodIn_of _ (by decide +kernel)) ggX12_simplify_X12_firstIdle
set_option maxRecDepth 20000 in
theorem ggX12_simplify_X12_at : GoodIn wsX12_simplify wsX12_at := goodIn_r _ [31] (by decide +kernel) (by decide +kernel)
set_option maxRecDepth 20000 in
theorem gX12_simplify_X12_at : GoodIn wsX12_simplify (va_wsS RX12 80 yX12_at wsX12_at) := goodIn_app (goodIn_of _ (by decide +kernel)) ggX12_simplify_X12_at
set_option maxRecDepth 20000 in
theorem ggX12_simplify_X12_points : GoodIn wsX12_simplify wsX12_points := goodIn_r _ [28, 1, 29, 30, 5, 31, 55, 56, 57, 58, 59, 60, 61, 62, 63, 64, 65, 66, 67, 68, 69, 70, 71, 72, 73, 74, 75, 76, 77, 78, 79, 80, 81, 82, 83, 84, 85] (by decide +kernel) (by decide +kernel)
set_option maxRecDepth 20000 in
theorem gX12_simplify_X12_points : GoodIn wsX12_simplify (wsV RX12 88 RX12 yX12_points wsX12_points) := goodIn_app (goodIn_of _ (by decide +kernel)) ggX12_simplify_X12_points
set_option maxRecDepth 20000 in
theorem ggX12_simplify_X12_x : GoodIn wsX12_simplify wsX12_x := goodIn_r _ [43, 1, 29, 30, 5, 31, 55, 56, 57, 58, 59, 60, 61, 62, 63, 64, 65, 66, 67, 68, 69, 70, 71, 72, 73, 74, 75, 76, 77, 78, 79, 80, 81, 82, 83, 84, 85] (by decide +kernel) (by decide +kernel)
set_option maxRecDepth 20000 in
theorem gX12_simplify_X12_x : GoodIn wsX12_simplify (wsV RX12 122 RX12 yX12_x wsX12_x) := goodIn_app (goodIn_of _ (by decide +kernel)) ggX12_simplify_X12_x
set_option maxRecDepth 20000 in
theorem ggX12_simplify_X12_y : GoodIn wsX12_simplify wsX12_y := goodIn_r _ [47, 1, 29, 30, 5, 31, 55, 56, 57, 58, 59, 60, 61, 62, 63, 64, 65, 66, 67, 68, 69, 70, 71, 72, 73, 74, 75, 76, 77, 78, 79, 80, 81, 82, 83, 84, 85] (by decide +kernel) (by decide +kernel)
set_option maxRecDepth 20000 in
theorem gX12_simplify_X12_y : GoodIn wsX12_simplify (wsV RX12 126 RX12 yX12_y wsX12_y) := goodIn_app (goodIn_of _ (by decide +kernel)) ggX12_simplify_X12_y
set_option maxRecDepth 20000 in
theorem ggX12_simplify_X12_puts : GoodIn wsX12_simplify wsX12_puts := goodIn_r _ [54, 1, 29, 30, 5, 31, 55, 56, 57, 58, 59, 60, 61, 62, 63, 64, 65, 66, 67, 68, 69, 70, 71, 72, 73, 74, 75, 76, 77, 78, 79, 80, 81, 82, 83, 84, 85] (by decide +kernel) (by decide +kernel)
set_option maxRecDepth 20000 in
theorem gX12_simplify_X12_puts : GoodIn wsX12_simplify (wsV RX12 84 RX12 yX12_puts wsX12_puts) := goodIn_app (goodIn_of _ (by decide +kernel)) ggX12_simplify_X12_puts
theorem dX12_simplify_0 : decode cX12_simplify 0 = .ok (.aload_n 0, 1) := by decide +kernel
theorem dX12_simplify_1 : decode cX12_simplify 1 = .ok (.aload_n 0, 1) := by decide +kernel
theorem dX12_simplify_2 : decode cX12_simplify 2 = .ok (.iload_n 1, 1) := by decide +kernel
theorem dX12_simplify_3 : decode cX12_simplify 3 = .ok (.invokevirtual 119, 3) := by decide +kernel
theorem dX12_simplify_6 : decode cX12_simplify 6 = .ok (.ifCond .eq 7, 3) := by decide +kernel
theorem dX12_simplify_9 : decode cX12_simplify 9 = .ok (.iconst 0, 1) := by decide +kernel
theorem dX12_simplify_10 : decode cX12_simplify 10 = .ok (.goto 4, 3) := by decide +kernel
theorem dX12_simplify_13 : decode cX12_simplify 13 = .ok (.iconst 1, 1) := by decide +kernel
theorem dX12_simplify_14 : decode cX12_simplify 14 = .ok (.invokevirtual 76, 3) := by decide +kernel
theorem dX12_simplify_17 : decode cX12_simplify 17 = .ok (.ifCond .eq 5, 3) := by decide +kernel
theorem dX12_simplify_20 : decode cX12_simplify 20 = .ok (.iconst 0, 1) := by decide +kernel
theorem dX12_simplify_21 : decode cX12_simplify 21 = .ok (.ireturn, 1) := by decide +kernel
theorem dX12_simplify_22 : decode cX12_simplify 22 = .ok (.aload_n 0, 1) := by decide +kernel
theorem dX12_simplify_23 : decode cX12_simplify 23 = .ok (.invokevirtual 95, 3) := by decide +kernel
theorem dX12_simplify_26 : decode cX12_simplify 26 = .ok (.iconst 0, 1) := by decide +kernel
theorem dX12_simplify_27 : decode cX12_simplify 27 = .ok (.istore_n 2, 1) := by decide +kernel
theorem dX12_simplify_28 : decode cX12_simplify 28 = .ok (.aload_n 0, 1) := by decide +kernel
theorem dX12_simplify_29 : decode cX12_simplify 29 = .ok (.iload_n 1, 1) := by decide +kernel
theorem dX12_simplify_30 : decode cX12_simplify 30 = .ok (.invokevirtual 135, 3) := by decide +kernel
theorem dX12_simplify_33 : decode cX12_simplify 33 = .ok (.istore_n 3, 1) := by decide +kernel
theorem dX12_simplify_34 : decode cX12_simplify 34 = .ok (.iload_n 3, 1) := by decide +kernel
theorem dX12_simplify_35 : decode cX12_simplify 35 = .ok (.iconst (-1), 1) := by decide +kernel
theorem dX12_simplify_36 : decode cX12_simplify 36 = .ok (.if_icmp .eq 72, 3) := by decide +kernel
theorem dX12_simplify_39 : decode cX12_simplify 39 = .ok (.aload_n 0, 1) := by decide +kernel
theorem dX12_simplify_40 : decode cX12_simplify 40 = .ok (.getfield 7, 3) := by decide +kernel
theorem dX12_simplify_43 : decode cX12_simplify 43 = .ok (.iload_n 1, 1) := by decide +kernel
theorem dX12_simplify_44 : decode cX12_simplify 44 = .ok (.invokestatic 80, 3) := by decide +kernel
theorem dX12_simplify_47 : decode cX12_simplify 47 = .ok (.dup2, 1) := by decide +kernel
theorem dX12_simplify_48 : decode cX12_simplify 48 = .ok (.iaload, 1) := by decide +kernel
theorem dX12_simplify_49 : decode cX12_simplify 49 = .ok (.iconst 1, 1) := by decide +kernel
theorem dX12_simplify_50 : decode cX12_simplify 50 = .ok (.isub, 1) := by decide +kernel
theorem dX12_simplify_51 : decode cX12_simplify 51 = .ok (.iastore, 1) := by decide +kernel
theorem dX12_simplify_52 : decode cX12_simplify 52 = .ok (.iload_n 3, 1) := by decide +kernel
theorem dX12_simplify_53 : decode cX12_simplify 53 = .ok (.istore 4, 2) := by decide +kernel
theorem dX12_simplify_55 : decode cX12_simplify 55 = .ok (.iload 4, 2) := by decide +kernel
theorem dX12_simplify_57 : decode cX12_simplify 57 = .ok (.aload_n 0, 1) := by decide +kernel
theorem dX12_simplify_58 : decode cX12_simplify 58 = .ok (.iload_n 1, 1) := by decide +kernel
theorem dX12_simplify_59 : decode cX12_simplify 59 = .ok (.invokevirtual 88, 3) := by decide +kernel
theorem dX12_simplify_62 : decode cX12_simplify 62 = .ok (.if_icmp .ge 34, 3) := by decide +kernel
theorem dX12_simplify_65 : decode cX12_simplify 65 = .ok (.aload_n 0, 1) := by decide +kernel
theorem dX12_simplify_66 : decode cX12_simplify 66 = .ok (.iload_n 1, 1) := by decide +kernel
theorem dX12_simplify_67 : decode cX12_simplify 67 = .ok (.iload 4, 2) := by decide +kernel
theorem dX12_simplify_69 : decode cX12_simplify 69 = .ok (.aload_n 0, 1) := by decide +kernel
theorem dX12_simplify_70 : decode cX12_simplify 70 = .ok (.iload_n 1, 1) := by decide +kernel
theorem dX12_simplify_71 : decode cX12_simplify 71 = .ok (.iload 4, 2) := by decide +kernel
theorem dX12_simplify_73 : decode cX12_simplify 73 = .ok (.iconst 1, 1) := by decide +kernel
theorem dX12_simplify_74 : decode cX12_simplify 74 = .ok (.iadd, 1) := by decide +kernel
theorem dX12_simplify_75 : decode cX12_simplify 75 = .ok (.invokevirtual 122, 3) := by decide +kernel
theorem dX12_simplify_78 : decode cX12_simplify 78 = .ok (.aload_n 0, 1) := by decide +kernel
theorem dX12_simplify_79 : decode cX12_simplify 79 = .ok (.iload_n 1, 1) := by decide +kernel
theorem dX12_simplify_80 : decode cX12_simplify 80 = .ok (.iload 4, 2) := by decide +kernel
theorem dX12_simplify_82 : decode cX12_simplify 82 = .ok (.iconst 1, 1) := by decide +kernel
theorem dX12_simplify_83 : decode cX12_simplify 83 = .ok (.iadd, 1) := by decide +kernel
theorem dX12_simplify_84 : decode cX12_simplify 84 = .ok (.invokevirtual 126, 3) := by decide +kernel
theorem dX12_simplify_87 : decode cX12_simplify 87 = .ok (.invokevirtual 84, 3) := by decide +kernel
theorem dX12_simplify_90 : decode cX12_simplify 90 = .ok (.iinc 4 1, 3) := by decide +kernel
theorem dX12_simplify_93 : decode cX12_simplify 93 = .ok (.goto (-38), 3) := by decide +kernel
theorem dX12_simplify_96 : decode cX12_simplify 96 = .ok (.iinc 2 1, 3) := by decide +kernel
theorem dX12_simplify_99 : decode cX12_simplify 99 = .ok (.aload_n 0, 1) := by decide +kernel
theorem dX12_simplify_100 : decode cX12_simplify 100 = .ok (.iload_n 1, 1) := by decide +kernel
theorem dX12_simplify_101 : decode cX12_simplify 101 = .ok (.invokevirtual 135, 3) := by decide +kernel
theorem dX12_simplify_104 : decode cX12_simplify 104 = .ok (.istore_n 3, 1) := by decide +kernel
theorem dX12_simplify_105 : decode cX12_simplify 105 = .ok (.goto (-71), 3) := by decide +kernel
theorem dX12_simplify_108 : decode cX12_simplify 108 = .ok (.iload_n 2, 1) := by decide +kernel
theorem dX12_simplify_109 : decode cX12_simplify 109 = .ok (.ireturn, 1) := by decide +kernel
theorem dX12_turned_0 : decode cX12_turned 0 = .ok (.iload_n 2, 1) := by decide +kernel
theorem dX12_turned_1 : decode cX12_turned 1 = .ok (.ifCond .ne 7, 3) := by decide +kernel
theorem dX12_turned_4 : decode cX12_turned 4 = .ok (.iload_n 0, 1) := by decide +kernel
theorem dX12_turned_5 : decode cX12_turned 5 = .ok (.goto 24, 3) := by decide +kernel
theorem dX12_turned_8 : decode cX12_turned 8 = .ok (.iload_n 2, 1) := by decide +kernel
theorem dX12_turned_9 : decode cX12_turned 9 = .ok (.iconst 1, 1) := by decide +kernel
theorem dX12_turned_10 : decode cX12_turned 10 = .ok (.if_icmp .ne 8, 3) := by decide +kernel
theorem dX12_turned_13 : decode cX12_turned 13 = .ok (.iload_n 1, 1) := by decide +kernel
theorem dX12_turned_14 : decode cX12_turned 14 = .ok (.ineg, 1) := by decide +kernel
theorem dX12_turned_15 : decode cX12_turned 15 = .ok (.goto 14, 3) := by decide +kernel
theorem dX12_turned_18 : decode cX12_turned 18 = .ok (.iload_n 2, 1) := by decide +kernel
theorem dX12_turned_19 : decode cX12_turned 19 = .ok (.iconst 2, 1) := by decide +kernel
theorem dX12_turned_20 : decode cX12_turned 20 = .ok (.if_icmp .ne 8, 3) := by decide +kernel
theorem dX12_turned_23 : decode cX12_turned 23 = .ok (.iload_n 0, 1) := by decide +kernel
theorem dX12_turned_24 : decode cX12_turned 24 = .ok (.ineg, 1) := by decide +kernel
theorem dX12_turned_25 : decode cX12_turned 25 = .ok (.goto 4, 3) := by decide +kernel
theorem dX12_turned_28 : decode cX12_turned 28 = .ok (.iload_n 1, 1) := by decide +kernel
theorem dX12_turned_29 : decode cX12_turned 29 = .ok (.ireturn, 1) := by decide +kernel
set_option maxRecDepth 20000 in
theorem ggX12_transform_X12_within : GoodIn wsX12_transform wsX12_within := goodIn_r _ [5] (by decide +kernel) (by decide +kernel)
set_option maxRecDepth 20000 in
theorem gX12_transform_X12_within : GoodIn wsX12_transform (va_wsS RX12 65 yX12_within wsX12_within) := goodIn_app (goodIn_of _ (by decide +kernel)) ggX12_transform_X12_within
set_option maxRecDepth 20000 in
theorem ggX12_transform_X12_refused : GoodIn wsX12_transform wsX12_refused := goodIn_r _ [9, 10, 42, 43, 44, 45, 46, 47, 48, 49, 50, 51, 52, 53, 54, 55, 56, 57, 58, 59, 60, 61, 62, 63, 64, 65, 66, 67, 68, 69, 70, 71, 72] (by decide +kernel) (by decide +kernel)
set_option maxRecDepth 20000 in
theorem gX12_transform_X12_refused : GoodIn wsX12_transform (wsV RX12 76 RX12 yX12_refused wsX12_refused) := goodIn_app (goodIn_of _ (by decide +kernel)) ggX12_transform_X12_refused
set_option maxRecDepth 20000 in
theorem ggX12_transform_X12_points : GoodIn wsX12_transform wsX12_points := goodIn_r _ [14, 1, 15, 16, 4, 17, 42, 43, 44, 45, 46, 47, 48, 49, 50, 51, 52, 53, 54, 55, 56, 57, 58, 59, 60, 61, 62, 63, 64, 65, 66, 67, 68, 69, 70, 71, 72] (by decide +kernel) (by decide +kernel)
set_option maxRecDepth 20000 in
theorem gX12_transform_X12_points : GoodIn wsX12_transform (wsV RX12 88 RX12 yX12_points wsX12_points) := goodIn_app (goodIn_of _ (by decide +kernel)) ggX12_transform_X12_points
set_option maxRecDepth 20000 in
theorem ggX12_transform_X12_x : GoodIn wsX12_transform wsX12_x := goodIn_r _ [21, 1, 15, 16, 4, 17, 42, 43, 44, 45, 46, 47, 48, 49, 50, 51, 52, 53, 54, 55, 56, 57, 58, 59, 60, 61, 62, 63, 64, 65, 66, 67, 68, 69, 70, 71, 72] (by decide +kernel) (by decide +kernel)
set_option maxRecDepth 20000 in
theorem gX12_transform_X12_x : GoodIn wsX12_transform (wsV RX12 122 RX12 yX12_x wsX12_x) := goodIn_app (goodIn_of _ (by decide +kernel)) ggX12_transform_X12_x
set_option maxRecDepth 20000 in
theorem ggX12_transform_X12_y : GoodIn wsX12_transform wsX12_y := goodIn_r _ [25, 1, 15, 16, 4, 17, 42, 43, 44, 45, 46, 47, 48, 49, 50, 51, 52, 53, 54, 55, 56, 57, 58, 59, 60, 61, 62, 63, 64, 65, 66, 67, 68, 69, 70, 71, 72] (by decide +kernel) (by decide +kernel)
set_option maxRecDepth 20000 in
theorem gX12_transform_X12_y : GoodIn wsX12_transform (wsV RX12 126 RX12 yX12_y wsX12_y) := goodIn_app (goodIn_of _ (by decide +kernel)) ggX12_transform_X12_y
set_option maxRecDepth 20000 in
theorem ggX12_transform_X12_turned : GoodIn wsX12_transform wsX12_turned := goodIn_r _ [28] (by decide +kernel) (by decide +kernel)
set_option maxRecDepth 20000 in
theorem gX12_transform_X12_turned : GoodIn wsX12_transform (va_wsS RX12 138 yX12_turned wsX12_turned) := goodIn_app (goodIn_of _ (by decide +kernel)) ggX12_transform_X12_turned
set_option maxRecDepth 20000 in
theorem ggX12_transform_X12_isPlace : GoodIn wsX12_transform wsX12_isPlace := goodIn_r _ [31, 2, 3, 4, 5] (by decide +kernel) (by decide +kernel)
set_option maxRecDepth 20000 in
theorem gX12_transform_X12_isPlace : GoodIn wsX12_transform (va_wsS RX12 91 yX12_isPlace wsX12_isPlace) := goodIn_app (goodIn_of _ (by decide +kernel)) ggX12_transform_X12_isPlace
set_option maxRecDepth 20000 in
theorem ggX12_transform_X12_saves : GoodIn wsX12_transform wsX12_saves := goodIn_r _ [35, 36, 37, 1, 42, 43, 44, 45, 46, 47, 48, 49, 50, 51, 52, 53, 54, 55, 56, 57, 58, 59, 60, 61, 62, 63, 64, 65, 66, 67, 68, 69, 70, 71, 72] (by decide +kernel) (by decide +kernel)
set_option maxRecDepth 20000 in
theorem gX12_transform_X12_saves : GoodIn wsX12_transform (wsV RX12 95 RX12 yX12_saves wsX12_saves) := goodIn_app (goodIn_of _ (by decide +kernel)) ggX12_transform_X12_saves
set_option maxRecDepth 20000 in
theorem ggX12_transform_X12_puts : GoodIn wsX12_transform wsX12_puts := goodIn_r _ [41, 1, 15, 16, 4, 17, 42, 43, 44, 45, 46, 47, 48, 49, 50, 51, 52, 53, 54, 55, 56, 57, 58, 59, 60, 61, 62, 63, 64, 65, 66, 67, 68, 69, 70, 71, 72] (by decide +kernel) (by decide +kernel)
set_option maxRecDepth 20000 in
theorem gX12_transform_X12_puts : GoodIn wsX12_transform (wsV RX12 84 RX12 yX12_puts wsX12_puts) := goodIn_app (goodIn_of _ (by decide +kernel)) ggX12_transform_X12_puts
theorem dX12_transform_0 : decode cX12_transform 0 = .ok (.aload_n 0, 1) := by decide +kernel
theorem dX12_transform_1 : decode cX12_transform 1 = .ok (.iload_n 1, 1) := by decide +kernel
theorem dX12_transform_2 : decode cX12_transform 2 = .ok (.iconst 0, 1) := by decide +kernel
theorem dX12_transform_3 : decode cX12_transform 3 = .ok (.iconst 3, 1) := by decide +kernel
theorem dX12_transform_4 : decode cX12_transform 4 = .ok (.invokestatic 65, 3) := by decide +kernel
theorem dX12_transform_7 : decode cX12_transform 7 = .ok (.ifCond .eq 33, 3) := by decide +kernel
theorem dX12_transform_10 : decode cX12_transform 10 = .ok (.iload_n 2, 1) := by decide +kernel
theorem dX12_transform_11 : decode cX12_transform 11 = .ok (.sipush (-200), 3) := by decide +kernel
theorem dX12_transform_14 : decode cX12_transform 14 = .ok (.sipush 200, 3) := by decide +kernel
theorem dX12_transform_17 : decode cX12_transform 17 = .ok (.invokestatic 65, 3) := by decide +kernel
theorem dX12_transform_20 : decode cX12_transform 20 = .ok (.ifCond .eq 20, 3) := by decide +kernel
theorem dX12_transform_23 : decode cX12_transform 23 = .ok (.iload_n 3, 1) := by decide +kernel
theorem dX12_transform_24 : decode cX12_transform 24 = .ok (.sipush (-200), 3) := by decide +kernel
theorem dX12_transform_27 : decode cX12_transform 27 = .ok (.sipush 200, 3) := by decide +kernel
theorem dX12_transform_30 : decode cX12_transform 30 = .ok (.invokestatic 65, 3) := by decide +kernel
theorem dX12_transform_33 : decode cX12_transform 33 = .ok (.ifCond .eq 7, 3) := by decide +kernel
theorem dX12_transform_36 : decode cX12_transform 36 = .ok (.iconst 0, 1) := by decide +kernel
theorem dX12_transform_37 : decode cX12_transform 37 = .ok (.goto 4, 3) := by decide +kernel
theorem dX12_transform_40 : decode cX12_transform 40 = .ok (.iconst 1, 1) := by decide +kernel
theorem dX12_transform_41 : decode cX12_transform 41 = .ok (.invokevirtual 76, 3) := by decide +kernel
theorem dX12_transform_44 : decode cX12_transform 44 = .ok (.ifCond .eq 5, 3) := by decide +kernel
theorem dX12_transform_47 : decode cX12_transform 47 = .ok (.iconst 0, 1) := by decide +kernel
theorem dX12_transform_48 : decode cX12_transform 48 = .ok (.ireturn, 1) := by decide +kernel
theorem dX12_transform_49 : decode cX12_transform 49 = .ok (.iconst 1, 1) := by decide +kernel
theorem dX12_transform_50 : decode cX12_transform 50 = .ok (.istore 4, 2) := by decide +kernel
theorem dX12_transform_52 : decode cX12_transform 52 = .ok (.iconst 0, 1) := by decide +kernel
theorem dX12_transform_53 : decode cX12_transform 53 = .ok (.istore 5, 2) := by decide +kernel
theorem dX12_transform_55 : decode cX12_transform 55 = .ok (.iconst 0, 1) := by decide +kernel
theorem dX12_transform_56 : decode cX12_transform 56 = .ok (.istore 6, 2) := by decide +kernel
theorem dX12_transform_58 : decode cX12_transform 58 = .ok (.iload 6, 2) := by decide +kernel
theorem dX12_transform_60 : decode cX12_transform 60 = .ok (.aload_n 0, 1) := by decide +kernel
theorem dX12_transform_61 : decode cX12_transform 61 = .ok (.getfield 7, 3) := by decide +kernel
theorem dX12_transform_64 : decode cX12_transform 64 = .ok (.bipush 13, 2) := by decide +kernel
theorem dX12_transform_66 : decode cX12_transform 66 = .ok (.iaload, 1) := by decide +kernel
theorem dX12_transform_67 : decode cX12_transform 67 = .ok (.if_icmp .ge 95, 3) := by decide +kernel
theorem dX12_transform_70 : decode cX12_transform 70 = .ok (.iconst 0, 1) := by decide +kernel
theorem dX12_transform_71 : decode cX12_transform 71 = .ok (.istore 7, 2) := by decide +kernel
theorem dX12_transform_73 : decode cX12_transform 73 = .ok (.iload 7, 2) := by decide +kernel
theorem dX12_transform_75 : decode cX12_transform 75 = .ok (.aload_n 0, 1) := by decide +kernel
theorem dX12_transform_76 : decode cX12_transform 76 = .ok (.iload 6, 2) := by decide +kernel
theorem dX12_transform_78 : decode cX12_transform 78 = .ok (.invokevirtual 88, 3) := by decide +kernel
theorem dX12_transform_81 : decode cX12_transform 81 = .ok (.if_icmp .ge 75, 3) := by decide +kernel
theorem dX12_transform_84 : decode cX12_transform 84 = .ok (.iload 4, 2) := by decide +kernel
theorem dX12_transform_86 : decode cX12_transform 86 = .ok (.ifCond .eq 58, 3) := by decide +kernel
theorem dX12_transform_89 : decode cX12_transform 89 = .ok (.aload_n 0, 1) := by decide +kernel
theorem dX12_transform_90 : decode cX12_transform 90 = .ok (.iload 6, 2) := by decide +kernel
theorem dX12_transform_92 : decode cX12_transform 92 = .ok (.iload 7, 2) := by decide +kernel
theorem dX12_transform_94 : decode cX12_transform 94 = .ok (.invokevirtual 122, 3) := by decide +kernel
theorem dX12_transform_97 : decode cX12_transform 97 = .ok (.aload_n 0, 1) := by decide +kernel
theorem dX12_transform_98 : decode cX12_transform 98 = .ok (.iload 6, 2) := by decide +kernel
theorem dX12_transform_100 : decode cX12_transform 100 = .ok (.iload 7, 2) := by decide +kernel
theorem dX12_transform_102 : decode cX12_transform 102 = .ok (.invokevirtual 126, 3) := by decide +kernel
theorem dX12_transform_105 : decode cX12_transform 105 = .ok (.iload_n 1, 1) := by decide +kernel
theorem dX12_transform_106 : decode cX12_transform 106 = .ok (.invokestatic 138, 3) := by decide +kernel
theorem dX12_transform_109 : decode cX12_transform 109 = .ok (.iload_n 2, 1) := by decide +kernel
theorem dX12_transform_110 : decode cX12_transform 110 = .ok (.iadd, 1) := by decide +kernel
theorem dX12_transform_111 : decode cX12_transform 111 = .ok (.aload_n 0, 1) := by decide +kernel
theorem dX12_transform_112 : decode cX12_transform 112 = .ok (.iload 6, 2) := by decide +kernel
theorem dX12_transform_114 : decode cX12_transform 114 = .ok (.iload 7, 2) := by decide +kernel
theorem dX12_transform_116 : decode cX12_transform 116 = .ok (.invokevirtual 126, 3) := by decide +kernel
theorem dX12_transform_119 : decode cX12_transform 119 = .ok (.aload_n 0, 1) := by decide +kernel
theorem dX12_transform_120 : decode cX12_transform 120 = .ok (.iload 6, 2) := by decide +kernel
theorem dX12_transform_122 : decode cX12_transform 122 = .ok (.iload 7, 2) := by decide +kernel
theorem dX12_transform_124 : decode cX12_transform 124 = .ok (.invokevirtual 122, 3) := by decide +kernel
theorem dX12_transform_127 : decode cX12_transform 127 = .ok (.ineg, 1) := by decide +kernel
theorem dX12_transform_128 : decode cX12_transform 128 = .ok (.iload_n 1, 1) := by decide +kernel
theorem dX12_transform_129 : decode cX12_transform 129 = .ok (.invokestatic 138, 3) := by decide +kernel
theorem dX12_transform_132 : decode cX12_transform 132 = .ok (.iload_n 3, 1) := by decide +kernel
theorem dX12_transform_133 : decode cX12_transform 133 = .ok (.iadd, 1) := by decide +kernel
theorem dX12_transform_134 : decode cX12_transform 134 = .ok (.invokestatic 91, 3) := by decide +kernel
theorem dX12_transform_137 : decode cX12_transform 137 = .ok (.ifCond .eq 7, 3) := by decide +kernel
theorem dX12_transform_140 : decode cX12_transform 140 = .ok (.iconst 1, 1) := by decide +kernel
theorem dX12_transform_141 : decode cX12_transform 141 = .ok (.goto 4, 3) := by decide +kernel
theorem dX12_transform_144 : decode cX12_transform 144 = .ok (.iconst 0, 1) := by decide +kernel
theorem dX12_transform_145 : decode cX12_transform 145 = .ok (.istore 4, 2) := by decide +kernel
theorem dX12_transform_147 : decode cX12_transform 147 = .ok (.iinc 5 1, 3) := by decide +kernel
theorem dX12_transform_150 : decode cX12_transform 150 = .ok (.iinc 7 1, 3) := by decide +kernel
theorem dX12_transform_153 : decode cX12_transform 153 = .ok (.goto (-80), 3) := by decide +kernel
theorem dX12_transform_156 : decode cX12_transform 156 = .ok (.iinc 6 1, 3) := by decide +kernel
theorem dX12_transform_159 : decode cX12_transform 159 = .ok (.goto (-101), 3) := by decide +kernel
theorem dX12_transform_162 : decode cX12_transform 162 = .ok (.aload_n 0, 1) := by decide +kernel
theorem dX12_transform_163 : decode cX12_transform 163 = .ok (.iload 4, 2) := by decide +kernel
theorem dX12_transform_165 : decode cX12_transform 165 = .ok (.ifCond .eq 7, 3) := by decide +kernel
theorem dX12_transform_168 : decode cX12_transform 168 = .ok (.iconst 0, 1) := by decide +kernel
theorem dX12_transform_169 : decode cX12_transform 169 = .ok (.goto 4, 3) := by decide +kernel
theorem dX12_transform_172 : decode cX12_transform 172 = .ok (.iconst 2, 1) := by decide +kernel
theorem dX12_transform_173 : decode cX12_transform 173 = .ok (.invokevirtual 76, 3) := by decide +kernel
theorem dX12_transform_176 : decode cX12_transform 176 = .ok (.ifCond .eq 5, 3) := by decide +kernel
theorem dX12_transform_179 : decode cX12_transform 179 = .ok (.iconst 0, 1) := by decide +kernel
theorem dX12_transform_180 : decode cX12_transform 180 = .ok (.ireturn, 1) := by decide +kernel
theorem dX12_transform_181 : decode cX12_transform 181 = .ok (.aload_n 0, 1) := by decide +kernel
theorem dX12_transform_182 : decode cX12_transform 182 = .ok (.invokevirtual 95, 3) := by decide +kernel
theorem dX12_transform_185 : decode cX12_transform 185 = .ok (.iconst 0, 1) := by decide +kernel
theorem dX12_transform_186 : decode cX12_transform 186 = .ok (.istore 6, 2) := by decide +kernel
theorem dX12_transform_188 : decode cX12_transform 188 = .ok (.iload 6, 2) := by decide +kernel
theorem dX12_transform_190 : decode cX12_transform 190 = .ok (.aload_n 0, 1) := by decide +kernel
theorem dX12_transform_191 : decode cX12_transform 191 = .ok (.getfield 7, 3) := by decide +kernel
theorem dX12_transform_194 : decode cX12_transform 194 = .ok (.bipush 13, 2) := by decide +kernel
theorem dX12_transform_196 : decode cX12_transform 196 = .ok (.iaload, 1) := by decide +kernel
theorem dX12_transform_197 : decode cX12_transform 197 = .ok (.if_icmp .ge 82, 3) := by decide +kernel
theorem dX12_transform_200 : decode cX12_transform 200 = .ok (.iconst 0, 1) := by decide +kernel
theorem dX12_transform_201 : decode cX12_transform 201 = .ok (.istore 7, 2) := by decide +kernel
theorem dX12_transform_203 : decode cX12_transform 203 = .ok (.iload 7, 2) := by decide +kernel
theorem dX12_transform_205 : decode cX12_transform 205 = .ok (.aload_n 0, 1) := by decide +kernel
theorem dX12_transform_206 : decode cX12_transform 206 = .ok (.iload 6, 2) := by decide +kernel
theorem dX12_transform_208 : decode cX12_transform 208 = .ok (.invokevirtual 88, 3) := by decide +kernel
theorem dX12_transform_211 : decode cX12_transform 211 = .ok (.if_icmp .ge 62, 3) := by decide +kernel
theorem dX12_transform_214 : decode cX12_transform 214 = .ok (.aload_n 0, 1) := by decide +kernel
theorem dX12_transform_215 : decode cX12_transform 215 = .ok (.iload 6, 2) := by decide +kernel
theorem dX12_transform_217 : decode cX12_transform 217 = .ok (.iload 7, 2) := by decide +kernel
theorem dX12_transform_219 : decode cX12_transform 219 = .ok (.aload_n 0, 1) := by decide +kernel
theorem dX12_transform_220 : decode cX12_transform 220 = .ok (.iload 6, 2) := by decide +kernel
theorem dX12_transform_222 : decode cX12_transform 222 = .ok (.iload 7, 2) := by decide +kernel
theorem dX12_transform_224 : decode cX12_transform 224 = .ok (.invokevirtual 122, 3) := by decide +kernel
theorem dX12_transform_227 : decode cX12_transform 227 = .ok (.aload_n 0, 1) := by decide +kernel
theorem dX12_transform_228 : decode cX12_transform 228 = .ok (.iload 6, 2) := by decide +kernel
theorem dX12_transform_230 : decode cX12_transform 230 = .ok (.iload 7, 2) := by decide +kernel
theorem dX12_transform_232 : decode cX12_transform 232 = .ok (.invokevirtual 126, 3) := by decide +kernel
theorem dX12_transform_235 : decode cX12_transform 235 = .ok (.iload_n 1, 1) := by decide +kernel
theorem dX12_transform_236 : decode cX12_transform 236 = .ok (.invokestatic 138, 3) := by decide +kernel
theorem dX12_transform_239 : decode cX12_transform 239 = .ok (.iload_n 2, 1) := by decide +kernel
theorem dX12_transform_240 : decode cX12_transform 240 = .ok (.iadd, 1) := by decide +kernel
theorem dX12_transform_241 : decode cX12_transform 241 = .ok (.aload_n 0, 1) := by decide +kernel
theorem dX12_transform_242 : decode cX12_transform 242 = .ok (.iload 6, 2) := by decide +kernel
theorem dX12_transform_244 : decode cX12_transform 244 = .ok (.iload 7, 2) := by decide +kernel
theorem dX12_transform_246 : decode cX12_transform 246 = .ok (.invokevirtual 126, 3) := by decide +kernel
theorem dX12_transform_249 : decode cX12_transform 249 = .ok (.aload_n 0, 1) := by decide +kernel
theorem dX12_transform_250 : decode cX12_transform 250 = .ok (.iload 6, 2) := by decide +kernel
theorem dX12_transform_252 : decode cX12_transform 252 = .ok (.iload 7, 2) := by decide +kernel
theorem dX12_transform_254 : decode cX12_transform 254 = .ok (.invokevirtual 122, 3) := by decide +kernel
theorem dX12_transform_257 : decode cX12_transform 257 = .ok (.ineg, 1) := by decide +kernel
theorem dX12_transform_258 : decode cX12_transform 258 = .ok (.iload_n 1, 1) := by decide +kernel
theorem dX12_transform_259 : decode cX12_transform 259 = .ok (.invokestatic 138, 3) := by decide +kernel
theorem dX12_transform_262 : decode cX12_transform 262 = .ok (.iload_n 3, 1) := by decide +kernel
theorem dX12_transform_263 : decode cX12_transform 263 = .ok (.iadd, 1) := by decide +kernel
theorem dX12_transform_264 : decode cX12_transform 264 = .ok (.invokevirtual 84, 3) := by decide +kernel
theorem dX12_transform_267 : decode cX12_transform 267 = .ok (.iinc 7 1, 3) := by decide +kernel
theorem dX12_transform_270 : decode cX12_transform 270 = .ok (.goto (-67), 3) := by decide +kernel
theorem dX12_transform_273 : decode cX12_transform 273 = .ok (.iinc 6 1, 3) := by decide +kernel
theorem dX12_transform_276 : decode cX12_transform 276 = .ok (.goto (-88), 3) := by decide +kernel
theorem dX12_transform_279 : decode cX12_transform 279 = .ok (.iload 5, 2) := by decide +kernel
theorem dX12_transform_281 : decode cX12_transform 281 = .ok (.ireturn, 1) := by decide +kernel
theorem dX12_subpaths_0 : decode cX12_subpaths 0 = .ok (.aload_n 0, 1) := by decide +kernel
theorem dX12_subpaths_1 : decode cX12_subpaths 1 = .ok (.iconst 0, 1) := by decide +kernel
theorem dX12_subpaths_2 : decode cX12_subpaths 2 = .ok (.putfield 61, 3) := by decide +kernel
theorem dX12_subpaths_5 : decode cX12_subpaths 5 = .ok (.aload_n 0, 1) := by decide +kernel
theorem dX12_subpaths_6 : decode cX12_subpaths 6 = .ok (.getfield 7, 3) := by decide +kernel
theorem dX12_subpaths_9 : decode cX12_subpaths 9 = .ok (.bipush 13, 2) := by decide +kernel
theorem dX12_subpaths_11 : decode cX12_subpaths 11 = .ok (.iaload, 1) := by decide +kernel
theorem dX12_subpaths_12 : decode cX12_subpaths 12 = .ok (.ireturn, 1) := by decide +kernel
set_option maxRecDepth 20000 in
theorem ggX12_laysSegments_X12_points : GoodIn wsX12_laysSegments wsX12_points := goodIn_r _ [14, 15, 16, 17, 13, 18, 36, 37, 38, 39, 40, 41, 42, 43, 44, 45, 46, 47, 48, 49, 50, 51, 52, 53, 54, 55, 56, 57, 58, 59, 60, 61, 62, 63, 64, 65, 66] (by decide +kernel) (by decide +kernel)
set_option maxRecDepth 20000 in
theorem gX12_laysSegments_X12_points : GoodIn wsX12_laysSegments (wsV RX12 88 RX12 yX12_points wsX12_points) := goodIn_app (goodIn_of _ (by decide +kernel)) ggX12_laysSegments_X12_points
set_option maxRecDepth 20000 in
theorem ggX12_laysSegments_X12_isClosed : GoodIn wsX12_laysSegments wsX12_isClosed := goodIn_r _ [22, 15, 16, 17, 13, 18, 36, 37, 38, 39, 40, 41, 42, 43, 44, 45, 46, 47, 48, 49, 50, 51, 52, 53, 54, 55, 56, 57, 58, 59, 60, 61, 62, 63, 64, 65, 66] (by decide +kernel) (by decide +kernel)
set_option maxRecDepth 20000 in
theorem gX12_laysSegments_X12_isClosed : GoodIn wsX12_laysSegments (wsV RX12 102 RX12 yX12_isClosed wsX12_isClosed) := goodIn_app (goodIn_of _ (by decide +kernel)) ggX12_laysSegments_X12_isClosed
set_option maxRecDepth 20000 in
theorem ggX12_laysSegments_X12_x : GoodIn wsX12_laysSegments wsX12_x := goodIn_r _ [26, 15, 16, 17, 13, 18, 36, 37, 38, 39, 40, 41, 42, 43, 44, 45, 46, 47, 48, 49, 50, 51, 52, 53, 54, 55, 56, 57, 58, 59, 60, 61, 62, 63, 64, 65, 66] (by decide +kernel) (by decide +kernel)
set_option maxRecDepth 20000 in
theorem gX12_laysSegments_X12_x : GoodIn wsX12_laysSegments (wsV RX12 122 RX12 yX12_x wsX12_x) := goodIn_app (goodIn_of _ (by decide +kernel)) ggX12_laysSegments_X12_x
set_option maxRecDepth 20000 in
theorem ggX12_laysSegments_X12_y : GoodIn wsX12_laysSegments wsX12_y := goodIn_r _ [30, 15, 16, 17, 13, 18, 36, 37, 38, 39, 40, 41, 42, 43, 44, 45, 46, 47, 48, 49, 50, 51, 52, 53, 54, 55, 56, 57, 58, 59, 60, 61, 62, 63, 64, 65, 66] (by decide +kernel) (by decide +kernel)
set_option maxRecDepth 20000 in
theorem gX12_laysSegments_X12_y : GoodIn wsX12_laysSegments (wsV RX12 126 RX12 yX12_y wsX12_y) := goodIn_app (goodIn_of _ (by decide +kernel)) ggX12_laysSegments_X12_y
set_option maxRecDepth 20000 in
theorem ggX12_laysSegments_X12_root : GoodIn wsX12_laysSegments wsX12_root := goodIn_r _ [33, 34, 35] (by decide +kernel) (by decide +kernel)
set_option maxRecDepth 20000 in
theorem gX12_laysSegments_X12_root : GoodIn wsX12_laysSegments (va_wsS RX12 147 yX12_root wsX12_root) := goodIn_app (goodIn_of _ (by decide +kernel)) ggX12_laysSegments_X12_root
theorem dX12_laysSegments_0 : decode cX12_laysSegments 0 = .ok (.aload_n 0, 1) := by decide +kernel
theorem dX12_laysSegments_1 : decode cX12_laysSegments 1 = .ok (.iconst 0, 1) := by decide +kernel
theorem dX12_laysSegments_2 : decode cX12_laysSegments 2 = .ok (.putfield 116, 3) := by decide +kernel
theorem dX12_laysSegments_5 : decode cX12_laysSegments 5 = .ok (.aload_n 0, 1) := by decide +kernel
theorem dX12_laysSegments_6 : decode cX12_laysSegments 6 = .ok (.iconst 0, 1) := by decide +kernel
theorem dX12_laysSegments_7 : decode cX12_laysSegments 7 = .ok (.putfield 142, 3) := by decide +kernel
theorem dX12_laysSegments_10 : decode cX12_laysSegments 10 = .ok (.aload_n 0, 1) := by decide +kernel
theorem dX12_laysSegments_11 : decode cX12_laysSegments 11 = .ok (.iload_n 1, 1) := by decide +kernel
theorem dX12_laysSegments_12 : decode cX12_laysSegments 12 = .ok (.invokevirtual 88, 3) := by decide +kernel
theorem dX12_laysSegments_15 : decode cX12_laysSegments 15 = .ok (.istore_n 2, 1) := by decide +kernel
theorem dX12_laysSegments_16 : decode cX12_laysSegments 16 = .ok (.iconst 0, 1) := by decide +kernel
theorem dX12_laysSegments_17 : decode cX12_laysSegments 17 = .ok (.istore_n 3, 1) := by decide +kernel
theorem dX12_laysSegments_18 : decode cX12_laysSegments 18 = .ok (.iload_n 3, 1) := by decide +kernel
theorem dX12_laysSegments_19 : decode cX12_laysSegments 19 = .ok (.aload_n 0, 1) := by decide +kernel
theorem dX12_laysSegments_20 : decode cX12_laysSegments 20 = .ok (.iload_n 1, 1) := by decide +kernel
theorem dX12_laysSegments_21 : decode cX12_laysSegments 21 = .ok (.invokevirtual 102, 3) := by decide +kernel
theorem dX12_laysSegments_24 : decode cX12_laysSegments 24 = .ok (.ifCond .eq 7, 3) := by decide +kernel
theorem dX12_laysSegments_27 : decode cX12_laysSegments 27 = .ok (.iload_n 2, 1) := by decide +kernel
theorem dX12_laysSegments_28 : decode cX12_laysSegments 28 = .ok (.goto 6, 3) := by decide +kernel
theorem dX12_laysSegments_31 : decode cX12_laysSegments 31 = .ok (.iload_n 2, 1) := by decide +kernel
theorem dX12_laysSegments_32 : decode cX12_laysSegments 32 = .ok (.iconst 1, 1) := by decide +kernel
theorem dX12_laysSegments_33 : decode cX12_laysSegments 33 = .ok (.isub, 1) := by decide +kernel
theorem dX12_laysSegments_34 : decode cX12_laysSegments 34 = .ok (.if_icmp .ge 179, 3) := by decide +kernel
theorem dX12_laysSegments_37 : decode cX12_laysSegments 37 = .ok (.iload_n 3, 1) := by decide +kernel
theorem dX12_laysSegments_38 : decode cX12_laysSegments 38 = .ok (.iconst 1, 1) := by decide +kernel
theorem dX12_laysSegments_39 : decode cX12_laysSegments 39 = .ok (.iadd, 1) := by decide +kernel
theorem dX12_laysSegments_40 : decode cX12_laysSegments 40 = .ok (.iload_n 2, 1) := by decide +kernel
theorem dX12_laysSegments_41 : decode cX12_laysSegments 41 = .ok (.irem, 1) := by decide +kernel
theorem dX12_laysSegments_42 : decode cX12_laysSegments 42 = .ok (.istore 4, 2) := by decide +kernel
theorem dX12_laysSegments_44 : decode cX12_laysSegments 44 = .ok (.aload_n 0, 1) := by decide +kernel
theorem dX12_laysSegments_45 : decode cX12_laysSegments 45 = .ok (.iload_n 1, 1) := by decide +kernel
theorem dX12_laysSegments_46 : decode cX12_laysSegments 46 = .ok (.iload 4, 2) := by decide +kernel
theorem dX12_laysSegments_48 : decode cX12_laysSegments 48 = .ok (.invokevirtual 122, 3) := by decide +kernel
theorem dX12_laysSegments_51 : decode cX12_laysSegments 51 = .ok (.aload_n 0, 1) := by decide +kernel
theorem dX12_laysSegments_52 : decode cX12_laysSegments 52 = .ok (.iload_n 1, 1) := by decide +kernel
theorem dX12_laysSegments_53 : decode cX12_laysSegments 53 = .ok (.iload_n 3, 1) := by decide +kernel
theorem dX12_laysSegments_54 : decode cX12_laysSegments 54 = .ok (.invokevirtual 122, 3) := by decide +kernel
theorem dX12_laysSegments_57 : decode cX12_laysSegments 57 = .ok (.isub, 1) := by decide +kernel
theorem dX12_laysSegments_58 : decode cX12_laysSegments 58 = .ok (.istore 5, 2) := by decide +kernel
theorem dX12_laysSegments_60 : decode cX12_laysSegments 60 = .ok (.aload_n 0, 1) := by decide +kernel
theorem dX12_laysSegments_61 : decode cX12_laysSegments 61 = .ok (.iload_n 1, 1) := by decide +kernel
theorem dX12_laysSegments_62 : decode cX12_laysSegments 62 = .ok (.iload 4, 2) := by decide +kernel
theorem dX12_laysSegments_64 : decode cX12_laysSegments 64 = .ok (.invokevirtual 126, 3) := by decide +kernel
theorem dX12_laysSegments_67 : decode cX12_laysSegments 67 = .ok (.aload_n 0, 1) := by decide +kernel
theorem dX12_laysSegments_68 : decode cX12_laysSegments 68 = .ok (.iload_n 1, 1) := by decide +kernel
theorem dX12_laysSegments_69 : decode cX12_laysSegments 69 = .ok (.iload_n 3, 1) := by decide +kernel
theorem dX12_laysSegments_70 : decode cX12_laysSegments 70 = .ok (.invokevirtual 126, 3) := by decide +kernel
theorem dX12_laysSegments_73 : decode cX12_laysSegments 73 = .ok (.isub, 1) := by decide +kernel
theorem dX12_laysSegments_74 : decode cX12_laysSegments 74 = .ok (.istore 6, 2) := by decide +kernel
theorem dX12_laysSegments_76 : decode cX12_laysSegments 76 = .ok (.iload 5, 2) := by decide +kernel
theorem dX12_laysSegments_78 : decode cX12_laysSegments 78 = .ok (.ifCond .ne 8, 3) := by decide +kernel
theorem dX12_laysSegments_81 : decode cX12_laysSegments 81 = .ok (.iload 6, 2) := by decide +kernel
theorem dX12_laysSegments_83 : decode cX12_laysSegments 83 = .ok (.ifCond .eq 124, 3) := by decide +kernel
theorem dX12_laysSegments_86 : decode cX12_laysSegments 86 = .ok (.aload_n 0, 1) := by decide +kernel
theorem dX12_laysSegments_87 : decode cX12_laysSegments 87 = .ok (.getfield 19, 3) := by decide +kernel
theorem dX12_laysSegments_90 : decode cX12_laysSegments 90 = .ok (.aload_n 0, 1) := by decide +kernel
theorem dX12_laysSegments_91 : decode cX12_laysSegments 91 = .ok (.getfield 116, 3) := by decide +kernel
theorem dX12_laysSegments_94 : decode cX12_laysSegments 94 = .ok (.iload 5, 2) := by decide +kernel
theorem dX12_laysSegments_96 : decode cX12_laysSegments 96 = .ok (.iastore, 1) := by decide +kernel
theorem dX12_laysSegments_97 : decode cX12_laysSegments 97 = .ok (.aload_n 0, 1) := by decide +kernel
theorem dX12_laysSegments_98 : decode cX12_laysSegments 98 = .ok (.getfield 22, 3) := by decide +kernel
theorem dX12_laysSegments_101 : decode cX12_laysSegments 101 = .ok (.aload_n 0, 1) := by decide +kernel
theorem dX12_laysSegments_102 : decode cX12_laysSegments 102 = .ok (.getfield 116, 3) := by decide +kernel
theorem dX12_laysSegments_105 : decode cX12_laysSegments 105 = .ok (.iload 6, 2) := by decide +kernel
theorem dX12_laysSegments_107 : decode cX12_laysSegments 107 = .ok (.iastore, 1) := by decide +kernel
theorem dX12_laysSegments_108 : decode cX12_laysSegments 108 = .ok (.aload_n 0, 1) := by decide +kernel
theorem dX12_laysSegments_109 : decode cX12_laysSegments 109 = .ok (.getfield 25, 3) := by decide +kernel
theorem dX12_laysSegments_112 : decode cX12_laysSegments 112 = .ok (.aload_n 0, 1) := by decide +kernel
theorem dX12_laysSegments_113 : decode cX12_laysSegments 113 = .ok (.getfield 116, 3) := by decide +kernel
theorem dX12_laysSegments_116 : decode cX12_laysSegments 116 = .ok (.aload_n 0, 1) := by decide +kernel
theorem dX12_laysSegments_117 : decode cX12_laysSegments 117 = .ok (.iload_n 1, 1) := by decide +kernel
theorem dX12_laysSegments_118 : decode cX12_laysSegments 118 = .ok (.iload_n 3, 1) := by decide +kernel
theorem dX12_laysSegments_119 : decode cX12_laysSegments 119 = .ok (.invokevirtual 122, 3) := by decide +kernel
theorem dX12_laysSegments_122 : decode cX12_laysSegments 122 = .ok (.iastore, 1) := by decide +kernel
theorem dX12_laysSegments_123 : decode cX12_laysSegments 123 = .ok (.aload_n 0, 1) := by decide +kernel
theorem dX12_laysSegments_124 : decode cX12_laysSegments 124 = .ok (.getfield 28, 3) := by decide +kernel
theorem dX12_laysSegments_127 : decode cX12_laysSegments 127 = .ok (.aload_n 0, 1) := by decide +kernel
theorem dX12_laysSegments_128 : decode cX12_laysSegments 128 = .ok (.getfield 116, 3) := by decide +kernel
theorem dX12_laysSegments_131 : decode cX12_laysSegments 131 = .ok (.aload_n 0, 1) := by decide +kernel
theorem dX12_laysSegments_132 : decode cX12_laysSegments 132 = .ok (.iload_n 1, 1) := by decide +kernel
theorem dX12_laysSegments_133 : decode cX12_laysSegments 133 = .ok (.iload_n 3, 1) := by decide +kernel
theorem dX12_laysSegments_134 : decode cX12_laysSegments 134 = .ok (.invokevirtual 126, 3) := by decide +kernel
theorem dX12_laysSegments_137 : decode cX12_laysSegments 137 = .ok (.iastore, 1) := by decide +kernel
theorem dX12_laysSegments_138 : decode cX12_laysSegments 138 = .ok (.aload_n 0, 1) := by decide +kernel
theorem dX12_laysSegments_139 : decode cX12_laysSegments 139 = .ok (.getfield 31, 3) := by decide +kernel
theorem dX12_laysSegments_142 : decode cX12_laysSegments 142 = .ok (.aload_n 0, 1) := by decide +kernel
theorem dX12_laysSegments_143 : decode cX12_laysSegments 143 = .ok (.getfield 116, 3) := by decide +kernel
theorem dX12_laysSegments_146 : decode cX12_laysSegments 146 = .ok (.ldc2_w 145, 3) := by decide +kernel
theorem dX12_laysSegments_149 : decode cX12_laysSegments 149 = .ok (.iload 5, 2) := by decide +kernel
theorem dX12_laysSegments_151 : decode cX12_laysSegments 151 = .ok (.iload 5, 2) := by decide +kernel
theorem dX12_laysSegments_153 : decode cX12_laysSegments 153 = .ok (.imul, 1) := by decide +kernel
theorem dX12_laysSegments_154 : decode cX12_laysSegments 154 = .ok (.iload 6, 2) := by decide +kernel
theorem dX12_laysSegments_156 : decode cX12_laysSegments 156 = .ok (.iload 6, 2) := by decide +kernel
theorem dX12_laysSegments_158 : decode cX12_laysSegments 158 = .ok (.imul, 1) := by decide +kernel
theorem dX12_laysSegments_159 : decode cX12_laysSegments 159 = .ok (.iadd, 1) := by decide +kernel
theorem dX12_laysSegments_160 : decode cX12_laysSegments 160 = .ok (.i2l, 1) := by decide +kernel
theorem dX12_laysSegments_161 : decode cX12_laysSegments 161 = .ok (.lmul, 1) := by decide +kernel
theorem dX12_laysSegments_162 : decode cX12_laysSegments 162 = .ok (.invokestatic 147, 3) := by decide +kernel
theorem dX12_laysSegments_165 : decode cX12_laysSegments 165 = .ok (.iastore, 1) := by decide +kernel
theorem dX12_laysSegments_166 : decode cX12_laysSegments 166 = .ok (.aload_n 0, 1) := by decide +kernel
theorem dX12_laysSegments_167 : decode cX12_laysSegments 167 = .ok (.getfield 34, 3) := by decide +kernel
theorem dX12_laysSegments_170 : decode cX12_laysSegments 170 = .ok (.aload_n 0, 1) := by decide +kernel
theorem dX12_laysSegments_171 : decode cX12_laysSegments 171 = .ok (.getfield 116, 3) := by decide +kernel
theorem dX12_laysSegments_174 : decode cX12_laysSegments 174 = .ok (.aload_n 0, 1) := by decide +kernel
theorem dX12_laysSegments_175 : decode cX12_laysSegments 175 = .ok (.getfield 142, 3) := by decide +kernel
theorem dX12_laysSegments_178 : decode cX12_laysSegments 178 = .ok (.iastore, 1) := by decide +kernel
theorem dX12_laysSegments_179 : decode cX12_laysSegments 179 = .ok (.aload_n 0, 1) := by decide +kernel
theorem dX12_laysSegments_180 : decode cX12_laysSegments 180 = .ok (.dup, 1) := by decide +kernel
theorem dX12_laysSegments_181 : decode cX12_laysSegments 181 = .ok (.getfield 142, 3) := by decide +kernel
theorem dX12_laysSegments_184 : decode cX12_laysSegments 184 = .ok (.aload_n 0, 1) := by decide +kernel
theorem dX12_laysSegments_185 : decode cX12_laysSegments 185 = .ok (.getfield 31, 3) := by decide +kernel
theorem dX12_laysSegments_188 : decode cX12_laysSegments 188 = .ok (.aload_n 0, 1) := by decide +kernel
theorem dX12_laysSegments_189 : decode cX12_laysSegments 189 = .ok (.getfield 116, 3) := by decide +kernel
theorem dX12_laysSegments_192 : decode cX12_laysSegments 192 = .ok (.iaload, 1) := by decide +kernel
theorem dX12_laysSegments_193 : decode cX12_laysSegments 193 = .ok (.iadd, 1) := by decide +kernel
theorem dX12_laysSegments_194 : decode cX12_laysSegments 194 = .ok (.putfield 142, 3) := by decide +kernel
theorem dX12_laysSegments_197 : decode cX12_laysSegments 197 = .ok (.aload_n 0, 1) := by decide +kernel
theorem dX12_laysSegments_198 : decode cX12_laysSegments 198 = .ok (.dup, 1) := by decide +kernel
theorem dX12_laysSegments_199 : decode cX12_laysSegments 199 = .ok (.getfield 116, 3) := by decide +kernel
theorem dX12_laysSegments_202 : decode cX12_laysSegments 202 = .ok (.iconst 1, 1) := by decide +kernel
theorem dX12_laysSegments_203 : decode cX12_laysSegments 203 = .ok (.iadd, 1) := by decide +kernel
theorem dX12_laysSegments_204 : decode cX12_laysSegments 204 = .ok (.putfield 116, 3) := by decide +kernel
theorem dX12_laysSegments_207 : decode cX12_laysSegments 207 = .ok (.iinc 3 1, 3) := by decide +kernel
theorem dX12_laysSegments_210 : decode cX12_laysSegments 210 = .ok (.goto (-192), 3) := by decide +kernel
theorem dX12_laysSegments_213 : decode cX12_laysSegments 213 = .ok (.return_, 1) := by decide +kernel
set_option maxRecDepth 20000 in
theorem ggX12_alongX_X12_round : GoodIn wsX12_alongX wsX12_round := goodIn_r _ [8, 9] (by decide +kernel) (by decide +kernel)
set_option maxRecDepth 20000 in
theorem gX12_alongX_X12_round : GoodIn wsX12_alongX (va_wsS RX12 153 yX12_round wsX12_round) := goodIn_app (goodIn_of _ (by decide +kernel)) ggX12_alongX_X12_round
theorem dX12_alongX_0 : decode cX12_alongX 0 = .ok (.bipush 64, 2) := by decide +kernel
theorem dX12_alongX_2 : decode cX12_alongX 2 = .ok (.aload_n 0, 1) := by decide +kernel
theorem dX12_alongX_3 : decode cX12_alongX 3 = .ok (.getfield 25, 3) := by decide +kernel
theorem dX12_alongX_6 : decode cX12_alongX 6 = .ok (.iload_n 1, 1) := by decide +kernel
theorem dX12_alongX_7 : decode cX12_alongX 7 = .ok (.iaload, 1) := by decide +kernel
theorem dX12_alongX_8 : decode cX12_alongX 8 = .ok (.imul, 1) := by decide +kernel
theorem dX12_alongX_9 : decode cX12_alongX 9 = .ok (.ldc2_w 151, 3) := by decide +kernel
theorem dX12_alongX_12 : decode cX12_alongX 12 = .ok (.aload_n 0, 1) := by decide +kernel
theorem dX12_alongX_13 : decode cX12_alongX 13 = .ok (.getfield 19, 3) := by decide +kernel
theorem dX12_alongX_16 : decode cX12_alongX 16 = .ok (.iload_n 1, 1) := by decide +kernel
theorem dX12_alongX_17 : decode cX12_alongX 17 = .ok (.iaload, 1) := by decide +kernel
theorem dX12_alongX_18 : decode cX12_alongX 18 = .ok (.i2l, 1) := by decide +kernel
theorem dX12_alongX_19 : decode cX12_alongX 19 = .ok (.lmul, 1) := by decide +kernel
theorem dX12_alongX_20 : decode cX12_alongX 20 = .ok (.iload_n 2, 1) := by decide +kernel
theorem dX12_alongX_21 : decode cX12_alongX 21 = .ok (.i2l, 1) := by decide +kernel
theorem dX12_alongX_22 : decode cX12_alongX 22 = .ok (.lmul, 1) := by decide +kernel
theorem dX12_alongX_23 : decode cX12_alongX 23 = .ok (.aload_n 0, 1) := by decide +kernel
theorem dX12_alongX_24 : decode cX12_alongX 24 = .ok (.getfield 31, 3) := by decide +kernel
theorem dX12_alongX_27 : decode cX12_alongX 27 = .ok (.iload_n 1, 1) := by decide +kernel
theorem dX12_alongX_28 : decode cX12_alongX 28 = .ok (.iaload, 1) := by decide +kernel
theorem dX12_alongX_29 : decode cX12_alongX 29 = .ok (.i2l, 1) := by decide +kernel
theorem dX12_alongX_30 : decode cX12_alongX 30 = .ok (.invokestatic 153, 3) := by decide +kernel
theorem dX12_alongX_33 : decode cX12_alongX 33 = .ok (.iadd, 1) := by decide +kernel
theorem dX12_alongX_34 : decode cX12_alongX 34 = .ok (.ireturn, 1) := by decide +kernel
set_option maxRecDepth 20000 in
theorem ggX12_alongY_X12_round : GoodIn wsX12_alongY wsX12_round := goodIn_r _ [8, 9] (by decide +kernel) (by decide +kernel)
set_option maxRecDepth 20000 in
theorem gX12_alongY_X12_round : GoodIn wsX12_alongY (va_wsS RX12 153 yX12_round wsX12_round) := goodIn_app (goodIn_of _ (by decide +kernel)) ggX12_alongY_X12_round
theorem dX12_alongY_0 : decode cX12_alongY 0 = .ok (.bipush 64, 2) := by decide +kernel
theorem dX12_alongY_2 : decode cX12_alongY 2 = .ok (.aload_n 0, 1) := by decide +kernel
theorem dX12_alongY_3 : decode cX12_alongY 3 = .ok (.getfield 28, 3) := by decide +kernel
theorem dX12_alongY_6 : decode cX12_alongY 6 = .ok (.iload_n 1, 1) := by decide +kernel
theorem dX12_alongY_7 : decode cX12_alongY 7 = .ok (.iaload, 1) := by decide +kernel
theorem dX12_alongY_8 : decode cX12_alongY 8 = .ok (.imul, 1) := by decide +kernel
theorem dX12_alongY_9 : decode cX12_alongY 9 = .ok (.ldc2_w 151, 3) := by decide +kernel
theorem dX12_alongY_12 : decode cX12_alongY 12 = .ok (.aload_n 0, 1) := by decide +kernel
theorem dX12_alongY_13 : decode cX12_alongY 13 = .ok (.getfield 22, 3) := by decide +kernel
theorem dX12_alongY_16 : decode cX12_alongY 16 = .ok (.iload_n 1, 1) := by decide +kernel
theorem dX12_alongY_17 : decode cX12_alongY 17 = .ok (.iaload, 1) := by decide +kernel
theorem dX12_alongY_18 : decode cX12_alongY 18 = .ok (.i2l, 1) := by decide +kernel
theorem dX12_alongY_19 : decode cX12_alongY 19 = .ok (.lmul, 1) := by decide +kernel
theorem dX12_alongY_20 : decode cX12_alongY 20 = .ok (.iload_n 2, 1) := by decide +kernel
theorem dX12_alongY_21 : decode cX12_alongY 21 = .ok (.i2l, 1) := by decide +kernel
theorem dX12_alongY_22 : decode cX12_alongY 22 = .ok (.lmul, 1) := by decide +kernel
theorem dX12_alongY_23 : decode cX12_alongY 23 = .ok (.aload_n 0, 1) := by decide +kernel
theorem dX12_alongY_24 : decode cX12_alongY 24 = .ok (.getfield 31, 3) := by decide +kernel
theorem dX12_alongY_27 : decode cX12_alongY 27 = .ok (.iload_n 1, 1) := by decide +kernel
theorem dX12_alongY_28 : decode cX12_alongY 28 = .ok (.iaload, 1) := by decide +kernel
theorem dX12_alongY_29 : decode cX12_alongY 29 = .ok (.i2l, 1) := by decide +kernel
theorem dX12_alongY_30 : decode cX12_alongY 30 = .ok (.invokestatic 153, 3) := by decide +kernel
theorem dX12_alongY_33 : decode cX12_alongY 33 = .ok (.iadd, 1) := by decide +kernel
theorem dX12_alongY_34 : decode cX12_alongY 34 = .ok (.ireturn, 1) := by decide +kernel
set_option maxRecDepth 20000 in
theorem ggX12_tellSubpath_X12_laysSegments : GoodIn wsX12_tellSubpath wsX12_laysSegments := goodIn_r _ [8, 2, 3, 9, 10, 11, 12, 13, 14, 15, 16, 17, 18, 7, 19, 1, 20, 21, 22, 23, 24, 25, 26, 27, 28, 29, 30, 31, 32, 33, 34, 35, 36, 37, 38, 39, 40, 41, 42, 43, 44, 45, 46, 47, 48, 49, 50, 51, 52, 53, 54, 55, 56, 57, 58, 59, 60, 61, 62, 63, 64, 65, 66, 67, 68, 69, 70] (by decide +kernel) (by decide +kernel)
set_option maxRecDepth 20000 in
theorem gX12_tellSubpath_X12_laysSegments : GoodIn wsX12_tellSubpath (wsV RX12 112 RX12 yX12_laysSegments wsX12_laysSegments) := goodIn_app (goodIn_of _ (by decide +kernel)) ggX12_tellSubpath_X12_laysSegments
set_option maxRecDepth 20000 in
theorem ggX12_tellSubpath_X12_points : GoodIn wsX12_tellSubpath wsX12_points := goodIn_r _ [19, 1, 20, 21, 7, 22, 40, 41, 42, 43, 44, 45, 46, 47, 48, 49, 50, 51, 52, 53, 54, 55, 56, 57, 58, 59, 60, 61, 62, 63, 64, 65, 66, 67, 68, 69, 70] (by decide +kernel) (by decide +kernel)
set_option maxRecDepth 20000 in
theorem gX12_tellSubpath_X12_points : GoodIn wsX12_tellSubpath (wsV RX12 88 RX12 yX12_points wsX12_points) := goodIn_app (goodIn_of _ (by decide +kernel)) ggX12_tellSubpath_X12_points
set_option maxRecDepth 20000 in
theorem ggX12_tellSubpath_X12_at : GoodIn wsX12_tellSubpath wsX12_at := goodIn_r _ [22] (by decide +kernel) (by decide +kernel)
set_option maxRecDepth 20000 in
theorem gX12_tellSubpath_X12_at : GoodIn wsX12_tellSubpath (va_wsS RX12 80 yX12_at wsX12_at) := goodIn_app (goodIn_of _ (by decide +kernel)) ggX12_tellSubpath_X12_at
theorem dX12_tellSubpath_0 : decode cX12_tellSubpath 0 = .ok (.aload_n 0, 1) := by decide +kernel
theorem dX12_tellSubpath_1 : decode cX12_tellSubpath 1 = .ok (.iload_n 1, 1) := by decide +kernel
theorem dX12_tellSubpath_2 : decode cX12_tellSubpath 2 = .ok (.invokevirtual 112, 3) := by decide +kernel
theorem dX12_tellSubpath_5 : decode cX12_tellSubpath 5 = .ok (.iload_n 2, 1) := by decide +kernel
theorem dX12_tellSubpath_6 : decode cX12_tellSubpath 6 = .ok (.ifCond .ne 11, 3) := by decide +kernel
theorem dX12_tellSubpath_9 : decode cX12_tellSubpath 9 = .ok (.aload_n 0, 1) := by decide +kernel
theorem dX12_tellSubpath_10 : decode cX12_tellSubpath 10 = .ok (.iload_n 1, 1) := by decide +kernel
theorem dX12_tellSubpath_11 : decode cX12_tellSubpath 11 = .ok (.invokevirtual 88, 3) := by decide +kernel
theorem dX12_tellSubpath_14 : decode cX12_tellSubpath 14 = .ok (.goto 38, 3) := by decide +kernel
theorem dX12_tellSubpath_17 : decode cX12_tellSubpath 17 = .ok (.iload_n 2, 1) := by decide +kernel
theorem dX12_tellSubpath_18 : decode cX12_tellSubpath 18 = .ok (.iconst 1, 1) := by decide +kernel
theorem dX12_tellSubpath_19 : decode cX12_tellSubpath 19 = .ok (.if_icmp .ne 17, 3) := by decide +kernel
theorem dX12_tellSubpath_22 : decode cX12_tellSubpath 22 = .ok (.aload_n 0, 1) := by decide +kernel
theorem dX12_tellSubpath_23 : decode cX12_tellSubpath 23 = .ok (.getfield 7, 3) := by decide +kernel
theorem dX12_tellSubpath_26 : decode cX12_tellSubpath 26 = .ok (.iload_n 1, 1) := by decide +kernel
theorem dX12_tellSubpath_27 : decode cX12_tellSubpath 27 = .ok (.invokestatic 80, 3) := by decide +kernel
theorem dX12_tellSubpath_30 : decode cX12_tellSubpath 30 = .ok (.iconst 1, 1) := by decide +kernel
theorem dX12_tellSubpath_31 : decode cX12_tellSubpath 31 = .ok (.iadd, 1) := by decide +kernel
theorem dX12_tellSubpath_32 : decode cX12_tellSubpath 32 = .ok (.iaload, 1) := by decide +kernel
theorem dX12_tellSubpath_33 : decode cX12_tellSubpath 33 = .ok (.goto 19, 3) := by decide +kernel
theorem dX12_tellSubpath_36 : decode cX12_tellSubpath 36 = .ok (.iload_n 2, 1) := by decide +kernel
theorem dX12_tellSubpath_37 : decode cX12_tellSubpath 37 = .ok (.iconst 2, 1) := by decide +kernel
theorem dX12_tellSubpath_38 : decode cX12_tellSubpath 38 = .ok (.if_icmp .ne 10, 3) := by decide +kernel
theorem dX12_tellSubpath_41 : decode cX12_tellSubpath 41 = .ok (.aload_n 0, 1) := by decide +kernel
theorem dX12_tellSubpath_42 : decode cX12_tellSubpath 42 = .ok (.getfield 116, 3) := by decide +kernel
theorem dX12_tellSubpath_45 : decode cX12_tellSubpath 45 = .ok (.goto 7, 3) := by decide +kernel
theorem dX12_tellSubpath_48 : decode cX12_tellSubpath 48 = .ok (.aload_n 0, 1) := by decide +kernel
theorem dX12_tellSubpath_49 : decode cX12_tellSubpath 49 = .ok (.getfield 142, 3) := by decide +kernel
theorem dX12_tellSubpath_52 : decode cX12_tellSubpath 52 = .ok (.ireturn, 1) := by decide +kernel
set_option maxRecDepth 20000 in
theorem ggX12_subpath_X12_isSubpath : GoodIn wsX12_subpath wsX12_isSubpath := goodIn_r _ [5, 6, 7, 8, 4, 9, 56, 57, 58, 59, 60, 61, 62, 63, 64, 65, 66, 67, 68, 69, 70, 71, 72, 73, 74, 75, 76, 77, 78, 79, 80, 81, 82, 83, 84, 85, 86] (by decide +kernel) (by decide +kernel)
set_option maxRecDepth 20000 in
theorem gX12_subpath_X12_isSubpath : GoodIn wsX12_subpath (wsV RX12 119 RX12 yX12_isSubpath wsX12_isSubpath) := goodIn_app (goodIn_of _ (by decide +kernel)) ggX12_subpath_X12_isSubpath
set_option maxRecDepth 20000 in
theorem ggX12_subpath_X12_within : GoodIn wsX12_subpath wsX12_within := goodIn_r _ [9] (by decide +kernel) (by decide +kernel)
set_option maxRecDepth 20000 in
theorem gX12_subpath_X12_within : GoodIn wsX12_subpath (va_wsS RX12 65 yX12_within wsX12_within) := goodIn_app (goodIn_of _ (by decide +kernel)) ggX12_subpath_X12_within
set_option maxRecDepth 20000 in
theorem ggX12_subpath_X12_refused : GoodIn wsX12_subpath wsX12_refused := goodIn_r _ [13, 14, 56, 57, 58, 59, 60, 61, 62, 63, 64, 65, 66, 67, 68, 69, 70, 71, 72, 73, 74, 75, 76, 77, 78, 79, 80, 81, 82, 83, 84, 85, 86] (by decide +kernel) (by decide +kernel)
set_option maxRecDepth 20000 in
theorem gX12_subpath_X12_refused : GoodIn wsX12_subpath (wsV RX12 76 RX12 yX12_refused wsX12_refused) := goodIn_app (goodIn_of _ (by decide +kernel)) ggX12_subpath_X12_refused
set_option maxRecDepth 20000 in
theorem ggX12_subpath_X12_tellSubpath : GoodIn wsX12_subpath wsX12_tellSubpath := goodIn_r _ [18, 6, 19, 20, 21, 22, 23, 4, 24, 25, 26, 27, 28, 29, 30, 31, 32, 33, 34, 35, 36, 37, 38, 39, 40, 41, 42, 43, 44, 45, 46, 47, 48, 49, 50, 51, 52, 53, 54, 55, 56, 57, 58, 59, 60, 61, 62, 63, 64, 65, 66, 67, 68, 69, 70, 71, 72, 73, 74, 75, 76, 77, 78, 79, 80, 81, 82, 83, 84, 85, 86] (by decide +kernel) (by decide +kernel)
set_option maxRecDepth 20000 in
theorem gX12_subpath_X12_tellSubpath : GoodIn wsX12_subpath (wsV RX12 157 RX12 yX12_tellSubpath wsX12_tellSubpath) := goodIn_app (goodIn_of _ (by decide +kernel)) ggX12_subpath_X12_tellSubpath
theorem dX12_subpath_0 : decode cX12_subpath 0 = .ok (.aload_n 0, 1) := by decide +kernel
theorem dX12_subpath_1 : decode cX12_subpath 1 = .ok (.aload_n 0, 1) := by decide +kernel
theorem dX12_subpath_2 : decode cX12_subpath 2 = .ok (.iload_n 1, 1) := by decide +kernel
theorem dX12_subpath_3 : decode cX12_subpath 3 = .ok (.invokevirtual 119, 3) := by decide +kernel
theorem dX12_subpath_6 : decode cX12_subpath 6 = .ok (.ifCond .ne 7, 3) := by decide +kernel
theorem dX12_subpath_9 : decode cX12_subpath 9 = .ok (.iconst 1, 1) := by decide +kernel
theorem dX12_subpath_10 : decode cX12_subpath 10 = .ok (.goto 17, 3) := by decide +kernel
theorem dX12_subpath_13 : decode cX12_subpath 13 = .ok (.iload_n 2, 1) := by decide +kernel
theorem dX12_subpath_14 : decode cX12_subpath 14 = .ok (.iconst 0, 1) := by decide +kernel
theorem dX12_subpath_15 : decode cX12_subpath 15 = .ok (.iconst 3, 1) := by decide +kernel
theorem dX12_subpath_16 : decode cX12_subpath 16 = .ok (.invokestatic 65, 3) := by decide +kernel
theorem dX12_subpath_19 : decode cX12_subpath 19 = .ok (.ifCond .eq 7, 3) := by decide +kernel
theorem dX12_subpath_22 : decode cX12_subpath 22 = .ok (.iconst 0, 1) := by decide +kernel
theorem dX12_subpath_23 : decode cX12_subpath 23 = .ok (.goto 4, 3) := by decide +kernel
theorem dX12_subpath_26 : decode cX12_subpath 26 = .ok (.iconst 2, 1) := by decide +kernel
theorem dX12_subpath_27 : decode cX12_subpath 27 = .ok (.invokevirtual 76, 3) := by decide +kernel
theorem dX12_subpath_30 : decode cX12_subpath 30 = .ok (.ifCond .eq 7, 3) := by decide +kernel
theorem dX12_subpath_33 : decode cX12_subpath 33 = .ok (.iconst 0, 1) := by decide +kernel
theorem dX12_subpath_34 : decode cX12_subpath 34 = .ok (.goto 9, 3) := by decide +kernel
theorem dX12_subpath_37 : decode cX12_subpath 37 = .ok (.aload_n 0, 1) := by decide +kernel
theorem dX12_subpath_38 : decode cX12_subpath 38 = .ok (.iload_n 1, 1) := by decide +kernel
theorem dX12_subpath_39 : decode cX12_subpath 39 = .ok (.iload_n 2, 1) := by decide +kernel
theorem dX12_subpath_40 : decode cX12_subpath 40 = .ok (.invokevirtual 157, 3) := by decide +kernel
theorem dX12_subpath_43 : decode cX12_subpath 43 = .ok (.ireturn, 1) := by decide +kernel
set_option maxRecDepth 20000 in
theorem ggX12_point_X12_isSubpath : GoodIn wsX12_point wsX12_isSubpath := goodIn_r _ [5, 6, 7, 8, 4, 9, 30, 31, 32, 33, 34, 35, 36, 37, 38, 39, 40, 41, 42, 43, 44, 45, 46, 47, 48, 49, 50, 51, 52, 53, 54, 55, 56, 57, 58, 59, 60] (by decide +kernel) (by decide +kernel)
set_option maxRecDepth 20000 in
theorem gX12_point_X12_isSubpath : GoodIn wsX12_point (wsV RX12 119 RX12 yX12_isSubpath wsX12_isSubpath) := goodIn_app (goodIn_of _ (by decide +kernel)) ggX12_point_X12_isSubpath
set_option maxRecDepth 20000 in
theorem ggX12_point_X12_points : GoodIn wsX12_point wsX12_points := goodIn_r _ [13, 6, 14, 15, 4, 16, 30, 31, 32, 33, 34, 35, 36, 37, 38, 39, 40, 41, 42, 43, 44, 45, 46, 47, 48, 49, 50, 51, 52, 53, 54, 55, 56, 57, 58, 59, 60] (by decide +kernel) (by decide +kernel)
set_option maxRecDepth 20000 in
theorem gX12_point_X12_points : GoodIn wsX12_point (wsV RX12 88 RX12 yX12_points wsX12_points) := goodIn_app (goodIn_of _ (by decide +kernel)) ggX12_point_X12_points
set_option maxRecDepth 20000 in
theorem ggX12_point_X12_within : GoodIn wsX12_point wsX12_within := goodIn_r _ [9] (by decide +kernel) (by decide +kernel)
set_option maxRecDepth 20000 in
theorem gX12_point_X12_within : GoodIn wsX12_point (va_wsS RX12 65 yX12_within wsX12_within) := goodIn_app (goodIn_of _ (by decide +kernel)) ggX12_point_X12_within
set_option maxRecDepth 20000 in
theorem ggX12_point_X12_refused : GoodIn wsX12_point wsX12_refused := goodIn_r _ [20, 21, 30, 31, 32, 33, 34, 35, 36, 37, 38, 39, 40, 41, 42, 43, 44, 45, 46, 47, 48, 49, 50, 51, 52, 53, 54, 55, 56, 57, 58, 59, 60] (by decide +kernel) (by decide +kernel)
set_option maxRecDepth 20000 in
theorem gX12_point_X12_refused : GoodIn wsX12_point (wsV RX12 76 RX12 yX12_refused wsX12_refused) := goodIn_app (goodIn_of _ (by decide +kernel)) ggX12_point_X12_refused
set_option maxRecDepth 20000 in
theorem ggX12_point_X12_y : GoodIn wsX12_point wsX12_y := goodIn_r _ [25, 6, 14, 15, 4, 16, 30, 31, 32, 33, 34, 35, 36, 37, 38, 39, 40, 41, 42, 43, 44, 45, 46, 47, 48, 49, 50, 51, 52, 53, 54, 55, 56, 57, 58, 59, 60] (by decide +kernel) (by decide +kernel)
set_option maxRecDepth 20000 in
theorem gX12_point_X12_y : GoodIn wsX12_point (wsV RX12 126 RX12 yX12_y wsX12_y) := goodIn_app (goodIn_of _ (by decide +kernel)) ggX12_point_X12_y
set_option maxRecDepth 20000 in
theorem ggX12_point_X12_x : GoodIn wsX12_point wsX12_x := goodIn_r _ [29, 6, 14, 15, 4, 16, 30, 31, 32, 33, 34, 35, 36, 37, 38, 39, 40, 41, 42, 43, 44, 45, 46, 47, 48, 49, 50, 51, 52, 53, 54, 55, 56, 57, 58, 59, 60] (by decide +kernel) (by decide +kernel)
set_option maxRecDepth 20000 in
theorem gX12_point_X12_x : GoodIn wsX12_point (wsV RX12 122 RX12 yX12_x wsX12_x) := goodIn_app (goodIn_of _ (by decide +kernel)) ggX12_point_X12_x
theorem dX12_point_0 : decode cX12_point 0 = .ok (.aload_n 0, 1) := by decide +kernel
theorem dX12_point_1 : decode cX12_point 1 = .ok (.aload_n 0, 1) := by decide +kernel
theorem dX12_point_2 : decode cX12_point 2 = .ok (.iload_n 1, 1) := by decide +kernel
theorem dX12_point_3 : decode cX12_point 3 = .ok (.invokevirtual 119, 3) := by decide +kernel
theorem dX12_point_6 : decode cX12_point 6 = .ok (.ifCond .eq 22, 3) := by decide +kernel
theorem dX12_point_9 : decode cX12_point 9 = .ok (.iload_n 2, 1) := by decide +kernel
theorem dX12_point_10 : decode cX12_point 10 = .ok (.iconst 0, 1) := by decide +kernel
theorem dX12_point_11 : decode cX12_point 11 = .ok (.aload_n 0, 1) := by decide +kernel
theorem dX12_point_12 : decode cX12_point 12 = .ok (.iload_n 1, 1) := by decide +kernel
theorem dX12_point_13 : decode cX12_point 13 = .ok (.invokevirtual 88, 3) := by decide +kernel
theorem dX12_point_16 : decode cX12_point 16 = .ok (.iconst 1, 1) := by decide +kernel
theorem dX12_point_17 : decode cX12_point 17 = .ok (.isub, 1) := by decide +kernel
theorem dX12_point_18 : decode cX12_point 18 = .ok (.invokestatic 65, 3) := by decide +kernel
theorem dX12_point_21 : decode cX12_point 21 = .ok (.ifCond .eq 7, 3) := by decide +kernel
theorem dX12_point_24 : decode cX12_point 24 = .ok (.iconst 0, 1) := by decide +kernel
theorem dX12_point_25 : decode cX12_point 25 = .ok (.goto 4, 3) := by decide +kernel
theorem dX12_point_28 : decode cX12_point 28 = .ok (.iconst 1, 1) := by decide +kernel
theorem dX12_point_29 : decode cX12_point 29 = .ok (.invokevirtual 76, 3) := by decide +kernel
theorem dX12_point_32 : decode cX12_point 32 = .ok (.ifCond .eq 5, 3) := by decide +kernel
theorem dX12_point_35 : decode cX12_point 35 = .ok (.iconst 0, 1) := by decide +kernel
theorem dX12_point_36 : decode cX12_point 36 = .ok (.ireturn, 1) := by decide +kernel
theorem dX12_point_37 : decode cX12_point 37 = .ok (.iload_n 3, 1) := by decide +kernel
theorem dX12_point_38 : decode cX12_point 38 = .ok (.ifCond .eq 12, 3) := by decide +kernel
theorem dX12_point_41 : decode cX12_point 41 = .ok (.aload_n 0, 1) := by decide +kernel
theorem dX12_point_42 : decode cX12_point 42 = .ok (.iload_n 1, 1) := by decide +kernel
theorem dX12_point_43 : decode cX12_point 43 = .ok (.iload_n 2, 1) := by decide +kernel
theorem dX12_point_44 : decode cX12_point 44 = .ok (.invokevirtual 126, 3) := by decide +kernel
theorem dX12_point_47 : decode cX12_point 47 = .ok (.goto 9, 3) := by decide +kernel
theorem dX12_point_50 : decode cX12_point 50 = .ok (.aload_n 0, 1) := by decide +kernel
theorem dX12_point_51 : decode cX12_point 51 = .ok (.iload_n 1, 1) := by decide +kernel
theorem dX12_point_52 : decode cX12_point 52 = .ok (.iload_n 2, 1) := by decide +kernel
theorem dX12_point_53 : decode cX12_point 53 = .ok (.invokevirtual 122, 3) := by decide +kernel
theorem dX12_point_56 : decode cX12_point 56 = .ok (.ireturn, 1) := by decide +kernel
set_option maxRecDepth 20000 in
theorem ggX12_pointAt_X12_isSubpath : GoodIn wsX12_pointAt wsX12_isSubpath := goodIn_r _ [8, 9, 10, 11, 7, 12, 68, 69, 70, 71, 72, 73, 74, 75, 76, 77, 78, 79, 80, 81, 82, 83, 84, 85, 86, 87, 88, 89, 90, 91, 92, 93, 94, 95, 96, 97, 98] (by decide +kernel) (by decide +kernel)
set_option maxRecDepth 20000 in
theorem gX12_pointAt_X12_isSubpath : GoodIn wsX12_pointAt (wsV RX12 119 RX12 yX12_isSubpath wsX12_isSubpath) := goodIn_app (goodIn_of _ (by decide +kernel)) ggX12_pointAt_X12_isSubpath
set_option maxRecDepth 20000 in
theorem ggX12_pointAt_X12_tellSubpath : GoodIn wsX12_pointAt wsX12_tellSubpath := goodIn_r _ [16, 9, 1, 17, 18, 19, 20, 7, 21, 22, 23, 24, 25, 3, 26, 2, 27, 28, 29, 30, 31, 32, 33, 34, 35, 36, 37, 38, 39, 40, 41, 42, 43, 44, 45, 46, 47, 48, 49, 50, 68, 69, 70, 71, 72, 73, 74, 75, 76, 77, 78, 79, 80, 81, 82, 83, 84, 85, 86, 87, 88, 89, 90, 91, 92, 93, 94, 95, 96, 97, 98] (by decide +kernel) (by decide +kernel)
set_option maxRecDepth 20000 in
theorem gX12_pointAt_X12_tellSubpath : GoodIn wsX12_pointAt (wsV RX12 157 RX12 yX12_tellSubpath wsX12_tellSubpath) := goodIn_app (goodIn_of _ (by decide +kernel)) ggX12_pointAt_X12_tellSubpath
set_option maxRecDepth 20000 in
theorem ggX12_pointAt_X12_within : GoodIn wsX12_pointAt wsX12_within := goodIn_r _ [12] (by decide +kernel) (by decide +kernel)
set_option maxRecDepth 20000 in
theorem gX12_pointAt_X12_within : GoodIn wsX12_pointAt (va_wsS RX12 65 yX12_within wsX12_within) := goodIn_app (goodIn_of _ (by decide +kernel)) ggX12_pointAt_X12_within
set_option maxRecDepth 20000 in
theorem ggX12_pointAt_X12_refused : GoodIn wsX12_pointAt wsX12_refused := goodIn_r _ [54, 55, 68, 69, 70, 71, 72, 73, 74, 75, 76, 77, 78, 79, 80, 81, 82, 83, 84, 85, 86, 87, 88, 89, 90, 91, 92, 93, 94, 95, 96, 97, 98] (by decide +kernel) (by decide +kernel)
set_option maxRecDepth 20000 in
theorem gX12_pointAt_X12_refused : GoodIn wsX12_pointAt (wsV RX12 76 RX12 yX12_refused wsX12_refused) := goodIn_app (goodIn_of _ (by decide +kernel)) ggX12_pointAt_X12_refused
set_option maxRecDepth 20000 in
theorem ggX12_pointAt_X12_y : GoodIn wsX12_pointAt wsX12_y := goodIn_r _ [45, 9, 31, 32, 7, 33, 68, 69, 70, 71, 72, 73, 74, 75, 76, 77, 78, 79, 80, 81, 82, 83, 84, 85, 86, 87, 88, 89, 90, 91, 92, 93, 94, 95, 96, 97, 98] (by decide +kernel) (by decide +kernel)
set_option maxRecDepth 20000 in
theorem gX12_pointAt_X12_y : GoodIn wsX12_pointAt (wsV RX12 126 RX12 yX12_y wsX12_y) := goodIn_app (goodIn_of _ (by decide +kernel)) ggX12_pointAt_X12_y
set_option maxRecDepth 20000 in
theorem ggX12_pointAt_X12_x : GoodIn wsX12_pointAt wsX12_x := goodIn_r _ [41, 9, 31, 32, 7, 33, 68, 69, 70, 71, 72, 73, 74, 75, 76, 77, 78, 79, 80, 81, 82, 83, 84, 85, 86, 87, 88, 89, 90, 91, 92, 93, 94, 95, 96, 97, 98] (by decide +kernel) (by decide +kernel)
set_option maxRecDepth 20000 in
theorem gX12_pointAt_X12_x : GoodIn wsX12_pointAt (wsV RX12 122 RX12 yX12_x wsX12_x) := goodIn_app (goodIn_of _ (by decide +kernel)) ggX12_pointAt_X12_x
set_option maxRecDepth 20000 in
theorem ggX12_pointAt_X12_alongY : GoodIn wsX12_pointAt wsX12_alongY := goodIn_r _ [59, 25, 60, 23, 3, 61, 62, 7, 63, 50, 68, 69, 70, 71, 72, 73, 74, 75, 76, 77, 78, 79, 80, 81, 82, 83, 84, 85, 86, 87, 88, 89, 90, 91, 92, 93, 94, 95, 96, 97, 98] (by decide +kernel) (by decide +kernel)
set_option maxRecDepth 20000 in
theorem gX12_pointAt_X12_alongY : GoodIn wsX12_pointAt (wsV RX12 160 RX12 yX12_alongY wsX12_alongY) := goodIn_app (goodIn_of _ (by decide +kernel)) ggX12_pointAt_X12_alongY
set_option maxRecDepth 20000 in
theorem ggX12_pointAt_X12_alongX : GoodIn wsX12_pointAt wsX12_alongX := goodIn_r _ [67, 24, 60, 22, 3, 61, 62, 7, 63, 50, 68, 69, 70, 71, 72, 73, 74, 75, 76, 77, 78, 79, 80, 81, 82, 83, 84, 85, 86, 87, 88, 89, 90, 91, 92, 93, 94, 95, 96, 97, 98] (by decide +kernel) (by decide +kernel)
set_option maxRecDepth 20000 in
theorem gX12_pointAt_X12_alongX : GoodIn wsX12_pointAt (wsV RX12 163 RX12 yX12_alongX wsX12_alongX) := goodIn_app (goodIn_of _ (by decide +kernel)) ggX12_pointAt_X12_alongX
theorem dX12_pointAt_0 : decode cX12_pointAt 0 = .ok (.aload_n 0, 1) := by decide +kernel
theorem dX12_pointAt_1 : decode cX12_pointAt 1 = .ok (.aload_n 0, 1) := by decide +kernel
theorem dX12_pointAt_2 : decode cX12_pointAt 2 = .ok (.iload_n 1, 1) := by decide +kernel
theorem dX12_pointAt_3 : decode cX12_pointAt 3 = .ok (.invokevirtual 119, 3) := by decide +kernel
theorem dX12_pointAt_6 : decode cX12_pointAt 6 = .ok (.ifCond .ne 7, 3) := by decide +kernel
theorem dX12_pointAt_9 : decode cX12_pointAt 9 = .ok (.iconst 1, 1) := by decide +kernel
theorem dX12_pointAt_10 : decode cX12_pointAt 10 = .ok (.goto 22, 3) := by decide +kernel
theorem dX12_pointAt_13 : decode cX12_pointAt 13 = .ok (.iload_n 2, 1) := by decide +kernel
theorem dX12_pointAt_14 : decode cX12_pointAt 14 = .ok (.iconst 0, 1) := by decide +kernel
theorem dX12_pointAt_15 : decode cX12_pointAt 15 = .ok (.aload_n 0, 1) := by decide +kernel
theorem dX12_pointAt_16 : decode cX12_pointAt 16 = .ok (.iload_n 1, 1) := by decide +kernel
theorem dX12_pointAt_17 : decode cX12_pointAt 17 = .ok (.iconst 3, 1) := by decide +kernel
theorem dX12_pointAt_18 : decode cX12_pointAt 18 = .ok (.invokevirtual 157, 3) := by decide +kernel
theorem dX12_pointAt_21 : decode cX12_pointAt 21 = .ok (.invokestatic 65, 3) := by decide +kernel
theorem dX12_pointAt_24 : decode cX12_pointAt 24 = .ok (.ifCond .eq 7, 3) := by decide +kernel
theorem dX12_pointAt_27 : decode cX12_pointAt 27 = .ok (.iconst 0, 1) := by decide +kernel
theorem dX12_pointAt_28 : decode cX12_pointAt 28 = .ok (.goto 4, 3) := by decide +kernel
theorem dX12_pointAt_31 : decode cX12_pointAt 31 = .ok (.iconst 2, 1) := by decide +kernel
theorem dX12_pointAt_32 : decode cX12_pointAt 32 = .ok (.invokevirtual 76, 3) := by decide +kernel
theorem dX12_pointAt_35 : decode cX12_pointAt 35 = .ok (.ifCond .eq 5, 3) := by decide +kernel
theorem dX12_pointAt_38 : decode cX12_pointAt 38 = .ok (.iconst 0, 1) := by decide +kernel
theorem dX12_pointAt_39 : decode cX12_pointAt 39 = .ok (.ireturn, 1) := by decide +kernel
theorem dX12_pointAt_40 : decode cX12_pointAt 40 = .ok (.aload_n 0, 1) := by decide +kernel
theorem dX12_pointAt_41 : decode cX12_pointAt 41 = .ok (.getfield 116, 3) := by decide +kernel
theorem dX12_pointAt_44 : decode cX12_pointAt 44 = .ok (.ifCond .ne 26, 3) := by decide +kernel
theorem dX12_pointAt_47 : decode cX12_pointAt 47 = .ok (.bipush 64, 2) := by decide +kernel
theorem dX12_pointAt_49 : decode cX12_pointAt 49 = .ok (.iload_n 3, 1) := by decide +kernel
theorem dX12_pointAt_50 : decode cX12_pointAt 50 = .ok (.ifCond .eq 12, 3) := by decide +kernel
theorem dX12_pointAt_53 : decode cX12_pointAt 53 = .ok (.aload_n 0, 1) := by decide +kernel
theorem dX12_pointAt_54 : decode cX12_pointAt 54 = .ok (.iload_n 1, 1) := by decide +kernel
theorem dX12_pointAt_55 : decode cX12_pointAt 55 = .ok (.iconst 0, 1) := by decide +kernel
theorem dX12_pointAt_56 : decode cX12_pointAt 56 = .ok (.invokevirtual 126, 3) := by decide +kernel
theorem dX12_pointAt_59 : decode cX12_pointAt 59 = .ok (.goto 9, 3) := by decide +kernel
theorem dX12_pointAt_62 : decode cX12_pointAt 62 = .ok (.aload_n 0, 1) := by decide +kernel
theorem dX12_pointAt_63 : decode cX12_pointAt 63 = .ok (.iload_n 1, 1) := by decide +kernel
theorem dX12_pointAt_64 : decode cX12_pointAt 64 = .ok (.iconst 0, 1) := by decide +kernel
theorem dX12_pointAt_65 : decode cX12_pointAt 65 = .ok (.invokevirtual 122, 3) := by decide +kernel
theorem dX12_pointAt_68 : decode cX12_pointAt 68 = .ok (.imul, 1) := by decide +kernel
theorem dX12_pointAt_69 : decode cX12_pointAt 69 = .ok (.ireturn, 1) := by decide +kernel
theorem dX12_pointAt_70 : decode cX12_pointAt 70 = .ok (.iconst 0, 1) := by decide +kernel
theorem dX12_pointAt_71 : decode cX12_pointAt 71 = .ok (.istore 4, 2) := by decide +kernel
theorem dX12_pointAt_73 : decode cX12_pointAt 73 = .ok (.iload_n 2, 1) := by decide +kernel
theorem dX12_pointAt_74 : decode cX12_pointAt 74 = .ok (.aload_n 0, 1) := by decide +kernel
theorem dX12_pointAt_75 : decode cX12_pointAt 75 = .ok (.getfield 34, 3) := by decide +kernel
theorem dX12_pointAt_78 : decode cX12_pointAt 78 = .ok (.iload 4, 2) := by decide +kernel
theorem dX12_pointAt_80 : decode cX12_pointAt 80 = .ok (.iaload, 1) := by decide +kernel
theorem dX12_pointAt_81 : decode cX12_pointAt 81 = .ok (.aload_n 0, 1) := by decide +kernel
theorem dX12_pointAt_82 : decode cX12_pointAt 82 = .ok (.getfield 31, 3) := by decide +kernel
theorem dX12_pointAt_85 : decode cX12_pointAt 85 = .ok (.iload 4, 2) := by decide +kernel
theorem dX12_pointAt_87 : decode cX12_pointAt 87 = .ok (.iaload, 1) := by decide +kernel
theorem dX12_pointAt_88 : decode cX12_pointAt 88 = .ok (.iadd, 1) := by decide +kernel
theorem dX12_pointAt_89 : decode cX12_pointAt 89 = .ok (.if_icmp .le 9, 3) := by decide +kernel
theorem dX12_pointAt_92 : decode cX12_pointAt 92 = .ok (.iinc 4 1, 3) := by decide +kernel
theorem dX12_pointAt_95 : decode cX12_pointAt 95 = .ok (.goto (-22), 3) := by decide +kernel
theorem dX12_pointAt_98 : decode cX12_pointAt 98 = .ok (.iload_n 3, 1) := by decide +kernel
theorem dX12_pointAt_99 : decode cX12_pointAt 99 = .ok (.ifCond .eq 21, 3) := by decide +kernel
theorem dX12_pointAt_102 : decode cX12_pointAt 102 = .ok (.aload_n 0, 1) := by decide +kernel
theorem dX12_pointAt_103 : decode cX12_pointAt 103 = .ok (.iload 4, 2) := by decide +kernel
theorem dX12_pointAt_105 : decode cX12_pointAt 105 = .ok (.iload_n 2, 1) := by decide +kernel
theorem dX12_pointAt_106 : decode cX12_pointAt 106 = .ok (.aload_n 0, 1) := by decide +kernel
theorem dX12_pointAt_107 : decode cX12_pointAt 107 = .ok (.getfield 34, 3) := by decide +kernel
theorem dX12_pointAt_110 : decode cX12_pointAt 110 = .ok (.iload 4, 2) := by decide +kernel
theorem dX12_pointAt_112 : decode cX12_pointAt 112 = .ok (.iaload, 1) := by decide +kernel
theorem dX12_pointAt_113 : decode cX12_pointAt 113 = .ok (.isub, 1) := by decide +kernel
theorem dX12_pointAt_114 : decode cX12_pointAt 114 = .ok (.invokevirtual 160, 3) := by decide +kernel
theorem dX12_pointAt_117 : decode cX12_pointAt 117 = .ok (.goto 18, 3) := by decide +kernel
theorem dX12_pointAt_120 : decode cX12_pointAt 120 = .ok (.aload_n 0, 1) := by decide +kernel
theorem dX12_pointAt_121 : decode cX12_pointAt 121 = .ok (.iload 4, 2) := by decide +kernel
theorem dX12_pointAt_123 : decode cX12_pointAt 123 = .ok (.iload_n 2, 1) := by decide +kernel
theorem dX12_pointAt_124 : decode cX12_pointAt 124 = .ok (.aload_n 0, 1) := by decide +kernel
theorem dX12_pointAt_125 : decode cX12_pointAt 125 = .ok (.getfield 34, 3) := by decide +kernel
theorem dX12_pointAt_128 : decode cX12_pointAt 128 = .ok (.iload 4, 2) := by decide +kernel
theorem dX12_pointAt_130 : decode cX12_pointAt 130 = .ok (.iaload, 1) := by decide +kernel
theorem dX12_pointAt_131 : decode cX12_pointAt 131 = .ok (.isub, 1) := by decide +kernel
theorem dX12_pointAt_132 : decode cX12_pointAt 132 = .ok (.invokevirtual 163, 3) := by decide +kernel
theorem dX12_pointAt_135 : decode cX12_pointAt 135 = .ok (.ireturn, 1) := by decide +kernel
set_option maxRecDepth 20000 in
theorem ggX12_setStyle_X12_within : GoodIn wsX12_setStyle wsX12_within := goodIn_r _ [5] (by decide +kernel) (by decide +kernel)
set_option maxRecDepth 20000 in
theorem gX12_setStyle_X12_within : GoodIn wsX12_setStyle (va_wsS RX12 65 yX12_within wsX12_within) := goodIn_app (goodIn_of _ (by decide +kernel)) ggX12_setStyle_X12_within
set_option maxRecDepth 20000 in
theorem ggX12_setStyle_X12_refused : GoodIn wsX12_setStyle wsX12_refused := goodIn_r _ [9, 10, 17, 18, 19, 20, 21, 22, 23, 24, 25, 26, 27, 28, 29, 30, 31, 32, 33, 34, 35, 36, 37, 38, 39, 40, 41, 42, 43, 44, 45, 46, 47] (by decide +kernel) (by decide +kernel)
set_option maxRecDepth 20000 in
theorem gX12_setStyle_X12_refused : GoodIn wsX12_setStyle (wsV RX12 76 RX12 yX12_refused wsX12_refused) := goodIn_app (goodIn_of _ (by decide +kernel)) ggX12_setStyle_X12_refused
set_option maxRecDepth 20000 in
theorem ggX12_setStyle_X12_saves : GoodIn wsX12_setStyle wsX12_saves := goodIn_r _ [14, 15, 16, 1, 17, 18, 19, 20, 21, 22, 23, 24, 25, 26, 27, 28, 29, 30, 31, 32, 33, 34, 35, 36, 37, 38, 39, 40, 41, 42, 43, 44, 45, 46, 47] (by decide +kernel) (by decide +kernel)
set_option maxRecDepth 20000 in
theorem gX12_setStyle_X12_saves : GoodIn wsX12_setStyle (wsV RX12 95 RX12 yX12_saves wsX12_saves) := goodIn_app (goodIn_of _ (by decide +kernel)) ggX12_setStyle_X12_saves
theorem dX12_setStyle_0 : decode cX12_setStyle 0 = .ok (.aload_n 0, 1) := by decide +kernel
theorem dX12_setStyle_1 : decode cX12_setStyle 1 = .ok (.iload_n 1, 1) := by decide +kernel
theorem dX12_setStyle_2 : decode cX12_setStyle 2 = .ok (.iconst 1, 1) := by decide +kernel
theorem dX12_setStyle_3 : decode cX12_setStyle 3 = .ok (.bipush 40, 2) := by decide +kernel
theorem dX12_setStyle_5 : decode cX12_setStyle 5 = .ok (.invokestatic 65, 3) := by decide +kernel
theorem dX12_setStyle_8 : decode cX12_setStyle 8 = .ok (.ifCond .eq 36, 3) := by decide +kernel
theorem dX12_setStyle_11 : decode cX12_setStyle 11 = .ok (.iload_n 2, 1) := by decide +kernel
theorem dX12_setStyle_12 : decode cX12_setStyle 12 = .ok (.iconst 0, 1) := by decide +kernel
theorem dX12_setStyle_13 : decode cX12_setStyle 13 = .ok (.iconst 2, 1) := by decide +kernel
theorem dX12_setStyle_14 : decode cX12_setStyle 14 = .ok (.invokestatic 65, 3) := by decide +kernel
theorem dX12_setStyle_17 : decode cX12_setStyle 17 = .ok (.ifCond .eq 27, 3) := by decide +kernel
theorem dX12_setStyle_20 : decode cX12_setStyle 20 = .ok (.iload_n 3, 1) := by decide +kernel
theorem dX12_setStyle_21 : decode cX12_setStyle 21 = .ok (.iconst 1, 1) := by decide +kernel
theorem dX12_setStyle_22 : decode cX12_setStyle 22 = .ok (.bipush 10, 2) := by decide +kernel
theorem dX12_setStyle_24 : decode cX12_setStyle 24 = .ok (.invokestatic 65, 3) := by decide +kernel
theorem dX12_setStyle_27 : decode cX12_setStyle 27 = .ok (.ifCond .eq 17, 3) := by decide +kernel
theorem dX12_setStyle_30 : decode cX12_setStyle 30 = .ok (.iload 4, 2) := by decide +kernel
theorem dX12_setStyle_32 : decode cX12_setStyle 32 = .ok (.iconst 0, 1) := by decide +kernel
theorem dX12_setStyle_33 : decode cX12_setStyle 33 = .ok (.iconst 2, 1) := by decide +kernel
theorem dX12_setStyle_34 : decode cX12_setStyle 34 = .ok (.invokestatic 65, 3) := by decide +kernel
theorem dX12_setStyle_37 : decode cX12_setStyle 37 = .ok (.ifCond .eq 7, 3) := by decide +kernel
theorem dX12_setStyle_40 : decode cX12_setStyle 40 = .ok (.iconst 0, 1) := by decide +kernel
theorem dX12_setStyle_41 : decode cX12_setStyle 41 = .ok (.goto 4, 3) := by decide +kernel
theorem dX12_setStyle_44 : decode cX12_setStyle 44 = .ok (.iconst 1, 1) := by decide +kernel
theorem dX12_setStyle_45 : decode cX12_setStyle 45 = .ok (.invokevirtual 76, 3) := by decide +kernel
theorem dX12_setStyle_48 : decode cX12_setStyle 48 = .ok (.ifCond .eq 5, 3) := by decide +kernel
theorem dX12_setStyle_51 : decode cX12_setStyle 51 = .ok (.iconst 0, 1) := by decide +kernel
theorem dX12_setStyle_52 : decode cX12_setStyle 52 = .ok (.ireturn, 1) := by decide +kernel
theorem dX12_setStyle_53 : decode cX12_setStyle 53 = .ok (.aload_n 0, 1) := by decide +kernel
theorem dX12_setStyle_54 : decode cX12_setStyle 54 = .ok (.invokevirtual 95, 3) := by decide +kernel
theorem dX12_setStyle_57 : decode cX12_setStyle 57 = .ok (.aload_n 0, 1) := by decide +kernel
theorem dX12_setStyle_58 : decode cX12_setStyle 58 = .ok (.getfield 7, 3) := by decide +kernel
theorem dX12_setStyle_61 : decode cX12_setStyle 61 = .ok (.iconst 0, 1) := by decide +kernel
theorem dX12_setStyle_62 : decode cX12_setStyle 62 = .ok (.iaload, 1) := by decide +kernel
theorem dX12_setStyle_63 : decode cX12_setStyle 63 = .ok (.istore 5, 2) := by decide +kernel
theorem dX12_setStyle_65 : decode cX12_setStyle 65 = .ok (.aload_n 0, 1) := by decide +kernel
theorem dX12_setStyle_66 : decode cX12_setStyle 66 = .ok (.getfield 7, 3) := by decide +kernel
theorem dX12_setStyle_69 : decode cX12_setStyle 69 = .ok (.iconst 0, 1) := by decide +kernel
theorem dX12_setStyle_70 : decode cX12_setStyle 70 = .ok (.iload_n 1, 1) := by decide +kernel
theorem dX12_setStyle_71 : decode cX12_setStyle 71 = .ok (.iastore, 1) := by decide +kernel
theorem dX12_setStyle_72 : decode cX12_setStyle 72 = .ok (.aload_n 0, 1) := by decide +kernel
theorem dX12_setStyle_73 : decode cX12_setStyle 73 = .ok (.getfield 7, 3) := by decide +kernel
theorem dX12_setStyle_76 : decode cX12_setStyle 76 = .ok (.iconst 1, 1) := by decide +kernel
theorem dX12_setStyle_77 : decode cX12_setStyle 77 = .ok (.iload_n 2, 1) := by decide +kernel
theorem dX12_setStyle_78 : decode cX12_setStyle 78 = .ok (.iastore, 1) := by decide +kernel
theorem dX12_setStyle_79 : decode cX12_setStyle 79 = .ok (.aload_n 0, 1) := by decide +kernel
theorem dX12_setStyle_80 : decode cX12_setStyle 80 = .ok (.getfield 7, 3) := by decide +kernel
theorem dX12_setStyle_83 : decode cX12_setStyle 83 = .ok (.iconst 2, 1) := by decide +kernel
theorem dX12_setStyle_84 : decode cX12_setStyle 84 = .ok (.iload_n 3, 1) := by decide +kernel
theorem dX12_setStyle_85 : decode cX12_setStyle 85 = .ok (.iastore, 1) := by decide +kernel
theorem dX12_setStyle_86 : decode cX12_setStyle 86 = .ok (.aload_n 0, 1) := by decide +kernel
theorem dX12_setStyle_87 : decode cX12_setStyle 87 = .ok (.getfield 7, 3) := by decide +kernel
theorem dX12_setStyle_90 : decode cX12_setStyle 90 = .ok (.iconst 3, 1) := by decide +kernel
theorem dX12_setStyle_91 : decode cX12_setStyle 91 = .ok (.iload 4, 2) := by decide +kernel
theorem dX12_setStyle_93 : decode cX12_setStyle 93 = .ok (.iastore, 1) := by decide +kernel
theorem dX12_setStyle_94 : decode cX12_setStyle 94 = .ok (.iload 5, 2) := by decide +kernel
theorem dX12_setStyle_96 : decode cX12_setStyle 96 = .ok (.ireturn, 1) := by decide +kernel
set_option maxRecDepth 20000 in
theorem ggX12_setDashes_X12_within : GoodIn wsX12_setDashes wsX12_within := goodIn_r _ [5] (by decide +kernel) (by decide +kernel)
set_option maxRecDepth 20000 in
theorem gX12_setDashes_X12_within : GoodIn wsX12_setDashes (va_wsS RX12 65 yX12_within wsX12_within) := goodIn_app (goodIn_of _ (by decide +kernel)) ggX12_setDashes_X12_within
set_option maxRecDepth 20000 in
theorem ggX12_setDashes_X12_refused : GoodIn wsX12_setDashes wsX12_refused := goodIn_r _ [9, 10, 17, 18, 19, 20, 21, 22, 23, 24, 25, 26, 27, 28, 29, 30, 31, 32, 33, 34, 35, 36, 37, 38, 39, 40, 41, 42, 43, 44, 45, 46, 47] (by decide +kernel) (by decide +kernel)
set_option maxRecDepth 20000 in
theorem gX12_setDashes_X12_refused : GoodIn wsX12_setDashes (wsV RX12 76 RX12 yX12_refused wsX12_refused) := goodIn_app (goodIn_of _ (by decide +kernel)) ggX12_setDashes_X12_refused
set_option maxRecDepth 20000 in
theorem ggX12_setDashes_X12_saves : GoodIn wsX12_setDashes wsX12_saves := goodIn_r _ [14, 15, 16, 1, 17, 18, 19, 20, 21, 22, 23, 24, 25, 26, 27, 28, 29, 30, 31, 32, 33, 34, 35, 36, 37, 38, 39, 40, 41, 42, 43, 44, 45, 46, 47] (by decide +kernel) (by decide +kernel)
set_option maxRecDepth 20000 in
theorem gX12_setDashes_X12_saves : GoodIn wsX12_setDashes (wsV RX12 95 RX12 yX12_saves wsX12_saves) := goodIn_app (goodIn_of _ (by decide +kernel)) ggX12_setDashes_X12_saves
theorem dX12_setDashes_0 : decode cX12_setDashes 0 = .ok (.aload_n 0, 1) := by decide +kernel
theorem dX12_setDashes_1 : decode cX12_setDashes 1 = .ok (.iload_n 1, 1) := by decide +kernel
theorem dX12_setDashes_2 : decode cX12_setDashes 2 = .ok (.iconst 0, 1) := by decide +kernel
theorem dX12_setDashes_3 : decode cX12_setDashes 3 = .ok (.sipush 600, 3) := by decide +kernel
theorem dX12_setDashes_6 : decode cX12_setDashes 6 = .ok (.invokestatic 65, 3) := by decide +kernel
theorem dX12_setDashes_9 : decode cX12_setDashes 9 = .ok (.ifCond .eq 7, 3) := by decide +kernel
theorem dX12_setDashes_12 : decode cX12_setDashes 12 = .ok (.iconst 0, 1) := by decide +kernel
theorem dX12_setDashes_13 : decode cX12_setDashes 13 = .ok (.goto 4, 3) := by decide +kernel
theorem dX12_setDashes_16 : decode cX12_setDashes 16 = .ok (.iconst 1, 1) := by decide +kernel
theorem dX12_setDashes_17 : decode cX12_setDashes 17 = .ok (.invokevirtual 76, 3) := by decide +kernel
theorem dX12_setDashes_20 : decode cX12_setDashes 20 = .ok (.ifCond .eq 5, 3) := by decide +kernel
theorem dX12_setDashes_23 : decode cX12_setDashes 23 = .ok (.iconst 0, 1) := by decide +kernel
theorem dX12_setDashes_24 : decode cX12_setDashes 24 = .ok (.ireturn, 1) := by decide +kernel
theorem dX12_setDashes_25 : decode cX12_setDashes 25 = .ok (.aload_n 0, 1) := by decide +kernel
theorem dX12_setDashes_26 : decode cX12_setDashes 26 = .ok (.invokevirtual 95, 3) := by decide +kernel
theorem dX12_setDashes_29 : decode cX12_setDashes 29 = .ok (.aload_n 0, 1) := by decide +kernel
theorem dX12_setDashes_30 : decode cX12_setDashes 30 = .ok (.getfield 7, 3) := by decide +kernel
theorem dX12_setDashes_33 : decode cX12_setDashes 33 = .ok (.bipush 6, 2) := by decide +kernel
theorem dX12_setDashes_35 : decode cX12_setDashes 35 = .ok (.iaload, 1) := by decide +kernel
theorem dX12_setDashes_36 : decode cX12_setDashes 36 = .ok (.istore_n 3, 1) := by decide +kernel
theorem dX12_setDashes_37 : decode cX12_setDashes 37 = .ok (.aload_n 0, 1) := by decide +kernel
theorem dX12_setDashes_38 : decode cX12_setDashes 38 = .ok (.getfield 7, 3) := by decide +kernel
theorem dX12_setDashes_41 : decode cX12_setDashes 41 = .ok (.bipush 6, 2) := by decide +kernel
theorem dX12_setDashes_43 : decode cX12_setDashes 43 = .ok (.iconst 0, 1) := by decide +kernel
theorem dX12_setDashes_44 : decode cX12_setDashes 44 = .ok (.iastore, 1) := by decide +kernel
theorem dX12_setDashes_45 : decode cX12_setDashes 45 = .ok (.aload_n 0, 1) := by decide +kernel
theorem dX12_setDashes_46 : decode cX12_setDashes 46 = .ok (.getfield 7, 3) := by decide +kernel
theorem dX12_setDashes_49 : decode cX12_setDashes 49 = .ok (.iconst 4, 1) := by decide +kernel
theorem dX12_setDashes_50 : decode cX12_setDashes 50 = .ok (.iload_n 1, 1) := by decide +kernel
theorem dX12_setDashes_51 : decode cX12_setDashes 51 = .ok (.iastore, 1) := by decide +kernel
theorem dX12_setDashes_52 : decode cX12_setDashes 52 = .ok (.aload_n 0, 1) := by decide +kernel
theorem dX12_setDashes_53 : decode cX12_setDashes 53 = .ok (.getfield 7, 3) := by decide +kernel
theorem dX12_setDashes_56 : decode cX12_setDashes 56 = .ok (.iconst 5, 1) := by decide +kernel
theorem dX12_setDashes_57 : decode cX12_setDashes 57 = .ok (.iload_n 2, 1) := by decide +kernel
theorem dX12_setDashes_58 : decode cX12_setDashes 58 = .ok (.ifCond .eq 7, 3) := by decide +kernel
theorem dX12_setDashes_61 : decode cX12_setDashes 61 = .ok (.iconst 1, 1) := by decide +kernel
theorem dX12_setDashes_62 : decode cX12_setDashes 62 = .ok (.goto 4, 3) := by decide +kernel
theorem dX12_setDashes_65 : decode cX12_setDashes 65 = .ok (.iconst 0, 1) := by decide +kernel
theorem dX12_setDashes_66 : decode cX12_setDashes 66 = .ok (.iastore, 1) := by decide +kernel
theorem dX12_setDashes_67 : decode cX12_setDashes 67 = .ok (.iload_n 3, 1) := by decide +kernel
theorem dX12_setDashes_68 : decode cX12_setDashes 68 = .ok (.ireturn, 1) := by decide +kernel
set_option maxRecDepth 20000 in
theorem ggX12_addDash_X12_within : GoodIn wsX12_addDash wsX12_within := goodIn_r _ [5] (by decide +kernel) (by decide +kernel)
set_option maxRecDepth 20000 in
theorem gX12_addDash_X12_within : GoodIn wsX12_addDash (va_wsS RX12 65 yX12_within wsX12_within) := goodIn_app (goodIn_of _ (by decide +kernel)) ggX12_addDash_X12_within
set_option maxRecDepth 20000 in
theorem ggX12_addDash_X12_refused : GoodIn wsX12_addDash wsX12_refused := goodIn_r _ [9, 10, 17, 18, 19, 20, 21, 22, 23, 24, 25, 26, 27, 28, 29, 30, 31, 32, 33, 34, 35, 36, 37, 38, 39, 40, 41, 42, 43, 44, 45, 46, 47] (by decide +kernel) (by decide +kernel)
set_option maxRecDepth 20000 in
theorem gX12_addDash_X12_refused : GoodIn wsX12_addDash (wsV RX12 76 RX12 yX12_refused wsX12_refused) := goodIn_app (goodIn_of _ (by decide +kernel)) ggX12_addDash_X12_refused
set_option maxRecDepth 20000 in
theorem ggX12_addDash_X12_saves : GoodIn wsX12_addDash wsX12_saves := goodIn_r _ [14, 15, 16, 1, 17, 18, 19, 20, 21, 22, 23, 24, 25, 26, 27, 28, 29, 30, 31, 32, 33, 34, 35, 36, 37, 38, 39, 40, 41, 42, 43, 44, 45, 46, 47] (by decide +kernel) (by decide +kernel)
set_option maxRecDepth 20000 in
theorem gX12_addDash_X12_saves : GoodIn wsX12_addDash (wsV RX12 95 RX12 yX12_saves wsX12_saves) := goodIn_app (goodIn_of _ (by decide +kernel)) ggX12_addDash_X12_saves
theorem dX12_addDash_0 : decode cX12_addDash 0 = .ok (.aload_n 0, 1) := by decide +kernel
theorem dX12_addDash_1 : decode cX12_addDash 1 = .ok (.iload_n 1, 1) := by decide +kernel
theorem dX12_addDash_2 : decode cX12_addDash 2 = .ok (.iconst 5, 1) := by decide +kernel
theorem dX12_addDash_3 : decode cX12_addDash 3 = .ok (.bipush 100, 2) := by decide +kernel
theorem dX12_addDash_5 : decode cX12_addDash 5 = .ok (.invokestatic 65, 3) := by decide +kernel
theorem dX12_addDash_8 : decode cX12_addDash 8 = .ok (.ifCond .ne 7, 3) := by decide +kernel
theorem dX12_addDash_11 : decode cX12_addDash 11 = .ok (.iconst 1, 1) := by decide +kernel
theorem dX12_addDash_12 : decode cX12_addDash 12 = .ok (.goto 20, 3) := by decide +kernel
theorem dX12_addDash_15 : decode cX12_addDash 15 = .ok (.aload_n 0, 1) := by decide +kernel
theorem dX12_addDash_16 : decode cX12_addDash 16 = .ok (.getfield 7, 3) := by decide +kernel
theorem dX12_addDash_19 : decode cX12_addDash 19 = .ok (.bipush 6, 2) := by decide +kernel
theorem dX12_addDash_21 : decode cX12_addDash 21 = .ok (.iaload, 1) := by decide +kernel
theorem dX12_addDash_22 : decode cX12_addDash 22 = .ok (.bipush 6, 2) := by decide +kernel
theorem dX12_addDash_24 : decode cX12_addDash 24 = .ok (.if_icmp .ne 7, 3) := by decide +kernel
theorem dX12_addDash_27 : decode cX12_addDash 27 = .ok (.iconst 2, 1) := by decide +kernel
theorem dX12_addDash_28 : decode cX12_addDash 28 = .ok (.goto 4, 3) := by decide +kernel
theorem dX12_addDash_31 : decode cX12_addDash 31 = .ok (.iconst 0, 1) := by decide +kernel
theorem dX12_addDash_32 : decode cX12_addDash 32 = .ok (.invokevirtual 76, 3) := by decide +kernel
theorem dX12_addDash_35 : decode cX12_addDash 35 = .ok (.ifCond .eq 5, 3) := by decide +kernel
theorem dX12_addDash_38 : decode cX12_addDash 38 = .ok (.iconst 0, 1) := by decide +kernel
theorem dX12_addDash_39 : decode cX12_addDash 39 = .ok (.ireturn, 1) := by decide +kernel
theorem dX12_addDash_40 : decode cX12_addDash 40 = .ok (.aload_n 0, 1) := by decide +kernel
theorem dX12_addDash_41 : decode cX12_addDash 41 = .ok (.invokevirtual 95, 3) := by decide +kernel
theorem dX12_addDash_44 : decode cX12_addDash 44 = .ok (.aload_n 0, 1) := by decide +kernel
theorem dX12_addDash_45 : decode cX12_addDash 45 = .ok (.getfield 7, 3) := by decide +kernel
theorem dX12_addDash_48 : decode cX12_addDash 48 = .ok (.bipush 7, 2) := by decide +kernel
theorem dX12_addDash_50 : decode cX12_addDash 50 = .ok (.aload_n 0, 1) := by decide +kernel
theorem dX12_addDash_51 : decode cX12_addDash 51 = .ok (.getfield 7, 3) := by decide +kernel
theorem dX12_addDash_54 : decode cX12_addDash 54 = .ok (.bipush 6, 2) := by decide +kernel
theorem dX12_addDash_56 : decode cX12_addDash 56 = .ok (.iaload, 1) := by decide +kernel
theorem dX12_addDash_57 : decode cX12_addDash 57 = .ok (.iadd, 1) := by decide +kernel
theorem dX12_addDash_58 : decode cX12_addDash 58 = .ok (.iload_n 1, 1) := by decide +kernel
theorem dX12_addDash_59 : decode cX12_addDash 59 = .ok (.iastore, 1) := by decide +kernel
theorem dX12_addDash_60 : decode cX12_addDash 60 = .ok (.aload_n 0, 1) := by decide +kernel
theorem dX12_addDash_61 : decode cX12_addDash 61 = .ok (.getfield 7, 3) := by decide +kernel
theorem dX12_addDash_64 : decode cX12_addDash 64 = .ok (.bipush 6, 2) := by decide +kernel
theorem dX12_addDash_66 : decode cX12_addDash 66 = .ok (.dup2, 1) := by decide +kernel
theorem dX12_addDash_67 : decode cX12_addDash 67 = .ok (.iaload, 1) := by decide +kernel
theorem dX12_addDash_68 : decode cX12_addDash 68 = .ok (.iconst 1, 1) := by decide +kernel
theorem dX12_addDash_69 : decode cX12_addDash 69 = .ok (.iadd, 1) := by decide +kernel
theorem dX12_addDash_70 : decode cX12_addDash 70 = .ok (.iastore, 1) := by decide +kernel
theorem dX12_addDash_71 : decode cX12_addDash 71 = .ok (.aload_n 0, 1) := by decide +kernel
theorem dX12_addDash_72 : decode cX12_addDash 72 = .ok (.getfield 7, 3) := by decide +kernel
theorem dX12_addDash_75 : decode cX12_addDash 75 = .ok (.bipush 6, 2) := by decide +kernel
theorem dX12_addDash_77 : decode cX12_addDash 77 = .ok (.iaload, 1) := by decide +kernel
theorem dX12_addDash_78 : decode cX12_addDash 78 = .ok (.ireturn, 1) := by decide +kernel
theorem dX12_stretch_0 : decode cX12_stretch 0 = .ok (.aload_n 0, 1) := by decide +kernel
theorem dX12_stretch_1 : decode cX12_stretch 1 = .ok (.getfield 7, 3) := by decide +kernel
theorem dX12_stretch_4 : decode cX12_stretch 4 = .ok (.bipush 6, 2) := by decide +kernel
theorem dX12_stretch_6 : decode cX12_stretch 6 = .ok (.iaload, 1) := by decide +kernel
theorem dX12_stretch_7 : decode cX12_stretch 7 = .ok (.istore_n 2, 1) := by decide +kernel
theorem dX12_stretch_8 : decode cX12_stretch 8 = .ok (.iconst 0, 1) := by decide +kernel
theorem dX12_stretch_9 : decode cX12_stretch 9 = .ok (.istore_n 3, 1) := by decide +kernel
theorem dX12_stretch_10 : decode cX12_stretch 10 = .ok (.iconst 0, 1) := by decide +kernel
theorem dX12_stretch_11 : decode cX12_stretch 11 = .ok (.istore 4, 2) := by decide +kernel
theorem dX12_stretch_13 : decode cX12_stretch 13 = .ok (.iload 4, 2) := by decide +kernel
theorem dX12_stretch_15 : decode cX12_stretch 15 = .ok (.iload_n 2, 1) := by decide +kernel
theorem dX12_stretch_16 : decode cX12_stretch 16 = .ok (.if_icmp .ge 25, 3) := by decide +kernel
theorem dX12_stretch_19 : decode cX12_stretch 19 = .ok (.iload_n 3, 1) := by decide +kernel
theorem dX12_stretch_20 : decode cX12_stretch 20 = .ok (.bipush 64, 2) := by decide +kernel
theorem dX12_stretch_22 : decode cX12_stretch 22 = .ok (.aload_n 0, 1) := by decide +kernel
theorem dX12_stretch_23 : decode cX12_stretch 23 = .ok (.getfield 7, 3) := by decide +kernel
theorem dX12_stretch_26 : decode cX12_stretch 26 = .ok (.bipush 7, 2) := by decide +kernel
theorem dX12_stretch_28 : decode cX12_stretch 28 = .ok (.iload 4, 2) := by decide +kernel
theorem dX12_stretch_30 : decode cX12_stretch 30 = .ok (.iadd, 1) := by decide +kernel
theorem dX12_stretch_31 : decode cX12_stretch 31 = .ok (.iaload, 1) := by decide +kernel
theorem dX12_stretch_32 : decode cX12_stretch 32 = .ok (.imul, 1) := by decide +kernel
theorem dX12_stretch_33 : decode cX12_stretch 33 = .ok (.iadd, 1) := by decide +kernel
theorem dX12_stretch_34 : decode cX12_stretch 34 = .ok (.istore_n 3, 1) := by decide +kernel
theorem dX12_stretch_35 : decode cX12_stretch 35 = .ok (.iinc 4 1, 3) := by decide +kernel
theorem dX12_stretch_38 : decode cX12_stretch 38 = .ok (.goto (-25), 3) := by decide +kernel
theorem dX12_stretch_41 : decode cX12_stretch 41 = .ok (.iload_n 1, 1) := by decide +kernel
theorem dX12_stretch_42 : decode cX12_stretch 42 = .ok (.iconst 2, 1) := by decide +kernel
theorem dX12_stretch_43 : decode cX12_stretch 43 = .ok (.iload_n 3, 1) := by decide +kernel
theorem dX12_stretch_44 : decode cX12_stretch 44 = .ok (.imul, 1) := by decide +kernel
theorem dX12_stretch_45 : decode cX12_stretch 45 = .ok (.irem, 1) := by decide +kernel
theorem dX12_stretch_46 : decode cX12_stretch 46 = .ok (.istore 4, 2) := by decide +kernel
theorem dX12_stretch_48 : decode cX12_stretch 48 = .ok (.iconst 0, 1) := by decide +kernel
theorem dX12_stretch_49 : decode cX12_stretch 49 = .ok (.istore 5, 2) := by decide +kernel
theorem dX12_stretch_51 : decode cX12_stretch 51 = .ok (.iload 4, 2) := by decide +kernel
theorem dX12_stretch_53 : decode cX12_stretch 53 = .ok (.bipush 64, 2) := by decide +kernel
theorem dX12_stretch_55 : decode cX12_stretch 55 = .ok (.aload_n 0, 1) := by decide +kernel
theorem dX12_stretch_56 : decode cX12_stretch 56 = .ok (.getfield 7, 3) := by decide +kernel
theorem dX12_stretch_59 : decode cX12_stretch 59 = .ok (.bipush 7, 2) := by decide +kernel
theorem dX12_stretch_61 : decode cX12_stretch 61 = .ok (.iload 5, 2) := by decide +kernel
theorem dX12_stretch_63 : decode cX12_stretch 63 = .ok (.iload_n 2, 1) := by decide +kernel
theorem dX12_stretch_64 : decode cX12_stretch 64 = .ok (.irem, 1) := by decide +kernel
theorem dX12_stretch_65 : decode cX12_stretch 65 = .ok (.iadd, 1) := by decide +kernel
theorem dX12_stretch_66 : decode cX12_stretch 66 = .ok (.iaload, 1) := by decide +kernel
theorem dX12_stretch_67 : decode cX12_stretch 67 = .ok (.imul, 1) := by decide +kernel
theorem dX12_stretch_68 : decode cX12_stretch 68 = .ok (.if_icmp .lt 29, 3) := by decide +kernel
theorem dX12_stretch_71 : decode cX12_stretch 71 = .ok (.iload 4, 2) := by decide +kernel
theorem dX12_stretch_73 : decode cX12_stretch 73 = .ok (.bipush 64, 2) := by decide +kernel
theorem dX12_stretch_75 : decode cX12_stretch 75 = .ok (.aload_n 0, 1) := by decide +kernel
theorem dX12_stretch_76 : decode cX12_stretch 76 = .ok (.getfield 7, 3) := by decide +kernel
theorem dX12_stretch_79 : decode cX12_stretch 79 = .ok (.bipush 7, 2) := by decide +kernel
theorem dX12_stretch_81 : decode cX12_stretch 81 = .ok (.iload 5, 2) := by decide +kernel
theorem dX12_stretch_83 : decode cX12_stretch 83 = .ok (.iload_n 2, 1) := by decide +kernel
theorem dX12_stretch_84 : decode cX12_stretch 84 = .ok (.irem, 1) := by decide +kernel
theorem dX12_stretch_85 : decode cX12_stretch 85 = .ok (.iadd, 1) := by decide +kernel
theorem dX12_stretch_86 : decode cX12_stretch 86 = .ok (.iaload, 1) := by decide +kernel
theorem dX12_stretch_87 : decode cX12_stretch 87 = .ok (.imul, 1) := by decide +kernel
theorem dX12_stretch_88 : decode cX12_stretch 88 = .ok (.isub, 1) := by decide +kernel
theorem dX12_stretch_89 : decode cX12_stretch 89 = .ok (.istore 4, 2) := by decide +kernel
theorem dX12_stretch_91 : decode cX12_stretch 91 = .ok (.iinc 5 1, 3) := by decide +kernel
theorem dX12_stretch_94 : decode cX12_stretch 94 = .ok (.goto (-43), 3) := by decide +kernel
theorem dX12_stretch_97 : decode cX12_stretch 97 = .ok (.bipush 64, 2) := by decide +kernel
theorem dX12_stretch_99 : decode cX12_stretch 99 = .ok (.aload_n 0, 1) := by decide +kernel
theorem dX12_stretch_100 : decode cX12_stretch 100 = .ok (.getfield 7, 3) := by decide +kernel
theorem dX12_stretch_103 : decode cX12_stretch 103 = .ok (.bipush 7, 2) := by decide +kernel
theorem dX12_stretch_105 : decode cX12_stretch 105 = .ok (.iload 5, 2) := by decide +kernel
theorem dX12_stretch_107 : decode cX12_stretch 107 = .ok (.iload_n 2, 1) := by decide +kernel
theorem dX12_stretch_108 : decode cX12_stretch 108 = .ok (.irem, 1) := by decide +kernel
theorem dX12_stretch_109 : decode cX12_stretch 109 = .ok (.iadd, 1) := by decide +kernel
theorem dX12_stretch_110 : decode cX12_stretch 110 = .ok (.iaload, 1) := by decide +kernel
theorem dX12_stretch_111 : decode cX12_stretch 111 = .ok (.imul, 1) := by decide +kernel
theorem dX12_stretch_112 : decode cX12_stretch 112 = .ok (.iload 4, 2) := by decide +kernel
theorem dX12_stretch_114 : decode cX12_stretch 114 = .ok (.isub, 1) := by decide +kernel
theorem dX12_stretch_115 : decode cX12_stretch 115 = .ok (.istore 6, 2) := by decide +kernel
theorem dX12_stretch_117 : decode cX12_stretch 117 = .ok (.iload 5, 2) := by decide +kernel
theorem dX12_stretch_119 : decode cX12_stretch 119 = .ok (.iconst 2, 1) := by decide +kernel
theorem dX12_stretch_120 : decode cX12_stretch 120 = .ok (.irem, 1) := by decide +kernel
theorem dX12_stretch_121 : decode cX12_stretch 121 = .ok (.ifCond .ne 8, 3) := by decide +kernel
theorem dX12_stretch_124 : decode cX12_stretch 124 = .ok (.iload 6, 2) := by decide +kernel
theorem dX12_stretch_126 : decode cX12_stretch 126 = .ok (.goto 6, 3) := by decide +kernel
theorem dX12_stretch_129 : decode cX12_stretch 129 = .ok (.iload 6, 2) := by decide +kernel
theorem dX12_stretch_131 : decode cX12_stretch 131 = .ok (.ineg, 1) := by decide +kernel
theorem dX12_stretch_132 : decode cX12_stretch 132 = .ok (.ireturn, 1) := by decide +kernel
set_option maxRecDepth 20000 in
theorem ggX12_ahead_X12_laysSegments : GoodIn wsX12_ahead wsX12_laysSegments := goodIn_r _ [6, 7, 1, 8, 9, 10, 11, 12, 13, 14, 15, 16, 17, 5, 18, 19, 20, 21, 22, 23, 24, 25, 26, 27, 28, 29, 30, 31, 32, 33, 34, 35, 36, 37, 38, 39, 40, 41, 42, 43, 44, 45, 46, 47, 48, 49, 50, 51, 52, 53, 54, 55, 56, 57, 58, 59, 60, 61, 62, 63, 64, 65, 66, 67, 68, 69, 70] (by decide +kernel) (by decide +kernel)
set_option maxRecDepth 20000 in
theorem gX12_ahead_X12_laysSegments : GoodIn wsX12_ahead (wsV RX12 112 RX12 yX12_laysSegments wsX12_laysSegments) := goodIn_app (goodIn_of _ (by decide +kernel)) ggX12_ahead_X12_laysSegments
theorem dX12_ahead_0 : decode cX12_ahead 0 = .ok (.iconst 0, 1) := by decide +kernel
theorem dX12_ahead_1 : decode cX12_ahead 1 = .ok (.istore_n 2, 1) := by decide +kernel
theorem dX12_ahead_2 : decode cX12_ahead 2 = .ok (.iconst 0, 1) := by decide +kernel
theorem dX12_ahead_3 : decode cX12_ahead 3 = .ok (.istore_n 3, 1) := by decide +kernel
theorem dX12_ahead_4 : decode cX12_ahead 4 = .ok (.iload_n 3, 1) := by decide +kernel
theorem dX12_ahead_5 : decode cX12_ahead 5 = .ok (.iload_n 1, 1) := by decide +kernel
theorem dX12_ahead_6 : decode cX12_ahead 6 = .ok (.if_icmp .ge 21, 3) := by decide +kernel
theorem dX12_ahead_9 : decode cX12_ahead 9 = .ok (.aload_n 0, 1) := by decide +kernel
theorem dX12_ahead_10 : decode cX12_ahead 10 = .ok (.iload_n 3, 1) := by decide +kernel
theorem dX12_ahead_11 : decode cX12_ahead 11 = .ok (.invokevirtual 112, 3) := by decide +kernel
theorem dX12_ahead_14 : decode cX12_ahead 14 = .ok (.iload_n 2, 1) := by decide +kernel
theorem dX12_ahead_15 : decode cX12_ahead 15 = .ok (.aload_n 0, 1) := by decide +kernel
theorem dX12_ahead_16 : decode cX12_ahead 16 = .ok (.getfield 142, 3) := by decide +kernel
theorem dX12_ahead_19 : decode cX12_ahead 19 = .ok (.iadd, 1) := by decide +kernel
theorem dX12_ahead_20 : decode cX12_ahead 20 = .ok (.istore_n 2, 1) := by decide +kernel
theorem dX12_ahead_21 : decode cX12_ahead 21 = .ok (.iinc 3 1, 3) := by decide +kernel
theorem dX12_ahead_24 : decode cX12_ahead 24 = .ok (.goto (-20), 3) := by decide +kernel
theorem dX12_ahead_27 : decode cX12_ahead 27 = .ok (.iload_n 2, 1) := by decide +kernel
theorem dX12_ahead_28 : decode cX12_ahead 28 = .ok (.ireturn, 1) := by decide +kernel
set_option maxRecDepth 20000 in
theorem ggX12_laysRuns_X12_ahead : GoodIn wsX12_laysRuns wsX12_ahead := goodIn_r _ [11, 4, 12, 13, 14, 10, 15, 16, 17, 18, 19, 20, 21, 22, 23, 24, 25, 26, 27, 1, 28, 29, 30, 31, 32, 33, 34, 35, 36, 37, 38, 39, 40, 41, 42, 43, 44, 45, 46, 47, 52, 53, 54, 55, 56, 57, 58, 59, 60, 61, 62, 63, 64, 65, 66, 67, 68, 69, 70, 71, 72, 73, 74, 75, 76, 77, 78, 79, 80, 81, 82] (by decide +kernel) (by decide +kernel)
set_option maxRecDepth 20000 in
theorem gX12_laysRuns_X12_ahead : GoodIn wsX12_laysRuns (wsV RX12 166 RX12 yX12_ahead wsX12_ahead) := goodIn_app (goodIn_of _ (by decide +kernel)) ggX12_laysRuns_X12_ahead
set_option maxRecDepth 20000 in
theorem ggX12_laysRuns_X12_laysSegments : GoodIn wsX12_laysRuns wsX12_laysSegments := goodIn_r _ [15, 16, 4, 17, 18, 19, 20, 21, 22, 23, 24, 25, 26, 10, 27, 1, 28, 29, 30, 31, 32, 33, 34, 35, 36, 37, 38, 39, 40, 41, 42, 43, 44, 45, 46, 47, 52, 53, 54, 55, 56, 57, 58, 59, 60, 61, 62, 63, 64, 65, 66, 67, 68, 69, 70, 71, 72, 73, 74, 75, 76, 77, 78, 79, 80, 81, 82] (by decide +kernel) (by decide +kernel)
set_option maxRecDepth 20000 in
theorem gX12_laysRuns_X12_laysSegments : GoodIn wsX12_laysRuns (wsV RX12 112 RX12 yX12_laysSegments wsX12_laysSegments) := goodIn_app (goodIn_of _ (by decide +kernel)) ggX12_laysRuns_X12_laysSegments
set_option maxRecDepth 20000 in
theorem ggX12_laysRuns_X12_stretch : GoodIn wsX12_laysRuns wsX12_stretch := goodIn_r _ [51, 1, 52, 53, 54, 55, 56, 57, 58, 59, 60, 61, 62, 63, 64, 65, 66, 67, 68, 69, 70, 71, 72, 73, 74, 75, 76, 77, 78, 79, 80, 81, 82] (by decide +kernel) (by decide +kernel)
set_option maxRecDepth 20000 in
theorem gX12_laysRuns_X12_stretch : GoodIn wsX12_laysRuns (wsV RX12 176 RX12 yX12_stretch wsX12_stretch) := goodIn_app (goodIn_of _ (by decide +kernel)) ggX12_laysRuns_X12_stretch
set_option maxRecDepth 20000 in
theorem ggX12_laysRuns_X12_isClosed : GoodIn wsX12_laysRuns wsX12_isClosed := goodIn_r _ [34, 1, 28, 29, 10, 30, 52, 53, 54, 55, 56, 57, 58, 59, 60, 61, 62, 63, 64, 65, 66, 67, 68, 69, 70, 71, 72, 73, 74, 75, 76, 77, 78, 79, 80, 81, 82] (by decide +kernel) (by decide +kernel)
set_option maxRecDepth 20000 in
theorem gX12_laysRuns_X12_isClosed : GoodIn wsX12_laysRuns (wsV RX12 102 RX12 yX12_isClosed wsX12_isClosed) := goodIn_app (goodIn_of _ (by decide +kernel)) ggX12_laysRuns_X12_isClosed
theorem dX12_laysRuns_0 : decode cX12_laysRuns 0 = .ok (.bipush 64, 2) := by decide +kernel
theorem dX12_laysRuns_2 : decode cX12_laysRuns 2 = .ok (.aload_n 0, 1) := by decide +kernel
theorem dX12_laysRuns_3 : decode cX12_laysRuns 3 = .ok (.getfield 7, 3) := by decide +kernel
theorem dX12_laysRuns_6 : decode cX12_laysRuns 6 = .ok (.iconst 4, 1) := by decide +kernel
theorem dX12_laysRuns_7 : decode cX12_laysRuns 7 = .ok (.iaload, 1) := by decide +kernel
theorem dX12_laysRuns_8 : decode cX12_laysRuns 8 = .ok (.imul, 1) := by decide +kernel
theorem dX12_laysRuns_9 : decode cX12_laysRuns 9 = .ok (.aload_n 0, 1) := by decide +kernel
theorem dX12_laysRuns_10 : decode cX12_laysRuns 10 = .ok (.getfield 7, 3) := by decide +kernel
theorem dX12_laysRuns_13 : decode cX12_laysRuns 13 = .ok (.iconst 5, 1) := by decide +kernel
theorem dX12_laysRuns_14 : decode cX12_laysRuns 14 = .ok (.iaload, 1) := by decide +kernel
theorem dX12_laysRuns_15 : decode cX12_laysRuns 15 = .ok (.iconst 1, 1) := by decide +kernel
theorem dX12_laysRuns_16 : decode cX12_laysRuns 16 = .ok (.if_icmp .ne 11, 3) := by decide +kernel
theorem dX12_laysRuns_19 : decode cX12_laysRuns 19 = .ok (.aload_n 0, 1) := by decide +kernel
theorem dX12_laysRuns_20 : decode cX12_laysRuns 20 = .ok (.iload_n 1, 1) := by decide +kernel
theorem dX12_laysRuns_21 : decode cX12_laysRuns 21 = .ok (.invokevirtual 166, 3) := by decide +kernel
theorem dX12_laysRuns_24 : decode cX12_laysRuns 24 = .ok (.goto 4, 3) := by decide +kernel
theorem dX12_laysRuns_27 : decode cX12_laysRuns 27 = .ok (.iconst 0, 1) := by decide +kernel
theorem dX12_laysRuns_28 : decode cX12_laysRuns 28 = .ok (.iadd, 1) := by decide +kernel
theorem dX12_laysRuns_29 : decode cX12_laysRuns 29 = .ok (.istore_n 2, 1) := by decide +kernel
theorem dX12_laysRuns_30 : decode cX12_laysRuns 30 = .ok (.aload_n 0, 1) := by decide +kernel
theorem dX12_laysRuns_31 : decode cX12_laysRuns 31 = .ok (.iload_n 1, 1) := by decide +kernel
theorem dX12_laysRuns_32 : decode cX12_laysRuns 32 = .ok (.invokevirtual 112, 3) := by decide +kernel
theorem dX12_laysRuns_35 : decode cX12_laysRuns 35 = .ok (.aload_n 0, 1) := by decide +kernel
theorem dX12_laysRuns_36 : decode cX12_laysRuns 36 = .ok (.iconst 0, 1) := by decide +kernel
theorem dX12_laysRuns_37 : decode cX12_laysRuns 37 = .ok (.putfield 169, 3) := by decide +kernel
theorem dX12_laysRuns_40 : decode cX12_laysRuns 40 = .ok (.aload_n 0, 1) := by decide +kernel
theorem dX12_laysRuns_41 : decode cX12_laysRuns 41 = .ok (.iconst 0, 1) := by decide +kernel
theorem dX12_laysRuns_42 : decode cX12_laysRuns 42 = .ok (.putfield 172, 3) := by decide +kernel
theorem dX12_laysRuns_45 : decode cX12_laysRuns 45 = .ok (.iconst 0, 1) := by decide +kernel
theorem dX12_laysRuns_46 : decode cX12_laysRuns 46 = .ok (.istore_n 3, 1) := by decide +kernel
theorem dX12_laysRuns_47 : decode cX12_laysRuns 47 = .ok (.iload_n 3, 1) := by decide +kernel
theorem dX12_laysRuns_48 : decode cX12_laysRuns 48 = .ok (.aload_n 0, 1) := by decide +kernel
theorem dX12_laysRuns_49 : decode cX12_laysRuns 49 = .ok (.getfield 142, 3) := by decide +kernel
theorem dX12_laysRuns_52 : decode cX12_laysRuns 52 = .ok (.if_icmp .ge 112, 3) := by decide +kernel
theorem dX12_laysRuns_55 : decode cX12_laysRuns 55 = .ok (.aload_n 0, 1) := by decide +kernel
theorem dX12_laysRuns_56 : decode cX12_laysRuns 56 = .ok (.getfield 7, 3) := by decide +kernel
theorem dX12_laysRuns_59 : decode cX12_laysRuns 59 = .ok (.bipush 6, 2) := by decide +kernel
theorem dX12_laysRuns_61 : decode cX12_laysRuns 61 = .ok (.iaload, 1) := by decide +kernel
