theorem dX0_init_0 : decode cX0_init 0 = .ok (.aload_n 0, 1) := by decide +kernel
theorem dX0_init_1 : decode cX0_init 1 = .ok (.invokespecial 3, 3) := by decide +kernel
theorem dX0_init_4 : decode cX0_init 4 = .ok (.aload_n 0, 1) := by decide +kernel
theorem dX0_init_5 : decode cX0_init 5 = .ok (.bipush 6, 2) := by decide +kernel
theorem dX0_init_7 : decode cX0_init 7 = .ok (.newarray .int, 2) := by decide +kernel
theorem dX0_init_9 : decode cX0_init 9 = .ok (.putfield 9, 3) := by decide +kernel
theorem dX0_init_12 : decode cX0_init 12 = .ok (.return_, 1) := by decide +kernel
theorem dX0_take_0 : decode cX0_take 0 = .ok (.aload_n 0, 1) := by decide +kernel
theorem dX0_take_1 : decode cX0_take 1 = .ok (.aload_n 1, 1) := by decide +kernel
theorem dX0_take_2 : decode cX0_take 2 = .ok (.bipush 6, 2) := by decide +kernel
theorem dX0_take_4 : decode cX0_take 4 = .ok (.invokevirtual 17, 3) := by decide +kernel
theorem dX0_take_7 : decode cX0_take 7 = .ok (.bipush 6, 2) := by decide +kernel
theorem dX0_take_9 : decode cX0_take 9 = .ok (.invokestatic 21, 3) := by decide +kernel
theorem dX0_take_12 : decode cX0_take 12 = .ok (.putfield 27, 3) := by decide +kernel
theorem dX0_take_15 : decode cX0_take 15 = .ok (.iconst 0, 1) := by decide +kernel
theorem dX0_take_16 : decode cX0_take 16 = .ok (.istore_n 2, 1) := by decide +kernel
theorem dX0_take_17 : decode cX0_take 17 = .ok (.iload_n 2, 1) := by decide +kernel
theorem dX0_take_18 : decode cX0_take 18 = .ok (.aload_n 0, 1) := by decide +kernel
theorem dX0_take_19 : decode cX0_take 19 = .ok (.getfield 27, 3) := by decide +kernel
theorem dX0_take_22 : decode cX0_take 22 = .ok (.if_icmp .ge 26, 3) := by decide +kernel
theorem dX0_take_25 : decode cX0_take 25 = .ok (.aload_n 0, 1) := by decide +kernel
theorem dX0_take_26 : decode cX0_take 26 = .ok (.getfield 9, 3) := by decide +kernel
theorem dX0_take_29 : decode cX0_take 29 = .ok (.iload_n 2, 1) := by decide +kernel
theorem dX0_take_30 : decode cX0_take 30 = .ok (.bipush 64, 2) := by decide +kernel
theorem dX0_take_32 : decode cX0_take 32 = .ok (.aload_n 1, 1) := by decide +kernel
theorem dX0_take_33 : decode cX0_take 33 = .ok (.bipush 7, 2) := by decide +kernel
theorem dX0_take_35 : decode cX0_take 35 = .ok (.iload_n 2, 1) := by decide +kernel
theorem dX0_take_36 : decode cX0_take 36 = .ok (.iadd, 1) := by decide +kernel
theorem dX0_take_37 : decode cX0_take 37 = .ok (.invokevirtual 17, 3) := by decide +kernel
theorem dX0_take_40 : decode cX0_take 40 = .ok (.imul, 1) := by decide +kernel
theorem dX0_take_41 : decode cX0_take 41 = .ok (.iastore, 1) := by decide +kernel
theorem dX0_take_42 : decode cX0_take 42 = .ok (.iinc 2 1, 3) := by decide +kernel
theorem dX0_take_45 : decode cX0_take 45 = .ok (.goto (-28), 3) := by decide +kernel
theorem dX0_take_48 : decode cX0_take 48 = .ok (.aload_n 0, 1) := by decide +kernel
theorem dX0_take_49 : decode cX0_take 49 = .ok (.bipush 64, 2) := by decide +kernel
theorem dX0_take_51 : decode cX0_take 51 = .ok (.aload_n 1, 1) := by decide +kernel
theorem dX0_take_52 : decode cX0_take 52 = .ok (.iconst 4, 1) := by decide +kernel
theorem dX0_take_53 : decode cX0_take 53 = .ok (.invokevirtual 17, 3) := by decide +kernel
theorem dX0_take_56 : decode cX0_take 56 = .ok (.imul, 1) := by decide +kernel
theorem dX0_take_57 : decode cX0_take 57 = .ok (.putfield 31, 3) := by decide +kernel
theorem dX0_take_60 : decode cX0_take 60 = .ok (.return_, 1) := by decide +kernel
theorem dX0_goToPhase_0 : decode cX0_goToPhase 0 = .ok (.aload_n 0, 1) := by decide +kernel
theorem dX0_goToPhase_1 : decode cX0_goToPhase 1 = .ok (.getfield 31, 3) := by decide +kernel
theorem dX0_goToPhase_4 : decode cX0_goToPhase 4 = .ok (.istore_n 1, 1) := by decide +kernel
theorem dX0_goToPhase_5 : decode cX0_goToPhase 5 = .ok (.aload_n 0, 1) := by decide +kernel
theorem dX0_goToPhase_6 : decode cX0_goToPhase 6 = .ok (.iconst 0, 1) := by decide +kernel
theorem dX0_goToPhase_7 : decode cX0_goToPhase 7 = .ok (.putfield 34, 3) := by decide +kernel
theorem dX0_goToPhase_10 : decode cX0_goToPhase 10 = .ok (.aload_n 0, 1) := by decide +kernel
theorem dX0_goToPhase_11 : decode cX0_goToPhase 11 = .ok (.aload_n 0, 1) := by decide +kernel
theorem dX0_goToPhase_12 : decode cX0_goToPhase 12 = .ok (.iconst 0, 1) := by decide +kernel
theorem dX0_goToPhase_13 : decode cX0_goToPhase 13 = .ok (.invokevirtual 37, 3) := by decide +kernel
theorem dX0_goToPhase_16 : decode cX0_goToPhase 16 = .ok (.putfield 40, 3) := by decide +kernel
theorem dX0_goToPhase_19 : decode cX0_goToPhase 19 = .ok (.iconst 0, 1) := by decide +kernel
theorem dX0_goToPhase_20 : decode cX0_goToPhase 20 = .ok (.istore_n 2, 1) := by decide +kernel
theorem dX0_goToPhase_21 : decode cX0_goToPhase 21 = .ok (.iload_n 2, 1) := by decide +kernel
theorem dX0_goToPhase_22 : decode cX0_goToPhase 22 = .ok (.bipush 120, 2) := by decide +kernel
theorem dX0_goToPhase_24 : decode cX0_goToPhase 24 = .ok (.if_icmp .ge 46, 3) := by decide +kernel
theorem dX0_goToPhase_27 : decode cX0_goToPhase 27 = .ok (.iload_n 1, 1) := by decide +kernel
theorem dX0_goToPhase_28 : decode cX0_goToPhase 28 = .ok (.aload_n 0, 1) := by decide +kernel
theorem dX0_goToPhase_29 : decode cX0_goToPhase 29 = .ok (.getfield 40, 3) := by decide +kernel
theorem dX0_goToPhase_32 : decode cX0_goToPhase 32 = .ok (.if_icmp .lt 38, 3) := by decide +kernel
theorem dX0_goToPhase_35 : decode cX0_goToPhase 35 = .ok (.iload_n 1, 1) := by decide +kernel
theorem dX0_goToPhase_36 : decode cX0_goToPhase 36 = .ok (.aload_n 0, 1) := by decide +kernel
theorem dX0_goToPhase_37 : decode cX0_goToPhase 37 = .ok (.getfield 40, 3) := by decide +kernel
theorem dX0_goToPhase_40 : decode cX0_goToPhase 40 = .ok (.isub, 1) := by decide +kernel
theorem dX0_goToPhase_41 : decode cX0_goToPhase 41 = .ok (.istore_n 1, 1) := by decide +kernel
theorem dX0_goToPhase_42 : decode cX0_goToPhase 42 = .ok (.aload_n 0, 1) := by decide +kernel
theorem dX0_goToPhase_43 : decode cX0_goToPhase 43 = .ok (.dup, 1) := by decide +kernel
theorem dX0_goToPhase_44 : decode cX0_goToPhase 44 = .ok (.getfield 34, 3) := by decide +kernel
theorem dX0_goToPhase_47 : decode cX0_goToPhase 47 = .ok (.iconst 1, 1) := by decide +kernel
theorem dX0_goToPhase_48 : decode cX0_goToPhase 48 = .ok (.iadd, 1) := by decide +kernel
theorem dX0_goToPhase_49 : decode cX0_goToPhase 49 = .ok (.putfield 34, 3) := by decide +kernel
theorem dX0_goToPhase_52 : decode cX0_goToPhase 52 = .ok (.aload_n 0, 1) := by decide +kernel
theorem dX0_goToPhase_53 : decode cX0_goToPhase 53 = .ok (.aload_n 0, 1) := by decide +kernel
theorem dX0_goToPhase_54 : decode cX0_goToPhase 54 = .ok (.aload_n 0, 1) := by decide +kernel
theorem dX0_goToPhase_55 : decode cX0_goToPhase 55 = .ok (.getfield 34, 3) := by decide +kernel
theorem dX0_goToPhase_58 : decode cX0_goToPhase 58 = .ok (.invokevirtual 37, 3) := by decide +kernel
theorem dX0_goToPhase_61 : decode cX0_goToPhase 61 = .ok (.putfield 40, 3) := by decide +kernel
theorem dX0_goToPhase_64 : decode cX0_goToPhase 64 = .ok (.iinc 2 1, 3) := by decide +kernel
theorem dX0_goToPhase_67 : decode cX0_goToPhase 67 = .ok (.goto (-46), 3) := by decide +kernel
theorem dX0_goToPhase_70 : decode cX0_goToPhase 70 = .ok (.aload_n 0, 1) := by decide +kernel
theorem dX0_goToPhase_71 : decode cX0_goToPhase 71 = .ok (.dup, 1) := by decide +kernel
theorem dX0_goToPhase_72 : decode cX0_goToPhase 72 = .ok (.getfield 40, 3) := by decide +kernel
theorem dX0_goToPhase_75 : decode cX0_goToPhase 75 = .ok (.iload_n 1, 1) := by decide +kernel
theorem dX0_goToPhase_76 : decode cX0_goToPhase 76 = .ok (.isub, 1) := by decide +kernel
theorem dX0_goToPhase_77 : decode cX0_goToPhase 77 = .ok (.putfield 40, 3) := by decide +kernel
theorem dX0_goToPhase_80 : decode cX0_goToPhase 80 = .ok (.return_, 1) := by decide +kernel
theorem dX0_isOn_0 : decode cX0_isOn 0 = .ok (.aload_n 0, 1) := by decide +kernel
theorem dX0_isOn_1 : decode cX0_isOn 1 = .ok (.getfield 34, 3) := by decide +kernel
theorem dX0_isOn_4 : decode cX0_isOn 4 = .ok (.iconst 1, 1) := by decide +kernel
theorem dX0_isOn_5 : decode cX0_isOn 5 = .ok (.iand, 1) := by decide +kernel
theorem dX0_isOn_6 : decode cX0_isOn 6 = .ok (.ifCond .ne 7, 3) := by decide +kernel
theorem dX0_isOn_9 : decode cX0_isOn 9 = .ok (.iconst 1, 1) := by decide +kernel
theorem dX0_isOn_10 : decode cX0_isOn 10 = .ok (.goto 4, 3) := by decide +kernel
theorem dX0_isOn_13 : decode cX0_isOn 13 = .ok (.iconst 0, 1) := by decide +kernel
theorem dX0_isOn_14 : decode cX0_isOn 14 = .ok (.ireturn, 1) := by decide +kernel
theorem dX0_ahead_0 : decode cX0_ahead 0 = .ok (.aload_n 0, 1) := by decide +kernel
theorem dX0_ahead_1 : decode cX0_ahead 1 = .ok (.getfield 40, 3) := by decide +kernel
theorem dX0_ahead_4 : decode cX0_ahead 4 = .ok (.ireturn, 1) := by decide +kernel
theorem dX0_pass_0 : decode cX0_pass 0 = .ok (.aload_n 0, 1) := by decide +kernel
theorem dX0_pass_1 : decode cX0_pass 1 = .ok (.dup, 1) := by decide +kernel
theorem dX0_pass_2 : decode cX0_pass 2 = .ok (.getfield 40, 3) := by decide +kernel
theorem dX0_pass_5 : decode cX0_pass 5 = .ok (.iload_n 1, 1) := by decide +kernel
theorem dX0_pass_6 : decode cX0_pass 6 = .ok (.isub, 1) := by decide +kernel
theorem dX0_pass_7 : decode cX0_pass 7 = .ok (.putfield 40, 3) := by decide +kernel
theorem dX0_pass_10 : decode cX0_pass 10 = .ok (.aload_n 0, 1) := by decide +kernel
theorem dX0_pass_11 : decode cX0_pass 11 = .ok (.getfield 40, 3) := by decide +kernel
theorem dX0_pass_14 : decode cX0_pass 14 = .ok (.ifCond .le 5, 3) := by decide +kernel
theorem dX0_pass_17 : decode cX0_pass 17 = .ok (.iconst 0, 1) := by decide +kernel
theorem dX0_pass_18 : decode cX0_pass 18 = .ok (.ireturn, 1) := by decide +kernel
theorem dX0_pass_19 : decode cX0_pass 19 = .ok (.aload_n 0, 1) := by decide +kernel
theorem dX0_pass_20 : decode cX0_pass 20 = .ok (.dup, 1) := by decide +kernel
theorem dX0_pass_21 : decode cX0_pass 21 = .ok (.getfield 34, 3) := by decide +kernel
theorem dX0_pass_24 : decode cX0_pass 24 = .ok (.iconst 1, 1) := by decide +kernel
theorem dX0_pass_25 : decode cX0_pass 25 = .ok (.iadd, 1) := by decide +kernel
theorem dX0_pass_26 : decode cX0_pass 26 = .ok (.putfield 34, 3) := by decide +kernel
theorem dX0_pass_29 : decode cX0_pass 29 = .ok (.aload_n 0, 1) := by decide +kernel
theorem dX0_pass_30 : decode cX0_pass 30 = .ok (.aload_n 0, 1) := by decide +kernel
theorem dX0_pass_31 : decode cX0_pass 31 = .ok (.aload_n 0, 1) := by decide +kernel
theorem dX0_pass_32 : decode cX0_pass 32 = .ok (.getfield 34, 3) := by decide +kernel
theorem dX0_pass_35 : decode cX0_pass 35 = .ok (.invokevirtual 37, 3) := by decide +kernel
theorem dX0_pass_38 : decode cX0_pass 38 = .ok (.putfield 40, 3) := by decide +kernel
theorem dX0_pass_41 : decode cX0_pass 41 = .ok (.iconst 1, 1) := by decide +kernel
theorem dX0_pass_42 : decode cX0_pass 42 = .ok (.ireturn, 1) := by decide +kernel
theorem dX0_lengthOf_0 : decode cX0_lengthOf 0 = .ok (.aload_n 0, 1) := by decide +kernel
theorem dX0_lengthOf_1 : decode cX0_lengthOf 1 = .ok (.getfield 27, 3) := by decide +kernel
theorem dX0_lengthOf_4 : decode cX0_lengthOf 4 = .ok (.ifCond .le 21, 3) := by decide +kernel
theorem dX0_lengthOf_7 : decode cX0_lengthOf 7 = .ok (.iload_n 1, 1) := by decide +kernel
theorem dX0_lengthOf_8 : decode cX0_lengthOf 8 = .ok (.ifCond .lt 17, 3) := by decide +kernel
theorem dX0_lengthOf_11 : decode cX0_lengthOf 11 = .ok (.aload_n 0, 1) := by decide +kernel
theorem dX0_lengthOf_12 : decode cX0_lengthOf 12 = .ok (.getfield 9, 3) := by decide +kernel
theorem dX0_lengthOf_15 : decode cX0_lengthOf 15 = .ok (.iload_n 1, 1) := by decide +kernel
theorem dX0_lengthOf_16 : decode cX0_lengthOf 16 = .ok (.aload_n 0, 1) := by decide +kernel
theorem dX0_lengthOf_17 : decode cX0_lengthOf 17 = .ok (.getfield 27, 3) := by decide +kernel
theorem dX0_lengthOf_20 : decode cX0_lengthOf 20 = .ok (.irem, 1) := by decide +kernel
theorem dX0_lengthOf_21 : decode cX0_lengthOf 21 = .ok (.iaload, 1) := by decide +kernel
theorem dX0_lengthOf_22 : decode cX0_lengthOf 22 = .ok (.goto 5, 3) := by decide +kernel
theorem dX0_lengthOf_25 : decode cX0_lengthOf 25 = .ok (.ldc 43, 2) := by decide +kernel
theorem dX0_lengthOf_27 : decode cX0_lengthOf 27 = .ok (.ireturn, 1) := by decide +kernel
theorem dX1_init_0 : decode cX1_init 0 = .ok (.aload_n 0, 1) := by decide +kernel
theorem dX1_init_1 : decode cX1_init 1 = .ok (.invokespecial 5, 3) := by decide +kernel
theorem dX1_init_4 : decode cX1_init 4 = .ok (.aload_n 0, 1) := by decide +kernel
theorem dX1_init_5 : decode cX1_init 5 = .ok (.bipush 86, 2) := by decide +kernel
theorem dX1_init_7 : decode cX1_init 7 = .ok (.newarray .int, 2) := by decide +kernel
theorem dX1_init_9 : decode cX1_init 9 = .ok (.putfield 11, 3) := by decide +kernel
theorem dX1_init_12 : decode cX1_init 12 = .ok (.aload_n 0, 1) := by decide +kernel
theorem dX1_init_13 : decode cX1_init 13 = .ok (.getfield 11, 3) := by decide +kernel
theorem dX1_init_16 : decode cX1_init 16 = .ok (.iconst 0, 1) := by decide +kernel
theorem dX1_init_17 : decode cX1_init 17 = .ok (.iconst 4, 1) := by decide +kernel
theorem dX1_init_18 : decode cX1_init 18 = .ok (.iastore, 1) := by decide +kernel
theorem dX1_init_19 : decode cX1_init 19 = .ok (.aload_n 0, 1) := by decide +kernel
theorem dX1_init_20 : decode cX1_init 20 = .ok (.getfield 11, 3) := by decide +kernel
theorem dX1_init_23 : decode cX1_init 23 = .ok (.iconst 2, 1) := by decide +kernel
theorem dX1_init_24 : decode cX1_init 24 = .ok (.iconst 4, 1) := by decide +kernel
theorem dX1_init_25 : decode cX1_init 25 = .ok (.iastore, 1) := by decide +kernel
theorem dX1_init_26 : decode cX1_init 26 = .ok (.return_, 1) := by decide +kernel
theorem dX1_cell_0 : decode cX1_cell 0 = .ok (.iload_n 1, 1) := by decide +kernel
theorem dX1_cell_1 : decode cX1_cell 1 = .ok (.ifCond .lt 21, 3) := by decide +kernel
theorem dX1_cell_4 : decode cX1_cell 4 = .ok (.iload_n 1, 1) := by decide +kernel
theorem dX1_cell_5 : decode cX1_cell 5 = .ok (.aload_n 0, 1) := by decide +kernel
theorem dX1_cell_6 : decode cX1_cell 6 = .ok (.getfield 11, 3) := by decide +kernel
theorem dX1_cell_9 : decode cX1_cell 9 = .ok (.arraylength, 1) := by decide +kernel
theorem dX1_cell_10 : decode cX1_cell 10 = .ok (.if_icmp .ge 12, 3) := by decide +kernel
theorem dX1_cell_13 : decode cX1_cell 13 = .ok (.aload_n 0, 1) := by decide +kernel
theorem dX1_cell_14 : decode cX1_cell 14 = .ok (.getfield 11, 3) := by decide +kernel
theorem dX1_cell_17 : decode cX1_cell 17 = .ok (.iload_n 1, 1) := by decide +kernel
theorem dX1_cell_18 : decode cX1_cell 18 = .ok (.iaload, 1) := by decide +kernel
theorem dX1_cell_19 : decode cX1_cell 19 = .ok (.goto 4, 3) := by decide +kernel
theorem dX1_cell_22 : decode cX1_cell 22 = .ok (.iconst 0, 1) := by decide +kernel
theorem dX1_cell_23 : decode cX1_cell 23 = .ok (.ireturn, 1) := by decide +kernel
theorem dX1_put_0 : decode cX1_put 0 = .ok (.iload_n 1, 1) := by decide +kernel
theorem dX1_put_1 : decode cX1_put 1 = .ok (.ifCond .lt 19, 3) := by decide +kernel
theorem dX1_put_4 : decode cX1_put 4 = .ok (.iload_n 1, 1) := by decide +kernel
theorem dX1_put_5 : decode cX1_put 5 = .ok (.aload_n 0, 1) := by decide +kernel
theorem dX1_put_6 : decode cX1_put 6 = .ok (.getfield 11, 3) := by decide +kernel
theorem dX1_put_9 : decode cX1_put 9 = .ok (.arraylength, 1) := by decide +kernel
theorem dX1_put_10 : decode cX1_put 10 = .ok (.if_icmp .ge 10, 3) := by decide +kernel
theorem dX1_put_13 : decode cX1_put 13 = .ok (.aload_n 0, 1) := by decide +kernel
theorem dX1_put_14 : decode cX1_put 14 = .ok (.getfield 11, 3) := by decide +kernel
theorem dX1_put_17 : decode cX1_put 17 = .ok (.iload_n 1, 1) := by decide +kernel
theorem dX1_put_18 : decode cX1_put 18 = .ok (.iload_n 2, 1) := by decide +kernel
theorem dX1_put_19 : decode cX1_put 19 = .ok (.iastore, 1) := by decide +kernel
theorem dX1_put_20 : decode cX1_put 20 = .ok (.return_, 1) := by decide +kernel
theorem dX1_copyTo_0 : decode cX1_copyTo 0 = .ok (.iload_n 2, 1) := by decide +kernel
theorem dX1_copyTo_1 : decode cX1_copyTo 1 = .ok (.ifCond .lt 24, 3) := by decide +kernel
theorem dX1_copyTo_4 : decode cX1_copyTo 4 = .ok (.iload_n 2, 1) := by decide +kernel
theorem dX1_copyTo_5 : decode cX1_copyTo 5 = .ok (.aload_n 1, 1) := by decide +kernel
theorem dX1_copyTo_6 : decode cX1_copyTo 6 = .ok (.arraylength, 1) := by decide +kernel
theorem dX1_copyTo_7 : decode cX1_copyTo 7 = .ok (.bipush 86, 2) := by decide +kernel
theorem dX1_copyTo_9 : decode cX1_copyTo 9 = .ok (.isub, 1) := by decide +kernel
theorem dX1_copyTo_10 : decode cX1_copyTo 10 = .ok (.if_icmp .gt 15, 3) := by decide +kernel
theorem dX1_copyTo_13 : decode cX1_copyTo 13 = .ok (.aload_n 0, 1) := by decide +kernel
theorem dX1_copyTo_14 : decode cX1_copyTo 14 = .ok (.getfield 11, 3) := by decide +kernel
theorem dX1_copyTo_17 : decode cX1_copyTo 17 = .ok (.iconst 0, 1) := by decide +kernel
theorem dX1_copyTo_18 : decode cX1_copyTo 18 = .ok (.aload_n 1, 1) := by decide +kernel
theorem dX1_copyTo_19 : decode cX1_copyTo 19 = .ok (.iload_n 2, 1) := by decide +kernel
theorem dX1_copyTo_20 : decode cX1_copyTo 20 = .ok (.bipush 86, 2) := by decide +kernel
theorem dX1_copyTo_22 : decode cX1_copyTo 22 = .ok (.invokestatic 15, 3) := by decide +kernel
theorem dX1_copyTo_25 : decode cX1_copyTo 25 = .ok (.return_, 1) := by decide +kernel
theorem dX1_copyFrom_0 : decode cX1_copyFrom 0 = .ok (.iload_n 2, 1) := by decide +kernel
theorem dX1_copyFrom_1 : decode cX1_copyFrom 1 = .ok (.ifCond .lt 24, 3) := by decide +kernel
theorem dX1_copyFrom_4 : decode cX1_copyFrom 4 = .ok (.iload_n 2, 1) := by decide +kernel
theorem dX1_copyFrom_5 : decode cX1_copyFrom 5 = .ok (.aload_n 1, 1) := by decide +kernel
theorem dX1_copyFrom_6 : decode cX1_copyFrom 6 = .ok (.arraylength, 1) := by decide +kernel
theorem dX1_copyFrom_7 : decode cX1_copyFrom 7 = .ok (.bipush 86, 2) := by decide +kernel
theorem dX1_copyFrom_9 : decode cX1_copyFrom 9 = .ok (.isub, 1) := by decide +kernel
theorem dX1_copyFrom_10 : decode cX1_copyFrom 10 = .ok (.if_icmp .gt 15, 3) := by decide +kernel
theorem dX1_copyFrom_13 : decode cX1_copyFrom 13 = .ok (.aload_n 1, 1) := by decide +kernel
theorem dX1_copyFrom_14 : decode cX1_copyFrom 14 = .ok (.iload_n 2, 1) := by decide +kernel
theorem dX1_copyFrom_15 : decode cX1_copyFrom 15 = .ok (.aload_n 0, 1) := by decide +kernel
theorem dX1_copyFrom_16 : decode cX1_copyFrom 16 = .ok (.getfield 11, 3) := by decide +kernel
theorem dX1_copyFrom_19 : decode cX1_copyFrom 19 = .ok (.iconst 0, 1) := by decide +kernel
theorem dX1_copyFrom_20 : decode cX1_copyFrom 20 = .ok (.bipush 86, 2) := by decide +kernel
theorem dX1_copyFrom_22 : decode cX1_copyFrom 22 = .ok (.invokestatic 15, 3) := by decide +kernel
theorem dX1_copyFrom_25 : decode cX1_copyFrom 25 = .ok (.return_, 1) := by decide +kernel
theorem dX1_takePath_0 : decode cX1_takePath 0 = .ok (.aload_n 1, 1) := by decide +kernel
theorem dX1_takePath_1 : decode cX1_takePath 1 = .ok (.getfield 11, 3) := by decide +kernel
theorem dX1_takePath_4 : decode cX1_takePath 4 = .ok (.bipush 13, 2) := by decide +kernel
theorem dX1_takePath_6 : decode cX1_takePath 6 = .ok (.aload_n 0, 1) := by decide +kernel
theorem dX1_takePath_7 : decode cX1_takePath 7 = .ok (.getfield 11, 3) := by decide +kernel
theorem dX1_takePath_10 : decode cX1_takePath 10 = .ok (.bipush 13, 2) := by decide +kernel
theorem dX1_takePath_12 : decode cX1_takePath 12 = .ok (.bipush 73, 2) := by decide +kernel
theorem dX1_takePath_14 : decode cX1_takePath 14 = .ok (.invokestatic 15, 3) := by decide +kernel
theorem dX1_takePath_17 : decode cX1_takePath 17 = .ok (.return_, 1) := by decide +kernel
theorem dX1_halfWidth_0 : decode cX1_halfWidth 0 = .ok (.bipush 32, 2) := by decide +kernel
theorem dX1_halfWidth_2 : decode cX1_halfWidth 2 = .ok (.aload_n 0, 1) := by decide +kernel
theorem dX1_halfWidth_3 : decode cX1_halfWidth 3 = .ok (.iconst 0, 1) := by decide +kernel
theorem dX1_halfWidth_4 : decode cX1_halfWidth 4 = .ok (.invokevirtual 21, 3) := by decide +kernel
theorem dX1_halfWidth_7 : decode cX1_halfWidth 7 = .ok (.imul, 1) := by decide +kernel
theorem dX1_halfWidth_8 : decode cX1_halfWidth 8 = .ok (.ireturn, 1) := by decide +kernel
theorem dX1_subpathCount_0 : decode cX1_subpathCount 0 = .ok (.aload_n 0, 1) := by decide +kernel
theorem dX1_subpathCount_1 : decode cX1_subpathCount 1 = .ok (.bipush 13, 2) := by decide +kernel
theorem dX1_subpathCount_3 : decode cX1_subpathCount 3 = .ok (.invokevirtual 21, 3) := by decide +kernel
theorem dX1_subpathCount_6 : decode cX1_subpathCount 6 = .ok (.ireturn, 1) := by decide +kernel
theorem dX1_lastSubpath_0 : decode cX1_lastSubpath 0 = .ok (.aload_n 0, 1) := by decide +kernel
theorem dX1_lastSubpath_1 : decode cX1_lastSubpath 1 = .ok (.bipush 13, 2) := by decide +kernel
theorem dX1_lastSubpath_3 : decode cX1_lastSubpath 3 = .ok (.invokevirtual 21, 3) := by decide +kernel
theorem dX1_lastSubpath_6 : decode cX1_lastSubpath 6 = .ok (.iconst 1, 1) := by decide +kernel
theorem dX1_lastSubpath_7 : decode cX1_lastSubpath 7 = .ok (.isub, 1) := by decide +kernel
theorem dX1_lastSubpath_8 : decode cX1_lastSubpath 8 = .ok (.ireturn, 1) := by decide +kernel
theorem dX1_pointCount_0 : decode cX1_pointCount 0 = .ok (.iload_n 1, 1) := by decide +kernel
theorem dX1_pointCount_1 : decode cX1_pointCount 1 = .ok (.aload_n 0, 1) := by decide +kernel
theorem dX1_pointCount_2 : decode cX1_pointCount 2 = .ok (.bipush 13, 2) := by decide +kernel
theorem dX1_pointCount_4 : decode cX1_pointCount 4 = .ok (.invokevirtual 21, 3) := by decide +kernel
theorem dX1_pointCount_7 : decode cX1_pointCount 7 = .ok (.if_icmp .ge 16, 3) := by decide +kernel
theorem dX1_pointCount_10 : decode cX1_pointCount 10 = .ok (.aload_n 0, 1) := by decide +kernel
theorem dX1_pointCount_11 : decode cX1_pointCount 11 = .ok (.iload_n 1, 1) := by decide +kernel
theorem dX1_pointCount_12 : decode cX1_pointCount 12 = .ok (.invokestatic 25, 3) := by decide +kernel
theorem dX1_pointCount_15 : decode cX1_pointCount 15 = .ok (.iconst 0, 1) := by decide +kernel
theorem dX1_pointCount_16 : decode cX1_pointCount 16 = .ok (.iadd, 1) := by decide +kernel
theorem dX1_pointCount_17 : decode cX1_pointCount 17 = .ok (.invokevirtual 21, 3) := by decide +kernel
theorem dX1_pointCount_20 : decode cX1_pointCount 20 = .ok (.goto 4, 3) := by decide +kernel
theorem dX1_pointCount_23 : decode cX1_pointCount 23 = .ok (.iconst 0, 1) := by decide +kernel
theorem dX1_pointCount_24 : decode cX1_pointCount 24 = .ok (.ireturn, 1) := by decide +kernel
theorem dX1_isClosed_0 : decode cX1_isClosed 0 = .ok (.iload_n 1, 1) := by decide +kernel
theorem dX1_isClosed_1 : decode cX1_isClosed 1 = .ok (.aload_n 0, 1) := by decide +kernel
theorem dX1_isClosed_2 : decode cX1_isClosed 2 = .ok (.bipush 13, 2) := by decide +kernel
theorem dX1_isClosed_4 : decode cX1_isClosed 4 = .ok (.invokevirtual 21, 3) := by decide +kernel
theorem dX1_isClosed_7 : decode cX1_isClosed 7 = .ok (.if_icmp .ge 21, 3) := by decide +kernel
theorem dX1_isClosed_10 : decode cX1_isClosed 10 = .ok (.aload_n 0, 1) := by decide +kernel
theorem dX1_isClosed_11 : decode cX1_isClosed 11 = .ok (.iload_n 1, 1) := by decide +kernel
theorem dX1_isClosed_12 : decode cX1_isClosed 12 = .ok (.invokestatic 25, 3) := by decide +kernel
theorem dX1_isClosed_15 : decode cX1_isClosed 15 = .ok (.iconst 1, 1) := by decide +kernel
theorem dX1_isClosed_16 : decode cX1_isClosed 16 = .ok (.iadd, 1) := by decide +kernel
theorem dX1_isClosed_17 : decode cX1_isClosed 17 = .ok (.invokevirtual 21, 3) := by decide +kernel
theorem dX1_isClosed_20 : decode cX1_isClosed 20 = .ok (.iconst 1, 1) := by decide +kernel
theorem dX1_isClosed_21 : decode cX1_isClosed 21 = .ok (.if_icmp .ne 7, 3) := by decide +kernel
theorem dX1_isClosed_24 : decode cX1_isClosed 24 = .ok (.iconst 1, 1) := by decide +kernel
theorem dX1_isClosed_25 : decode cX1_isClosed 25 = .ok (.goto 4, 3) := by decide +kernel
theorem dX1_isClosed_28 : decode cX1_isClosed 28 = .ok (.iconst 0, 1) := by decide +kernel
theorem dX1_isClosed_29 : decode cX1_isClosed 29 = .ok (.ireturn, 1) := by decide +kernel
theorem dX1_xOf_0 : decode cX1_xOf 0 = .ok (.aload_n 0, 1) := by decide +kernel
theorem dX1_xOf_1 : decode cX1_xOf 1 = .ok (.iload_n 1, 1) := by decide +kernel
theorem dX1_xOf_2 : decode cX1_xOf 2 = .ok (.iload_n 2, 1) := by decide +kernel
theorem dX1_xOf_3 : decode cX1_xOf 3 = .ok (.invokestatic 28, 3) := by decide +kernel
theorem dX1_xOf_6 : decode cX1_xOf 6 = .ok (.invokevirtual 21, 3) := by decide +kernel
theorem dX1_xOf_9 : decode cX1_xOf 9 = .ok (.ireturn, 1) := by decide +kernel
theorem dX1_yOf_0 : decode cX1_yOf 0 = .ok (.aload_n 0, 1) := by decide +kernel
theorem dX1_yOf_1 : decode cX1_yOf 1 = .ok (.iload_n 1, 1) := by decide +kernel
theorem dX1_yOf_2 : decode cX1_yOf 2 = .ok (.iload_n 2, 1) := by decide +kernel
theorem dX1_yOf_3 : decode cX1_yOf 3 = .ok (.invokestatic 28, 3) := by decide +kernel
theorem dX1_yOf_6 : decode cX1_yOf 6 = .ok (.iconst 1, 1) := by decide +kernel
theorem dX1_yOf_7 : decode cX1_yOf 7 = .ok (.iadd, 1) := by decide +kernel
theorem dX1_yOf_8 : decode cX1_yOf 8 = .ok (.invokevirtual 21, 3) := by decide +kernel
theorem dX1_yOf_11 : decode cX1_yOf 11 = .ok (.ireturn, 1) := by decide +kernel
theorem dX1_clearPath_0 : decode cX1_clearPath 0 = .ok (.aload_n 0, 1) := by decide +kernel
theorem dX1_clearPath_1 : decode cX1_clearPath 1 = .ok (.bipush 13, 2) := by decide +kernel
theorem dX1_clearPath_3 : decode cX1_clearPath 3 = .ok (.iconst 0, 1) := by decide +kernel
theorem dX1_clearPath_4 : decode cX1_clearPath 4 = .ok (.invokevirtual 32, 3) := by decide +kernel
theorem dX1_clearPath_7 : decode cX1_clearPath 7 = .ok (.return_, 1) := by decide +kernel
theorem dX1_startSubpath_0 : decode cX1_startSubpath 0 = .ok (.aload_n 0, 1) := by decide +kernel
theorem dX1_startSubpath_1 : decode cX1_startSubpath 1 = .ok (.invokevirtual 36, 3) := by decide +kernel
theorem dX1_startSubpath_4 : decode cX1_startSubpath 4 = .ok (.istore_n 3, 1) := by decide +kernel
theorem dX1_startSubpath_5 : decode cX1_startSubpath 5 = .ok (.aload_n 0, 1) := by decide +kernel
theorem dX1_startSubpath_6 : decode cX1_startSubpath 6 = .ok (.bipush 13, 2) := by decide +kernel
theorem dX1_startSubpath_8 : decode cX1_startSubpath 8 = .ok (.iload_n 3, 1) := by decide +kernel
theorem dX1_startSubpath_9 : decode cX1_startSubpath 9 = .ok (.iconst 1, 1) := by decide +kernel
theorem dX1_startSubpath_10 : decode cX1_startSubpath 10 = .ok (.iadd, 1) := by decide +kernel
theorem dX1_startSubpath_11 : decode cX1_startSubpath 11 = .ok (.invokevirtual 32, 3) := by decide +kernel
theorem dX1_startSubpath_14 : decode cX1_startSubpath 14 = .ok (.aload_n 0, 1) := by decide +kernel
theorem dX1_startSubpath_15 : decode cX1_startSubpath 15 = .ok (.iload_n 3, 1) := by decide +kernel
theorem dX1_startSubpath_16 : decode cX1_startSubpath 16 = .ok (.invokestatic 25, 3) := by decide +kernel
theorem dX1_startSubpath_19 : decode cX1_startSubpath 19 = .ok (.iconst 0, 1) := by decide +kernel
theorem dX1_startSubpath_20 : decode cX1_startSubpath 20 = .ok (.iadd, 1) := by decide +kernel
theorem dX1_startSubpath_21 : decode cX1_startSubpath 21 = .ok (.iconst 0, 1) := by decide +kernel
theorem dX1_startSubpath_22 : decode cX1_startSubpath 22 = .ok (.invokevirtual 32, 3) := by decide +kernel
theorem dX1_startSubpath_25 : decode cX1_startSubpath 25 = .ok (.aload_n 0, 1) := by decide +kernel
theorem dX1_startSubpath_26 : decode cX1_startSubpath 26 = .ok (.iload_n 3, 1) := by decide +kernel
theorem dX1_startSubpath_27 : decode cX1_startSubpath 27 = .ok (.invokestatic 25, 3) := by decide +kernel
theorem dX1_startSubpath_30 : decode cX1_startSubpath 30 = .ok (.iconst 1, 1) := by decide +kernel
theorem dX1_startSubpath_31 : decode cX1_startSubpath 31 = .ok (.iadd, 1) := by decide +kernel
theorem dX1_startSubpath_32 : decode cX1_startSubpath 32 = .ok (.iconst 0, 1) := by decide +kernel
theorem dX1_startSubpath_33 : decode cX1_startSubpath 33 = .ok (.invokevirtual 32, 3) := by decide +kernel
theorem dX1_startSubpath_36 : decode cX1_startSubpath 36 = .ok (.aload_n 0, 1) := by decide +kernel
theorem dX1_startSubpath_37 : decode cX1_startSubpath 37 = .ok (.iload_n 1, 1) := by decide +kernel
theorem dX1_startSubpath_38 : decode cX1_startSubpath 38 = .ok (.iload_n 2, 1) := by decide +kernel
theorem dX1_startSubpath_39 : decode cX1_startSubpath 39 = .ok (.invokevirtual 40, 3) := by decide +kernel
theorem dX1_startSubpath_42 : decode cX1_startSubpath 42 = .ok (.return_, 1) := by decide +kernel
theorem dX1_addPoint_0 : decode cX1_addPoint 0 = .ok (.aload_n 0, 1) := by decide +kernel
theorem dX1_addPoint_1 : decode cX1_addPoint 1 = .ok (.invokevirtual 43, 3) := by decide +kernel
theorem dX1_addPoint_4 : decode cX1_addPoint 4 = .ok (.istore_n 3, 1) := by decide +kernel
theorem dX1_addPoint_5 : decode cX1_addPoint 5 = .ok (.aload_n 0, 1) := by decide +kernel
theorem dX1_addPoint_6 : decode cX1_addPoint 6 = .ok (.iload_n 3, 1) := by decide +kernel
theorem dX1_addPoint_7 : decode cX1_addPoint 7 = .ok (.invokevirtual 46, 3) := by decide +kernel
theorem dX1_addPoint_10 : decode cX1_addPoint 10 = .ok (.istore 4, 2) := by decide +kernel
theorem dX1_addPoint_12 : decode cX1_addPoint 12 = .ok (.aload_n 0, 1) := by decide +kernel
theorem dX1_addPoint_13 : decode cX1_addPoint 13 = .ok (.iload_n 3, 1) := by decide +kernel
theorem dX1_addPoint_14 : decode cX1_addPoint 14 = .ok (.iload 4, 2) := by decide +kernel
theorem dX1_addPoint_16 : decode cX1_addPoint 16 = .ok (.iload_n 1, 1) := by decide +kernel
theorem dX1_addPoint_17 : decode cX1_addPoint 17 = .ok (.iload_n 2, 1) := by decide +kernel
theorem dX1_addPoint_18 : decode cX1_addPoint 18 = .ok (.invokevirtual 49, 3) := by decide +kernel
theorem dX1_addPoint_21 : decode cX1_addPoint 21 = .ok (.aload_n 0, 1) := by decide +kernel
theorem dX1_addPoint_22 : decode cX1_addPoint 22 = .ok (.iload_n 3, 1) := by decide +kernel
theorem dX1_addPoint_23 : decode cX1_addPoint 23 = .ok (.invokestatic 25, 3) := by decide +kernel
theorem dX1_addPoint_26 : decode cX1_addPoint 26 = .ok (.iconst 0, 1) := by decide +kernel
theorem dX1_addPoint_27 : decode cX1_addPoint 27 = .ok (.iadd, 1) := by decide +kernel
theorem dX1_addPoint_28 : decode cX1_addPoint 28 = .ok (.iload 4, 2) := by decide +kernel
theorem dX1_addPoint_30 : decode cX1_addPoint 30 = .ok (.iconst 1, 1) := by decide +kernel
theorem dX1_addPoint_31 : decode cX1_addPoint 31 = .ok (.iadd, 1) := by decide +kernel
theorem dX1_addPoint_32 : decode cX1_addPoint 32 = .ok (.invokevirtual 32, 3) := by decide +kernel
theorem dX1_addPoint_35 : decode cX1_addPoint 35 = .ok (.return_, 1) := by decide +kernel
theorem dX1_closeLast_0 : decode cX1_closeLast 0 = .ok (.aload_n 0, 1) := by decide +kernel
theorem dX1_closeLast_1 : decode cX1_closeLast 1 = .ok (.aload_n 0, 1) := by decide +kernel
theorem dX1_closeLast_2 : decode cX1_closeLast 2 = .ok (.invokevirtual 43, 3) := by decide +kernel
theorem dX1_closeLast_5 : decode cX1_closeLast 5 = .ok (.invokestatic 25, 3) := by decide +kernel
theorem dX1_closeLast_8 : decode cX1_closeLast 8 = .ok (.iconst 1, 1) := by decide +kernel
theorem dX1_closeLast_9 : decode cX1_closeLast 9 = .ok (.iadd, 1) := by decide +kernel
theorem dX1_closeLast_10 : decode cX1_closeLast 10 = .ok (.iconst 1, 1) := by decide +kernel
theorem dX1_closeLast_11 : decode cX1_closeLast 11 = .ok (.invokevirtual 32, 3) := by decide +kernel
theorem dX1_closeLast_14 : decode cX1_closeLast 14 = .ok (.return_, 1) := by decide +kernel
theorem dX1_dropSubpath_0 : decode cX1_dropSubpath 0 = .ok (.aload_n 0, 1) := by decide +kernel
theorem dX1_dropSubpath_1 : decode cX1_dropSubpath 1 = .ok (.invokevirtual 43, 3) := by decide +kernel
theorem dX1_dropSubpath_4 : decode cX1_dropSubpath 4 = .ok (.istore_n 2, 1) := by decide +kernel
theorem dX1_dropSubpath_5 : decode cX1_dropSubpath 5 = .ok (.iload_n 1, 1) := by decide +kernel
theorem dX1_dropSubpath_6 : decode cX1_dropSubpath 6 = .ok (.invokestatic 25, 3) := by decide +kernel
theorem dX1_dropSubpath_9 : decode cX1_dropSubpath 9 = .ok (.istore_n 3, 1) := by decide +kernel
theorem dX1_dropSubpath_10 : decode cX1_dropSubpath 10 = .ok (.iload_n 3, 1) := by decide +kernel
theorem dX1_dropSubpath_11 : decode cX1_dropSubpath 11 = .ok (.iload_n 2, 1) := by decide +kernel
theorem dX1_dropSubpath_12 : decode cX1_dropSubpath 12 = .ok (.invokestatic 25, 3) := by decide +kernel
theorem dX1_dropSubpath_15 : decode cX1_dropSubpath 15 = .ok (.if_icmp .ge 22, 3) := by decide +kernel
theorem dX1_dropSubpath_18 : decode cX1_dropSubpath 18 = .ok (.aload_n 0, 1) := by decide +kernel
theorem dX1_dropSubpath_19 : decode cX1_dropSubpath 19 = .ok (.iload_n 3, 1) := by decide +kernel
theorem dX1_dropSubpath_20 : decode cX1_dropSubpath 20 = .ok (.aload_n 0, 1) := by decide +kernel
theorem dX1_dropSubpath_21 : decode cX1_dropSubpath 21 = .ok (.iload_n 3, 1) := by decide +kernel
theorem dX1_dropSubpath_22 : decode cX1_dropSubpath 22 = .ok (.bipush 18, 2) := by decide +kernel
theorem dX1_dropSubpath_24 : decode cX1_dropSubpath 24 = .ok (.iadd, 1) := by decide +kernel
theorem dX1_dropSubpath_25 : decode cX1_dropSubpath 25 = .ok (.invokevirtual 21, 3) := by decide +kernel
theorem dX1_dropSubpath_28 : decode cX1_dropSubpath 28 = .ok (.invokevirtual 32, 3) := by decide +kernel
theorem dX1_dropSubpath_31 : decode cX1_dropSubpath 31 = .ok (.iinc 3 1, 3) := by decide +kernel
theorem dX1_dropSubpath_34 : decode cX1_dropSubpath 34 = .ok (.goto (-24), 3) := by decide +kernel
theorem dX1_dropSubpath_37 : decode cX1_dropSubpath 37 = .ok (.aload_n 0, 1) := by decide +kernel
theorem dX1_dropSubpath_38 : decode cX1_dropSubpath 38 = .ok (.bipush 13, 2) := by decide +kernel
theorem dX1_dropSubpath_40 : decode cX1_dropSubpath 40 = .ok (.iload_n 2, 1) := by decide +kernel
theorem dX1_dropSubpath_41 : decode cX1_dropSubpath 41 = .ok (.invokevirtual 32, 3) := by decide +kernel
theorem dX1_dropSubpath_44 : decode cX1_dropSubpath 44 = .ok (.return_, 1) := by decide +kernel
theorem dX1_turnAround_0 : decode cX1_turnAround 0 = .ok (.iconst 0, 1) := by decide +kernel
theorem dX1_turnAround_1 : decode cX1_turnAround 1 = .ok (.istore_n 2, 1) := by decide +kernel
theorem dX1_turnAround_2 : decode cX1_turnAround 2 = .ok (.aload_n 0, 1) := by decide +kernel
theorem dX1_turnAround_3 : decode cX1_turnAround 3 = .ok (.iload_n 1, 1) := by decide +kernel
theorem dX1_turnAround_4 : decode cX1_turnAround 4 = .ok (.invokevirtual 46, 3) := by decide +kernel
theorem dX1_turnAround_7 : decode cX1_turnAround 7 = .ok (.iconst 1, 1) := by decide +kernel
theorem dX1_turnAround_8 : decode cX1_turnAround 8 = .ok (.isub, 1) := by decide +kernel
theorem dX1_turnAround_9 : decode cX1_turnAround 9 = .ok (.istore_n 3, 1) := by decide +kernel
theorem dX1_turnAround_10 : decode cX1_turnAround 10 = .ok (.iload_n 3, 1) := by decide +kernel
theorem dX1_turnAround_11 : decode cX1_turnAround 11 = .ok (.iload_n 2, 1) := by decide +kernel
theorem dX1_turnAround_12 : decode cX1_turnAround 12 = .ok (.if_icmp .le 56, 3) := by decide +kernel
theorem dX1_turnAround_15 : decode cX1_turnAround 15 = .ok (.aload_n 0, 1) := by decide +kernel
theorem dX1_turnAround_16 : decode cX1_turnAround 16 = .ok (.iload_n 1, 1) := by decide +kernel
theorem dX1_turnAround_17 : decode cX1_turnAround 17 = .ok (.iload_n 2, 1) := by decide +kernel
theorem dX1_turnAround_18 : decode cX1_turnAround 18 = .ok (.invokevirtual 53, 3) := by decide +kernel
theorem dX1_turnAround_21 : decode cX1_turnAround 21 = .ok (.istore 4, 2) := by decide +kernel
theorem dX1_turnAround_23 : decode cX1_turnAround 23 = .ok (.aload_n 0, 1) := by decide +kernel
theorem dX1_turnAround_24 : decode cX1_turnAround 24 = .ok (.iload_n 1, 1) := by decide +kernel
theorem dX1_turnAround_25 : decode cX1_turnAround 25 = .ok (.iload_n 2, 1) := by decide +kernel
theorem dX1_turnAround_26 : decode cX1_turnAround 26 = .ok (.invokevirtual 56, 3) := by decide +kernel
theorem dX1_turnAround_29 : decode cX1_turnAround 29 = .ok (.istore 5, 2) := by decide +kernel
theorem dX1_turnAround_31 : decode cX1_turnAround 31 = .ok (.aload_n 0, 1) := by decide +kernel
theorem dX1_turnAround_32 : decode cX1_turnAround 32 = .ok (.iload_n 1, 1) := by decide +kernel
theorem dX1_turnAround_33 : decode cX1_turnAround 33 = .ok (.iload_n 2, 1) := by decide +kernel
theorem dX1_turnAround_34 : decode cX1_turnAround 34 = .ok (.aload_n 0, 1) := by decide +kernel
theorem dX1_turnAround_35 : decode cX1_turnAround 35 = .ok (.iload_n 1, 1) := by decide +kernel
theorem dX1_turnAround_36 : decode cX1_turnAround 36 = .ok (.iload_n 3, 1) := by decide +kernel
theorem dX1_turnAround_37 : decode cX1_turnAround 37 = .ok (.invokevirtual 53, 3) := by decide +kernel
theorem dX1_turnAround_40 : decode cX1_turnAround 40 = .ok (.aload_n 0, 1) := by decide +kernel
theorem dX1_turnAround_41 : decode cX1_turnAround 41 = .ok (.iload_n 1, 1) := by decide +kernel
theorem dX1_turnAround_42 : decode cX1_turnAround 42 = .ok (.iload_n 3, 1) := by decide +kernel
theorem dX1_turnAround_43 : decode cX1_turnAround 43 = .ok (.invokevirtual 56, 3) := by decide +kernel
theorem dX1_turnAround_46 : decode cX1_turnAround 46 = .ok (.invokevirtual 49, 3) := by decide +kernel
theorem dX1_turnAround_49 : decode cX1_turnAround 49 = .ok (.aload_n 0, 1) := by decide +kernel
theorem dX1_turnAround_50 : decode cX1_turnAround 50 = .ok (.iload_n 1, 1) := by decide +kernel
theorem dX1_turnAround_51 : decode cX1_turnAround 51 = .ok (.iload_n 3, 1) := by decide +kernel
theorem dX1_turnAround_52 : decode cX1_turnAround 52 = .ok (.iload 4, 2) := by decide +kernel
theorem dX1_turnAround_54 : decode cX1_turnAround 54 = .ok (.iload 5, 2) := by decide +kernel
theorem dX1_turnAround_56 : decode cX1_turnAround 56 = .ok (.invokevirtual 49, 3) := by decide +kernel
theorem dX1_turnAround_59 : decode cX1_turnAround 59 = .ok (.iinc 2 1, 3) := by decide +kernel
theorem dX1_turnAround_62 : decode cX1_turnAround 62 = .ok (.iinc 3 (-1), 3) := by decide +kernel
theorem dX1_turnAround_65 : decode cX1_turnAround 65 = .ok (.goto (-55), 3) := by decide +kernel
theorem dX1_turnAround_68 : decode cX1_turnAround 68 = .ok (.return_, 1) := by decide +kernel
theorem dX1_dropIdlePoints_0 : decode cX1_dropIdlePoints 0 = .ok (.iconst 0, 1) := by decide +kernel
theorem dX1_dropIdlePoints_1 : decode cX1_dropIdlePoints 1 = .ok (.istore_n 2, 1) := by decide +kernel
theorem dX1_dropIdlePoints_2 : decode cX1_dropIdlePoints 2 = .ok (.iload_n 2, 1) := by decide +kernel
theorem dX1_dropIdlePoints_3 : decode cX1_dropIdlePoints 3 = .ok (.bipush 8, 2) := by decide +kernel
theorem dX1_dropIdlePoints_5 : decode cX1_dropIdlePoints 5 = .ok (.if_icmp .ge 28, 3) := by decide +kernel
theorem dX1_dropIdlePoints_8 : decode cX1_dropIdlePoints 8 = .ok (.aload_n 0, 1) := by decide +kernel
theorem dX1_dropIdlePoints_9 : decode cX1_dropIdlePoints 9 = .ok (.iload_n 1, 1) := by decide +kernel
theorem dX1_dropIdlePoints_10 : decode cX1_dropIdlePoints 10 = .ok (.invokevirtual 59, 3) := by decide +kernel
theorem dX1_dropIdlePoints_13 : decode cX1_dropIdlePoints 13 = .ok (.istore_n 3, 1) := by decide +kernel
theorem dX1_dropIdlePoints_14 : decode cX1_dropIdlePoints 14 = .ok (.iload_n 3, 1) := by decide +kernel
theorem dX1_dropIdlePoints_15 : decode cX1_dropIdlePoints 15 = .ok (.iconst (-1), 1) := by decide +kernel
theorem dX1_dropIdlePoints_16 : decode cX1_dropIdlePoints 16 = .ok (.if_icmp .ne 5, 3) := by decide +kernel
theorem dX1_dropIdlePoints_19 : decode cX1_dropIdlePoints 19 = .ok (.iload_n 2, 1) := by decide +kernel
theorem dX1_dropIdlePoints_20 : decode cX1_dropIdlePoints 20 = .ok (.ireturn, 1) := by decide +kernel
theorem dX1_dropIdlePoints_21 : decode cX1_dropIdlePoints 21 = .ok (.aload_n 0, 1) := by decide +kernel
theorem dX1_dropIdlePoints_22 : decode cX1_dropIdlePoints 22 = .ok (.iload_n 1, 1) := by decide +kernel
theorem dX1_dropIdlePoints_23 : decode cX1_dropIdlePoints 23 = .ok (.iload_n 3, 1) := by decide +kernel
theorem dX1_dropIdlePoints_24 : decode cX1_dropIdlePoints 24 = .ok (.invokevirtual 62, 3) := by decide +kernel
theorem dX1_dropIdlePoints_27 : decode cX1_dropIdlePoints 27 = .ok (.iinc 2 1, 3) := by decide +kernel
theorem dX1_dropIdlePoints_30 : decode cX1_dropIdlePoints 30 = .ok (.goto (-28), 3) := by decide +kernel
theorem dX1_dropIdlePoints_33 : decode cX1_dropIdlePoints 33 = .ok (.bipush 8, 2) := by decide +kernel
theorem dX1_dropIdlePoints_35 : decode cX1_dropIdlePoints 35 = .ok (.ireturn, 1) := by decide +kernel
theorem dX1_firstIdlePoint_0 : decode cX1_firstIdlePoint 0 = .ok (.iconst 0, 1) := by decide +kernel
theorem dX1_firstIdlePoint_1 : decode cX1_firstIdlePoint 1 = .ok (.istore_n 2, 1) := by decide +kernel
theorem dX1_firstIdlePoint_2 : decode cX1_firstIdlePoint 2 = .ok (.iload_n 2, 1) := by decide +kernel
theorem dX1_firstIdlePoint_3 : decode cX1_firstIdlePoint 3 = .ok (.aload_n 0, 1) := by decide +kernel
theorem dX1_firstIdlePoint_4 : decode cX1_firstIdlePoint 4 = .ok (.iload_n 1, 1) := by decide +kernel
theorem dX1_firstIdlePoint_5 : decode cX1_firstIdlePoint 5 = .ok (.invokevirtual 46, 3) := by decide +kernel
theorem dX1_firstIdlePoint_8 : decode cX1_firstIdlePoint 8 = .ok (.if_icmp .ge 20, 3) := by decide +kernel
theorem dX1_firstIdlePoint_11 : decode cX1_firstIdlePoint 11 = .ok (.aload_n 0, 1) := by decide +kernel
theorem dX1_firstIdlePoint_12 : decode cX1_firstIdlePoint 12 = .ok (.iload_n 1, 1) := by decide +kernel
theorem dX1_firstIdlePoint_13 : decode cX1_firstIdlePoint 13 = .ok (.iload_n 2, 1) := by decide +kernel
theorem dX1_firstIdlePoint_14 : decode cX1_firstIdlePoint 14 = .ok (.invokevirtual 65, 3) := by decide +kernel
theorem dX1_firstIdlePoint_17 : decode cX1_firstIdlePoint 17 = .ok (.ifCond .eq 5, 3) := by decide +kernel
theorem dX1_firstIdlePoint_20 : decode cX1_firstIdlePoint 20 = .ok (.iload_n 2, 1) := by decide +kernel
theorem dX1_firstIdlePoint_21 : decode cX1_firstIdlePoint 21 = .ok (.ireturn, 1) := by decide +kernel
theorem dX1_firstIdlePoint_22 : decode cX1_firstIdlePoint 22 = .ok (.iinc 2 1, 3) := by decide +kernel
theorem dX1_firstIdlePoint_25 : decode cX1_firstIdlePoint 25 = .ok (.goto (-23), 3) := by decide +kernel
theorem dX1_firstIdlePoint_28 : decode cX1_firstIdlePoint 28 = .ok (.iconst (-1), 1) := by decide +kernel
theorem dX1_firstIdlePoint_29 : decode cX1_firstIdlePoint 29 = .ok (.ireturn, 1) := by decide +kernel
theorem dX1_isIdle_0 : decode cX1_isIdle 0 = .ok (.aload_n 0, 1) := by decide +kernel
theorem dX1_isIdle_1 : decode cX1_isIdle 1 = .ok (.iload_n 1, 1) := by decide +kernel
theorem dX1_isIdle_2 : decode cX1_isIdle 2 = .ok (.invokevirtual 46, 3) := by decide +kernel
theorem dX1_isIdle_5 : decode cX1_isIdle 5 = .ok (.istore_n 3, 1) := by decide +kernel
theorem dX1_isIdle_6 : decode cX1_isIdle 6 = .ok (.aload_n 0, 1) := by decide +kernel
theorem dX1_isIdle_7 : decode cX1_isIdle 7 = .ok (.iload_n 1, 1) := by decide +kernel
theorem dX1_isIdle_8 : decode cX1_isIdle 8 = .ok (.invokevirtual 69, 3) := by decide +kernel
theorem dX1_isIdle_11 : decode cX1_isIdle 11 = .ok (.istore 4, 2) := by decide +kernel
theorem dX1_isIdle_13 : decode cX1_isIdle 13 = .ok (.iload_n 3, 1) := by decide +kernel
theorem dX1_isIdle_14 : decode cX1_isIdle 14 = .ok (.iconst 2, 1) := by decide +kernel
theorem dX1_isIdle_15 : decode cX1_isIdle 15 = .ok (.if_icmp .lt 12, 3) := by decide +kernel
theorem dX1_isIdle_18 : decode cX1_isIdle 18 = .ok (.iload_n 2, 1) := by decide +kernel
theorem dX1_isIdle_19 : decode cX1_isIdle 19 = .ok (.ifCond .ne 10, 3) := by decide +kernel
theorem dX1_isIdle_22 : decode cX1_isIdle 22 = .ok (.iload 4, 2) := by decide +kernel
theorem dX1_isIdle_24 : decode cX1_isIdle 24 = .ok (.ifCond .ne 5, 3) := by decide +kernel
theorem dX1_isIdle_27 : decode cX1_isIdle 27 = .ok (.iconst 0, 1) := by decide +kernel
theorem dX1_isIdle_28 : decode cX1_isIdle 28 = .ok (.ireturn, 1) := by decide +kernel
theorem dX1_isIdle_29 : decode cX1_isIdle 29 = .ok (.iload_n 2, 1) := by decide +kernel
theorem dX1_isIdle_30 : decode cX1_isIdle 30 = .ok (.ifCond .le 9, 3) := by decide +kernel
theorem dX1_isIdle_33 : decode cX1_isIdle 33 = .ok (.iload_n 2, 1) := by decide +kernel
theorem dX1_isIdle_34 : decode cX1_isIdle 34 = .ok (.iconst 1, 1) := by decide +kernel
theorem dX1_isIdle_35 : decode cX1_isIdle 35 = .ok (.isub, 1) := by decide +kernel
theorem dX1_isIdle_36 : decode cX1_isIdle 36 = .ok (.goto 6, 3) := by decide +kernel
theorem dX1_isIdle_39 : decode cX1_isIdle 39 = .ok (.iload_n 3, 1) := by decide +kernel
theorem dX1_isIdle_40 : decode cX1_isIdle 40 = .ok (.iconst 1, 1) := by decide +kernel
theorem dX1_isIdle_41 : decode cX1_isIdle 41 = .ok (.isub, 1) := by decide +kernel
theorem dX1_isIdle_42 : decode cX1_isIdle 42 = .ok (.istore 5, 2) := by decide +kernel
theorem dX1_isIdle_44 : decode cX1_isIdle 44 = .ok (.aload_n 0, 1) := by decide +kernel
theorem dX1_isIdle_45 : decode cX1_isIdle 45 = .ok (.iload_n 1, 1) := by decide +kernel
theorem dX1_isIdle_46 : decode cX1_isIdle 46 = .ok (.iload 5, 2) := by decide +kernel
theorem dX1_isIdle_48 : decode cX1_isIdle 48 = .ok (.invokevirtual 53, 3) := by decide +kernel
theorem dX1_isIdle_51 : decode cX1_isIdle 51 = .ok (.aload_n 0, 1) := by decide +kernel
theorem dX1_isIdle_52 : decode cX1_isIdle 52 = .ok (.iload_n 1, 1) := by decide +kernel
theorem dX1_isIdle_53 : decode cX1_isIdle 53 = .ok (.iload_n 2, 1) := by decide +kernel
theorem dX1_isIdle_54 : decode cX1_isIdle 54 = .ok (.invokevirtual 53, 3) := by decide +kernel
theorem dX1_isIdle_57 : decode cX1_isIdle 57 = .ok (.if_icmp .ne 21, 3) := by decide +kernel
theorem dX1_isIdle_60 : decode cX1_isIdle 60 = .ok (.aload_n 0, 1) := by decide +kernel
theorem dX1_isIdle_61 : decode cX1_isIdle 61 = .ok (.iload_n 1, 1) := by decide +kernel
theorem dX1_isIdle_62 : decode cX1_isIdle 62 = .ok (.iload 5, 2) := by decide +kernel
theorem dX1_isIdle_64 : decode cX1_isIdle 64 = .ok (.invokevirtual 56, 3) := by decide +kernel
theorem dX1_isIdle_67 : decode cX1_isIdle 67 = .ok (.aload_n 0, 1) := by decide +kernel
theorem dX1_isIdle_68 : decode cX1_isIdle 68 = .ok (.iload_n 1, 1) := by decide +kernel
theorem dX1_isIdle_69 : decode cX1_isIdle 69 = .ok (.iload_n 2, 1) := by decide +kernel
theorem dX1_isIdle_70 : decode cX1_isIdle 70 = .ok (.invokevirtual 56, 3) := by decide +kernel
theorem dX1_isIdle_73 : decode cX1_isIdle 73 = .ok (.if_icmp .ne 5, 3) := by decide +kernel
theorem dX1_isIdle_76 : decode cX1_isIdle 76 = .ok (.iconst 1, 1) := by decide +kernel
theorem dX1_isIdle_77 : decode cX1_isIdle 77 = .ok (.ireturn, 1) := by decide +kernel
theorem dX1_isIdle_78 : decode cX1_isIdle 78 = .ok (.iload_n 2, 1) := by decide +kernel
theorem dX1_isIdle_79 : decode cX1_isIdle 79 = .ok (.iload_n 3, 1) := by decide +kernel
theorem dX1_isIdle_80 : decode cX1_isIdle 80 = .ok (.iconst 1, 1) := by decide +kernel
theorem dX1_isIdle_81 : decode cX1_isIdle 81 = .ok (.isub, 1) := by decide +kernel
theorem dX1_isIdle_82 : decode cX1_isIdle 82 = .ok (.if_icmp .ge 9, 3) := by decide +kernel
theorem dX1_isIdle_85 : decode cX1_isIdle 85 = .ok (.iload_n 2, 1) := by decide +kernel
theorem dX1_isIdle_86 : decode cX1_isIdle 86 = .ok (.iconst 1, 1) := by decide +kernel
theorem dX1_isIdle_87 : decode cX1_isIdle 87 = .ok (.iadd, 1) := by decide +kernel
theorem dX1_isIdle_88 : decode cX1_isIdle 88 = .ok (.goto 4, 3) := by decide +kernel
theorem dX1_isIdle_91 : decode cX1_isIdle 91 = .ok (.iconst 0, 1) := by decide +kernel
theorem dX1_isIdle_92 : decode cX1_isIdle 92 = .ok (.istore 6, 2) := by decide +kernel
theorem dX1_isIdle_94 : decode cX1_isIdle 94 = .ok (.iload 6, 2) := by decide +kernel
theorem dX1_isIdle_96 : decode cX1_isIdle 96 = .ok (.ifCond .gt 8, 3) := by decide +kernel
theorem dX1_isIdle_99 : decode cX1_isIdle 99 = .ok (.iload 4, 2) := by decide +kernel
theorem dX1_isIdle_101 : decode cX1_isIdle 101 = .ok (.ifCond .eq 20, 3) := by decide +kernel
theorem dX1_isIdle_104 : decode cX1_isIdle 104 = .ok (.aload_n 0, 1) := by decide +kernel
theorem dX1_isIdle_105 : decode cX1_isIdle 105 = .ok (.iload_n 1, 1) := by decide +kernel
theorem dX1_isIdle_106 : decode cX1_isIdle 106 = .ok (.iload 5, 2) := by decide +kernel
theorem dX1_isIdle_108 : decode cX1_isIdle 108 = .ok (.iload_n 2, 1) := by decide +kernel
theorem dX1_isIdle_109 : decode cX1_isIdle 109 = .ok (.iload 6, 2) := by decide +kernel
theorem dX1_isIdle_111 : decode cX1_isIdle 111 = .ok (.invokevirtual 73, 3) := by decide +kernel
theorem dX1_isIdle_114 : decode cX1_isIdle 114 = .ok (.ifCond .eq 7, 3) := by decide +kernel
theorem dX1_isIdle_117 : decode cX1_isIdle 117 = .ok (.iconst 1, 1) := by decide +kernel
theorem dX1_isIdle_118 : decode cX1_isIdle 118 = .ok (.goto 4, 3) := by decide +kernel
theorem dX1_isIdle_121 : decode cX1_isIdle 121 = .ok (.iconst 0, 1) := by decide +kernel
theorem dX1_isIdle_122 : decode cX1_isIdle 122 = .ok (.ireturn, 1) := by decide +kernel
theorem dX1_isBetween_0 : decode cX1_isBetween 0 = .ok (.aload_n 0, 1) := by decide +kernel
theorem dX1_isBetween_1 : decode cX1_isBetween 1 = .ok (.iload_n 1, 1) := by decide +kernel
theorem dX1_isBetween_2 : decode cX1_isBetween 2 = .ok (.iload_n 2, 1) := by decide +kernel
theorem dX1_isBetween_3 : decode cX1_isBetween 3 = .ok (.invokevirtual 53, 3) := by decide +kernel
theorem dX1_isBetween_6 : decode cX1_isBetween 6 = .ok (.istore 5, 2) := by decide +kernel
theorem dX1_isBetween_8 : decode cX1_isBetween 8 = .ok (.aload_n 0, 1) := by decide +kernel
theorem dX1_isBetween_9 : decode cX1_isBetween 9 = .ok (.iload_n 1, 1) := by decide +kernel
theorem dX1_isBetween_10 : decode cX1_isBetween 10 = .ok (.iload_n 2, 1) := by decide +kernel
theorem dX1_isBetween_11 : decode cX1_isBetween 11 = .ok (.invokevirtual 56, 3) := by decide +kernel
theorem dX1_isBetween_14 : decode cX1_isBetween 14 = .ok (.istore 6, 2) := by decide +kernel
theorem dX1_isBetween_16 : decode cX1_isBetween 16 = .ok (.aload_n 0, 1) := by decide +kernel
theorem dX1_isBetween_17 : decode cX1_isBetween 17 = .ok (.iload_n 1, 1) := by decide +kernel
theorem dX1_isBetween_18 : decode cX1_isBetween 18 = .ok (.iload 4, 2) := by decide +kernel
theorem dX1_isBetween_20 : decode cX1_isBetween 20 = .ok (.invokevirtual 53, 3) := by decide +kernel
theorem dX1_isBetween_23 : decode cX1_isBetween 23 = .ok (.istore 7, 2) := by decide +kernel
theorem dX1_isBetween_25 : decode cX1_isBetween 25 = .ok (.aload_n 0, 1) := by decide +kernel
theorem dX1_isBetween_26 : decode cX1_isBetween 26 = .ok (.iload_n 1, 1) := by decide +kernel
theorem dX1_isBetween_27 : decode cX1_isBetween 27 = .ok (.iload 4, 2) := by decide +kernel
theorem dX1_isBetween_29 : decode cX1_isBetween 29 = .ok (.invokevirtual 56, 3) := by decide +kernel
theorem dX1_isBetween_32 : decode cX1_isBetween 32 = .ok (.istore 8, 2) := by decide +kernel
theorem dX1_isBetween_34 : decode cX1_isBetween 34 = .ok (.aload_n 0, 1) := by decide +kernel
theorem dX1_isBetween_35 : decode cX1_isBetween 35 = .ok (.iload_n 1, 1) := by decide +kernel
theorem dX1_isBetween_36 : decode cX1_isBetween 36 = .ok (.iload_n 3, 1) := by decide +kernel
theorem dX1_isBetween_37 : decode cX1_isBetween 37 = .ok (.invokevirtual 53, 3) := by decide +kernel
theorem dX1_isBetween_40 : decode cX1_isBetween 40 = .ok (.istore 9, 2) := by decide +kernel
theorem dX1_isBetween_42 : decode cX1_isBetween 42 = .ok (.aload_n 0, 1) := by decide +kernel
theorem dX1_isBetween_43 : decode cX1_isBetween 43 = .ok (.iload_n 1, 1) := by decide +kernel
theorem dX1_isBetween_44 : decode cX1_isBetween 44 = .ok (.iload_n 3, 1) := by decide +kernel
theorem dX1_isBetween_45 : decode cX1_isBetween 45 = .ok (.invokevirtual 56, 3) := by decide +kernel
theorem dX1_isBetween_48 : decode cX1_isBetween 48 = .ok (.istore 10, 2) := by decide +kernel
theorem dX1_isBetween_50 : decode cX1_isBetween 50 = .ok (.iload 7, 2) := by decide +kernel
theorem dX1_isBetween_52 : decode cX1_isBetween 52 = .ok (.iload 5, 2) := by decide +kernel
theorem dX1_isBetween_54 : decode cX1_isBetween 54 = .ok (.isub, 1) := by decide +kernel
theorem dX1_isBetween_55 : decode cX1_isBetween 55 = .ok (.iload 10, 2) := by decide +kernel
theorem dX1_isBetween_57 : decode cX1_isBetween 57 = .ok (.iload 6, 2) := by decide +kernel
theorem dX1_isBetween_59 : decode cX1_isBetween 59 = .ok (.isub, 1) := by decide +kernel
theorem dX1_isBetween_60 : decode cX1_isBetween 60 = .ok (.imul, 1) := by decide +kernel
theorem dX1_isBetween_61 : decode cX1_isBetween 61 = .ok (.iload 8, 2) := by decide +kernel
theorem dX1_isBetween_63 : decode cX1_isBetween 63 = .ok (.iload 6, 2) := by decide +kernel
theorem dX1_isBetween_65 : decode cX1_isBetween 65 = .ok (.isub, 1) := by decide +kernel
theorem dX1_isBetween_66 : decode cX1_isBetween 66 = .ok (.iload 9, 2) := by decide +kernel
theorem dX1_isBetween_68 : decode cX1_isBetween 68 = .ok (.iload 5, 2) := by decide +kernel
theorem dX1_isBetween_70 : decode cX1_isBetween 70 = .ok (.isub, 1) := by decide +kernel
theorem dX1_isBetween_71 : decode cX1_isBetween 71 = .ok (.imul, 1) := by decide +kernel
theorem dX1_isBetween_72 : decode cX1_isBetween 72 = .ok (.if_icmp .ne 55, 3) := by decide +kernel
theorem dX1_isBetween_75 : decode cX1_isBetween 75 = .ok (.iload 9, 2) := by decide +kernel
theorem dX1_isBetween_77 : decode cX1_isBetween 77 = .ok (.iload 5, 2) := by decide +kernel
theorem dX1_isBetween_79 : decode cX1_isBetween 79 = .ok (.iload 7, 2) := by decide +kernel
theorem dX1_isBetween_81 : decode cX1_isBetween 81 = .ok (.invokestatic 77, 3) := by decide +kernel
theorem dX1_isBetween_84 : decode cX1_isBetween 84 = .ok (.if_icmp .lt 43, 3) := by decide +kernel
theorem dX1_isBetween_87 : decode cX1_isBetween 87 = .ok (.iload 9, 2) := by decide +kernel
theorem dX1_isBetween_89 : decode cX1_isBetween 89 = .ok (.iload 5, 2) := by decide +kernel
theorem dX1_isBetween_91 : decode cX1_isBetween 91 = .ok (.iload 7, 2) := by decide +kernel
theorem dX1_isBetween_93 : decode cX1_isBetween 93 = .ok (.invokestatic 82, 3) := by decide +kernel
theorem dX1_isBetween_96 : decode cX1_isBetween 96 = .ok (.if_icmp .gt 31, 3) := by decide +kernel
theorem dX1_isBetween_99 : decode cX1_isBetween 99 = .ok (.iload 10, 2) := by decide +kernel
theorem dX1_isBetween_101 : decode cX1_isBetween 101 = .ok (.iload 6, 2) := by decide +kernel
theorem dX1_isBetween_103 : decode cX1_isBetween 103 = .ok (.iload 8, 2) := by decide +kernel
theorem dX1_isBetween_105 : decode cX1_isBetween 105 = .ok (.invokestatic 77, 3) := by decide +kernel
theorem dX1_isBetween_108 : decode cX1_isBetween 108 = .ok (.if_icmp .lt 19, 3) := by decide +kernel
theorem dX1_isBetween_111 : decode cX1_isBetween 111 = .ok (.iload 10, 2) := by decide +kernel
theorem dX1_isBetween_113 : decode cX1_isBetween 113 = .ok (.iload 6, 2) := by decide +kernel
theorem dX1_isBetween_115 : decode cX1_isBetween 115 = .ok (.iload 8, 2) := by decide +kernel
theorem dX1_isBetween_117 : decode cX1_isBetween 117 = .ok (.invokestatic 82, 3) := by decide +kernel
theorem dX1_isBetween_120 : decode cX1_isBetween 120 = .ok (.if_icmp .gt 7, 3) := by decide +kernel
theorem dX1_isBetween_123 : decode cX1_isBetween 123 = .ok (.iconst 1, 1) := by decide +kernel
theorem dX1_isBetween_124 : decode cX1_isBetween 124 = .ok (.goto 4, 3) := by decide +kernel
theorem dX1_isBetween_127 : decode cX1_isBetween 127 = .ok (.iconst 0, 1) := by decide +kernel
theorem dX1_isBetween_128 : decode cX1_isBetween 128 = .ok (.ireturn, 1) := by decide +kernel
theorem dX1_dropPoint_0 : decode cX1_dropPoint 0 = .ok (.aload_n 0, 1) := by decide +kernel
theorem dX1_dropPoint_1 : decode cX1_dropPoint 1 = .ok (.iload_n 1, 1) := by decide +kernel
theorem dX1_dropPoint_2 : decode cX1_dropPoint 2 = .ok (.invokevirtual 46, 3) := by decide +kernel
theorem dX1_dropPoint_5 : decode cX1_dropPoint 5 = .ok (.istore_n 3, 1) := by decide +kernel
theorem dX1_dropPoint_6 : decode cX1_dropPoint 6 = .ok (.iload_n 2, 1) := by decide +kernel
theorem dX1_dropPoint_7 : decode cX1_dropPoint 7 = .ok (.istore 4, 2) := by decide +kernel
theorem dX1_dropPoint_9 : decode cX1_dropPoint 9 = .ok (.iload 4, 2) := by decide +kernel
theorem dX1_dropPoint_11 : decode cX1_dropPoint 11 = .ok (.iload_n 3, 1) := by decide +kernel
theorem dX1_dropPoint_12 : decode cX1_dropPoint 12 = .ok (.iconst 1, 1) := by decide +kernel
theorem dX1_dropPoint_13 : decode cX1_dropPoint 13 = .ok (.isub, 1) := by decide +kernel
theorem dX1_dropPoint_14 : decode cX1_dropPoint 14 = .ok (.if_icmp .ge 34, 3) := by decide +kernel
theorem dX1_dropPoint_17 : decode cX1_dropPoint 17 = .ok (.aload_n 0, 1) := by decide +kernel
theorem dX1_dropPoint_18 : decode cX1_dropPoint 18 = .ok (.iload_n 1, 1) := by decide +kernel
theorem dX1_dropPoint_19 : decode cX1_dropPoint 19 = .ok (.iload 4, 2) := by decide +kernel
theorem dX1_dropPoint_21 : decode cX1_dropPoint 21 = .ok (.aload_n 0, 1) := by decide +kernel
theorem dX1_dropPoint_22 : decode cX1_dropPoint 22 = .ok (.iload_n 1, 1) := by decide +kernel
theorem dX1_dropPoint_23 : decode cX1_dropPoint 23 = .ok (.iload 4, 2) := by decide +kernel
theorem dX1_dropPoint_25 : decode cX1_dropPoint 25 = .ok (.iconst 1, 1) := by decide +kernel
theorem dX1_dropPoint_26 : decode cX1_dropPoint 26 = .ok (.iadd, 1) := by decide +kernel
theorem dX1_dropPoint_27 : decode cX1_dropPoint 27 = .ok (.invokevirtual 53, 3) := by decide +kernel
theorem dX1_dropPoint_30 : decode cX1_dropPoint 30 = .ok (.aload_n 0, 1) := by decide +kernel
theorem dX1_dropPoint_31 : decode cX1_dropPoint 31 = .ok (.iload_n 1, 1) := by decide +kernel
theorem dX1_dropPoint_32 : decode cX1_dropPoint 32 = .ok (.iload 4, 2) := by decide +kernel
theorem dX1_dropPoint_34 : decode cX1_dropPoint 34 = .ok (.iconst 1, 1) := by decide +kernel
theorem dX1_dropPoint_35 : decode cX1_dropPoint 35 = .ok (.iadd, 1) := by decide +kernel
theorem dX1_dropPoint_36 : decode cX1_dropPoint 36 = .ok (.invokevirtual 56, 3) := by decide +kernel
theorem dX1_dropPoint_39 : decode cX1_dropPoint 39 = .ok (.invokevirtual 49, 3) := by decide +kernel
theorem dX1_dropPoint_42 : decode cX1_dropPoint 42 = .ok (.iinc 4 1, 3) := by decide +kernel
theorem dX1_dropPoint_45 : decode cX1_dropPoint 45 = .ok (.goto (-36), 3) := by decide +kernel
theorem dX1_dropPoint_48 : decode cX1_dropPoint 48 = .ok (.aload_n 0, 1) := by decide +kernel
theorem dX1_dropPoint_49 : decode cX1_dropPoint 49 = .ok (.iload_n 1, 1) := by decide +kernel
theorem dX1_dropPoint_50 : decode cX1_dropPoint 50 = .ok (.invokestatic 25, 3) := by decide +kernel
theorem dX1_dropPoint_53 : decode cX1_dropPoint 53 = .ok (.iconst 0, 1) := by decide +kernel
theorem dX1_dropPoint_54 : decode cX1_dropPoint 54 = .ok (.iadd, 1) := by decide +kernel
theorem dX1_dropPoint_55 : decode cX1_dropPoint 55 = .ok (.iload_n 3, 1) := by decide +kernel
theorem dX1_dropPoint_56 : decode cX1_dropPoint 56 = .ok (.iconst 1, 1) := by decide +kernel
theorem dX1_dropPoint_57 : decode cX1_dropPoint 57 = .ok (.isub, 1) := by decide +kernel
theorem dX1_dropPoint_58 : decode cX1_dropPoint 58 = .ok (.invokevirtual 32, 3) := by decide +kernel
theorem dX1_dropPoint_61 : decode cX1_dropPoint 61 = .ok (.return_, 1) := by decide +kernel
theorem dX1_canMove_0 : decode cX1_canMove 0 = .ok (.iconst 0, 1) := by decide +kernel
theorem dX1_canMove_1 : decode cX1_canMove 1 = .ok (.istore 4, 2) := by decide +kernel
theorem dX1_canMove_3 : decode cX1_canMove 3 = .ok (.iload 4, 2) := by decide +kernel
theorem dX1_canMove_5 : decode cX1_canMove 5 = .ok (.aload_n 0, 1) := by decide +kernel
theorem dX1_canMove_6 : decode cX1_canMove 6 = .ok (.invokevirtual 36, 3) := by decide +kernel
theorem dX1_canMove_9 : decode cX1_canMove 9 = .ok (.if_icmp .ge 97, 3) := by decide +kernel
theorem dX1_canMove_12 : decode cX1_canMove 12 = .ok (.iconst 0, 1) := by decide +kernel
theorem dX1_canMove_13 : decode cX1_canMove 13 = .ok (.istore 5, 2) := by decide +kernel
theorem dX1_canMove_15 : decode cX1_canMove 15 = .ok (.iload 5, 2) := by decide +kernel
theorem dX1_canMove_17 : decode cX1_canMove 17 = .ok (.aload_n 0, 1) := by decide +kernel
theorem dX1_canMove_18 : decode cX1_canMove 18 = .ok (.iload 4, 2) := by decide +kernel
theorem dX1_canMove_20 : decode cX1_canMove 20 = .ok (.invokevirtual 46, 3) := by decide +kernel
theorem dX1_canMove_23 : decode cX1_canMove 23 = .ok (.if_icmp .ge 77, 3) := by decide +kernel
theorem dX1_canMove_26 : decode cX1_canMove 26 = .ok (.aload_n 0, 1) := by decide +kernel
theorem dX1_canMove_27 : decode cX1_canMove 27 = .ok (.iload 4, 2) := by decide +kernel
theorem dX1_canMove_29 : decode cX1_canMove 29 = .ok (.iload 5, 2) := by decide +kernel
theorem dX1_canMove_31 : decode cX1_canMove 31 = .ok (.invokevirtual 53, 3) := by decide +kernel
theorem dX1_canMove_34 : decode cX1_canMove 34 = .ok (.aload_n 0, 1) := by decide +kernel
theorem dX1_canMove_35 : decode cX1_canMove 35 = .ok (.iload 4, 2) := by decide +kernel
theorem dX1_canMove_37 : decode cX1_canMove 37 = .ok (.iload 5, 2) := by decide +kernel
theorem dX1_canMove_39 : decode cX1_canMove 39 = .ok (.invokevirtual 56, 3) := by decide +kernel
theorem dX1_canMove_42 : decode cX1_canMove 42 = .ok (.iload_n 1, 1) := by decide +kernel
theorem dX1_canMove_43 : decode cX1_canMove 43 = .ok (.invokestatic 85, 3) := by decide +kernel
theorem dX1_canMove_46 : decode cX1_canMove 46 = .ok (.iload_n 2, 1) := by decide +kernel
theorem dX1_canMove_47 : decode cX1_canMove 47 = .ok (.iadd, 1) := by decide +kernel
theorem dX1_canMove_48 : decode cX1_canMove 48 = .ok (.istore 6, 2) := by decide +kernel
theorem dX1_canMove_50 : decode cX1_canMove 50 = .ok (.aload_n 0, 1) := by decide +kernel
theorem dX1_canMove_51 : decode cX1_canMove 51 = .ok (.iload 4, 2) := by decide +kernel
theorem dX1_canMove_53 : decode cX1_canMove 53 = .ok (.iload 5, 2) := by decide +kernel
theorem dX1_canMove_55 : decode cX1_canMove 55 = .ok (.invokevirtual 53, 3) := by decide +kernel
theorem dX1_canMove_58 : decode cX1_canMove 58 = .ok (.aload_n 0, 1) := by decide +kernel
theorem dX1_canMove_59 : decode cX1_canMove 59 = .ok (.iload 4, 2) := by decide +kernel
theorem dX1_canMove_61 : decode cX1_canMove 61 = .ok (.iload 5, 2) := by decide +kernel
theorem dX1_canMove_63 : decode cX1_canMove 63 = .ok (.invokevirtual 56, 3) := by decide +kernel
theorem dX1_canMove_66 : decode cX1_canMove 66 = .ok (.iload_n 1, 1) := by decide +kernel
theorem dX1_canMove_67 : decode cX1_canMove 67 = .ok (.invokestatic 89, 3) := by decide +kernel
theorem dX1_canMove_70 : decode cX1_canMove 70 = .ok (.iload_n 3, 1) := by decide +kernel
theorem dX1_canMove_71 : decode cX1_canMove 71 = .ok (.iadd, 1) := by decide +kernel
theorem dX1_canMove_72 : decode cX1_canMove 72 = .ok (.istore 7, 2) := by decide +kernel
theorem dX1_canMove_74 : decode cX1_canMove 74 = .ok (.iload 6, 2) := by decide +kernel
theorem dX1_canMove_76 : decode cX1_canMove 76 = .ok (.invokestatic 92, 3) := by decide +kernel
theorem dX1_canMove_79 : decode cX1_canMove 79 = .ok (.iload 7, 2) := by decide +kernel
theorem dX1_canMove_81 : decode cX1_canMove 81 = .ok (.invokestatic 92, 3) := by decide +kernel
theorem dX1_canMove_84 : decode cX1_canMove 84 = .ok (.invokestatic 82, 3) := by decide +kernel
theorem dX1_canMove_87 : decode cX1_canMove 87 = .ok (.bipush 100, 2) := by decide +kernel
theorem dX1_canMove_89 : decode cX1_canMove 89 = .ok (.if_icmp .le 5, 3) := by decide +kernel
theorem dX1_canMove_92 : decode cX1_canMove 92 = .ok (.iconst 0, 1) := by decide +kernel
theorem dX1_canMove_93 : decode cX1_canMove 93 = .ok (.ireturn, 1) := by decide +kernel
theorem dX1_canMove_94 : decode cX1_canMove 94 = .ok (.iinc 5 1, 3) := by decide +kernel
theorem dX1_canMove_97 : decode cX1_canMove 97 = .ok (.goto (-82), 3) := by decide +kernel
theorem dX1_canMove_100 : decode cX1_canMove 100 = .ok (.iinc 4 1, 3) := by decide +kernel
theorem dX1_canMove_103 : decode cX1_canMove 103 = .ok (.goto (-100), 3) := by decide +kernel
theorem dX1_canMove_106 : decode cX1_canMove 106 = .ok (.iconst 1, 1) := by decide +kernel
theorem dX1_canMove_107 : decode cX1_canMove 107 = .ok (.ireturn, 1) := by decide +kernel
theorem dX1_move_0 : decode cX1_move 0 = .ok (.iconst 0, 1) := by decide +kernel
theorem dX1_move_1 : decode cX1_move 1 = .ok (.istore 4, 2) := by decide +kernel
theorem dX1_move_3 : decode cX1_move 3 = .ok (.aload_n 0, 1) := by decide +kernel
theorem dX1_move_4 : decode cX1_move 4 = .ok (.invokevirtual 36, 3) := by decide +kernel
theorem dX1_move_7 : decode cX1_move 7 = .ok (.istore 5, 2) := by decide +kernel
theorem dX1_move_9 : decode cX1_move 9 = .ok (.iconst 0, 1) := by decide +kernel
theorem dX1_move_10 : decode cX1_move 10 = .ok (.istore 6, 2) := by decide +kernel
theorem dX1_move_12 : decode cX1_move 12 = .ok (.iload 6, 2) := by decide +kernel
theorem dX1_move_14 : decode cX1_move 14 = .ok (.iload 5, 2) := by decide +kernel
theorem dX1_move_16 : decode cX1_move 16 = .ok (.if_icmp .ge 96, 3) := by decide +kernel
theorem dX1_move_19 : decode cX1_move 19 = .ok (.aload_n 0, 1) := by decide +kernel
theorem dX1_move_20 : decode cX1_move 20 = .ok (.iload 6, 2) := by decide +kernel
theorem dX1_move_22 : decode cX1_move 22 = .ok (.invokevirtual 46, 3) := by decide +kernel
theorem dX1_move_25 : decode cX1_move 25 = .ok (.istore 7, 2) := by decide +kernel
theorem dX1_move_27 : decode cX1_move 27 = .ok (.iconst 0, 1) := by decide +kernel
theorem dX1_move_28 : decode cX1_move 28 = .ok (.istore 8, 2) := by decide +kernel
theorem dX1_move_30 : decode cX1_move 30 = .ok (.iload 8, 2) := by decide +kernel
theorem dX1_move_32 : decode cX1_move 32 = .ok (.iload 7, 2) := by decide +kernel
theorem dX1_move_34 : decode cX1_move 34 = .ok (.if_icmp .ge 72, 3) := by decide +kernel
theorem dX1_move_37 : decode cX1_move 37 = .ok (.aload_n 0, 1) := by decide +kernel
theorem dX1_move_38 : decode cX1_move 38 = .ok (.iload 6, 2) := by decide +kernel
theorem dX1_move_40 : decode cX1_move 40 = .ok (.iload 8, 2) := by decide +kernel
theorem dX1_move_42 : decode cX1_move 42 = .ok (.invokevirtual 53, 3) := by decide +kernel
theorem dX1_move_45 : decode cX1_move 45 = .ok (.aload_n 0, 1) := by decide +kernel
theorem dX1_move_46 : decode cX1_move 46 = .ok (.iload 6, 2) := by decide +kernel
theorem dX1_move_48 : decode cX1_move 48 = .ok (.iload 8, 2) := by decide +kernel
theorem dX1_move_50 : decode cX1_move 50 = .ok (.invokevirtual 56, 3) := by decide +kernel
theorem dX1_move_53 : decode cX1_move 53 = .ok (.iload_n 1, 1) := by decide +kernel
theorem dX1_move_54 : decode cX1_move 54 = .ok (.invokestatic 85, 3) := by decide +kernel
theorem dX1_move_57 : decode cX1_move 57 = .ok (.istore 9, 2) := by decide +kernel
theorem dX1_move_59 : decode cX1_move 59 = .ok (.aload_n 0, 1) := by decide +kernel
theorem dX1_move_60 : decode cX1_move 60 = .ok (.iload 6, 2) := by decide +kernel
theorem dX1_move_62 : decode cX1_move 62 = .ok (.iload 8, 2) := by decide +kernel
theorem dX1_move_64 : decode cX1_move 64 = .ok (.invokevirtual 53, 3) := by decide +kernel
theorem dX1_move_67 : decode cX1_move 67 = .ok (.aload_n 0, 1) := by decide +kernel
theorem dX1_move_68 : decode cX1_move 68 = .ok (.iload 6, 2) := by decide +kernel
theorem dX1_move_70 : decode cX1_move 70 = .ok (.iload 8, 2) := by decide +kernel
theorem dX1_move_72 : decode cX1_move 72 = .ok (.invokevirtual 56, 3) := by decide +kernel
theorem dX1_move_75 : decode cX1_move 75 = .ok (.iload_n 1, 1) := by decide +kernel
theorem dX1_move_76 : decode cX1_move 76 = .ok (.invokestatic 89, 3) := by decide +kernel
theorem dX1_move_79 : decode cX1_move 79 = .ok (.istore 10, 2) := by decide +kernel
theorem dX1_move_81 : decode cX1_move 81 = .ok (.aload_n 0, 1) := by decide +kernel
theorem dX1_move_82 : decode cX1_move 82 = .ok (.iload 6, 2) := by decide +kernel
theorem dX1_move_84 : decode cX1_move 84 = .ok (.iload 8, 2) := by decide +kernel
theorem dX1_move_86 : decode cX1_move 86 = .ok (.iload 9, 2) := by decide +kernel
theorem dX1_move_88 : decode cX1_move 88 = .ok (.iload_n 2, 1) := by decide +kernel
theorem dX1_move_89 : decode cX1_move 89 = .ok (.iadd, 1) := by decide +kernel
theorem dX1_move_90 : decode cX1_move 90 = .ok (.iload 10, 2) := by decide +kernel
theorem dX1_move_92 : decode cX1_move 92 = .ok (.iload_n 3, 1) := by decide +kernel
theorem dX1_move_93 : decode cX1_move 93 = .ok (.iadd, 1) := by decide +kernel
theorem dX1_move_94 : decode cX1_move 94 = .ok (.invokevirtual 49, 3) := by decide +kernel
theorem dX1_move_97 : decode cX1_move 97 = .ok (.iinc 4 1, 3) := by decide +kernel
theorem dX1_move_100 : decode cX1_move 100 = .ok (.iinc 8 1, 3) := by decide +kernel
theorem dX1_move_103 : decode cX1_move 103 = .ok (.goto (-73), 3) := by decide +kernel
theorem dX1_move_106 : decode cX1_move 106 = .ok (.iinc 6 1, 3) := by decide +kernel
theorem dX1_move_109 : decode cX1_move 109 = .ok (.goto (-97), 3) := by decide +kernel
theorem dX1_move_112 : decode cX1_move 112 = .ok (.iload 4, 2) := by decide +kernel
theorem dX1_move_114 : decode cX1_move 114 = .ok (.ireturn, 1) := by decide +kernel
theorem dX1_turnedX_0 : decode cX1_turnedX 0 = .ok (.iload_n 2, 1) := by decide +kernel
theorem dX1_turnedX_1 : decode cX1_turnedX 1 = .ok (.iconst 1, 1) := by decide +kernel
theorem dX1_turnedX_2 : decode cX1_turnedX 2 = .ok (.iand, 1) := by decide +kernel
theorem dX1_turnedX_3 : decode cX1_turnedX 3 = .ok (.ifCond .ne 7, 3) := by decide +kernel
theorem dX1_turnedX_6 : decode cX1_turnedX 6 = .ok (.iload_n 0, 1) := by decide +kernel
theorem dX1_turnedX_7 : decode cX1_turnedX 7 = .ok (.goto 5, 3) := by decide +kernel
theorem dX1_turnedX_10 : decode cX1_turnedX 10 = .ok (.iload_n 1, 1) := by decide +kernel
theorem dX1_turnedX_11 : decode cX1_turnedX 11 = .ok (.ineg, 1) := by decide +kernel
theorem dX1_turnedX_12 : decode cX1_turnedX 12 = .ok (.istore_n 3, 1) := by decide +kernel
theorem dX1_turnedX_13 : decode cX1_turnedX 13 = .ok (.iload_n 2, 1) := by decide +kernel
theorem dX1_turnedX_14 : decode cX1_turnedX 14 = .ok (.iconst 2, 1) := by decide +kernel
theorem dX1_turnedX_15 : decode cX1_turnedX 15 = .ok (.if_icmp .ge 7, 3) := by decide +kernel
theorem dX1_turnedX_18 : decode cX1_turnedX 18 = .ok (.iload_n 3, 1) := by decide +kernel
theorem dX1_turnedX_19 : decode cX1_turnedX 19 = .ok (.goto 5, 3) := by decide +kernel
theorem dX1_turnedX_22 : decode cX1_turnedX 22 = .ok (.iload_n 3, 1) := by decide +kernel
theorem dX1_turnedX_23 : decode cX1_turnedX 23 = .ok (.ineg, 1) := by decide +kernel
theorem dX1_turnedX_24 : decode cX1_turnedX 24 = .ok (.ireturn, 1) := by decide +kernel
theorem dX1_turnedY_0 : decode cX1_turnedY 0 = .ok (.iload_n 2, 1) := by decide +kernel
theorem dX1_turnedY_1 : decode cX1_turnedY 1 = .ok (.iconst 1, 1) := by decide +kernel
theorem dX1_turnedY_2 : decode cX1_turnedY 2 = .ok (.iand, 1) := by decide +kernel
theorem dX1_turnedY_3 : decode cX1_turnedY 3 = .ok (.ifCond .ne 7, 3) := by decide +kernel
theorem dX1_turnedY_6 : decode cX1_turnedY 6 = .ok (.iload_n 1, 1) := by decide +kernel
theorem dX1_turnedY_7 : decode cX1_turnedY 7 = .ok (.goto 4, 3) := by decide +kernel
theorem dX1_turnedY_10 : decode cX1_turnedY 10 = .ok (.iload_n 0, 1) := by decide +kernel
theorem dX1_turnedY_11 : decode cX1_turnedY 11 = .ok (.istore_n 3, 1) := by decide +kernel
theorem dX1_turnedY_12 : decode cX1_turnedY 12 = .ok (.iload_n 2, 1) := by decide +kernel
theorem dX1_turnedY_13 : decode cX1_turnedY 13 = .ok (.iconst 2, 1) := by decide +kernel
theorem dX1_turnedY_14 : decode cX1_turnedY 14 = .ok (.if_icmp .ge 7, 3) := by decide +kernel
theorem dX1_turnedY_17 : decode cX1_turnedY 17 = .ok (.iload_n 3, 1) := by decide +kernel
theorem dX1_turnedY_18 : decode cX1_turnedY 18 = .ok (.goto 5, 3) := by decide +kernel
theorem dX1_turnedY_21 : decode cX1_turnedY 21 = .ok (.iload_n 3, 1) := by decide +kernel
theorem dX1_turnedY_22 : decode cX1_turnedY 22 = .ok (.ineg, 1) := by decide +kernel
theorem dX1_turnedY_23 : decode cX1_turnedY 23 = .ok (.ireturn, 1) := by decide +kernel
theorem dX1_leastSquare_0 : decode cX1_leastSquare 0 = .ok (.iconst (-1), 1) := by decide +kernel
theorem dX1_leastSquare_1 : decode cX1_leastSquare 1 = .ok (.istore_n 3, 1) := by decide +kernel
theorem dX1_leastSquare_2 : decode cX1_leastSquare 2 = .ok (.iconst 0, 1) := by decide +kernel
theorem dX1_leastSquare_3 : decode cX1_leastSquare 3 = .ok (.istore 4, 2) := by decide +kernel
theorem dX1_leastSquare_5 : decode cX1_leastSquare 5 = .ok (.iload 4, 2) := by decide +kernel
theorem dX1_leastSquare_7 : decode cX1_leastSquare 7 = .ok (.aload_n 0, 1) := by decide +kernel
theorem dX1_leastSquare_8 : decode cX1_leastSquare 8 = .ok (.invokevirtual 36, 3) := by decide +kernel
theorem dX1_leastSquare_11 : decode cX1_leastSquare 11 = .ok (.if_icmp .ge 83, 3) := by decide +kernel
theorem dX1_leastSquare_14 : decode cX1_leastSquare 14 = .ok (.iconst 0, 1) := by decide +kernel
theorem dX1_leastSquare_15 : decode cX1_leastSquare 15 = .ok (.istore 5, 2) := by decide +kernel
theorem dX1_leastSquare_17 : decode cX1_leastSquare 17 = .ok (.iload 5, 2) := by decide +kernel
theorem dX1_leastSquare_19 : decode cX1_leastSquare 19 = .ok (.aload_n 0, 1) := by decide +kernel
theorem dX1_leastSquare_20 : decode cX1_leastSquare 20 = .ok (.iload 4, 2) := by decide +kernel
theorem dX1_leastSquare_22 : decode cX1_leastSquare 22 = .ok (.invokevirtual 46, 3) := by decide +kernel
theorem dX1_leastSquare_25 : decode cX1_leastSquare 25 = .ok (.if_icmp .ge 63, 3) := by decide +kernel
theorem dX1_leastSquare_28 : decode cX1_leastSquare 28 = .ok (.aload_n 0, 1) := by decide +kernel
theorem dX1_leastSquare_29 : decode cX1_leastSquare 29 = .ok (.iload 4, 2) := by decide +kernel
theorem dX1_leastSquare_31 : decode cX1_leastSquare 31 = .ok (.iload 5, 2) := by decide +kernel
theorem dX1_leastSquare_33 : decode cX1_leastSquare 33 = .ok (.invokevirtual 53, 3) := by decide +kernel
theorem dX1_leastSquare_36 : decode cX1_leastSquare 36 = .ok (.iload_n 1, 1) := by decide +kernel
theorem dX1_leastSquare_37 : decode cX1_leastSquare 37 = .ok (.isub, 1) := by decide +kernel
theorem dX1_leastSquare_38 : decode cX1_leastSquare 38 = .ok (.istore 6, 2) := by decide +kernel
theorem dX1_leastSquare_40 : decode cX1_leastSquare 40 = .ok (.aload_n 0, 1) := by decide +kernel
theorem dX1_leastSquare_41 : decode cX1_leastSquare 41 = .ok (.iload 4, 2) := by decide +kernel
theorem dX1_leastSquare_43 : decode cX1_leastSquare 43 = .ok (.iload 5, 2) := by decide +kernel
theorem dX1_leastSquare_45 : decode cX1_leastSquare 45 = .ok (.invokevirtual 56, 3) := by decide +kernel
theorem dX1_leastSquare_48 : decode cX1_leastSquare 48 = .ok (.iload_n 2, 1) := by decide +kernel
theorem dX1_leastSquare_49 : decode cX1_leastSquare 49 = .ok (.isub, 1) := by decide +kernel
theorem dX1_leastSquare_50 : decode cX1_leastSquare 50 = .ok (.istore 7, 2) := by decide +kernel
theorem dX1_leastSquare_52 : decode cX1_leastSquare 52 = .ok (.iload 6, 2) := by decide +kernel
theorem dX1_leastSquare_54 : decode cX1_leastSquare 54 = .ok (.iload 6, 2) := by decide +kernel
theorem dX1_leastSquare_56 : decode cX1_leastSquare 56 = .ok (.imul, 1) := by decide +kernel
theorem dX1_leastSquare_57 : decode cX1_leastSquare 57 = .ok (.iload 7, 2) := by decide +kernel
theorem dX1_leastSquare_59 : decode cX1_leastSquare 59 = .ok (.iload 7, 2) := by decide +kernel
theorem dX1_leastSquare_61 : decode cX1_leastSquare 61 = .ok (.imul, 1) := by decide +kernel
theorem dX1_leastSquare_62 : decode cX1_leastSquare 62 = .ok (.iadd, 1) := by decide +kernel
theorem dX1_leastSquare_63 : decode cX1_leastSquare 63 = .ok (.istore 8, 2) := by decide +kernel
theorem dX1_leastSquare_65 : decode cX1_leastSquare 65 = .ok (.iload_n 3, 1) := by decide +kernel
theorem dX1_leastSquare_66 : decode cX1_leastSquare 66 = .ok (.iconst (-1), 1) := by decide +kernel
theorem dX1_leastSquare_67 : decode cX1_leastSquare 67 = .ok (.if_icmp .ne 8, 3) := by decide +kernel
theorem dX1_leastSquare_70 : decode cX1_leastSquare 70 = .ok (.iload 8, 2) := by decide +kernel
theorem dX1_leastSquare_72 : decode cX1_leastSquare 72 = .ok (.goto 9, 3) := by decide +kernel
theorem dX1_leastSquare_75 : decode cX1_leastSquare 75 = .ok (.iload_n 3, 1) := by decide +kernel
theorem dX1_leastSquare_76 : decode cX1_leastSquare 76 = .ok (.iload 8, 2) := by decide +kernel
theorem dX1_leastSquare_78 : decode cX1_leastSquare 78 = .ok (.invokestatic 77, 3) := by decide +kernel
theorem dX1_leastSquare_81 : decode cX1_leastSquare 81 = .ok (.istore_n 3, 1) := by decide +kernel
theorem dX1_leastSquare_82 : decode cX1_leastSquare 82 = .ok (.iinc 5 1, 3) := by decide +kernel
theorem dX1_leastSquare_85 : decode cX1_leastSquare 85 = .ok (.goto (-68), 3) := by decide +kernel
theorem dX1_leastSquare_88 : decode cX1_leastSquare 88 = .ok (.iinc 4 1, 3) := by decide +kernel
theorem dX1_leastSquare_91 : decode cX1_leastSquare 91 = .ok (.goto (-86), 3) := by decide +kernel
theorem dX1_leastSquare_94 : decode cX1_leastSquare 94 = .ok (.iload_n 3, 1) := by decide +kernel
theorem dX1_leastSquare_95 : decode cX1_leastSquare 95 = .ok (.ireturn, 1) := by decide +kernel
theorem dX1_putPoint_0 : decode cX1_putPoint 0 = .ok (.aload_n 0, 1) := by decide +kernel
theorem dX1_putPoint_1 : decode cX1_putPoint 1 = .ok (.iload_n 1, 1) := by decide +kernel
theorem dX1_putPoint_2 : decode cX1_putPoint 2 = .ok (.iload_n 2, 1) := by decide +kernel
theorem dX1_putPoint_3 : decode cX1_putPoint 3 = .ok (.invokestatic 28, 3) := by decide +kernel
theorem dX1_putPoint_6 : decode cX1_putPoint 6 = .ok (.iload_n 3, 1) := by decide +kernel
theorem dX1_putPoint_7 : decode cX1_putPoint 7 = .ok (.invokevirtual 32, 3) := by decide +kernel
theorem dX1_putPoint_10 : decode cX1_putPoint 10 = .ok (.aload_n 0, 1) := by decide +kernel
theorem dX1_putPoint_11 : decode cX1_putPoint 11 = .ok (.iload_n 1, 1) := by decide +kernel
theorem dX1_putPoint_12 : decode cX1_putPoint 12 = .ok (.iload_n 2, 1) := by decide +kernel
theorem dX1_putPoint_13 : decode cX1_putPoint 13 = .ok (.invokestatic 28, 3) := by decide +kernel
theorem dX1_putPoint_16 : decode cX1_putPoint 16 = .ok (.iconst 1, 1) := by decide +kernel
theorem dX1_putPoint_17 : decode cX1_putPoint 17 = .ok (.iadd, 1) := by decide +kernel
theorem dX1_putPoint_18 : decode cX1_putPoint 18 = .ok (.iload 4, 2) := by decide +kernel
theorem dX1_putPoint_20 : decode cX1_putPoint 20 = .ok (.invokevirtual 32, 3) := by decide +kernel
theorem dX1_putPoint_23 : decode cX1_putPoint 23 = .ok (.return_, 1) := by decide +kernel
theorem dX1_cellOf_0 : decode cX1_cellOf 0 = .ok (.bipush 14, 2) := by decide +kernel
theorem dX1_cellOf_2 : decode cX1_cellOf 2 = .ok (.iload_n 0, 1) := by decide +kernel
theorem dX1_cellOf_3 : decode cX1_cellOf 3 = .ok (.bipush 18, 2) := by decide +kernel
theorem dX1_cellOf_5 : decode cX1_cellOf 5 = .ok (.imul, 1) := by decide +kernel
theorem dX1_cellOf_6 : decode cX1_cellOf 6 = .ok (.iadd, 1) := by decide +kernel
theorem dX1_cellOf_7 : decode cX1_cellOf 7 = .ok (.ireturn, 1) := by decide +kernel
theorem dX1_pointCell_0 : decode cX1_pointCell 0 = .ok (.bipush 14, 2) := by decide +kernel
theorem dX1_pointCell_2 : decode cX1_pointCell 2 = .ok (.iload_n 0, 1) := by decide +kernel
theorem dX1_pointCell_3 : decode cX1_pointCell 3 = .ok (.bipush 18, 2) := by decide +kernel
theorem dX1_pointCell_5 : decode cX1_pointCell 5 = .ok (.imul, 1) := by decide +kernel
theorem dX1_pointCell_6 : decode cX1_pointCell 6 = .ok (.iadd, 1) := by decide +kernel
theorem dX1_pointCell_7 : decode cX1_pointCell 7 = .ok (.iconst 2, 1) := by decide +kernel
theorem dX1_pointCell_8 : decode cX1_pointCell 8 = .ok (.iadd, 1) := by decide +kernel
theorem dX1_pointCell_9 : decode cX1_pointCell 9 = .ok (.iconst 2, 1) := by decide +kernel
theorem dX1_pointCell_10 : decode cX1_pointCell 10 = .ok (.iload_n 1, 1) := by decide +kernel
theorem dX1_pointCell_11 : decode cX1_pointCell 11 = .ok (.imul, 1) := by decide +kernel
theorem dX1_pointCell_12 : decode cX1_pointCell 12 = .ok (.iadd, 1) := by decide +kernel
theorem dX1_pointCell_13 : decode cX1_pointCell 13 = .ok (.ireturn, 1) := by decide +kernel
theorem dX2_init_0 : decode cX2_init 0 = .ok (.aload_n 0, 1) := by decide +kernel
theorem dX2_init_1 : decode cX2_init 1 = .ok (.invokespecial 3, 3) := by decide +kernel
theorem dX2_init_4 : decode cX2_init 4 = .ok (.aload_n 0, 1) := by decide +kernel
theorem dX2_init_5 : decode cX2_init 5 = .ok (.bipush 21, 2) := by decide +kernel
theorem dX2_init_7 : decode cX2_init 7 = .ok (.newarray .int, 2) := by decide +kernel
theorem dX2_init_9 : decode cX2_init 9 = .ok (.putfield 9, 3) := by decide +kernel
theorem dX2_init_12 : decode cX2_init 12 = .ok (.return_, 1) := by decide +kernel
theorem dX2_countMarked_0 : decode cX2_countMarked 0 = .ok (.iconst 0, 1) := by decide +kernel
theorem dX2_countMarked_1 : decode cX2_countMarked 1 = .ok (.istore 6, 2) := by decide +kernel
theorem dX2_countMarked_3 : decode cX2_countMarked 3 = .ok (.iload 6, 2) := by decide +kernel
theorem dX2_countMarked_5 : decode cX2_countMarked 5 = .ok (.bipush 20, 2) := by decide +kernel
theorem dX2_countMarked_7 : decode cX2_countMarked 7 = .ok (.if_icmp .gt 17, 3) := by decide +kernel
theorem dX2_countMarked_10 : decode cX2_countMarked 10 = .ok (.aload_n 0, 1) := by decide +kernel
theorem dX2_countMarked_11 : decode cX2_countMarked 11 = .ok (.getfield 9, 3) := by decide +kernel
theorem dX2_countMarked_14 : decode cX2_countMarked 14 = .ok (.iload 6, 2) := by decide +kernel
theorem dX2_countMarked_16 : decode cX2_countMarked 16 = .ok (.iconst 0, 1) := by decide +kernel
theorem dX2_countMarked_17 : decode cX2_countMarked 17 = .ok (.iastore, 1) := by decide +kernel
theorem dX2_countMarked_18 : decode cX2_countMarked 18 = .ok (.iinc 6 1, 3) := by decide +kernel
theorem dX2_countMarked_21 : decode cX2_countMarked 21 = .ok (.goto (-18), 3) := by decide +kernel
theorem dX2_countMarked_24 : decode cX2_countMarked 24 = .ok (.iconst 0, 1) := by decide +kernel
theorem dX2_countMarked_25 : decode cX2_countMarked 25 = .ok (.istore 6, 2) := by decide +kernel
theorem dX2_countMarked_27 : decode cX2_countMarked 27 = .ok (.iload 6, 2) := by decide +kernel
theorem dX2_countMarked_29 : decode cX2_countMarked 29 = .ok (.aload_n 1, 1) := by decide +kernel
theorem dX2_countMarked_30 : decode cX2_countMarked 30 = .ok (.invokevirtual 15, 3) := by decide +kernel
theorem dX2_countMarked_33 : decode cX2_countMarked 33 = .ok (.if_icmp .ge 22, 3) := by decide +kernel
theorem dX2_countMarked_36 : decode cX2_countMarked 36 = .ok (.aload_n 0, 1) := by decide +kernel
theorem dX2_countMarked_37 : decode cX2_countMarked 37 = .ok (.aload_n 1, 1) := by decide +kernel
theorem dX2_countMarked_38 : decode cX2_countMarked 38 = .ok (.iload 6, 2) := by decide +kernel
theorem dX2_countMarked_40 : decode cX2_countMarked 40 = .ok (.iload_n 2, 1) := by decide +kernel
theorem dX2_countMarked_41 : decode cX2_countMarked 41 = .ok (.iload_n 3, 1) := by decide +kernel
theorem dX2_countMarked_42 : decode cX2_countMarked 42 = .ok (.iload 4, 2) := by decide +kernel
theorem dX2_countMarked_44 : decode cX2_countMarked 44 = .ok (.iload 5, 2) := by decide +kernel
theorem dX2_countMarked_46 : decode cX2_countMarked 46 = .ok (.invokevirtual 21, 3) := by decide +kernel
theorem dX2_countMarked_49 : decode cX2_countMarked 49 = .ok (.iinc 6 1, 3) := by decide +kernel
theorem dX2_countMarked_52 : decode cX2_countMarked 52 = .ok (.goto (-25), 3) := by decide +kernel
theorem dX2_countMarked_55 : decode cX2_countMarked 55 = .ok (.iconst 0, 1) := by decide +kernel
theorem dX2_countMarked_56 : decode cX2_countMarked 56 = .ok (.istore 6, 2) := by decide +kernel
theorem dX2_countMarked_58 : decode cX2_countMarked 58 = .ok (.iconst 0, 1) := by decide +kernel
theorem dX2_countMarked_59 : decode cX2_countMarked 59 = .ok (.istore 7, 2) := by decide +kernel
theorem dX2_countMarked_61 : decode cX2_countMarked 61 = .ok (.iload 7, 2) := by decide +kernel
theorem dX2_countMarked_63 : decode cX2_countMarked 63 = .ok (.bipush 20, 2) := by decide +kernel
theorem dX2_countMarked_65 : decode cX2_countMarked 65 = .ok (.if_icmp .gt 24, 3) := by decide +kernel
theorem dX2_countMarked_68 : decode cX2_countMarked 68 = .ok (.iload 6, 2) := by decide +kernel
theorem dX2_countMarked_70 : decode cX2_countMarked 70 = .ok (.aload_n 0, 1) := by decide +kernel
theorem dX2_countMarked_71 : decode cX2_countMarked 71 = .ok (.getfield 9, 3) := by decide +kernel
theorem dX2_countMarked_74 : decode cX2_countMarked 74 = .ok (.iload 7, 2) := by decide +kernel
theorem dX2_countMarked_76 : decode cX2_countMarked 76 = .ok (.iaload, 1) := by decide +kernel
theorem dX2_countMarked_77 : decode cX2_countMarked 77 = .ok (.invokestatic 25, 3) := by decide +kernel
theorem dX2_countMarked_80 : decode cX2_countMarked 80 = .ok (.iadd, 1) := by decide +kernel
theorem dX2_countMarked_81 : decode cX2_countMarked 81 = .ok (.istore 6, 2) := by decide +kernel
theorem dX2_countMarked_83 : decode cX2_countMarked 83 = .ok (.iinc 7 1, 3) := by decide +kernel
theorem dX2_countMarked_86 : decode cX2_countMarked 86 = .ok (.goto (-25), 3) := by decide +kernel
theorem dX2_countMarked_89 : decode cX2_countMarked 89 = .ok (.iload 6, 2) := by decide +kernel
theorem dX2_countMarked_91 : decode cX2_countMarked 91 = .ok (.ireturn, 1) := by decide +kernel
theorem dX2_markCovered_0 : decode cX2_markCovered 0 = .ok (.iconst 0, 1) := by decide +kernel
theorem dX2_markCovered_1 : decode cX2_markCovered 1 = .ok (.aload_n 1, 1) := by decide +kernel
theorem dX2_markCovered_2 : decode cX2_markCovered 2 = .ok (.iload_n 2, 1) := by decide +kernel
theorem dX2_markCovered_3 : decode cX2_markCovered 3 = .ok (.iconst 0, 1) := by decide +kernel
theorem dX2_markCovered_4 : decode cX2_markCovered 4 = .ok (.invokevirtual 31, 3) := by decide +kernel
theorem dX2_markCovered_7 : decode cX2_markCovered 7 = .ok (.invokestatic 35, 3) := by decide +kernel
theorem dX2_markCovered_10 : decode cX2_markCovered 10 = .ok (.iload_n 3, 1) := by decide +kernel
theorem dX2_markCovered_11 : decode cX2_markCovered 11 = .ok (.isub, 1) := by decide +kernel
theorem dX2_markCovered_12 : decode cX2_markCovered 12 = .ok (.invokestatic 38, 3) := by decide +kernel
theorem dX2_markCovered_15 : decode cX2_markCovered 15 = .ok (.istore 7, 2) := by decide +kernel
theorem dX2_markCovered_17 : decode cX2_markCovered 17 = .ok (.iload 5, 2) := by decide +kernel
theorem dX2_markCovered_19 : decode cX2_markCovered 19 = .ok (.bipush 20, 2) := by decide +kernel
theorem dX2_markCovered_21 : decode cX2_markCovered 21 = .ok (.invokestatic 43, 3) := by decide +kernel
theorem dX2_markCovered_24 : decode cX2_markCovered 24 = .ok (.aload_n 1, 1) := by decide +kernel
theorem dX2_markCovered_25 : decode cX2_markCovered 25 = .ok (.iload_n 2, 1) := by decide +kernel
theorem dX2_markCovered_26 : decode cX2_markCovered 26 = .ok (.iconst 1, 1) := by decide +kernel
theorem dX2_markCovered_27 : decode cX2_markCovered 27 = .ok (.invokevirtual 31, 3) := by decide +kernel
theorem dX2_markCovered_30 : decode cX2_markCovered 30 = .ok (.invokestatic 46, 3) := by decide +kernel
theorem dX2_markCovered_33 : decode cX2_markCovered 33 = .ok (.iload_n 3, 1) := by decide +kernel
theorem dX2_markCovered_34 : decode cX2_markCovered 34 = .ok (.isub, 1) := by decide +kernel
theorem dX2_markCovered_35 : decode cX2_markCovered 35 = .ok (.invokestatic 43, 3) := by decide +kernel
theorem dX2_markCovered_38 : decode cX2_markCovered 38 = .ok (.istore 8, 2) := by decide +kernel
theorem dX2_markCovered_40 : decode cX2_markCovered 40 = .ok (.iconst 0, 1) := by decide +kernel
theorem dX2_markCovered_41 : decode cX2_markCovered 41 = .ok (.aload_n 1, 1) := by decide +kernel
theorem dX2_markCovered_42 : decode cX2_markCovered 42 = .ok (.iload_n 2, 1) := by decide +kernel
theorem dX2_markCovered_43 : decode cX2_markCovered 43 = .ok (.iconst 2, 1) := by decide +kernel
theorem dX2_markCovered_44 : decode cX2_markCovered 44 = .ok (.invokevirtual 31, 3) := by decide +kernel
theorem dX2_markCovered_47 : decode cX2_markCovered 47 = .ok (.invokestatic 35, 3) := by decide +kernel
theorem dX2_markCovered_50 : decode cX2_markCovered 50 = .ok (.iload 4, 2) := by decide +kernel
theorem dX2_markCovered_52 : decode cX2_markCovered 52 = .ok (.isub, 1) := by decide +kernel
theorem dX2_markCovered_53 : decode cX2_markCovered 53 = .ok (.invokestatic 38, 3) := by decide +kernel
theorem dX2_markCovered_56 : decode cX2_markCovered 56 = .ok (.istore 9, 2) := by decide +kernel
theorem dX2_markCovered_58 : decode cX2_markCovered 58 = .ok (.iload 6, 2) := by decide +kernel
theorem dX2_markCovered_60 : decode cX2_markCovered 60 = .ok (.bipush 20, 2) := by decide +kernel
theorem dX2_markCovered_62 : decode cX2_markCovered 62 = .ok (.invokestatic 43, 3) := by decide +kernel
theorem dX2_markCovered_65 : decode cX2_markCovered 65 = .ok (.aload_n 1, 1) := by decide +kernel
theorem dX2_markCovered_66 : decode cX2_markCovered 66 = .ok (.iload_n 2, 1) := by decide +kernel
theorem dX2_markCovered_67 : decode cX2_markCovered 67 = .ok (.iconst 3, 1) := by decide +kernel
theorem dX2_markCovered_68 : decode cX2_markCovered 68 = .ok (.invokevirtual 31, 3) := by decide +kernel
theorem dX2_markCovered_71 : decode cX2_markCovered 71 = .ok (.invokestatic 46, 3) := by decide +kernel
theorem dX2_markCovered_74 : decode cX2_markCovered 74 = .ok (.iload 4, 2) := by decide +kernel
theorem dX2_markCovered_76 : decode cX2_markCovered 76 = .ok (.isub, 1) := by decide +kernel
theorem dX2_markCovered_77 : decode cX2_markCovered 77 = .ok (.invokestatic 43, 3) := by decide +kernel
theorem dX2_markCovered_80 : decode cX2_markCovered 80 = .ok (.istore 10, 2) := by decide +kernel
theorem dX2_markCovered_82 : decode cX2_markCovered 82 = .ok (.iload 9, 2) := by decide +kernel
theorem dX2_markCovered_84 : decode cX2_markCovered 84 = .ok (.istore 11, 2) := by decide +kernel
theorem dX2_markCovered_86 : decode cX2_markCovered 86 = .ok (.iload 11, 2) := by decide +kernel
theorem dX2_markCovered_88 : decode cX2_markCovered 88 = .ok (.iload 10, 2) := by decide +kernel
theorem dX2_markCovered_90 : decode cX2_markCovered 90 = .ok (.if_icmp .gt 80, 3) := by decide +kernel
theorem dX2_markCovered_93 : decode cX2_markCovered 93 = .ok (.iload 7, 2) := by decide +kernel
theorem dX2_markCovered_95 : decode cX2_markCovered 95 = .ok (.istore 12, 2) := by decide +kernel
theorem dX2_markCovered_97 : decode cX2_markCovered 97 = .ok (.iload 12, 2) := by decide +kernel
theorem dX2_markCovered_99 : decode cX2_markCovered 99 = .ok (.iload 8, 2) := by decide +kernel
theorem dX2_markCovered_101 : decode cX2_markCovered 101 = .ok (.if_icmp .gt 63, 3) := by decide +kernel
theorem dX2_markCovered_104 : decode cX2_markCovered 104 = .ok (.iconst 1, 1) := by decide +kernel
theorem dX2_markCovered_105 : decode cX2_markCovered 105 = .ok (.iload 12, 2) := by decide +kernel
theorem dX2_markCovered_107 : decode cX2_markCovered 107 = .ok (.ishl, 1) := by decide +kernel
theorem dX2_markCovered_108 : decode cX2_markCovered 108 = .ok (.istore 13, 2) := by decide +kernel
theorem dX2_markCovered_110 : decode cX2_markCovered 110 = .ok (.aload_n 0, 1) := by decide +kernel
theorem dX2_markCovered_111 : decode cX2_markCovered 111 = .ok (.getfield 9, 3) := by decide +kernel
theorem dX2_markCovered_114 : decode cX2_markCovered 114 = .ok (.iload 11, 2) := by decide +kernel
theorem dX2_markCovered_116 : decode cX2_markCovered 116 = .ok (.iaload, 1) := by decide +kernel
theorem dX2_markCovered_117 : decode cX2_markCovered 117 = .ok (.iload 13, 2) := by decide +kernel
theorem dX2_markCovered_119 : decode cX2_markCovered 119 = .ok (.iand, 1) := by decide +kernel
theorem dX2_markCovered_120 : decode cX2_markCovered 120 = .ok (.ifCond .ne 38, 3) := by decide +kernel
theorem dX2_markCovered_123 : decode cX2_markCovered 123 = .ok (.aload_n 1, 1) := by decide +kernel
theorem dX2_markCovered_124 : decode cX2_markCovered 124 = .ok (.iload_n 2, 1) := by decide +kernel
theorem dX2_markCovered_125 : decode cX2_markCovered 125 = .ok (.bipush 64, 2) := by decide +kernel
theorem dX2_markCovered_127 : decode cX2_markCovered 127 = .ok (.iload_n 3, 1) := by decide +kernel
theorem dX2_markCovered_128 : decode cX2_markCovered 128 = .ok (.iload 12, 2) := by decide +kernel
theorem dX2_markCovered_130 : decode cX2_markCovered 130 = .ok (.iadd, 1) := by decide +kernel
theorem dX2_markCovered_131 : decode cX2_markCovered 131 = .ok (.imul, 1) := by decide +kernel
theorem dX2_markCovered_132 : decode cX2_markCovered 132 = .ok (.bipush 64, 2) := by decide +kernel
theorem dX2_markCovered_134 : decode cX2_markCovered 134 = .ok (.iload 4, 2) := by decide +kernel
theorem dX2_markCovered_136 : decode cX2_markCovered 136 = .ok (.iload 11, 2) := by decide +kernel
theorem dX2_markCovered_138 : decode cX2_markCovered 138 = .ok (.iadd, 1) := by decide +kernel
theorem dX2_markCovered_139 : decode cX2_markCovered 139 = .ok (.imul, 1) := by decide +kernel
theorem dX2_markCovered_140 : decode cX2_markCovered 140 = .ok (.invokevirtual 49, 3) := by decide +kernel
theorem dX2_markCovered_143 : decode cX2_markCovered 143 = .ok (.ifCond .eq 15, 3) := by decide +kernel
theorem dX2_markCovered_146 : decode cX2_markCovered 146 = .ok (.aload_n 0, 1) := by decide +kernel
theorem dX2_markCovered_147 : decode cX2_markCovered 147 = .ok (.getfield 9, 3) := by decide +kernel
theorem dX2_markCovered_150 : decode cX2_markCovered 150 = .ok (.iload 11, 2) := by decide +kernel
theorem dX2_markCovered_152 : decode cX2_markCovered 152 = .ok (.dup2, 1) := by decide +kernel
theorem dX2_markCovered_153 : decode cX2_markCovered 153 = .ok (.iaload, 1) := by decide +kernel
theorem dX2_markCovered_154 : decode cX2_markCovered 154 = .ok (.iload 13, 2) := by decide +kernel
theorem dX2_markCovered_156 : decode cX2_markCovered 156 = .ok (.ior, 1) := by decide +kernel
theorem dX2_markCovered_157 : decode cX2_markCovered 157 = .ok (.iastore, 1) := by decide +kernel
theorem dX2_markCovered_158 : decode cX2_markCovered 158 = .ok (.iinc 12 1, 3) := by decide +kernel
theorem dX2_markCovered_161 : decode cX2_markCovered 161 = .ok (.goto (-64), 3) := by decide +kernel
theorem dX2_markCovered_164 : decode cX2_markCovered 164 = .ok (.iinc 11 1, 3) := by decide +kernel
theorem dX2_markCovered_167 : decode cX2_markCovered 167 = .ok (.goto (-81), 3) := by decide +kernel
theorem dX2_markCovered_170 : decode cX2_markCovered 170 = .ok (.return_, 1) := by decide +kernel
theorem dX2_downToUnit_0 : decode cX2_downToUnit 0 = .ok (.iload_n 0, 1) := by decide +kernel
theorem dX2_downToUnit_1 : decode cX2_downToUnit 1 = .ok (.bipush 64, 2) := by decide +kernel
theorem dX2_downToUnit_3 : decode cX2_downToUnit 3 = .ok (.invokestatic 53, 3) := by decide +kernel
theorem dX2_downToUnit_6 : decode cX2_downToUnit 6 = .ok (.ireturn, 1) := by decide +kernel
theorem dX2_upToUnit_0 : decode cX2_upToUnit 0 = .ok (.iload_n 0, 1) := by decide +kernel
theorem dX2_upToUnit_1 : decode cX2_upToUnit 1 = .ok (.bipush 64, 2) := by decide +kernel
theorem dX2_upToUnit_3 : decode cX2_upToUnit 3 = .ok (.iadd, 1) := by decide +kernel
theorem dX2_upToUnit_4 : decode cX2_upToUnit 4 = .ok (.iconst 1, 1) := by decide +kernel
theorem dX2_upToUnit_5 : decode cX2_upToUnit 5 = .ok (.isub, 1) := by decide +kernel
theorem dX2_upToUnit_6 : decode cX2_upToUnit 6 = .ok (.bipush 64, 2) := by decide +kernel
theorem dX2_upToUnit_8 : decode cX2_upToUnit 8 = .ok (.invokestatic 53, 3) := by decide +kernel
theorem dX2_upToUnit_11 : decode cX2_upToUnit 11 = .ok (.ireturn, 1) := by decide +kernel
theorem dX3_init_0 : decode cX3_init 0 = .ok (.aload_n 0, 1) := by decide +kernel
theorem dX3_init_1 : decode cX3_init 1 = .ok (.invokespecial 1, 3) := by decide +kernel
theorem dX3_init_4 : decode cX3_init 4 = .ok (.aload_n 0, 1) := by decide +kernel
theorem dX3_init_5 : decode cX3_init 5 = .ok (.sipush 344, 3) := by decide +kernel
theorem dX3_init_8 : decode cX3_init 8 = .ok (.newarray .int, 2) := by decide +kernel
theorem dX3_init_10 : decode cX3_init 10 = .ok (.putfield 11, 3) := by decide +kernel
theorem dX3_init_13 : decode cX3_init 13 = .ok (.return_, 1) := by decide +kernel
theorem dX3_size_0 : decode cX3_size 0 = .ok (.aload_n 0, 1) := by decide +kernel
theorem dX3_size_1 : decode cX3_size 1 = .ok (.getfield 15, 3) := by decide +kernel
theorem dX3_size_4 : decode cX3_size 4 = .ok (.ireturn, 1) := by decide +kernel
theorem dX3_keep_0 : decode cX3_keep 0 = .ok (.aload_n 0, 1) := by decide +kernel
theorem dX3_keep_1 : decode cX3_keep 1 = .ok (.getfield 15, 3) := by decide +kernel
theorem dX3_keep_4 : decode cX3_keep 4 = .ok (.iconst 4, 1) := by decide +kernel
theorem dX3_keep_5 : decode cX3_keep 5 = .ok (.if_icmp .ne 30, 3) := by decide +kernel
theorem dX3_keep_8 : decode cX3_keep 8 = .ok (.aload_n 0, 1) := by decide +kernel
theorem dX3_keep_9 : decode cX3_keep 9 = .ok (.getfield 11, 3) := by decide +kernel
theorem dX3_keep_12 : decode cX3_keep 12 = .ok (.bipush 86, 2) := by decide +kernel
theorem dX3_keep_14 : decode cX3_keep 14 = .ok (.aload_n 0, 1) := by decide +kernel
theorem dX3_keep_15 : decode cX3_keep 15 = .ok (.getfield 11, 3) := by decide +kernel
theorem dX3_keep_18 : decode cX3_keep 18 = .ok (.iconst 0, 1) := by decide +kernel
theorem dX3_keep_19 : decode cX3_keep 19 = .ok (.sipush 258, 3) := by decide +kernel
theorem dX3_keep_22 : decode cX3_keep 22 = .ok (.invokestatic 19, 3) := by decide +kernel
theorem dX3_keep_25 : decode cX3_keep 25 = .ok (.aload_n 0, 1) := by decide +kernel
theorem dX3_keep_26 : decode cX3_keep 26 = .ok (.dup, 1) := by decide +kernel
theorem dX3_keep_27 : decode cX3_keep 27 = .ok (.getfield 15, 3) := by decide +kernel
theorem dX3_keep_30 : decode cX3_keep 30 = .ok (.iconst 1, 1) := by decide +kernel
theorem dX3_keep_31 : decode cX3_keep 31 = .ok (.isub, 1) := by decide +kernel
theorem dX3_keep_32 : decode cX3_keep 32 = .ok (.putfield 15, 3) := by decide +kernel
theorem dX3_keep_35 : decode cX3_keep 35 = .ok (.aload_n 1, 1) := by decide +kernel
theorem dX3_keep_36 : decode cX3_keep 36 = .ok (.aload_n 0, 1) := by decide +kernel
theorem dX3_keep_37 : decode cX3_keep 37 = .ok (.getfield 11, 3) := by decide +kernel
theorem dX3_keep_40 : decode cX3_keep 40 = .ok (.aload_n 0, 1) := by decide +kernel
theorem dX3_keep_41 : decode cX3_keep 41 = .ok (.getfield 15, 3) := by decide +kernel
theorem dX3_keep_44 : decode cX3_keep 44 = .ok (.bipush 86, 2) := by decide +kernel
theorem dX3_keep_46 : decode cX3_keep 46 = .ok (.imul, 1) := by decide +kernel
theorem dX3_keep_47 : decode cX3_keep 47 = .ok (.invokevirtual 25, 3) := by decide +kernel
theorem dX3_keep_50 : decode cX3_keep 50 = .ok (.aload_n 0, 1) := by decide +kernel
theorem dX3_keep_51 : decode cX3_keep 51 = .ok (.dup, 1) := by decide +kernel
theorem dX3_keep_52 : decode cX3_keep 52 = .ok (.getfield 15, 3) := by decide +kernel
theorem dX3_keep_55 : decode cX3_keep 55 = .ok (.iconst 1, 1) := by decide +kernel
theorem dX3_keep_56 : decode cX3_keep 56 = .ok (.iadd, 1) := by decide +kernel
theorem dX3_keep_57 : decode cX3_keep 57 = .ok (.putfield 15, 3) := by decide +kernel
theorem dX3_keep_60 : decode cX3_keep 60 = .ok (.return_, 1) := by decide +kernel
theorem dX3_bringBack_0 : decode cX3_bringBack 0 = .ok (.aload_n 0, 1) := by decide +kernel
theorem dX3_bringBack_1 : decode cX3_bringBack 1 = .ok (.getfield 15, 3) := by decide +kernel
theorem dX3_bringBack_4 : decode cX3_bringBack 4 = .ok (.ifCond .le 28, 3) := by decide +kernel
theorem dX3_bringBack_7 : decode cX3_bringBack 7 = .ok (.aload_n 0, 1) := by decide +kernel
theorem dX3_bringBack_8 : decode cX3_bringBack 8 = .ok (.dup, 1) := by decide +kernel
theorem dX3_bringBack_9 : decode cX3_bringBack 9 = .ok (.getfield 15, 3) := by decide +kernel
theorem dX3_bringBack_12 : decode cX3_bringBack 12 = .ok (.iconst 1, 1) := by decide +kernel
theorem dX3_bringBack_13 : decode cX3_bringBack 13 = .ok (.isub, 1) := by decide +kernel
theorem dX3_bringBack_14 : decode cX3_bringBack 14 = .ok (.putfield 15, 3) := by decide +kernel
theorem dX3_bringBack_17 : decode cX3_bringBack 17 = .ok (.aload_n 1, 1) := by decide +kernel
theorem dX3_bringBack_18 : decode cX3_bringBack 18 = .ok (.aload_n 0, 1) := by decide +kernel
theorem dX3_bringBack_19 : decode cX3_bringBack 19 = .ok (.getfield 11, 3) := by decide +kernel
theorem dX3_bringBack_22 : decode cX3_bringBack 22 = .ok (.aload_n 0, 1) := by decide +kernel
theorem dX3_bringBack_23 : decode cX3_bringBack 23 = .ok (.getfield 15, 3) := by decide +kernel
theorem dX3_bringBack_26 : decode cX3_bringBack 26 = .ok (.bipush 86, 2) := by decide +kernel
theorem dX3_bringBack_28 : decode cX3_bringBack 28 = .ok (.imul, 1) := by decide +kernel
theorem dX3_bringBack_29 : decode cX3_bringBack 29 = .ok (.invokevirtual 29, 3) := by decide +kernel
theorem dX3_bringBack_32 : decode cX3_bringBack 32 = .ok (.return_, 1) := by decide +kernel
theorem dX4_root_0 : decode cX4_root 0 = .ok (.iconst 0, 1) := by decide +kernel
theorem dX4_root_1 : decode cX4_root 1 = .ok (.istore_n 2, 1) := by decide +kernel
theorem dX4_root_2 : decode cX4_root 2 = .ok (.ldc 7, 2) := by decide +kernel
theorem dX4_root_4 : decode cX4_root 4 = .ok (.istore_n 3, 1) := by decide +kernel
theorem dX4_root_5 : decode cX4_root 5 = .ok (.iload_n 3, 1) := by decide +kernel
theorem dX4_root_6 : decode cX4_root 6 = .ok (.ifCond .le 30, 3) := by decide +kernel
theorem dX4_root_9 : decode cX4_root 9 = .ok (.iload_n 2, 1) := by decide +kernel
theorem dX4_root_10 : decode cX4_root 10 = .ok (.iload_n 3, 1) := by decide +kernel
theorem dX4_root_11 : decode cX4_root 11 = .ok (.iadd, 1) := by decide +kernel
theorem dX4_root_12 : decode cX4_root 12 = .ok (.i2l, 1) := by decide +kernel
theorem dX4_root_13 : decode cX4_root 13 = .ok (.lstore 4, 2) := by decide +kernel
theorem dX4_root_15 : decode cX4_root 15 = .ok (.lload 4, 2) := by decide +kernel
theorem dX4_root_17 : decode cX4_root 17 = .ok (.lload 4, 2) := by decide +kernel
theorem dX4_root_19 : decode cX4_root 19 = .ok (.lmul, 1) := by decide +kernel
theorem dX4_root_20 : decode cX4_root 20 = .ok (.lload_n 0, 1) := by decide +kernel
theorem dX4_root_21 : decode cX4_root 21 = .ok (.lcmp, 1) := by decide +kernel
theorem dX4_root_22 : decode cX4_root 22 = .ok (.ifCond .gt 7, 3) := by decide +kernel
theorem dX4_root_25 : decode cX4_root 25 = .ok (.iload_n 2, 1) := by decide +kernel
theorem dX4_root_26 : decode cX4_root 26 = .ok (.iload_n 3, 1) := by decide +kernel
theorem dX4_root_27 : decode cX4_root 27 = .ok (.iadd, 1) := by decide +kernel
theorem dX4_root_28 : decode cX4_root 28 = .ok (.istore_n 2, 1) := by decide +kernel
theorem dX4_root_29 : decode cX4_root 29 = .ok (.iload_n 3, 1) := by decide +kernel
theorem dX4_root_30 : decode cX4_root 30 = .ok (.iconst 1, 1) := by decide +kernel
theorem dX4_root_31 : decode cX4_root 31 = .ok (.ishr, 1) := by decide +kernel
theorem dX4_root_32 : decode cX4_root 32 = .ok (.istore_n 3, 1) := by decide +kernel
theorem dX4_root_33 : decode cX4_root 33 = .ok (.goto (-28), 3) := by decide +kernel
theorem dX4_root_36 : decode cX4_root 36 = .ok (.iload_n 2, 1) := by decide +kernel
theorem dX4_root_37 : decode cX4_root 37 = .ok (.ireturn, 1) := by decide +kernel
theorem dX4_round_0 : decode cX4_round 0 = .ok (.ldc2_w 8, 3) := by decide +kernel
theorem dX4_round_3 : decode cX4_round 3 = .ok (.lload_n 2, 1) := by decide +kernel
theorem dX4_round_4 : decode cX4_round 4 = .ok (.lmul, 1) := by decide +kernel
theorem dX4_round_5 : decode cX4_round 5 = .ok (.lstore 4, 2) := by decide +kernel
theorem dX4_round_7 : decode cX4_round 7 = .ok (.lload 4, 2) := by decide +kernel
theorem dX4_round_9 : decode cX4_round 9 = .ok (.lconst 0, 1) := by decide +kernel
theorem dX4_round_10 : decode cX4_round 10 = .ok (.lcmp, 1) := by decide +kernel
theorem dX4_round_11 : decode cX4_round 11 = .ok (.ifCond .gt 5, 3) := by decide +kernel
theorem dX4_round_14 : decode cX4_round 14 = .ok (.iconst 0, 1) := by decide +kernel
theorem dX4_round_15 : decode cX4_round 15 = .ok (.ireturn, 1) := by decide +kernel
theorem dX4_round_16 : decode cX4_round 16 = .ok (.ldc2_w 8, 3) := by decide +kernel
theorem dX4_round_19 : decode cX4_round 19 = .ok (.lload_n 0, 1) := by decide +kernel
theorem dX4_round_20 : decode cX4_round 20 = .ok (.lmul, 1) := by decide +kernel
theorem dX4_round_21 : decode cX4_round 21 = .ok (.lload_n 2, 1) := by decide +kernel
theorem dX4_round_22 : decode cX4_round 22 = .ok (.ladd, 1) := by decide +kernel
theorem dX4_round_23 : decode cX4_round 23 = .ok (.lstore 6, 2) := by decide +kernel
theorem dX4_round_25 : decode cX4_round 25 = .ok (.lload 6, 2) := by decide +kernel
theorem dX4_round_27 : decode cX4_round 27 = .ok (.lload 4, 2) := by decide +kernel
theorem dX4_round_29 : decode cX4_round 29 = .ok (.ldiv, 1) := by decide +kernel
theorem dX4_round_30 : decode cX4_round 30 = .ok (.lstore 8, 2) := by decide +kernel
theorem dX4_round_32 : decode cX4_round 32 = .ok (.lload 6, 2) := by decide +kernel
theorem dX4_round_34 : decode cX4_round 34 = .ok (.lload 4, 2) := by decide +kernel
theorem dX4_round_36 : decode cX4_round 36 = .ok (.lrem, 1) := by decide +kernel
theorem dX4_round_37 : decode cX4_round 37 = .ok (.lconst 0, 1) := by decide +kernel
theorem dX4_round_38 : decode cX4_round 38 = .ok (.lcmp, 1) := by decide +kernel
theorem dX4_round_39 : decode cX4_round 39 = .ok (.ifCond .ge 10, 3) := by decide +kernel
theorem dX4_round_42 : decode cX4_round 42 = .ok (.lload 8, 2) := by decide +kernel
theorem dX4_round_44 : decode cX4_round 44 = .ok (.lconst 1, 1) := by decide +kernel
theorem dX4_round_45 : decode cX4_round 45 = .ok (.lsub, 1) := by decide +kernel
theorem dX4_round_46 : decode cX4_round 46 = .ok (.goto 5, 3) := by decide +kernel
theorem dX4_round_49 : decode cX4_round 49 = .ok (.lload 8, 2) := by decide +kernel
theorem dX4_round_51 : decode cX4_round 51 = .ok (.l2i, 1) := by decide +kernel
theorem dX4_round_52 : decode cX4_round 52 = .ok (.ireturn, 1) := by decide +kernel
theorem dX4_at_0 : decode cX4_at 0 = .ok (.iload_n 1, 1) := by decide +kernel
theorem dX4_at_1 : decode cX4_at 1 = .ok (.ifCond .lt 15, 3) := by decide +kernel
theorem dX4_at_4 : decode cX4_at 4 = .ok (.iload_n 1, 1) := by decide +kernel
theorem dX4_at_5 : decode cX4_at 5 = .ok (.aload_n 0, 1) := by decide +kernel
theorem dX4_at_6 : decode cX4_at 6 = .ok (.arraylength, 1) := by decide +kernel
theorem dX4_at_7 : decode cX4_at 7 = .ok (.if_icmp .ge 9, 3) := by decide +kernel
theorem dX4_at_10 : decode cX4_at 10 = .ok (.aload_n 0, 1) := by decide +kernel
theorem dX4_at_11 : decode cX4_at 11 = .ok (.iload_n 1, 1) := by decide +kernel
theorem dX4_at_12 : decode cX4_at 12 = .ok (.iaload, 1) := by decide +kernel
theorem dX4_at_13 : decode cX4_at 13 = .ok (.goto 4, 3) := by decide +kernel
theorem dX4_at_16 : decode cX4_at 16 = .ok (.iconst 0, 1) := by decide +kernel
theorem dX4_at_17 : decode cX4_at 17 = .ok (.ireturn, 1) := by decide +kernel
theorem dX5_init_0 : decode cX5_init 0 = .ok (.aload_n 0, 1) := by decide +kernel
theorem dX5_init_1 : decode cX5_init 1 = .ok (.invokespecial 3, 3) := by decide +kernel
theorem dX5_init_4 : decode cX5_init 4 = .ok (.aload_n 0, 1) := by decide +kernel
theorem dX5_init_5 : decode cX5_init 5 = .ok (.sipush 150, 3) := by decide +kernel
theorem dX5_init_8 : decode cX5_init 8 = .ok (.newarray .int, 2) := by decide +kernel
theorem dX5_init_10 : decode cX5_init 10 = .ok (.putfield 11, 3) := by decide +kernel
theorem dX5_init_13 : decode cX5_init 13 = .ok (.return_, 1) := by decide +kernel
theorem dX5_length_0 : decode cX5_length 0 = .ok (.aload_n 0, 1) := by decide +kernel
theorem dX5_length_1 : decode cX5_length 1 = .ok (.getfield 15, 3) := by decide +kernel
theorem dX5_length_4 : decode cX5_length 4 = .ok (.ireturn, 1) := by decide +kernel
theorem dX5_isFull_0 : decode cX5_isFull 0 = .ok (.aload_n 0, 1) := by decide +kernel
theorem dX5_isFull_1 : decode cX5_isFull 1 = .ok (.getfield 15, 3) := by decide +kernel
theorem dX5_isFull_4 : decode cX5_isFull 4 = .ok (.sipush 150, 3) := by decide +kernel
theorem dX5_isFull_7 : decode cX5_isFull 7 = .ok (.if_icmp .lt 7, 3) := by decide +kernel
theorem dX5_isFull_10 : decode cX5_isFull 10 = .ok (.iconst 1, 1) := by decide +kernel
theorem dX5_isFull_11 : decode cX5_isFull 11 = .ok (.goto 4, 3) := by decide +kernel
theorem dX5_isFull_14 : decode cX5_isFull 14 = .ok (.iconst 0, 1) := by decide +kernel
theorem dX5_isFull_15 : decode cX5_isFull 15 = .ok (.ireturn, 1) := by decide +kernel
theorem dX5_add_0 : decode cX5_add 0 = .ok (.aload_n 0, 1) := by decide +kernel
theorem dX5_add_1 : decode cX5_add 1 = .ok (.getfield 15, 3) := by decide +kernel
theorem dX5_add_4 : decode cX5_add 4 = .ok (.ifCond .lt 33, 3) := by decide +kernel
theorem dX5_add_7 : decode cX5_add 7 = .ok (.aload_n 0, 1) := by decide +kernel
theorem dX5_add_8 : decode cX5_add 8 = .ok (.getfield 15, 3) := by decide +kernel
theorem dX5_add_11 : decode cX5_add 11 = .ok (.sipush 150, 3) := by decide +kernel
theorem dX5_add_14 : decode cX5_add 14 = .ok (.if_icmp .ge 23, 3) := by decide +kernel
theorem dX5_add_17 : decode cX5_add 17 = .ok (.aload_n 0, 1) := by decide +kernel
theorem dX5_add_18 : decode cX5_add 18 = .ok (.getfield 11, 3) := by decide +kernel
theorem dX5_add_21 : decode cX5_add 21 = .ok (.aload_n 0, 1) := by decide +kernel
theorem dX5_add_22 : decode cX5_add 22 = .ok (.getfield 15, 3) := by decide +kernel
theorem dX5_add_25 : decode cX5_add 25 = .ok (.iload_n 1, 1) := by decide +kernel
theorem dX5_add_26 : decode cX5_add 26 = .ok (.iastore, 1) := by decide +kernel
theorem dX5_add_27 : decode cX5_add 27 = .ok (.aload_n 0, 1) := by decide +kernel
theorem dX5_add_28 : decode cX5_add 28 = .ok (.dup, 1) := by decide +kernel
theorem dX5_add_29 : decode cX5_add 29 = .ok (.getfield 15, 3) := by decide +kernel
theorem dX5_add_32 : decode cX5_add 32 = .ok (.iconst 1, 1) := by decide +kernel
theorem dX5_add_33 : decode cX5_add 33 = .ok (.iadd, 1) := by decide +kernel
theorem dX5_add_34 : decode cX5_add 34 = .ok (.putfield 15, 3) := by decide +kernel
theorem dX5_add_37 : decode cX5_add 37 = .ok (.return_, 1) := by decide +kernel
theorem dX5_empty_0 : decode cX5_empty 0 = .ok (.aload_n 0, 1) := by decide +kernel
theorem dX5_empty_1 : decode cX5_empty 1 = .ok (.iconst 0, 1) := by decide +kernel
theorem dX5_empty_2 : decode cX5_empty 2 = .ok (.putfield 15, 3) := by decide +kernel
theorem dX5_empty_5 : decode cX5_empty 5 = .ok (.return_, 1) := by decide +kernel
theorem dX5_readPath_0 : decode cX5_readPath 0 = .ok (.aload_n 0, 1) := by decide +kernel
theorem dX5_readPath_1 : decode cX5_readPath 1 = .ok (.iconst 0, 1) := by decide +kernel
theorem dX5_readPath_2 : decode cX5_readPath 2 = .ok (.putfield 19, 3) := by decide +kernel
theorem dX5_readPath_5 : decode cX5_readPath 5 = .ok (.aload_n 0, 1) := by decide +kernel
theorem dX5_readPath_6 : decode cX5_readPath 6 = .ok (.iconst (-1), 1) := by decide +kernel
theorem dX5_readPath_7 : decode cX5_readPath 7 = .ok (.putfield 22, 3) := by decide +kernel
theorem dX5_readPath_10 : decode cX5_readPath 10 = .ok (.aload_n 1, 1) := by decide +kernel
theorem dX5_readPath_11 : decode cX5_readPath 11 = .ok (.invokevirtual 25, 3) := by decide +kernel
theorem dX5_readPath_14 : decode cX5_readPath 14 = .ok (.iconst 0, 1) := by decide +kernel
theorem dX5_readPath_15 : decode cX5_readPath 15 = .ok (.istore_n 2, 1) := by decide +kernel
theorem dX5_readPath_16 : decode cX5_readPath 16 = .ok (.iload_n 2, 1) := by decide +kernel
theorem dX5_readPath_17 : decode cX5_readPath 17 = .ok (.iconst 4, 1) := by decide +kernel
theorem dX5_readPath_18 : decode cX5_readPath 18 = .ok (.if_icmp .gt 49, 3) := by decide +kernel
theorem dX5_readPath_21 : decode cX5_readPath 21 = .ok (.aload_n 0, 1) := by decide +kernel
theorem dX5_readPath_22 : decode cX5_readPath 22 = .ok (.getfield 22, 3) := by decide +kernel
theorem dX5_readPath_25 : decode cX5_readPath 25 = .ok (.iconst (-1), 1) := by decide +kernel
theorem dX5_readPath_26 : decode cX5_readPath 26 = .ok (.if_icmp .ne 41, 3) := by decide +kernel
theorem dX5_readPath_29 : decode cX5_readPath 29 = .ok (.aload_n 0, 1) := by decide +kernel
theorem dX5_readPath_30 : decode cX5_readPath 30 = .ok (.getfield 19, 3) := by decide +kernel
theorem dX5_readPath_33 : decode cX5_readPath 33 = .ok (.aload_n 0, 1) := by decide +kernel
theorem dX5_readPath_34 : decode cX5_readPath 34 = .ok (.getfield 15, 3) := by decide +kernel
theorem dX5_readPath_37 : decode cX5_readPath 37 = .ok (.if_icmp .ge 30, 3) := by decide +kernel
theorem dX5_readPath_40 : decode cX5_readPath 40 = .ok (.iload_n 2, 1) := by decide +kernel
theorem dX5_readPath_41 : decode cX5_readPath 41 = .ok (.iconst 4, 1) := by decide +kernel
theorem dX5_readPath_42 : decode cX5_readPath 42 = .ok (.if_icmp .ge 11, 3) := by decide +kernel
theorem dX5_readPath_45 : decode cX5_readPath 45 = .ok (.aload_n 0, 1) := by decide +kernel
theorem dX5_readPath_46 : decode cX5_readPath 46 = .ok (.aload_n 1, 1) := by decide +kernel
theorem dX5_readPath_47 : decode cX5_readPath 47 = .ok (.invokevirtual 30, 3) := by decide +kernel
theorem dX5_readPath_50 : decode cX5_readPath 50 = .ok (.goto 11, 3) := by decide +kernel
theorem dX5_readPath_53 : decode cX5_readPath 53 = .ok (.aload_n 0, 1) := by decide +kernel
theorem dX5_readPath_54 : decode cX5_readPath 54 = .ok (.aload_n 0, 1) := by decide +kernel
theorem dX5_readPath_55 : decode cX5_readPath 55 = .ok (.getfield 19, 3) := by decide +kernel
theorem dX5_readPath_58 : decode cX5_readPath 58 = .ok (.putfield 22, 3) := by decide +kernel
theorem dX5_readPath_61 : decode cX5_readPath 61 = .ok (.iinc 2 1, 3) := by decide +kernel
theorem dX5_readPath_64 : decode cX5_readPath 64 = .ok (.goto (-48), 3) := by decide +kernel
theorem dX5_readPath_67 : decode cX5_readPath 67 = .ok (.aload_n 0, 1) := by decide +kernel
theorem dX5_readPath_68 : decode cX5_readPath 68 = .ok (.getfield 22, 3) := by decide +kernel
theorem dX5_readPath_71 : decode cX5_readPath 71 = .ok (.ireturn, 1) := by decide +kernel
theorem dX5_readSubpath_0 : decode cX5_readSubpath 0 = .ok (.aload_n 0, 1) := by decide +kernel
theorem dX5_readSubpath_1 : decode cX5_readSubpath 1 = .ok (.bipush 77, 2) := by decide +kernel
theorem dX5_readSubpath_3 : decode cX5_readSubpath 3 = .ok (.invokevirtual 34, 3) := by decide +kernel
theorem dX5_readSubpath_6 : decode cX5_readSubpath 6 = .ok (.aload_n 0, 1) := by decide +kernel
theorem dX5_readSubpath_7 : decode cX5_readSubpath 7 = .ok (.invokevirtual 38, 3) := by decide +kernel
theorem dX5_readSubpath_10 : decode cX5_readSubpath 10 = .ok (.aload_n 1, 1) := by decide +kernel
theorem dX5_readSubpath_11 : decode cX5_readSubpath 11 = .ok (.aload_n 0, 1) := by decide +kernel
theorem dX5_readSubpath_12 : decode cX5_readSubpath 12 = .ok (.getfield 41, 3) := by decide +kernel
theorem dX5_readSubpath_15 : decode cX5_readSubpath 15 = .ok (.aload_n 0, 1) := by decide +kernel
theorem dX5_readSubpath_16 : decode cX5_readSubpath 16 = .ok (.getfield 44, 3) := by decide +kernel
theorem dX5_readSubpath_19 : decode cX5_readSubpath 19 = .ok (.invokevirtual 47, 3) := by decide +kernel
theorem dX5_readSubpath_22 : decode cX5_readSubpath 22 = .ok (.iconst 1, 1) := by decide +kernel
theorem dX5_readSubpath_23 : decode cX5_readSubpath 23 = .ok (.istore_n 2, 1) := by decide +kernel
theorem dX5_readSubpath_24 : decode cX5_readSubpath 24 = .ok (.iload_n 2, 1) := by decide +kernel
theorem dX5_readSubpath_25 : decode cX5_readSubpath 25 = .ok (.bipush 8, 2) := by decide +kernel
theorem dX5_readSubpath_27 : decode cX5_readSubpath 27 = .ok (.if_icmp .gt 69, 3) := by decide +kernel
theorem dX5_readSubpath_30 : decode cX5_readSubpath 30 = .ok (.aload_n 0, 1) := by decide +kernel
theorem dX5_readSubpath_31 : decode cX5_readSubpath 31 = .ok (.getfield 22, 3) := by decide +kernel
theorem dX5_readSubpath_34 : decode cX5_readSubpath 34 = .ok (.iconst (-1), 1) := by decide +kernel
theorem dX5_readSubpath_35 : decode cX5_readSubpath 35 = .ok (.if_icmp .ne 61, 3) := by decide +kernel
theorem dX5_readSubpath_38 : decode cX5_readSubpath 38 = .ok (.aload_n 0, 1) := by decide +kernel
theorem dX5_readSubpath_39 : decode cX5_readSubpath 39 = .ok (.invokevirtual 51, 3) := by decide +kernel
theorem dX5_readSubpath_42 : decode cX5_readSubpath 42 = .ok (.bipush 76, 2) := by decide +kernel
theorem dX5_readSubpath_44 : decode cX5_readSubpath 44 = .ok (.if_icmp .ne 52, 3) := by decide +kernel
theorem dX5_readSubpath_47 : decode cX5_readSubpath 47 = .ok (.iload_n 2, 1) := by decide +kernel
theorem dX5_readSubpath_48 : decode cX5_readSubpath 48 = .ok (.bipush 8, 2) := by decide +kernel
theorem dX5_readSubpath_50 : decode cX5_readSubpath 50 = .ok (.if_icmp .ge 32, 3) := by decide +kernel
theorem dX5_readSubpath_53 : decode cX5_readSubpath 53 = .ok (.aload_n 0, 1) := by decide +kernel
theorem dX5_readSubpath_54 : decode cX5_readSubpath 54 = .ok (.dup, 1) := by decide +kernel
theorem dX5_readSubpath_55 : decode cX5_readSubpath 55 = .ok (.getfield 19, 3) := by decide +kernel
theorem dX5_readSubpath_58 : decode cX5_readSubpath 58 = .ok (.iconst 1, 1) := by decide +kernel
theorem dX5_readSubpath_59 : decode cX5_readSubpath 59 = .ok (.iadd, 1) := by decide +kernel
theorem dX5_readSubpath_60 : decode cX5_readSubpath 60 = .ok (.putfield 19, 3) := by decide +kernel
theorem dX5_readSubpath_63 : decode cX5_readSubpath 63 = .ok (.aload_n 0, 1) := by decide +kernel
theorem dX5_readSubpath_64 : decode cX5_readSubpath 64 = .ok (.invokevirtual 38, 3) := by decide +kernel
theorem dX5_readSubpath_67 : decode cX5_readSubpath 67 = .ok (.aload_n 1, 1) := by decide +kernel
theorem dX5_readSubpath_68 : decode cX5_readSubpath 68 = .ok (.aload_n 0, 1) := by decide +kernel
theorem dX5_readSubpath_69 : decode cX5_readSubpath 69 = .ok (.getfield 41, 3) := by decide +kernel
theorem dX5_readSubpath_72 : decode cX5_readSubpath 72 = .ok (.aload_n 0, 1) := by decide +kernel
theorem dX5_readSubpath_73 : decode cX5_readSubpath 73 = .ok (.getfield 44, 3) := by decide +kernel
theorem dX5_readSubpath_76 : decode cX5_readSubpath 76 = .ok (.invokevirtual 55, 3) := by decide +kernel
theorem dX5_readSubpath_79 : decode cX5_readSubpath 79 = .ok (.goto 11, 3) := by decide +kernel
theorem dX5_readSubpath_82 : decode cX5_readSubpath 82 = .ok (.aload_n 0, 1) := by decide +kernel
theorem dX5_readSubpath_83 : decode cX5_readSubpath 83 = .ok (.aload_n 0, 1) := by decide +kernel
theorem dX5_readSubpath_84 : decode cX5_readSubpath 84 = .ok (.getfield 19, 3) := by decide +kernel
theorem dX5_readSubpath_87 : decode cX5_readSubpath 87 = .ok (.putfield 22, 3) := by decide +kernel
theorem dX5_readSubpath_90 : decode cX5_readSubpath 90 = .ok (.iinc 2 1, 3) := by decide +kernel
theorem dX5_readSubpath_93 : decode cX5_readSubpath 93 = .ok (.goto (-69), 3) := by decide +kernel
theorem dX5_readSubpath_96 : decode cX5_readSubpath 96 = .ok (.aload_n 0, 1) := by decide +kernel
theorem dX5_readSubpath_97 : decode cX5_readSubpath 97 = .ok (.getfield 22, 3) := by decide +kernel
theorem dX5_readSubpath_100 : decode cX5_readSubpath 100 = .ok (.iconst (-1), 1) := by decide +kernel
theorem dX5_readSubpath_101 : decode cX5_readSubpath 101 = .ok (.if_icmp .ne 26, 3) := by decide +kernel
theorem dX5_readSubpath_104 : decode cX5_readSubpath 104 = .ok (.aload_n 0, 1) := by decide +kernel
theorem dX5_readSubpath_105 : decode cX5_readSubpath 105 = .ok (.invokevirtual 51, 3) := by decide +kernel
theorem dX5_readSubpath_108 : decode cX5_readSubpath 108 = .ok (.bipush 90, 2) := by decide +kernel
theorem dX5_readSubpath_110 : decode cX5_readSubpath 110 = .ok (.if_icmp .ne 17, 3) := by decide +kernel
theorem dX5_readSubpath_113 : decode cX5_readSubpath 113 = .ok (.aload_n 0, 1) := by decide +kernel
theorem dX5_readSubpath_114 : decode cX5_readSubpath 114 = .ok (.dup, 1) := by decide +kernel
theorem dX5_readSubpath_115 : decode cX5_readSubpath 115 = .ok (.getfield 19, 3) := by decide +kernel
theorem dX5_readSubpath_118 : decode cX5_readSubpath 118 = .ok (.iconst 1, 1) := by decide +kernel
theorem dX5_readSubpath_119 : decode cX5_readSubpath 119 = .ok (.iadd, 1) := by decide +kernel
theorem dX5_readSubpath_120 : decode cX5_readSubpath 120 = .ok (.putfield 19, 3) := by decide +kernel
theorem dX5_readSubpath_123 : decode cX5_readSubpath 123 = .ok (.aload_n 1, 1) := by decide +kernel
theorem dX5_readSubpath_124 : decode cX5_readSubpath 124 = .ok (.invokevirtual 58, 3) := by decide +kernel
theorem dX5_readSubpath_127 : decode cX5_readSubpath 127 = .ok (.return_, 1) := by decide +kernel
theorem dX5_readPoint_0 : decode cX5_readPoint 0 = .ok (.aload_n 0, 1) := by decide +kernel
theorem dX5_readPoint_1 : decode cX5_readPoint 1 = .ok (.aload_n 0, 1) := by decide +kernel
theorem dX5_readPoint_2 : decode cX5_readPoint 2 = .ok (.invokevirtual 61, 3) := by decide +kernel
theorem dX5_readPoint_5 : decode cX5_readPoint 5 = .ok (.putfield 41, 3) := by decide +kernel
theorem dX5_readPoint_8 : decode cX5_readPoint 8 = .ok (.aload_n 0, 1) := by decide +kernel
theorem dX5_readPoint_9 : decode cX5_readPoint 9 = .ok (.bipush 44, 2) := by decide +kernel
theorem dX5_readPoint_11 : decode cX5_readPoint 11 = .ok (.invokevirtual 34, 3) := by decide +kernel
theorem dX5_readPoint_14 : decode cX5_readPoint 14 = .ok (.aload_n 0, 1) := by decide +kernel
theorem dX5_readPoint_15 : decode cX5_readPoint 15 = .ok (.aload_n 0, 1) := by decide +kernel
theorem dX5_readPoint_16 : decode cX5_readPoint 16 = .ok (.invokevirtual 61, 3) := by decide +kernel
theorem dX5_readPoint_19 : decode cX5_readPoint 19 = .ok (.putfield 44, 3) := by decide +kernel
theorem dX5_readPoint_22 : decode cX5_readPoint 22 = .ok (.return_, 1) := by decide +kernel
theorem dX5_readNumber_0 : decode cX5_readNumber 0 = .ok (.aload_n 0, 1) := by decide +kernel
theorem dX5_readNumber_1 : decode cX5_readNumber 1 = .ok (.getfield 22, 3) := by decide +kernel
theorem dX5_readNumber_4 : decode cX5_readNumber 4 = .ok (.iconst (-1), 1) := by decide +kernel
theorem dX5_readNumber_5 : decode cX5_readNumber 5 = .ok (.if_icmp .eq 5, 3) := by decide +kernel
theorem dX5_readNumber_8 : decode cX5_readNumber 8 = .ok (.iconst 0, 1) := by decide +kernel
theorem dX5_readNumber_9 : decode cX5_readNumber 9 = .ok (.ireturn, 1) := by decide +kernel
theorem dX5_readNumber_10 : decode cX5_readNumber 10 = .ok (.aload_n 0, 1) := by decide +kernel
theorem dX5_readNumber_11 : decode cX5_readNumber 11 = .ok (.getfield 19, 3) := by decide +kernel
theorem dX5_readNumber_14 : decode cX5_readNumber 14 = .ok (.istore_n 1, 1) := by decide +kernel
theorem dX5_readNumber_15 : decode cX5_readNumber 15 = .ok (.aload_n 0, 1) := by decide +kernel
theorem dX5_readNumber_16 : decode cX5_readNumber 16 = .ok (.invokevirtual 51, 3) := by decide +kernel
theorem dX5_readNumber_19 : decode cX5_readNumber 19 = .ok (.bipush 45, 2) := by decide +kernel
theorem dX5_readNumber_21 : decode cX5_readNumber 21 = .ok (.if_icmp .ne 7, 3) := by decide +kernel
theorem dX5_readNumber_24 : decode cX5_readNumber 24 = .ok (.iconst 1, 1) := by decide +kernel
theorem dX5_readNumber_25 : decode cX5_readNumber 25 = .ok (.goto 4, 3) := by decide +kernel
theorem dX5_readNumber_28 : decode cX5_readNumber 28 = .ok (.iconst 0, 1) := by decide +kernel
theorem dX5_readNumber_29 : decode cX5_readNumber 29 = .ok (.istore_n 2, 1) := by decide +kernel
theorem dX5_readNumber_30 : decode cX5_readNumber 30 = .ok (.iload_n 2, 1) := by decide +kernel
theorem dX5_readNumber_31 : decode cX5_readNumber 31 = .ok (.ifCond .eq 13, 3) := by decide +kernel
theorem dX5_readNumber_34 : decode cX5_readNumber 34 = .ok (.aload_n 0, 1) := by decide +kernel
theorem dX5_readNumber_35 : decode cX5_readNumber 35 = .ok (.dup, 1) := by decide +kernel
theorem dX5_readNumber_36 : decode cX5_readNumber 36 = .ok (.getfield 19, 3) := by decide +kernel
theorem dX5_readNumber_39 : decode cX5_readNumber 39 = .ok (.iconst 1, 1) := by decide +kernel
theorem dX5_readNumber_40 : decode cX5_readNumber 40 = .ok (.iadd, 1) := by decide +kernel
theorem dX5_readNumber_41 : decode cX5_readNumber 41 = .ok (.putfield 19, 3) := by decide +kernel
theorem dX5_readNumber_44 : decode cX5_readNumber 44 = .ok (.iconst 0, 1) := by decide +kernel
theorem dX5_readNumber_45 : decode cX5_readNumber 45 = .ok (.istore_n 3, 1) := by decide +kernel
theorem dX5_readNumber_46 : decode cX5_readNumber 46 = .ok (.iconst 0, 1) := by decide +kernel
theorem dX5_readNumber_47 : decode cX5_readNumber 47 = .ok (.istore 4, 2) := by decide +kernel
theorem dX5_readNumber_49 : decode cX5_readNumber 49 = .ok (.iload 4, 2) := by decide +kernel
theorem dX5_readNumber_51 : decode cX5_readNumber 51 = .ok (.iconst 3, 1) := by decide +kernel
theorem dX5_readNumber_52 : decode cX5_readNumber 52 = .ok (.if_icmp .ge 42, 3) := by decide +kernel
theorem dX5_readNumber_55 : decode cX5_readNumber 55 = .ok (.aload_n 0, 1) := by decide +kernel
theorem dX5_readNumber_56 : decode cX5_readNumber 56 = .ok (.invokevirtual 51, 3) := by decide +kernel
theorem dX5_readNumber_59 : decode cX5_readNumber 59 = .ok (.invokestatic 64, 3) := by decide +kernel
theorem dX5_readNumber_62 : decode cX5_readNumber 62 = .ok (.ifCond .eq 32, 3) := by decide +kernel
theorem dX5_readNumber_65 : decode cX5_readNumber 65 = .ok (.bipush 10, 2) := by decide +kernel
theorem dX5_readNumber_67 : decode cX5_readNumber 67 = .ok (.iload_n 3, 1) := by decide +kernel
theorem dX5_readNumber_68 : decode cX5_readNumber 68 = .ok (.imul, 1) := by decide +kernel
theorem dX5_readNumber_69 : decode cX5_readNumber 69 = .ok (.aload_n 0, 1) := by decide +kernel
theorem dX5_readNumber_70 : decode cX5_readNumber 70 = .ok (.invokevirtual 51, 3) := by decide +kernel
theorem dX5_readNumber_73 : decode cX5_readNumber 73 = .ok (.iadd, 1) := by decide +kernel
theorem dX5_readNumber_74 : decode cX5_readNumber 74 = .ok (.bipush 48, 2) := by decide +kernel
theorem dX5_readNumber_76 : decode cX5_readNumber 76 = .ok (.isub, 1) := by decide +kernel
theorem dX5_readNumber_77 : decode cX5_readNumber 77 = .ok (.istore_n 3, 1) := by decide +kernel
theorem dX5_readNumber_78 : decode cX5_readNumber 78 = .ok (.aload_n 0, 1) := by decide +kernel
theorem dX5_readNumber_79 : decode cX5_readNumber 79 = .ok (.dup, 1) := by decide +kernel
theorem dX5_readNumber_80 : decode cX5_readNumber 80 = .ok (.getfield 19, 3) := by decide +kernel
theorem dX5_readNumber_83 : decode cX5_readNumber 83 = .ok (.iconst 1, 1) := by decide +kernel
theorem dX5_readNumber_84 : decode cX5_readNumber 84 = .ok (.iadd, 1) := by decide +kernel
theorem dX5_readNumber_85 : decode cX5_readNumber 85 = .ok (.putfield 19, 3) := by decide +kernel
theorem dX5_readNumber_88 : decode cX5_readNumber 88 = .ok (.iinc 4 1, 3) := by decide +kernel
theorem dX5_readNumber_91 : decode cX5_readNumber 91 = .ok (.goto (-42), 3) := by decide +kernel
theorem dX5_readNumber_94 : decode cX5_readNumber 94 = .ok (.iload 4, 2) := by decide +kernel
theorem dX5_readNumber_96 : decode cX5_readNumber 96 = .ok (.ifCond .eq 13, 3) := by decide +kernel
theorem dX5_readNumber_99 : decode cX5_readNumber 99 = .ok (.aload_n 0, 1) := by decide +kernel
theorem dX5_readNumber_100 : decode cX5_readNumber 100 = .ok (.invokevirtual 51, 3) := by decide +kernel
theorem dX5_readNumber_103 : decode cX5_readNumber 103 = .ok (.invokestatic 64, 3) := by decide +kernel
theorem dX5_readNumber_106 : decode cX5_readNumber 106 = .ok (.ifCond .eq 14, 3) := by decide +kernel
theorem dX5_readNumber_109 : decode cX5_readNumber 109 = .ok (.aload_n 0, 1) := by decide +kernel
theorem dX5_readNumber_110 : decode cX5_readNumber 110 = .ok (.aload_n 0, 1) := by decide +kernel
theorem dX5_readNumber_111 : decode cX5_readNumber 111 = .ok (.getfield 19, 3) := by decide +kernel
theorem dX5_readNumber_114 : decode cX5_readNumber 114 = .ok (.putfield 22, 3) := by decide +kernel
theorem dX5_readNumber_117 : decode cX5_readNumber 117 = .ok (.goto 14, 3) := by decide +kernel
theorem dX5_readNumber_120 : decode cX5_readNumber 120 = .ok (.iload_n 3, 1) := by decide +kernel
theorem dX5_readNumber_121 : decode cX5_readNumber 121 = .ok (.bipush 100, 2) := by decide +kernel
theorem dX5_readNumber_123 : decode cX5_readNumber 123 = .ok (.if_icmp .le 8, 3) := by decide +kernel
theorem dX5_readNumber_126 : decode cX5_readNumber 126 = .ok (.aload_n 0, 1) := by decide +kernel
theorem dX5_readNumber_127 : decode cX5_readNumber 127 = .ok (.iload_n 1, 1) := by decide +kernel
theorem dX5_readNumber_128 : decode cX5_readNumber 128 = .ok (.putfield 22, 3) := by decide +kernel
theorem dX5_readNumber_131 : decode cX5_readNumber 131 = .ok (.iload_n 2, 1) := by decide +kernel
theorem dX5_readNumber_132 : decode cX5_readNumber 132 = .ok (.ifCond .eq 8, 3) := by decide +kernel
theorem dX5_readNumber_135 : decode cX5_readNumber 135 = .ok (.iload_n 3, 1) := by decide +kernel
theorem dX5_readNumber_136 : decode cX5_readNumber 136 = .ok (.ineg, 1) := by decide +kernel
theorem dX5_readNumber_137 : decode cX5_readNumber 137 = .ok (.goto 4, 3) := by decide +kernel
theorem dX5_readNumber_140 : decode cX5_readNumber 140 = .ok (.iload_n 3, 1) := by decide +kernel
theorem dX5_readNumber_141 : decode cX5_readNumber 141 = .ok (.ireturn, 1) := by decide +kernel
theorem dX5_expect_0 : decode cX5_expect 0 = .ok (.aload_n 0, 1) := by decide +kernel
theorem dX5_expect_1 : decode cX5_expect 1 = .ok (.getfield 22, 3) := by decide +kernel
theorem dX5_expect_4 : decode cX5_expect 4 = .ok (.iconst (-1), 1) := by decide +kernel
theorem dX5_expect_5 : decode cX5_expect 5 = .ok (.if_icmp .eq 4, 3) := by decide +kernel
theorem dX5_expect_8 : decode cX5_expect 8 = .ok (.return_, 1) := by decide +kernel
theorem dX5_expect_9 : decode cX5_expect 9 = .ok (.aload_n 0, 1) := by decide +kernel
theorem dX5_expect_10 : decode cX5_expect 10 = .ok (.invokevirtual 51, 3) := by decide +kernel
theorem dX5_expect_13 : decode cX5_expect 13 = .ok (.iload_n 1, 1) := by decide +kernel
theorem dX5_expect_14 : decode cX5_expect 14 = .ok (.if_icmp .ne 16, 3) := by decide +kernel
theorem dX5_expect_17 : decode cX5_expect 17 = .ok (.aload_n 0, 1) := by decide +kernel
theorem dX5_expect_18 : decode cX5_expect 18 = .ok (.dup, 1) := by decide +kernel
theorem dX5_expect_19 : decode cX5_expect 19 = .ok (.getfield 19, 3) := by decide +kernel
theorem dX5_expect_22 : decode cX5_expect 22 = .ok (.iconst 1, 1) := by decide +kernel
theorem dX5_expect_23 : decode cX5_expect 23 = .ok (.iadd, 1) := by decide +kernel
theorem dX5_expect_24 : decode cX5_expect 24 = .ok (.putfield 19, 3) := by decide +kernel
theorem dX5_expect_27 : decode cX5_expect 27 = .ok (.goto 11, 3) := by decide +kernel
theorem dX5_expect_30 : decode cX5_expect 30 = .ok (.aload_n 0, 1) := by decide +kernel
theorem dX5_expect_31 : decode cX5_expect 31 = .ok (.aload_n 0, 1) := by decide +kernel
theorem dX5_expect_32 : decode cX5_expect 32 = .ok (.getfield 19, 3) := by decide +kernel
theorem dX5_expect_35 : decode cX5_expect 35 = .ok (.putfield 22, 3) := by decide +kernel
theorem dX5_expect_38 : decode cX5_expect 38 = .ok (.return_, 1) := by decide +kernel
theorem dX5_next_0 : decode cX5_next 0 = .ok (.aload_n 0, 1) := by decide +kernel
theorem dX5_next_1 : decode cX5_next 1 = .ok (.getfield 19, 3) := by decide +kernel
theorem dX5_next_4 : decode cX5_next 4 = .ok (.ifCond .lt 28, 3) := by decide +kernel
theorem dX5_next_7 : decode cX5_next 7 = .ok (.aload_n 0, 1) := by decide +kernel
theorem dX5_next_8 : decode cX5_next 8 = .ok (.getfield 19, 3) := by decide +kernel
theorem dX5_next_11 : decode cX5_next 11 = .ok (.aload_n 0, 1) := by decide +kernel
theorem dX5_next_12 : decode cX5_next 12 = .ok (.getfield 15, 3) := by decide +kernel
theorem dX5_next_15 : decode cX5_next 15 = .ok (.if_icmp .ge 17, 3) := by decide +kernel
theorem dX5_next_18 : decode cX5_next 18 = .ok (.aload_n 0, 1) := by decide +kernel
theorem dX5_next_19 : decode cX5_next 19 = .ok (.getfield 11, 3) := by decide +kernel
theorem dX5_next_22 : decode cX5_next 22 = .ok (.aload_n 0, 1) := by decide +kernel
theorem dX5_next_23 : decode cX5_next 23 = .ok (.getfield 19, 3) := by decide +kernel
theorem dX5_next_26 : decode cX5_next 26 = .ok (.invokestatic 68, 3) := by decide +kernel
theorem dX5_next_29 : decode cX5_next 29 = .ok (.goto 4, 3) := by decide +kernel
theorem dX5_next_32 : decode cX5_next 32 = .ok (.iconst (-1), 1) := by decide +kernel
theorem dX5_next_33 : decode cX5_next 33 = .ok (.ireturn, 1) := by decide +kernel
theorem dX5_isDigit_0 : decode cX5_isDigit 0 = .ok (.iload_n 0, 1) := by decide +kernel
theorem dX5_isDigit_1 : decode cX5_isDigit 1 = .ok (.bipush 48, 2) := by decide +kernel
theorem dX5_isDigit_3 : decode cX5_isDigit 3 = .ok (.if_icmp .lt 13, 3) := by decide +kernel
theorem dX5_isDigit_6 : decode cX5_isDigit 6 = .ok (.iload_n 0, 1) := by decide +kernel
theorem dX5_isDigit_7 : decode cX5_isDigit 7 = .ok (.bipush 57, 2) := by decide +kernel
theorem dX5_isDigit_9 : decode cX5_isDigit 9 = .ok (.if_icmp .gt 7, 3) := by decide +kernel
theorem dX5_isDigit_12 : decode cX5_isDigit 12 = .ok (.iconst 1, 1) := by decide +kernel
theorem dX5_isDigit_13 : decode cX5_isDigit 13 = .ok (.goto 4, 3) := by decide +kernel
theorem dX5_isDigit_16 : decode cX5_isDigit 16 = .ok (.iconst 0, 1) := by decide +kernel
theorem dX5_isDigit_17 : decode cX5_isDigit 17 = .ok (.ireturn, 1) := by decide +kernel
theorem dX6_init_0 : decode cX6_init 0 = .ok (.aload_n 0, 1) := by decide +kernel
theorem dX6_init_1 : decode cX6_init 1 = .ok (.invokespecial 3, 3) := by decide +kernel
theorem dX6_init_4 : decode cX6_init 4 = .ok (.aload_n 0, 1) := by decide +kernel
theorem dX6_init_5 : decode cX6_init 5 = .ok (.sipush 324, 3) := by decide +kernel
theorem dX6_init_8 : decode cX6_init 8 = .ok (.newarray .int, 2) := by decide +kernel
theorem dX6_init_10 : decode cX6_init 10 = .ok (.putfield 11, 3) := by decide +kernel
theorem dX6_init_13 : decode cX6_init 13 = .ok (.return_, 1) := by decide +kernel
theorem dX6_byteOf_0 : decode cX6_byteOf 0 = .ok (.aload_n 0, 1) := by decide +kernel
theorem dX6_byteOf_1 : decode cX6_byteOf 1 = .ok (.iconst 0, 1) := by decide +kernel
theorem dX6_byteOf_2 : decode cX6_byteOf 2 = .ok (.putfield 15, 3) := by decide +kernel
theorem dX6_byteOf_5 : decode cX6_byteOf 5 = .ok (.iconst 0, 1) := by decide +kernel
theorem dX6_byteOf_6 : decode cX6_byteOf 6 = .ok (.istore_n 3, 1) := by decide +kernel
theorem dX6_byteOf_7 : decode cX6_byteOf 7 = .ok (.iload_n 3, 1) := by decide +kernel
theorem dX6_byteOf_8 : decode cX6_byteOf 8 = .ok (.aload_n 1, 1) := by decide +kernel
theorem dX6_byteOf_9 : decode cX6_byteOf 9 = .ok (.invokevirtual 19, 3) := by decide +kernel
theorem dX6_byteOf_12 : decode cX6_byteOf 12 = .ok (.if_icmp .ge 15, 3) := by decide +kernel
theorem dX6_byteOf_15 : decode cX6_byteOf 15 = .ok (.aload_n 0, 1) := by decide +kernel
theorem dX6_byteOf_16 : decode cX6_byteOf 16 = .ok (.aload_n 1, 1) := by decide +kernel
theorem dX6_byteOf_17 : decode cX6_byteOf 17 = .ok (.iload_n 3, 1) := by decide +kernel
theorem dX6_byteOf_18 : decode cX6_byteOf 18 = .ok (.invokevirtual 25, 3) := by decide +kernel
theorem dX6_byteOf_21 : decode cX6_byteOf 21 = .ok (.iinc 3 1, 3) := by decide +kernel
theorem dX6_byteOf_24 : decode cX6_byteOf 24 = .ok (.goto (-17), 3) := by decide +kernel
theorem dX6_byteOf_27 : decode cX6_byteOf 27 = .ok (.iload_n 2, 1) := by decide +kernel
theorem dX6_byteOf_28 : decode cX6_byteOf 28 = .ok (.ifCond .lt 22, 3) := by decide +kernel
theorem dX6_byteOf_31 : decode cX6_byteOf 31 = .ok (.iload_n 2, 1) := by decide +kernel
theorem dX6_byteOf_32 : decode cX6_byteOf 32 = .ok (.aload_n 0, 1) := by decide +kernel
theorem dX6_byteOf_33 : decode cX6_byteOf 33 = .ok (.getfield 15, 3) := by decide +kernel
theorem dX6_byteOf_36 : decode cX6_byteOf 36 = .ok (.if_icmp .ge 14, 3) := by decide +kernel
theorem dX6_byteOf_39 : decode cX6_byteOf 39 = .ok (.aload_n 0, 1) := by decide +kernel
theorem dX6_byteOf_40 : decode cX6_byteOf 40 = .ok (.getfield 11, 3) := by decide +kernel
theorem dX6_byteOf_43 : decode cX6_byteOf 43 = .ok (.iload_n 2, 1) := by decide +kernel
theorem dX6_byteOf_44 : decode cX6_byteOf 44 = .ok (.invokestatic 29, 3) := by decide +kernel
theorem dX6_byteOf_47 : decode cX6_byteOf 47 = .ok (.goto 4, 3) := by decide +kernel
theorem dX6_byteOf_50 : decode cX6_byteOf 50 = .ok (.iconst (-1), 1) := by decide +kernel
theorem dX6_byteOf_51 : decode cX6_byteOf 51 = .ok (.ireturn, 1) := by decide +kernel
theorem dX6_writeSubpath_0 : decode cX6_writeSubpath 0 = .ok (.iconst 0, 1) := by decide +kernel
theorem dX6_writeSubpath_1 : decode cX6_writeSubpath 1 = .ok (.istore_n 3, 1) := by decide +kernel
theorem dX6_writeSubpath_2 : decode cX6_writeSubpath 2 = .ok (.iload_n 3, 1) := by decide +kernel
theorem dX6_writeSubpath_3 : decode cX6_writeSubpath 3 = .ok (.aload_n 1, 1) := by decide +kernel
theorem dX6_writeSubpath_4 : decode cX6_writeSubpath 4 = .ok (.iload_n 2, 1) := by decide +kernel
theorem dX6_writeSubpath_5 : decode cX6_writeSubpath 5 = .ok (.invokevirtual 35, 3) := by decide +kernel
theorem dX6_writeSubpath_8 : decode cX6_writeSubpath 8 = .ok (.if_icmp .ge 50, 3) := by decide +kernel
theorem dX6_writeSubpath_11 : decode cX6_writeSubpath 11 = .ok (.aload_n 0, 1) := by decide +kernel
theorem dX6_writeSubpath_12 : decode cX6_writeSubpath 12 = .ok (.iload_n 3, 1) := by decide +kernel
theorem dX6_writeSubpath_13 : decode cX6_writeSubpath 13 = .ok (.ifCond .ne 8, 3) := by decide +kernel
theorem dX6_writeSubpath_16 : decode cX6_writeSubpath 16 = .ok (.bipush 77, 2) := by decide +kernel
theorem dX6_writeSubpath_18 : decode cX6_writeSubpath 18 = .ok (.goto 5, 3) := by decide +kernel
theorem dX6_writeSubpath_21 : decode cX6_writeSubpath 21 = .ok (.bipush 76, 2) := by decide +kernel
theorem dX6_writeSubpath_23 : decode cX6_writeSubpath 23 = .ok (.invokevirtual 39, 3) := by decide +kernel
theorem dX6_writeSubpath_26 : decode cX6_writeSubpath 26 = .ok (.aload_n 0, 1) := by decide +kernel
theorem dX6_writeSubpath_27 : decode cX6_writeSubpath 27 = .ok (.aload_n 1, 1) := by decide +kernel
theorem dX6_writeSubpath_28 : decode cX6_writeSubpath 28 = .ok (.iload_n 2, 1) := by decide +kernel
theorem dX6_writeSubpath_29 : decode cX6_writeSubpath 29 = .ok (.iload_n 3, 1) := by decide +kernel
theorem dX6_writeSubpath_30 : decode cX6_writeSubpath 30 = .ok (.invokevirtual 43, 3) := by decide +kernel
theorem dX6_writeSubpath_33 : decode cX6_writeSubpath 33 = .ok (.invokevirtual 47, 3) := by decide +kernel
theorem dX6_writeSubpath_36 : decode cX6_writeSubpath 36 = .ok (.aload_n 0, 1) := by decide +kernel
theorem dX6_writeSubpath_37 : decode cX6_writeSubpath 37 = .ok (.bipush 44, 2) := by decide +kernel
theorem dX6_writeSubpath_39 : decode cX6_writeSubpath 39 = .ok (.invokevirtual 39, 3) := by decide +kernel
theorem dX6_writeSubpath_42 : decode cX6_writeSubpath 42 = .ok (.aload_n 0, 1) := by decide +kernel
theorem dX6_writeSubpath_43 : decode cX6_writeSubpath 43 = .ok (.aload_n 1, 1) := by decide +kernel
theorem dX6_writeSubpath_44 : decode cX6_writeSubpath 44 = .ok (.iload_n 2, 1) := by decide +kernel
theorem dX6_writeSubpath_45 : decode cX6_writeSubpath 45 = .ok (.iload_n 3, 1) := by decide +kernel
theorem dX6_writeSubpath_46 : decode cX6_writeSubpath 46 = .ok (.invokevirtual 50, 3) := by decide +kernel
theorem dX6_writeSubpath_49 : decode cX6_writeSubpath 49 = .ok (.invokevirtual 47, 3) := by decide +kernel
theorem dX6_writeSubpath_52 : decode cX6_writeSubpath 52 = .ok (.iinc 3 1, 3) := by decide +kernel
theorem dX6_writeSubpath_55 : decode cX6_writeSubpath 55 = .ok (.goto (-53), 3) := by decide +kernel
theorem dX6_writeSubpath_58 : decode cX6_writeSubpath 58 = .ok (.aload_n 1, 1) := by decide +kernel
theorem dX6_writeSubpath_59 : decode cX6_writeSubpath 59 = .ok (.iload_n 2, 1) := by decide +kernel
theorem dX6_writeSubpath_60 : decode cX6_writeSubpath 60 = .ok (.invokevirtual 53, 3) := by decide +kernel
theorem dX6_writeSubpath_63 : decode cX6_writeSubpath 63 = .ok (.ifCond .eq 9, 3) := by decide +kernel
theorem dX6_writeSubpath_66 : decode cX6_writeSubpath 66 = .ok (.aload_n 0, 1) := by decide +kernel
theorem dX6_writeSubpath_67 : decode cX6_writeSubpath 67 = .ok (.bipush 90, 2) := by decide +kernel
theorem dX6_writeSubpath_69 : decode cX6_writeSubpath 69 = .ok (.invokevirtual 39, 3) := by decide +kernel
theorem dX6_writeSubpath_72 : decode cX6_writeSubpath 72 = .ok (.return_, 1) := by decide +kernel
theorem dX6_writeNumber_0 : decode cX6_writeNumber 0 = .ok (.iload_n 1, 1) := by decide +kernel
theorem dX6_writeNumber_1 : decode cX6_writeNumber 1 = .ok (.ifCond .ge 9, 3) := by decide +kernel
theorem dX6_writeNumber_4 : decode cX6_writeNumber 4 = .ok (.aload_n 0, 1) := by decide +kernel
theorem dX6_writeNumber_5 : decode cX6_writeNumber 5 = .ok (.bipush 45, 2) := by decide +kernel
theorem dX6_writeNumber_7 : decode cX6_writeNumber 7 = .ok (.invokevirtual 39, 3) := by decide +kernel
theorem dX6_writeNumber_10 : decode cX6_writeNumber 10 = .ok (.iload_n 1, 1) := by decide +kernel
theorem dX6_writeNumber_11 : decode cX6_writeNumber 11 = .ok (.invokestatic 57, 3) := by decide +kernel
theorem dX6_writeNumber_14 : decode cX6_writeNumber 14 = .ok (.istore_n 2, 1) := by decide +kernel
theorem dX6_writeNumber_15 : decode cX6_writeNumber 15 = .ok (.iload_n 2, 1) := by decide +kernel
theorem dX6_writeNumber_16 : decode cX6_writeNumber 16 = .ok (.bipush 100, 2) := by decide +kernel
theorem dX6_writeNumber_18 : decode cX6_writeNumber 18 = .ok (.if_icmp .lt 14, 3) := by decide +kernel
theorem dX6_writeNumber_21 : decode cX6_writeNumber 21 = .ok (.aload_n 0, 1) := by decide +kernel
theorem dX6_writeNumber_22 : decode cX6_writeNumber 22 = .ok (.bipush 48, 2) := by decide +kernel
theorem dX6_writeNumber_24 : decode cX6_writeNumber 24 = .ok (.iload_n 2, 1) := by decide +kernel
theorem dX6_writeNumber_25 : decode cX6_writeNumber 25 = .ok (.bipush 100, 2) := by decide +kernel
theorem dX6_writeNumber_27 : decode cX6_writeNumber 27 = .ok (.idiv, 1) := by decide +kernel
theorem dX6_writeNumber_28 : decode cX6_writeNumber 28 = .ok (.iadd, 1) := by decide +kernel
theorem dX6_writeNumber_29 : decode cX6_writeNumber 29 = .ok (.invokevirtual 39, 3) := by decide +kernel
theorem dX6_writeNumber_32 : decode cX6_writeNumber 32 = .ok (.iload_n 2, 1) := by decide +kernel
theorem dX6_writeNumber_33 : decode cX6_writeNumber 33 = .ok (.bipush 10, 2) := by decide +kernel
theorem dX6_writeNumber_35 : decode cX6_writeNumber 35 = .ok (.if_icmp .lt 17, 3) := by decide +kernel
theorem dX6_writeNumber_38 : decode cX6_writeNumber 38 = .ok (.aload_n 0, 1) := by decide +kernel
theorem dX6_writeNumber_39 : decode cX6_writeNumber 39 = .ok (.bipush 48, 2) := by decide +kernel
theorem dX6_writeNumber_41 : decode cX6_writeNumber 41 = .ok (.iload_n 2, 1) := by decide +kernel
theorem dX6_writeNumber_42 : decode cX6_writeNumber 42 = .ok (.bipush 10, 2) := by decide +kernel
theorem dX6_writeNumber_44 : decode cX6_writeNumber 44 = .ok (.idiv, 1) := by decide +kernel
theorem dX6_writeNumber_45 : decode cX6_writeNumber 45 = .ok (.bipush 10, 2) := by decide +kernel
theorem dX6_writeNumber_47 : decode cX6_writeNumber 47 = .ok (.irem, 1) := by decide +kernel
theorem dX6_writeNumber_48 : decode cX6_writeNumber 48 = .ok (.iadd, 1) := by decide +kernel
theorem dX6_writeNumber_49 : decode cX6_writeNumber 49 = .ok (.invokevirtual 39, 3) := by decide +kernel
theorem dX6_writeNumber_52 : decode cX6_writeNumber 52 = .ok (.aload_n 0, 1) := by decide +kernel
theorem dX6_writeNumber_53 : decode cX6_writeNumber 53 = .ok (.bipush 48, 2) := by decide +kernel
theorem dX6_writeNumber_55 : decode cX6_writeNumber 55 = .ok (.iload_n 2, 1) := by decide +kernel
theorem dX6_writeNumber_56 : decode cX6_writeNumber 56 = .ok (.bipush 10, 2) := by decide +kernel
theorem dX6_writeNumber_58 : decode cX6_writeNumber 58 = .ok (.irem, 1) := by decide +kernel
theorem dX6_writeNumber_59 : decode cX6_writeNumber 59 = .ok (.iadd, 1) := by decide +kernel
theorem dX6_writeNumber_60 : decode cX6_writeNumber 60 = .ok (.invokevirtual 39, 3) := by decide +kernel
theorem dX6_writeNumber_63 : decode cX6_writeNumber 63 = .ok (.return_, 1) := by decide +kernel
theorem dX6_write_0 : decode cX6_write 0 = .ok (.aload_n 0, 1) := by decide +kernel
theorem dX6_write_1 : decode cX6_write 1 = .ok (.getfield 15, 3) := by decide +kernel
theorem dX6_write_4 : decode cX6_write 4 = .ok (.ifCond .lt 33, 3) := by decide +kernel
theorem dX6_write_7 : decode cX6_write 7 = .ok (.aload_n 0, 1) := by decide +kernel
theorem dX6_write_8 : decode cX6_write 8 = .ok (.getfield 15, 3) := by decide +kernel
theorem dX6_write_11 : decode cX6_write 11 = .ok (.sipush 324, 3) := by decide +kernel
theorem dX6_write_14 : decode cX6_write 14 = .ok (.if_icmp .ge 23, 3) := by decide +kernel
theorem dX6_write_17 : decode cX6_write 17 = .ok (.aload_n 0, 1) := by decide +kernel
theorem dX6_write_18 : decode cX6_write 18 = .ok (.getfield 11, 3) := by decide +kernel
theorem dX6_write_21 : decode cX6_write 21 = .ok (.aload_n 0, 1) := by decide +kernel
theorem dX6_write_22 : decode cX6_write 22 = .ok (.getfield 15, 3) := by decide +kernel
theorem dX6_write_25 : decode cX6_write 25 = .ok (.iload_n 1, 1) := by decide +kernel
theorem dX6_write_26 : decode cX6_write 26 = .ok (.iastore, 1) := by decide +kernel
theorem dX6_write_27 : decode cX6_write 27 = .ok (.aload_n 0, 1) := by decide +kernel
theorem dX6_write_28 : decode cX6_write 28 = .ok (.dup, 1) := by decide +kernel
theorem dX6_write_29 : decode cX6_write 29 = .ok (.getfield 15, 3) := by decide +kernel
theorem dX6_write_32 : decode cX6_write 32 = .ok (.iconst 1, 1) := by decide +kernel
theorem dX6_write_33 : decode cX6_write 33 = .ok (.iadd, 1) := by decide +kernel
theorem dX6_write_34 : decode cX6_write 34 = .ok (.putfield 15, 3) := by decide +kernel
theorem dX6_write_37 : decode cX6_write 37 = .ok (.return_, 1) := by decide +kernel
theorem dX7_init_0 : decode cX7_init 0 = .ok (.aload_n 0, 1) := by decide +kernel
theorem dX7_init_1 : decode cX7_init 1 = .ok (.invokespecial 3, 3) := by decide +kernel
theorem dX7_init_4 : decode cX7_init 4 = .ok (.aload_n 0, 1) := by decide +kernel
theorem dX7_init_5 : decode cX7_init 5 = .ok (.sipush 2800, 3) := by decide +kernel
theorem dX7_init_8 : decode cX7_init 8 = .ok (.newarray .int, 2) := by decide +kernel
theorem dX7_init_10 : decode cX7_init 10 = .ok (.putfield 11, 3) := by decide +kernel
theorem dX7_init_13 : decode cX7_init 13 = .ok (.aload_n 0, 1) := by decide +kernel
theorem dX7_init_14 : decode cX7_init 14 = .ok (.sipush 11200, 3) := by decide +kernel
theorem dX7_init_17 : decode cX7_init 17 = .ok (.newarray .int, 2) := by decide +kernel
theorem dX7_init_19 : decode cX7_init 19 = .ok (.putfield 15, 3) := by decide +kernel
theorem dX7_init_22 : decode cX7_init 22 = .ok (.aload_n 0, 1) := by decide +kernel
theorem dX7_init_23 : decode cX7_init 23 = .ok (.sipush 11200, 3) := by decide +kernel
theorem dX7_init_26 : decode cX7_init 26 = .ok (.newarray .int, 2) := by decide +kernel
theorem dX7_init_28 : decode cX7_init 28 = .ok (.putfield 18, 3) := by decide +kernel
theorem dX7_init_31 : decode cX7_init 31 = .ok (.return_, 1) := by decide +kernel
theorem dX7_clear_0 : decode cX7_clear 0 = .ok (.aload_n 0, 1) := by decide +kernel
theorem dX7_clear_1 : decode cX7_clear 1 = .ok (.iconst 0, 1) := by decide +kernel
theorem dX7_clear_2 : decode cX7_clear 2 = .ok (.putfield 21, 3) := by decide +kernel
theorem dX7_clear_5 : decode cX7_clear 5 = .ok (.aload_n 0, 1) := by decide +kernel
theorem dX7_clear_6 : decode cX7_clear 6 = .ok (.iload_n 1, 1) := by decide +kernel
theorem dX7_clear_7 : decode cX7_clear 7 = .ok (.putfield 25, 3) := by decide +kernel
theorem dX7_clear_10 : decode cX7_clear 10 = .ok (.return_, 1) := by decide +kernel
theorem dX7_start_0 : decode cX7_start 0 = .ok (.aload_n 0, 1) := by decide +kernel
theorem dX7_start_1 : decode cX7_start 1 = .ok (.getfield 21, 3) := by decide +kernel
theorem dX7_start_4 : decode cX7_start 4 = .ok (.ifCond .lt 38, 3) := by decide +kernel
theorem dX7_start_7 : decode cX7_start 7 = .ok (.aload_n 0, 1) := by decide +kernel
theorem dX7_start_8 : decode cX7_start 8 = .ok (.getfield 21, 3) := by decide +kernel
theorem dX7_start_11 : decode cX7_start 11 = .ok (.sipush 2800, 3) := by decide +kernel
theorem dX7_start_14 : decode cX7_start 14 = .ok (.if_icmp .ge 28, 3) := by decide +kernel
theorem dX7_start_17 : decode cX7_start 17 = .ok (.aload_n 0, 1) := by decide +kernel
theorem dX7_start_18 : decode cX7_start 18 = .ok (.getfield 11, 3) := by decide +kernel
theorem dX7_start_21 : decode cX7_start 21 = .ok (.aload_n 0, 1) := by decide +kernel
theorem dX7_start_22 : decode cX7_start 22 = .ok (.getfield 21, 3) := by decide +kernel
theorem dX7_start_25 : decode cX7_start 25 = .ok (.iload_n 1, 1) := by decide +kernel
theorem dX7_start_26 : decode cX7_start 26 = .ok (.iastore, 1) := by decide +kernel
theorem dX7_start_27 : decode cX7_start 27 = .ok (.aload_n 0, 1) := by decide +kernel
theorem dX7_start_28 : decode cX7_start 28 = .ok (.dup, 1) := by decide +kernel
theorem dX7_start_29 : decode cX7_start 29 = .ok (.getfield 21, 3) := by decide +kernel
theorem dX7_start_32 : decode cX7_start 32 = .ok (.iconst 1, 1) := by decide +kernel
theorem dX7_start_33 : decode cX7_start 33 = .ok (.iadd, 1) := by decide +kernel
theorem dX7_start_34 : decode cX7_start 34 = .ok (.putfield 21, 3) := by decide +kernel
theorem dX7_start_37 : decode cX7_start 37 = .ok (.aload_n 0, 1) := by decide +kernel
theorem dX7_start_38 : decode cX7_start 38 = .ok (.iconst 0, 1) := by decide +kernel
theorem dX7_start_39 : decode cX7_start 39 = .ok (.putfield 28, 3) := by decide +kernel
theorem dX7_start_42 : decode cX7_start 42 = .ok (.return_, 1) := by decide +kernel
theorem dX7_addCorner_0 : decode cX7_addCorner 0 = .ok (.iconst 4, 1) := by decide +kernel
theorem dX7_addCorner_1 : decode cX7_addCorner 1 = .ok (.aload_n 0, 1) := by decide +kernel
theorem dX7_addCorner_2 : decode cX7_addCorner 2 = .ok (.getfield 21, 3) := by decide +kernel
theorem dX7_addCorner_5 : decode cX7_addCorner 5 = .ok (.iconst 1, 1) := by decide +kernel
theorem dX7_addCorner_6 : decode cX7_addCorner 6 = .ok (.isub, 1) := by decide +kernel
theorem dX7_addCorner_7 : decode cX7_addCorner 7 = .ok (.imul, 1) := by decide +kernel
theorem dX7_addCorner_8 : decode cX7_addCorner 8 = .ok (.aload_n 0, 1) := by decide +kernel
theorem dX7_addCorner_9 : decode cX7_addCorner 9 = .ok (.getfield 28, 3) := by decide +kernel
theorem dX7_addCorner_12 : decode cX7_addCorner 12 = .ok (.iadd, 1) := by decide +kernel
theorem dX7_addCorner_13 : decode cX7_addCorner 13 = .ok (.istore_n 3, 1) := by decide +kernel
theorem dX7_addCorner_14 : decode cX7_addCorner 14 = .ok (.aload_n 0, 1) := by decide +kernel
theorem dX7_addCorner_15 : decode cX7_addCorner 15 = .ok (.getfield 28, 3) := by decide +kernel
theorem dX7_addCorner_18 : decode cX7_addCorner 18 = .ok (.iconst 4, 1) := by decide +kernel
theorem dX7_addCorner_19 : decode cX7_addCorner 19 = .ok (.if_icmp .ge 38, 3) := by decide +kernel
theorem dX7_addCorner_22 : decode cX7_addCorner 22 = .ok (.iload_n 3, 1) := by decide +kernel
theorem dX7_addCorner_23 : decode cX7_addCorner 23 = .ok (.ifCond .lt 34, 3) := by decide +kernel
theorem dX7_addCorner_26 : decode cX7_addCorner 26 = .ok (.iload_n 3, 1) := by decide +kernel
theorem dX7_addCorner_27 : decode cX7_addCorner 27 = .ok (.sipush 11200, 3) := by decide +kernel
theorem dX7_addCorner_30 : decode cX7_addCorner 30 = .ok (.if_icmp .ge 27, 3) := by decide +kernel
theorem dX7_addCorner_33 : decode cX7_addCorner 33 = .ok (.aload_n 0, 1) := by decide +kernel
theorem dX7_addCorner_34 : decode cX7_addCorner 34 = .ok (.getfield 15, 3) := by decide +kernel
theorem dX7_addCorner_37 : decode cX7_addCorner 37 = .ok (.iload_n 3, 1) := by decide +kernel
theorem dX7_addCorner_38 : decode cX7_addCorner 38 = .ok (.iload_n 1, 1) := by decide +kernel
theorem dX7_addCorner_39 : decode cX7_addCorner 39 = .ok (.iastore, 1) := by decide +kernel
theorem dX7_addCorner_40 : decode cX7_addCorner 40 = .ok (.aload_n 0, 1) := by decide +kernel
theorem dX7_addCorner_41 : decode cX7_addCorner 41 = .ok (.getfield 18, 3) := by decide +kernel
theorem dX7_addCorner_44 : decode cX7_addCorner 44 = .ok (.iload_n 3, 1) := by decide +kernel
theorem dX7_addCorner_45 : decode cX7_addCorner 45 = .ok (.iload_n 2, 1) := by decide +kernel
theorem dX7_addCorner_46 : decode cX7_addCorner 46 = .ok (.iastore, 1) := by decide +kernel
theorem dX7_addCorner_47 : decode cX7_addCorner 47 = .ok (.aload_n 0, 1) := by decide +kernel
theorem dX7_addCorner_48 : decode cX7_addCorner 48 = .ok (.dup, 1) := by decide +kernel
theorem dX7_addCorner_49 : decode cX7_addCorner 49 = .ok (.getfield 28, 3) := by decide +kernel
theorem dX7_addCorner_52 : decode cX7_addCorner 52 = .ok (.iconst 1, 1) := by decide +kernel
theorem dX7_addCorner_53 : decode cX7_addCorner 53 = .ok (.iadd, 1) := by decide +kernel
theorem dX7_addCorner_54 : decode cX7_addCorner 54 = .ok (.putfield 28, 3) := by decide +kernel
theorem dX7_addCorner_57 : decode cX7_addCorner 57 = .ok (.return_, 1) := by decide +kernel
theorem dX7_size_0 : decode cX7_size 0 = .ok (.aload_n 0, 1) := by decide +kernel
theorem dX7_size_1 : decode cX7_size 1 = .ok (.getfield 21, 3) := by decide +kernel
theorem dX7_size_4 : decode cX7_size 4 = .ok (.ireturn, 1) := by decide +kernel
theorem dX7_countOf_0 : decode cX7_countOf 0 = .ok (.iconst 0, 1) := by decide +kernel
theorem dX7_countOf_1 : decode cX7_countOf 1 = .ok (.istore_n 2, 1) := by decide +kernel
theorem dX7_countOf_2 : decode cX7_countOf 2 = .ok (.iconst 0, 1) := by decide +kernel
theorem dX7_countOf_3 : decode cX7_countOf 3 = .ok (.istore_n 3, 1) := by decide +kernel
theorem dX7_countOf_4 : decode cX7_countOf 4 = .ok (.iload_n 3, 1) := by decide +kernel
theorem dX7_countOf_5 : decode cX7_countOf 5 = .ok (.aload_n 0, 1) := by decide +kernel
theorem dX7_countOf_6 : decode cX7_countOf 6 = .ok (.getfield 21, 3) := by decide +kernel
theorem dX7_countOf_9 : decode cX7_countOf 9 = .ok (.if_icmp .ge 21, 3) := by decide +kernel
theorem dX7_countOf_12 : decode cX7_countOf 12 = .ok (.aload_n 0, 1) := by decide +kernel
theorem dX7_countOf_13 : decode cX7_countOf 13 = .ok (.iload_n 3, 1) := by decide +kernel
theorem dX7_countOf_14 : decode cX7_countOf 14 = .ok (.invokevirtual 31, 3) := by decide +kernel
theorem dX7_countOf_17 : decode cX7_countOf 17 = .ok (.iload_n 1, 1) := by decide +kernel
theorem dX7_countOf_18 : decode cX7_countOf 18 = .ok (.if_icmp .ne 6, 3) := by decide +kernel
theorem dX7_countOf_21 : decode cX7_countOf 21 = .ok (.iinc 2 1, 3) := by decide +kernel
theorem dX7_countOf_24 : decode cX7_countOf 24 = .ok (.iinc 3 1, 3) := by decide +kernel
theorem dX7_countOf_27 : decode cX7_countOf 27 = .ok (.goto (-23), 3) := by decide +kernel
theorem dX7_countOf_30 : decode cX7_countOf 30 = .ok (.iload_n 2, 1) := by decide +kernel
theorem dX7_countOf_31 : decode cX7_countOf 31 = .ok (.ireturn, 1) := by decide +kernel
theorem dX7_kindOf_0 : decode cX7_kindOf 0 = .ok (.aload_n 0, 1) := by decide +kernel
theorem dX7_kindOf_1 : decode cX7_kindOf 1 = .ok (.getfield 11, 3) := by decide +kernel
theorem dX7_kindOf_4 : decode cX7_kindOf 4 = .ok (.iload_n 1, 1) := by decide +kernel
theorem dX7_kindOf_5 : decode cX7_kindOf 5 = .ok (.invokestatic 35, 3) := by decide +kernel
theorem dX7_kindOf_8 : decode cX7_kindOf 8 = .ok (.ireturn, 1) := by decide +kernel
theorem dX7_cornerCount_0 : decode cX7_cornerCount 0 = .ok (.aload_n 0, 1) := by decide +kernel
theorem dX7_cornerCount_1 : decode cX7_cornerCount 1 = .ok (.getfield 11, 3) := by decide +kernel
theorem dX7_cornerCount_4 : decode cX7_cornerCount 4 = .ok (.iload_n 1, 1) := by decide +kernel
theorem dX7_cornerCount_5 : decode cX7_cornerCount 5 = .ok (.invokestatic 35, 3) := by decide +kernel
theorem dX7_cornerCount_8 : decode cX7_cornerCount 8 = .ok (.lookupswitch 32 #[(2, 30), (3, 28)], 28) := by decide +kernel
theorem dX7_cornerCount_36 : decode cX7_cornerCount 36 = .ok (.iconst 1, 1) := by decide +kernel
theorem dX7_cornerCount_37 : decode cX7_cornerCount 37 = .ok (.ireturn, 1) := by decide +kernel
theorem dX7_cornerCount_38 : decode cX7_cornerCount 38 = .ok (.iconst 3, 1) := by decide +kernel
theorem dX7_cornerCount_39 : decode cX7_cornerCount 39 = .ok (.ireturn, 1) := by decide +kernel
theorem dX7_cornerCount_40 : decode cX7_cornerCount 40 = .ok (.iconst 4, 1) := by decide +kernel
theorem dX7_cornerCount_41 : decode cX7_cornerCount 41 = .ok (.ireturn, 1) := by decide +kernel
theorem dX7_cornerX_0 : decode cX7_cornerX 0 = .ok (.aload_n 0, 1) := by decide +kernel
theorem dX7_cornerX_1 : decode cX7_cornerX 1 = .ok (.getfield 15, 3) := by decide +kernel
theorem dX7_cornerX_4 : decode cX7_cornerX 4 = .ok (.iconst 4, 1) := by decide +kernel
theorem dX7_cornerX_5 : decode cX7_cornerX 5 = .ok (.iload_n 1, 1) := by decide +kernel
theorem dX7_cornerX_6 : decode cX7_cornerX 6 = .ok (.imul, 1) := by decide +kernel
theorem dX7_cornerX_7 : decode cX7_cornerX 7 = .ok (.iload_n 2, 1) := by decide +kernel
theorem dX7_cornerX_8 : decode cX7_cornerX 8 = .ok (.iadd, 1) := by decide +kernel
theorem dX7_cornerX_9 : decode cX7_cornerX 9 = .ok (.invokestatic 35, 3) := by decide +kernel
theorem dX7_cornerX_12 : decode cX7_cornerX 12 = .ok (.ireturn, 1) := by decide +kernel
theorem dX7_cornerY_0 : decode cX7_cornerY 0 = .ok (.aload_n 0, 1) := by decide +kernel
theorem dX7_cornerY_1 : decode cX7_cornerY 1 = .ok (.getfield 18, 3) := by decide +kernel
theorem dX7_cornerY_4 : decode cX7_cornerY 4 = .ok (.iconst 4, 1) := by decide +kernel
theorem dX7_cornerY_5 : decode cX7_cornerY 5 = .ok (.iload_n 1, 1) := by decide +kernel
theorem dX7_cornerY_6 : decode cX7_cornerY 6 = .ok (.imul, 1) := by decide +kernel
theorem dX7_cornerY_7 : decode cX7_cornerY 7 = .ok (.iload_n 2, 1) := by decide +kernel
theorem dX7_cornerY_8 : decode cX7_cornerY 8 = .ok (.iadd, 1) := by decide +kernel
theorem dX7_cornerY_9 : decode cX7_cornerY 9 = .ok (.invokestatic 35, 3) := by decide +kernel
theorem dX7_cornerY_12 : decode cX7_cornerY 12 = .ok (.ireturn, 1) := by decide +kernel
theorem dX7_doubleArea_0 : decode cX7_doubleArea 0 = .ok (.lconst 0, 1) := by decide +kernel
theorem dX7_doubleArea_1 : decode cX7_doubleArea 1 = .ok (.lstore_n 2, 1) := by decide +kernel
theorem dX7_doubleArea_2 : decode cX7_doubleArea 2 = .ok (.aload_n 0, 1) := by decide +kernel
theorem dX7_doubleArea_3 : decode cX7_doubleArea 3 = .ok (.iload_n 1, 1) := by decide +kernel
theorem dX7_doubleArea_4 : decode cX7_doubleArea 4 = .ok (.invokevirtual 41, 3) := by decide +kernel
theorem dX7_doubleArea_7 : decode cX7_doubleArea 7 = .ok (.istore 4, 2) := by decide +kernel
theorem dX7_doubleArea_9 : decode cX7_doubleArea 9 = .ok (.iconst 0, 1) := by decide +kernel
theorem dX7_doubleArea_10 : decode cX7_doubleArea 10 = .ok (.istore 5, 2) := by decide +kernel
theorem dX7_doubleArea_12 : decode cX7_doubleArea 12 = .ok (.iload 5, 2) := by decide +kernel
theorem dX7_doubleArea_14 : decode cX7_doubleArea 14 = .ok (.iload 4, 2) := by decide +kernel
theorem dX7_doubleArea_16 : decode cX7_doubleArea 16 = .ok (.if_icmp .ge 68, 3) := by decide +kernel
theorem dX7_doubleArea_19 : decode cX7_doubleArea 19 = .ok (.iload 5, 2) := by decide +kernel
theorem dX7_doubleArea_21 : decode cX7_doubleArea 21 = .ok (.iconst 1, 1) := by decide +kernel
theorem dX7_doubleArea_22 : decode cX7_doubleArea 22 = .ok (.iadd, 1) := by decide +kernel
theorem dX7_doubleArea_23 : decode cX7_doubleArea 23 = .ok (.iload 4, 2) := by decide +kernel
theorem dX7_doubleArea_25 : decode cX7_doubleArea 25 = .ok (.if_icmp .ge 10, 3) := by decide +kernel
theorem dX7_doubleArea_28 : decode cX7_doubleArea 28 = .ok (.iload 5, 2) := by decide +kernel
theorem dX7_doubleArea_30 : decode cX7_doubleArea 30 = .ok (.iconst 1, 1) := by decide +kernel
theorem dX7_doubleArea_31 : decode cX7_doubleArea 31 = .ok (.iadd, 1) := by decide +kernel
theorem dX7_doubleArea_32 : decode cX7_doubleArea 32 = .ok (.goto 4, 3) := by decide +kernel
theorem dX7_doubleArea_35 : decode cX7_doubleArea 35 = .ok (.iconst 0, 1) := by decide +kernel
theorem dX7_doubleArea_36 : decode cX7_doubleArea 36 = .ok (.istore 6, 2) := by decide +kernel
theorem dX7_doubleArea_38 : decode cX7_doubleArea 38 = .ok (.lload_n 2, 1) := by decide +kernel
theorem dX7_doubleArea_39 : decode cX7_doubleArea 39 = .ok (.aload_n 0, 1) := by decide +kernel
theorem dX7_doubleArea_40 : decode cX7_doubleArea 40 = .ok (.iload_n 1, 1) := by decide +kernel
theorem dX7_doubleArea_41 : decode cX7_doubleArea 41 = .ok (.iload 5, 2) := by decide +kernel
theorem dX7_doubleArea_43 : decode cX7_doubleArea 43 = .ok (.invokevirtual 44, 3) := by decide +kernel
theorem dX7_doubleArea_46 : decode cX7_doubleArea 46 = .ok (.i2l, 1) := by decide +kernel
theorem dX7_doubleArea_47 : decode cX7_doubleArea 47 = .ok (.aload_n 0, 1) := by decide +kernel
theorem dX7_doubleArea_48 : decode cX7_doubleArea 48 = .ok (.iload_n 1, 1) := by decide +kernel
theorem dX7_doubleArea_49 : decode cX7_doubleArea 49 = .ok (.iload 6, 2) := by decide +kernel
theorem dX7_doubleArea_51 : decode cX7_doubleArea 51 = .ok (.invokevirtual 47, 3) := by decide +kernel
theorem dX7_doubleArea_54 : decode cX7_doubleArea 54 = .ok (.i2l, 1) := by decide +kernel
theorem dX7_doubleArea_55 : decode cX7_doubleArea 55 = .ok (.lmul, 1) := by decide +kernel
theorem dX7_doubleArea_56 : decode cX7_doubleArea 56 = .ok (.ladd, 1) := by decide +kernel
theorem dX7_doubleArea_57 : decode cX7_doubleArea 57 = .ok (.lstore_n 2, 1) := by decide +kernel
theorem dX7_doubleArea_58 : decode cX7_doubleArea 58 = .ok (.lload_n 2, 1) := by decide +kernel
theorem dX7_doubleArea_59 : decode cX7_doubleArea 59 = .ok (.aload_n 0, 1) := by decide +kernel
theorem dX7_doubleArea_60 : decode cX7_doubleArea 60 = .ok (.iload_n 1, 1) := by decide +kernel
theorem dX7_doubleArea_61 : decode cX7_doubleArea 61 = .ok (.iload 6, 2) := by decide +kernel
theorem dX7_doubleArea_63 : decode cX7_doubleArea 63 = .ok (.invokevirtual 44, 3) := by decide +kernel
theorem dX7_doubleArea_66 : decode cX7_doubleArea 66 = .ok (.i2l, 1) := by decide +kernel
theorem dX7_doubleArea_67 : decode cX7_doubleArea 67 = .ok (.aload_n 0, 1) := by decide +kernel
theorem dX7_doubleArea_68 : decode cX7_doubleArea 68 = .ok (.iload_n 1, 1) := by decide +kernel
theorem dX7_doubleArea_69 : decode cX7_doubleArea 69 = .ok (.iload 5, 2) := by decide +kernel
theorem dX7_doubleArea_71 : decode cX7_doubleArea 71 = .ok (.invokevirtual 47, 3) := by decide +kernel
theorem dX7_doubleArea_74 : decode cX7_doubleArea 74 = .ok (.i2l, 1) := by decide +kernel
theorem dX7_doubleArea_75 : decode cX7_doubleArea 75 = .ok (.lmul, 1) := by decide +kernel
theorem dX7_doubleArea_76 : decode cX7_doubleArea 76 = .ok (.lsub, 1) := by decide +kernel
theorem dX7_doubleArea_77 : decode cX7_doubleArea 77 = .ok (.lstore_n 2, 1) := by decide +kernel
theorem dX7_doubleArea_78 : decode cX7_doubleArea 78 = .ok (.iinc 5 1, 3) := by decide +kernel
theorem dX7_doubleArea_81 : decode cX7_doubleArea 81 = .ok (.goto (-69), 3) := by decide +kernel
theorem dX7_doubleArea_84 : decode cX7_doubleArea 84 = .ok (.lload_n 2, 1) := by decide +kernel
theorem dX7_doubleArea_85 : decode cX7_doubleArea 85 = .ok (.invokestatic 49, 3) := by decide +kernel
theorem dX7_doubleArea_88 : decode cX7_doubleArea 88 = .ok (.lreturn, 1) := by decide +kernel
theorem dX7_edgeOf_0 : decode cX7_edgeOf 0 = .ok (.iload_n 2, 1) := by decide +kernel
theorem dX7_edgeOf_1 : decode cX7_edgeOf 1 = .ok (.iconst 1, 1) := by decide +kernel
theorem dX7_edgeOf_2 : decode cX7_edgeOf 2 = .ok (.iand, 1) := by decide +kernel
theorem dX7_edgeOf_3 : decode cX7_edgeOf 3 = .ok (.iconst 1, 1) := by decide +kernel
theorem dX7_edgeOf_4 : decode cX7_edgeOf 4 = .ok (.if_icmp .ne 7, 3) := by decide +kernel
theorem dX7_edgeOf_7 : decode cX7_edgeOf 7 = .ok (.iconst 1, 1) := by decide +kernel
theorem dX7_edgeOf_8 : decode cX7_edgeOf 8 = .ok (.goto 4, 3) := by decide +kernel
theorem dX7_edgeOf_11 : decode cX7_edgeOf 11 = .ok (.iconst 0, 1) := by decide +kernel
theorem dX7_edgeOf_12 : decode cX7_edgeOf 12 = .ok (.istore_n 3, 1) := by decide +kernel
theorem dX7_edgeOf_13 : decode cX7_edgeOf 13 = .ok (.iconst 0, 1) := by decide +kernel
theorem dX7_edgeOf_14 : decode cX7_edgeOf 14 = .ok (.istore 4, 2) := by decide +kernel
theorem dX7_edgeOf_16 : decode cX7_edgeOf 16 = .ok (.iconst 0, 1) := by decide +kernel
theorem dX7_edgeOf_17 : decode cX7_edgeOf 17 = .ok (.istore 5, 2) := by decide +kernel
theorem dX7_edgeOf_19 : decode cX7_edgeOf 19 = .ok (.iload 5, 2) := by decide +kernel
theorem dX7_edgeOf_21 : decode cX7_edgeOf 21 = .ok (.aload_n 0, 1) := by decide +kernel
theorem dX7_edgeOf_22 : decode cX7_edgeOf 22 = .ok (.iload_n 1, 1) := by decide +kernel
theorem dX7_edgeOf_23 : decode cX7_edgeOf 23 = .ok (.invokevirtual 41, 3) := by decide +kernel
theorem dX7_edgeOf_26 : decode cX7_edgeOf 26 = .ok (.if_icmp .ge 63, 3) := by decide +kernel
theorem dX7_edgeOf_29 : decode cX7_edgeOf 29 = .ok (.iload_n 2, 1) := by decide +kernel
theorem dX7_edgeOf_30 : decode cX7_edgeOf 30 = .ok (.iconst 2, 1) := by decide +kernel
theorem dX7_edgeOf_31 : decode cX7_edgeOf 31 = .ok (.if_icmp .lt 13, 3) := by decide +kernel
theorem dX7_edgeOf_34 : decode cX7_edgeOf 34 = .ok (.aload_n 0, 1) := by decide +kernel
theorem dX7_edgeOf_35 : decode cX7_edgeOf 35 = .ok (.iload_n 1, 1) := by decide +kernel
theorem dX7_edgeOf_36 : decode cX7_edgeOf 36 = .ok (.iload 5, 2) := by decide +kernel
theorem dX7_edgeOf_38 : decode cX7_edgeOf 38 = .ok (.invokevirtual 47, 3) := by decide +kernel
theorem dX7_edgeOf_41 : decode cX7_edgeOf 41 = .ok (.goto 10, 3) := by decide +kernel
