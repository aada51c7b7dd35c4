theorem dX0_init_0 : decode cX0_init 0 = .ok (.aload_n 0, 1) := by decide +kernel
theorem dX0_init_1 : decode cX0_init 1 = .ok (.invokespecial 3, 3) := by decide +kernel
theorem dX0_init_4 : decode cX0_init 4 = .ok (.aload_n 0, 1) := by decide +kernel
theorem dX0_init_5 : decode cX0_init 5 = .ok (.sipush 378, 3) := by decide +kernel
theorem dX0_init_8 : decode cX0_init 8 = .ok (.newarray .int, 2) := by decide +kernel
theorem dX0_init_10 : decode cX0_init 10 = .ok (.putfield 9, 3) := by decide +kernel
theorem dX0_init_13 : decode cX0_init 13 = .ok (.iconst 0, 1) := by decide +kernel
theorem dX0_init_14 : decode cX0_init 14 = .ok (.istore_n 1, 1) := by decide +kernel
theorem dX0_init_15 : decode cX0_init 15 = .ok (.iload_n 1, 1) := by decide +kernel
theorem dX0_init_16 : decode cX0_init 16 = .ok (.bipush 63, 2) := by decide +kernel
theorem dX0_init_18 : decode cX0_init 18 = .ok (.if_icmp .ge 39, 3) := by decide +kernel
theorem dX0_init_21 : decode cX0_init 21 = .ok (.iconst 0, 1) := by decide +kernel
theorem dX0_init_22 : decode cX0_init 22 = .ok (.istore_n 2, 1) := by decide +kernel
theorem dX0_init_23 : decode cX0_init 23 = .ok (.iload_n 2, 1) := by decide +kernel
theorem dX0_init_24 : decode cX0_init 24 = .ok (.bipush 6, 2) := by decide +kernel
theorem dX0_init_26 : decode cX0_init 26 = .ok (.if_icmp .ge 25, 3) := by decide +kernel
theorem dX0_init_29 : decode cX0_init 29 = .ok (.aload_n 0, 1) := by decide +kernel
theorem dX0_init_30 : decode cX0_init 30 = .ok (.getfield 9, 3) := by decide +kernel
theorem dX0_init_33 : decode cX0_init 33 = .ok (.iload_n 1, 1) := by decide +kernel
theorem dX0_init_34 : decode cX0_init 34 = .ok (.bipush 6, 2) := by decide +kernel
theorem dX0_init_36 : decode cX0_init 36 = .ok (.imul, 1) := by decide +kernel
theorem dX0_init_37 : decode cX0_init 37 = .ok (.iload_n 2, 1) := by decide +kernel
theorem dX0_init_38 : decode cX0_init 38 = .ok (.iadd, 1) := by decide +kernel
theorem dX0_init_39 : decode cX0_init 39 = .ok (.iload_n 1, 1) := by decide +kernel
theorem dX0_init_40 : decode cX0_init 40 = .ok (.iload_n 2, 1) := by decide +kernel
theorem dX0_init_41 : decode cX0_init 41 = .ok (.invokestatic 13, 3) := by decide +kernel
theorem dX0_init_44 : decode cX0_init 44 = .ok (.iastore, 1) := by decide +kernel
theorem dX0_init_45 : decode cX0_init 45 = .ok (.iinc 2 1, 3) := by decide +kernel
theorem dX0_init_48 : decode cX0_init 48 = .ok (.goto (-25), 3) := by decide +kernel
theorem dX0_init_51 : decode cX0_init 51 = .ok (.iinc 1 1, 3) := by decide +kernel
theorem dX0_init_54 : decode cX0_init 54 = .ok (.goto (-39), 3) := by decide +kernel
theorem dX0_init_57 : decode cX0_init 57 = .ok (.return_, 1) := by decide +kernel
theorem dX0_isHex_0 : decode cX0_isHex 0 = .ok (.iload_n 0, 1) := by decide +kernel
theorem dX0_isHex_1 : decode cX0_isHex 1 = .ok (.ifCond .lt 13, 3) := by decide +kernel
theorem dX0_isHex_4 : decode cX0_isHex 4 = .ok (.iload_n 0, 1) := by decide +kernel
theorem dX0_isHex_5 : decode cX0_isHex 5 = .ok (.bipush 63, 2) := by decide +kernel
theorem dX0_isHex_7 : decode cX0_isHex 7 = .ok (.if_icmp .ge 7, 3) := by decide +kernel
theorem dX0_isHex_10 : decode cX0_isHex 10 = .ok (.iconst 1, 1) := by decide +kernel
theorem dX0_isHex_11 : decode cX0_isHex 11 = .ok (.goto 4, 3) := by decide +kernel
theorem dX0_isHex_14 : decode cX0_isHex 14 = .ok (.iconst 0, 1) := by decide +kernel
theorem dX0_isHex_15 : decode cX0_isHex 15 = .ok (.ireturn, 1) := by decide +kernel
theorem dX0_isDirection_0 : decode cX0_isDirection 0 = .ok (.iload_n 0, 1) := by decide +kernel
theorem dX0_isDirection_1 : decode cX0_isDirection 1 = .ok (.ifCond .lt 13, 3) := by decide +kernel
theorem dX0_isDirection_4 : decode cX0_isDirection 4 = .ok (.iload_n 0, 1) := by decide +kernel
theorem dX0_isDirection_5 : decode cX0_isDirection 5 = .ok (.bipush 6, 2) := by decide +kernel
theorem dX0_isDirection_7 : decode cX0_isDirection 7 = .ok (.if_icmp .ge 7, 3) := by decide +kernel
theorem dX0_isDirection_10 : decode cX0_isDirection 10 = .ok (.iconst 1, 1) := by decide +kernel
theorem dX0_isDirection_11 : decode cX0_isDirection 11 = .ok (.goto 4, 3) := by decide +kernel
theorem dX0_isDirection_14 : decode cX0_isDirection 14 = .ok (.iconst 0, 1) := by decide +kernel
theorem dX0_isDirection_15 : decode cX0_isDirection 15 = .ok (.ireturn, 1) := by decide +kernel
theorem dX0_opposite_0 : decode cX0_opposite 0 = .ok (.iload_n 0, 1) := by decide +kernel
theorem dX0_opposite_1 : decode cX0_opposite 1 = .ok (.iconst 3, 1) := by decide +kernel
theorem dX0_opposite_2 : decode cX0_opposite 2 = .ok (.iadd, 1) := by decide +kernel
theorem dX0_opposite_3 : decode cX0_opposite 3 = .ok (.bipush 6, 2) := by decide +kernel
theorem dX0_opposite_5 : decode cX0_opposite 5 = .ok (.irem, 1) := by decide +kernel
theorem dX0_opposite_6 : decode cX0_opposite 6 = .ok (.ireturn, 1) := by decide +kernel
theorem dX0_stepFrom_0 : decode cX0_stepFrom 0 = .ok (.iload_n 0, 1) := by decide +kernel
theorem dX0_stepFrom_1 : decode cX0_stepFrom 1 = .ok (.bipush 9, 2) := by decide +kernel
theorem dX0_stepFrom_3 : decode cX0_stepFrom 3 = .ok (.idiv, 1) := by decide +kernel
theorem dX0_stepFrom_4 : decode cX0_stepFrom 4 = .ok (.istore_n 2, 1) := by decide +kernel
theorem dX0_stepFrom_5 : decode cX0_stepFrom 5 = .ok (.iload_n 2, 1) := by decide +kernel
theorem dX0_stepFrom_6 : decode cX0_stepFrom 6 = .ok (.iconst 2, 1) := by decide +kernel
theorem dX0_stepFrom_7 : decode cX0_stepFrom 7 = .ok (.irem, 1) := by decide +kernel
theorem dX0_stepFrom_8 : decode cX0_stepFrom 8 = .ok (.ifCond .ne 9, 3) := by decide +kernel
theorem dX0_stepFrom_11 : decode cX0_stepFrom 11 = .ok (.getstatic 17, 3) := by decide +kernel
theorem dX0_stepFrom_14 : decode cX0_stepFrom 14 = .ok (.goto 6, 3) := by decide +kernel
theorem dX0_stepFrom_17 : decode cX0_stepFrom 17 = .ok (.getstatic 20, 3) := by decide +kernel
theorem dX0_stepFrom_20 : decode cX0_stepFrom 20 = .ok (.astore_n 3, 1) := by decide +kernel
theorem dX0_stepFrom_21 : decode cX0_stepFrom 21 = .ok (.iload_n 2, 1) := by decide +kernel
theorem dX0_stepFrom_22 : decode cX0_stepFrom 22 = .ok (.getstatic 23, 3) := by decide +kernel
theorem dX0_stepFrom_25 : decode cX0_stepFrom 25 = .ok (.iload_n 1, 1) := by decide +kernel
theorem dX0_stepFrom_26 : decode cX0_stepFrom 26 = .ok (.iaload, 1) := by decide +kernel
theorem dX0_stepFrom_27 : decode cX0_stepFrom 27 = .ok (.iadd, 1) := by decide +kernel
theorem dX0_stepFrom_28 : decode cX0_stepFrom 28 = .ok (.istore 4, 2) := by decide +kernel
theorem dX0_stepFrom_30 : decode cX0_stepFrom 30 = .ok (.iload_n 0, 1) := by decide +kernel
theorem dX0_stepFrom_31 : decode cX0_stepFrom 31 = .ok (.bipush 9, 2) := by decide +kernel
theorem dX0_stepFrom_33 : decode cX0_stepFrom 33 = .ok (.irem, 1) := by decide +kernel
theorem dX0_stepFrom_34 : decode cX0_stepFrom 34 = .ok (.aload_n 3, 1) := by decide +kernel
theorem dX0_stepFrom_35 : decode cX0_stepFrom 35 = .ok (.iload_n 1, 1) := by decide +kernel
theorem dX0_stepFrom_36 : decode cX0_stepFrom 36 = .ok (.iaload, 1) := by decide +kernel
theorem dX0_stepFrom_37 : decode cX0_stepFrom 37 = .ok (.iadd, 1) := by decide +kernel
theorem dX0_stepFrom_38 : decode cX0_stepFrom 38 = .ok (.istore 5, 2) := by decide +kernel
theorem dX0_stepFrom_40 : decode cX0_stepFrom 40 = .ok (.iload 4, 2) := by decide +kernel
theorem dX0_stepFrom_42 : decode cX0_stepFrom 42 = .ok (.ifCond .lt 26, 3) := by decide +kernel
theorem dX0_stepFrom_45 : decode cX0_stepFrom 45 = .ok (.iload 4, 2) := by decide +kernel
theorem dX0_stepFrom_47 : decode cX0_stepFrom 47 = .ok (.bipush 7, 2) := by decide +kernel
theorem dX0_stepFrom_49 : decode cX0_stepFrom 49 = .ok (.if_icmp .ge 19, 3) := by decide +kernel
theorem dX0_stepFrom_52 : decode cX0_stepFrom 52 = .ok (.iload 5, 2) := by decide +kernel
theorem dX0_stepFrom_54 : decode cX0_stepFrom 54 = .ok (.ifCond .lt 14, 3) := by decide +kernel
theorem dX0_stepFrom_57 : decode cX0_stepFrom 57 = .ok (.iload 5, 2) := by decide +kernel
theorem dX0_stepFrom_59 : decode cX0_stepFrom 59 = .ok (.bipush 9, 2) := by decide +kernel
theorem dX0_stepFrom_61 : decode cX0_stepFrom 61 = .ok (.if_icmp .ge 7, 3) := by decide +kernel
theorem dX0_stepFrom_64 : decode cX0_stepFrom 64 = .ok (.iconst 1, 1) := by decide +kernel
theorem dX0_stepFrom_65 : decode cX0_stepFrom 65 = .ok (.goto 4, 3) := by decide +kernel
theorem dX0_stepFrom_68 : decode cX0_stepFrom 68 = .ok (.iconst 0, 1) := by decide +kernel
theorem dX0_stepFrom_69 : decode cX0_stepFrom 69 = .ok (.istore 6, 2) := by decide +kernel
theorem dX0_stepFrom_71 : decode cX0_stepFrom 71 = .ok (.iload 6, 2) := by decide +kernel
theorem dX0_stepFrom_73 : decode cX0_stepFrom 73 = .ok (.ifCond .eq 14, 3) := by decide +kernel
theorem dX0_stepFrom_76 : decode cX0_stepFrom 76 = .ok (.iload 4, 2) := by decide +kernel
theorem dX0_stepFrom_78 : decode cX0_stepFrom 78 = .ok (.bipush 9, 2) := by decide +kernel
theorem dX0_stepFrom_80 : decode cX0_stepFrom 80 = .ok (.imul, 1) := by decide +kernel
theorem dX0_stepFrom_81 : decode cX0_stepFrom 81 = .ok (.iload 5, 2) := by decide +kernel
theorem dX0_stepFrom_83 : decode cX0_stepFrom 83 = .ok (.iadd, 1) := by decide +kernel
theorem dX0_stepFrom_84 : decode cX0_stepFrom 84 = .ok (.goto 4, 3) := by decide +kernel
theorem dX0_stepFrom_87 : decode cX0_stepFrom 87 = .ok (.iconst (-1), 1) := by decide +kernel
theorem dX0_stepFrom_88 : decode cX0_stepFrom 88 = .ok (.ireturn, 1) := by decide +kernel
theorem dX0_stepsBetween_0 : decode cX0_stepsBetween 0 = .ok (.iload_n 1, 1) := by decide +kernel
theorem dX0_stepsBetween_1 : decode cX0_stepsBetween 1 = .ok (.bipush 9, 2) := by decide +kernel
theorem dX0_stepsBetween_3 : decode cX0_stepsBetween 3 = .ok (.idiv, 1) := by decide +kernel
theorem dX0_stepsBetween_4 : decode cX0_stepsBetween 4 = .ok (.iload_n 0, 1) := by decide +kernel
theorem dX0_stepsBetween_5 : decode cX0_stepsBetween 5 = .ok (.bipush 9, 2) := by decide +kernel
theorem dX0_stepsBetween_7 : decode cX0_stepsBetween 7 = .ok (.idiv, 1) := by decide +kernel
theorem dX0_stepsBetween_8 : decode cX0_stepsBetween 8 = .ok (.isub, 1) := by decide +kernel
theorem dX0_stepsBetween_9 : decode cX0_stepsBetween 9 = .ok (.istore_n 2, 1) := by decide +kernel
theorem dX0_stepsBetween_10 : decode cX0_stepsBetween 10 = .ok (.iload_n 1, 1) := by decide +kernel
theorem dX0_stepsBetween_11 : decode cX0_stepsBetween 11 = .ok (.invokestatic 26, 3) := by decide +kernel
theorem dX0_stepsBetween_14 : decode cX0_stepsBetween 14 = .ok (.iload_n 0, 1) := by decide +kernel
theorem dX0_stepsBetween_15 : decode cX0_stepsBetween 15 = .ok (.invokestatic 26, 3) := by decide +kernel
theorem dX0_stepsBetween_18 : decode cX0_stepsBetween 18 = .ok (.isub, 1) := by decide +kernel
theorem dX0_stepsBetween_19 : decode cX0_stepsBetween 19 = .ok (.istore_n 3, 1) := by decide +kernel
theorem dX0_stepsBetween_20 : decode cX0_stepsBetween 20 = .ok (.iload_n 2, 1) := by decide +kernel
theorem dX0_stepsBetween_21 : decode cX0_stepsBetween 21 = .ok (.invokestatic 30, 3) := by decide +kernel
theorem dX0_stepsBetween_24 : decode cX0_stepsBetween 24 = .ok (.iload_n 3, 1) := by decide +kernel
theorem dX0_stepsBetween_25 : decode cX0_stepsBetween 25 = .ok (.invokestatic 30, 3) := by decide +kernel
theorem dX0_stepsBetween_28 : decode cX0_stepsBetween 28 = .ok (.iload_n 2, 1) := by decide +kernel
theorem dX0_stepsBetween_29 : decode cX0_stepsBetween 29 = .ok (.iload_n 3, 1) := by decide +kernel
theorem dX0_stepsBetween_30 : decode cX0_stepsBetween 30 = .ok (.iadd, 1) := by decide +kernel
theorem dX0_stepsBetween_31 : decode cX0_stepsBetween 31 = .ok (.invokestatic 30, 3) := by decide +kernel
theorem dX0_stepsBetween_34 : decode cX0_stepsBetween 34 = .ok (.invokestatic 35, 3) := by decide +kernel
theorem dX0_stepsBetween_37 : decode cX0_stepsBetween 37 = .ok (.invokestatic 35, 3) := by decide +kernel
theorem dX0_stepsBetween_40 : decode cX0_stepsBetween 40 = .ok (.ireturn, 1) := by decide +kernel
theorem dX0_slantOf_0 : decode cX0_slantOf 0 = .ok (.iload_n 0, 1) := by decide +kernel
theorem dX0_slantOf_1 : decode cX0_slantOf 1 = .ok (.bipush 9, 2) := by decide +kernel
theorem dX0_slantOf_3 : decode cX0_slantOf 3 = .ok (.irem, 1) := by decide +kernel
theorem dX0_slantOf_4 : decode cX0_slantOf 4 = .ok (.iload_n 0, 1) := by decide +kernel
theorem dX0_slantOf_5 : decode cX0_slantOf 5 = .ok (.bipush 9, 2) := by decide +kernel
theorem dX0_slantOf_7 : decode cX0_slantOf 7 = .ok (.idiv, 1) := by decide +kernel
theorem dX0_slantOf_8 : decode cX0_slantOf 8 = .ok (.iconst 2, 1) := by decide +kernel
theorem dX0_slantOf_9 : decode cX0_slantOf 9 = .ok (.idiv, 1) := by decide +kernel
theorem dX0_slantOf_10 : decode cX0_slantOf 10 = .ok (.isub, 1) := by decide +kernel
theorem dX0_slantOf_11 : decode cX0_slantOf 11 = .ok (.ireturn, 1) := by decide +kernel
theorem dX0_neighbourCount_0 : decode cX0_neighbourCount 0 = .ok (.iconst 0, 1) := by decide +kernel
theorem dX0_neighbourCount_1 : decode cX0_neighbourCount 1 = .ok (.istore_n 2, 1) := by decide +kernel
theorem dX0_neighbourCount_2 : decode cX0_neighbourCount 2 = .ok (.iconst 0, 1) := by decide +kernel
theorem dX0_neighbourCount_3 : decode cX0_neighbourCount 3 = .ok (.istore_n 3, 1) := by decide +kernel
theorem dX0_neighbourCount_4 : decode cX0_neighbourCount 4 = .ok (.iload_n 3, 1) := by decide +kernel
theorem dX0_neighbourCount_5 : decode cX0_neighbourCount 5 = .ok (.bipush 6, 2) := by decide +kernel
theorem dX0_neighbourCount_7 : decode cX0_neighbourCount 7 = .ok (.if_icmp .ge 34, 3) := by decide +kernel
theorem dX0_neighbourCount_10 : decode cX0_neighbourCount 10 = .ok (.iload_n 2, 1) := by decide +kernel
theorem dX0_neighbourCount_11 : decode cX0_neighbourCount 11 = .ok (.aload_n 0, 1) := by decide +kernel
theorem dX0_neighbourCount_12 : decode cX0_neighbourCount 12 = .ok (.getfield 9, 3) := by decide +kernel
theorem dX0_neighbourCount_15 : decode cX0_neighbourCount 15 = .ok (.iload_n 1, 1) := by decide +kernel
theorem dX0_neighbourCount_16 : decode cX0_neighbourCount 16 = .ok (.bipush 6, 2) := by decide +kernel
theorem dX0_neighbourCount_18 : decode cX0_neighbourCount 18 = .ok (.imul, 1) := by decide +kernel
theorem dX0_neighbourCount_19 : decode cX0_neighbourCount 19 = .ok (.iload_n 3, 1) := by decide +kernel
theorem dX0_neighbourCount_20 : decode cX0_neighbourCount 20 = .ok (.iadd, 1) := by decide +kernel
theorem dX0_neighbourCount_21 : decode cX0_neighbourCount 21 = .ok (.iaload, 1) := by decide +kernel
theorem dX0_neighbourCount_22 : decode cX0_neighbourCount 22 = .ok (.invokestatic 38, 3) := by decide +kernel
theorem dX0_neighbourCount_25 : decode cX0_neighbourCount 25 = .ok (.ifCond .eq 7, 3) := by decide +kernel
theorem dX0_neighbourCount_28 : decode cX0_neighbourCount 28 = .ok (.iconst 1, 1) := by decide +kernel
theorem dX0_neighbourCount_29 : decode cX0_neighbourCount 29 = .ok (.goto 4, 3) := by decide +kernel
theorem dX0_neighbourCount_32 : decode cX0_neighbourCount 32 = .ok (.iconst 0, 1) := by decide +kernel
theorem dX0_neighbourCount_33 : decode cX0_neighbourCount 33 = .ok (.iadd, 1) := by decide +kernel
theorem dX0_neighbourCount_34 : decode cX0_neighbourCount 34 = .ok (.istore_n 2, 1) := by decide +kernel
theorem dX0_neighbourCount_35 : decode cX0_neighbourCount 35 = .ok (.iinc 3 1, 3) := by decide +kernel
theorem dX0_neighbourCount_38 : decode cX0_neighbourCount 38 = .ok (.goto (-34), 3) := by decide +kernel
theorem dX0_neighbourCount_41 : decode cX0_neighbourCount 41 = .ok (.iload_n 2, 1) := by decide +kernel
theorem dX0_neighbourCount_42 : decode cX0_neighbourCount 42 = .ok (.ireturn, 1) := by decide +kernel
theorem dX0_directionTo_0 : decode cX0_directionTo 0 = .ok (.iconst 0, 1) := by decide +kernel
theorem dX0_directionTo_1 : decode cX0_directionTo 1 = .ok (.istore_n 3, 1) := by decide +kernel
theorem dX0_directionTo_2 : decode cX0_directionTo 2 = .ok (.iload_n 3, 1) := by decide +kernel
theorem dX0_directionTo_3 : decode cX0_directionTo 3 = .ok (.bipush 6, 2) := by decide +kernel
theorem dX0_directionTo_5 : decode cX0_directionTo 5 = .ok (.if_icmp .ge 26, 3) := by decide +kernel
theorem dX0_directionTo_8 : decode cX0_directionTo 8 = .ok (.aload_n 0, 1) := by decide +kernel
theorem dX0_directionTo_9 : decode cX0_directionTo 9 = .ok (.getfield 9, 3) := by decide +kernel
theorem dX0_directionTo_12 : decode cX0_directionTo 12 = .ok (.iload_n 1, 1) := by decide +kernel
theorem dX0_directionTo_13 : decode cX0_directionTo 13 = .ok (.bipush 6, 2) := by decide +kernel
theorem dX0_directionTo_15 : decode cX0_directionTo 15 = .ok (.imul, 1) := by decide +kernel
theorem dX0_directionTo_16 : decode cX0_directionTo 16 = .ok (.iload_n 3, 1) := by decide +kernel
theorem dX0_directionTo_17 : decode cX0_directionTo 17 = .ok (.iadd, 1) := by decide +kernel
theorem dX0_directionTo_18 : decode cX0_directionTo 18 = .ok (.iaload, 1) := by decide +kernel
theorem dX0_directionTo_19 : decode cX0_directionTo 19 = .ok (.iload_n 2, 1) := by decide +kernel
theorem dX0_directionTo_20 : decode cX0_directionTo 20 = .ok (.if_icmp .ne 5, 3) := by decide +kernel
theorem dX0_directionTo_23 : decode cX0_directionTo 23 = .ok (.iload_n 3, 1) := by decide +kernel
theorem dX0_directionTo_24 : decode cX0_directionTo 24 = .ok (.ireturn, 1) := by decide +kernel
theorem dX0_directionTo_25 : decode cX0_directionTo 25 = .ok (.iinc 3 1, 3) := by decide +kernel
theorem dX0_directionTo_28 : decode cX0_directionTo 28 = .ok (.goto (-26), 3) := by decide +kernel
theorem dX0_directionTo_31 : decode cX0_directionTo 31 = .ok (.iconst (-1), 1) := by decide +kernel
theorem dX0_directionTo_32 : decode cX0_directionTo 32 = .ok (.ireturn, 1) := by decide +kernel
theorem dX1_init_0 : decode cX1_init 0 = .ok (.aload_n 0, 1) := by decide +kernel
theorem dX1_init_1 : decode cX1_init 1 = .ok (.invokespecial 1, 3) := by decide +kernel
theorem dX1_init_4 : decode cX1_init 4 = .ok (.aload_n 0, 1) := by decide +kernel
theorem dX1_init_5 : decode cX1_init 5 = .ok (.aload_n 1, 1) := by decide +kernel
theorem dX1_init_6 : decode cX1_init 6 = .ok (.putfield 7, 3) := by decide +kernel
theorem dX1_init_9 : decode cX1_init 9 = .ok (.aload_n 0, 1) := by decide +kernel
theorem dX1_init_10 : decode cX1_init 10 = .ok (.aload_n 2, 1) := by decide +kernel
theorem dX1_init_11 : decode cX1_init 11 = .ok (.putfield 13, 3) := by decide +kernel
theorem dX1_init_14 : decode cX1_init 14 = .ok (.return_, 1) := by decide +kernel
theorem dX1_weigh_0 : decode cX1_weigh 0 = .ok (.aload_n 0, 1) := by decide +kernel
theorem dX1_weigh_1 : decode cX1_weigh 1 = .ok (.getfield 13, 3) := by decide +kernel
theorem dX1_weigh_4 : decode cX1_weigh 4 = .ok (.aload_n 1, 1) := by decide +kernel
theorem dX1_weigh_5 : decode cX1_weigh 5 = .ok (.aload_n 1, 1) := by decide +kernel
theorem dX1_weigh_6 : decode cX1_weigh 6 = .ok (.getfield 17, 3) := by decide +kernel
theorem dX1_weigh_9 : decode cX1_weigh 9 = .ok (.iload_n 2, 1) := by decide +kernel
theorem dX1_weigh_10 : decode cX1_weigh 10 = .ok (.iaload, 1) := by decide +kernel
theorem dX1_weigh_11 : decode cX1_weigh 11 = .ok (.invokevirtual 23, 3) := by decide +kernel
theorem dX1_weigh_14 : decode cX1_weigh 14 = .ok (.aload_n 0, 1) := by decide +kernel
theorem dX1_weigh_15 : decode cX1_weigh 15 = .ok (.aload_n 0, 1) := by decide +kernel
theorem dX1_weigh_16 : decode cX1_weigh 16 = .ok (.aload_n 1, 1) := by decide +kernel
theorem dX1_weigh_17 : decode cX1_weigh 17 = .ok (.iload_n 2, 1) := by decide +kernel
theorem dX1_weigh_18 : decode cX1_weigh 18 = .ok (.aload_n 1, 1) := by decide +kernel
theorem dX1_weigh_19 : decode cX1_weigh 19 = .ok (.getfield 29, 3) := by decide +kernel
theorem dX1_weigh_22 : decode cX1_weigh 22 = .ok (.iload_n 3, 1) := by decide +kernel
theorem dX1_weigh_23 : decode cX1_weigh 23 = .ok (.iaload, 1) := by decide +kernel
theorem dX1_weigh_24 : decode cX1_weigh 24 = .ok (.invokevirtual 32, 3) := by decide +kernel
theorem dX1_weigh_27 : decode cX1_weigh 27 = .ok (.putfield 36, 3) := by decide +kernel
theorem dX1_weigh_30 : decode cX1_weigh 30 = .ok (.aload_n 0, 1) := by decide +kernel
theorem dX1_weigh_31 : decode cX1_weigh 31 = .ok (.getfield 13, 3) := by decide +kernel
theorem dX1_weigh_34 : decode cX1_weigh 34 = .ok (.aload_n 1, 1) := by decide +kernel
theorem dX1_weigh_35 : decode cX1_weigh 35 = .ok (.aload_n 1, 1) := by decide +kernel
theorem dX1_weigh_36 : decode cX1_weigh 36 = .ok (.getfield 17, 3) := by decide +kernel
theorem dX1_weigh_39 : decode cX1_weigh 39 = .ok (.iload_n 3, 1) := by decide +kernel
theorem dX1_weigh_40 : decode cX1_weigh 40 = .ok (.iaload, 1) := by decide +kernel
theorem dX1_weigh_41 : decode cX1_weigh 41 = .ok (.invokevirtual 23, 3) := by decide +kernel
theorem dX1_weigh_44 : decode cX1_weigh 44 = .ok (.aload_n 0, 1) := by decide +kernel
theorem dX1_weigh_45 : decode cX1_weigh 45 = .ok (.aload_n 0, 1) := by decide +kernel
theorem dX1_weigh_46 : decode cX1_weigh 46 = .ok (.aload_n 1, 1) := by decide +kernel
theorem dX1_weigh_47 : decode cX1_weigh 47 = .ok (.iload_n 3, 1) := by decide +kernel
theorem dX1_weigh_48 : decode cX1_weigh 48 = .ok (.invokevirtual 40, 3) := by decide +kernel
theorem dX1_weigh_51 : decode cX1_weigh 51 = .ok (.putfield 44, 3) := by decide +kernel
theorem dX1_weigh_54 : decode cX1_weigh 54 = .ok (.aload_n 0, 1) := by decide +kernel
theorem dX1_weigh_55 : decode cX1_weigh 55 = .ok (.aload_n 1, 1) := by decide +kernel
theorem dX1_weigh_56 : decode cX1_weigh 56 = .ok (.getfield 47, 3) := by decide +kernel
theorem dX1_weigh_59 : decode cX1_weigh 59 = .ok (.iload_n 2, 1) := by decide +kernel
theorem dX1_weigh_60 : decode cX1_weigh 60 = .ok (.iaload, 1) := by decide +kernel
theorem dX1_weigh_61 : decode cX1_weigh 61 = .ok (.putfield 50, 3) := by decide +kernel
theorem dX1_weigh_64 : decode cX1_weigh 64 = .ok (.aload_n 0, 1) := by decide +kernel
theorem dX1_weigh_65 : decode cX1_weigh 65 = .ok (.aload_n 1, 1) := by decide +kernel
theorem dX1_weigh_66 : decode cX1_weigh 66 = .ok (.getfield 47, 3) := by decide +kernel
theorem dX1_weigh_69 : decode cX1_weigh 69 = .ok (.iload_n 3, 1) := by decide +kernel
theorem dX1_weigh_70 : decode cX1_weigh 70 = .ok (.iaload, 1) := by decide +kernel
theorem dX1_weigh_71 : decode cX1_weigh 71 = .ok (.putfield 53, 3) := by decide +kernel
theorem dX1_weigh_74 : decode cX1_weigh 74 = .ok (.iconst 1, 1) := by decide +kernel
theorem dX1_weigh_75 : decode cX1_weigh 75 = .ok (.aload_n 0, 1) := by decide +kernel
theorem dX1_weigh_76 : decode cX1_weigh 76 = .ok (.getfield 36, 3) := by decide +kernel
theorem dX1_weigh_79 : decode cX1_weigh 79 = .ok (.aload_n 0, 1) := by decide +kernel
theorem dX1_weigh_80 : decode cX1_weigh 80 = .ok (.getfield 44, 3) := by decide +kernel
theorem dX1_weigh_83 : decode cX1_weigh 83 = .ok (.isub, 1) := by decide +kernel
theorem dX1_weigh_84 : decode cX1_weigh 84 = .ok (.invokestatic 56, 3) := by decide +kernel
theorem dX1_weigh_87 : decode cX1_weigh 87 = .ok (.iconst 4, 1) := by decide +kernel
theorem dX1_weigh_88 : decode cX1_weigh 88 = .ok (.idiv, 1) := by decide +kernel
theorem dX1_weigh_89 : decode cX1_weigh 89 = .ok (.iadd, 1) := by decide +kernel
theorem dX1_weigh_90 : decode cX1_weigh 90 = .ok (.istore 4, 2) := by decide +kernel
theorem dX1_weigh_92 : decode cX1_weigh 92 = .ok (.aload_n 0, 1) := by decide +kernel
theorem dX1_weigh_93 : decode cX1_weigh 93 = .ok (.getfield 36, 3) := by decide +kernel
theorem dX1_weigh_96 : decode cX1_weigh 96 = .ok (.aload_n 0, 1) := by decide +kernel
theorem dX1_weigh_97 : decode cX1_weigh 97 = .ok (.getfield 44, 3) := by decide +kernel
theorem dX1_weigh_100 : decode cX1_weigh 100 = .ok (.if_icmp .le 21, 3) := by decide +kernel
theorem dX1_weigh_103 : decode cX1_weigh 103 = .ok (.aload_n 0, 1) := by decide +kernel
theorem dX1_weigh_104 : decode cX1_weigh 104 = .ok (.aload_n 0, 1) := by decide +kernel
theorem dX1_weigh_105 : decode cX1_weigh 105 = .ok (.getfield 53, 3) := by decide +kernel
theorem dX1_weigh_108 : decode cX1_weigh 108 = .ok (.iload 4, 2) := by decide +kernel
theorem dX1_weigh_110 : decode cX1_weigh 110 = .ok (.isub, 1) := by decide +kernel
theorem dX1_weigh_111 : decode cX1_weigh 111 = .ok (.iconst 0, 1) := by decide +kernel
theorem dX1_weigh_112 : decode cX1_weigh 112 = .ok (.invokestatic 62, 3) := by decide +kernel
theorem dX1_weigh_115 : decode cX1_weigh 115 = .ok (.putfield 53, 3) := by decide +kernel
theorem dX1_weigh_118 : decode cX1_weigh 118 = .ok (.goto 18, 3) := by decide +kernel
theorem dX1_weigh_121 : decode cX1_weigh 121 = .ok (.aload_n 0, 1) := by decide +kernel
theorem dX1_weigh_122 : decode cX1_weigh 122 = .ok (.aload_n 0, 1) := by decide +kernel
theorem dX1_weigh_123 : decode cX1_weigh 123 = .ok (.getfield 50, 3) := by decide +kernel
theorem dX1_weigh_126 : decode cX1_weigh 126 = .ok (.iload 4, 2) := by decide +kernel
theorem dX1_weigh_128 : decode cX1_weigh 128 = .ok (.isub, 1) := by decide +kernel
theorem dX1_weigh_129 : decode cX1_weigh 129 = .ok (.iconst 0, 1) := by decide +kernel
theorem dX1_weigh_130 : decode cX1_weigh 130 = .ok (.invokestatic 62, 3) := by decide +kernel
theorem dX1_weigh_133 : decode cX1_weigh 133 = .ok (.putfield 50, 3) := by decide +kernel
theorem dX1_weigh_136 : decode cX1_weigh 136 = .ok (.return_, 1) := by decide +kernel
theorem dX1_powerOfAttack_0 : decode cX1_powerOfAttack 0 = .ok (.aload_n 1, 1) := by decide +kernel
theorem dX1_powerOfAttack_1 : decode cX1_powerOfAttack 1 = .ok (.getfield 29, 3) := by decide +kernel
theorem dX1_powerOfAttack_4 : decode cX1_powerOfAttack 4 = .ok (.iload_n 2, 1) := by decide +kernel
theorem dX1_powerOfAttack_5 : decode cX1_powerOfAttack 5 = .ok (.iaload, 1) := by decide +kernel
theorem dX1_powerOfAttack_6 : decode cX1_powerOfAttack 6 = .ok (.istore 4, 2) := by decide +kernel
theorem dX1_powerOfAttack_8 : decode cX1_powerOfAttack 8 = .ok (.iconst 2, 1) := by decide +kernel
theorem dX1_powerOfAttack_9 : decode cX1_powerOfAttack 9 = .ok (.aload_n 1, 1) := by decide +kernel
theorem dX1_powerOfAttack_10 : decode cX1_powerOfAttack 10 = .ok (.getfield 47, 3) := by decide +kernel
theorem dX1_powerOfAttack_13 : decode cX1_powerOfAttack 13 = .ok (.iload_n 2, 1) := by decide +kernel
theorem dX1_powerOfAttack_14 : decode cX1_powerOfAttack 14 = .ok (.iaload, 1) := by decide +kernel
theorem dX1_powerOfAttack_15 : decode cX1_powerOfAttack 15 = .ok (.imul, 1) := by decide +kernel
theorem dX1_powerOfAttack_16 : decode cX1_powerOfAttack 16 = .ok (.istore 5, 2) := by decide +kernel
theorem dX1_powerOfAttack_18 : decode cX1_powerOfAttack 18 = .ok (.aload_n 0, 1) := by decide +kernel
theorem dX1_powerOfAttack_19 : decode cX1_powerOfAttack 19 = .ok (.getfield 13, 3) := by decide +kernel
theorem dX1_powerOfAttack_22 : decode cX1_powerOfAttack 22 = .ok (.iload 4, 2) := by decide +kernel
theorem dX1_powerOfAttack_24 : decode cX1_powerOfAttack 24 = .ok (.invokevirtual 66, 3) := by decide +kernel
theorem dX1_powerOfAttack_27 : decode cX1_powerOfAttack 27 = .ok (.ifCond .ne 9, 3) := by decide +kernel
theorem dX1_powerOfAttack_30 : decode cX1_powerOfAttack 30 = .ok (.iload 5, 2) := by decide +kernel
theorem dX1_powerOfAttack_32 : decode cX1_powerOfAttack 32 = .ok (.iconst 2, 1) := by decide +kernel
theorem dX1_powerOfAttack_33 : decode cX1_powerOfAttack 33 = .ok (.idiv, 1) := by decide +kernel
theorem dX1_powerOfAttack_34 : decode cX1_powerOfAttack 34 = .ok (.istore 5, 2) := by decide +kernel
theorem dX1_powerOfAttack_36 : decode cX1_powerOfAttack 36 = .ok (.aload_n 0, 1) := by decide +kernel
theorem dX1_powerOfAttack_37 : decode cX1_powerOfAttack 37 = .ok (.getfield 7, 3) := by decide +kernel
theorem dX1_powerOfAttack_40 : decode cX1_powerOfAttack 40 = .ok (.iload 4, 2) := by decide +kernel
theorem dX1_powerOfAttack_42 : decode cX1_powerOfAttack 42 = .ok (.iload_n 3, 1) := by decide +kernel
theorem dX1_powerOfAttack_43 : decode cX1_powerOfAttack 43 = .ok (.invokevirtual 70, 3) := by decide +kernel
theorem dX1_powerOfAttack_46 : decode cX1_powerOfAttack 46 = .ok (.istore 6, 2) := by decide +kernel
theorem dX1_powerOfAttack_48 : decode cX1_powerOfAttack 48 = .ok (.iload 6, 2) := by decide +kernel
theorem dX1_powerOfAttack_50 : decode cX1_powerOfAttack 50 = .ok (.iconst (-1), 1) := by decide +kernel
theorem dX1_powerOfAttack_51 : decode cX1_powerOfAttack 51 = .ok (.if_icmp .eq 21, 3) := by decide +kernel
theorem dX1_powerOfAttack_54 : decode cX1_powerOfAttack 54 = .ok (.aload_n 1, 1) := by decide +kernel
theorem dX1_powerOfAttack_55 : decode cX1_powerOfAttack 55 = .ok (.iload 4, 2) := by decide +kernel
theorem dX1_powerOfAttack_57 : decode cX1_powerOfAttack 57 = .ok (.iload 6, 2) := by decide +kernel
theorem dX1_powerOfAttack_59 : decode cX1_powerOfAttack 59 = .ok (.invokevirtual 75, 3) := by decide +kernel
theorem dX1_powerOfAttack_62 : decode cX1_powerOfAttack 62 = .ok (.ifCond .eq 10, 3) := by decide +kernel
theorem dX1_powerOfAttack_65 : decode cX1_powerOfAttack 65 = .ok (.iload 5, 2) := by decide +kernel
theorem dX1_powerOfAttack_67 : decode cX1_powerOfAttack 67 = .ok (.iconst 2, 1) := by decide +kernel
theorem dX1_powerOfAttack_68 : decode cX1_powerOfAttack 68 = .ok (.idiv, 1) := by decide +kernel
theorem dX1_powerOfAttack_69 : decode cX1_powerOfAttack 69 = .ok (.goto 5, 3) := by decide +kernel
theorem dX1_powerOfAttack_72 : decode cX1_powerOfAttack 72 = .ok (.iload 5, 2) := by decide +kernel
theorem dX1_powerOfAttack_74 : decode cX1_powerOfAttack 74 = .ok (.ireturn, 1) := by decide +kernel
theorem dX1_powerOfDefence_0 : decode cX1_powerOfDefence 0 = .ok (.aload_n 1, 1) := by decide +kernel
theorem dX1_powerOfDefence_1 : decode cX1_powerOfDefence 1 = .ok (.getfield 29, 3) := by decide +kernel
theorem dX1_powerOfDefence_4 : decode cX1_powerOfDefence 4 = .ok (.iload_n 2, 1) := by decide +kernel
theorem dX1_powerOfDefence_5 : decode cX1_powerOfDefence 5 = .ok (.iaload, 1) := by decide +kernel
theorem dX1_powerOfDefence_6 : decode cX1_powerOfDefence 6 = .ok (.istore_n 3, 1) := by decide +kernel
theorem dX1_powerOfDefence_7 : decode cX1_powerOfDefence 7 = .ok (.iconst 2, 1) := by decide +kernel
theorem dX1_powerOfDefence_8 : decode cX1_powerOfDefence 8 = .ok (.aload_n 1, 1) := by decide +kernel
theorem dX1_powerOfDefence_9 : decode cX1_powerOfDefence 9 = .ok (.getfield 47, 3) := by decide +kernel
theorem dX1_powerOfDefence_12 : decode cX1_powerOfDefence 12 = .ok (.iload_n 2, 1) := by decide +kernel
theorem dX1_powerOfDefence_13 : decode cX1_powerOfDefence 13 = .ok (.iaload, 1) := by decide +kernel
theorem dX1_powerOfDefence_14 : decode cX1_powerOfDefence 14 = .ok (.imul, 1) := by decide +kernel
theorem dX1_powerOfDefence_15 : decode cX1_powerOfDefence 15 = .ok (.istore 4, 2) := by decide +kernel
theorem dX1_powerOfDefence_17 : decode cX1_powerOfDefence 17 = .ok (.aload_n 1, 1) := by decide +kernel
theorem dX1_powerOfDefence_18 : decode cX1_powerOfDefence 18 = .ok (.iload_n 3, 1) := by decide +kernel
theorem dX1_powerOfDefence_19 : decode cX1_powerOfDefence 19 = .ok (.invokevirtual 79, 3) := by decide +kernel
theorem dX1_powerOfDefence_22 : decode cX1_powerOfDefence 22 = .ok (.ifCond .eq 9, 3) := by decide +kernel
theorem dX1_powerOfDefence_25 : decode cX1_powerOfDefence 25 = .ok (.iload 4, 2) := by decide +kernel
theorem dX1_powerOfDefence_27 : decode cX1_powerOfDefence 27 = .ok (.iconst 2, 1) := by decide +kernel
theorem dX1_powerOfDefence_28 : decode cX1_powerOfDefence 28 = .ok (.imul, 1) := by decide +kernel
theorem dX1_powerOfDefence_29 : decode cX1_powerOfDefence 29 = .ok (.istore 4, 2) := by decide +kernel
theorem dX1_powerOfDefence_31 : decode cX1_powerOfDefence 31 = .ok (.aload_n 1, 1) := by decide +kernel
theorem dX1_powerOfDefence_32 : decode cX1_powerOfDefence 32 = .ok (.getfield 82, 3) := by decide +kernel
theorem dX1_powerOfDefence_35 : decode cX1_powerOfDefence 35 = .ok (.iload_n 3, 1) := by decide +kernel
theorem dX1_powerOfDefence_36 : decode cX1_powerOfDefence 36 = .ok (.iaload, 1) := by decide +kernel
theorem dX1_powerOfDefence_37 : decode cX1_powerOfDefence 37 = .ok (.ifCond .eq 6, 3) := by decide +kernel
theorem dX1_powerOfDefence_40 : decode cX1_powerOfDefence 40 = .ok (.iinc 4 2, 3) := by decide +kernel
theorem dX1_powerOfDefence_43 : decode cX1_powerOfDefence 43 = .ok (.aload_n 0, 1) := by decide +kernel
theorem dX1_powerOfDefence_44 : decode cX1_powerOfDefence 44 = .ok (.getfield 13, 3) := by decide +kernel
theorem dX1_powerOfDefence_47 : decode cX1_powerOfDefence 47 = .ok (.iload_n 3, 1) := by decide +kernel
theorem dX1_powerOfDefence_48 : decode cX1_powerOfDefence 48 = .ok (.invokevirtual 66, 3) := by decide +kernel
theorem dX1_powerOfDefence_51 : decode cX1_powerOfDefence 51 = .ok (.ifCond .eq 8, 3) := by decide +kernel
theorem dX1_powerOfDefence_54 : decode cX1_powerOfDefence 54 = .ok (.iload 4, 2) := by decide +kernel
theorem dX1_powerOfDefence_56 : decode cX1_powerOfDefence 56 = .ok (.goto 7, 3) := by decide +kernel
theorem dX1_powerOfDefence_59 : decode cX1_powerOfDefence 59 = .ok (.iload 4, 2) := by decide +kernel
theorem dX1_powerOfDefence_61 : decode cX1_powerOfDefence 61 = .ok (.iconst 2, 1) := by decide +kernel
theorem dX1_powerOfDefence_62 : decode cX1_powerOfDefence 62 = .ok (.idiv, 1) := by decide +kernel
theorem dX1_powerOfDefence_63 : decode cX1_powerOfDefence 63 = .ok (.ireturn, 1) := by decide +kernel
theorem dX2_init_0 : decode cX2_init 0 = .ok (.aload_n 0, 1) := by decide +kernel
theorem dX2_init_1 : decode cX2_init 1 = .ok (.invokespecial 1, 3) := by decide +kernel
theorem dX2_init_4 : decode cX2_init 4 = .ok (.aload_n 0, 1) := by decide +kernel
theorem dX2_init_5 : decode cX2_init 5 = .ok (.iconst 4, 1) := by decide +kernel
theorem dX2_init_6 : decode cX2_init 6 = .ok (.anewarray 9, 3) := by decide +kernel
theorem dX2_init_9 : decode cX2_init 9 = .ok (.putfield 11, 3) := by decide +kernel
theorem dX2_init_12 : decode cX2_init 12 = .ok (.iconst 0, 1) := by decide +kernel
theorem dX2_init_13 : decode cX2_init 13 = .ok (.istore_n 2, 1) := by decide +kernel
theorem dX2_init_14 : decode cX2_init 14 = .ok (.iload_n 2, 1) := by decide +kernel
theorem dX2_init_15 : decode cX2_init 15 = .ok (.iconst 4, 1) := by decide +kernel
theorem dX2_init_16 : decode cX2_init 16 = .ok (.if_icmp .ge 23, 3) := by decide +kernel
theorem dX2_init_19 : decode cX2_init 19 = .ok (.aload_n 0, 1) := by decide +kernel
theorem dX2_init_20 : decode cX2_init 20 = .ok (.getfield 11, 3) := by decide +kernel
theorem dX2_init_23 : decode cX2_init 23 = .ok (.iload_n 2, 1) := by decide +kernel
theorem dX2_init_24 : decode cX2_init 24 = .ok (.new 9, 3) := by decide +kernel
theorem dX2_init_27 : decode cX2_init 27 = .ok (.dup, 1) := by decide +kernel
theorem dX2_init_28 : decode cX2_init 28 = .ok (.aload_n 1, 1) := by decide +kernel
theorem dX2_init_29 : decode cX2_init 29 = .ok (.invokespecial 15, 3) := by decide +kernel
theorem dX2_init_32 : decode cX2_init 32 = .ok (.aastore, 1) := by decide +kernel
theorem dX2_init_33 : decode cX2_init 33 = .ok (.iinc 2 1, 3) := by decide +kernel
theorem dX2_init_36 : decode cX2_init 36 = .ok (.goto (-22), 3) := by decide +kernel
theorem dX2_init_39 : decode cX2_init 39 = .ok (.return_, 1) := by decide +kernel
theorem dX2_record_0 : decode cX2_record 0 = .ok (.aload_n 0, 1) := by decide +kernel
theorem dX2_record_1 : decode cX2_record 1 = .ok (.getfield 11, 3) := by decide +kernel
theorem dX2_record_4 : decode cX2_record 4 = .ok (.aload_n 0, 1) := by decide +kernel
theorem dX2_record_5 : decode cX2_record 5 = .ok (.getfield 18, 3) := by decide +kernel
theorem dX2_record_8 : decode cX2_record 8 = .ok (.aaload, 1) := by decide +kernel
theorem dX2_record_9 : decode cX2_record 9 = .ok (.aload_n 1, 1) := by decide +kernel
theorem dX2_record_10 : decode cX2_record 10 = .ok (.invokevirtual 22, 3) := by decide +kernel
theorem dX2_record_13 : decode cX2_record 13 = .ok (.aload_n 0, 1) := by decide +kernel
theorem dX2_record_14 : decode cX2_record 14 = .ok (.aload_n 0, 1) := by decide +kernel
theorem dX2_record_15 : decode cX2_record 15 = .ok (.getfield 18, 3) := by decide +kernel
theorem dX2_record_18 : decode cX2_record 18 = .ok (.iconst 1, 1) := by decide +kernel
theorem dX2_record_19 : decode cX2_record 19 = .ok (.iadd, 1) := by decide +kernel
theorem dX2_record_20 : decode cX2_record 20 = .ok (.iconst 4, 1) := by decide +kernel
theorem dX2_record_21 : decode cX2_record 21 = .ok (.irem, 1) := by decide +kernel
theorem dX2_record_22 : decode cX2_record 22 = .ok (.putfield 18, 3) := by decide +kernel
theorem dX2_record_25 : decode cX2_record 25 = .ok (.aload_n 0, 1) := by decide +kernel
theorem dX2_record_26 : decode cX2_record 26 = .ok (.aload_n 0, 1) := by decide +kernel
theorem dX2_record_27 : decode cX2_record 27 = .ok (.getfield 26, 3) := by decide +kernel
theorem dX2_record_30 : decode cX2_record 30 = .ok (.iconst 1, 1) := by decide +kernel
theorem dX2_record_31 : decode cX2_record 31 = .ok (.iadd, 1) := by decide +kernel
theorem dX2_record_32 : decode cX2_record 32 = .ok (.iconst 4, 1) := by decide +kernel
theorem dX2_record_33 : decode cX2_record 33 = .ok (.invokestatic 29, 3) := by decide +kernel
theorem dX2_record_36 : decode cX2_record 36 = .ok (.putfield 26, 3) := by decide +kernel
theorem dX2_record_39 : decode cX2_record 39 = .ok (.return_, 1) := by decide +kernel
theorem dX2_takeBack_0 : decode cX2_takeBack 0 = .ok (.aload_n 0, 1) := by decide +kernel
theorem dX2_takeBack_1 : decode cX2_takeBack 1 = .ok (.getfield 26, 3) := by decide +kernel
theorem dX2_takeBack_4 : decode cX2_takeBack 4 = .ok (.ifCond .ne 5, 3) := by decide +kernel
theorem dX2_takeBack_7 : decode cX2_takeBack 7 = .ok (.iconst 0, 1) := by decide +kernel
theorem dX2_takeBack_8 : decode cX2_takeBack 8 = .ok (.ireturn, 1) := by decide +kernel
theorem dX2_takeBack_9 : decode cX2_takeBack 9 = .ok (.aload_n 0, 1) := by decide +kernel
theorem dX2_takeBack_10 : decode cX2_takeBack 10 = .ok (.aload_n 0, 1) := by decide +kernel
theorem dX2_takeBack_11 : decode cX2_takeBack 11 = .ok (.getfield 18, 3) := by decide +kernel
theorem dX2_takeBack_14 : decode cX2_takeBack 14 = .ok (.iconst 4, 1) := by decide +kernel
theorem dX2_takeBack_15 : decode cX2_takeBack 15 = .ok (.iadd, 1) := by decide +kernel
theorem dX2_takeBack_16 : decode cX2_takeBack 16 = .ok (.iconst 1, 1) := by decide +kernel
theorem dX2_takeBack_17 : decode cX2_takeBack 17 = .ok (.isub, 1) := by decide +kernel
theorem dX2_takeBack_18 : decode cX2_takeBack 18 = .ok (.iconst 4, 1) := by decide +kernel
theorem dX2_takeBack_19 : decode cX2_takeBack 19 = .ok (.irem, 1) := by decide +kernel
theorem dX2_takeBack_20 : decode cX2_takeBack 20 = .ok (.putfield 18, 3) := by decide +kernel
theorem dX2_takeBack_23 : decode cX2_takeBack 23 = .ok (.aload_n 0, 1) := by decide +kernel
theorem dX2_takeBack_24 : decode cX2_takeBack 24 = .ok (.dup, 1) := by decide +kernel
theorem dX2_takeBack_25 : decode cX2_takeBack 25 = .ok (.getfield 26, 3) := by decide +kernel
theorem dX2_takeBack_28 : decode cX2_takeBack 28 = .ok (.iconst 1, 1) := by decide +kernel
theorem dX2_takeBack_29 : decode cX2_takeBack 29 = .ok (.isub, 1) := by decide +kernel
theorem dX2_takeBack_30 : decode cX2_takeBack 30 = .ok (.putfield 26, 3) := by decide +kernel
theorem dX2_takeBack_33 : decode cX2_takeBack 33 = .ok (.aload_n 1, 1) := by decide +kernel
theorem dX2_takeBack_34 : decode cX2_takeBack 34 = .ok (.aload_n 0, 1) := by decide +kernel
theorem dX2_takeBack_35 : decode cX2_takeBack 35 = .ok (.getfield 11, 3) := by decide +kernel
theorem dX2_takeBack_38 : decode cX2_takeBack 38 = .ok (.aload_n 0, 1) := by decide +kernel
theorem dX2_takeBack_39 : decode cX2_takeBack 39 = .ok (.getfield 18, 3) := by decide +kernel
theorem dX2_takeBack_42 : decode cX2_takeBack 42 = .ok (.aaload, 1) := by decide +kernel
theorem dX2_takeBack_43 : decode cX2_takeBack 43 = .ok (.invokevirtual 22, 3) := by decide +kernel
theorem dX2_takeBack_46 : decode cX2_takeBack 46 = .ok (.iconst 1, 1) := by decide +kernel
theorem dX2_takeBack_47 : decode cX2_takeBack 47 = .ok (.ireturn, 1) := by decide +kernel
theorem dX3_init_0 : decode cX3_init 0 = .ok (.aload_n 0, 1) := by decide +kernel
theorem dX3_init_1 : decode cX3_init 1 = .ok (.invokespecial 3, 3) := by decide +kernel
theorem dX3_init_4 : decode cX3_init 4 = .ok (.aload_n 0, 1) := by decide +kernel
theorem dX3_init_5 : decode cX3_init 5 = .ok (.bipush 60, 2) := by decide +kernel
theorem dX3_init_7 : decode cX3_init 7 = .ok (.newarray .char, 2) := by decide +kernel
theorem dX3_init_9 : decode cX3_init 9 = .ok (.putfield 9, 3) := by decide +kernel
theorem dX3_init_12 : decode cX3_init 12 = .ok (.aload_n 0, 1) := by decide +kernel
theorem dX3_init_13 : decode cX3_init 13 = .ok (.bipush 30, 2) := by decide +kernel
theorem dX3_init_15 : decode cX3_init 15 = .ok (.newarray .char, 2) := by decide +kernel
theorem dX3_init_17 : decode cX3_init 17 = .ok (.putfield 13, 3) := by decide +kernel
theorem dX3_init_20 : decode cX3_init 20 = .ok (.aload_n 0, 1) := by decide +kernel
theorem dX3_init_21 : decode cX3_init 21 = .ok (.bipush 30, 2) := by decide +kernel
theorem dX3_init_23 : decode cX3_init 23 = .ok (.newarray .int, 2) := by decide +kernel
theorem dX3_init_25 : decode cX3_init 25 = .ok (.putfield 16, 3) := by decide +kernel
theorem dX3_init_28 : decode cX3_init 28 = .ok (.aload_n 0, 1) := by decide +kernel
theorem dX3_init_29 : decode cX3_init 29 = .ok (.bipush 30, 2) := by decide +kernel
theorem dX3_init_31 : decode cX3_init 31 = .ok (.newarray .int, 2) := by decide +kernel
theorem dX3_init_33 : decode cX3_init 33 = .ok (.putfield 20, 3) := by decide +kernel
theorem dX3_init_36 : decode cX3_init 36 = .ok (.return_, 1) := by decide +kernel
theorem dX3_append_0 : decode cX3_append 0 = .ok (.aload_n 0, 1) := by decide +kernel
theorem dX3_append_1 : decode cX3_append 1 = .ok (.getfield 23, 3) := by decide +kernel
theorem dX3_append_4 : decode cX3_append 4 = .ok (.bipush 60, 2) := by decide +kernel
theorem dX3_append_6 : decode cX3_append 6 = .ok (.if_icmp .lt 5, 3) := by decide +kernel
theorem dX3_append_9 : decode cX3_append 9 = .ok (.iconst 0, 1) := by decide +kernel
theorem dX3_append_10 : decode cX3_append 10 = .ok (.ireturn, 1) := by decide +kernel
theorem dX3_append_11 : decode cX3_append 11 = .ok (.aload_n 0, 1) := by decide +kernel
theorem dX3_append_12 : decode cX3_append 12 = .ok (.getfield 9, 3) := by decide +kernel
theorem dX3_append_15 : decode cX3_append 15 = .ok (.aload_n 0, 1) := by decide +kernel
theorem dX3_append_16 : decode cX3_append 16 = .ok (.getfield 23, 3) := by decide +kernel
theorem dX3_append_19 : decode cX3_append 19 = .ok (.iload_n 1, 1) := by decide +kernel
theorem dX3_append_20 : decode cX3_append 20 = .ok (.castore, 1) := by decide +kernel
theorem dX3_append_21 : decode cX3_append 21 = .ok (.aload_n 0, 1) := by decide +kernel
theorem dX3_append_22 : decode cX3_append 22 = .ok (.dup, 1) := by decide +kernel
theorem dX3_append_23 : decode cX3_append 23 = .ok (.getfield 23, 3) := by decide +kernel
theorem dX3_append_26 : decode cX3_append 26 = .ok (.iconst 1, 1) := by decide +kernel
theorem dX3_append_27 : decode cX3_append 27 = .ok (.iadd, 1) := by decide +kernel
theorem dX3_append_28 : decode cX3_append 28 = .ok (.putfield 23, 3) := by decide +kernel
theorem dX3_append_31 : decode cX3_append 31 = .ok (.iconst 1, 1) := by decide +kernel
theorem dX3_append_32 : decode cX3_append 32 = .ok (.ireturn, 1) := by decide +kernel
theorem dX3_read_0 : decode cX3_read 0 = .ok (.aload_n 0, 1) := by decide +kernel
theorem dX3_read_1 : decode cX3_read 1 = .ok (.iconst 0, 1) := by decide +kernel
theorem dX3_read_2 : decode cX3_read 2 = .ok (.putfield 27, 3) := by decide +kernel
theorem dX3_read_5 : decode cX3_read 5 = .ok (.iconst 0, 1) := by decide +kernel
theorem dX3_read_6 : decode cX3_read 6 = .ok (.istore_n 1, 1) := by decide +kernel
theorem dX3_read_7 : decode cX3_read 7 = .ok (.iconst 0, 1) := by decide +kernel
theorem dX3_read_8 : decode cX3_read 8 = .ok (.istore_n 2, 1) := by decide +kernel
theorem dX3_read_9 : decode cX3_read 9 = .ok (.iload_n 2, 1) := by decide +kernel
theorem dX3_read_10 : decode cX3_read 10 = .ok (.aload_n 0, 1) := by decide +kernel
theorem dX3_read_11 : decode cX3_read 11 = .ok (.getfield 23, 3) := by decide +kernel
theorem dX3_read_14 : decode cX3_read 14 = .ok (.if_icmp .ge 28, 3) := by decide +kernel
theorem dX3_read_17 : decode cX3_read 17 = .ok (.aload_n 0, 1) := by decide +kernel
theorem dX3_read_18 : decode cX3_read 18 = .ok (.iload_n 1, 1) := by decide +kernel
theorem dX3_read_19 : decode cX3_read 19 = .ok (.aload_n 0, 1) := by decide +kernel
theorem dX3_read_20 : decode cX3_read 20 = .ok (.getfield 9, 3) := by decide +kernel
theorem dX3_read_23 : decode cX3_read 23 = .ok (.iload_n 2, 1) := by decide +kernel
theorem dX3_read_24 : decode cX3_read 24 = .ok (.caload, 1) := by decide +kernel
theorem dX3_read_25 : decode cX3_read 25 = .ok (.invokevirtual 30, 3) := by decide +kernel
theorem dX3_read_28 : decode cX3_read 28 = .ok (.istore_n 1, 1) := by decide +kernel
theorem dX3_read_29 : decode cX3_read 29 = .ok (.iload_n 1, 1) := by decide +kernel
theorem dX3_read_30 : decode cX3_read 30 = .ok (.iconst (-1), 1) := by decide +kernel
theorem dX3_read_31 : decode cX3_read 31 = .ok (.if_icmp .ne 5, 3) := by decide +kernel
theorem dX3_read_34 : decode cX3_read 34 = .ok (.iload_n 2, 1) := by decide +kernel
theorem dX3_read_35 : decode cX3_read 35 = .ok (.ireturn, 1) := by decide +kernel
theorem dX3_read_36 : decode cX3_read 36 = .ok (.iinc 2 1, 3) := by decide +kernel
theorem dX3_read_39 : decode cX3_read 39 = .ok (.goto (-30), 3) := by decide +kernel
theorem dX3_read_42 : decode cX3_read 42 = .ok (.iload_n 1, 1) := by decide +kernel
theorem dX3_read_43 : decode cX3_read 43 = .ok (.iconst 5, 1) := by decide +kernel
theorem dX3_read_44 : decode cX3_read 44 = .ok (.if_icmp .ne 7, 3) := by decide +kernel
theorem dX3_read_47 : decode cX3_read 47 = .ok (.iconst (-1), 1) := by decide +kernel
theorem dX3_read_48 : decode cX3_read 48 = .ok (.goto 7, 3) := by decide +kernel
theorem dX3_read_51 : decode cX3_read 51 = .ok (.aload_n 0, 1) := by decide +kernel
theorem dX3_read_52 : decode cX3_read 52 = .ok (.getfield 23, 3) := by decide +kernel
theorem dX3_read_55 : decode cX3_read 55 = .ok (.ireturn, 1) := by decide +kernel
theorem dX3_stageAfter_0 : decode cX3_stageAfter 0 = .ok (.iload_n 1, 1) := by decide +kernel
theorem dX3_stageAfter_1 : decode cX3_stageAfter 1 = .ok (.tableswitch 90 0 4 #[35, 41, 72, 78, 84], 35) := by decide +kernel
theorem dX3_stageAfter_36 : decode cX3_stageAfter 36 = .ok (.aload_n 0, 1) := by decide +kernel
theorem dX3_stageAfter_37 : decode cX3_stageAfter 37 = .ok (.iload_n 2, 1) := by decide +kernel
theorem dX3_stageAfter_38 : decode cX3_stageAfter 38 = .ok (.invokevirtual 34, 3) := by decide +kernel
theorem dX3_stageAfter_41 : decode cX3_stageAfter 41 = .ok (.ireturn, 1) := by decide +kernel
theorem dX3_stageAfter_42 : decode cX3_stageAfter 42 = .ok (.iload_n 2, 1) := by decide +kernel
theorem dX3_stageAfter_43 : decode cX3_stageAfter 43 = .ok (.bipush 48, 2) := by decide +kernel
theorem dX3_stageAfter_45 : decode cX3_stageAfter 45 = .ok (.bipush 53, 2) := by decide +kernel
theorem dX3_stageAfter_47 : decode cX3_stageAfter 47 = .ok (.invokestatic 38, 3) := by decide +kernel
theorem dX3_stageAfter_50 : decode cX3_stageAfter 50 = .ok (.ifCond .eq 17, 3) := by decide +kernel
theorem dX3_stageAfter_53 : decode cX3_stageAfter 53 = .ok (.aload_n 0, 1) := by decide +kernel
theorem dX3_stageAfter_54 : decode cX3_stageAfter 54 = .ok (.bipush 10, 2) := by decide +kernel
theorem dX3_stageAfter_56 : decode cX3_stageAfter 56 = .ok (.iload_n 2, 1) := by decide +kernel
theorem dX3_stageAfter_57 : decode cX3_stageAfter 57 = .ok (.iadd, 1) := by decide +kernel
theorem dX3_stageAfter_58 : decode cX3_stageAfter 58 = .ok (.bipush 48, 2) := by decide +kernel
theorem dX3_stageAfter_60 : decode cX3_stageAfter 60 = .ok (.isub, 1) := by decide +kernel
theorem dX3_stageAfter_61 : decode cX3_stageAfter 61 = .ok (.invokevirtual 42, 3) := by decide +kernel
theorem dX3_stageAfter_64 : decode cX3_stageAfter 64 = .ok (.goto 8, 3) := by decide +kernel
theorem dX3_stageAfter_67 : decode cX3_stageAfter 67 = .ok (.aload_n 0, 1) := by decide +kernel
theorem dX3_stageAfter_68 : decode cX3_stageAfter 68 = .ok (.iload_n 2, 1) := by decide +kernel
theorem dX3_stageAfter_69 : decode cX3_stageAfter 69 = .ok (.invokevirtual 46, 3) := by decide +kernel
theorem dX3_stageAfter_72 : decode cX3_stageAfter 72 = .ok (.ireturn, 1) := by decide +kernel
theorem dX3_stageAfter_73 : decode cX3_stageAfter 73 = .ok (.aload_n 0, 1) := by decide +kernel
theorem dX3_stageAfter_74 : decode cX3_stageAfter 74 = .ok (.iload_n 2, 1) := by decide +kernel
theorem dX3_stageAfter_75 : decode cX3_stageAfter 75 = .ok (.invokevirtual 46, 3) := by decide +kernel
theorem dX3_stageAfter_78 : decode cX3_stageAfter 78 = .ok (.ireturn, 1) := by decide +kernel
theorem dX3_stageAfter_79 : decode cX3_stageAfter 79 = .ok (.aload_n 0, 1) := by decide +kernel
theorem dX3_stageAfter_80 : decode cX3_stageAfter 80 = .ok (.iload_n 2, 1) := by decide +kernel
theorem dX3_stageAfter_81 : decode cX3_stageAfter 81 = .ok (.invokevirtual 49, 3) := by decide +kernel
theorem dX3_stageAfter_84 : decode cX3_stageAfter 84 = .ok (.ireturn, 1) := by decide +kernel
theorem dX3_stageAfter_85 : decode cX3_stageAfter 85 = .ok (.aload_n 0, 1) := by decide +kernel
theorem dX3_stageAfter_86 : decode cX3_stageAfter 86 = .ok (.iload_n 2, 1) := by decide +kernel
theorem dX3_stageAfter_87 : decode cX3_stageAfter 87 = .ok (.invokevirtual 52, 3) := by decide +kernel
theorem dX3_stageAfter_90 : decode cX3_stageAfter 90 = .ok (.ireturn, 1) := by decide +kernel
theorem dX3_stageAfter_91 : decode cX3_stageAfter 91 = .ok (.iload_n 2, 1) := by decide +kernel
theorem dX3_stageAfter_92 : decode cX3_stageAfter 92 = .ok (.bipush 59, 2) := by decide +kernel
theorem dX3_stageAfter_94 : decode cX3_stageAfter 94 = .ok (.if_icmp .ne 7, 3) := by decide +kernel
theorem dX3_stageAfter_97 : decode cX3_stageAfter 97 = .ok (.iconst 0, 1) := by decide +kernel
theorem dX3_stageAfter_98 : decode cX3_stageAfter 98 = .ok (.goto 4, 3) := by decide +kernel
theorem dX3_stageAfter_101 : decode cX3_stageAfter 101 = .ok (.iconst (-1), 1) := by decide +kernel
theorem dX3_stageAfter_102 : decode cX3_stageAfter 102 = .ok (.ireturn, 1) := by decide +kernel
theorem dX3_isIn_0 : decode cX3_isIn 0 = .ok (.iload_n 0, 1) := by decide +kernel
theorem dX3_isIn_1 : decode cX3_isIn 1 = .ok (.iload_n 1, 1) := by decide +kernel
theorem dX3_isIn_2 : decode cX3_isIn 2 = .ok (.if_icmp .lt 12, 3) := by decide +kernel
theorem dX3_isIn_5 : decode cX3_isIn 5 = .ok (.iload_n 0, 1) := by decide +kernel
theorem dX3_isIn_6 : decode cX3_isIn 6 = .ok (.iload_n 2, 1) := by decide +kernel
theorem dX3_isIn_7 : decode cX3_isIn 7 = .ok (.if_icmp .gt 7, 3) := by decide +kernel
theorem dX3_isIn_10 : decode cX3_isIn 10 = .ok (.iconst 1, 1) := by decide +kernel
theorem dX3_isIn_11 : decode cX3_isIn 11 = .ok (.goto 4, 3) := by decide +kernel
theorem dX3_isIn_14 : decode cX3_isIn 14 = .ok (.iconst 0, 1) := by decide +kernel
theorem dX3_isIn_15 : decode cX3_isIn 15 = .ok (.ireturn, 1) := by decide +kernel
theorem dX3_readFirst_0 : decode cX3_readFirst 0 = .ok (.iload_n 1, 1) := by decide +kernel
theorem dX3_readFirst_1 : decode cX3_readFirst 1 = .ok (.bipush 46, 2) := by decide +kernel
theorem dX3_readFirst_3 : decode cX3_readFirst 3 = .ok (.if_icmp .ne 15, 3) := by decide +kernel
theorem dX3_readFirst_6 : decode cX3_readFirst 6 = .ok (.aload_n 0, 1) := by decide +kernel
theorem dX3_readFirst_7 : decode cX3_readFirst 7 = .ok (.bipush 46, 2) := by decide +kernel
theorem dX3_readFirst_9 : decode cX3_readFirst 9 = .ok (.putfield 55, 3) := by decide +kernel
theorem dX3_readFirst_12 : decode cX3_readFirst 12 = .ok (.aload_n 0, 1) := by decide +kernel
theorem dX3_readFirst_13 : decode cX3_readFirst 13 = .ok (.iconst 0, 1) := by decide +kernel
theorem dX3_readFirst_14 : decode cX3_readFirst 14 = .ok (.invokevirtual 59, 3) := by decide +kernel
theorem dX3_readFirst_17 : decode cX3_readFirst 17 = .ok (.ireturn, 1) := by decide +kernel
theorem dX3_readFirst_18 : decode cX3_readFirst 18 = .ok (.iload_n 1, 1) := by decide +kernel
theorem dX3_readFirst_19 : decode cX3_readFirst 19 = .ok (.bipush 48, 2) := by decide +kernel
theorem dX3_readFirst_21 : decode cX3_readFirst 21 = .ok (.bipush 57, 2) := by decide +kernel
theorem dX3_readFirst_23 : decode cX3_readFirst 23 = .ok (.invokestatic 38, 3) := by decide +kernel
theorem dX3_readFirst_26 : decode cX3_readFirst 26 = .ok (.ifCond .ne 5, 3) := by decide +kernel
theorem dX3_readFirst_29 : decode cX3_readFirst 29 = .ok (.iconst (-1), 1) := by decide +kernel
theorem dX3_readFirst_30 : decode cX3_readFirst 30 = .ok (.ireturn, 1) := by decide +kernel
theorem dX3_readFirst_31 : decode cX3_readFirst 31 = .ok (.aload_n 0, 1) := by decide +kernel
theorem dX3_readFirst_32 : decode cX3_readFirst 32 = .ok (.iload_n 1, 1) := by decide +kernel
theorem dX3_readFirst_33 : decode cX3_readFirst 33 = .ok (.bipush 48, 2) := by decide +kernel
theorem dX3_readFirst_35 : decode cX3_readFirst 35 = .ok (.isub, 1) := by decide +kernel
theorem dX3_readFirst_36 : decode cX3_readFirst 36 = .ok (.invokevirtual 42, 3) := by decide +kernel
theorem dX3_readFirst_39 : decode cX3_readFirst 39 = .ok (.istore_n 2, 1) := by decide +kernel
theorem dX3_readFirst_40 : decode cX3_readFirst 40 = .ok (.iload_n 1, 1) := by decide +kernel
theorem dX3_readFirst_41 : decode cX3_readFirst 41 = .ok (.bipush 49, 2) := by decide +kernel
theorem dX3_readFirst_43 : decode cX3_readFirst 43 = .ok (.if_icmp .ne 7, 3) := by decide +kernel
theorem dX3_readFirst_46 : decode cX3_readFirst 46 = .ok (.iconst 1, 1) := by decide +kernel
theorem dX3_readFirst_47 : decode cX3_readFirst 47 = .ok (.goto 4, 3) := by decide +kernel
theorem dX3_readFirst_50 : decode cX3_readFirst 50 = .ok (.iload_n 2, 1) := by decide +kernel
theorem dX3_readFirst_51 : decode cX3_readFirst 51 = .ok (.ireturn, 1) := by decide +kernel
theorem dX3_readUnit_0 : decode cX3_readUnit 0 = .ok (.aload_n 0, 1) := by decide +kernel
theorem dX3_readUnit_1 : decode cX3_readUnit 1 = .ok (.iload_n 1, 1) := by decide +kernel
theorem dX3_readUnit_2 : decode cX3_readUnit 2 = .ok (.putfield 62, 3) := by decide +kernel
theorem dX3_readUnit_5 : decode cX3_readUnit 5 = .ok (.iconst 2, 1) := by decide +kernel
theorem dX3_readUnit_6 : decode cX3_readUnit 6 = .ok (.ireturn, 1) := by decide +kernel
theorem dX3_readSign_0 : decode cX3_readSign 0 = .ok (.aload_n 0, 1) := by decide +kernel
theorem dX3_readSign_1 : decode cX3_readSign 1 = .ok (.iload_n 1, 1) := by decide +kernel
theorem dX3_readSign_2 : decode cX3_readSign 2 = .ok (.putfield 55, 3) := by decide +kernel
theorem dX3_readSign_5 : decode cX3_readSign 5 = .ok (.iload_n 1, 1) := by decide +kernel
theorem dX3_readSign_6 : decode cX3_readSign 6 = .ok (.bipush 62, 2) := by decide +kernel
theorem dX3_readSign_8 : decode cX3_readSign 8 = .ok (.if_icmp .eq 9, 3) := by decide +kernel
theorem dX3_readSign_11 : decode cX3_readSign 11 = .ok (.iload_n 1, 1) := by decide +kernel
theorem dX3_readSign_12 : decode cX3_readSign 12 = .ok (.bipush 33, 2) := by decide +kernel
theorem dX3_readSign_14 : decode cX3_readSign 14 = .ok (.if_icmp .ne 7, 3) := by decide +kernel
theorem dX3_readSign_17 : decode cX3_readSign 17 = .ok (.iconst 3, 1) := by decide +kernel
theorem dX3_readSign_18 : decode cX3_readSign 18 = .ok (.goto 4, 3) := by decide +kernel
theorem dX3_readSign_21 : decode cX3_readSign 21 = .ok (.iconst (-1), 1) := by decide +kernel
theorem dX3_readSign_22 : decode cX3_readSign 22 = .ok (.ireturn, 1) := by decide +kernel
theorem dX3_readColumn_0 : decode cX3_readColumn 0 = .ok (.aload_n 0, 1) := by decide +kernel
theorem dX3_readColumn_1 : decode cX3_readColumn 1 = .ok (.iload_n 1, 1) := by decide +kernel
theorem dX3_readColumn_2 : decode cX3_readColumn 2 = .ok (.bipush 97, 2) := by decide +kernel
theorem dX3_readColumn_4 : decode cX3_readColumn 4 = .ok (.isub, 1) := by decide +kernel
theorem dX3_readColumn_5 : decode cX3_readColumn 5 = .ok (.putfield 65, 3) := by decide +kernel
theorem dX3_readColumn_8 : decode cX3_readColumn 8 = .ok (.iload_n 1, 1) := by decide +kernel
theorem dX3_readColumn_9 : decode cX3_readColumn 9 = .ok (.bipush 97, 2) := by decide +kernel
theorem dX3_readColumn_11 : decode cX3_readColumn 11 = .ok (.bipush 105, 2) := by decide +kernel
theorem dX3_readColumn_13 : decode cX3_readColumn 13 = .ok (.invokestatic 38, 3) := by decide +kernel
theorem dX3_readColumn_16 : decode cX3_readColumn 16 = .ok (.ifCond .eq 7, 3) := by decide +kernel
theorem dX3_readColumn_19 : decode cX3_readColumn 19 = .ok (.iconst 4, 1) := by decide +kernel
theorem dX3_readColumn_20 : decode cX3_readColumn 20 = .ok (.goto 4, 3) := by decide +kernel
theorem dX3_readColumn_23 : decode cX3_readColumn 23 = .ok (.iconst (-1), 1) := by decide +kernel
theorem dX3_readColumn_24 : decode cX3_readColumn 24 = .ok (.ireturn, 1) := by decide +kernel
theorem dX3_readRow_0 : decode cX3_readRow 0 = .ok (.iload_n 1, 1) := by decide +kernel
theorem dX3_readRow_1 : decode cX3_readRow 1 = .ok (.bipush 49, 2) := by decide +kernel
theorem dX3_readRow_3 : decode cX3_readRow 3 = .ok (.isub, 1) := by decide +kernel
theorem dX3_readRow_4 : decode cX3_readRow 4 = .ok (.istore_n 2, 1) := by decide +kernel
theorem dX3_readRow_5 : decode cX3_readRow 5 = .ok (.iload_n 1, 1) := by decide +kernel
theorem dX3_readRow_6 : decode cX3_readRow 6 = .ok (.bipush 49, 2) := by decide +kernel
theorem dX3_readRow_8 : decode cX3_readRow 8 = .ok (.bipush 55, 2) := by decide +kernel
theorem dX3_readRow_10 : decode cX3_readRow 10 = .ok (.invokestatic 38, 3) := by decide +kernel
theorem dX3_readRow_13 : decode cX3_readRow 13 = .ok (.ifCond .eq 19, 3) := by decide +kernel
theorem dX3_readRow_16 : decode cX3_readRow 16 = .ok (.aload_n 0, 1) := by decide +kernel
theorem dX3_readRow_17 : decode cX3_readRow 17 = .ok (.iload_n 2, 1) := by decide +kernel
theorem dX3_readRow_18 : decode cX3_readRow 18 = .ok (.bipush 9, 2) := by decide +kernel
theorem dX3_readRow_20 : decode cX3_readRow 20 = .ok (.imul, 1) := by decide +kernel
theorem dX3_readRow_21 : decode cX3_readRow 21 = .ok (.aload_n 0, 1) := by decide +kernel
theorem dX3_readRow_22 : decode cX3_readRow 22 = .ok (.getfield 65, 3) := by decide +kernel
theorem dX3_readRow_25 : decode cX3_readRow 25 = .ok (.iadd, 1) := by decide +kernel
theorem dX3_readRow_26 : decode cX3_readRow 26 = .ok (.invokevirtual 59, 3) := by decide +kernel
theorem dX3_readRow_29 : decode cX3_readRow 29 = .ok (.goto 4, 3) := by decide +kernel
theorem dX3_readRow_32 : decode cX3_readRow 32 = .ok (.iconst (-1), 1) := by decide +kernel
theorem dX3_readRow_33 : decode cX3_readRow 33 = .ok (.ireturn, 1) := by decide +kernel
theorem dX3_addOrder_0 : decode cX3_addOrder 0 = .ok (.aload_n 0, 1) := by decide +kernel
theorem dX3_addOrder_1 : decode cX3_addOrder 1 = .ok (.getfield 27, 3) := by decide +kernel
theorem dX3_addOrder_4 : decode cX3_addOrder 4 = .ok (.bipush 30, 2) := by decide +kernel
theorem dX3_addOrder_6 : decode cX3_addOrder 6 = .ok (.if_icmp .ge 49, 3) := by decide +kernel
theorem dX3_addOrder_9 : decode cX3_addOrder 9 = .ok (.aload_n 0, 1) := by decide +kernel
theorem dX3_addOrder_10 : decode cX3_addOrder 10 = .ok (.getfield 13, 3) := by decide +kernel
theorem dX3_addOrder_13 : decode cX3_addOrder 13 = .ok (.aload_n 0, 1) := by decide +kernel
theorem dX3_addOrder_14 : decode cX3_addOrder 14 = .ok (.getfield 27, 3) := by decide +kernel
theorem dX3_addOrder_17 : decode cX3_addOrder 17 = .ok (.aload_n 0, 1) := by decide +kernel
theorem dX3_addOrder_18 : decode cX3_addOrder 18 = .ok (.getfield 55, 3) := by decide +kernel
theorem dX3_addOrder_21 : decode cX3_addOrder 21 = .ok (.castore, 1) := by decide +kernel
theorem dX3_addOrder_22 : decode cX3_addOrder 22 = .ok (.aload_n 0, 1) := by decide +kernel
theorem dX3_addOrder_23 : decode cX3_addOrder 23 = .ok (.getfield 16, 3) := by decide +kernel
theorem dX3_addOrder_26 : decode cX3_addOrder 26 = .ok (.aload_n 0, 1) := by decide +kernel
theorem dX3_addOrder_27 : decode cX3_addOrder 27 = .ok (.getfield 27, 3) := by decide +kernel
theorem dX3_addOrder_30 : decode cX3_addOrder 30 = .ok (.aload_n 0, 1) := by decide +kernel
theorem dX3_addOrder_31 : decode cX3_addOrder 31 = .ok (.getfield 62, 3) := by decide +kernel
theorem dX3_addOrder_34 : decode cX3_addOrder 34 = .ok (.iastore, 1) := by decide +kernel
theorem dX3_addOrder_35 : decode cX3_addOrder 35 = .ok (.aload_n 0, 1) := by decide +kernel
theorem dX3_addOrder_36 : decode cX3_addOrder 36 = .ok (.getfield 20, 3) := by decide +kernel
theorem dX3_addOrder_39 : decode cX3_addOrder 39 = .ok (.aload_n 0, 1) := by decide +kernel
theorem dX3_addOrder_40 : decode cX3_addOrder 40 = .ok (.getfield 27, 3) := by decide +kernel
theorem dX3_addOrder_43 : decode cX3_addOrder 43 = .ok (.iload_n 1, 1) := by decide +kernel
theorem dX3_addOrder_44 : decode cX3_addOrder 44 = .ok (.iastore, 1) := by decide +kernel
theorem dX3_addOrder_45 : decode cX3_addOrder 45 = .ok (.aload_n 0, 1) := by decide +kernel
theorem dX3_addOrder_46 : decode cX3_addOrder 46 = .ok (.dup, 1) := by decide +kernel
theorem dX3_addOrder_47 : decode cX3_addOrder 47 = .ok (.getfield 27, 3) := by decide +kernel
theorem dX3_addOrder_50 : decode cX3_addOrder 50 = .ok (.iconst 1, 1) := by decide +kernel
theorem dX3_addOrder_51 : decode cX3_addOrder 51 = .ok (.iadd, 1) := by decide +kernel
theorem dX3_addOrder_52 : decode cX3_addOrder 52 = .ok (.putfield 27, 3) := by decide +kernel
theorem dX3_addOrder_55 : decode cX3_addOrder 55 = .ok (.iconst 5, 1) := by decide +kernel
theorem dX3_addOrder_56 : decode cX3_addOrder 56 = .ok (.ireturn, 1) := by decide +kernel
theorem dX4_init_0 : decode cX4_init 0 = .ok (.aload_n 0, 1) := by decide +kernel
theorem dX4_init_1 : decode cX4_init 1 = .ok (.invokespecial 1, 3) := by decide +kernel
theorem dX4_init_4 : decode cX4_init 4 = .ok (.aload_n 0, 1) := by decide +kernel
theorem dX4_init_5 : decode cX4_init 5 = .ok (.bipush 63, 2) := by decide +kernel
theorem dX4_init_7 : decode cX4_init 7 = .ok (.newarray .int, 2) := by decide +kernel
theorem dX4_init_9 : decode cX4_init 9 = .ok (.putfield 9, 3) := by decide +kernel
theorem dX4_init_12 : decode cX4_init 12 = .ok (.aload_n 0, 1) := by decide +kernel
theorem dX4_init_13 : decode cX4_init 13 = .ok (.bipush 63, 2) := by decide +kernel
theorem dX4_init_15 : decode cX4_init 15 = .ok (.newarray .int, 2) := by decide +kernel
theorem dX4_init_17 : decode cX4_init 17 = .ok (.putfield 15, 3) := by decide +kernel
theorem dX4_init_20 : decode cX4_init 20 = .ok (.aload_n 0, 1) := by decide +kernel
theorem dX4_init_21 : decode cX4_init 21 = .ok (.bipush 63, 2) := by decide +kernel
theorem dX4_init_23 : decode cX4_init 23 = .ok (.newarray .int, 2) := by decide +kernel
theorem dX4_init_25 : decode cX4_init 25 = .ok (.putfield 18, 3) := by decide +kernel
theorem dX4_init_28 : decode cX4_init 28 = .ok (.aload_n 0, 1) := by decide +kernel
theorem dX4_init_29 : decode cX4_init 29 = .ok (.bipush 63, 2) := by decide +kernel
theorem dX4_init_31 : decode cX4_init 31 = .ok (.newarray .int, 2) := by decide +kernel
theorem dX4_init_33 : decode cX4_init 33 = .ok (.putfield 21, 3) := by decide +kernel
theorem dX4_init_36 : decode cX4_init 36 = .ok (.aload_n 0, 1) := by decide +kernel
theorem dX4_init_37 : decode cX4_init 37 = .ok (.iconst 2, 1) := by decide +kernel
theorem dX4_init_38 : decode cX4_init 38 = .ok (.newarray .int, 2) := by decide +kernel
theorem dX4_init_40 : decode cX4_init 40 = .ok (.dup, 1) := by decide +kernel
theorem dX4_init_41 : decode cX4_init 41 = .ok (.iconst 0, 1) := by decide +kernel
theorem dX4_init_42 : decode cX4_init 42 = .ok (.bipush 27, 2) := by decide +kernel
theorem dX4_init_44 : decode cX4_init 44 = .ok (.iastore, 1) := by decide +kernel
theorem dX4_init_45 : decode cX4_init 45 = .ok (.dup, 1) := by decide +kernel
theorem dX4_init_46 : decode cX4_init 46 = .ok (.iconst 1, 1) := by decide +kernel
theorem dX4_init_47 : decode cX4_init 47 = .ok (.bipush 35, 2) := by decide +kernel
theorem dX4_init_49 : decode cX4_init 49 = .ok (.iastore, 1) := by decide +kernel
theorem dX4_init_50 : decode cX4_init 50 = .ok (.putfield 24, 3) := by decide +kernel
theorem dX4_init_53 : decode cX4_init 53 = .ok (.aload_n 0, 1) := by decide +kernel
theorem dX4_init_54 : decode cX4_init 54 = .ok (.bipush 16, 2) := by decide +kernel
theorem dX4_init_56 : decode cX4_init 56 = .ok (.newarray .int, 2) := by decide +kernel
theorem dX4_init_58 : decode cX4_init 58 = .ok (.putfield 27, 3) := by decide +kernel
theorem dX4_init_61 : decode cX4_init 61 = .ok (.aload_n 0, 1) := by decide +kernel
theorem dX4_init_62 : decode cX4_init 62 = .ok (.bipush 16, 2) := by decide +kernel
theorem dX4_init_64 : decode cX4_init 64 = .ok (.newarray .int, 2) := by decide +kernel
theorem dX4_init_66 : decode cX4_init 66 = .ok (.putfield 30, 3) := by decide +kernel
theorem dX4_init_69 : decode cX4_init 69 = .ok (.aload_n 0, 1) := by decide +kernel
theorem dX4_init_70 : decode cX4_init 70 = .ok (.bipush 16, 2) := by decide +kernel
theorem dX4_init_72 : decode cX4_init 72 = .ok (.newarray .int, 2) := by decide +kernel
theorem dX4_init_74 : decode cX4_init 74 = .ok (.putfield 33, 3) := by decide +kernel
theorem dX4_init_77 : decode cX4_init 77 = .ok (.aload_n 0, 1) := by decide +kernel
theorem dX4_init_78 : decode cX4_init 78 = .ok (.bipush 16, 2) := by decide +kernel
theorem dX4_init_80 : decode cX4_init 80 = .ok (.newarray .int, 2) := by decide +kernel
theorem dX4_init_82 : decode cX4_init 82 = .ok (.putfield 36, 3) := by decide +kernel
theorem dX4_init_85 : decode cX4_init 85 = .ok (.aload_n 0, 1) := by decide +kernel
theorem dX4_init_86 : decode cX4_init 86 = .ok (.bipush 16, 2) := by decide +kernel
theorem dX4_init_88 : decode cX4_init 88 = .ok (.newarray .int, 2) := by decide +kernel
theorem dX4_init_90 : decode cX4_init 90 = .ok (.putfield 39, 3) := by decide +kernel
theorem dX4_init_93 : decode cX4_init 93 = .ok (.aload_n 0, 1) := by decide +kernel
theorem dX4_init_94 : decode cX4_init 94 = .ok (.bipush 16, 2) := by decide +kernel
theorem dX4_init_96 : decode cX4_init 96 = .ok (.newarray .int, 2) := by decide +kernel
theorem dX4_init_98 : decode cX4_init 98 = .ok (.putfield 42, 3) := by decide +kernel
theorem dX4_init_101 : decode cX4_init 101 = .ok (.aload_n 0, 1) := by decide +kernel
theorem dX4_init_102 : decode cX4_init 102 = .ok (.aload_n 1, 1) := by decide +kernel
theorem dX4_init_103 : decode cX4_init 103 = .ok (.putfield 45, 3) := by decide +kernel
theorem dX4_init_106 : decode cX4_init 106 = .ok (.aload_n 0, 1) := by decide +kernel
theorem dX4_init_107 : decode cX4_init 107 = .ok (.getfield 18, 3) := by decide +kernel
theorem dX4_init_110 : decode cX4_init 110 = .ok (.iconst (-1), 1) := by decide +kernel
theorem dX4_init_111 : decode cX4_init 111 = .ok (.invokestatic 49, 3) := by decide +kernel
theorem dX4_init_114 : decode cX4_init 114 = .ok (.aload_n 0, 1) := by decide +kernel
theorem dX4_init_115 : decode cX4_init 115 = .ok (.getfield 21, 3) := by decide +kernel
theorem dX4_init_118 : decode cX4_init 118 = .ok (.iconst (-1), 1) := by decide +kernel
theorem dX4_init_119 : decode cX4_init 119 = .ok (.invokestatic 49, 3) := by decide +kernel
theorem dX4_init_122 : decode cX4_init 122 = .ok (.return_, 1) := by decide +kernel
theorem dX4_copyFrom_0 : decode cX4_copyFrom 0 = .ok (.aload_n 1, 1) := by decide +kernel
theorem dX4_copyFrom_1 : decode cX4_copyFrom 1 = .ok (.getfield 9, 3) := by decide +kernel
theorem dX4_copyFrom_4 : decode cX4_copyFrom 4 = .ok (.iconst 0, 1) := by decide +kernel
theorem dX4_copyFrom_5 : decode cX4_copyFrom 5 = .ok (.aload_n 0, 1) := by decide +kernel
theorem dX4_copyFrom_6 : decode cX4_copyFrom 6 = .ok (.getfield 9, 3) := by decide +kernel
theorem dX4_copyFrom_9 : decode cX4_copyFrom 9 = .ok (.iconst 0, 1) := by decide +kernel
theorem dX4_copyFrom_10 : decode cX4_copyFrom 10 = .ok (.bipush 63, 2) := by decide +kernel
theorem dX4_copyFrom_12 : decode cX4_copyFrom 12 = .ok (.invokestatic 55, 3) := by decide +kernel
theorem dX4_copyFrom_15 : decode cX4_copyFrom 15 = .ok (.aload_n 1, 1) := by decide +kernel
theorem dX4_copyFrom_16 : decode cX4_copyFrom 16 = .ok (.getfield 15, 3) := by decide +kernel
theorem dX4_copyFrom_19 : decode cX4_copyFrom 19 = .ok (.iconst 0, 1) := by decide +kernel
theorem dX4_copyFrom_20 : decode cX4_copyFrom 20 = .ok (.aload_n 0, 1) := by decide +kernel
theorem dX4_copyFrom_21 : decode cX4_copyFrom 21 = .ok (.getfield 15, 3) := by decide +kernel
theorem dX4_copyFrom_24 : decode cX4_copyFrom 24 = .ok (.iconst 0, 1) := by decide +kernel
theorem dX4_copyFrom_25 : decode cX4_copyFrom 25 = .ok (.bipush 63, 2) := by decide +kernel
theorem dX4_copyFrom_27 : decode cX4_copyFrom 27 = .ok (.invokestatic 55, 3) := by decide +kernel
theorem dX4_copyFrom_30 : decode cX4_copyFrom 30 = .ok (.aload_n 1, 1) := by decide +kernel
theorem dX4_copyFrom_31 : decode cX4_copyFrom 31 = .ok (.getfield 18, 3) := by decide +kernel
theorem dX4_copyFrom_34 : decode cX4_copyFrom 34 = .ok (.iconst 0, 1) := by decide +kernel
theorem dX4_copyFrom_35 : decode cX4_copyFrom 35 = .ok (.aload_n 0, 1) := by decide +kernel
theorem dX4_copyFrom_36 : decode cX4_copyFrom 36 = .ok (.getfield 18, 3) := by decide +kernel
theorem dX4_copyFrom_39 : decode cX4_copyFrom 39 = .ok (.iconst 0, 1) := by decide +kernel
theorem dX4_copyFrom_40 : decode cX4_copyFrom 40 = .ok (.bipush 63, 2) := by decide +kernel
theorem dX4_copyFrom_42 : decode cX4_copyFrom 42 = .ok (.invokestatic 55, 3) := by decide +kernel
theorem dX4_copyFrom_45 : decode cX4_copyFrom 45 = .ok (.aload_n 1, 1) := by decide +kernel
theorem dX4_copyFrom_46 : decode cX4_copyFrom 46 = .ok (.getfield 21, 3) := by decide +kernel
theorem dX4_copyFrom_49 : decode cX4_copyFrom 49 = .ok (.iconst 0, 1) := by decide +kernel
theorem dX4_copyFrom_50 : decode cX4_copyFrom 50 = .ok (.aload_n 0, 1) := by decide +kernel
theorem dX4_copyFrom_51 : decode cX4_copyFrom 51 = .ok (.getfield 21, 3) := by decide +kernel
theorem dX4_copyFrom_54 : decode cX4_copyFrom 54 = .ok (.iconst 0, 1) := by decide +kernel
theorem dX4_copyFrom_55 : decode cX4_copyFrom 55 = .ok (.bipush 63, 2) := by decide +kernel
theorem dX4_copyFrom_57 : decode cX4_copyFrom 57 = .ok (.invokestatic 55, 3) := by decide +kernel
theorem dX4_copyFrom_60 : decode cX4_copyFrom 60 = .ok (.aload_n 1, 1) := by decide +kernel
theorem dX4_copyFrom_61 : decode cX4_copyFrom 61 = .ok (.getfield 24, 3) := by decide +kernel
theorem dX4_copyFrom_64 : decode cX4_copyFrom 64 = .ok (.iconst 0, 1) := by decide +kernel
theorem dX4_copyFrom_65 : decode cX4_copyFrom 65 = .ok (.aload_n 0, 1) := by decide +kernel
theorem dX4_copyFrom_66 : decode cX4_copyFrom 66 = .ok (.getfield 24, 3) := by decide +kernel
theorem dX4_copyFrom_69 : decode cX4_copyFrom 69 = .ok (.iconst 0, 1) := by decide +kernel
theorem dX4_copyFrom_70 : decode cX4_copyFrom 70 = .ok (.iconst 2, 1) := by decide +kernel
theorem dX4_copyFrom_71 : decode cX4_copyFrom 71 = .ok (.invokestatic 55, 3) := by decide +kernel
theorem dX4_copyFrom_74 : decode cX4_copyFrom 74 = .ok (.aload_n 0, 1) := by decide +kernel
theorem dX4_copyFrom_75 : decode cX4_copyFrom 75 = .ok (.aload_n 1, 1) := by decide +kernel
theorem dX4_copyFrom_76 : decode cX4_copyFrom 76 = .ok (.getfield 61, 3) := by decide +kernel
theorem dX4_copyFrom_79 : decode cX4_copyFrom 79 = .ok (.putfield 61, 3) := by decide +kernel
theorem dX4_copyFrom_82 : decode cX4_copyFrom 82 = .ok (.aload_n 1, 1) := by decide +kernel
theorem dX4_copyFrom_83 : decode cX4_copyFrom 83 = .ok (.getfield 27, 3) := by decide +kernel
theorem dX4_copyFrom_86 : decode cX4_copyFrom 86 = .ok (.iconst 0, 1) := by decide +kernel
theorem dX4_copyFrom_87 : decode cX4_copyFrom 87 = .ok (.aload_n 0, 1) := by decide +kernel
theorem dX4_copyFrom_88 : decode cX4_copyFrom 88 = .ok (.getfield 27, 3) := by decide +kernel
theorem dX4_copyFrom_91 : decode cX4_copyFrom 91 = .ok (.iconst 0, 1) := by decide +kernel
theorem dX4_copyFrom_92 : decode cX4_copyFrom 92 = .ok (.bipush 16, 2) := by decide +kernel
theorem dX4_copyFrom_94 : decode cX4_copyFrom 94 = .ok (.invokestatic 55, 3) := by decide +kernel
theorem dX4_copyFrom_97 : decode cX4_copyFrom 97 = .ok (.aload_n 1, 1) := by decide +kernel
theorem dX4_copyFrom_98 : decode cX4_copyFrom 98 = .ok (.getfield 30, 3) := by decide +kernel
theorem dX4_copyFrom_101 : decode cX4_copyFrom 101 = .ok (.iconst 0, 1) := by decide +kernel
theorem dX4_copyFrom_102 : decode cX4_copyFrom 102 = .ok (.aload_n 0, 1) := by decide +kernel
theorem dX4_copyFrom_103 : decode cX4_copyFrom 103 = .ok (.getfield 30, 3) := by decide +kernel
theorem dX4_copyFrom_106 : decode cX4_copyFrom 106 = .ok (.iconst 0, 1) := by decide +kernel
theorem dX4_copyFrom_107 : decode cX4_copyFrom 107 = .ok (.bipush 16, 2) := by decide +kernel
theorem dX4_copyFrom_109 : decode cX4_copyFrom 109 = .ok (.invokestatic 55, 3) := by decide +kernel
theorem dX4_copyFrom_112 : decode cX4_copyFrom 112 = .ok (.aload_n 1, 1) := by decide +kernel
theorem dX4_copyFrom_113 : decode cX4_copyFrom 113 = .ok (.getfield 33, 3) := by decide +kernel
theorem dX4_copyFrom_116 : decode cX4_copyFrom 116 = .ok (.iconst 0, 1) := by decide +kernel
theorem dX4_copyFrom_117 : decode cX4_copyFrom 117 = .ok (.aload_n 0, 1) := by decide +kernel
theorem dX4_copyFrom_118 : decode cX4_copyFrom 118 = .ok (.getfield 33, 3) := by decide +kernel
theorem dX4_copyFrom_121 : decode cX4_copyFrom 121 = .ok (.iconst 0, 1) := by decide +kernel
theorem dX4_copyFrom_122 : decode cX4_copyFrom 122 = .ok (.bipush 16, 2) := by decide +kernel
theorem dX4_copyFrom_124 : decode cX4_copyFrom 124 = .ok (.invokestatic 55, 3) := by decide +kernel
theorem dX4_copyFrom_127 : decode cX4_copyFrom 127 = .ok (.aload_n 1, 1) := by decide +kernel
theorem dX4_copyFrom_128 : decode cX4_copyFrom 128 = .ok (.getfield 36, 3) := by decide +kernel
theorem dX4_copyFrom_131 : decode cX4_copyFrom 131 = .ok (.iconst 0, 1) := by decide +kernel
theorem dX4_copyFrom_132 : decode cX4_copyFrom 132 = .ok (.aload_n 0, 1) := by decide +kernel
theorem dX4_copyFrom_133 : decode cX4_copyFrom 133 = .ok (.getfield 36, 3) := by decide +kernel
theorem dX4_copyFrom_136 : decode cX4_copyFrom 136 = .ok (.iconst 0, 1) := by decide +kernel
theorem dX4_copyFrom_137 : decode cX4_copyFrom 137 = .ok (.bipush 16, 2) := by decide +kernel
theorem dX4_copyFrom_139 : decode cX4_copyFrom 139 = .ok (.invokestatic 55, 3) := by decide +kernel
theorem dX4_copyFrom_142 : decode cX4_copyFrom 142 = .ok (.aload_n 1, 1) := by decide +kernel
theorem dX4_copyFrom_143 : decode cX4_copyFrom 143 = .ok (.getfield 39, 3) := by decide +kernel
theorem dX4_copyFrom_146 : decode cX4_copyFrom 146 = .ok (.iconst 0, 1) := by decide +kernel
theorem dX4_copyFrom_147 : decode cX4_copyFrom 147 = .ok (.aload_n 0, 1) := by decide +kernel
theorem dX4_copyFrom_148 : decode cX4_copyFrom 148 = .ok (.getfield 39, 3) := by decide +kernel
theorem dX4_copyFrom_151 : decode cX4_copyFrom 151 = .ok (.iconst 0, 1) := by decide +kernel
theorem dX4_copyFrom_152 : decode cX4_copyFrom 152 = .ok (.bipush 16, 2) := by decide +kernel
theorem dX4_copyFrom_154 : decode cX4_copyFrom 154 = .ok (.invokestatic 55, 3) := by decide +kernel
theorem dX4_copyFrom_157 : decode cX4_copyFrom 157 = .ok (.aload_n 1, 1) := by decide +kernel
theorem dX4_copyFrom_158 : decode cX4_copyFrom 158 = .ok (.getfield 42, 3) := by decide +kernel
theorem dX4_copyFrom_161 : decode cX4_copyFrom 161 = .ok (.iconst 0, 1) := by decide +kernel
theorem dX4_copyFrom_162 : decode cX4_copyFrom 162 = .ok (.aload_n 0, 1) := by decide +kernel
theorem dX4_copyFrom_163 : decode cX4_copyFrom 163 = .ok (.getfield 42, 3) := by decide +kernel
theorem dX4_copyFrom_166 : decode cX4_copyFrom 166 = .ok (.iconst 0, 1) := by decide +kernel
theorem dX4_copyFrom_167 : decode cX4_copyFrom 167 = .ok (.bipush 16, 2) := by decide +kernel
theorem dX4_copyFrom_169 : decode cX4_copyFrom 169 = .ok (.invokestatic 55, 3) := by decide +kernel
theorem dX4_copyFrom_172 : decode cX4_copyFrom 172 = .ok (.aload_n 0, 1) := by decide +kernel
theorem dX4_copyFrom_173 : decode cX4_copyFrom 173 = .ok (.aload_n 1, 1) := by decide +kernel
theorem dX4_copyFrom_174 : decode cX4_copyFrom 174 = .ok (.getfield 65, 3) := by decide +kernel
theorem dX4_copyFrom_177 : decode cX4_copyFrom 177 = .ok (.putfield 65, 3) := by decide +kernel
theorem dX4_copyFrom_180 : decode cX4_copyFrom 180 = .ok (.return_, 1) := by decide +kernel
theorem dX4_sideInTurn_0 : decode cX4_sideInTurn 0 = .ok (.aload_n 0, 1) := by decide +kernel
theorem dX4_sideInTurn_1 : decode cX4_sideInTurn 1 = .ok (.getfield 65, 3) := by decide +kernel
theorem dX4_sideInTurn_4 : decode cX4_sideInTurn 4 = .ok (.iconst 2, 1) := by decide +kernel
theorem dX4_sideInTurn_5 : decode cX4_sideInTurn 5 = .ok (.irem, 1) := by decide +kernel
theorem dX4_sideInTurn_6 : decode cX4_sideInTurn 6 = .ok (.ireturn, 1) := by decide +kernel
theorem dX4_isUnit_0 : decode cX4_isUnit 0 = .ok (.iload_n 1, 1) := by decide +kernel
theorem dX4_isUnit_1 : decode cX4_isUnit 1 = .ok (.ifCond .lt 30, 3) := by decide +kernel
theorem dX4_isUnit_4 : decode cX4_isUnit 4 = .ok (.iload_n 1, 1) := by decide +kernel
theorem dX4_isUnit_5 : decode cX4_isUnit 5 = .ok (.aload_n 0, 1) := by decide +kernel
theorem dX4_isUnit_6 : decode cX4_isUnit 6 = .ok (.getfield 61, 3) := by decide +kernel
theorem dX4_isUnit_9 : decode cX4_isUnit 9 = .ok (.if_icmp .ge 22, 3) := by decide +kernel
theorem dX4_isUnit_12 : decode cX4_isUnit 12 = .ok (.iload_n 1, 1) := by decide +kernel
theorem dX4_isUnit_13 : decode cX4_isUnit 13 = .ok (.bipush 16, 2) := by decide +kernel
theorem dX4_isUnit_15 : decode cX4_isUnit 15 = .ok (.if_icmp .ge 16, 3) := by decide +kernel
theorem dX4_isUnit_18 : decode cX4_isUnit 18 = .ok (.aload_n 0, 1) := by decide +kernel
theorem dX4_isUnit_19 : decode cX4_isUnit 19 = .ok (.getfield 30, 3) := by decide +kernel
theorem dX4_isUnit_22 : decode cX4_isUnit 22 = .ok (.iload_n 1, 1) := by decide +kernel
theorem dX4_isUnit_23 : decode cX4_isUnit 23 = .ok (.iaload, 1) := by decide +kernel
theorem dX4_isUnit_24 : decode cX4_isUnit 24 = .ok (.ifCond .le 7, 3) := by decide +kernel
theorem dX4_isUnit_27 : decode cX4_isUnit 27 = .ok (.iconst 1, 1) := by decide +kernel
theorem dX4_isUnit_28 : decode cX4_isUnit 28 = .ok (.goto 4, 3) := by decide +kernel
theorem dX4_isUnit_31 : decode cX4_isUnit 31 = .ok (.iconst 0, 1) := by decide +kernel
theorem dX4_isUnit_32 : decode cX4_isUnit 32 = .ok (.ireturn, 1) := by decide +kernel
theorem dX4_isUnitOf_0 : decode cX4_isUnitOf 0 = .ok (.aload_n 0, 1) := by decide +kernel
theorem dX4_isUnitOf_1 : decode cX4_isUnitOf 1 = .ok (.iload_n 1, 1) := by decide +kernel
theorem dX4_isUnitOf_2 : decode cX4_isUnitOf 2 = .ok (.invokevirtual 68, 3) := by decide +kernel
theorem dX4_isUnitOf_5 : decode cX4_isUnitOf 5 = .ok (.ifCond .eq 17, 3) := by decide +kernel
theorem dX4_isUnitOf_8 : decode cX4_isUnitOf 8 = .ok (.aload_n 0, 1) := by decide +kernel
theorem dX4_isUnitOf_9 : decode cX4_isUnitOf 9 = .ok (.getfield 27, 3) := by decide +kernel
theorem dX4_isUnitOf_12 : decode cX4_isUnitOf 12 = .ok (.iload_n 1, 1) := by decide +kernel
theorem dX4_isUnitOf_13 : decode cX4_isUnitOf 13 = .ok (.iaload, 1) := by decide +kernel
theorem dX4_isUnitOf_14 : decode cX4_isUnitOf 14 = .ok (.iload_n 2, 1) := by decide +kernel
theorem dX4_isUnitOf_15 : decode cX4_isUnitOf 15 = .ok (.if_icmp .ne 7, 3) := by decide +kernel
theorem dX4_isUnitOf_18 : decode cX4_isUnitOf 18 = .ok (.iconst 1, 1) := by decide +kernel
theorem dX4_isUnitOf_19 : decode cX4_isUnitOf 19 = .ok (.goto 4, 3) := by decide +kernel
theorem dX4_isUnitOf_22 : decode cX4_isUnitOf 22 = .ok (.iconst 0, 1) := by decide +kernel
theorem dX4_isUnitOf_23 : decode cX4_isUnitOf 23 = .ok (.ireturn, 1) := by decide +kernel
theorem dX4_sideOn_0 : decode cX4_sideOn 0 = .ok (.aload_n 0, 1) := by decide +kernel
theorem dX4_sideOn_1 : decode cX4_sideOn 1 = .ok (.getfield 21, 3) := by decide +kernel
theorem dX4_sideOn_4 : decode cX4_sideOn 4 = .ok (.iload_n 1, 1) := by decide +kernel
theorem dX4_sideOn_5 : decode cX4_sideOn 5 = .ok (.iaload, 1) := by decide +kernel
theorem dX4_sideOn_6 : decode cX4_sideOn 6 = .ok (.istore_n 2, 1) := by decide +kernel
theorem dX4_sideOn_7 : decode cX4_sideOn 7 = .ok (.iload_n 2, 1) := by decide +kernel
theorem dX4_sideOn_8 : decode cX4_sideOn 8 = .ok (.ifCond .lt 18, 3) := by decide +kernel
theorem dX4_sideOn_11 : decode cX4_sideOn 11 = .ok (.iload_n 2, 1) := by decide +kernel
theorem dX4_sideOn_12 : decode cX4_sideOn 12 = .ok (.bipush 16, 2) := by decide +kernel
theorem dX4_sideOn_14 : decode cX4_sideOn 14 = .ok (.if_icmp .ge 12, 3) := by decide +kernel
theorem dX4_sideOn_17 : decode cX4_sideOn 17 = .ok (.aload_n 0, 1) := by decide +kernel
theorem dX4_sideOn_18 : decode cX4_sideOn 18 = .ok (.getfield 27, 3) := by decide +kernel
theorem dX4_sideOn_21 : decode cX4_sideOn 21 = .ok (.iload_n 2, 1) := by decide +kernel
theorem dX4_sideOn_22 : decode cX4_sideOn 22 = .ok (.iaload, 1) := by decide +kernel
theorem dX4_sideOn_23 : decode cX4_sideOn 23 = .ok (.goto 4, 3) := by decide +kernel
theorem dX4_sideOn_26 : decode cX4_sideOn 26 = .ok (.iconst (-1), 1) := by decide +kernel
theorem dX4_sideOn_27 : decode cX4_sideOn 27 = .ok (.ireturn, 1) := by decide +kernel
theorem dX4_hasFort_0 : decode cX4_hasFort 0 = .ok (.aload_n 0, 1) := by decide +kernel
theorem dX4_hasFort_1 : decode cX4_hasFort 1 = .ok (.getfield 18, 3) := by decide +kernel
theorem dX4_hasFort_4 : decode cX4_hasFort 4 = .ok (.iload_n 1, 1) := by decide +kernel
theorem dX4_hasFort_5 : decode cX4_hasFort 5 = .ok (.iaload, 1) := by decide +kernel
theorem dX4_hasFort_6 : decode cX4_hasFort 6 = .ok (.iconst (-1), 1) := by decide +kernel
theorem dX4_hasFort_7 : decode cX4_hasFort 7 = .ok (.if_icmp .eq 7, 3) := by decide +kernel
theorem dX4_hasFort_10 : decode cX4_hasFort 10 = .ok (.iconst 1, 1) := by decide +kernel
theorem dX4_hasFort_11 : decode cX4_hasFort 11 = .ok (.goto 4, 3) := by decide +kernel
theorem dX4_hasFort_14 : decode cX4_hasFort 14 = .ok (.iconst 0, 1) := by decide +kernel
theorem dX4_hasFort_15 : decode cX4_hasFort 15 = .ok (.ireturn, 1) := by decide +kernel
theorem dX4_hasRiver_0 : decode cX4_hasRiver 0 = .ok (.aload_n 0, 1) := by decide +kernel
theorem dX4_hasRiver_1 : decode cX4_hasRiver 1 = .ok (.getfield 15, 3) := by decide +kernel
theorem dX4_hasRiver_4 : decode cX4_hasRiver 4 = .ok (.iload_n 1, 1) := by decide +kernel
theorem dX4_hasRiver_5 : decode cX4_hasRiver 5 = .ok (.iaload, 1) := by decide +kernel
theorem dX4_hasRiver_6 : decode cX4_hasRiver 6 = .ok (.iload_n 2, 1) := by decide +kernel
theorem dX4_hasRiver_7 : decode cX4_hasRiver 7 = .ok (.ishr, 1) := by decide +kernel
theorem dX4_hasRiver_8 : decode cX4_hasRiver 8 = .ok (.iconst 1, 1) := by decide +kernel
theorem dX4_hasRiver_9 : decode cX4_hasRiver 9 = .ok (.iand, 1) := by decide +kernel
theorem dX4_hasRiver_10 : decode cX4_hasRiver 10 = .ok (.iconst 1, 1) := by decide +kernel
theorem dX4_hasRiver_11 : decode cX4_hasRiver 11 = .ok (.if_icmp .ne 7, 3) := by decide +kernel
theorem dX4_hasRiver_14 : decode cX4_hasRiver 14 = .ok (.iconst 1, 1) := by decide +kernel
theorem dX4_hasRiver_15 : decode cX4_hasRiver 15 = .ok (.goto 4, 3) := by decide +kernel
theorem dX4_hasRiver_18 : decode cX4_hasRiver 18 = .ok (.iconst 0, 1) := by decide +kernel
theorem dX4_hasRiver_19 : decode cX4_hasRiver 19 = .ok (.ireturn, 1) := by decide +kernel
theorem dX4_addUnit_0 : decode cX4_addUnit 0 = .ok (.aload_n 0, 1) := by decide +kernel
theorem dX4_addUnit_1 : decode cX4_addUnit 1 = .ok (.getfield 61, 3) := by decide +kernel
theorem dX4_addUnit_4 : decode cX4_addUnit 4 = .ok (.istore 4, 2) := by decide +kernel
theorem dX4_addUnit_6 : decode cX4_addUnit 6 = .ok (.aload_n 0, 1) := by decide +kernel
theorem dX4_addUnit_7 : decode cX4_addUnit 7 = .ok (.dup, 1) := by decide +kernel
theorem dX4_addUnit_8 : decode cX4_addUnit 8 = .ok (.getfield 61, 3) := by decide +kernel
theorem dX4_addUnit_11 : decode cX4_addUnit 11 = .ok (.iconst 1, 1) := by decide +kernel
theorem dX4_addUnit_12 : decode cX4_addUnit 12 = .ok (.iadd, 1) := by decide +kernel
theorem dX4_addUnit_13 : decode cX4_addUnit 13 = .ok (.putfield 61, 3) := by decide +kernel
theorem dX4_addUnit_16 : decode cX4_addUnit 16 = .ok (.aload_n 0, 1) := by decide +kernel
theorem dX4_addUnit_17 : decode cX4_addUnit 17 = .ok (.getfield 27, 3) := by decide +kernel
theorem dX4_addUnit_20 : decode cX4_addUnit 20 = .ok (.iload 4, 2) := by decide +kernel
theorem dX4_addUnit_22 : decode cX4_addUnit 22 = .ok (.iload_n 1, 1) := by decide +kernel
theorem dX4_addUnit_23 : decode cX4_addUnit 23 = .ok (.iastore, 1) := by decide +kernel
theorem dX4_addUnit_24 : decode cX4_addUnit 24 = .ok (.aload_n 0, 1) := by decide +kernel
theorem dX4_addUnit_25 : decode cX4_addUnit 25 = .ok (.getfield 30, 3) := by decide +kernel
theorem dX4_addUnit_28 : decode cX4_addUnit 28 = .ok (.iload 4, 2) := by decide +kernel
theorem dX4_addUnit_30 : decode cX4_addUnit 30 = .ok (.iload_n 2, 1) := by decide +kernel
theorem dX4_addUnit_31 : decode cX4_addUnit 31 = .ok (.iastore, 1) := by decide +kernel
theorem dX4_addUnit_32 : decode cX4_addUnit 32 = .ok (.aload_n 0, 1) := by decide +kernel
theorem dX4_addUnit_33 : decode cX4_addUnit 33 = .ok (.getfield 36, 3) := by decide +kernel
theorem dX4_addUnit_36 : decode cX4_addUnit 36 = .ok (.iload 4, 2) := by decide +kernel
theorem dX4_addUnit_38 : decode cX4_addUnit 38 = .ok (.iconst 4, 1) := by decide +kernel
theorem dX4_addUnit_39 : decode cX4_addUnit 39 = .ok (.iastore, 1) := by decide +kernel
theorem dX4_addUnit_40 : decode cX4_addUnit 40 = .ok (.aload_n 0, 1) := by decide +kernel
theorem dX4_addUnit_41 : decode cX4_addUnit 41 = .ok (.getfield 39, 3) := by decide +kernel
theorem dX4_addUnit_44 : decode cX4_addUnit 44 = .ok (.iload 4, 2) := by decide +kernel
theorem dX4_addUnit_46 : decode cX4_addUnit 46 = .ok (.iconst 1, 1) := by decide +kernel
theorem dX4_addUnit_47 : decode cX4_addUnit 47 = .ok (.iastore, 1) := by decide +kernel
theorem dX4_addUnit_48 : decode cX4_addUnit 48 = .ok (.aload_n 0, 1) := by decide +kernel
theorem dX4_addUnit_49 : decode cX4_addUnit 49 = .ok (.getfield 42, 3) := by decide +kernel
theorem dX4_addUnit_52 : decode cX4_addUnit 52 = .ok (.iload 4, 2) := by decide +kernel
theorem dX4_addUnit_54 : decode cX4_addUnit 54 = .ok (.iconst 0, 1) := by decide +kernel
theorem dX4_addUnit_55 : decode cX4_addUnit 55 = .ok (.iastore, 1) := by decide +kernel
theorem dX4_addUnit_56 : decode cX4_addUnit 56 = .ok (.aload_n 0, 1) := by decide +kernel
theorem dX4_addUnit_57 : decode cX4_addUnit 57 = .ok (.iload 4, 2) := by decide +kernel
theorem dX4_addUnit_59 : decode cX4_addUnit 59 = .ok (.iload_n 3, 1) := by decide +kernel
theorem dX4_addUnit_60 : decode cX4_addUnit 60 = .ok (.invokevirtual 72, 3) := by decide +kernel
theorem dX4_addUnit_63 : decode cX4_addUnit 63 = .ok (.iload 4, 2) := by decide +kernel
theorem dX4_addUnit_65 : decode cX4_addUnit 65 = .ok (.ireturn, 1) := by decide +kernel
theorem dX4_shift_0 : decode cX4_shift 0 = .ok (.aload_n 0, 1) := by decide +kernel
theorem dX4_shift_1 : decode cX4_shift 1 = .ok (.getfield 21, 3) := by decide +kernel
theorem dX4_shift_4 : decode cX4_shift 4 = .ok (.aload_n 0, 1) := by decide +kernel
theorem dX4_shift_5 : decode cX4_shift 5 = .ok (.getfield 33, 3) := by decide +kernel
theorem dX4_shift_8 : decode cX4_shift 8 = .ok (.iload_n 1, 1) := by decide +kernel
theorem dX4_shift_9 : decode cX4_shift 9 = .ok (.iaload, 1) := by decide +kernel
theorem dX4_shift_10 : decode cX4_shift 10 = .ok (.iconst (-1), 1) := by decide +kernel
theorem dX4_shift_11 : decode cX4_shift 11 = .ok (.iastore, 1) := by decide +kernel
theorem dX4_shift_12 : decode cX4_shift 12 = .ok (.aload_n 0, 1) := by decide +kernel
theorem dX4_shift_13 : decode cX4_shift 13 = .ok (.iload_n 1, 1) := by decide +kernel
theorem dX4_shift_14 : decode cX4_shift 14 = .ok (.iload_n 2, 1) := by decide +kernel
theorem dX4_shift_15 : decode cX4_shift 15 = .ok (.invokevirtual 72, 3) := by decide +kernel
theorem dX4_shift_18 : decode cX4_shift 18 = .ok (.return_, 1) := by decide +kernel
theorem dX4_stand_0 : decode cX4_stand 0 = .ok (.aload_n 0, 1) := by decide +kernel
theorem dX4_stand_1 : decode cX4_stand 1 = .ok (.getfield 33, 3) := by decide +kernel
theorem dX4_stand_4 : decode cX4_stand 4 = .ok (.iload_n 1, 1) := by decide +kernel
theorem dX4_stand_5 : decode cX4_stand 5 = .ok (.iload_n 2, 1) := by decide +kernel
theorem dX4_stand_6 : decode cX4_stand 6 = .ok (.iastore, 1) := by decide +kernel
theorem dX4_stand_7 : decode cX4_stand 7 = .ok (.aload_n 0, 1) := by decide +kernel
theorem dX4_stand_8 : decode cX4_stand 8 = .ok (.getfield 21, 3) := by decide +kernel
theorem dX4_stand_11 : decode cX4_stand 11 = .ok (.iload_n 2, 1) := by decide +kernel
theorem dX4_stand_12 : decode cX4_stand 12 = .ok (.iload_n 1, 1) := by decide +kernel
theorem dX4_stand_13 : decode cX4_stand 13 = .ok (.iastore, 1) := by decide +kernel
theorem dX4_stand_14 : decode cX4_stand 14 = .ok (.aload_n 0, 1) := by decide +kernel
theorem dX4_stand_15 : decode cX4_stand 15 = .ok (.iload_n 2, 1) := by decide +kernel
theorem dX4_stand_16 : decode cX4_stand 16 = .ok (.invokevirtual 76, 3) := by decide +kernel
theorem dX4_stand_19 : decode cX4_stand 19 = .ok (.return_, 1) := by decide +kernel
theorem dX4_giveFortToUnit_0 : decode cX4_giveFortToUnit 0 = .ok (.aload_n 0, 1) := by decide +kernel
theorem dX4_giveFortToUnit_1 : decode cX4_giveFortToUnit 1 = .ok (.iload_n 1, 1) := by decide +kernel
theorem dX4_giveFortToUnit_2 : decode cX4_giveFortToUnit 2 = .ok (.invokevirtual 80, 3) := by decide +kernel
theorem dX4_giveFortToUnit_5 : decode cX4_giveFortToUnit 5 = .ok (.ifCond .eq 23, 3) := by decide +kernel
theorem dX4_giveFortToUnit_8 : decode cX4_giveFortToUnit 8 = .ok (.aload_n 0, 1) := by decide +kernel
theorem dX4_giveFortToUnit_9 : decode cX4_giveFortToUnit 9 = .ok (.iload_n 1, 1) := by decide +kernel
theorem dX4_giveFortToUnit_10 : decode cX4_giveFortToUnit 10 = .ok (.invokevirtual 83, 3) := by decide +kernel
theorem dX4_giveFortToUnit_13 : decode cX4_giveFortToUnit 13 = .ok (.iconst (-1), 1) := by decide +kernel
theorem dX4_giveFortToUnit_14 : decode cX4_giveFortToUnit 14 = .ok (.if_icmp .eq 14, 3) := by decide +kernel
theorem dX4_giveFortToUnit_17 : decode cX4_giveFortToUnit 17 = .ok (.aload_n 0, 1) := by decide +kernel
theorem dX4_giveFortToUnit_18 : decode cX4_giveFortToUnit 18 = .ok (.getfield 18, 3) := by decide +kernel
theorem dX4_giveFortToUnit_21 : decode cX4_giveFortToUnit 21 = .ok (.iload_n 1, 1) := by decide +kernel
theorem dX4_giveFortToUnit_22 : decode cX4_giveFortToUnit 22 = .ok (.aload_n 0, 1) := by decide +kernel
theorem dX4_giveFortToUnit_23 : decode cX4_giveFortToUnit 23 = .ok (.iload_n 1, 1) := by decide +kernel
theorem dX4_giveFortToUnit_24 : decode cX4_giveFortToUnit 24 = .ok (.invokevirtual 83, 3) := by decide +kernel
theorem dX4_giveFortToUnit_27 : decode cX4_giveFortToUnit 27 = .ok (.iastore, 1) := by decide +kernel
theorem dX4_giveFortToUnit_28 : decode cX4_giveFortToUnit 28 = .ok (.return_, 1) := by decide +kernel
theorem dX4_setStrength_0 : decode cX4_setStrength 0 = .ok (.aload_n 0, 1) := by decide +kernel
theorem dX4_setStrength_1 : decode cX4_setStrength 1 = .ok (.getfield 30, 3) := by decide +kernel
theorem dX4_setStrength_4 : decode cX4_setStrength 4 = .ok (.iload_n 1, 1) := by decide +kernel
theorem dX4_setStrength_5 : decode cX4_setStrength 5 = .ok (.iload_n 2, 1) := by decide +kernel
theorem dX4_setStrength_6 : decode cX4_setStrength 6 = .ok (.iconst 0, 1) := by decide +kernel
theorem dX4_setStrength_7 : decode cX4_setStrength 7 = .ok (.invokestatic 87, 3) := by decide +kernel
theorem dX4_setStrength_10 : decode cX4_setStrength 10 = .ok (.iastore, 1) := by decide +kernel
theorem dX4_setStrength_11 : decode cX4_setStrength 11 = .ok (.aload_n 0, 1) := by decide +kernel
theorem dX4_setStrength_12 : decode cX4_setStrength 12 = .ok (.getfield 30, 3) := by decide +kernel
theorem dX4_setStrength_15 : decode cX4_setStrength 15 = .ok (.iload_n 1, 1) := by decide +kernel
theorem dX4_setStrength_16 : decode cX4_setStrength 16 = .ok (.iaload, 1) := by decide +kernel
theorem dX4_setStrength_17 : decode cX4_setStrength 17 = .ok (.ifCond .ne 15, 3) := by decide +kernel
theorem dX4_setStrength_20 : decode cX4_setStrength 20 = .ok (.aload_n 0, 1) := by decide +kernel
theorem dX4_setStrength_21 : decode cX4_setStrength 21 = .ok (.getfield 21, 3) := by decide +kernel
theorem dX4_setStrength_24 : decode cX4_setStrength 24 = .ok (.aload_n 0, 1) := by decide +kernel
theorem dX4_setStrength_25 : decode cX4_setStrength 25 = .ok (.getfield 33, 3) := by decide +kernel
theorem dX4_setStrength_28 : decode cX4_setStrength 28 = .ok (.iload_n 1, 1) := by decide +kernel
theorem dX4_setStrength_29 : decode cX4_setStrength 29 = .ok (.iaload, 1) := by decide +kernel
theorem dX4_setStrength_30 : decode cX4_setStrength 30 = .ok (.iconst (-1), 1) := by decide +kernel
theorem dX4_setStrength_31 : decode cX4_setStrength 31 = .ok (.iastore, 1) := by decide +kernel
theorem dX4_setStrength_32 : decode cX4_setStrength 32 = .ok (.return_, 1) := by decide +kernel
theorem dX4_refresh_0 : decode cX4_refresh 0 = .ok (.iconst 0, 1) := by decide +kernel
theorem dX4_refresh_1 : decode cX4_refresh 1 = .ok (.istore_n 2, 1) := by decide +kernel
theorem dX4_refresh_2 : decode cX4_refresh 2 = .ok (.iload_n 2, 1) := by decide +kernel
theorem dX4_refresh_3 : decode cX4_refresh 3 = .ok (.aload_n 0, 1) := by decide +kernel
theorem dX4_refresh_4 : decode cX4_refresh 4 = .ok (.getfield 61, 3) := by decide +kernel
theorem dX4_refresh_7 : decode cX4_refresh 7 = .ok (.if_icmp .ge 32, 3) := by decide +kernel
theorem dX4_refresh_10 : decode cX4_refresh 10 = .ok (.aload_n 0, 1) := by decide +kernel
theorem dX4_refresh_11 : decode cX4_refresh 11 = .ok (.iload_n 2, 1) := by decide +kernel
theorem dX4_refresh_12 : decode cX4_refresh 12 = .ok (.iload_n 1, 1) := by decide +kernel
theorem dX4_refresh_13 : decode cX4_refresh 13 = .ok (.invokevirtual 93, 3) := by decide +kernel
theorem dX4_refresh_16 : decode cX4_refresh 16 = .ok (.ifCond .eq 17, 3) := by decide +kernel
theorem dX4_refresh_19 : decode cX4_refresh 19 = .ok (.aload_n 0, 1) := by decide +kernel
theorem dX4_refresh_20 : decode cX4_refresh 20 = .ok (.getfield 36, 3) := by decide +kernel
theorem dX4_refresh_23 : decode cX4_refresh 23 = .ok (.iload_n 2, 1) := by decide +kernel
theorem dX4_refresh_24 : decode cX4_refresh 24 = .ok (.iconst 4, 1) := by decide +kernel
theorem dX4_refresh_25 : decode cX4_refresh 25 = .ok (.iastore, 1) := by decide +kernel
theorem dX4_refresh_26 : decode cX4_refresh 26 = .ok (.aload_n 0, 1) := by decide +kernel
theorem dX4_refresh_27 : decode cX4_refresh 27 = .ok (.getfield 39, 3) := by decide +kernel
theorem dX4_refresh_30 : decode cX4_refresh 30 = .ok (.iload_n 2, 1) := by decide +kernel
theorem dX4_refresh_31 : decode cX4_refresh 31 = .ok (.iconst 1, 1) := by decide +kernel
theorem dX4_refresh_32 : decode cX4_refresh 32 = .ok (.iastore, 1) := by decide +kernel
theorem dX4_refresh_33 : decode cX4_refresh 33 = .ok (.iinc 2 1, 3) := by decide +kernel
theorem dX4_refresh_36 : decode cX4_refresh 36 = .ok (.goto (-34), 3) := by decide +kernel
theorem dX4_refresh_39 : decode cX4_refresh 39 = .ok (.return_, 1) := by decide +kernel
theorem dX4_inZone_0 : decode cX4_inZone 0 = .ok (.iconst 0, 1) := by decide +kernel
theorem dX4_inZone_1 : decode cX4_inZone 1 = .ok (.istore_n 3, 1) := by decide +kernel
theorem dX4_inZone_2 : decode cX4_inZone 2 = .ok (.iload_n 3, 1) := by decide +kernel
theorem dX4_inZone_3 : decode cX4_inZone 3 = .ok (.bipush 6, 2) := by decide +kernel
theorem dX4_inZone_5 : decode cX4_inZone 5 = .ok (.if_icmp .ge 45, 3) := by decide +kernel
theorem dX4_inZone_8 : decode cX4_inZone 8 = .ok (.aload_n 0, 1) := by decide +kernel
theorem dX4_inZone_9 : decode cX4_inZone 9 = .ok (.getfield 45, 3) := by decide +kernel
theorem dX4_inZone_12 : decode cX4_inZone 12 = .ok (.getfield 97, 3) := by decide +kernel
theorem dX4_inZone_15 : decode cX4_inZone 15 = .ok (.iload_n 2, 1) := by decide +kernel
theorem dX4_inZone_16 : decode cX4_inZone 16 = .ok (.bipush 6, 2) := by decide +kernel
theorem dX4_inZone_18 : decode cX4_inZone 18 = .ok (.imul, 1) := by decide +kernel
theorem dX4_inZone_19 : decode cX4_inZone 19 = .ok (.iload_n 3, 1) := by decide +kernel
theorem dX4_inZone_20 : decode cX4_inZone 20 = .ok (.iadd, 1) := by decide +kernel
theorem dX4_inZone_21 : decode cX4_inZone 21 = .ok (.iaload, 1) := by decide +kernel
theorem dX4_inZone_22 : decode cX4_inZone 22 = .ok (.istore 4, 2) := by decide +kernel
theorem dX4_inZone_24 : decode cX4_inZone 24 = .ok (.iload 4, 2) := by decide +kernel
theorem dX4_inZone_26 : decode cX4_inZone 26 = .ok (.invokestatic 100, 3) := by decide +kernel
theorem dX4_inZone_29 : decode cX4_inZone 29 = .ok (.ifCond .eq 15, 3) := by decide +kernel
theorem dX4_inZone_32 : decode cX4_inZone 32 = .ok (.aload_n 0, 1) := by decide +kernel
theorem dX4_inZone_33 : decode cX4_inZone 33 = .ok (.iload 4, 2) := by decide +kernel
theorem dX4_inZone_35 : decode cX4_inZone 35 = .ok (.invokevirtual 83, 3) := by decide +kernel
theorem dX4_inZone_38 : decode cX4_inZone 38 = .ok (.iload_n 1, 1) := by decide +kernel
theorem dX4_inZone_39 : decode cX4_inZone 39 = .ok (.if_icmp .ne 5, 3) := by decide +kernel
theorem dX4_inZone_42 : decode cX4_inZone 42 = .ok (.iconst 1, 1) := by decide +kernel
theorem dX4_inZone_43 : decode cX4_inZone 43 = .ok (.ireturn, 1) := by decide +kernel
theorem dX4_inZone_44 : decode cX4_inZone 44 = .ok (.iinc 3 1, 3) := by decide +kernel
theorem dX4_inZone_47 : decode cX4_inZone 47 = .ok (.goto (-45), 3) := by decide +kernel
theorem dX4_inZone_50 : decode cX4_inZone 50 = .ok (.iconst 0, 1) := by decide +kernel
theorem dX4_inZone_51 : decode cX4_inZone 51 = .ok (.ireturn, 1) := by decide +kernel
theorem dX4_isSeen_0 : decode cX4_isSeen 0 = .ok (.aload_n 0, 1) := by decide +kernel
theorem dX4_isSeen_1 : decode cX4_isSeen 1 = .ok (.iload_n 1, 1) := by decide +kernel
theorem dX4_isSeen_2 : decode cX4_isSeen 2 = .ok (.iload_n 2, 1) := by decide +kernel
theorem dX4_isSeen_3 : decode cX4_isSeen 3 = .ok (.invokevirtual 103, 3) := by decide +kernel
theorem dX4_isSeen_6 : decode cX4_isSeen 6 = .ok (.ifCond .ne 12, 3) := by decide +kernel
theorem dX4_isSeen_9 : decode cX4_isSeen 9 = .ok (.aload_n 0, 1) := by decide +kernel
theorem dX4_isSeen_10 : decode cX4_isSeen 10 = .ok (.iload_n 1, 1) := by decide +kernel
theorem dX4_isSeen_11 : decode cX4_isSeen 11 = .ok (.iload_n 2, 1) := by decide +kernel
theorem dX4_isSeen_12 : decode cX4_isSeen 12 = .ok (.invokevirtual 106, 3) := by decide +kernel
theorem dX4_isSeen_15 : decode cX4_isSeen 15 = .ok (.ifCond .eq 7, 3) := by decide +kernel
theorem dX4_isSeen_18 : decode cX4_isSeen 18 = .ok (.iconst 1, 1) := by decide +kernel
theorem dX4_isSeen_19 : decode cX4_isSeen 19 = .ok (.goto 4, 3) := by decide +kernel
theorem dX4_isSeen_22 : decode cX4_isSeen 22 = .ok (.iconst 0, 1) := by decide +kernel
theorem dX4_isSeen_23 : decode cX4_isSeen 23 = .ok (.ireturn, 1) := by decide +kernel
theorem dX4_isSeenByUnit_0 : decode cX4_isSeenByUnit 0 = .ok (.aload_n 0, 1) := by decide +kernel
theorem dX4_isSeenByUnit_1 : decode cX4_isSeenByUnit 1 = .ok (.getfield 9, 3) := by decide +kernel
theorem dX4_isSeenByUnit_4 : decode cX4_isSeenByUnit 4 = .ok (.iload_n 2, 1) := by decide +kernel
theorem dX4_isSeenByUnit_5 : decode cX4_isSeenByUnit 5 = .ok (.iaload, 1) := by decide +kernel
theorem dX4_isSeenByUnit_6 : decode cX4_isSeenByUnit 6 = .ok (.iconst 1, 1) := by decide +kernel
theorem dX4_isSeenByUnit_7 : decode cX4_isSeenByUnit 7 = .ok (.if_icmp .ne 7, 3) := by decide +kernel
theorem dX4_isSeenByUnit_10 : decode cX4_isSeenByUnit 10 = .ok (.iconst 1, 1) := by decide +kernel
theorem dX4_isSeenByUnit_11 : decode cX4_isSeenByUnit 11 = .ok (.goto 4, 3) := by decide +kernel
theorem dX4_isSeenByUnit_14 : decode cX4_isSeenByUnit 14 = .ok (.iconst 2, 1) := by decide +kernel
theorem dX4_isSeenByUnit_15 : decode cX4_isSeenByUnit 15 = .ok (.istore_n 3, 1) := by decide +kernel
theorem dX4_isSeenByUnit_16 : decode cX4_isSeenByUnit 16 = .ok (.iconst 0, 1) := by decide +kernel
theorem dX4_isSeenByUnit_17 : decode cX4_isSeenByUnit 17 = .ok (.istore 4, 2) := by decide +kernel
theorem dX4_isSeenByUnit_19 : decode cX4_isSeenByUnit 19 = .ok (.iload 4, 2) := by decide +kernel
theorem dX4_isSeenByUnit_21 : decode cX4_isSeenByUnit 21 = .ok (.aload_n 0, 1) := by decide +kernel
theorem dX4_isSeenByUnit_22 : decode cX4_isSeenByUnit 22 = .ok (.getfield 61, 3) := by decide +kernel
theorem dX4_isSeenByUnit_25 : decode cX4_isSeenByUnit 25 = .ok (.if_icmp .ge 36, 3) := by decide +kernel
theorem dX4_isSeenByUnit_28 : decode cX4_isSeenByUnit 28 = .ok (.aload_n 0, 1) := by decide +kernel
theorem dX4_isSeenByUnit_29 : decode cX4_isSeenByUnit 29 = .ok (.iload 4, 2) := by decide +kernel
theorem dX4_isSeenByUnit_31 : decode cX4_isSeenByUnit 31 = .ok (.iload_n 1, 1) := by decide +kernel
theorem dX4_isSeenByUnit_32 : decode cX4_isSeenByUnit 32 = .ok (.invokevirtual 93, 3) := by decide +kernel
theorem dX4_isSeenByUnit_35 : decode cX4_isSeenByUnit 35 = .ok (.ifCond .eq 20, 3) := by decide +kernel
theorem dX4_isSeenByUnit_38 : decode cX4_isSeenByUnit 38 = .ok (.aload_n 0, 1) := by decide +kernel
theorem dX4_isSeenByUnit_39 : decode cX4_isSeenByUnit 39 = .ok (.getfield 33, 3) := by decide +kernel
theorem dX4_isSeenByUnit_42 : decode cX4_isSeenByUnit 42 = .ok (.iload 4, 2) := by decide +kernel
theorem dX4_isSeenByUnit_44 : decode cX4_isSeenByUnit 44 = .ok (.iaload, 1) := by decide +kernel
theorem dX4_isSeenByUnit_45 : decode cX4_isSeenByUnit 45 = .ok (.iload_n 2, 1) := by decide +kernel
theorem dX4_isSeenByUnit_46 : decode cX4_isSeenByUnit 46 = .ok (.invokestatic 109, 3) := by decide +kernel
theorem dX4_isSeenByUnit_49 : decode cX4_isSeenByUnit 49 = .ok (.iload_n 3, 1) := by decide +kernel
theorem dX4_isSeenByUnit_50 : decode cX4_isSeenByUnit 50 = .ok (.if_icmp .gt 5, 3) := by decide +kernel
theorem dX4_isSeenByUnit_53 : decode cX4_isSeenByUnit 53 = .ok (.iconst 1, 1) := by decide +kernel
theorem dX4_isSeenByUnit_54 : decode cX4_isSeenByUnit 54 = .ok (.ireturn, 1) := by decide +kernel
theorem dX4_isSeenByUnit_55 : decode cX4_isSeenByUnit 55 = .ok (.iinc 4 1, 3) := by decide +kernel
theorem dX4_isSeenByUnit_58 : decode cX4_isSeenByUnit 58 = .ok (.goto (-39), 3) := by decide +kernel
theorem dX4_isSeenByUnit_61 : decode cX4_isSeenByUnit 61 = .ok (.iconst 0, 1) := by decide +kernel
theorem dX4_isSeenByUnit_62 : decode cX4_isSeenByUnit 62 = .ok (.ireturn, 1) := by decide +kernel
theorem dX4_isSeenByFort_0 : decode cX4_isSeenByFort 0 = .ok (.aload_n 0, 1) := by decide +kernel
theorem dX4_isSeenByFort_1 : decode cX4_isSeenByFort 1 = .ok (.getfield 18, 3) := by decide +kernel
theorem dX4_isSeenByFort_4 : decode cX4_isSeenByFort 4 = .ok (.iload_n 2, 1) := by decide +kernel
theorem dX4_isSeenByFort_5 : decode cX4_isSeenByFort 5 = .ok (.iaload, 1) := by decide +kernel
theorem dX4_isSeenByFort_6 : decode cX4_isSeenByFort 6 = .ok (.iload_n 1, 1) := by decide +kernel
theorem dX4_isSeenByFort_7 : decode cX4_isSeenByFort 7 = .ok (.if_icmp .ne 5, 3) := by decide +kernel
theorem dX4_isSeenByFort_10 : decode cX4_isSeenByFort 10 = .ok (.iconst 1, 1) := by decide +kernel
theorem dX4_isSeenByFort_11 : decode cX4_isSeenByFort 11 = .ok (.ireturn, 1) := by decide +kernel
theorem dX4_isSeenByFort_12 : decode cX4_isSeenByFort 12 = .ok (.iconst 0, 1) := by decide +kernel
theorem dX4_isSeenByFort_13 : decode cX4_isSeenByFort 13 = .ok (.istore_n 3, 1) := by decide +kernel
theorem dX4_isSeenByFort_14 : decode cX4_isSeenByFort 14 = .ok (.iload_n 3, 1) := by decide +kernel
theorem dX4_isSeenByFort_15 : decode cX4_isSeenByFort 15 = .ok (.bipush 6, 2) := by decide +kernel
theorem dX4_isSeenByFort_17 : decode cX4_isSeenByFort 17 = .ok (.if_icmp .ge 46, 3) := by decide +kernel
theorem dX4_isSeenByFort_20 : decode cX4_isSeenByFort 20 = .ok (.aload_n 0, 1) := by decide +kernel
theorem dX4_isSeenByFort_21 : decode cX4_isSeenByFort 21 = .ok (.getfield 45, 3) := by decide +kernel
theorem dX4_isSeenByFort_24 : decode cX4_isSeenByFort 24 = .ok (.getfield 97, 3) := by decide +kernel
theorem dX4_isSeenByFort_27 : decode cX4_isSeenByFort 27 = .ok (.iload_n 2, 1) := by decide +kernel
theorem dX4_isSeenByFort_28 : decode cX4_isSeenByFort 28 = .ok (.bipush 6, 2) := by decide +kernel
theorem dX4_isSeenByFort_30 : decode cX4_isSeenByFort 30 = .ok (.imul, 1) := by decide +kernel
theorem dX4_isSeenByFort_31 : decode cX4_isSeenByFort 31 = .ok (.iload_n 3, 1) := by decide +kernel
theorem dX4_isSeenByFort_32 : decode cX4_isSeenByFort 32 = .ok (.iadd, 1) := by decide +kernel
theorem dX4_isSeenByFort_33 : decode cX4_isSeenByFort 33 = .ok (.iaload, 1) := by decide +kernel
theorem dX4_isSeenByFort_34 : decode cX4_isSeenByFort 34 = .ok (.istore 4, 2) := by decide +kernel
theorem dX4_isSeenByFort_36 : decode cX4_isSeenByFort 36 = .ok (.iload 4, 2) := by decide +kernel
theorem dX4_isSeenByFort_38 : decode cX4_isSeenByFort 38 = .ok (.invokestatic 100, 3) := by decide +kernel
theorem dX4_isSeenByFort_41 : decode cX4_isSeenByFort 41 = .ok (.ifCond .eq 16, 3) := by decide +kernel
theorem dX4_isSeenByFort_44 : decode cX4_isSeenByFort 44 = .ok (.aload_n 0, 1) := by decide +kernel
theorem dX4_isSeenByFort_45 : decode cX4_isSeenByFort 45 = .ok (.getfield 18, 3) := by decide +kernel
theorem dX4_isSeenByFort_48 : decode cX4_isSeenByFort 48 = .ok (.iload 4, 2) := by decide +kernel
theorem dX4_isSeenByFort_50 : decode cX4_isSeenByFort 50 = .ok (.iaload, 1) := by decide +kernel
theorem dX4_isSeenByFort_51 : decode cX4_isSeenByFort 51 = .ok (.iload_n 1, 1) := by decide +kernel
theorem dX4_isSeenByFort_52 : decode cX4_isSeenByFort 52 = .ok (.if_icmp .ne 5, 3) := by decide +kernel
theorem dX4_isSeenByFort_55 : decode cX4_isSeenByFort 55 = .ok (.iconst 1, 1) := by decide +kernel
theorem dX4_isSeenByFort_56 : decode cX4_isSeenByFort 56 = .ok (.ireturn, 1) := by decide +kernel
theorem dX4_isSeenByFort_57 : decode cX4_isSeenByFort 57 = .ok (.iinc 3 1, 3) := by decide +kernel
theorem dX4_isSeenByFort_60 : decode cX4_isSeenByFort 60 = .ok (.goto (-46), 3) := by decide +kernel
theorem dX4_isSeenByFort_63 : decode cX4_isSeenByFort 63 = .ok (.iconst 0, 1) := by decide +kernel
theorem dX4_isSeenByFort_64 : decode cX4_isSeenByFort 64 = .ok (.ireturn, 1) := by decide +kernel
theorem dX4_seenCount_0 : decode cX4_seenCount 0 = .ok (.iconst 0, 1) := by decide +kernel
theorem dX4_seenCount_1 : decode cX4_seenCount 1 = .ok (.istore_n 2, 1) := by decide +kernel
theorem dX4_seenCount_2 : decode cX4_seenCount 2 = .ok (.iconst 0, 1) := by decide +kernel
theorem dX4_seenCount_3 : decode cX4_seenCount 3 = .ok (.istore_n 3, 1) := by decide +kernel
theorem dX4_seenCount_4 : decode cX4_seenCount 4 = .ok (.iload_n 3, 1) := by decide +kernel
theorem dX4_seenCount_5 : decode cX4_seenCount 5 = .ok (.bipush 63, 2) := by decide +kernel
theorem dX4_seenCount_7 : decode cX4_seenCount 7 = .ok (.if_icmp .ge 26, 3) := by decide +kernel
theorem dX4_seenCount_10 : decode cX4_seenCount 10 = .ok (.iload_n 2, 1) := by decide +kernel
theorem dX4_seenCount_11 : decode cX4_seenCount 11 = .ok (.aload_n 0, 1) := by decide +kernel
theorem dX4_seenCount_12 : decode cX4_seenCount 12 = .ok (.iload_n 1, 1) := by decide +kernel
theorem dX4_seenCount_13 : decode cX4_seenCount 13 = .ok (.iload_n 3, 1) := by decide +kernel
theorem dX4_seenCount_14 : decode cX4_seenCount 14 = .ok (.invokevirtual 112, 3) := by decide +kernel
theorem dX4_seenCount_17 : decode cX4_seenCount 17 = .ok (.ifCond .eq 7, 3) := by decide +kernel
theorem dX4_seenCount_20 : decode cX4_seenCount 20 = .ok (.iconst 1, 1) := by decide +kernel
theorem dX4_seenCount_21 : decode cX4_seenCount 21 = .ok (.goto 4, 3) := by decide +kernel
theorem dX4_seenCount_24 : decode cX4_seenCount 24 = .ok (.iconst 0, 1) := by decide +kernel
theorem dX4_seenCount_25 : decode cX4_seenCount 25 = .ok (.iadd, 1) := by decide +kernel
theorem dX4_seenCount_26 : decode cX4_seenCount 26 = .ok (.istore_n 2, 1) := by decide +kernel
theorem dX4_seenCount_27 : decode cX4_seenCount 27 = .ok (.iinc 3 1, 3) := by decide +kernel
theorem dX4_seenCount_30 : decode cX4_seenCount 30 = .ok (.goto (-26), 3) := by decide +kernel
theorem dX4_seenCount_33 : decode cX4_seenCount 33 = .ok (.iload_n 2, 1) := by decide +kernel
theorem dX4_seenCount_34 : decode cX4_seenCount 34 = .ok (.ireturn, 1) := by decide +kernel
theorem dX4_unitCount_0 : decode cX4_unitCount 0 = .ok (.iconst 0, 1) := by decide +kernel
theorem dX4_unitCount_1 : decode cX4_unitCount 1 = .ok (.istore_n 2, 1) := by decide +kernel
theorem dX4_unitCount_2 : decode cX4_unitCount 2 = .ok (.iconst 0, 1) := by decide +kernel
theorem dX4_unitCount_3 : decode cX4_unitCount 3 = .ok (.istore_n 3, 1) := by decide +kernel
theorem dX4_unitCount_4 : decode cX4_unitCount 4 = .ok (.iload_n 3, 1) := by decide +kernel
theorem dX4_unitCount_5 : decode cX4_unitCount 5 = .ok (.aload_n 0, 1) := by decide +kernel
theorem dX4_unitCount_6 : decode cX4_unitCount 6 = .ok (.getfield 61, 3) := by decide +kernel
theorem dX4_unitCount_9 : decode cX4_unitCount 9 = .ok (.if_icmp .ge 26, 3) := by decide +kernel
theorem dX4_unitCount_12 : decode cX4_unitCount 12 = .ok (.iload_n 2, 1) := by decide +kernel
theorem dX4_unitCount_13 : decode cX4_unitCount 13 = .ok (.aload_n 0, 1) := by decide +kernel
theorem dX4_unitCount_14 : decode cX4_unitCount 14 = .ok (.iload_n 3, 1) := by decide +kernel
theorem dX4_unitCount_15 : decode cX4_unitCount 15 = .ok (.iload_n 1, 1) := by decide +kernel
theorem dX4_unitCount_16 : decode cX4_unitCount 16 = .ok (.invokevirtual 93, 3) := by decide +kernel
theorem dX4_unitCount_19 : decode cX4_unitCount 19 = .ok (.ifCond .eq 7, 3) := by decide +kernel
theorem dX4_unitCount_22 : decode cX4_unitCount 22 = .ok (.iconst 1, 1) := by decide +kernel
theorem dX4_unitCount_23 : decode cX4_unitCount 23 = .ok (.goto 4, 3) := by decide +kernel
theorem dX4_unitCount_26 : decode cX4_unitCount 26 = .ok (.iconst 0, 1) := by decide +kernel
theorem dX4_unitCount_27 : decode cX4_unitCount 27 = .ok (.iadd, 1) := by decide +kernel
theorem dX4_unitCount_28 : decode cX4_unitCount 28 = .ok (.istore_n 2, 1) := by decide +kernel
theorem dX4_unitCount_29 : decode cX4_unitCount 29 = .ok (.iinc 3 1, 3) := by decide +kernel
theorem dX4_unitCount_32 : decode cX4_unitCount 32 = .ok (.goto (-28), 3) := by decide +kernel
theorem dX4_unitCount_35 : decode cX4_unitCount 35 = .ok (.iload_n 2, 1) := by decide +kernel
theorem dX4_unitCount_36 : decode cX4_unitCount 36 = .ok (.ireturn, 1) := by decide +kernel
theorem dX4_strengthOf_0 : decode cX4_strengthOf 0 = .ok (.iconst 0, 1) := by decide +kernel
theorem dX4_strengthOf_1 : decode cX4_strengthOf 1 = .ok (.istore_n 2, 1) := by decide +kernel
theorem dX4_strengthOf_2 : decode cX4_strengthOf 2 = .ok (.iconst 0, 1) := by decide +kernel
theorem dX4_strengthOf_3 : decode cX4_strengthOf 3 = .ok (.istore_n 3, 1) := by decide +kernel
theorem dX4_strengthOf_4 : decode cX4_strengthOf 4 = .ok (.iload_n 3, 1) := by decide +kernel
theorem dX4_strengthOf_5 : decode cX4_strengthOf 5 = .ok (.aload_n 0, 1) := by decide +kernel
theorem dX4_strengthOf_6 : decode cX4_strengthOf 6 = .ok (.getfield 61, 3) := by decide +kernel
theorem dX4_strengthOf_9 : decode cX4_strengthOf 9 = .ok (.if_icmp .ge 31, 3) := by decide +kernel
theorem dX4_strengthOf_12 : decode cX4_strengthOf 12 = .ok (.iload_n 2, 1) := by decide +kernel
theorem dX4_strengthOf_13 : decode cX4_strengthOf 13 = .ok (.aload_n 0, 1) := by decide +kernel
theorem dX4_strengthOf_14 : decode cX4_strengthOf 14 = .ok (.iload_n 3, 1) := by decide +kernel
theorem dX4_strengthOf_15 : decode cX4_strengthOf 15 = .ok (.iload_n 1, 1) := by decide +kernel
theorem dX4_strengthOf_16 : decode cX4_strengthOf 16 = .ok (.invokevirtual 93, 3) := by decide +kernel
theorem dX4_strengthOf_19 : decode cX4_strengthOf 19 = .ok (.ifCond .eq 12, 3) := by decide +kernel
theorem dX4_strengthOf_22 : decode cX4_strengthOf 22 = .ok (.aload_n 0, 1) := by decide +kernel
theorem dX4_strengthOf_23 : decode cX4_strengthOf 23 = .ok (.getfield 30, 3) := by decide +kernel
theorem dX4_strengthOf_26 : decode cX4_strengthOf 26 = .ok (.iload_n 3, 1) := by decide +kernel
theorem dX4_strengthOf_27 : decode cX4_strengthOf 27 = .ok (.iaload, 1) := by decide +kernel
theorem dX4_strengthOf_28 : decode cX4_strengthOf 28 = .ok (.goto 4, 3) := by decide +kernel
theorem dX4_strengthOf_31 : decode cX4_strengthOf 31 = .ok (.iconst 0, 1) := by decide +kernel
theorem dX4_strengthOf_32 : decode cX4_strengthOf 32 = .ok (.iadd, 1) := by decide +kernel
theorem dX4_strengthOf_33 : decode cX4_strengthOf 33 = .ok (.istore_n 2, 1) := by decide +kernel
theorem dX4_strengthOf_34 : decode cX4_strengthOf 34 = .ok (.iinc 3 1, 3) := by decide +kernel
theorem dX4_strengthOf_37 : decode cX4_strengthOf 37 = .ok (.goto (-33), 3) := by decide +kernel
theorem dX4_strengthOf_40 : decode cX4_strengthOf 40 = .ok (.iload_n 2, 1) := by decide +kernel
theorem dX4_strengthOf_41 : decode cX4_strengthOf 41 = .ok (.ireturn, 1) := by decide +kernel
theorem dX4_fortCount_0 : decode cX4_fortCount 0 = .ok (.iconst 0, 1) := by decide +kernel
theorem dX4_fortCount_1 : decode cX4_fortCount 1 = .ok (.istore_n 2, 1) := by decide +kernel
theorem dX4_fortCount_2 : decode cX4_fortCount 2 = .ok (.iconst 0, 1) := by decide +kernel
theorem dX4_fortCount_3 : decode cX4_fortCount 3 = .ok (.istore_n 3, 1) := by decide +kernel
theorem dX4_fortCount_4 : decode cX4_fortCount 4 = .ok (.iload_n 3, 1) := by decide +kernel
theorem dX4_fortCount_5 : decode cX4_fortCount 5 = .ok (.bipush 63, 2) := by decide +kernel
theorem dX4_fortCount_7 : decode cX4_fortCount 7 = .ok (.if_icmp .ge 27, 3) := by decide +kernel
theorem dX4_fortCount_10 : decode cX4_fortCount 10 = .ok (.iload_n 2, 1) := by decide +kernel
theorem dX4_fortCount_11 : decode cX4_fortCount 11 = .ok (.aload_n 0, 1) := by decide +kernel
theorem dX4_fortCount_12 : decode cX4_fortCount 12 = .ok (.getfield 18, 3) := by decide +kernel
theorem dX4_fortCount_15 : decode cX4_fortCount 15 = .ok (.iload_n 3, 1) := by decide +kernel
theorem dX4_fortCount_16 : decode cX4_fortCount 16 = .ok (.iaload, 1) := by decide +kernel
theorem dX4_fortCount_17 : decode cX4_fortCount 17 = .ok (.iload_n 1, 1) := by decide +kernel
theorem dX4_fortCount_18 : decode cX4_fortCount 18 = .ok (.if_icmp .ne 7, 3) := by decide +kernel
theorem dX4_fortCount_21 : decode cX4_fortCount 21 = .ok (.iconst 1, 1) := by decide +kernel
theorem dX4_fortCount_22 : decode cX4_fortCount 22 = .ok (.goto 4, 3) := by decide +kernel
theorem dX4_fortCount_25 : decode cX4_fortCount 25 = .ok (.iconst 0, 1) := by decide +kernel
theorem dX4_fortCount_26 : decode cX4_fortCount 26 = .ok (.iadd, 1) := by decide +kernel
theorem dX4_fortCount_27 : decode cX4_fortCount 27 = .ok (.istore_n 2, 1) := by decide +kernel
theorem dX4_fortCount_28 : decode cX4_fortCount 28 = .ok (.iinc 3 1, 3) := by decide +kernel
theorem dX4_fortCount_31 : decode cX4_fortCount 31 = .ok (.goto (-27), 3) := by decide +kernel
theorem dX4_fortCount_34 : decode cX4_fortCount 34 = .ok (.iload_n 2, 1) := by decide +kernel
theorem dX4_fortCount_35 : decode cX4_fortCount 35 = .ok (.ireturn, 1) := by decide +kernel
theorem dX4_riverCount_0 : decode cX4_riverCount 0 = .ok (.iconst 0, 1) := by decide +kernel
theorem dX4_riverCount_1 : decode cX4_riverCount 1 = .ok (.istore_n 1, 1) := by decide +kernel
theorem dX4_riverCount_2 : decode cX4_riverCount 2 = .ok (.iconst 0, 1) := by decide +kernel
theorem dX4_riverCount_3 : decode cX4_riverCount 3 = .ok (.istore_n 2, 1) := by decide +kernel
theorem dX4_riverCount_4 : decode cX4_riverCount 4 = .ok (.iload_n 2, 1) := by decide +kernel
theorem dX4_riverCount_5 : decode cX4_riverCount 5 = .ok (.bipush 63, 2) := by decide +kernel
theorem dX4_riverCount_7 : decode cX4_riverCount 7 = .ok (.if_icmp .ge 21, 3) := by decide +kernel
theorem dX4_riverCount_10 : decode cX4_riverCount 10 = .ok (.iload_n 1, 1) := by decide +kernel
theorem dX4_riverCount_11 : decode cX4_riverCount 11 = .ok (.aload_n 0, 1) := by decide +kernel
theorem dX4_riverCount_12 : decode cX4_riverCount 12 = .ok (.getfield 15, 3) := by decide +kernel
theorem dX4_riverCount_15 : decode cX4_riverCount 15 = .ok (.iload_n 2, 1) := by decide +kernel
theorem dX4_riverCount_16 : decode cX4_riverCount 16 = .ok (.iaload, 1) := by decide +kernel
theorem dX4_riverCount_17 : decode cX4_riverCount 17 = .ok (.invokestatic 115, 3) := by decide +kernel
theorem dX4_riverCount_20 : decode cX4_riverCount 20 = .ok (.iadd, 1) := by decide +kernel
theorem dX4_riverCount_21 : decode cX4_riverCount 21 = .ok (.istore_n 1, 1) := by decide +kernel
theorem dX4_riverCount_22 : decode cX4_riverCount 22 = .ok (.iinc 2 1, 3) := by decide +kernel
theorem dX4_riverCount_25 : decode cX4_riverCount 25 = .ok (.goto (-21), 3) := by decide +kernel
theorem dX4_riverCount_28 : decode cX4_riverCount 28 = .ok (.iload_n 1, 1) := by decide +kernel
theorem dX4_riverCount_29 : decode cX4_riverCount 29 = .ok (.iconst 2, 1) := by decide +kernel
theorem dX4_riverCount_30 : decode cX4_riverCount 30 = .ok (.idiv, 1) := by decide +kernel
theorem dX4_riverCount_31 : decode cX4_riverCount 31 = .ok (.ireturn, 1) := by decide +kernel
theorem dX5_init_0 : decode cX5_init 0 = .ok (.aload_n 0, 1) := by decide +kernel
theorem dX5_init_1 : decode cX5_init 1 = .ok (.invokespecial 1, 3) := by decide +kernel
theorem dX5_init_4 : decode cX5_init 4 = .ok (.aload_n 0, 1) := by decide +kernel
theorem dX5_init_5 : decode cX5_init 5 = .ok (.bipush 63, 2) := by decide +kernel
theorem dX5_init_7 : decode cX5_init 7 = .ok (.newarray .int, 2) := by decide +kernel
theorem dX5_init_9 : decode cX5_init 9 = .ok (.putfield 9, 3) := by decide +kernel
theorem dX5_init_12 : decode cX5_init 12 = .ok (.aload_n 0, 1) := by decide +kernel
theorem dX5_init_13 : decode cX5_init 13 = .ok (.bipush 63, 2) := by decide +kernel
theorem dX5_init_15 : decode cX5_init 15 = .ok (.newarray .boolean, 2) := by decide +kernel
theorem dX5_init_17 : decode cX5_init 17 = .ok (.putfield 15, 3) := by decide +kernel
theorem dX5_init_20 : decode cX5_init 20 = .ok (.aload_n 0, 1) := by decide +kernel
theorem dX5_init_21 : decode cX5_init 21 = .ok (.aload_n 1, 1) := by decide +kernel
theorem dX5_init_22 : decode cX5_init 22 = .ok (.putfield 19, 3) := by decide +kernel
theorem dX5_init_25 : decode cX5_init 25 = .ok (.return_, 1) := by decide +kernel
theorem dX5_measure_0 : decode cX5_measure 0 = .ok (.iconst 0, 1) := by decide +kernel
theorem dX5_measure_1 : decode cX5_measure 1 = .ok (.istore_n 3, 1) := by decide +kernel
theorem dX5_measure_2 : decode cX5_measure 2 = .ok (.iload_n 3, 1) := by decide +kernel
theorem dX5_measure_3 : decode cX5_measure 3 = .ok (.bipush 63, 2) := by decide +kernel
theorem dX5_measure_5 : decode cX5_measure 5 = .ok (.if_icmp .ge 75, 3) := by decide +kernel
theorem dX5_measure_8 : decode cX5_measure 8 = .ok (.aload_n 0, 1) := by decide +kernel
theorem dX5_measure_9 : decode cX5_measure 9 = .ok (.getfield 15, 3) := by decide +kernel
theorem dX5_measure_12 : decode cX5_measure 12 = .ok (.iload_n 3, 1) := by decide +kernel
theorem dX5_measure_13 : decode cX5_measure 13 = .ok (.aload_n 1, 1) := by decide +kernel
theorem dX5_measure_14 : decode cX5_measure 14 = .ok (.iload_n 2, 1) := by decide +kernel
theorem dX5_measure_15 : decode cX5_measure 15 = .ok (.iload_n 3, 1) := by decide +kernel
theorem dX5_measure_16 : decode cX5_measure 16 = .ok (.invokestatic 23, 3) := by decide +kernel
theorem dX5_measure_19 : decode cX5_measure 19 = .ok (.bastore, 1) := by decide +kernel
theorem dX5_measure_20 : decode cX5_measure 20 = .ok (.aload_n 1, 1) := by decide +kernel
theorem dX5_measure_21 : decode cX5_measure 21 = .ok (.getfield 27, 3) := by decide +kernel
theorem dX5_measure_24 : decode cX5_measure 24 = .ok (.iload_n 2, 1) := by decide +kernel
theorem dX5_measure_25 : decode cX5_measure 25 = .ok (.iaload, 1) := by decide +kernel
theorem dX5_measure_26 : decode cX5_measure 26 = .ok (.iload_n 3, 1) := by decide +kernel
theorem dX5_measure_27 : decode cX5_measure 27 = .ok (.if_icmp .eq 13, 3) := by decide +kernel
theorem dX5_measure_30 : decode cX5_measure 30 = .ok (.aload_n 1, 1) := by decide +kernel
theorem dX5_measure_31 : decode cX5_measure 31 = .ok (.getfield 32, 3) := by decide +kernel
theorem dX5_measure_34 : decode cX5_measure 34 = .ok (.iload_n 3, 1) := by decide +kernel
theorem dX5_measure_35 : decode cX5_measure 35 = .ok (.iaload, 1) := by decide +kernel
theorem dX5_measure_36 : decode cX5_measure 36 = .ok (.iload_n 2, 1) := by decide +kernel
theorem dX5_measure_37 : decode cX5_measure 37 = .ok (.if_icmp .ne 7, 3) := by decide +kernel
theorem dX5_measure_40 : decode cX5_measure 40 = .ok (.iconst 1, 1) := by decide +kernel
theorem dX5_measure_41 : decode cX5_measure 41 = .ok (.goto 4, 3) := by decide +kernel
theorem dX5_measure_44 : decode cX5_measure 44 = .ok (.iconst 0, 1) := by decide +kernel
theorem dX5_measure_45 : decode cX5_measure 45 = .ok (.istore 4, 2) := by decide +kernel
theorem dX5_measure_47 : decode cX5_measure 47 = .ok (.aload_n 0, 1) := by decide +kernel
theorem dX5_measure_48 : decode cX5_measure 48 = .ok (.getfield 9, 3) := by decide +kernel
theorem dX5_measure_51 : decode cX5_measure 51 = .ok (.iload_n 3, 1) := by decide +kernel
theorem dX5_measure_52 : decode cX5_measure 52 = .ok (.iload 4, 2) := by decide +kernel
theorem dX5_measure_54 : decode cX5_measure 54 = .ok (.ifCond .eq 16, 3) := by decide +kernel
theorem dX5_measure_57 : decode cX5_measure 57 = .ok (.aload_n 0, 1) := by decide +kernel
theorem dX5_measure_58 : decode cX5_measure 58 = .ok (.getfield 15, 3) := by decide +kernel
theorem dX5_measure_61 : decode cX5_measure 61 = .ok (.iload_n 3, 1) := by decide +kernel
theorem dX5_measure_62 : decode cX5_measure 62 = .ok (.baload, 1) := by decide +kernel
theorem dX5_measure_63 : decode cX5_measure 63 = .ok (.ifCond .eq 7, 3) := by decide +kernel
theorem dX5_measure_66 : decode cX5_measure 66 = .ok (.iconst 0, 1) := by decide +kernel
theorem dX5_measure_67 : decode cX5_measure 67 = .ok (.goto 6, 3) := by decide +kernel
theorem dX5_measure_70 : decode cX5_measure 70 = .ok (.sipush 1000, 3) := by decide +kernel
theorem dX5_measure_73 : decode cX5_measure 73 = .ok (.iastore, 1) := by decide +kernel
theorem dX5_measure_74 : decode cX5_measure 74 = .ok (.iinc 3 1, 3) := by decide +kernel
theorem dX5_measure_77 : decode cX5_measure 77 = .ok (.goto (-75), 3) := by decide +kernel
theorem dX5_measure_80 : decode cX5_measure 80 = .ok (.iconst 0, 1) := by decide +kernel
theorem dX5_measure_81 : decode cX5_measure 81 = .ok (.istore_n 3, 1) := by decide +kernel
theorem dX5_measure_82 : decode cX5_measure 82 = .ok (.iload_n 3, 1) := by decide +kernel
theorem dX5_measure_83 : decode cX5_measure 83 = .ok (.bipush 6, 2) := by decide +kernel
theorem dX5_measure_85 : decode cX5_measure 85 = .ok (.if_icmp .ge 42, 3) := by decide +kernel
theorem dX5_measure_88 : decode cX5_measure 88 = .ok (.iconst 0, 1) := by decide +kernel
theorem dX5_measure_89 : decode cX5_measure 89 = .ok (.istore 4, 2) := by decide +kernel
theorem dX5_measure_91 : decode cX5_measure 91 = .ok (.iload 4, 2) := by decide +kernel
theorem dX5_measure_93 : decode cX5_measure 93 = .ok (.bipush 63, 2) := by decide +kernel
theorem dX5_measure_95 : decode cX5_measure 95 = .ok (.if_icmp .ge 26, 3) := by decide +kernel
theorem dX5_measure_98 : decode cX5_measure 98 = .ok (.aload_n 0, 1) := by decide +kernel
theorem dX5_measure_99 : decode cX5_measure 99 = .ok (.getfield 9, 3) := by decide +kernel
theorem dX5_measure_102 : decode cX5_measure 102 = .ok (.iload 4, 2) := by decide +kernel
theorem dX5_measure_104 : decode cX5_measure 104 = .ok (.iaload, 1) := by decide +kernel
theorem dX5_measure_105 : decode cX5_measure 105 = .ok (.iload_n 3, 1) := by decide +kernel
theorem dX5_measure_106 : decode cX5_measure 106 = .ok (.if_icmp .ne 9, 3) := by decide +kernel
theorem dX5_measure_109 : decode cX5_measure 109 = .ok (.aload_n 0, 1) := by decide +kernel
theorem dX5_measure_110 : decode cX5_measure 110 = .ok (.iload 4, 2) := by decide +kernel
theorem dX5_measure_112 : decode cX5_measure 112 = .ok (.invokevirtual 35, 3) := by decide +kernel
theorem dX5_measure_115 : decode cX5_measure 115 = .ok (.iinc 4 1, 3) := by decide +kernel
theorem dX5_measure_118 : decode cX5_measure 118 = .ok (.goto (-27), 3) := by decide +kernel
theorem dX5_measure_121 : decode cX5_measure 121 = .ok (.iinc 3 1, 3) := by decide +kernel
theorem dX5_measure_124 : decode cX5_measure 124 = .ok (.goto (-42), 3) := by decide +kernel
theorem dX5_measure_127 : decode cX5_measure 127 = .ok (.return_, 1) := by decide +kernel
theorem dX5_spread_0 : decode cX5_spread 0 = .ok (.iconst 0, 1) := by decide +kernel
theorem dX5_spread_1 : decode cX5_spread 1 = .ok (.istore_n 2, 1) := by decide +kernel
theorem dX5_spread_2 : decode cX5_spread 2 = .ok (.iload_n 2, 1) := by decide +kernel
theorem dX5_spread_3 : decode cX5_spread 3 = .ok (.bipush 6, 2) := by decide +kernel
theorem dX5_spread_5 : decode cX5_spread 5 = .ok (.if_icmp .ge 66, 3) := by decide +kernel
theorem dX5_spread_8 : decode cX5_spread 8 = .ok (.aload_n 0, 1) := by decide +kernel
theorem dX5_spread_9 : decode cX5_spread 9 = .ok (.getfield 19, 3) := by decide +kernel
theorem dX5_spread_12 : decode cX5_spread 12 = .ok (.getfield 39, 3) := by decide +kernel
theorem dX5_spread_15 : decode cX5_spread 15 = .ok (.iload_n 1, 1) := by decide +kernel
theorem dX5_spread_16 : decode cX5_spread 16 = .ok (.bipush 6, 2) := by decide +kernel
theorem dX5_spread_18 : decode cX5_spread 18 = .ok (.imul, 1) := by decide +kernel
theorem dX5_spread_19 : decode cX5_spread 19 = .ok (.iload_n 2, 1) := by decide +kernel
theorem dX5_spread_20 : decode cX5_spread 20 = .ok (.iadd, 1) := by decide +kernel
theorem dX5_spread_21 : decode cX5_spread 21 = .ok (.iaload, 1) := by decide +kernel
theorem dX5_spread_22 : decode cX5_spread 22 = .ok (.istore_n 3, 1) := by decide +kernel
theorem dX5_spread_23 : decode cX5_spread 23 = .ok (.iload_n 3, 1) := by decide +kernel
theorem dX5_spread_24 : decode cX5_spread 24 = .ok (.invokestatic 42, 3) := by decide +kernel
theorem dX5_spread_27 : decode cX5_spread 27 = .ok (.ifCond .eq 38, 3) := by decide +kernel
theorem dX5_spread_30 : decode cX5_spread 30 = .ok (.aload_n 0, 1) := by decide +kernel
theorem dX5_spread_31 : decode cX5_spread 31 = .ok (.getfield 15, 3) := by decide +kernel
theorem dX5_spread_34 : decode cX5_spread 34 = .ok (.iload_n 3, 1) := by decide +kernel
theorem dX5_spread_35 : decode cX5_spread 35 = .ok (.baload, 1) := by decide +kernel
theorem dX5_spread_36 : decode cX5_spread 36 = .ok (.ifCond .eq 29, 3) := by decide +kernel
theorem dX5_spread_39 : decode cX5_spread 39 = .ok (.aload_n 0, 1) := by decide +kernel
theorem dX5_spread_40 : decode cX5_spread 40 = .ok (.getfield 9, 3) := by decide +kernel
theorem dX5_spread_43 : decode cX5_spread 43 = .ok (.iload_n 3, 1) := by decide +kernel
theorem dX5_spread_44 : decode cX5_spread 44 = .ok (.iaload, 1) := by decide +kernel
theorem dX5_spread_45 : decode cX5_spread 45 = .ok (.sipush 1000, 3) := by decide +kernel
theorem dX5_spread_48 : decode cX5_spread 48 = .ok (.if_icmp .ne 17, 3) := by decide +kernel
theorem dX5_spread_51 : decode cX5_spread 51 = .ok (.aload_n 0, 1) := by decide +kernel
theorem dX5_spread_52 : decode cX5_spread 52 = .ok (.getfield 9, 3) := by decide +kernel
theorem dX5_spread_55 : decode cX5_spread 55 = .ok (.iload_n 3, 1) := by decide +kernel
theorem dX5_spread_56 : decode cX5_spread 56 = .ok (.aload_n 0, 1) := by decide +kernel
theorem dX5_spread_57 : decode cX5_spread 57 = .ok (.getfield 9, 3) := by decide +kernel
theorem dX5_spread_60 : decode cX5_spread 60 = .ok (.iload_n 1, 1) := by decide +kernel
theorem dX5_spread_61 : decode cX5_spread 61 = .ok (.iaload, 1) := by decide +kernel
theorem dX5_spread_62 : decode cX5_spread 62 = .ok (.iconst 1, 1) := by decide +kernel
theorem dX5_spread_63 : decode cX5_spread 63 = .ok (.iadd, 1) := by decide +kernel
theorem dX5_spread_64 : decode cX5_spread 64 = .ok (.iastore, 1) := by decide +kernel
theorem dX5_spread_65 : decode cX5_spread 65 = .ok (.iinc 2 1, 3) := by decide +kernel
theorem dX5_spread_68 : decode cX5_spread 68 = .ok (.goto (-66), 3) := by decide +kernel
theorem dX5_spread_71 : decode cX5_spread 71 = .ok (.return_, 1) := by decide +kernel
theorem dX5_isFree_0 : decode cX5_isFree 0 = .ok (.aload_n 0, 1) := by decide +kernel
theorem dX5_isFree_1 : decode cX5_isFree 1 = .ok (.iload_n 2, 1) := by decide +kernel
theorem dX5_isFree_2 : decode cX5_isFree 2 = .ok (.invokevirtual 46, 3) := by decide +kernel
theorem dX5_isFree_5 : decode cX5_isFree 5 = .ok (.istore_n 3, 1) := by decide +kernel
theorem dX5_isFree_6 : decode cX5_isFree 6 = .ok (.iload_n 3, 1) := by decide +kernel
theorem dX5_isFree_7 : decode cX5_isFree 7 = .ok (.iload_n 1, 1) := by decide +kernel
theorem dX5_isFree_8 : decode cX5_isFree 8 = .ok (.if_icmp .eq 19, 3) := by decide +kernel
theorem dX5_isFree_11 : decode cX5_isFree 11 = .ok (.iload_n 3, 1) := by decide +kernel
theorem dX5_isFree_12 : decode cX5_isFree 12 = .ok (.iconst (-1), 1) := by decide +kernel
theorem dX5_isFree_13 : decode cX5_isFree 13 = .ok (.if_icmp .ne 18, 3) := by decide +kernel
theorem dX5_isFree_16 : decode cX5_isFree 16 = .ok (.aload_n 0, 1) := by decide +kernel
theorem dX5_isFree_17 : decode cX5_isFree 17 = .ok (.iconst 1, 1) := by decide +kernel
theorem dX5_isFree_18 : decode cX5_isFree 18 = .ok (.iload_n 1, 1) := by decide +kernel
theorem dX5_isFree_19 : decode cX5_isFree 19 = .ok (.isub, 1) := by decide +kernel
theorem dX5_isFree_20 : decode cX5_isFree 20 = .ok (.iload_n 2, 1) := by decide +kernel
theorem dX5_isFree_21 : decode cX5_isFree 21 = .ok (.invokevirtual 50, 3) := by decide +kernel
theorem dX5_isFree_24 : decode cX5_isFree 24 = .ok (.ifCond .ne 7, 3) := by decide +kernel
theorem dX5_isFree_27 : decode cX5_isFree 27 = .ok (.iconst 1, 1) := by decide +kernel
theorem dX5_isFree_28 : decode cX5_isFree 28 = .ok (.goto 4, 3) := by decide +kernel
theorem dX5_isFree_31 : decode cX5_isFree 31 = .ok (.iconst 0, 1) := by decide +kernel
theorem dX5_isFree_32 : decode cX5_isFree 32 = .ok (.ireturn, 1) := by decide +kernel
theorem dX5_reaches_0 : decode cX5_reaches 0 = .ok (.aload_n 0, 1) := by decide +kernel
theorem dX5_reaches_1 : decode cX5_reaches 1 = .ok (.getfield 9, 3) := by decide +kernel
theorem dX5_reaches_4 : decode cX5_reaches 4 = .ok (.iload_n 1, 1) := by decide +kernel
theorem dX5_reaches_5 : decode cX5_reaches 5 = .ok (.iaload, 1) := by decide +kernel
theorem dX5_reaches_6 : decode cX5_reaches 6 = .ok (.sipush 1000, 3) := by decide +kernel
theorem dX5_reaches_9 : decode cX5_reaches 9 = .ok (.if_icmp .eq 7, 3) := by decide +kernel
theorem dX5_reaches_12 : decode cX5_reaches 12 = .ok (.iconst 1, 1) := by decide +kernel
theorem dX5_reaches_13 : decode cX5_reaches 13 = .ok (.goto 4, 3) := by decide +kernel
theorem dX5_reaches_16 : decode cX5_reaches 16 = .ok (.iconst 0, 1) := by decide +kernel
theorem dX5_reaches_17 : decode cX5_reaches 17 = .ok (.ireturn, 1) := by decide +kernel
theorem dX6_init_0 : decode cX6_init 0 = .ok (.aload_n 0, 1) := by decide +kernel
theorem dX6_init_1 : decode cX6_init 1 = .ok (.invokespecial 1, 3) := by decide +kernel
theorem dX6_init_4 : decode cX6_init 4 = .ok (.aload_n 0, 1) := by decide +kernel
theorem dX6_init_5 : decode cX6_init 5 = .ok (.bipush 63, 2) := by decide +kernel
theorem dX6_init_7 : decode cX6_init 7 = .ok (.newarray .int, 2) := by decide +kernel
theorem dX6_init_9 : decode cX6_init 9 = .ok (.putfield 9, 3) := by decide +kernel
theorem dX6_init_12 : decode cX6_init 12 = .ok (.aload_n 0, 1) := by decide +kernel
theorem dX6_init_13 : decode cX6_init 13 = .ok (.aload_n 1, 1) := by decide +kernel
theorem dX6_init_14 : decode cX6_init 14 = .ok (.putfield 15, 3) := by decide +kernel
theorem dX6_init_17 : decode cX6_init 17 = .ok (.return_, 1) := by decide +kernel
theorem dX6_measure_0 : decode cX6_measure 0 = .ok (.aload_n 1, 1) := by decide +kernel
theorem dX6_measure_1 : decode cX6_measure 1 = .ok (.getfield 19, 3) := by decide +kernel
theorem dX6_measure_4 : decode cX6_measure 4 = .ok (.iload_n 2, 1) := by decide +kernel
theorem dX6_measure_5 : decode cX6_measure 5 = .ok (.iaload, 1) := by decide +kernel
theorem dX6_measure_6 : decode cX6_measure 6 = .ok (.istore_n 3, 1) := by decide +kernel
theorem dX6_measure_7 : decode cX6_measure 7 = .ok (.iconst 1, 1) := by decide +kernel
theorem dX6_measure_8 : decode cX6_measure 8 = .ok (.aload_n 1, 1) := by decide +kernel
theorem dX6_measure_9 : decode cX6_measure 9 = .ok (.getfield 24, 3) := by decide +kernel
theorem dX6_measure_12 : decode cX6_measure 12 = .ok (.iload_n 2, 1) := by decide +kernel
theorem dX6_measure_13 : decode cX6_measure 13 = .ok (.iaload, 1) := by decide +kernel
theorem dX6_measure_14 : decode cX6_measure 14 = .ok (.isub, 1) := by decide +kernel
theorem dX6_measure_15 : decode cX6_measure 15 = .ok (.istore 4, 2) := by decide +kernel
theorem dX6_measure_17 : decode cX6_measure 17 = .ok (.aload_n 0, 1) := by decide +kernel
theorem dX6_measure_18 : decode cX6_measure 18 = .ok (.getfield 9, 3) := by decide +kernel
theorem dX6_measure_21 : decode cX6_measure 21 = .ok (.sipush 1000, 3) := by decide +kernel
theorem dX6_measure_24 : decode cX6_measure 24 = .ok (.invokestatic 27, 3) := by decide +kernel
theorem dX6_measure_27 : decode cX6_measure 27 = .ok (.aload_n 0, 1) := by decide +kernel
theorem dX6_measure_28 : decode cX6_measure 28 = .ok (.getfield 9, 3) := by decide +kernel
theorem dX6_measure_31 : decode cX6_measure 31 = .ok (.iload_n 3, 1) := by decide +kernel
theorem dX6_measure_32 : decode cX6_measure 32 = .ok (.iconst 0, 1) := by decide +kernel
theorem dX6_measure_33 : decode cX6_measure 33 = .ok (.iastore, 1) := by decide +kernel
theorem dX6_measure_34 : decode cX6_measure 34 = .ok (.iconst 0, 1) := by decide +kernel
theorem dX6_measure_35 : decode cX6_measure 35 = .ok (.istore 5, 2) := by decide +kernel
theorem dX6_measure_37 : decode cX6_measure 37 = .ok (.iload 5, 2) := by decide +kernel
theorem dX6_measure_39 : decode cX6_measure 39 = .ok (.aload_n 1, 1) := by decide +kernel
theorem dX6_measure_40 : decode cX6_measure 40 = .ok (.getfield 33, 3) := by decide +kernel
theorem dX6_measure_43 : decode cX6_measure 43 = .ok (.iload_n 2, 1) := by decide +kernel
theorem dX6_measure_44 : decode cX6_measure 44 = .ok (.iaload, 1) := by decide +kernel
theorem dX6_measure_45 : decode cX6_measure 45 = .ok (.if_icmp .ge 62, 3) := by decide +kernel
theorem dX6_measure_48 : decode cX6_measure 48 = .ok (.iconst 0, 1) := by decide +kernel
theorem dX6_measure_49 : decode cX6_measure 49 = .ok (.istore 6, 2) := by decide +kernel
theorem dX6_measure_51 : decode cX6_measure 51 = .ok (.iload 6, 2) := by decide +kernel
theorem dX6_measure_53 : decode cX6_measure 53 = .ok (.bipush 63, 2) := by decide +kernel
theorem dX6_measure_55 : decode cX6_measure 55 = .ok (.if_icmp .ge 46, 3) := by decide +kernel
theorem dX6_measure_58 : decode cX6_measure 58 = .ok (.aload_n 0, 1) := by decide +kernel
theorem dX6_measure_59 : decode cX6_measure 59 = .ok (.getfield 9, 3) := by decide +kernel
theorem dX6_measure_62 : decode cX6_measure 62 = .ok (.iload 6, 2) := by decide +kernel
theorem dX6_measure_64 : decode cX6_measure 64 = .ok (.iaload, 1) := by decide +kernel
theorem dX6_measure_65 : decode cX6_measure 65 = .ok (.iload 5, 2) := by decide +kernel
theorem dX6_measure_67 : decode cX6_measure 67 = .ok (.if_icmp .ne 28, 3) := by decide +kernel
theorem dX6_measure_70 : decode cX6_measure 70 = .ok (.iload 6, 2) := by decide +kernel
theorem dX6_measure_72 : decode cX6_measure 72 = .ok (.iload_n 3, 1) := by decide +kernel
theorem dX6_measure_73 : decode cX6_measure 73 = .ok (.if_icmp .eq 14, 3) := by decide +kernel
theorem dX6_measure_76 : decode cX6_measure 76 = .ok (.aload_n 1, 1) := by decide +kernel
theorem dX6_measure_77 : decode cX6_measure 77 = .ok (.iload 4, 2) := by decide +kernel
theorem dX6_measure_79 : decode cX6_measure 79 = .ok (.iload 6, 2) := by decide +kernel
theorem dX6_measure_81 : decode cX6_measure 81 = .ok (.invokevirtual 36, 3) := by decide +kernel
theorem dX6_measure_84 : decode cX6_measure 84 = .ok (.ifCond .ne 11, 3) := by decide +kernel
theorem dX6_measure_87 : decode cX6_measure 87 = .ok (.aload_n 0, 1) := by decide +kernel
theorem dX6_measure_88 : decode cX6_measure 88 = .ok (.aload_n 1, 1) := by decide +kernel
theorem dX6_measure_89 : decode cX6_measure 89 = .ok (.iload_n 2, 1) := by decide +kernel
theorem dX6_measure_90 : decode cX6_measure 90 = .ok (.iload 6, 2) := by decide +kernel
theorem dX6_measure_92 : decode cX6_measure 92 = .ok (.invokevirtual 40, 3) := by decide +kernel
theorem dX6_measure_95 : decode cX6_measure 95 = .ok (.iinc 6 1, 3) := by decide +kernel
theorem dX6_measure_98 : decode cX6_measure 98 = .ok (.goto (-47), 3) := by decide +kernel
theorem dX6_measure_101 : decode cX6_measure 101 = .ok (.iinc 5 1, 3) := by decide +kernel
theorem dX6_measure_104 : decode cX6_measure 104 = .ok (.goto (-67), 3) := by decide +kernel
theorem dX6_measure_107 : decode cX6_measure 107 = .ok (.return_, 1) := by decide +kernel
theorem dX6_goOn_0 : decode cX6_goOn 0 = .ok (.iconst 0, 1) := by decide +kernel
theorem dX6_goOn_1 : decode cX6_goOn 1 = .ok (.istore 4, 2) := by decide +kernel
theorem dX6_goOn_3 : decode cX6_goOn 3 = .ok (.iload 4, 2) := by decide +kernel
theorem dX6_goOn_5 : decode cX6_goOn 5 = .ok (.bipush 6, 2) := by decide +kernel
theorem dX6_goOn_7 : decode cX6_goOn 7 = .ok (.if_icmp .ge 104, 3) := by decide +kernel
theorem dX6_goOn_10 : decode cX6_goOn 10 = .ok (.aload_n 0, 1) := by decide +kernel
theorem dX6_goOn_11 : decode cX6_goOn 11 = .ok (.getfield 15, 3) := by decide +kernel
theorem dX6_goOn_14 : decode cX6_goOn 14 = .ok (.getfield 44, 3) := by decide +kernel
theorem dX6_goOn_17 : decode cX6_goOn 17 = .ok (.iload_n 3, 1) := by decide +kernel
theorem dX6_goOn_18 : decode cX6_goOn 18 = .ok (.bipush 6, 2) := by decide +kernel
theorem dX6_goOn_20 : decode cX6_goOn 20 = .ok (.imul, 1) := by decide +kernel
theorem dX6_goOn_21 : decode cX6_goOn 21 = .ok (.iload 4, 2) := by decide +kernel
theorem dX6_goOn_23 : decode cX6_goOn 23 = .ok (.iadd, 1) := by decide +kernel
theorem dX6_goOn_24 : decode cX6_goOn 24 = .ok (.iaload, 1) := by decide +kernel
theorem dX6_goOn_25 : decode cX6_goOn 25 = .ok (.istore 5, 2) := by decide +kernel
theorem dX6_goOn_27 : decode cX6_goOn 27 = .ok (.iload 5, 2) := by decide +kernel
theorem dX6_goOn_29 : decode cX6_goOn 29 = .ok (.invokestatic 47, 3) := by decide +kernel
theorem dX6_goOn_32 : decode cX6_goOn 32 = .ok (.ifCond .eq 73, 3) := by decide +kernel
theorem dX6_goOn_35 : decode cX6_goOn 35 = .ok (.aload_n 1, 1) := by decide +kernel
theorem dX6_goOn_36 : decode cX6_goOn 36 = .ok (.iload 5, 2) := by decide +kernel
theorem dX6_goOn_38 : decode cX6_goOn 38 = .ok (.invokevirtual 51, 3) := by decide +kernel
theorem dX6_goOn_41 : decode cX6_goOn 41 = .ok (.iconst 1, 1) := by decide +kernel
theorem dX6_goOn_42 : decode cX6_goOn 42 = .ok (.aload_n 1, 1) := by decide +kernel
theorem dX6_goOn_43 : decode cX6_goOn 43 = .ok (.getfield 24, 3) := by decide +kernel
theorem dX6_goOn_46 : decode cX6_goOn 46 = .ok (.iload_n 2, 1) := by decide +kernel
theorem dX6_goOn_47 : decode cX6_goOn 47 = .ok (.iaload, 1) := by decide +kernel
theorem dX6_goOn_48 : decode cX6_goOn 48 = .ok (.isub, 1) := by decide +kernel
theorem dX6_goOn_49 : decode cX6_goOn 49 = .ok (.if_icmp .ne 6, 3) := by decide +kernel
theorem dX6_goOn_52 : decode cX6_goOn 52 = .ok (.goto 53, 3) := by decide +kernel
theorem dX6_goOn_55 : decode cX6_goOn 55 = .ok (.aload_n 0, 1) := by decide +kernel
theorem dX6_goOn_56 : decode cX6_goOn 56 = .ok (.getfield 9, 3) := by decide +kernel
theorem dX6_goOn_59 : decode cX6_goOn 59 = .ok (.iload_n 3, 1) := by decide +kernel
theorem dX6_goOn_60 : decode cX6_goOn 60 = .ok (.iaload, 1) := by decide +kernel
theorem dX6_goOn_61 : decode cX6_goOn 61 = .ok (.aload_n 1, 1) := by decide +kernel
theorem dX6_goOn_62 : decode cX6_goOn 62 = .ok (.iload_n 3, 1) := by decide +kernel
theorem dX6_goOn_63 : decode cX6_goOn 63 = .ok (.iload 4, 2) := by decide +kernel
theorem dX6_goOn_65 : decode cX6_goOn 65 = .ok (.iload 5, 2) := by decide +kernel
theorem dX6_goOn_67 : decode cX6_goOn 67 = .ok (.invokestatic 55, 3) := by decide +kernel
theorem dX6_goOn_70 : decode cX6_goOn 70 = .ok (.iadd, 1) := by decide +kernel
theorem dX6_goOn_71 : decode cX6_goOn 71 = .ok (.istore 6, 2) := by decide +kernel
theorem dX6_goOn_73 : decode cX6_goOn 73 = .ok (.iload 6, 2) := by decide +kernel
theorem dX6_goOn_75 : decode cX6_goOn 75 = .ok (.aload_n 1, 1) := by decide +kernel
theorem dX6_goOn_76 : decode cX6_goOn 76 = .ok (.getfield 33, 3) := by decide +kernel
theorem dX6_goOn_79 : decode cX6_goOn 79 = .ok (.iload_n 2, 1) := by decide +kernel
theorem dX6_goOn_80 : decode cX6_goOn 80 = .ok (.iaload, 1) := by decide +kernel
theorem dX6_goOn_81 : decode cX6_goOn 81 = .ok (.if_icmp .gt 24, 3) := by decide +kernel
theorem dX6_goOn_84 : decode cX6_goOn 84 = .ok (.iload 6, 2) := by decide +kernel
theorem dX6_goOn_86 : decode cX6_goOn 86 = .ok (.aload_n 0, 1) := by decide +kernel
theorem dX6_goOn_87 : decode cX6_goOn 87 = .ok (.getfield 9, 3) := by decide +kernel
theorem dX6_goOn_90 : decode cX6_goOn 90 = .ok (.iload 5, 2) := by decide +kernel
theorem dX6_goOn_92 : decode cX6_goOn 92 = .ok (.iaload, 1) := by decide +kernel
theorem dX6_goOn_93 : decode cX6_goOn 93 = .ok (.if_icmp .ge 12, 3) := by decide +kernel
theorem dX6_goOn_96 : decode cX6_goOn 96 = .ok (.aload_n 0, 1) := by decide +kernel
theorem dX6_goOn_97 : decode cX6_goOn 97 = .ok (.getfield 9, 3) := by decide +kernel
theorem dX6_goOn_100 : decode cX6_goOn 100 = .ok (.iload 5, 2) := by decide +kernel
theorem dX6_goOn_102 : decode cX6_goOn 102 = .ok (.iload 6, 2) := by decide +kernel
theorem dX6_goOn_104 : decode cX6_goOn 104 = .ok (.iastore, 1) := by decide +kernel
theorem dX6_goOn_105 : decode cX6_goOn 105 = .ok (.iinc 4 1, 3) := by decide +kernel
theorem dX6_goOn_108 : decode cX6_goOn 108 = .ok (.goto (-105), 3) := by decide +kernel
theorem dX6_goOn_111 : decode cX6_goOn 111 = .ok (.return_, 1) := by decide +kernel
theorem dX6_costOfStep_0 : decode cX6_costOfStep 0 = .ok (.aload_n 0, 1) := by decide +kernel
theorem dX6_costOfStep_1 : decode cX6_costOfStep 1 = .ok (.getfield 59, 3) := by decide +kernel
theorem dX6_costOfStep_4 : decode cX6_costOfStep 4 = .ok (.iload_n 3, 1) := by decide +kernel
theorem dX6_costOfStep_5 : decode cX6_costOfStep 5 = .ok (.iaload, 1) := by decide +kernel
theorem dX6_costOfStep_6 : decode cX6_costOfStep 6 = .ok (.ifCond .ne 7, 3) := by decide +kernel
theorem dX6_costOfStep_9 : decode cX6_costOfStep 9 = .ok (.iconst 1, 1) := by decide +kernel
theorem dX6_costOfStep_10 : decode cX6_costOfStep 10 = .ok (.goto 4, 3) := by decide +kernel
theorem dX6_costOfStep_13 : decode cX6_costOfStep 13 = .ok (.iconst 2, 1) := by decide +kernel
theorem dX6_costOfStep_14 : decode cX6_costOfStep 14 = .ok (.istore 4, 2) := by decide +kernel
theorem dX6_costOfStep_16 : decode cX6_costOfStep 16 = .ok (.aload_n 0, 1) := by decide +kernel
theorem dX6_costOfStep_17 : decode cX6_costOfStep 17 = .ok (.iload_n 1, 1) := by decide +kernel
theorem dX6_costOfStep_18 : decode cX6_costOfStep 18 = .ok (.iload_n 2, 1) := by decide +kernel
theorem dX6_costOfStep_19 : decode cX6_costOfStep 19 = .ok (.invokevirtual 62, 3) := by decide +kernel
theorem dX6_costOfStep_22 : decode cX6_costOfStep 22 = .ok (.ifCond .eq 10, 3) := by decide +kernel
theorem dX6_costOfStep_25 : decode cX6_costOfStep 25 = .ok (.iload 4, 2) := by decide +kernel
theorem dX6_costOfStep_27 : decode cX6_costOfStep 27 = .ok (.iconst 1, 1) := by decide +kernel
theorem dX6_costOfStep_28 : decode cX6_costOfStep 28 = .ok (.iadd, 1) := by decide +kernel
theorem dX6_costOfStep_29 : decode cX6_costOfStep 29 = .ok (.goto 5, 3) := by decide +kernel
theorem dX6_costOfStep_32 : decode cX6_costOfStep 32 = .ok (.iload 4, 2) := by decide +kernel
theorem dX6_costOfStep_34 : decode cX6_costOfStep 34 = .ok (.ireturn, 1) := by decide +kernel
theorem dX6_canEndOn_0 : decode cX6_canEndOn 0 = .ok (.aload_n 0, 1) := by decide +kernel
theorem dX6_canEndOn_1 : decode cX6_canEndOn 1 = .ok (.getfield 9, 3) := by decide +kernel
theorem dX6_canEndOn_4 : decode cX6_canEndOn 4 = .ok (.iload_n 2, 1) := by decide +kernel
theorem dX6_canEndOn_5 : decode cX6_canEndOn 5 = .ok (.iaload, 1) := by decide +kernel
theorem dX6_canEndOn_6 : decode cX6_canEndOn 6 = .ok (.sipush 1000, 3) := by decide +kernel
theorem dX6_canEndOn_9 : decode cX6_canEndOn 9 = .ok (.if_icmp .eq 16, 3) := by decide +kernel
theorem dX6_canEndOn_12 : decode cX6_canEndOn 12 = .ok (.aload_n 1, 1) := by decide +kernel
theorem dX6_canEndOn_13 : decode cX6_canEndOn 13 = .ok (.iload_n 2, 1) := by decide +kernel
theorem dX6_canEndOn_14 : decode cX6_canEndOn 14 = .ok (.invokevirtual 51, 3) := by decide +kernel
theorem dX6_canEndOn_17 : decode cX6_canEndOn 17 = .ok (.iconst (-1), 1) := by decide +kernel
theorem dX6_canEndOn_18 : decode cX6_canEndOn 18 = .ok (.if_icmp .ne 7, 3) := by decide +kernel
theorem dX6_canEndOn_21 : decode cX6_canEndOn 21 = .ok (.iconst 1, 1) := by decide +kernel
theorem dX6_canEndOn_22 : decode cX6_canEndOn 22 = .ok (.goto 4, 3) := by decide +kernel
theorem dX6_canEndOn_25 : decode cX6_canEndOn 25 = .ok (.iconst 0, 1) := by decide +kernel
theorem dX6_canEndOn_26 : decode cX6_canEndOn 26 = .ok (.ireturn, 1) := by decide +kernel
theorem dX6_endCount_0 : decode cX6_endCount 0 = .ok (.iconst 0, 1) := by decide +kernel
theorem dX6_endCount_1 : decode cX6_endCount 1 = .ok (.istore_n 2, 1) := by decide +kernel
theorem dX6_endCount_2 : decode cX6_endCount 2 = .ok (.iconst 0, 1) := by decide +kernel
theorem dX6_endCount_3 : decode cX6_endCount 3 = .ok (.istore_n 3, 1) := by decide +kernel
theorem dX6_endCount_4 : decode cX6_endCount 4 = .ok (.iload_n 3, 1) := by decide +kernel
theorem dX6_endCount_5 : decode cX6_endCount 5 = .ok (.bipush 63, 2) := by decide +kernel
theorem dX6_endCount_7 : decode cX6_endCount 7 = .ok (.if_icmp .ge 26, 3) := by decide +kernel
theorem dX6_endCount_10 : decode cX6_endCount 10 = .ok (.iload_n 2, 1) := by decide +kernel
theorem dX6_endCount_11 : decode cX6_endCount 11 = .ok (.aload_n 0, 1) := by decide +kernel
theorem dX6_endCount_12 : decode cX6_endCount 12 = .ok (.aload_n 1, 1) := by decide +kernel
theorem dX6_endCount_13 : decode cX6_endCount 13 = .ok (.iload_n 3, 1) := by decide +kernel
theorem dX6_endCount_14 : decode cX6_endCount 14 = .ok (.invokevirtual 65, 3) := by decide +kernel
theorem dX6_endCount_17 : decode cX6_endCount 17 = .ok (.ifCond .eq 7, 3) := by decide +kernel
theorem dX6_endCount_20 : decode cX6_endCount 20 = .ok (.iconst 1, 1) := by decide +kernel
theorem dX6_endCount_21 : decode cX6_endCount 21 = .ok (.goto 4, 3) := by decide +kernel
theorem dX6_endCount_24 : decode cX6_endCount 24 = .ok (.iconst 0, 1) := by decide +kernel
theorem dX6_endCount_25 : decode cX6_endCount 25 = .ok (.iadd, 1) := by decide +kernel
theorem dX6_endCount_26 : decode cX6_endCount 26 = .ok (.istore_n 2, 1) := by decide +kernel
theorem dX6_endCount_27 : decode cX6_endCount 27 = .ok (.iinc 3 1, 3) := by decide +kernel
theorem dX6_endCount_30 : decode cX6_endCount 30 = .ok (.goto (-26), 3) := by decide +kernel
theorem dX6_endCount_33 : decode cX6_endCount 33 = .ok (.iload_n 2, 1) := by decide +kernel
theorem dX6_endCount_34 : decode cX6_endCount 34 = .ok (.ireturn, 1) := by decide +kernel
theorem dX7_init_0 : decode cX7_init 0 = .ok (.aload_n 0, 1) := by decide +kernel
theorem dX7_init_1 : decode cX7_init 1 = .ok (.invokespecial 1, 3) := by decide +kernel
theorem dX7_init_4 : decode cX7_init 4 = .ok (.aload_n 0, 1) := by decide +kernel
theorem dX7_init_5 : decode cX7_init 5 = .ok (.new 7, 3) := by decide +kernel
theorem dX7_init_8 : decode cX7_init 8 = .ok (.dup, 1) := by decide +kernel
theorem dX7_init_9 : decode cX7_init 9 = .ok (.invokespecial 9, 3) := by decide +kernel
theorem dX7_init_12 : decode cX7_init 12 = .ok (.putfield 10, 3) := by decide +kernel
theorem dX7_init_15 : decode cX7_init 15 = .ok (.aload_n 0, 1) := by decide +kernel
theorem dX7_init_16 : decode cX7_init 16 = .ok (.new 16, 3) := by decide +kernel
theorem dX7_init_19 : decode cX7_init 19 = .ok (.dup, 1) := by decide +kernel
theorem dX7_init_20 : decode cX7_init 20 = .ok (.aload_n 0, 1) := by decide +kernel
theorem dX7_init_21 : decode cX7_init 21 = .ok (.getfield 10, 3) := by decide +kernel
theorem dX7_init_24 : decode cX7_init 24 = .ok (.invokespecial 18, 3) := by decide +kernel
theorem dX7_init_27 : decode cX7_init 27 = .ok (.putfield 21, 3) := by decide +kernel
theorem dX7_init_30 : decode cX7_init 30 = .ok (.aload_n 0, 1) := by decide +kernel
theorem dX7_init_31 : decode cX7_init 31 = .ok (.new 16, 3) := by decide +kernel
theorem dX7_init_34 : decode cX7_init 34 = .ok (.dup, 1) := by decide +kernel
theorem dX7_init_35 : decode cX7_init 35 = .ok (.aload_n 0, 1) := by decide +kernel
theorem dX7_init_36 : decode cX7_init 36 = .ok (.getfield 10, 3) := by decide +kernel
theorem dX7_init_39 : decode cX7_init 39 = .ok (.invokespecial 18, 3) := by decide +kernel
theorem dX7_init_42 : decode cX7_init 42 = .ok (.putfield 25, 3) := by decide +kernel
theorem dX7_init_45 : decode cX7_init 45 = .ok (.aload_n 0, 1) := by decide +kernel
theorem dX7_init_46 : decode cX7_init 46 = .ok (.new 16, 3) := by decide +kernel
theorem dX7_init_49 : decode cX7_init 49 = .ok (.dup, 1) := by decide +kernel
theorem dX7_init_50 : decode cX7_init 50 = .ok (.aload_n 0, 1) := by decide +kernel
theorem dX7_init_51 : decode cX7_init 51 = .ok (.getfield 10, 3) := by decide +kernel
theorem dX7_init_54 : decode cX7_init 54 = .ok (.invokespecial 18, 3) := by decide +kernel
theorem dX7_init_57 : decode cX7_init 57 = .ok (.putfield 28, 3) := by decide +kernel
theorem dX7_init_60 : decode cX7_init 60 = .ok (.aload_n 0, 1) := by decide +kernel
theorem dX7_init_61 : decode cX7_init 61 = .ok (.new 31, 3) := by decide +kernel
theorem dX7_init_64 : decode cX7_init 64 = .ok (.dup, 1) := by decide +kernel
theorem dX7_init_65 : decode cX7_init 65 = .ok (.aload_n 0, 1) := by decide +kernel
theorem dX7_init_66 : decode cX7_init 66 = .ok (.getfield 10, 3) := by decide +kernel
theorem dX7_init_69 : decode cX7_init 69 = .ok (.invokespecial 33, 3) := by decide +kernel
theorem dX7_init_72 : decode cX7_init 72 = .ok (.putfield 34, 3) := by decide +kernel
theorem dX7_init_75 : decode cX7_init 75 = .ok (.aload_n 0, 1) := by decide +kernel
theorem dX7_init_76 : decode cX7_init 76 = .ok (.new 38, 3) := by decide +kernel
theorem dX7_init_79 : decode cX7_init 79 = .ok (.dup, 1) := by decide +kernel
theorem dX7_init_80 : decode cX7_init 80 = .ok (.invokespecial 40, 3) := by decide +kernel
theorem dX7_init_83 : decode cX7_init 83 = .ok (.putfield 41, 3) := by decide +kernel
theorem dX7_init_86 : decode cX7_init 86 = .ok (.aload_n 0, 1) := by decide +kernel
theorem dX7_init_87 : decode cX7_init 87 = .ok (.new 45, 3) := by decide +kernel
theorem dX7_init_90 : decode cX7_init 90 = .ok (.dup, 1) := by decide +kernel
theorem dX7_init_91 : decode cX7_init 91 = .ok (.aload_n 0, 1) := by decide +kernel
theorem dX7_init_92 : decode cX7_init 92 = .ok (.getfield 10, 3) := by decide +kernel
theorem dX7_init_95 : decode cX7_init 95 = .ok (.invokespecial 47, 3) := by decide +kernel
theorem dX7_init_98 : decode cX7_init 98 = .ok (.putfield 48, 3) := by decide +kernel
theorem dX7_init_101 : decode cX7_init 101 = .ok (.aload_n 0, 1) := by decide +kernel
theorem dX7_init_102 : decode cX7_init 102 = .ok (.new 52, 3) := by decide +kernel
theorem dX7_init_105 : decode cX7_init 105 = .ok (.dup, 1) := by decide +kernel
theorem dX7_init_106 : decode cX7_init 106 = .ok (.aload_n 0, 1) := by decide +kernel
theorem dX7_init_107 : decode cX7_init 107 = .ok (.getfield 10, 3) := by decide +kernel
theorem dX7_init_110 : decode cX7_init 110 = .ok (.invokespecial 54, 3) := by decide +kernel
theorem dX7_init_113 : decode cX7_init 113 = .ok (.putfield 55, 3) := by decide +kernel
theorem dX7_init_116 : decode cX7_init 116 = .ok (.aload_n 0, 1) := by decide +kernel
theorem dX7_init_117 : decode cX7_init 117 = .ok (.new 59, 3) := by decide +kernel
theorem dX7_init_120 : decode cX7_init 120 = .ok (.dup, 1) := by decide +kernel
theorem dX7_init_121 : decode cX7_init 121 = .ok (.aload_n 0, 1) := by decide +kernel
theorem dX7_init_122 : decode cX7_init 122 = .ok (.getfield 10, 3) := by decide +kernel
theorem dX7_init_125 : decode cX7_init 125 = .ok (.aload_n 0, 1) := by decide +kernel
theorem dX7_init_126 : decode cX7_init 126 = .ok (.getfield 55, 3) := by decide +kernel
theorem dX7_init_129 : decode cX7_init 129 = .ok (.invokespecial 61, 3) := by decide +kernel
theorem dX7_init_132 : decode cX7_init 132 = .ok (.putfield 64, 3) := by decide +kernel
theorem dX7_init_135 : decode cX7_init 135 = .ok (.return_, 1) := by decide +kernel
theorem dX7_ground_0 : decode cX7_ground 0 = .ok (.iload_n 1, 1) := by decide +kernel
theorem dX7_ground_1 : decode cX7_ground 1 = .ok (.invokestatic 68, 3) := by decide +kernel
theorem dX7_ground_4 : decode cX7_ground 4 = .ok (.ifCond .ne 5, 3) := by decide +kernel
theorem dX7_ground_7 : decode cX7_ground 7 = .ok (.iconst (-1), 1) := by decide +kernel
theorem dX7_ground_8 : decode cX7_ground 8 = .ok (.ireturn, 1) := by decide +kernel
theorem dX7_ground_9 : decode cX7_ground 9 = .ok (.iload_n 2, 1) := by decide +kernel
theorem dX7_ground_10 : decode cX7_ground 10 = .ok (.ifCond .lt 8, 3) := by decide +kernel
theorem dX7_ground_13 : decode cX7_ground 13 = .ok (.iload_n 2, 1) := by decide +kernel
theorem dX7_ground_14 : decode cX7_ground 14 = .ok (.iconst 2, 1) := by decide +kernel
theorem dX7_ground_15 : decode cX7_ground 15 = .ok (.if_icmp .le 6, 3) := by decide +kernel
theorem dX7_ground_18 : decode cX7_ground 18 = .ok (.bipush (-2), 2) := by decide +kernel
theorem dX7_ground_20 : decode cX7_ground 20 = .ok (.ireturn, 1) := by decide +kernel
theorem dX7_ground_21 : decode cX7_ground 21 = .ok (.aload_n 0, 1) := by decide +kernel
theorem dX7_ground_22 : decode cX7_ground 22 = .ok (.getfield 21, 3) := by decide +kernel
theorem dX7_ground_25 : decode cX7_ground 25 = .ok (.getfield 72, 3) := by decide +kernel
theorem dX7_ground_28 : decode cX7_ground 28 = .ok (.iload_n 1, 1) := by decide +kernel
theorem dX7_ground_29 : decode cX7_ground 29 = .ok (.iaload, 1) := by decide +kernel
theorem dX7_ground_30 : decode cX7_ground 30 = .ok (.istore_n 3, 1) := by decide +kernel
theorem dX7_ground_31 : decode cX7_ground 31 = .ok (.iload_n 3, 1) := by decide +kernel
theorem dX7_ground_32 : decode cX7_ground 32 = .ok (.iload_n 2, 1) := by decide +kernel
theorem dX7_ground_33 : decode cX7_ground 33 = .ok (.if_icmp .ne 6, 3) := by decide +kernel
theorem dX7_ground_36 : decode cX7_ground 36 = .ok (.bipush (-5), 2) := by decide +kernel
theorem dX7_ground_38 : decode cX7_ground 38 = .ok (.ireturn, 1) := by decide +kernel
theorem dX7_ground_39 : decode cX7_ground 39 = .ok (.aload_n 0, 1) := by decide +kernel
theorem dX7_ground_40 : decode cX7_ground 40 = .ok (.getfield 34, 3) := by decide +kernel
theorem dX7_ground_43 : decode cX7_ground 43 = .ok (.aload_n 0, 1) := by decide +kernel
theorem dX7_ground_44 : decode cX7_ground 44 = .ok (.getfield 21, 3) := by decide +kernel
theorem dX7_ground_47 : decode cX7_ground 47 = .ok (.invokevirtual 76, 3) := by decide +kernel
theorem dX7_ground_50 : decode cX7_ground 50 = .ok (.aload_n 0, 1) := by decide +kernel
theorem dX7_ground_51 : decode cX7_ground 51 = .ok (.getfield 21, 3) := by decide +kernel
theorem dX7_ground_54 : decode cX7_ground 54 = .ok (.getfield 72, 3) := by decide +kernel
theorem dX7_ground_57 : decode cX7_ground 57 = .ok (.iload_n 1, 1) := by decide +kernel
theorem dX7_ground_58 : decode cX7_ground 58 = .ok (.iload_n 2, 1) := by decide +kernel
theorem dX7_ground_59 : decode cX7_ground 59 = .ok (.iastore, 1) := by decide +kernel
theorem dX7_ground_60 : decode cX7_ground 60 = .ok (.iload_n 3, 1) := by decide +kernel
theorem dX7_ground_61 : decode cX7_ground 61 = .ok (.ireturn, 1) := by decide +kernel
theorem dX7_river_0 : decode cX7_river 0 = .ok (.iload_n 1, 1) := by decide +kernel
theorem dX7_river_1 : decode cX7_river 1 = .ok (.invokestatic 68, 3) := by decide +kernel
theorem dX7_river_4 : decode cX7_river 4 = .ok (.ifCond .ne 5, 3) := by decide +kernel
theorem dX7_river_7 : decode cX7_river 7 = .ok (.iconst (-1), 1) := by decide +kernel
theorem dX7_river_8 : decode cX7_river 8 = .ok (.ireturn, 1) := by decide +kernel
theorem dX7_river_9 : decode cX7_river 9 = .ok (.iload_n 2, 1) := by decide +kernel
theorem dX7_river_10 : decode cX7_river 10 = .ok (.invokestatic 80, 3) := by decide +kernel
theorem dX7_river_13 : decode cX7_river 13 = .ok (.ifCond .ne 6, 3) := by decide +kernel
theorem dX7_river_16 : decode cX7_river 16 = .ok (.bipush (-2), 2) := by decide +kernel
theorem dX7_river_18 : decode cX7_river 18 = .ok (.ireturn, 1) := by decide +kernel
theorem dX7_river_19 : decode cX7_river 19 = .ok (.aload_n 0, 1) := by decide +kernel
theorem dX7_river_20 : decode cX7_river 20 = .ok (.getfield 10, 3) := by decide +kernel
theorem dX7_river_23 : decode cX7_river 23 = .ok (.getfield 83, 3) := by decide +kernel
theorem dX7_river_26 : decode cX7_river 26 = .ok (.iload_n 1, 1) := by decide +kernel
theorem dX7_river_27 : decode cX7_river 27 = .ok (.bipush 6, 2) := by decide +kernel
theorem dX7_river_29 : decode cX7_river 29 = .ok (.imul, 1) := by decide +kernel
theorem dX7_river_30 : decode cX7_river 30 = .ok (.iload_n 2, 1) := by decide +kernel
theorem dX7_river_31 : decode cX7_river 31 = .ok (.iadd, 1) := by decide +kernel
theorem dX7_river_32 : decode cX7_river 32 = .ok (.iaload, 1) := by decide +kernel
theorem dX7_river_33 : decode cX7_river 33 = .ok (.istore 4, 2) := by decide +kernel
theorem dX7_river_35 : decode cX7_river 35 = .ok (.iload 4, 2) := by decide +kernel
theorem dX7_river_37 : decode cX7_river 37 = .ok (.invokestatic 68, 3) := by decide +kernel
theorem dX7_river_40 : decode cX7_river 40 = .ok (.ifCond .ne 6, 3) := by decide +kernel
theorem dX7_river_43 : decode cX7_river 43 = .ok (.bipush (-4), 2) := by decide +kernel
theorem dX7_river_45 : decode cX7_river 45 = .ok (.ireturn, 1) := by decide +kernel
theorem dX7_river_46 : decode cX7_river 46 = .ok (.aload_n 0, 1) := by decide +kernel
theorem dX7_river_47 : decode cX7_river 47 = .ok (.getfield 21, 3) := by decide +kernel
theorem dX7_river_50 : decode cX7_river 50 = .ok (.iload_n 1, 1) := by decide +kernel
theorem dX7_river_51 : decode cX7_river 51 = .ok (.iload_n 2, 1) := by decide +kernel
theorem dX7_river_52 : decode cX7_river 52 = .ok (.invokevirtual 86, 3) := by decide +kernel
theorem dX7_river_55 : decode cX7_river 55 = .ok (.iload_n 3, 1) := by decide +kernel
theorem dX7_river_56 : decode cX7_river 56 = .ok (.if_icmp .ne 6, 3) := by decide +kernel
theorem dX7_river_59 : decode cX7_river 59 = .ok (.bipush (-5), 2) := by decide +kernel
theorem dX7_river_61 : decode cX7_river 61 = .ok (.ireturn, 1) := by decide +kernel
theorem dX7_river_62 : decode cX7_river 62 = .ok (.aload_n 0, 1) := by decide +kernel
theorem dX7_river_63 : decode cX7_river 63 = .ok (.getfield 34, 3) := by decide +kernel
theorem dX7_river_66 : decode cX7_river 66 = .ok (.aload_n 0, 1) := by decide +kernel
theorem dX7_river_67 : decode cX7_river 67 = .ok (.getfield 21, 3) := by decide +kernel
theorem dX7_river_70 : decode cX7_river 70 = .ok (.invokevirtual 76, 3) := by decide +kernel
theorem dX7_river_73 : decode cX7_river 73 = .ok (.aload_n 0, 1) := by decide +kernel
theorem dX7_river_74 : decode cX7_river 74 = .ok (.getfield 21, 3) := by decide +kernel
theorem dX7_river_77 : decode cX7_river 77 = .ok (.getfield 90, 3) := by decide +kernel
theorem dX7_river_80 : decode cX7_river 80 = .ok (.iload_n 1, 1) := by decide +kernel
theorem dX7_river_81 : decode cX7_river 81 = .ok (.dup2, 1) := by decide +kernel
theorem dX7_river_82 : decode cX7_river 82 = .ok (.iaload, 1) := by decide +kernel
theorem dX7_river_83 : decode cX7_river 83 = .ok (.iconst 1, 1) := by decide +kernel
theorem dX7_river_84 : decode cX7_river 84 = .ok (.iload_n 2, 1) := by decide +kernel
theorem dX7_river_85 : decode cX7_river 85 = .ok (.ishl, 1) := by decide +kernel
theorem dX7_river_86 : decode cX7_river 86 = .ok (.ixor, 1) := by decide +kernel
theorem dX7_river_87 : decode cX7_river 87 = .ok (.iastore, 1) := by decide +kernel
theorem dX7_river_88 : decode cX7_river 88 = .ok (.aload_n 0, 1) := by decide +kernel
theorem dX7_river_89 : decode cX7_river 89 = .ok (.getfield 21, 3) := by decide +kernel
theorem dX7_river_92 : decode cX7_river 92 = .ok (.getfield 90, 3) := by decide +kernel
theorem dX7_river_95 : decode cX7_river 95 = .ok (.iload 4, 2) := by decide +kernel
theorem dX7_river_97 : decode cX7_river 97 = .ok (.dup2, 1) := by decide +kernel
theorem dX7_river_98 : decode cX7_river 98 = .ok (.iaload, 1) := by decide +kernel
theorem dX7_river_99 : decode cX7_river 99 = .ok (.iconst 1, 1) := by decide +kernel
theorem dX7_river_100 : decode cX7_river 100 = .ok (.iload_n 2, 1) := by decide +kernel
theorem dX7_river_101 : decode cX7_river 101 = .ok (.invokestatic 93, 3) := by decide +kernel
theorem dX7_river_104 : decode cX7_river 104 = .ok (.ishl, 1) := by decide +kernel
theorem dX7_river_105 : decode cX7_river 105 = .ok (.ixor, 1) := by decide +kernel
theorem dX7_river_106 : decode cX7_river 106 = .ok (.iastore, 1) := by decide +kernel
theorem dX7_river_107 : decode cX7_river 107 = .ok (.aload_n 0, 1) := by decide +kernel
theorem dX7_river_108 : decode cX7_river 108 = .ok (.getfield 21, 3) := by decide +kernel
theorem dX7_river_111 : decode cX7_river 111 = .ok (.invokevirtual 97, 3) := by decide +kernel
theorem dX7_river_114 : decode cX7_river 114 = .ok (.ireturn, 1) := by decide +kernel
theorem dX7_fort_0 : decode cX7_fort 0 = .ok (.iload_n 1, 1) := by decide +kernel
theorem dX7_fort_1 : decode cX7_fort 1 = .ok (.invokestatic 68, 3) := by decide +kernel
theorem dX7_fort_4 : decode cX7_fort 4 = .ok (.ifCond .ne 5, 3) := by decide +kernel
theorem dX7_fort_7 : decode cX7_fort 7 = .ok (.iconst (-1), 1) := by decide +kernel
theorem dX7_fort_8 : decode cX7_fort 8 = .ok (.ireturn, 1) := by decide +kernel
theorem dX7_fort_9 : decode cX7_fort 9 = .ok (.iload_n 2, 1) := by decide +kernel
theorem dX7_fort_10 : decode cX7_fort 10 = .ok (.invokestatic 101, 3) := by decide +kernel
theorem dX7_fort_13 : decode cX7_fort 13 = .ok (.ifCond .ne 11, 3) := by decide +kernel
theorem dX7_fort_16 : decode cX7_fort 16 = .ok (.iload_n 2, 1) := by decide +kernel
theorem dX7_fort_17 : decode cX7_fort 17 = .ok (.iconst 2, 1) := by decide +kernel
theorem dX7_fort_18 : decode cX7_fort 18 = .ok (.if_icmp .eq 6, 3) := by decide +kernel
theorem dX7_fort_21 : decode cX7_fort 21 = .ok (.bipush (-2), 2) := by decide +kernel
theorem dX7_fort_23 : decode cX7_fort 23 = .ok (.ireturn, 1) := by decide +kernel
theorem dX7_fort_24 : decode cX7_fort 24 = .ok (.iload_n 2, 1) := by decide +kernel
theorem dX7_fort_25 : decode cX7_fort 25 = .ok (.iconst 2, 1) := by decide +kernel
theorem dX7_fort_26 : decode cX7_fort 26 = .ok (.if_icmp .eq 7, 3) := by decide +kernel
theorem dX7_fort_29 : decode cX7_fort 29 = .ok (.iconst 1, 1) := by decide +kernel
theorem dX7_fort_30 : decode cX7_fort 30 = .ok (.goto 4, 3) := by decide +kernel
theorem dX7_fort_33 : decode cX7_fort 33 = .ok (.iconst 0, 1) := by decide +kernel
theorem dX7_fort_34 : decode cX7_fort 34 = .ok (.istore_n 3, 1) := by decide +kernel
theorem dX7_fort_35 : decode cX7_fort 35 = .ok (.iload_n 3, 1) := by decide +kernel
theorem dX7_fort_36 : decode cX7_fort 36 = .ok (.aload_n 0, 1) := by decide +kernel
theorem dX7_fort_37 : decode cX7_fort 37 = .ok (.getfield 21, 3) := by decide +kernel
theorem dX7_fort_40 : decode cX7_fort 40 = .ok (.iload_n 1, 1) := by decide +kernel
theorem dX7_fort_41 : decode cX7_fort 41 = .ok (.invokevirtual 104, 3) := by decide +kernel
theorem dX7_fort_44 : decode cX7_fort 44 = .ok (.if_icmp .ne 6, 3) := by decide +kernel
theorem dX7_fort_47 : decode cX7_fort 47 = .ok (.bipush (-5), 2) := by decide +kernel
theorem dX7_fort_49 : decode cX7_fort 49 = .ok (.ireturn, 1) := by decide +kernel
theorem dX7_fort_50 : decode cX7_fort 50 = .ok (.aload_n 0, 1) := by decide +kernel
theorem dX7_fort_51 : decode cX7_fort 51 = .ok (.getfield 34, 3) := by decide +kernel
theorem dX7_fort_54 : decode cX7_fort 54 = .ok (.aload_n 0, 1) := by decide +kernel
theorem dX7_fort_55 : decode cX7_fort 55 = .ok (.getfield 21, 3) := by decide +kernel
theorem dX7_fort_58 : decode cX7_fort 58 = .ok (.invokevirtual 76, 3) := by decide +kernel
theorem dX7_fort_61 : decode cX7_fort 61 = .ok (.aload_n 0, 1) := by decide +kernel
theorem dX7_fort_62 : decode cX7_fort 62 = .ok (.getfield 21, 3) := by decide +kernel
theorem dX7_fort_65 : decode cX7_fort 65 = .ok (.getfield 107, 3) := by decide +kernel
theorem dX7_fort_68 : decode cX7_fort 68 = .ok (.iload_n 1, 1) := by decide +kernel
theorem dX7_fort_69 : decode cX7_fort 69 = .ok (.iload_n 3, 1) := by decide +kernel
theorem dX7_fort_70 : decode cX7_fort 70 = .ok (.ifCond .eq 7, 3) := by decide +kernel
theorem dX7_fort_73 : decode cX7_fort 73 = .ok (.iload_n 2, 1) := by decide +kernel
theorem dX7_fort_74 : decode cX7_fort 74 = .ok (.goto 4, 3) := by decide +kernel
theorem dX7_fort_77 : decode cX7_fort 77 = .ok (.iconst (-1), 1) := by decide +kernel
theorem dX7_fort_78 : decode cX7_fort 78 = .ok (.iastore, 1) := by decide +kernel
theorem dX7_fort_79 : decode cX7_fort 79 = .ok (.aload_n 0, 1) := by decide +kernel
theorem dX7_fort_80 : decode cX7_fort 80 = .ok (.getfield 21, 3) := by decide +kernel
theorem dX7_fort_83 : decode cX7_fort 83 = .ok (.iload_n 1, 1) := by decide +kernel
theorem dX7_fort_84 : decode cX7_fort 84 = .ok (.invokevirtual 110, 3) := by decide +kernel
theorem dX7_fort_87 : decode cX7_fort 87 = .ok (.aload_n 0, 1) := by decide +kernel
theorem dX7_fort_88 : decode cX7_fort 88 = .ok (.getfield 21, 3) := by decide +kernel
theorem dX7_fort_91 : decode cX7_fort 91 = .ok (.iconst 0, 1) := by decide +kernel
theorem dX7_fort_92 : decode cX7_fort 92 = .ok (.invokevirtual 114, 3) := by decide +kernel
theorem dX7_fort_95 : decode cX7_fort 95 = .ok (.aload_n 0, 1) := by decide +kernel
theorem dX7_fort_96 : decode cX7_fort 96 = .ok (.getfield 21, 3) := by decide +kernel
theorem dX7_fort_99 : decode cX7_fort 99 = .ok (.iconst 1, 1) := by decide +kernel
theorem dX7_fort_100 : decode cX7_fort 100 = .ok (.invokevirtual 114, 3) := by decide +kernel
theorem dX7_fort_103 : decode cX7_fort 103 = .ok (.iadd, 1) := by decide +kernel
theorem dX7_fort_104 : decode cX7_fort 104 = .ok (.ireturn, 1) := by decide +kernel
theorem dX7_base_0 : decode cX7_base 0 = .ok (.iload_n 1, 1) := by decide +kernel
theorem dX7_base_1 : decode cX7_base 1 = .ok (.invokestatic 101, 3) := by decide +kernel
theorem dX7_base_4 : decode cX7_base 4 = .ok (.ifCond .eq 10, 3) := by decide +kernel
theorem dX7_base_7 : decode cX7_base 7 = .ok (.iload_n 2, 1) := by decide +kernel
theorem dX7_base_8 : decode cX7_base 8 = .ok (.invokestatic 68, 3) := by decide +kernel
theorem dX7_base_11 : decode cX7_base 11 = .ok (.ifCond .ne 5, 3) := by decide +kernel
theorem dX7_base_14 : decode cX7_base 14 = .ok (.iconst (-1), 1) := by decide +kernel
theorem dX7_base_15 : decode cX7_base 15 = .ok (.ireturn, 1) := by decide +kernel
theorem dX7_base_16 : decode cX7_base 16 = .ok (.aload_n 0, 1) := by decide +kernel
theorem dX7_base_17 : decode cX7_base 17 = .ok (.getfield 21, 3) := by decide +kernel
theorem dX7_base_20 : decode cX7_base 20 = .ok (.getfield 117, 3) := by decide +kernel
theorem dX7_base_23 : decode cX7_base 23 = .ok (.iload_n 1, 1) := by decide +kernel
theorem dX7_base_24 : decode cX7_base 24 = .ok (.iaload, 1) := by decide +kernel
theorem dX7_base_25 : decode cX7_base 25 = .ok (.istore_n 3, 1) := by decide +kernel
theorem dX7_base_26 : decode cX7_base 26 = .ok (.iload_n 3, 1) := by decide +kernel
theorem dX7_base_27 : decode cX7_base 27 = .ok (.iload_n 2, 1) := by decide +kernel
theorem dX7_base_28 : decode cX7_base 28 = .ok (.if_icmp .ne 6, 3) := by decide +kernel
theorem dX7_base_31 : decode cX7_base 31 = .ok (.bipush (-5), 2) := by decide +kernel
theorem dX7_base_33 : decode cX7_base 33 = .ok (.ireturn, 1) := by decide +kernel
theorem dX7_base_34 : decode cX7_base 34 = .ok (.aload_n 0, 1) := by decide +kernel
theorem dX7_base_35 : decode cX7_base 35 = .ok (.getfield 34, 3) := by decide +kernel
theorem dX7_base_38 : decode cX7_base 38 = .ok (.aload_n 0, 1) := by decide +kernel
theorem dX7_base_39 : decode cX7_base 39 = .ok (.getfield 21, 3) := by decide +kernel
theorem dX7_base_42 : decode cX7_base 42 = .ok (.invokevirtual 76, 3) := by decide +kernel
theorem dX7_base_45 : decode cX7_base 45 = .ok (.aload_n 0, 1) := by decide +kernel
theorem dX7_base_46 : decode cX7_base 46 = .ok (.getfield 21, 3) := by decide +kernel
theorem dX7_base_49 : decode cX7_base 49 = .ok (.getfield 117, 3) := by decide +kernel
theorem dX7_base_52 : decode cX7_base 52 = .ok (.iload_n 1, 1) := by decide +kernel
theorem dX7_base_53 : decode cX7_base 53 = .ok (.iload_n 2, 1) := by decide +kernel
theorem dX7_base_54 : decode cX7_base 54 = .ok (.iastore, 1) := by decide +kernel
theorem dX7_base_55 : decode cX7_base 55 = .ok (.iload_n 3, 1) := by decide +kernel
theorem dX7_base_56 : decode cX7_base 56 = .ok (.ireturn, 1) := by decide +kernel
theorem dX7_place_0 : decode cX7_place 0 = .ok (.iload_n 1, 1) := by decide +kernel
theorem dX7_place_1 : decode cX7_place 1 = .ok (.invokestatic 101, 3) := by decide +kernel
theorem dX7_place_4 : decode cX7_place 4 = .ok (.ifCond .eq 10, 3) := by decide +kernel
theorem dX7_place_7 : decode cX7_place 7 = .ok (.iload_n 3, 1) := by decide +kernel
theorem dX7_place_8 : decode cX7_place 8 = .ok (.invokestatic 68, 3) := by decide +kernel
theorem dX7_place_11 : decode cX7_place 11 = .ok (.ifCond .ne 5, 3) := by decide +kernel
theorem dX7_place_14 : decode cX7_place 14 = .ok (.iconst (-1), 1) := by decide +kernel
theorem dX7_place_15 : decode cX7_place 15 = .ok (.ireturn, 1) := by decide +kernel
theorem dX7_place_16 : decode cX7_place 16 = .ok (.iload_n 2, 1) := by decide +kernel
theorem dX7_place_17 : decode cX7_place 17 = .ok (.iconst 1, 1) := by decide +kernel
theorem dX7_place_18 : decode cX7_place 18 = .ok (.if_icmp .lt 9, 3) := by decide +kernel
theorem dX7_place_21 : decode cX7_place 21 = .ok (.iload_n 2, 1) := by decide +kernel
theorem dX7_place_22 : decode cX7_place 22 = .ok (.bipush 9, 2) := by decide +kernel
theorem dX7_place_24 : decode cX7_place 24 = .ok (.if_icmp .le 6, 3) := by decide +kernel
theorem dX7_place_27 : decode cX7_place 27 = .ok (.bipush (-2), 2) := by decide +kernel
theorem dX7_place_29 : decode cX7_place 29 = .ok (.ireturn, 1) := by decide +kernel
theorem dX7_place_30 : decode cX7_place 30 = .ok (.aload_n 0, 1) := by decide +kernel
theorem dX7_place_31 : decode cX7_place 31 = .ok (.getfield 21, 3) := by decide +kernel
theorem dX7_place_34 : decode cX7_place 34 = .ok (.getfield 120, 3) := by decide +kernel
theorem dX7_place_37 : decode cX7_place 37 = .ok (.bipush 16, 2) := by decide +kernel
theorem dX7_place_39 : decode cX7_place 39 = .ok (.if_icmp .lt 6, 3) := by decide +kernel
theorem dX7_place_42 : decode cX7_place 42 = .ok (.bipush (-3), 2) := by decide +kernel
theorem dX7_place_44 : decode cX7_place 44 = .ok (.ireturn, 1) := by decide +kernel
theorem dX7_place_45 : decode cX7_place 45 = .ok (.aload_n 0, 1) := by decide +kernel
theorem dX7_place_46 : decode cX7_place 46 = .ok (.getfield 21, 3) := by decide +kernel
theorem dX7_place_49 : decode cX7_place 49 = .ok (.iload_n 3, 1) := by decide +kernel
theorem dX7_place_50 : decode cX7_place 50 = .ok (.invokevirtual 124, 3) := by decide +kernel
theorem dX7_place_53 : decode cX7_place 53 = .ok (.iconst (-1), 1) := by decide +kernel
theorem dX7_place_54 : decode cX7_place 54 = .ok (.if_icmp .eq 6, 3) := by decide +kernel
theorem dX7_place_57 : decode cX7_place 57 = .ok (.bipush (-4), 2) := by decide +kernel
theorem dX7_place_59 : decode cX7_place 59 = .ok (.ireturn, 1) := by decide +kernel
theorem dX7_place_60 : decode cX7_place 60 = .ok (.aload_n 0, 1) := by decide +kernel
theorem dX7_place_61 : decode cX7_place 61 = .ok (.getfield 34, 3) := by decide +kernel
theorem dX7_place_64 : decode cX7_place 64 = .ok (.aload_n 0, 1) := by decide +kernel
theorem dX7_place_65 : decode cX7_place 65 = .ok (.getfield 21, 3) := by decide +kernel
theorem dX7_place_68 : decode cX7_place 68 = .ok (.invokevirtual 76, 3) := by decide +kernel
theorem dX7_place_71 : decode cX7_place 71 = .ok (.aload_n 0, 1) := by decide +kernel
theorem dX7_place_72 : decode cX7_place 72 = .ok (.getfield 21, 3) := by decide +kernel
theorem dX7_place_75 : decode cX7_place 75 = .ok (.iload_n 1, 1) := by decide +kernel
theorem dX7_place_76 : decode cX7_place 76 = .ok (.iload_n 2, 1) := by decide +kernel
theorem dX7_place_77 : decode cX7_place 77 = .ok (.iload_n 3, 1) := by decide +kernel
theorem dX7_place_78 : decode cX7_place 78 = .ok (.invokevirtual 127, 3) := by decide +kernel
theorem dX7_place_81 : decode cX7_place 81 = .ok (.ireturn, 1) := by decide +kernel
theorem dX7_move_0 : decode cX7_move 0 = .ok (.aload_n 0, 1) := by decide +kernel
theorem dX7_move_1 : decode cX7_move 1 = .ok (.getfield 25, 3) := by decide +kernel
theorem dX7_move_4 : decode cX7_move 4 = .ok (.aload_n 0, 1) := by decide +kernel
theorem dX7_move_5 : decode cX7_move 5 = .ok (.getfield 21, 3) := by decide +kernel
theorem dX7_move_8 : decode cX7_move 8 = .ok (.invokevirtual 131, 3) := by decide +kernel
theorem dX7_move_11 : decode cX7_move 11 = .ok (.aload_n 0, 1) := by decide +kernel
theorem dX7_move_12 : decode cX7_move 12 = .ok (.aload_n 0, 1) := by decide +kernel
theorem dX7_move_13 : decode cX7_move 13 = .ok (.iload_n 1, 1) := by decide +kernel
theorem dX7_move_14 : decode cX7_move 14 = .ok (.iload_n 2, 1) := by decide +kernel
theorem dX7_move_15 : decode cX7_move 15 = .ok (.invokevirtual 134, 3) := by decide +kernel
theorem dX7_move_18 : decode cX7_move 18 = .ok (.invokevirtual 138, 3) := by decide +kernel
theorem dX7_move_21 : decode cX7_move 21 = .ok (.ireturn, 1) := by decide +kernel
theorem dX7_attack_0 : decode cX7_attack 0 = .ok (.aload_n 0, 1) := by decide +kernel
theorem dX7_attack_1 : decode cX7_attack 1 = .ok (.getfield 25, 3) := by decide +kernel
theorem dX7_attack_4 : decode cX7_attack 4 = .ok (.aload_n 0, 1) := by decide +kernel
theorem dX7_attack_5 : decode cX7_attack 5 = .ok (.getfield 21, 3) := by decide +kernel
theorem dX7_attack_8 : decode cX7_attack 8 = .ok (.invokevirtual 131, 3) := by decide +kernel
theorem dX7_attack_11 : decode cX7_attack 11 = .ok (.aload_n 0, 1) := by decide +kernel
theorem dX7_attack_12 : decode cX7_attack 12 = .ok (.aload_n 0, 1) := by decide +kernel
theorem dX7_attack_13 : decode cX7_attack 13 = .ok (.iload_n 1, 1) := by decide +kernel
theorem dX7_attack_14 : decode cX7_attack 14 = .ok (.iload_n 2, 1) := by decide +kernel
theorem dX7_attack_15 : decode cX7_attack 15 = .ok (.invokevirtual 141, 3) := by decide +kernel
theorem dX7_attack_18 : decode cX7_attack 18 = .ok (.invokevirtual 138, 3) := by decide +kernel
theorem dX7_attack_21 : decode cX7_attack 21 = .ok (.ireturn, 1) := by decide +kernel
theorem dX7_endTurn_0 : decode cX7_endTurn 0 = .ok (.aload_n 0, 1) := by decide +kernel
theorem dX7_endTurn_1 : decode cX7_endTurn 1 = .ok (.getfield 25, 3) := by decide +kernel
theorem dX7_endTurn_4 : decode cX7_endTurn 4 = .ok (.aload_n 0, 1) := by decide +kernel
theorem dX7_endTurn_5 : decode cX7_endTurn 5 = .ok (.getfield 21, 3) := by decide +kernel
theorem dX7_endTurn_8 : decode cX7_endTurn 8 = .ok (.invokevirtual 131, 3) := by decide +kernel
theorem dX7_endTurn_11 : decode cX7_endTurn 11 = .ok (.aload_n 0, 1) := by decide +kernel
theorem dX7_endTurn_12 : decode cX7_endTurn 12 = .ok (.aload_n 0, 1) := by decide +kernel
theorem dX7_endTurn_13 : decode cX7_endTurn 13 = .ok (.invokevirtual 144, 3) := by decide +kernel
theorem dX7_endTurn_16 : decode cX7_endTurn 16 = .ok (.invokevirtual 138, 3) := by decide +kernel
theorem dX7_endTurn_19 : decode cX7_endTurn 19 = .ok (.ireturn, 1) := by decide +kernel
theorem dX7_perform_0 : decode cX7_perform 0 = .ok (.aload_n 0, 1) := by decide +kernel
theorem dX7_perform_1 : decode cX7_perform 1 = .ok (.getfield 41, 3) := by decide +kernel
theorem dX7_perform_4 : decode cX7_perform 4 = .ok (.invokevirtual 147, 3) := by decide +kernel
theorem dX7_perform_7 : decode cX7_perform 7 = .ok (.istore_n 1, 1) := by decide +kernel
theorem dX7_perform_8 : decode cX7_perform 8 = .ok (.iload_n 1, 1) := by decide +kernel
theorem dX7_perform_9 : decode cX7_perform 9 = .ok (.iconst (-1), 1) := by decide +kernel
theorem dX7_perform_10 : decode cX7_perform 10 = .ok (.if_icmp .eq 8, 3) := by decide +kernel
theorem dX7_perform_13 : decode cX7_perform 13 = .ok (.bipush (-100), 2) := by decide +kernel
theorem dX7_perform_15 : decode cX7_perform 15 = .ok (.iload_n 1, 1) := by decide +kernel
theorem dX7_perform_16 : decode cX7_perform 16 = .ok (.isub, 1) := by decide +kernel
theorem dX7_perform_17 : decode cX7_perform 17 = .ok (.ireturn, 1) := by decide +kernel
theorem dX7_perform_18 : decode cX7_perform 18 = .ok (.aload_n 0, 1) := by decide +kernel
theorem dX7_perform_19 : decode cX7_perform 19 = .ok (.getfield 25, 3) := by decide +kernel
theorem dX7_perform_22 : decode cX7_perform 22 = .ok (.aload_n 0, 1) := by decide +kernel
theorem dX7_perform_23 : decode cX7_perform 23 = .ok (.getfield 21, 3) := by decide +kernel
theorem dX7_perform_26 : decode cX7_perform 26 = .ok (.invokevirtual 131, 3) := by decide +kernel
theorem dX7_perform_29 : decode cX7_perform 29 = .ok (.iconst 0, 1) := by decide +kernel
theorem dX7_perform_30 : decode cX7_perform 30 = .ok (.istore_n 2, 1) := by decide +kernel
theorem dX7_perform_31 : decode cX7_perform 31 = .ok (.iload_n 2, 1) := by decide +kernel
theorem dX7_perform_32 : decode cX7_perform 32 = .ok (.aload_n 0, 1) := by decide +kernel
theorem dX7_perform_33 : decode cX7_perform 33 = .ok (.getfield 41, 3) := by decide +kernel
theorem dX7_perform_36 : decode cX7_perform 36 = .ok (.getfield 150, 3) := by decide +kernel
theorem dX7_perform_39 : decode cX7_perform 39 = .ok (.if_icmp .ge 117, 3) := by decide +kernel
theorem dX7_perform_42 : decode cX7_perform 42 = .ok (.aload_n 0, 1) := by decide +kernel
theorem dX7_perform_43 : decode cX7_perform 43 = .ok (.getfield 41, 3) := by decide +kernel
theorem dX7_perform_46 : decode cX7_perform 46 = .ok (.getfield 153, 3) := by decide +kernel
theorem dX7_perform_49 : decode cX7_perform 49 = .ok (.iload_n 2, 1) := by decide +kernel
theorem dX7_perform_50 : decode cX7_perform 50 = .ok (.caload, 1) := by decide +kernel
theorem dX7_perform_51 : decode cX7_perform 51 = .ok (.bipush 62, 2) := by decide +kernel
theorem dX7_perform_53 : decode cX7_perform 53 = .ok (.if_icmp .ne 29, 3) := by decide +kernel
theorem dX7_perform_56 : decode cX7_perform 56 = .ok (.aload_n 0, 1) := by decide +kernel
theorem dX7_perform_57 : decode cX7_perform 57 = .ok (.aload_n 0, 1) := by decide +kernel
theorem dX7_perform_58 : decode cX7_perform 58 = .ok (.getfield 41, 3) := by decide +kernel
theorem dX7_perform_61 : decode cX7_perform 61 = .ok (.getfield 157, 3) := by decide +kernel
theorem dX7_perform_64 : decode cX7_perform 64 = .ok (.iload_n 2, 1) := by decide +kernel
theorem dX7_perform_65 : decode cX7_perform 65 = .ok (.iaload, 1) := by decide +kernel
theorem dX7_perform_66 : decode cX7_perform 66 = .ok (.aload_n 0, 1) := by decide +kernel
theorem dX7_perform_67 : decode cX7_perform 67 = .ok (.getfield 41, 3) := by decide +kernel
theorem dX7_perform_70 : decode cX7_perform 70 = .ok (.getfield 159, 3) := by decide +kernel
theorem dX7_perform_73 : decode cX7_perform 73 = .ok (.iload_n 2, 1) := by decide +kernel
theorem dX7_perform_74 : decode cX7_perform 74 = .ok (.iaload, 1) := by decide +kernel
theorem dX7_perform_75 : decode cX7_perform 75 = .ok (.invokevirtual 134, 3) := by decide +kernel
theorem dX7_perform_78 : decode cX7_perform 78 = .ok (.istore_n 3, 1) := by decide +kernel
theorem dX7_perform_79 : decode cX7_perform 79 = .ok (.goto 48, 3) := by decide +kernel
theorem dX7_perform_82 : decode cX7_perform 82 = .ok (.aload_n 0, 1) := by decide +kernel
theorem dX7_perform_83 : decode cX7_perform 83 = .ok (.getfield 41, 3) := by decide +kernel
theorem dX7_perform_86 : decode cX7_perform 86 = .ok (.getfield 153, 3) := by decide +kernel
theorem dX7_perform_89 : decode cX7_perform 89 = .ok (.iload_n 2, 1) := by decide +kernel
theorem dX7_perform_90 : decode cX7_perform 90 = .ok (.caload, 1) := by decide +kernel
theorem dX7_perform_91 : decode cX7_perform 91 = .ok (.bipush 33, 2) := by decide +kernel
theorem dX7_perform_93 : decode cX7_perform 93 = .ok (.if_icmp .ne 29, 3) := by decide +kernel
theorem dX7_perform_96 : decode cX7_perform 96 = .ok (.aload_n 0, 1) := by decide +kernel
theorem dX7_perform_97 : decode cX7_perform 97 = .ok (.aload_n 0, 1) := by decide +kernel
theorem dX7_perform_98 : decode cX7_perform 98 = .ok (.getfield 41, 3) := by decide +kernel
theorem dX7_perform_101 : decode cX7_perform 101 = .ok (.getfield 157, 3) := by decide +kernel
theorem dX7_perform_104 : decode cX7_perform 104 = .ok (.iload_n 2, 1) := by decide +kernel
theorem dX7_perform_105 : decode cX7_perform 105 = .ok (.iaload, 1) := by decide +kernel
theorem dX7_perform_106 : decode cX7_perform 106 = .ok (.aload_n 0, 1) := by decide +kernel
theorem dX7_perform_107 : decode cX7_perform 107 = .ok (.getfield 41, 3) := by decide +kernel
theorem dX7_perform_110 : decode cX7_perform 110 = .ok (.getfield 159, 3) := by decide +kernel
theorem dX7_perform_113 : decode cX7_perform 113 = .ok (.iload_n 2, 1) := by decide +kernel
theorem dX7_perform_114 : decode cX7_perform 114 = .ok (.iaload, 1) := by decide +kernel
theorem dX7_perform_115 : decode cX7_perform 115 = .ok (.invokevirtual 141, 3) := by decide +kernel
theorem dX7_perform_118 : decode cX7_perform 118 = .ok (.istore_n 3, 1) := by decide +kernel
theorem dX7_perform_119 : decode cX7_perform 119 = .ok (.goto 8, 3) := by decide +kernel
theorem dX7_perform_122 : decode cX7_perform 122 = .ok (.aload_n 0, 1) := by decide +kernel
theorem dX7_perform_123 : decode cX7_perform 123 = .ok (.invokevirtual 144, 3) := by decide +kernel
theorem dX7_perform_126 : decode cX7_perform 126 = .ok (.istore_n 3, 1) := by decide +kernel
theorem dX7_perform_127 : decode cX7_perform 127 = .ok (.iload_n 3, 1) := by decide +kernel
theorem dX7_perform_128 : decode cX7_perform 128 = .ok (.ifCond .ge 22, 3) := by decide +kernel
theorem dX7_perform_131 : decode cX7_perform 131 = .ok (.iload_n 3, 1) := by decide +kernel
theorem dX7_perform_132 : decode cX7_perform 132 = .ok (.bipush (-5), 2) := by decide +kernel
theorem dX7_perform_134 : decode cX7_perform 134 = .ok (.if_icmp .eq 16, 3) := by decide +kernel
theorem dX7_perform_137 : decode cX7_perform 137 = .ok (.aload_n 0, 1) := by decide +kernel
theorem dX7_perform_138 : decode cX7_perform 138 = .ok (.getfield 21, 3) := by decide +kernel
theorem dX7_perform_141 : decode cX7_perform 141 = .ok (.aload_n 0, 1) := by decide +kernel
theorem dX7_perform_142 : decode cX7_perform 142 = .ok (.getfield 25, 3) := by decide +kernel
theorem dX7_perform_145 : decode cX7_perform 145 = .ok (.invokevirtual 131, 3) := by decide +kernel
theorem dX7_perform_148 : decode cX7_perform 148 = .ok (.iload_n 3, 1) := by decide +kernel
theorem dX7_perform_149 : decode cX7_perform 149 = .ok (.ireturn, 1) := by decide +kernel
theorem dX7_perform_150 : decode cX7_perform 150 = .ok (.iinc 2 1, 3) := by decide +kernel
theorem dX7_perform_153 : decode cX7_perform 153 = .ok (.goto (-122), 3) := by decide +kernel
theorem dX7_perform_156 : decode cX7_perform 156 = .ok (.aload_n 0, 1) := by decide +kernel
theorem dX7_perform_157 : decode cX7_perform 157 = .ok (.aload_n 0, 1) := by decide +kernel
theorem dX7_perform_158 : decode cX7_perform 158 = .ok (.getfield 41, 3) := by decide +kernel
theorem dX7_perform_161 : decode cX7_perform 161 = .ok (.getfield 150, 3) := by decide +kernel
theorem dX7_perform_164 : decode cX7_perform 164 = .ok (.invokevirtual 138, 3) := by decide +kernel
theorem dX7_perform_167 : decode cX7_perform 167 = .ok (.ireturn, 1) := by decide +kernel
theorem dX7_recordedIfDone_0 : decode cX7_recordedIfDone 0 = .ok (.iload_n 1, 1) := by decide +kernel
theorem dX7_recordedIfDone_1 : decode cX7_recordedIfDone 1 = .ok (.ifCond .lt 14, 3) := by decide +kernel
theorem dX7_recordedIfDone_4 : decode cX7_recordedIfDone 4 = .ok (.aload_n 0, 1) := by decide +kernel
theorem dX7_recordedIfDone_5 : decode cX7_recordedIfDone 5 = .ok (.getfield 34, 3) := by decide +kernel
theorem dX7_recordedIfDone_8 : decode cX7_recordedIfDone 8 = .ok (.aload_n 0, 1) := by decide +kernel
theorem dX7_recordedIfDone_9 : decode cX7_recordedIfDone 9 = .ok (.getfield 25, 3) := by decide +kernel
theorem dX7_recordedIfDone_12 : decode cX7_recordedIfDone 12 = .ok (.invokevirtual 76, 3) := by decide +kernel
theorem dX7_recordedIfDone_15 : decode cX7_recordedIfDone 15 = .ok (.iload_n 1, 1) := by decide +kernel
theorem dX7_recordedIfDone_16 : decode cX7_recordedIfDone 16 = .ok (.ireturn, 1) := by decide +kernel
theorem dX7_moveUnit_0 : decode cX7_moveUnit 0 = .ok (.aload_n 0, 1) := by decide +kernel
theorem dX7_moveUnit_1 : decode cX7_moveUnit 1 = .ok (.getfield 21, 3) := by decide +kernel
theorem dX7_moveUnit_4 : decode cX7_moveUnit 4 = .ok (.iload_n 1, 1) := by decide +kernel
theorem dX7_moveUnit_5 : decode cX7_moveUnit 5 = .ok (.invokevirtual 162, 3) := by decide +kernel
theorem dX7_moveUnit_8 : decode cX7_moveUnit 8 = .ok (.ifCond .eq 10, 3) := by decide +kernel
theorem dX7_moveUnit_11 : decode cX7_moveUnit 11 = .ok (.iload_n 2, 1) := by decide +kernel
theorem dX7_moveUnit_12 : decode cX7_moveUnit 12 = .ok (.invokestatic 68, 3) := by decide +kernel
theorem dX7_moveUnit_15 : decode cX7_moveUnit 15 = .ok (.ifCond .ne 5, 3) := by decide +kernel
theorem dX7_moveUnit_18 : decode cX7_moveUnit 18 = .ok (.iconst (-1), 1) := by decide +kernel
theorem dX7_moveUnit_19 : decode cX7_moveUnit 19 = .ok (.ireturn, 1) := by decide +kernel
theorem dX7_moveUnit_20 : decode cX7_moveUnit 20 = .ok (.aload_n 0, 1) := by decide +kernel
theorem dX7_moveUnit_21 : decode cX7_moveUnit 21 = .ok (.getfield 21, 3) := by decide +kernel
theorem dX7_moveUnit_24 : decode cX7_moveUnit 24 = .ok (.getfield 165, 3) := by decide +kernel
theorem dX7_moveUnit_27 : decode cX7_moveUnit 27 = .ok (.iload_n 1, 1) := by decide +kernel
theorem dX7_moveUnit_28 : decode cX7_moveUnit 28 = .ok (.iaload, 1) := by decide +kernel
theorem dX7_moveUnit_29 : decode cX7_moveUnit 29 = .ok (.aload_n 0, 1) := by decide +kernel
theorem dX7_moveUnit_30 : decode cX7_moveUnit 30 = .ok (.getfield 21, 3) := by decide +kernel
theorem dX7_moveUnit_33 : decode cX7_moveUnit 33 = .ok (.invokevirtual 168, 3) := by decide +kernel
theorem dX7_moveUnit_36 : decode cX7_moveUnit 36 = .ok (.if_icmp .eq 6, 3) := by decide +kernel
theorem dX7_moveUnit_39 : decode cX7_moveUnit 39 = .ok (.bipush (-4), 2) := by decide +kernel
theorem dX7_moveUnit_41 : decode cX7_moveUnit 41 = .ok (.ireturn, 1) := by decide +kernel
theorem dX7_moveUnit_42 : decode cX7_moveUnit 42 = .ok (.aload_n 0, 1) := by decide +kernel
theorem dX7_moveUnit_43 : decode cX7_moveUnit 43 = .ok (.getfield 21, 3) := by decide +kernel
theorem dX7_moveUnit_46 : decode cX7_moveUnit 46 = .ok (.getfield 171, 3) := by decide +kernel
theorem dX7_moveUnit_49 : decode cX7_moveUnit 49 = .ok (.iload_n 1, 1) := by decide +kernel
theorem dX7_moveUnit_50 : decode cX7_moveUnit 50 = .ok (.iaload, 1) := by decide +kernel
theorem dX7_moveUnit_51 : decode cX7_moveUnit 51 = .ok (.iload_n 2, 1) := by decide +kernel
theorem dX7_moveUnit_52 : decode cX7_moveUnit 52 = .ok (.if_icmp .ne 6, 3) := by decide +kernel
theorem dX7_moveUnit_55 : decode cX7_moveUnit 55 = .ok (.bipush (-5), 2) := by decide +kernel
theorem dX7_moveUnit_57 : decode cX7_moveUnit 57 = .ok (.ireturn, 1) := by decide +kernel
theorem dX7_moveUnit_58 : decode cX7_moveUnit 58 = .ok (.aload_n 0, 1) := by decide +kernel
theorem dX7_moveUnit_59 : decode cX7_moveUnit 59 = .ok (.getfield 48, 3) := by decide +kernel
theorem dX7_moveUnit_62 : decode cX7_moveUnit 62 = .ok (.aload_n 0, 1) := by decide +kernel
theorem dX7_moveUnit_63 : decode cX7_moveUnit 63 = .ok (.getfield 21, 3) := by decide +kernel
theorem dX7_moveUnit_66 : decode cX7_moveUnit 66 = .ok (.iload_n 1, 1) := by decide +kernel
theorem dX7_moveUnit_67 : decode cX7_moveUnit 67 = .ok (.invokevirtual 172, 3) := by decide +kernel
theorem dX7_moveUnit_70 : decode cX7_moveUnit 70 = .ok (.aload_n 0, 1) := by decide +kernel
theorem dX7_moveUnit_71 : decode cX7_moveUnit 71 = .ok (.getfield 48, 3) := by decide +kernel
theorem dX7_moveUnit_74 : decode cX7_moveUnit 74 = .ok (.aload_n 0, 1) := by decide +kernel
theorem dX7_moveUnit_75 : decode cX7_moveUnit 75 = .ok (.getfield 21, 3) := by decide +kernel
theorem dX7_moveUnit_78 : decode cX7_moveUnit 78 = .ok (.iload_n 2, 1) := by decide +kernel
theorem dX7_moveUnit_79 : decode cX7_moveUnit 79 = .ok (.invokevirtual 176, 3) := by decide +kernel
theorem dX7_moveUnit_82 : decode cX7_moveUnit 82 = .ok (.ifCond .ne 6, 3) := by decide +kernel
theorem dX7_moveUnit_85 : decode cX7_moveUnit 85 = .ok (.bipush (-4), 2) := by decide +kernel
theorem dX7_moveUnit_87 : decode cX7_moveUnit 87 = .ok (.ireturn, 1) := by decide +kernel
theorem dX7_moveUnit_88 : decode cX7_moveUnit 88 = .ok (.aload_n 0, 1) := by decide +kernel
theorem dX7_moveUnit_89 : decode cX7_moveUnit 89 = .ok (.getfield 21, 3) := by decide +kernel
theorem dX7_moveUnit_92 : decode cX7_moveUnit 92 = .ok (.getfield 180, 3) := by decide +kernel
theorem dX7_moveUnit_95 : decode cX7_moveUnit 95 = .ok (.iload_n 1, 1) := by decide +kernel
theorem dX7_moveUnit_96 : decode cX7_moveUnit 96 = .ok (.dup2, 1) := by decide +kernel
theorem dX7_moveUnit_97 : decode cX7_moveUnit 97 = .ok (.iaload, 1) := by decide +kernel
theorem dX7_moveUnit_98 : decode cX7_moveUnit 98 = .ok (.aload_n 0, 1) := by decide +kernel
theorem dX7_moveUnit_99 : decode cX7_moveUnit 99 = .ok (.getfield 48, 3) := by decide +kernel
theorem dX7_moveUnit_102 : decode cX7_moveUnit 102 = .ok (.getfield 183, 3) := by decide +kernel
theorem dX7_moveUnit_105 : decode cX7_moveUnit 105 = .ok (.iload_n 2, 1) := by decide +kernel
theorem dX7_moveUnit_106 : decode cX7_moveUnit 106 = .ok (.iaload, 1) := by decide +kernel
theorem dX7_moveUnit_107 : decode cX7_moveUnit 107 = .ok (.isub, 1) := by decide +kernel
theorem dX7_moveUnit_108 : decode cX7_moveUnit 108 = .ok (.iastore, 1) := by decide +kernel
theorem dX7_moveUnit_109 : decode cX7_moveUnit 109 = .ok (.aload_n 0, 1) := by decide +kernel
theorem dX7_moveUnit_110 : decode cX7_moveUnit 110 = .ok (.getfield 21, 3) := by decide +kernel
theorem dX7_moveUnit_113 : decode cX7_moveUnit 113 = .ok (.iload_n 1, 1) := by decide +kernel
theorem dX7_moveUnit_114 : decode cX7_moveUnit 114 = .ok (.iload_n 2, 1) := by decide +kernel
theorem dX7_moveUnit_115 : decode cX7_moveUnit 115 = .ok (.invokevirtual 186, 3) := by decide +kernel
theorem dX7_moveUnit_118 : decode cX7_moveUnit 118 = .ok (.aload_n 0, 1) := by decide +kernel
theorem dX7_moveUnit_119 : decode cX7_moveUnit 119 = .ok (.getfield 21, 3) := by decide +kernel
theorem dX7_moveUnit_122 : decode cX7_moveUnit 122 = .ok (.getfield 180, 3) := by decide +kernel
theorem dX7_moveUnit_125 : decode cX7_moveUnit 125 = .ok (.iload_n 1, 1) := by decide +kernel
theorem dX7_moveUnit_126 : decode cX7_moveUnit 126 = .ok (.iaload, 1) := by decide +kernel
theorem dX7_moveUnit_127 : decode cX7_moveUnit 127 = .ok (.ireturn, 1) := by decide +kernel
theorem dX7_strike_0 : decode cX7_strike 0 = .ok (.aload_n 0, 1) := by decide +kernel
theorem dX7_strike_1 : decode cX7_strike 1 = .ok (.getfield 21, 3) := by decide +kernel
theorem dX7_strike_4 : decode cX7_strike 4 = .ok (.iload_n 1, 1) := by decide +kernel
theorem dX7_strike_5 : decode cX7_strike 5 = .ok (.invokevirtual 162, 3) := by decide +kernel
theorem dX7_strike_8 : decode cX7_strike 8 = .ok (.ifCond .eq 10, 3) := by decide +kernel
theorem dX7_strike_11 : decode cX7_strike 11 = .ok (.iload_n 2, 1) := by decide +kernel
theorem dX7_strike_12 : decode cX7_strike 12 = .ok (.invokestatic 68, 3) := by decide +kernel
theorem dX7_strike_15 : decode cX7_strike 15 = .ok (.ifCond .ne 5, 3) := by decide +kernel
theorem dX7_strike_18 : decode cX7_strike 18 = .ok (.iconst (-1), 1) := by decide +kernel
theorem dX7_strike_19 : decode cX7_strike 19 = .ok (.ireturn, 1) := by decide +kernel
theorem dX7_strike_20 : decode cX7_strike 20 = .ok (.aload_n 0, 1) := by decide +kernel
theorem dX7_strike_21 : decode cX7_strike 21 = .ok (.getfield 21, 3) := by decide +kernel
theorem dX7_strike_24 : decode cX7_strike 24 = .ok (.getfield 165, 3) := by decide +kernel
theorem dX7_strike_27 : decode cX7_strike 27 = .ok (.iload_n 1, 1) := by decide +kernel
theorem dX7_strike_28 : decode cX7_strike 28 = .ok (.iaload, 1) := by decide +kernel
theorem dX7_strike_29 : decode cX7_strike 29 = .ok (.aload_n 0, 1) := by decide +kernel
theorem dX7_strike_30 : decode cX7_strike 30 = .ok (.getfield 21, 3) := by decide +kernel
theorem dX7_strike_33 : decode cX7_strike 33 = .ok (.invokevirtual 168, 3) := by decide +kernel
theorem dX7_strike_36 : decode cX7_strike 36 = .ok (.if_icmp .ne 24, 3) := by decide +kernel
theorem dX7_strike_39 : decode cX7_strike 39 = .ok (.aload_n 0, 1) := by decide +kernel
theorem dX7_strike_40 : decode cX7_strike 40 = .ok (.getfield 21, 3) := by decide +kernel
theorem dX7_strike_43 : decode cX7_strike 43 = .ok (.getfield 190, 3) := by decide +kernel
theorem dX7_strike_46 : decode cX7_strike 46 = .ok (.iload_n 1, 1) := by decide +kernel
theorem dX7_strike_47 : decode cX7_strike 47 = .ok (.iaload, 1) := by decide +kernel
theorem dX7_strike_48 : decode cX7_strike 48 = .ok (.ifCond .eq 12, 3) := by decide +kernel
theorem dX7_strike_51 : decode cX7_strike 51 = .ok (.aload_n 0, 1) := by decide +kernel
theorem dX7_strike_52 : decode cX7_strike 52 = .ok (.iload_n 1, 1) := by decide +kernel
theorem dX7_strike_53 : decode cX7_strike 53 = .ok (.iload_n 2, 1) := by decide +kernel
theorem dX7_strike_54 : decode cX7_strike 54 = .ok (.invokevirtual 193, 3) := by decide +kernel
theorem dX7_strike_57 : decode cX7_strike 57 = .ok (.ifCond .ne 6, 3) := by decide +kernel
theorem dX7_strike_60 : decode cX7_strike 60 = .ok (.bipush (-4), 2) := by decide +kernel
theorem dX7_strike_62 : decode cX7_strike 62 = .ok (.ireturn, 1) := by decide +kernel
theorem dX7_strike_63 : decode cX7_strike 63 = .ok (.aload_n 0, 1) := by decide +kernel
theorem dX7_strike_64 : decode cX7_strike 64 = .ok (.getfield 21, 3) := by decide +kernel
theorem dX7_strike_67 : decode cX7_strike 67 = .ok (.getfield 196, 3) := by decide +kernel
theorem dX7_strike_70 : decode cX7_strike 70 = .ok (.iload_n 2, 1) := by decide +kernel
theorem dX7_strike_71 : decode cX7_strike 71 = .ok (.iaload, 1) := by decide +kernel
theorem dX7_strike_72 : decode cX7_strike 72 = .ok (.istore_n 3, 1) := by decide +kernel
theorem dX7_strike_73 : decode cX7_strike 73 = .ok (.aload_n 0, 1) := by decide +kernel
theorem dX7_strike_74 : decode cX7_strike 74 = .ok (.getfield 64, 3) := by decide +kernel
theorem dX7_strike_77 : decode cX7_strike 77 = .ok (.aload_n 0, 1) := by decide +kernel
theorem dX7_strike_78 : decode cX7_strike 78 = .ok (.getfield 21, 3) := by decide +kernel
theorem dX7_strike_81 : decode cX7_strike 81 = .ok (.iload_n 1, 1) := by decide +kernel
theorem dX7_strike_82 : decode cX7_strike 82 = .ok (.iload_n 3, 1) := by decide +kernel
theorem dX7_strike_83 : decode cX7_strike 83 = .ok (.invokevirtual 199, 3) := by decide +kernel
theorem dX7_strike_86 : decode cX7_strike 86 = .ok (.aload_n 0, 1) := by decide +kernel
theorem dX7_strike_87 : decode cX7_strike 87 = .ok (.getfield 21, 3) := by decide +kernel
theorem dX7_strike_90 : decode cX7_strike 90 = .ok (.getfield 190, 3) := by decide +kernel
theorem dX7_strike_93 : decode cX7_strike 93 = .ok (.iload_n 1, 1) := by decide +kernel
theorem dX7_strike_94 : decode cX7_strike 94 = .ok (.dup2, 1) := by decide +kernel
theorem dX7_strike_95 : decode cX7_strike 95 = .ok (.iaload, 1) := by decide +kernel
theorem dX7_strike_96 : decode cX7_strike 96 = .ok (.iconst 1, 1) := by decide +kernel
theorem dX7_strike_97 : decode cX7_strike 97 = .ok (.isub, 1) := by decide +kernel
theorem dX7_strike_98 : decode cX7_strike 98 = .ok (.iastore, 1) := by decide +kernel
theorem dX7_strike_99 : decode cX7_strike 99 = .ok (.aload_n 0, 1) := by decide +kernel
theorem dX7_strike_100 : decode cX7_strike 100 = .ok (.getfield 21, 3) := by decide +kernel
theorem dX7_strike_103 : decode cX7_strike 103 = .ok (.iload_n 1, 1) := by decide +kernel
theorem dX7_strike_104 : decode cX7_strike 104 = .ok (.aload_n 0, 1) := by decide +kernel
theorem dX7_strike_105 : decode cX7_strike 105 = .ok (.getfield 64, 3) := by decide +kernel
theorem dX7_strike_108 : decode cX7_strike 108 = .ok (.getfield 203, 3) := by decide +kernel
theorem dX7_strike_111 : decode cX7_strike 111 = .ok (.invokevirtual 206, 3) := by decide +kernel
theorem dX7_strike_114 : decode cX7_strike 114 = .ok (.aload_n 0, 1) := by decide +kernel
theorem dX7_strike_115 : decode cX7_strike 115 = .ok (.getfield 21, 3) := by decide +kernel
theorem dX7_strike_118 : decode cX7_strike 118 = .ok (.iload_n 3, 1) := by decide +kernel
theorem dX7_strike_119 : decode cX7_strike 119 = .ok (.aload_n 0, 1) := by decide +kernel
theorem dX7_strike_120 : decode cX7_strike 120 = .ok (.getfield 64, 3) := by decide +kernel
theorem dX7_strike_123 : decode cX7_strike 123 = .ok (.getfield 209, 3) := by decide +kernel
theorem dX7_strike_126 : decode cX7_strike 126 = .ok (.invokevirtual 206, 3) := by decide +kernel
theorem dX7_strike_129 : decode cX7_strike 129 = .ok (.aload_n 0, 1) := by decide +kernel
theorem dX7_strike_130 : decode cX7_strike 130 = .ok (.getfield 64, 3) := by decide +kernel
theorem dX7_strike_133 : decode cX7_strike 133 = .ok (.getfield 209, 3) := by decide +kernel
theorem dX7_strike_136 : decode cX7_strike 136 = .ok (.ifCond .ne 12, 3) := by decide +kernel
theorem dX7_strike_139 : decode cX7_strike 139 = .ok (.aload_n 0, 1) := by decide +kernel
theorem dX7_strike_140 : decode cX7_strike 140 = .ok (.getfield 21, 3) := by decide +kernel
theorem dX7_strike_143 : decode cX7_strike 143 = .ok (.iload_n 1, 1) := by decide +kernel
theorem dX7_strike_144 : decode cX7_strike 144 = .ok (.iload_n 2, 1) := by decide +kernel
theorem dX7_strike_145 : decode cX7_strike 145 = .ok (.invokevirtual 186, 3) := by decide +kernel
theorem dX7_strike_148 : decode cX7_strike 148 = .ok (.aload_n 0, 1) := by decide +kernel
theorem dX7_strike_149 : decode cX7_strike 149 = .ok (.getfield 64, 3) := by decide +kernel
theorem dX7_strike_152 : decode cX7_strike 152 = .ok (.getfield 209, 3) := by decide +kernel
theorem dX7_strike_155 : decode cX7_strike 155 = .ok (.ireturn, 1) := by decide +kernel
theorem dX7_canFight_0 : decode cX7_canFight 0 = .ok (.aload_n 0, 1) := by decide +kernel
theorem dX7_canFight_1 : decode cX7_canFight 1 = .ok (.getfield 21, 3) := by decide +kernel
theorem dX7_canFight_4 : decode cX7_canFight 4 = .ok (.iload_n 2, 1) := by decide +kernel
theorem dX7_canFight_5 : decode cX7_canFight 5 = .ok (.invokevirtual 124, 3) := by decide +kernel
theorem dX7_canFight_8 : decode cX7_canFight 8 = .ok (.iconst 1, 1) := by decide +kernel
theorem dX7_canFight_9 : decode cX7_canFight 9 = .ok (.aload_n 0, 1) := by decide +kernel
theorem dX7_canFight_10 : decode cX7_canFight 10 = .ok (.getfield 21, 3) := by decide +kernel
theorem dX7_canFight_13 : decode cX7_canFight 13 = .ok (.getfield 165, 3) := by decide +kernel
theorem dX7_canFight_16 : decode cX7_canFight 16 = .ok (.iload_n 1, 1) := by decide +kernel
theorem dX7_canFight_17 : decode cX7_canFight 17 = .ok (.iaload, 1) := by decide +kernel
theorem dX7_canFight_18 : decode cX7_canFight 18 = .ok (.isub, 1) := by decide +kernel
theorem dX7_canFight_19 : decode cX7_canFight 19 = .ok (.if_icmp .ne 28, 3) := by decide +kernel
theorem dX7_canFight_22 : decode cX7_canFight 22 = .ok (.aload_n 0, 1) := by decide +kernel
theorem dX7_canFight_23 : decode cX7_canFight 23 = .ok (.getfield 10, 3) := by decide +kernel
theorem dX7_canFight_26 : decode cX7_canFight 26 = .ok (.aload_n 0, 1) := by decide +kernel
theorem dX7_canFight_27 : decode cX7_canFight 27 = .ok (.getfield 21, 3) := by decide +kernel
theorem dX7_canFight_30 : decode cX7_canFight 30 = .ok (.getfield 171, 3) := by decide +kernel
theorem dX7_canFight_33 : decode cX7_canFight 33 = .ok (.iload_n 1, 1) := by decide +kernel
theorem dX7_canFight_34 : decode cX7_canFight 34 = .ok (.iaload, 1) := by decide +kernel
theorem dX7_canFight_35 : decode cX7_canFight 35 = .ok (.iload_n 2, 1) := by decide +kernel
theorem dX7_canFight_36 : decode cX7_canFight 36 = .ok (.invokevirtual 212, 3) := by decide +kernel
theorem dX7_canFight_39 : decode cX7_canFight 39 = .ok (.iconst (-1), 1) := by decide +kernel
theorem dX7_canFight_40 : decode cX7_canFight 40 = .ok (.if_icmp .eq 7, 3) := by decide +kernel
theorem dX7_canFight_43 : decode cX7_canFight 43 = .ok (.iconst 1, 1) := by decide +kernel
theorem dX7_canFight_44 : decode cX7_canFight 44 = .ok (.goto 4, 3) := by decide +kernel
theorem dX7_canFight_47 : decode cX7_canFight 47 = .ok (.iconst 0, 1) := by decide +kernel
theorem dX7_canFight_48 : decode cX7_canFight 48 = .ok (.ireturn, 1) := by decide +kernel
theorem dX7_finishTurn_0 : decode cX7_finishTurn 0 = .ok (.aload_n 0, 1) := by decide +kernel
theorem dX7_finishTurn_1 : decode cX7_finishTurn 1 = .ok (.getfield 21, 3) := by decide +kernel
theorem dX7_finishTurn_4 : decode cX7_finishTurn 4 = .ok (.getfield 215, 3) := by decide +kernel
theorem dX7_finishTurn_7 : decode cX7_finishTurn 7 = .ok (.sipush 999, 3) := by decide +kernel
theorem dX7_finishTurn_10 : decode cX7_finishTurn 10 = .ok (.if_icmp .lt 6, 3) := by decide +kernel
theorem dX7_finishTurn_13 : decode cX7_finishTurn 13 = .ok (.bipush (-3), 2) := by decide +kernel
theorem dX7_finishTurn_15 : decode cX7_finishTurn 15 = .ok (.ireturn, 1) := by decide +kernel
theorem dX7_finishTurn_16 : decode cX7_finishTurn 16 = .ok (.aload_n 0, 1) := by decide +kernel
theorem dX7_finishTurn_17 : decode cX7_finishTurn 17 = .ok (.aload_n 0, 1) := by decide +kernel
theorem dX7_finishTurn_18 : decode cX7_finishTurn 18 = .ok (.getfield 21, 3) := by decide +kernel
theorem dX7_finishTurn_21 : decode cX7_finishTurn 21 = .ok (.invokevirtual 168, 3) := by decide +kernel
theorem dX7_finishTurn_24 : decode cX7_finishTurn 24 = .ok (.invokevirtual 218, 3) := by decide +kernel
theorem dX7_finishTurn_27 : decode cX7_finishTurn 27 = .ok (.istore_n 1, 1) := by decide +kernel
theorem dX7_finishTurn_28 : decode cX7_finishTurn 28 = .ok (.aload_n 0, 1) := by decide +kernel
theorem dX7_finishTurn_29 : decode cX7_finishTurn 29 = .ok (.getfield 21, 3) := by decide +kernel
theorem dX7_finishTurn_32 : decode cX7_finishTurn 32 = .ok (.dup, 1) := by decide +kernel
theorem dX7_finishTurn_33 : decode cX7_finishTurn 33 = .ok (.getfield 215, 3) := by decide +kernel
theorem dX7_finishTurn_36 : decode cX7_finishTurn 36 = .ok (.iconst 1, 1) := by decide +kernel
theorem dX7_finishTurn_37 : decode cX7_finishTurn 37 = .ok (.iadd, 1) := by decide +kernel
theorem dX7_finishTurn_38 : decode cX7_finishTurn 38 = .ok (.putfield 215, 3) := by decide +kernel
theorem dX7_finishTurn_41 : decode cX7_finishTurn 41 = .ok (.aload_n 0, 1) := by decide +kernel
theorem dX7_finishTurn_42 : decode cX7_finishTurn 42 = .ok (.getfield 21, 3) := by decide +kernel
theorem dX7_finishTurn_45 : decode cX7_finishTurn 45 = .ok (.aload_n 0, 1) := by decide +kernel
theorem dX7_finishTurn_46 : decode cX7_finishTurn 46 = .ok (.getfield 21, 3) := by decide +kernel
theorem dX7_finishTurn_49 : decode cX7_finishTurn 49 = .ok (.invokevirtual 168, 3) := by decide +kernel
theorem dX7_finishTurn_52 : decode cX7_finishTurn 52 = .ok (.invokevirtual 221, 3) := by decide +kernel
theorem dX7_finishTurn_55 : decode cX7_finishTurn 55 = .ok (.iload_n 1, 1) := by decide +kernel
theorem dX7_finishTurn_56 : decode cX7_finishTurn 56 = .ok (.ireturn, 1) := by decide +kernel
theorem dX7_starve_0 : decode cX7_starve 0 = .ok (.aload_n 0, 1) := by decide +kernel
theorem dX7_starve_1 : decode cX7_starve 1 = .ok (.getfield 55, 3) := by decide +kernel
theorem dX7_starve_4 : decode cX7_starve 4 = .ok (.aload_n 0, 1) := by decide +kernel
theorem dX7_starve_5 : decode cX7_starve 5 = .ok (.getfield 21, 3) := by decide +kernel
theorem dX7_starve_8 : decode cX7_starve 8 = .ok (.iload_n 1, 1) := by decide +kernel
theorem dX7_starve_9 : decode cX7_starve 9 = .ok (.invokevirtual 224, 3) := by decide +kernel
theorem dX7_starve_12 : decode cX7_starve 12 = .ok (.iconst 0, 1) := by decide +kernel
theorem dX7_starve_13 : decode cX7_starve 13 = .ok (.istore_n 2, 1) := by decide +kernel
theorem dX7_starve_14 : decode cX7_starve 14 = .ok (.iconst 0, 1) := by decide +kernel
theorem dX7_starve_15 : decode cX7_starve 15 = .ok (.istore_n 3, 1) := by decide +kernel
theorem dX7_starve_16 : decode cX7_starve 16 = .ok (.iload_n 3, 1) := by decide +kernel
theorem dX7_starve_17 : decode cX7_starve 17 = .ok (.aload_n 0, 1) := by decide +kernel
theorem dX7_starve_18 : decode cX7_starve 18 = .ok (.getfield 21, 3) := by decide +kernel
theorem dX7_starve_21 : decode cX7_starve 21 = .ok (.getfield 120, 3) := by decide +kernel
theorem dX7_starve_24 : decode cX7_starve 24 = .ok (.if_icmp .ge 120, 3) := by decide +kernel
theorem dX7_starve_27 : decode cX7_starve 27 = .ok (.aload_n 0, 1) := by decide +kernel
theorem dX7_starve_28 : decode cX7_starve 28 = .ok (.getfield 21, 3) := by decide +kernel
theorem dX7_starve_31 : decode cX7_starve 31 = .ok (.iload_n 3, 1) := by decide +kernel
theorem dX7_starve_32 : decode cX7_starve 32 = .ok (.iload_n 1, 1) := by decide +kernel
theorem dX7_starve_33 : decode cX7_starve 33 = .ok (.invokevirtual 225, 3) := by decide +kernel
theorem dX7_starve_36 : decode cX7_starve 36 = .ok (.ifCond .ne 6, 3) := by decide +kernel
theorem dX7_starve_39 : decode cX7_starve 39 = .ok (.goto 99, 3) := by decide +kernel
theorem dX7_starve_42 : decode cX7_starve 42 = .ok (.aload_n 0, 1) := by decide +kernel
theorem dX7_starve_43 : decode cX7_starve 43 = .ok (.getfield 55, 3) := by decide +kernel
theorem dX7_starve_46 : decode cX7_starve 46 = .ok (.aload_n 0, 1) := by decide +kernel
theorem dX7_starve_47 : decode cX7_starve 47 = .ok (.getfield 21, 3) := by decide +kernel
theorem dX7_starve_50 : decode cX7_starve 50 = .ok (.getfield 171, 3) := by decide +kernel
theorem dX7_starve_53 : decode cX7_starve 53 = .ok (.iload_n 3, 1) := by decide +kernel
theorem dX7_starve_54 : decode cX7_starve 54 = .ok (.iaload, 1) := by decide +kernel
theorem dX7_starve_55 : decode cX7_starve 55 = .ok (.invokevirtual 228, 3) := by decide +kernel
theorem dX7_starve_58 : decode cX7_starve 58 = .ok (.ifCond .eq 16, 3) := by decide +kernel
theorem dX7_starve_61 : decode cX7_starve 61 = .ok (.aload_n 0, 1) := by decide +kernel
theorem dX7_starve_62 : decode cX7_starve 62 = .ok (.getfield 21, 3) := by decide +kernel
theorem dX7_starve_65 : decode cX7_starve 65 = .ok (.getfield 231, 3) := by decide +kernel
theorem dX7_starve_68 : decode cX7_starve 68 = .ok (.iload_n 3, 1) := by decide +kernel
theorem dX7_starve_69 : decode cX7_starve 69 = .ok (.iconst 0, 1) := by decide +kernel
theorem dX7_starve_70 : decode cX7_starve 70 = .ok (.iastore, 1) := by decide +kernel
theorem dX7_starve_71 : decode cX7_starve 71 = .ok (.goto 67, 3) := by decide +kernel
theorem dX7_starve_74 : decode cX7_starve 74 = .ok (.aload_n 0, 1) := by decide +kernel
theorem dX7_starve_75 : decode cX7_starve 75 = .ok (.getfield 21, 3) := by decide +kernel
theorem dX7_starve_78 : decode cX7_starve 78 = .ok (.getfield 231, 3) := by decide +kernel
theorem dX7_starve_81 : decode cX7_starve 81 = .ok (.iload_n 3, 1) := by decide +kernel
theorem dX7_starve_82 : decode cX7_starve 82 = .ok (.dup2, 1) := by decide +kernel
theorem dX7_starve_83 : decode cX7_starve 83 = .ok (.iaload, 1) := by decide +kernel
theorem dX7_starve_84 : decode cX7_starve 84 = .ok (.iconst 1, 1) := by decide +kernel
theorem dX7_starve_85 : decode cX7_starve 85 = .ok (.iadd, 1) := by decide +kernel
theorem dX7_starve_86 : decode cX7_starve 86 = .ok (.iastore, 1) := by decide +kernel
theorem dX7_starve_87 : decode cX7_starve 87 = .ok (.aload_n 0, 1) := by decide +kernel
theorem dX7_starve_88 : decode cX7_starve 88 = .ok (.getfield 21, 3) := by decide +kernel
theorem dX7_starve_91 : decode cX7_starve 91 = .ok (.getfield 231, 3) := by decide +kernel
theorem dX7_starve_94 : decode cX7_starve 94 = .ok (.iload_n 3, 1) := by decide +kernel
theorem dX7_starve_95 : decode cX7_starve 95 = .ok (.iaload, 1) := by decide +kernel
theorem dX7_starve_96 : decode cX7_starve 96 = .ok (.iconst 2, 1) := by decide +kernel
theorem dX7_starve_97 : decode cX7_starve 97 = .ok (.if_icmp .lt 41, 3) := by decide +kernel
theorem dX7_starve_100 : decode cX7_starve 100 = .ok (.aload_n 0, 1) := by decide +kernel
theorem dX7_starve_101 : decode cX7_starve 101 = .ok (.getfield 21, 3) := by decide +kernel
theorem dX7_starve_104 : decode cX7_starve 104 = .ok (.iload_n 3, 1) := by decide +kernel
theorem dX7_starve_105 : decode cX7_starve 105 = .ok (.aload_n 0, 1) := by decide +kernel
theorem dX7_starve_106 : decode cX7_starve 106 = .ok (.getfield 21, 3) := by decide +kernel
theorem dX7_starve_109 : decode cX7_starve 109 = .ok (.getfield 234, 3) := by decide +kernel
theorem dX7_starve_112 : decode cX7_starve 112 = .ok (.iload_n 3, 1) := by decide +kernel
theorem dX7_starve_113 : decode cX7_starve 113 = .ok (.iaload, 1) := by decide +kernel
theorem dX7_starve_114 : decode cX7_starve 114 = .ok (.iconst 1, 1) := by decide +kernel
theorem dX7_starve_115 : decode cX7_starve 115 = .ok (.isub, 1) := by decide +kernel
theorem dX7_starve_116 : decode cX7_starve 116 = .ok (.invokevirtual 206, 3) := by decide +kernel
theorem dX7_starve_119 : decode cX7_starve 119 = .ok (.iload_n 2, 1) := by decide +kernel
theorem dX7_starve_120 : decode cX7_starve 120 = .ok (.aload_n 0, 1) := by decide +kernel
theorem dX7_starve_121 : decode cX7_starve 121 = .ok (.getfield 21, 3) := by decide +kernel
theorem dX7_starve_124 : decode cX7_starve 124 = .ok (.iload_n 3, 1) := by decide +kernel
theorem dX7_starve_125 : decode cX7_starve 125 = .ok (.invokevirtual 162, 3) := by decide +kernel
theorem dX7_starve_128 : decode cX7_starve 128 = .ok (.ifCond .eq 7, 3) := by decide +kernel
theorem dX7_starve_131 : decode cX7_starve 131 = .ok (.iconst 0, 1) := by decide +kernel
theorem dX7_starve_132 : decode cX7_starve 132 = .ok (.goto 4, 3) := by decide +kernel
theorem dX7_starve_135 : decode cX7_starve 135 = .ok (.iconst 1, 1) := by decide +kernel
theorem dX7_starve_136 : decode cX7_starve 136 = .ok (.iadd, 1) := by decide +kernel
theorem dX7_starve_137 : decode cX7_starve 137 = .ok (.istore_n 2, 1) := by decide +kernel
theorem dX7_starve_138 : decode cX7_starve 138 = .ok (.iinc 3 1, 3) := by decide +kernel
theorem dX7_starve_141 : decode cX7_starve 141 = .ok (.goto (-125), 3) := by decide +kernel
theorem dX7_starve_144 : decode cX7_starve 144 = .ok (.iload_n 2, 1) := by decide +kernel
theorem dX7_starve_145 : decode cX7_starve 145 = .ok (.ireturn, 1) := by decide +kernel
theorem dX7_type_0 : decode cX7_type 0 = .ok (.aload_n 0, 1) := by decide +kernel
theorem dX7_type_1 : decode cX7_type 1 = .ok (.getfield 41, 3) := by decide +kernel
theorem dX7_type_4 : decode cX7_type 4 = .ok (.iload_n 1, 1) := by decide +kernel
theorem dX7_type_5 : decode cX7_type 5 = .ok (.invokevirtual 237, 3) := by decide +kernel
theorem dX7_type_8 : decode cX7_type 8 = .ok (.ifCond .eq 13, 3) := by decide +kernel
theorem dX7_type_11 : decode cX7_type 11 = .ok (.aload_n 0, 1) := by decide +kernel
theorem dX7_type_12 : decode cX7_type 12 = .ok (.getfield 41, 3) := by decide +kernel
theorem dX7_type_15 : decode cX7_type 15 = .ok (.getfield 241, 3) := by decide +kernel
theorem dX7_type_18 : decode cX7_type 18 = .ok (.goto 5, 3) := by decide +kernel
theorem dX7_type_21 : decode cX7_type 21 = .ok (.bipush (-3), 2) := by decide +kernel
theorem dX7_type_23 : decode cX7_type 23 = .ok (.ireturn, 1) := by decide +kernel
theorem dX7_clearText_0 : decode cX7_clearText 0 = .ok (.aload_n 0, 1) := by decide +kernel
theorem dX7_clearText_1 : decode cX7_clearText 1 = .ok (.getfield 41, 3) := by decide +kernel
theorem dX7_clearText_4 : decode cX7_clearText 4 = .ok (.getfield 241, 3) := by decide +kernel
theorem dX7_clearText_7 : decode cX7_clearText 7 = .ok (.istore_n 1, 1) := by decide +kernel
theorem dX7_clearText_8 : decode cX7_clearText 8 = .ok (.aload_n 0, 1) := by decide +kernel
theorem dX7_clearText_9 : decode cX7_clearText 9 = .ok (.getfield 41, 3) := by decide +kernel
theorem dX7_clearText_12 : decode cX7_clearText 12 = .ok (.iconst 0, 1) := by decide +kernel
theorem dX7_clearText_13 : decode cX7_clearText 13 = .ok (.putfield 241, 3) := by decide +kernel
theorem dX7_clearText_16 : decode cX7_clearText 16 = .ok (.iload_n 1, 1) := by decide +kernel
theorem dX7_clearText_17 : decode cX7_clearText 17 = .ok (.ireturn, 1) := by decide +kernel
theorem dX7_undo_0 : decode cX7_undo 0 = .ok (.aload_n 0, 1) := by decide +kernel
theorem dX7_undo_1 : decode cX7_undo 1 = .ok (.getfield 34, 3) := by decide +kernel
theorem dX7_undo_4 : decode cX7_undo 4 = .ok (.aload_n 0, 1) := by decide +kernel
theorem dX7_undo_5 : decode cX7_undo 5 = .ok (.getfield 21, 3) := by decide +kernel
theorem dX7_undo_8 : decode cX7_undo 8 = .ok (.invokevirtual 244, 3) := by decide +kernel
theorem dX7_undo_11 : decode cX7_undo 11 = .ok (.ifCond .eq 13, 3) := by decide +kernel
theorem dX7_undo_14 : decode cX7_undo 14 = .ok (.aload_n 0, 1) := by decide +kernel
theorem dX7_undo_15 : decode cX7_undo 15 = .ok (.getfield 34, 3) := by decide +kernel
theorem dX7_undo_18 : decode cX7_undo 18 = .ok (.getfield 248, 3) := by decide +kernel
theorem dX7_undo_21 : decode cX7_undo 21 = .ok (.goto 5, 3) := by decide +kernel
theorem dX7_undo_24 : decode cX7_undo 24 = .ok (.bipush (-5), 2) := by decide +kernel
theorem dX7_undo_26 : decode cX7_undo 26 = .ok (.ireturn, 1) := by decide +kernel
theorem dX7_keep_0 : decode cX7_keep 0 = .ok (.aload_n 0, 1) := by decide +kernel
theorem dX7_keep_1 : decode cX7_keep 1 = .ok (.getfield 28, 3) := by decide +kernel
theorem dX7_keep_4 : decode cX7_keep 4 = .ok (.aload_n 0, 1) := by decide +kernel
theorem dX7_keep_5 : decode cX7_keep 5 = .ok (.getfield 21, 3) := by decide +kernel
theorem dX7_keep_8 : decode cX7_keep 8 = .ok (.invokevirtual 131, 3) := by decide +kernel
theorem dX7_keep_11 : decode cX7_keep 11 = .ok (.aload_n 0, 1) := by decide +kernel
theorem dX7_keep_12 : decode cX7_keep 12 = .ok (.iconst 1, 1) := by decide +kernel
theorem dX7_keep_13 : decode cX7_keep 13 = .ok (.putfield 251, 3) := by decide +kernel
theorem dX7_keep_16 : decode cX7_keep 16 = .ok (.aload_n 0, 1) := by decide +kernel
theorem dX7_keep_17 : decode cX7_keep 17 = .ok (.getfield 21, 3) := by decide +kernel
theorem dX7_keep_20 : decode cX7_keep 20 = .ok (.getfield 215, 3) := by decide +kernel
theorem dX7_keep_23 : decode cX7_keep 23 = .ok (.ireturn, 1) := by decide +kernel
theorem dX7_restore_0 : decode cX7_restore 0 = .ok (.aload_n 0, 1) := by decide +kernel
theorem dX7_restore_1 : decode cX7_restore 1 = .ok (.getfield 251, 3) := by decide +kernel
theorem dX7_restore_4 : decode cX7_restore 4 = .ok (.ifCond .ne 6, 3) := by decide +kernel
theorem dX7_restore_7 : decode cX7_restore 7 = .ok (.bipush (-5), 2) := by decide +kernel
theorem dX7_restore_9 : decode cX7_restore 9 = .ok (.ireturn, 1) := by decide +kernel
theorem dX7_restore_10 : decode cX7_restore 10 = .ok (.aload_n 0, 1) := by decide +kernel
theorem dX7_restore_11 : decode cX7_restore 11 = .ok (.getfield 34, 3) := by decide +kernel
theorem dX7_restore_14 : decode cX7_restore 14 = .ok (.aload_n 0, 1) := by decide +kernel
theorem dX7_restore_15 : decode cX7_restore 15 = .ok (.getfield 21, 3) := by decide +kernel
theorem dX7_restore_18 : decode cX7_restore 18 = .ok (.invokevirtual 76, 3) := by decide +kernel
theorem dX7_restore_21 : decode cX7_restore 21 = .ok (.aload_n 0, 1) := by decide +kernel
theorem dX7_restore_22 : decode cX7_restore 22 = .ok (.getfield 21, 3) := by decide +kernel
theorem dX7_restore_25 : decode cX7_restore 25 = .ok (.aload_n 0, 1) := by decide +kernel
theorem dX7_restore_26 : decode cX7_restore 26 = .ok (.getfield 28, 3) := by decide +kernel
theorem dX7_restore_29 : decode cX7_restore 29 = .ok (.invokevirtual 131, 3) := by decide +kernel
theorem dX7_restore_32 : decode cX7_restore 32 = .ok (.aload_n 0, 1) := by decide +kernel
theorem dX7_restore_33 : decode cX7_restore 33 = .ok (.getfield 21, 3) := by decide +kernel
theorem dX7_restore_36 : decode cX7_restore 36 = .ok (.getfield 215, 3) := by decide +kernel
theorem dX7_restore_39 : decode cX7_restore 39 = .ok (.ireturn, 1) := by decide +kernel
theorem dX7_hex_0 : decode cX7_hex 0 = .ok (.iload_n 1, 1) := by decide +kernel
theorem dX7_hex_1 : decode cX7_hex 1 = .ok (.invokestatic 68, 3) := by decide +kernel
theorem dX7_hex_4 : decode cX7_hex 4 = .ok (.ifCond .ne 5, 3) := by decide +kernel
theorem dX7_hex_7 : decode cX7_hex 7 = .ok (.iconst (-1), 1) := by decide +kernel
theorem dX7_hex_8 : decode cX7_hex 8 = .ok (.ireturn, 1) := by decide +kernel
theorem dX7_hex_9 : decode cX7_hex 9 = .ok (.iload_n 2, 1) := by decide +kernel
theorem dX7_hex_10 : decode cX7_hex 10 = .ok (.tableswitch 163 0 8 #[50, 60, 70, 96, 123, 123, 138, 138, 154], 50) := by decide +kernel
theorem dX7_hex_60 : decode cX7_hex 60 = .ok (.aload_n 0, 1) := by decide +kernel
theorem dX7_hex_61 : decode cX7_hex 61 = .ok (.getfield 21, 3) := by decide +kernel
theorem dX7_hex_64 : decode cX7_hex 64 = .ok (.getfield 72, 3) := by decide +kernel
theorem dX7_hex_67 : decode cX7_hex 67 = .ok (.iload_n 1, 1) := by decide +kernel
theorem dX7_hex_68 : decode cX7_hex 68 = .ok (.iaload, 1) := by decide +kernel
theorem dX7_hex_69 : decode cX7_hex 69 = .ok (.ireturn, 1) := by decide +kernel
theorem dX7_hex_70 : decode cX7_hex 70 = .ok (.aload_n 0, 1) := by decide +kernel
theorem dX7_hex_71 : decode cX7_hex 71 = .ok (.getfield 21, 3) := by decide +kernel
theorem dX7_hex_74 : decode cX7_hex 74 = .ok (.getfield 90, 3) := by decide +kernel
theorem dX7_hex_77 : decode cX7_hex 77 = .ok (.iload_n 1, 1) := by decide +kernel
theorem dX7_hex_78 : decode cX7_hex 78 = .ok (.iaload, 1) := by decide +kernel
theorem dX7_hex_79 : decode cX7_hex 79 = .ok (.ireturn, 1) := by decide +kernel
theorem dX7_hex_80 : decode cX7_hex 80 = .ok (.aload_n 0, 1) := by decide +kernel
theorem dX7_hex_81 : decode cX7_hex 81 = .ok (.getfield 21, 3) := by decide +kernel
theorem dX7_hex_84 : decode cX7_hex 84 = .ok (.iload_n 1, 1) := by decide +kernel
theorem dX7_hex_85 : decode cX7_hex 85 = .ok (.invokevirtual 104, 3) := by decide +kernel
theorem dX7_hex_88 : decode cX7_hex 88 = .ok (.ifCond .eq 15, 3) := by decide +kernel
theorem dX7_hex_91 : decode cX7_hex 91 = .ok (.aload_n 0, 1) := by decide +kernel
theorem dX7_hex_92 : decode cX7_hex 92 = .ok (.getfield 21, 3) := by decide +kernel
theorem dX7_hex_95 : decode cX7_hex 95 = .ok (.getfield 107, 3) := by decide +kernel
theorem dX7_hex_98 : decode cX7_hex 98 = .ok (.iload_n 1, 1) := by decide +kernel
theorem dX7_hex_99 : decode cX7_hex 99 = .ok (.iaload, 1) := by decide +kernel
theorem dX7_hex_100 : decode cX7_hex 100 = .ok (.goto 5, 3) := by decide +kernel
theorem dX7_hex_103 : decode cX7_hex 103 = .ok (.bipush (-5), 2) := by decide +kernel
theorem dX7_hex_105 : decode cX7_hex 105 = .ok (.ireturn, 1) := by decide +kernel
theorem dX7_hex_106 : decode cX7_hex 106 = .ok (.aload_n 0, 1) := by decide +kernel
theorem dX7_hex_107 : decode cX7_hex 107 = .ok (.getfield 21, 3) := by decide +kernel
theorem dX7_hex_110 : decode cX7_hex 110 = .ok (.iload_n 1, 1) := by decide +kernel
theorem dX7_hex_111 : decode cX7_hex 111 = .ok (.invokevirtual 124, 3) := by decide +kernel
theorem dX7_hex_114 : decode cX7_hex 114 = .ok (.iconst (-1), 1) := by decide +kernel
theorem dX7_hex_115 : decode cX7_hex 115 = .ok (.if_icmp .eq 15, 3) := by decide +kernel
theorem dX7_hex_118 : decode cX7_hex 118 = .ok (.aload_n 0, 1) := by decide +kernel
theorem dX7_hex_119 : decode cX7_hex 119 = .ok (.getfield 21, 3) := by decide +kernel
theorem dX7_hex_122 : decode cX7_hex 122 = .ok (.getfield 196, 3) := by decide +kernel
theorem dX7_hex_125 : decode cX7_hex 125 = .ok (.iload_n 1, 1) := by decide +kernel
theorem dX7_hex_126 : decode cX7_hex 126 = .ok (.iaload, 1) := by decide +kernel
theorem dX7_hex_127 : decode cX7_hex 127 = .ok (.goto 5, 3) := by decide +kernel
theorem dX7_hex_130 : decode cX7_hex 130 = .ok (.bipush (-5), 2) := by decide +kernel
theorem dX7_hex_132 : decode cX7_hex 132 = .ok (.ireturn, 1) := by decide +kernel
theorem dX7_hex_133 : decode cX7_hex 133 = .ok (.aload_n 0, 1) := by decide +kernel
theorem dX7_hex_134 : decode cX7_hex 134 = .ok (.getfield 21, 3) := by decide +kernel
theorem dX7_hex_137 : decode cX7_hex 137 = .ok (.iload_n 2, 1) := by decide +kernel
theorem dX7_hex_138 : decode cX7_hex 138 = .ok (.iconst 4, 1) := by decide +kernel
theorem dX7_hex_139 : decode cX7_hex 139 = .ok (.isub, 1) := by decide +kernel
theorem dX7_hex_140 : decode cX7_hex 140 = .ok (.iload_n 1, 1) := by decide +kernel
theorem dX7_hex_141 : decode cX7_hex 141 = .ok (.invokevirtual 255, 3) := by decide +kernel
theorem dX7_hex_144 : decode cX7_hex 144 = .ok (.invokestatic 258, 3) := by decide +kernel
theorem dX7_hex_147 : decode cX7_hex 147 = .ok (.ireturn, 1) := by decide +kernel
theorem dX7_hex_148 : decode cX7_hex 148 = .ok (.aload_n 0, 1) := by decide +kernel
theorem dX7_hex_149 : decode cX7_hex 149 = .ok (.getfield 21, 3) := by decide +kernel
theorem dX7_hex_152 : decode cX7_hex 152 = .ok (.iload_n 2, 1) := by decide +kernel
theorem dX7_hex_153 : decode cX7_hex 153 = .ok (.bipush 6, 2) := by decide +kernel
theorem dX7_hex_155 : decode cX7_hex 155 = .ok (.isub, 1) := by decide +kernel
theorem dX7_hex_156 : decode cX7_hex 156 = .ok (.iload_n 1, 1) := by decide +kernel
theorem dX7_hex_157 : decode cX7_hex 157 = .ok (.invokevirtual 262, 3) := by decide +kernel
theorem dX7_hex_160 : decode cX7_hex 160 = .ok (.invokestatic 258, 3) := by decide +kernel
theorem dX7_hex_163 : decode cX7_hex 163 = .ok (.ireturn, 1) := by decide +kernel
theorem dX7_hex_164 : decode cX7_hex 164 = .ok (.aload_n 0, 1) := by decide +kernel
theorem dX7_hex_165 : decode cX7_hex 165 = .ok (.getfield 10, 3) := by decide +kernel
theorem dX7_hex_168 : decode cX7_hex 168 = .ok (.iload_n 1, 1) := by decide +kernel
theorem dX7_hex_169 : decode cX7_hex 169 = .ok (.invokevirtual 265, 3) := by decide +kernel
theorem dX7_hex_172 : decode cX7_hex 172 = .ok (.ireturn, 1) := by decide +kernel
theorem dX7_hex_173 : decode cX7_hex 173 = .ok (.bipush (-2), 2) := by decide +kernel
theorem dX7_hex_175 : decode cX7_hex 175 = .ok (.ireturn, 1) := by decide +kernel
theorem dX7_beside_0 : decode cX7_beside 0 = .ok (.iload_n 1, 1) := by decide +kernel
theorem dX7_beside_1 : decode cX7_beside 1 = .ok (.invokestatic 68, 3) := by decide +kernel
theorem dX7_beside_4 : decode cX7_beside 4 = .ok (.ifCond .ne 5, 3) := by decide +kernel
theorem dX7_beside_7 : decode cX7_beside 7 = .ok (.iconst (-1), 1) := by decide +kernel
theorem dX7_beside_8 : decode cX7_beside 8 = .ok (.ireturn, 1) := by decide +kernel
theorem dX7_beside_9 : decode cX7_beside 9 = .ok (.iload_n 2, 1) := by decide +kernel
theorem dX7_beside_10 : decode cX7_beside 10 = .ok (.invokestatic 80, 3) := by decide +kernel
theorem dX7_beside_13 : decode cX7_beside 13 = .ok (.ifCond .ne 6, 3) := by decide +kernel
theorem dX7_beside_16 : decode cX7_beside 16 = .ok (.bipush (-2), 2) := by decide +kernel
theorem dX7_beside_18 : decode cX7_beside 18 = .ok (.ireturn, 1) := by decide +kernel
theorem dX7_beside_19 : decode cX7_beside 19 = .ok (.aload_n 0, 1) := by decide +kernel
theorem dX7_beside_20 : decode cX7_beside 20 = .ok (.getfield 10, 3) := by decide +kernel
theorem dX7_beside_23 : decode cX7_beside 23 = .ok (.getfield 83, 3) := by decide +kernel
theorem dX7_beside_26 : decode cX7_beside 26 = .ok (.iload_n 1, 1) := by decide +kernel
theorem dX7_beside_27 : decode cX7_beside 27 = .ok (.bipush 6, 2) := by decide +kernel
theorem dX7_beside_29 : decode cX7_beside 29 = .ok (.imul, 1) := by decide +kernel
theorem dX7_beside_30 : decode cX7_beside 30 = .ok (.iload_n 2, 1) := by decide +kernel
theorem dX7_beside_31 : decode cX7_beside 31 = .ok (.iadd, 1) := by decide +kernel
theorem dX7_beside_32 : decode cX7_beside 32 = .ok (.iaload, 1) := by decide +kernel
theorem dX7_beside_33 : decode cX7_beside 33 = .ok (.istore_n 3, 1) := by decide +kernel
theorem dX7_beside_34 : decode cX7_beside 34 = .ok (.iload_n 3, 1) := by decide +kernel
theorem dX7_beside_35 : decode cX7_beside 35 = .ok (.invokestatic 68, 3) := by decide +kernel
theorem dX7_beside_38 : decode cX7_beside 38 = .ok (.ifCond .eq 7, 3) := by decide +kernel
theorem dX7_beside_41 : decode cX7_beside 41 = .ok (.iload_n 3, 1) := by decide +kernel
theorem dX7_beside_42 : decode cX7_beside 42 = .ok (.goto 5, 3) := by decide +kernel
theorem dX7_beside_45 : decode cX7_beside 45 = .ok (.bipush (-5), 2) := by decide +kernel
theorem dX7_beside_47 : decode cX7_beside 47 = .ok (.ireturn, 1) := by decide +kernel
theorem dX7_distance_0 : decode cX7_distance 0 = .ok (.iload_n 1, 1) := by decide +kernel
theorem dX7_distance_1 : decode cX7_distance 1 = .ok (.invokestatic 68, 3) := by decide +kernel
theorem dX7_distance_4 : decode cX7_distance 4 = .ok (.ifCond .eq 10, 3) := by decide +kernel
theorem dX7_distance_7 : decode cX7_distance 7 = .ok (.iload_n 2, 1) := by decide +kernel
theorem dX7_distance_8 : decode cX7_distance 8 = .ok (.invokestatic 68, 3) := by decide +kernel
theorem dX7_distance_11 : decode cX7_distance 11 = .ok (.ifCond .ne 5, 3) := by decide +kernel
theorem dX7_distance_14 : decode cX7_distance 14 = .ok (.iconst (-1), 1) := by decide +kernel
theorem dX7_distance_15 : decode cX7_distance 15 = .ok (.ireturn, 1) := by decide +kernel
theorem dX7_distance_16 : decode cX7_distance 16 = .ok (.iload_n 1, 1) := by decide +kernel
theorem dX7_distance_17 : decode cX7_distance 17 = .ok (.iload_n 2, 1) := by decide +kernel
theorem dX7_distance_18 : decode cX7_distance 18 = .ok (.invokestatic 268, 3) := by decide +kernel
theorem dX7_distance_21 : decode cX7_distance 21 = .ok (.ireturn, 1) := by decide +kernel
theorem dX7_unit_0 : decode cX7_unit 0 = .ok (.aload_n 0, 1) := by decide +kernel
theorem dX7_unit_1 : decode cX7_unit 1 = .ok (.getfield 21, 3) := by decide +kernel
theorem dX7_unit_4 : decode cX7_unit 4 = .ok (.iload_n 1, 1) := by decide +kernel
theorem dX7_unit_5 : decode cX7_unit 5 = .ok (.invokevirtual 162, 3) := by decide +kernel
theorem dX7_unit_8 : decode cX7_unit 8 = .ok (.ifCond .ne 5, 3) := by decide +kernel
theorem dX7_unit_11 : decode cX7_unit 11 = .ok (.iconst (-1), 1) := by decide +kernel
theorem dX7_unit_12 : decode cX7_unit 12 = .ok (.ireturn, 1) := by decide +kernel
theorem dX7_unit_13 : decode cX7_unit 13 = .ok (.aload_n 0, 1) := by decide +kernel
theorem dX7_unit_14 : decode cX7_unit 14 = .ok (.getfield 21, 3) := by decide +kernel
theorem dX7_unit_17 : decode cX7_unit 17 = .ok (.getfield 165, 3) := by decide +kernel
theorem dX7_unit_20 : decode cX7_unit 20 = .ok (.iload_n 1, 1) := by decide +kernel
theorem dX7_unit_21 : decode cX7_unit 21 = .ok (.iaload, 1) := by decide +kernel
theorem dX7_unit_22 : decode cX7_unit 22 = .ok (.istore_n 3, 1) := by decide +kernel
theorem dX7_unit_23 : decode cX7_unit 23 = .ok (.aload_n 0, 1) := by decide +kernel
theorem dX7_unit_24 : decode cX7_unit 24 = .ok (.getfield 21, 3) := by decide +kernel
theorem dX7_unit_27 : decode cX7_unit 27 = .ok (.getfield 171, 3) := by decide +kernel
theorem dX7_unit_30 : decode cX7_unit 30 = .ok (.iload_n 1, 1) := by decide +kernel
theorem dX7_unit_31 : decode cX7_unit 31 = .ok (.iaload, 1) := by decide +kernel
theorem dX7_unit_32 : decode cX7_unit 32 = .ok (.istore 4, 2) := by decide +kernel
theorem dX7_unit_34 : decode cX7_unit 34 = .ok (.iload_n 2, 1) := by decide +kernel
theorem dX7_unit_35 : decode cX7_unit 35 = .ok (.tableswitch 203 0 9 #[53, 55, 65, 68, 78, 88, 113, 153, 163, 187], 53) := by decide +kernel
theorem dX7_unit_88 : decode cX7_unit 88 = .ok (.iload_n 3, 1) := by decide +kernel
theorem dX7_unit_89 : decode cX7_unit 89 = .ok (.ireturn, 1) := by decide +kernel
theorem dX7_unit_90 : decode cX7_unit 90 = .ok (.aload_n 0, 1) := by decide +kernel
theorem dX7_unit_91 : decode cX7_unit 91 = .ok (.getfield 21, 3) := by decide +kernel
theorem dX7_unit_94 : decode cX7_unit 94 = .ok (.getfield 234, 3) := by decide +kernel
theorem dX7_unit_97 : decode cX7_unit 97 = .ok (.iload_n 1, 1) := by decide +kernel
theorem dX7_unit_98 : decode cX7_unit 98 = .ok (.iaload, 1) := by decide +kernel
theorem dX7_unit_99 : decode cX7_unit 99 = .ok (.ireturn, 1) := by decide +kernel
theorem dX7_unit_100 : decode cX7_unit 100 = .ok (.iload 4, 2) := by decide +kernel
theorem dX7_unit_102 : decode cX7_unit 102 = .ok (.ireturn, 1) := by decide +kernel
theorem dX7_unit_103 : decode cX7_unit 103 = .ok (.aload_n 0, 1) := by decide +kernel
theorem dX7_unit_104 : decode cX7_unit 104 = .ok (.getfield 21, 3) := by decide +kernel
theorem dX7_unit_107 : decode cX7_unit 107 = .ok (.getfield 180, 3) := by decide +kernel
theorem dX7_unit_110 : decode cX7_unit 110 = .ok (.iload_n 1, 1) := by decide +kernel
theorem dX7_unit_111 : decode cX7_unit 111 = .ok (.iaload, 1) := by decide +kernel
theorem dX7_unit_112 : decode cX7_unit 112 = .ok (.ireturn, 1) := by decide +kernel
theorem dX7_unit_113 : decode cX7_unit 113 = .ok (.aload_n 0, 1) := by decide +kernel
theorem dX7_unit_114 : decode cX7_unit 114 = .ok (.getfield 21, 3) := by decide +kernel
theorem dX7_unit_117 : decode cX7_unit 117 = .ok (.getfield 190, 3) := by decide +kernel
theorem dX7_unit_120 : decode cX7_unit 120 = .ok (.iload_n 1, 1) := by decide +kernel
theorem dX7_unit_121 : decode cX7_unit 121 = .ok (.iaload, 1) := by decide +kernel
theorem dX7_unit_122 : decode cX7_unit 122 = .ok (.ireturn, 1) := by decide +kernel
theorem dX7_unit_123 : decode cX7_unit 123 = .ok (.aload_n 0, 1) := by decide +kernel
theorem dX7_unit_124 : decode cX7_unit 124 = .ok (.getfield 55, 3) := by decide +kernel
theorem dX7_unit_127 : decode cX7_unit 127 = .ok (.aload_n 0, 1) := by decide +kernel
theorem dX7_unit_128 : decode cX7_unit 128 = .ok (.getfield 21, 3) := by decide +kernel
theorem dX7_unit_131 : decode cX7_unit 131 = .ok (.iload_n 3, 1) := by decide +kernel
theorem dX7_unit_132 : decode cX7_unit 132 = .ok (.invokevirtual 224, 3) := by decide +kernel
theorem dX7_unit_135 : decode cX7_unit 135 = .ok (.aload_n 0, 1) := by decide +kernel
theorem dX7_unit_136 : decode cX7_unit 136 = .ok (.getfield 55, 3) := by decide +kernel
theorem dX7_unit_139 : decode cX7_unit 139 = .ok (.iload 4, 2) := by decide +kernel
theorem dX7_unit_141 : decode cX7_unit 141 = .ok (.invokevirtual 228, 3) := by decide +kernel
theorem dX7_unit_144 : decode cX7_unit 144 = .ok (.invokestatic 258, 3) := by decide +kernel
theorem dX7_unit_147 : decode cX7_unit 147 = .ok (.ireturn, 1) := by decide +kernel
theorem dX7_unit_148 : decode cX7_unit 148 = .ok (.aload_n 0, 1) := by decide +kernel
theorem dX7_unit_149 : decode cX7_unit 149 = .ok (.getfield 55, 3) := by decide +kernel
theorem dX7_unit_152 : decode cX7_unit 152 = .ok (.aload_n 0, 1) := by decide +kernel
theorem dX7_unit_153 : decode cX7_unit 153 = .ok (.getfield 21, 3) := by decide +kernel
theorem dX7_unit_156 : decode cX7_unit 156 = .ok (.iload_n 3, 1) := by decide +kernel
theorem dX7_unit_157 : decode cX7_unit 157 = .ok (.invokevirtual 224, 3) := by decide +kernel
theorem dX7_unit_160 : decode cX7_unit 160 = .ok (.aload_n 0, 1) := by decide +kernel
theorem dX7_unit_161 : decode cX7_unit 161 = .ok (.getfield 55, 3) := by decide +kernel
theorem dX7_unit_164 : decode cX7_unit 164 = .ok (.iload 4, 2) := by decide +kernel
theorem dX7_unit_166 : decode cX7_unit 166 = .ok (.invokevirtual 228, 3) := by decide +kernel
theorem dX7_unit_169 : decode cX7_unit 169 = .ok (.ifCond .eq 16, 3) := by decide +kernel
theorem dX7_unit_172 : decode cX7_unit 172 = .ok (.aload_n 0, 1) := by decide +kernel
theorem dX7_unit_173 : decode cX7_unit 173 = .ok (.getfield 55, 3) := by decide +kernel
theorem dX7_unit_176 : decode cX7_unit 176 = .ok (.getfield 271, 3) := by decide +kernel
theorem dX7_unit_179 : decode cX7_unit 179 = .ok (.iload 4, 2) := by decide +kernel
theorem dX7_unit_181 : decode cX7_unit 181 = .ok (.iaload, 1) := by decide +kernel
theorem dX7_unit_182 : decode cX7_unit 182 = .ok (.goto 5, 3) := by decide +kernel
theorem dX7_unit_185 : decode cX7_unit 185 = .ok (.bipush (-5), 2) := by decide +kernel
theorem dX7_unit_187 : decode cX7_unit 187 = .ok (.ireturn, 1) := by decide +kernel
theorem dX7_unit_188 : decode cX7_unit 188 = .ok (.aload_n 0, 1) := by decide +kernel
theorem dX7_unit_189 : decode cX7_unit 189 = .ok (.getfield 21, 3) := by decide +kernel
theorem dX7_unit_192 : decode cX7_unit 192 = .ok (.getfield 231, 3) := by decide +kernel
theorem dX7_unit_195 : decode cX7_unit 195 = .ok (.iload_n 1, 1) := by decide +kernel
theorem dX7_unit_196 : decode cX7_unit 196 = .ok (.iaload, 1) := by decide +kernel
theorem dX7_unit_197 : decode cX7_unit 197 = .ok (.ireturn, 1) := by decide +kernel
theorem dX7_unit_198 : decode cX7_unit 198 = .ok (.aload_n 0, 1) := by decide +kernel
theorem dX7_unit_199 : decode cX7_unit 199 = .ok (.getfield 48, 3) := by decide +kernel
theorem dX7_unit_202 : decode cX7_unit 202 = .ok (.aload_n 0, 1) := by decide +kernel
theorem dX7_unit_203 : decode cX7_unit 203 = .ok (.getfield 21, 3) := by decide +kernel
theorem dX7_unit_206 : decode cX7_unit 206 = .ok (.iload_n 1, 1) := by decide +kernel
theorem dX7_unit_207 : decode cX7_unit 207 = .ok (.invokevirtual 172, 3) := by decide +kernel
theorem dX7_unit_210 : decode cX7_unit 210 = .ok (.aload_n 0, 1) := by decide +kernel
theorem dX7_unit_211 : decode cX7_unit 211 = .ok (.getfield 48, 3) := by decide +kernel
theorem dX7_unit_214 : decode cX7_unit 214 = .ok (.aload_n 0, 1) := by decide +kernel
theorem dX7_unit_215 : decode cX7_unit 215 = .ok (.getfield 21, 3) := by decide +kernel
theorem dX7_unit_218 : decode cX7_unit 218 = .ok (.invokevirtual 274, 3) := by decide +kernel
theorem dX7_unit_221 : decode cX7_unit 221 = .ok (.ireturn, 1) := by decide +kernel
theorem dX7_unit_222 : decode cX7_unit 222 = .ok (.aload_n 0, 1) := by decide +kernel
theorem dX7_unit_223 : decode cX7_unit 223 = .ok (.getfield 21, 3) := by decide +kernel
theorem dX7_unit_226 : decode cX7_unit 226 = .ok (.iconst 1, 1) := by decide +kernel
theorem dX7_unit_227 : decode cX7_unit 227 = .ok (.iload_n 3, 1) := by decide +kernel
theorem dX7_unit_228 : decode cX7_unit 228 = .ok (.isub, 1) := by decide +kernel
theorem dX7_unit_229 : decode cX7_unit 229 = .ok (.iload 4, 2) := by decide +kernel
theorem dX7_unit_231 : decode cX7_unit 231 = .ok (.invokevirtual 262, 3) := by decide +kernel
theorem dX7_unit_234 : decode cX7_unit 234 = .ok (.invokestatic 258, 3) := by decide +kernel
theorem dX7_unit_237 : decode cX7_unit 237 = .ok (.ireturn, 1) := by decide +kernel
theorem dX7_unit_238 : decode cX7_unit 238 = .ok (.bipush (-2), 2) := by decide +kernel
theorem dX7_unit_240 : decode cX7_unit 240 = .ok (.ireturn, 1) := by decide +kernel
theorem dX7_cost_0 : decode cX7_cost 0 = .ok (.aload_n 0, 1) := by decide +kernel
theorem dX7_cost_1 : decode cX7_cost 1 = .ok (.getfield 21, 3) := by decide +kernel
theorem dX7_cost_4 : decode cX7_cost 4 = .ok (.iload_n 1, 1) := by decide +kernel
theorem dX7_cost_5 : decode cX7_cost 5 = .ok (.invokevirtual 162, 3) := by decide +kernel
theorem dX7_cost_8 : decode cX7_cost 8 = .ok (.ifCond .eq 10, 3) := by decide +kernel
theorem dX7_cost_11 : decode cX7_cost 11 = .ok (.iload_n 2, 1) := by decide +kernel
theorem dX7_cost_12 : decode cX7_cost 12 = .ok (.invokestatic 68, 3) := by decide +kernel
theorem dX7_cost_15 : decode cX7_cost 15 = .ok (.ifCond .ne 5, 3) := by decide +kernel
theorem dX7_cost_18 : decode cX7_cost 18 = .ok (.iconst (-1), 1) := by decide +kernel
theorem dX7_cost_19 : decode cX7_cost 19 = .ok (.ireturn, 1) := by decide +kernel
theorem dX7_cost_20 : decode cX7_cost 20 = .ok (.aload_n 0, 1) := by decide +kernel
theorem dX7_cost_21 : decode cX7_cost 21 = .ok (.getfield 21, 3) := by decide +kernel
theorem dX7_cost_24 : decode cX7_cost 24 = .ok (.getfield 171, 3) := by decide +kernel
theorem dX7_cost_27 : decode cX7_cost 27 = .ok (.iload_n 1, 1) := by decide +kernel
theorem dX7_cost_28 : decode cX7_cost 28 = .ok (.iaload, 1) := by decide +kernel
theorem dX7_cost_29 : decode cX7_cost 29 = .ok (.iload_n 2, 1) := by decide +kernel
theorem dX7_cost_30 : decode cX7_cost 30 = .ok (.if_icmp .ne 5, 3) := by decide +kernel
theorem dX7_cost_33 : decode cX7_cost 33 = .ok (.iconst 0, 1) := by decide +kernel
theorem dX7_cost_34 : decode cX7_cost 34 = .ok (.ireturn, 1) := by decide +kernel
theorem dX7_cost_35 : decode cX7_cost 35 = .ok (.aload_n 0, 1) := by decide +kernel
theorem dX7_cost_36 : decode cX7_cost 36 = .ok (.getfield 48, 3) := by decide +kernel
theorem dX7_cost_39 : decode cX7_cost 39 = .ok (.aload_n 0, 1) := by decide +kernel
theorem dX7_cost_40 : decode cX7_cost 40 = .ok (.getfield 21, 3) := by decide +kernel
theorem dX7_cost_43 : decode cX7_cost 43 = .ok (.iload_n 1, 1) := by decide +kernel
theorem dX7_cost_44 : decode cX7_cost 44 = .ok (.invokevirtual 172, 3) := by decide +kernel
theorem dX7_cost_47 : decode cX7_cost 47 = .ok (.aload_n 0, 1) := by decide +kernel
theorem dX7_cost_48 : decode cX7_cost 48 = .ok (.getfield 48, 3) := by decide +kernel
theorem dX7_cost_51 : decode cX7_cost 51 = .ok (.aload_n 0, 1) := by decide +kernel
theorem dX7_cost_52 : decode cX7_cost 52 = .ok (.getfield 21, 3) := by decide +kernel
theorem dX7_cost_55 : decode cX7_cost 55 = .ok (.iload_n 2, 1) := by decide +kernel
theorem dX7_cost_56 : decode cX7_cost 56 = .ok (.invokevirtual 176, 3) := by decide +kernel
theorem dX7_cost_59 : decode cX7_cost 59 = .ok (.ifCond .eq 15, 3) := by decide +kernel
theorem dX7_cost_62 : decode cX7_cost 62 = .ok (.aload_n 0, 1) := by decide +kernel
theorem dX7_cost_63 : decode cX7_cost 63 = .ok (.getfield 48, 3) := by decide +kernel
theorem dX7_cost_66 : decode cX7_cost 66 = .ok (.getfield 183, 3) := by decide +kernel
theorem dX7_cost_69 : decode cX7_cost 69 = .ok (.iload_n 2, 1) := by decide +kernel
theorem dX7_cost_70 : decode cX7_cost 70 = .ok (.iaload, 1) := by decide +kernel
theorem dX7_cost_71 : decode cX7_cost 71 = .ok (.goto 5, 3) := by decide +kernel
theorem dX7_cost_74 : decode cX7_cost 74 = .ok (.bipush (-5), 2) := by decide +kernel
theorem dX7_cost_76 : decode cX7_cost 76 = .ok (.ireturn, 1) := by decide +kernel
theorem dX7_would_0 : decode cX7_would 0 = .ok (.aload_n 0, 1) := by decide +kernel
theorem dX7_would_1 : decode cX7_would 1 = .ok (.getfield 21, 3) := by decide +kernel
theorem dX7_would_4 : decode cX7_would 4 = .ok (.iload_n 1, 1) := by decide +kernel
theorem dX7_would_5 : decode cX7_would 5 = .ok (.invokevirtual 162, 3) := by decide +kernel
theorem dX7_would_8 : decode cX7_would 8 = .ok (.ifCond .eq 10, 3) := by decide +kernel
theorem dX7_would_11 : decode cX7_would 11 = .ok (.iload_n 2, 1) := by decide +kernel
theorem dX7_would_12 : decode cX7_would 12 = .ok (.invokestatic 68, 3) := by decide +kernel
theorem dX7_would_15 : decode cX7_would 15 = .ok (.ifCond .ne 5, 3) := by decide +kernel
theorem dX7_would_18 : decode cX7_would 18 = .ok (.iconst (-1), 1) := by decide +kernel
theorem dX7_would_19 : decode cX7_would 19 = .ok (.ireturn, 1) := by decide +kernel
theorem dX7_would_20 : decode cX7_would 20 = .ok (.iload_n 3, 1) := by decide +kernel
theorem dX7_would_21 : decode cX7_would 21 = .ok (.ifCond .lt 8, 3) := by decide +kernel
theorem dX7_would_24 : decode cX7_would 24 = .ok (.iload_n 3, 1) := by decide +kernel
theorem dX7_would_25 : decode cX7_would 25 = .ok (.iconst 3, 1) := by decide +kernel
theorem dX7_would_26 : decode cX7_would 26 = .ok (.if_icmp .le 6, 3) := by decide +kernel
theorem dX7_would_29 : decode cX7_would 29 = .ok (.bipush (-2), 2) := by decide +kernel
theorem dX7_would_31 : decode cX7_would 31 = .ok (.ireturn, 1) := by decide +kernel
theorem dX7_would_32 : decode cX7_would 32 = .ok (.aload_n 0, 1) := by decide +kernel
theorem dX7_would_33 : decode cX7_would 33 = .ok (.iload_n 1, 1) := by decide +kernel
theorem dX7_would_34 : decode cX7_would 34 = .ok (.iload_n 2, 1) := by decide +kernel
theorem dX7_would_35 : decode cX7_would 35 = .ok (.invokevirtual 193, 3) := by decide +kernel
theorem dX7_would_38 : decode cX7_would 38 = .ok (.ifCond .ne 6, 3) := by decide +kernel
theorem dX7_would_41 : decode cX7_would 41 = .ok (.bipush (-4), 2) := by decide +kernel
theorem dX7_would_43 : decode cX7_would 43 = .ok (.ireturn, 1) := by decide +kernel
theorem dX7_would_44 : decode cX7_would 44 = .ok (.aload_n 0, 1) := by decide +kernel
theorem dX7_would_45 : decode cX7_would 45 = .ok (.getfield 64, 3) := by decide +kernel
theorem dX7_would_48 : decode cX7_would 48 = .ok (.aload_n 0, 1) := by decide +kernel
theorem dX7_would_49 : decode cX7_would 49 = .ok (.getfield 21, 3) := by decide +kernel
theorem dX7_would_52 : decode cX7_would 52 = .ok (.iload_n 1, 1) := by decide +kernel
theorem dX7_would_53 : decode cX7_would 53 = .ok (.aload_n 0, 1) := by decide +kernel
theorem dX7_would_54 : decode cX7_would 54 = .ok (.getfield 21, 3) := by decide +kernel
theorem dX7_would_57 : decode cX7_would 57 = .ok (.getfield 196, 3) := by decide +kernel
theorem dX7_would_60 : decode cX7_would 60 = .ok (.iload_n 2, 1) := by decide +kernel
theorem dX7_would_61 : decode cX7_would 61 = .ok (.iaload, 1) := by decide +kernel
theorem dX7_would_62 : decode cX7_would 62 = .ok (.invokevirtual 199, 3) := by decide +kernel
theorem dX7_would_65 : decode cX7_would 65 = .ok (.iload_n 3, 1) := by decide +kernel
theorem dX7_would_66 : decode cX7_would 66 = .ok (.tableswitch 50 0 2 #[26, 34, 42], 26) := by decide +kernel
theorem dX7_would_92 : decode cX7_would 92 = .ok (.aload_n 0, 1) := by decide +kernel
theorem dX7_would_93 : decode cX7_would 93 = .ok (.getfield 64, 3) := by decide +kernel
theorem dX7_would_96 : decode cX7_would 96 = .ok (.getfield 278, 3) := by decide +kernel
theorem dX7_would_99 : decode cX7_would 99 = .ok (.ireturn, 1) := by decide +kernel
theorem dX7_would_100 : decode cX7_would 100 = .ok (.aload_n 0, 1) := by decide +kernel
theorem dX7_would_101 : decode cX7_would 101 = .ok (.getfield 64, 3) := by decide +kernel
theorem dX7_would_104 : decode cX7_would 104 = .ok (.getfield 281, 3) := by decide +kernel
theorem dX7_would_107 : decode cX7_would 107 = .ok (.ireturn, 1) := by decide +kernel
theorem dX7_would_108 : decode cX7_would 108 = .ok (.aload_n 0, 1) := by decide +kernel
theorem dX7_would_109 : decode cX7_would 109 = .ok (.getfield 64, 3) := by decide +kernel
theorem dX7_would_112 : decode cX7_would 112 = .ok (.getfield 203, 3) := by decide +kernel
theorem dX7_would_115 : decode cX7_would 115 = .ok (.ireturn, 1) := by decide +kernel
theorem dX7_would_116 : decode cX7_would 116 = .ok (.aload_n 0, 1) := by decide +kernel
theorem dX7_would_117 : decode cX7_would 117 = .ok (.getfield 64, 3) := by decide +kernel
theorem dX7_would_120 : decode cX7_would 120 = .ok (.getfield 209, 3) := by decide +kernel
theorem dX7_would_123 : decode cX7_would 123 = .ok (.ireturn, 1) := by decide +kernel
theorem dX7_besieged_0 : decode cX7_besieged 0 = .ok (.iload_n 1, 1) := by decide +kernel
theorem dX7_besieged_1 : decode cX7_besieged 1 = .ok (.invokestatic 68, 3) := by decide +kernel
theorem dX7_besieged_4 : decode cX7_besieged 4 = .ok (.ifCond .ne 5, 3) := by decide +kernel
theorem dX7_besieged_7 : decode cX7_besieged 7 = .ok (.iconst (-1), 1) := by decide +kernel
theorem dX7_besieged_8 : decode cX7_besieged 8 = .ok (.ireturn, 1) := by decide +kernel
theorem dX7_besieged_9 : decode cX7_besieged 9 = .ok (.aload_n 0, 1) := by decide +kernel
theorem dX7_besieged_10 : decode cX7_besieged 10 = .ok (.getfield 21, 3) := by decide +kernel
theorem dX7_besieged_13 : decode cX7_besieged 13 = .ok (.iload_n 1, 1) := by decide +kernel
theorem dX7_besieged_14 : decode cX7_besieged 14 = .ok (.invokevirtual 104, 3) := by decide +kernel
theorem dX7_besieged_17 : decode cX7_besieged 17 = .ok (.ifCond .ne 6, 3) := by decide +kernel
theorem dX7_besieged_20 : decode cX7_besieged 20 = .ok (.bipush (-5), 2) := by decide +kernel
theorem dX7_besieged_22 : decode cX7_besieged 22 = .ok (.ireturn, 1) := by decide +kernel
theorem dX7_besieged_23 : decode cX7_besieged 23 = .ok (.iconst 1, 1) := by decide +kernel
theorem dX7_besieged_24 : decode cX7_besieged 24 = .ok (.aload_n 0, 1) := by decide +kernel
theorem dX7_besieged_25 : decode cX7_besieged 25 = .ok (.getfield 21, 3) := by decide +kernel
theorem dX7_besieged_28 : decode cX7_besieged 28 = .ok (.getfield 107, 3) := by decide +kernel
theorem dX7_besieged_31 : decode cX7_besieged 31 = .ok (.iload_n 1, 1) := by decide +kernel
theorem dX7_besieged_32 : decode cX7_besieged 32 = .ok (.iaload, 1) := by decide +kernel
theorem dX7_besieged_33 : decode cX7_besieged 33 = .ok (.isub, 1) := by decide +kernel
theorem dX7_besieged_34 : decode cX7_besieged 34 = .ok (.istore_n 2, 1) := by decide +kernel
theorem dX7_besieged_35 : decode cX7_besieged 35 = .ok (.iconst 0, 1) := by decide +kernel
theorem dX7_besieged_36 : decode cX7_besieged 36 = .ok (.istore_n 3, 1) := by decide +kernel
theorem dX7_besieged_37 : decode cX7_besieged 37 = .ok (.iload_n 3, 1) := by decide +kernel
theorem dX7_besieged_38 : decode cX7_besieged 38 = .ok (.bipush 6, 2) := by decide +kernel
theorem dX7_besieged_40 : decode cX7_besieged 40 = .ok (.if_icmp .ge 61, 3) := by decide +kernel
theorem dX7_besieged_43 : decode cX7_besieged 43 = .ok (.aload_n 0, 1) := by decide +kernel
theorem dX7_besieged_44 : decode cX7_besieged 44 = .ok (.getfield 10, 3) := by decide +kernel
theorem dX7_besieged_47 : decode cX7_besieged 47 = .ok (.getfield 83, 3) := by decide +kernel
theorem dX7_besieged_50 : decode cX7_besieged 50 = .ok (.iload_n 1, 1) := by decide +kernel
theorem dX7_besieged_51 : decode cX7_besieged 51 = .ok (.bipush 6, 2) := by decide +kernel
theorem dX7_besieged_53 : decode cX7_besieged 53 = .ok (.imul, 1) := by decide +kernel
theorem dX7_besieged_54 : decode cX7_besieged 54 = .ok (.iload_n 3, 1) := by decide +kernel
theorem dX7_besieged_55 : decode cX7_besieged 55 = .ok (.iadd, 1) := by decide +kernel
theorem dX7_besieged_56 : decode cX7_besieged 56 = .ok (.iaload, 1) := by decide +kernel
theorem dX7_besieged_57 : decode cX7_besieged 57 = .ok (.istore 4, 2) := by decide +kernel
theorem dX7_besieged_59 : decode cX7_besieged 59 = .ok (.iload 4, 2) := by decide +kernel
theorem dX7_besieged_61 : decode cX7_besieged 61 = .ok (.invokestatic 68, 3) := by decide +kernel
theorem dX7_besieged_64 : decode cX7_besieged 64 = .ok (.ifCond .eq 31, 3) := by decide +kernel
theorem dX7_besieged_67 : decode cX7_besieged 67 = .ok (.aload_n 0, 1) := by decide +kernel
theorem dX7_besieged_68 : decode cX7_besieged 68 = .ok (.getfield 21, 3) := by decide +kernel
theorem dX7_besieged_71 : decode cX7_besieged 71 = .ok (.iload_n 2, 1) := by decide +kernel
theorem dX7_besieged_72 : decode cX7_besieged 72 = .ok (.iload 4, 2) := by decide +kernel
theorem dX7_besieged_74 : decode cX7_besieged 74 = .ok (.invokevirtual 255, 3) := by decide +kernel
theorem dX7_besieged_77 : decode cX7_besieged 77 = .ok (.ifCond .ne 18, 3) := by decide +kernel
theorem dX7_besieged_80 : decode cX7_besieged 80 = .ok (.aload_n 0, 1) := by decide +kernel
theorem dX7_besieged_81 : decode cX7_besieged 81 = .ok (.getfield 21, 3) := by decide +kernel
theorem dX7_besieged_84 : decode cX7_besieged 84 = .ok (.iload 4, 2) := by decide +kernel
theorem dX7_besieged_86 : decode cX7_besieged 86 = .ok (.invokevirtual 124, 3) := by decide +kernel
theorem dX7_besieged_89 : decode cX7_besieged 89 = .ok (.iload_n 2, 1) := by decide +kernel
theorem dX7_besieged_90 : decode cX7_besieged 90 = .ok (.if_icmp .eq 5, 3) := by decide +kernel
theorem dX7_besieged_93 : decode cX7_besieged 93 = .ok (.iconst 0, 1) := by decide +kernel
theorem dX7_besieged_94 : decode cX7_besieged 94 = .ok (.ireturn, 1) := by decide +kernel
theorem dX7_besieged_95 : decode cX7_besieged 95 = .ok (.iinc 3 1, 3) := by decide +kernel
theorem dX7_besieged_98 : decode cX7_besieged 98 = .ok (.goto (-61), 3) := by decide +kernel
theorem dX7_besieged_101 : decode cX7_besieged 101 = .ok (.iconst 1, 1) := by decide +kernel
theorem dX7_besieged_102 : decode cX7_besieged 102 = .ok (.ireturn, 1) := by decide +kernel
theorem dX7_count_0 : decode cX7_count 0 = .ok (.iload_n 1, 1) := by decide +kernel
theorem dX7_count_1 : decode cX7_count 1 = .ok (.tableswitch 186 0 15 #[79, 87, 95, 103, 103, 114, 114, 125, 125, 137, 145, 145, 157, 165, 173, 173], 79) := by decide +kernel
theorem dX7_count_80 : decode cX7_count 80 = .ok (.aload_n 0, 1) := by decide +kernel
theorem dX7_count_81 : decode cX7_count 81 = .ok (.getfield 21, 3) := by decide +kernel
theorem dX7_count_84 : decode cX7_count 84 = .ok (.getfield 215, 3) := by decide +kernel
theorem dX7_count_87 : decode cX7_count 87 = .ok (.ireturn, 1) := by decide +kernel
theorem dX7_count_88 : decode cX7_count 88 = .ok (.aload_n 0, 1) := by decide +kernel
theorem dX7_count_89 : decode cX7_count 89 = .ok (.getfield 21, 3) := by decide +kernel
theorem dX7_count_92 : decode cX7_count 92 = .ok (.invokevirtual 168, 3) := by decide +kernel
theorem dX7_count_95 : decode cX7_count 95 = .ok (.ireturn, 1) := by decide +kernel
theorem dX7_count_96 : decode cX7_count 96 = .ok (.aload_n 0, 1) := by decide +kernel
theorem dX7_count_97 : decode cX7_count 97 = .ok (.getfield 21, 3) := by decide +kernel
theorem dX7_count_100 : decode cX7_count 100 = .ok (.getfield 120, 3) := by decide +kernel
theorem dX7_count_103 : decode cX7_count 103 = .ok (.ireturn, 1) := by decide +kernel
theorem dX7_count_104 : decode cX7_count 104 = .ok (.aload_n 0, 1) := by decide +kernel
theorem dX7_count_105 : decode cX7_count 105 = .ok (.getfield 21, 3) := by decide +kernel
theorem dX7_count_108 : decode cX7_count 108 = .ok (.iload_n 1, 1) := by decide +kernel
theorem dX7_count_109 : decode cX7_count 109 = .ok (.iconst 3, 1) := by decide +kernel
theorem dX7_count_110 : decode cX7_count 110 = .ok (.isub, 1) := by decide +kernel
theorem dX7_count_111 : decode cX7_count 111 = .ok (.invokevirtual 284, 3) := by decide +kernel
theorem dX7_count_114 : decode cX7_count 114 = .ok (.ireturn, 1) := by decide +kernel
theorem dX7_count_115 : decode cX7_count 115 = .ok (.aload_n 0, 1) := by decide +kernel
theorem dX7_count_116 : decode cX7_count 116 = .ok (.getfield 21, 3) := by decide +kernel
theorem dX7_count_119 : decode cX7_count 119 = .ok (.iload_n 1, 1) := by decide +kernel
theorem dX7_count_120 : decode cX7_count 120 = .ok (.iconst 5, 1) := by decide +kernel
theorem dX7_count_121 : decode cX7_count 121 = .ok (.isub, 1) := by decide +kernel
theorem dX7_count_122 : decode cX7_count 122 = .ok (.invokevirtual 287, 3) := by decide +kernel
theorem dX7_count_125 : decode cX7_count 125 = .ok (.ireturn, 1) := by decide +kernel
theorem dX7_count_126 : decode cX7_count 126 = .ok (.aload_n 0, 1) := by decide +kernel
theorem dX7_count_127 : decode cX7_count 127 = .ok (.getfield 21, 3) := by decide +kernel
theorem dX7_count_130 : decode cX7_count 130 = .ok (.iload_n 1, 1) := by decide +kernel
theorem dX7_count_131 : decode cX7_count 131 = .ok (.bipush 7, 2) := by decide +kernel
theorem dX7_count_133 : decode cX7_count 133 = .ok (.isub, 1) := by decide +kernel
theorem dX7_count_134 : decode cX7_count 134 = .ok (.invokevirtual 114, 3) := by decide +kernel
theorem dX7_count_137 : decode cX7_count 137 = .ok (.ireturn, 1) := by decide +kernel
theorem dX7_count_138 : decode cX7_count 138 = .ok (.aload_n 0, 1) := by decide +kernel
theorem dX7_count_139 : decode cX7_count 139 = .ok (.getfield 21, 3) := by decide +kernel
theorem dX7_count_142 : decode cX7_count 142 = .ok (.invokevirtual 97, 3) := by decide +kernel
theorem dX7_count_145 : decode cX7_count 145 = .ok (.ireturn, 1) := by decide +kernel
theorem dX7_count_146 : decode cX7_count 146 = .ok (.aload_n 0, 1) := by decide +kernel
theorem dX7_count_147 : decode cX7_count 147 = .ok (.getfield 21, 3) := by decide +kernel
theorem dX7_count_150 : decode cX7_count 150 = .ok (.iload_n 1, 1) := by decide +kernel
theorem dX7_count_151 : decode cX7_count 151 = .ok (.bipush 10, 2) := by decide +kernel
theorem dX7_count_153 : decode cX7_count 153 = .ok (.isub, 1) := by decide +kernel
theorem dX7_count_154 : decode cX7_count 154 = .ok (.invokevirtual 290, 3) := by decide +kernel
theorem dX7_count_157 : decode cX7_count 157 = .ok (.ireturn, 1) := by decide +kernel
theorem dX7_count_158 : decode cX7_count 158 = .ok (.aload_n 0, 1) := by decide +kernel
theorem dX7_count_159 : decode cX7_count 159 = .ok (.getfield 34, 3) := by decide +kernel
theorem dX7_count_162 : decode cX7_count 162 = .ok (.getfield 248, 3) := by decide +kernel
theorem dX7_count_165 : decode cX7_count 165 = .ok (.ireturn, 1) := by decide +kernel
theorem dX7_count_166 : decode cX7_count 166 = .ok (.aload_n 0, 1) := by decide +kernel
theorem dX7_count_167 : decode cX7_count 167 = .ok (.getfield 41, 3) := by decide +kernel
theorem dX7_count_170 : decode cX7_count 170 = .ok (.getfield 241, 3) := by decide +kernel
theorem dX7_count_173 : decode cX7_count 173 = .ok (.ireturn, 1) := by decide +kernel
theorem dX7_count_174 : decode cX7_count 174 = .ok (.aload_n 0, 1) := by decide +kernel
theorem dX7_count_175 : decode cX7_count 175 = .ok (.getfield 21, 3) := by decide +kernel
theorem dX7_count_178 : decode cX7_count 178 = .ok (.getfield 117, 3) := by decide +kernel
theorem dX7_count_181 : decode cX7_count 181 = .ok (.iload_n 1, 1) := by decide +kernel
theorem dX7_count_182 : decode cX7_count 182 = .ok (.bipush 14, 2) := by decide +kernel
theorem dX7_count_184 : decode cX7_count 184 = .ok (.isub, 1) := by decide +kernel
theorem dX7_count_185 : decode cX7_count 185 = .ok (.iaload, 1) := by decide +kernel
theorem dX7_count_186 : decode cX7_count 186 = .ok (.ireturn, 1) := by decide +kernel
theorem dX7_count_187 : decode cX7_count 187 = .ok (.bipush (-2), 2) := by decide +kernel
theorem dX7_count_189 : decode cX7_count 189 = .ok (.ireturn, 1) := by decide +kernel
theorem dX7_isSide_0 : decode cX7_isSide 0 = .ok (.iload_n 0, 1) := by decide +kernel
theorem dX7_isSide_1 : decode cX7_isSide 1 = .ok (.ifCond .eq 8, 3) := by decide +kernel
theorem dX7_isSide_4 : decode cX7_isSide 4 = .ok (.iload_n 0, 1) := by decide +kernel
theorem dX7_isSide_5 : decode cX7_isSide 5 = .ok (.iconst 1, 1) := by decide +kernel
theorem dX7_isSide_6 : decode cX7_isSide 6 = .ok (.if_icmp .ne 7, 3) := by decide +kernel
theorem dX7_isSide_9 : decode cX7_isSide 9 = .ok (.iconst 1, 1) := by decide +kernel
theorem dX7_isSide_10 : decode cX7_isSide 10 = .ok (.goto 4, 3) := by decide +kernel
theorem dX7_isSide_13 : decode cX7_isSide 13 = .ok (.iconst 0, 1) := by decide +kernel
theorem dX7_isSide_14 : decode cX7_isSide 14 = .ok (.ireturn, 1) := by decide +kernel
theorem dX7_oneIf_0 : decode cX7_oneIf 0 = .ok (.iload_n 0, 1) := by decide +kernel
theorem dX7_oneIf_1 : decode cX7_oneIf 1 = .ok (.ifCond .eq 7, 3) := by decide +kernel
theorem dX7_oneIf_4 : decode cX7_oneIf 4 = .ok (.iconst 1, 1) := by decide +kernel
theorem dX7_oneIf_5 : decode cX7_oneIf 5 = .ok (.goto 4, 3) := by decide +kernel
theorem dX7_oneIf_8 : decode cX7_oneIf 8 = .ok (.iconst 0, 1) := by decide +kernel
theorem dX7_oneIf_9 : decode cX7_oneIf 9 = .ok (.ireturn, 1) := by decide +kernel
theorem dJ6_bitCount_0f7a4_0 : decode cJ6_bitCount_0f7a4 0 = .ok (.iload_n 0, 1) := by decide +kernel
theorem dJ6_bitCount_0f7a4_1 : decode cJ6_bitCount_0f7a4 1 = .ok (.iload_n 0, 1) := by decide +kernel
theorem dJ6_bitCount_0f7a4_2 : decode cJ6_bitCount_0f7a4 2 = .ok (.iconst 1, 1) := by decide +kernel
theorem dJ6_bitCount_0f7a4_3 : decode cJ6_bitCount_0f7a4 3 = .ok (.iushr, 1) := by decide +kernel
theorem dJ6_bitCount_0f7a4_4 : decode cJ6_bitCount_0f7a4 4 = .ok (.ldc_w 265, 3) := by decide +kernel
theorem dJ6_bitCount_0f7a4_7 : decode cJ6_bitCount_0f7a4 7 = .ok (.iand, 1) := by decide +kernel
theorem dJ6_bitCount_0f7a4_8 : decode cJ6_bitCount_0f7a4 8 = .ok (.isub, 1) := by decide +kernel
theorem dJ6_bitCount_0f7a4_9 : decode cJ6_bitCount_0f7a4 9 = .ok (.istore_n 0, 1) := by decide +kernel
theorem dJ6_bitCount_0f7a4_10 : decode cJ6_bitCount_0f7a4 10 = .ok (.iload_n 0, 1) := by decide +kernel
theorem dJ6_bitCount_0f7a4_11 : decode cJ6_bitCount_0f7a4 11 = .ok (.ldc_w 266, 3) := by decide +kernel
theorem dJ6_bitCount_0f7a4_14 : decode cJ6_bitCount_0f7a4 14 = .ok (.iand, 1) := by decide +kernel
theorem dJ6_bitCount_0f7a4_15 : decode cJ6_bitCount_0f7a4 15 = .ok (.iload_n 0, 1) := by decide +kernel
theorem dJ6_bitCount_0f7a4_16 : decode cJ6_bitCount_0f7a4 16 = .ok (.iconst 2, 1) := by decide +kernel
theorem dJ6_bitCount_0f7a4_17 : decode cJ6_bitCount_0f7a4 17 = .ok (.iushr, 1) := by decide +kernel
theorem dJ6_bitCount_0f7a4_18 : decode cJ6_bitCount_0f7a4 18 = .ok (.ldc_w 266, 3) := by decide +kernel
theorem dJ6_bitCount_0f7a4_21 : decode cJ6_bitCount_0f7a4 21 = .ok (.iand, 1) := by decide +kernel
theorem dJ6_bitCount_0f7a4_22 : decode cJ6_bitCount_0f7a4 22 = .ok (.iadd, 1) := by decide +kernel
theorem dJ6_bitCount_0f7a4_23 : decode cJ6_bitCount_0f7a4 23 = .ok (.istore_n 0, 1) := by decide +kernel
theorem dJ6_bitCount_0f7a4_24 : decode cJ6_bitCount_0f7a4 24 = .ok (.iload_n 0, 1) := by decide +kernel
theorem dJ6_bitCount_0f7a4_25 : decode cJ6_bitCount_0f7a4 25 = .ok (.iload_n 0, 1) := by decide +kernel
theorem dJ6_bitCount_0f7a4_26 : decode cJ6_bitCount_0f7a4 26 = .ok (.iconst 4, 1) := by decide +kernel
theorem dJ6_bitCount_0f7a4_27 : decode cJ6_bitCount_0f7a4 27 = .ok (.iushr, 1) := by decide +kernel
theorem dJ6_bitCount_0f7a4_28 : decode cJ6_bitCount_0f7a4 28 = .ok (.iadd, 1) := by decide +kernel
theorem dJ6_bitCount_0f7a4_29 : decode cJ6_bitCount_0f7a4 29 = .ok (.ldc_w 267, 3) := by decide +kernel
theorem dJ6_bitCount_0f7a4_32 : decode cJ6_bitCount_0f7a4 32 = .ok (.iand, 1) := by decide +kernel
theorem dJ6_bitCount_0f7a4_33 : decode cJ6_bitCount_0f7a4 33 = .ok (.istore_n 0, 1) := by decide +kernel
theorem dJ6_bitCount_0f7a4_34 : decode cJ6_bitCount_0f7a4 34 = .ok (.iload_n 0, 1) := by decide +kernel
theorem dJ6_bitCount_0f7a4_35 : decode cJ6_bitCount_0f7a4 35 = .ok (.iload_n 0, 1) := by decide +kernel
theorem dJ6_bitCount_0f7a4_36 : decode cJ6_bitCount_0f7a4 36 = .ok (.bipush 8, 2) := by decide +kernel
theorem dJ6_bitCount_0f7a4_38 : decode cJ6_bitCount_0f7a4 38 = .ok (.iushr, 1) := by decide +kernel
theorem dJ6_bitCount_0f7a4_39 : decode cJ6_bitCount_0f7a4 39 = .ok (.iadd, 1) := by decide +kernel
theorem dJ6_bitCount_0f7a4_40 : decode cJ6_bitCount_0f7a4 40 = .ok (.istore_n 0, 1) := by decide +kernel
theorem dJ6_bitCount_0f7a4_41 : decode cJ6_bitCount_0f7a4 41 = .ok (.iload_n 0, 1) := by decide +kernel
theorem dJ6_bitCount_0f7a4_42 : decode cJ6_bitCount_0f7a4 42 = .ok (.iload_n 0, 1) := by decide +kernel
theorem dJ6_bitCount_0f7a4_43 : decode cJ6_bitCount_0f7a4 43 = .ok (.bipush 16, 2) := by decide +kernel
theorem dJ6_bitCount_0f7a4_45 : decode cJ6_bitCount_0f7a4 45 = .ok (.iushr, 1) := by decide +kernel
theorem dJ6_bitCount_0f7a4_46 : decode cJ6_bitCount_0f7a4 46 = .ok (.iadd, 1) := by decide +kernel
theorem dJ6_bitCount_0f7a4_47 : decode cJ6_bitCount_0f7a4 47 = .ok (.istore_n 0, 1) := by decide +kernel
theorem dJ6_bitCount_0f7a4_48 : decode cJ6_bitCount_0f7a4 48 = .ok (.iload_n 0, 1) := by decide +kernel
theorem dJ6_bitCount_0f7a4_49 : decode cJ6_bitCount_0f7a4 49 = .ok (.bipush 63, 2) := by decide +kernel
theorem dJ6_bitCount_0f7a4_51 : decode cJ6_bitCount_0f7a4 51 = .ok (.iand, 1) := by decide +kernel
theorem dJ6_bitCount_0f7a4_52 : decode cJ6_bitCount_0f7a4 52 = .ok (.ireturn, 1) := by decide +kernel
theorem dJ9_abs_0f7a4_0 : decode cJ9_abs_0f7a4 0 = .ok (.iload_n 0, 1) := by decide +kernel
theorem dJ9_abs_0f7a4_1 : decode cJ9_abs_0f7a4 1 = .ok (.ifCond .ge 8, 3) := by decide +kernel
theorem dJ9_abs_0f7a4_4 : decode cJ9_abs_0f7a4 4 = .ok (.iload_n 0, 1) := by decide +kernel
theorem dJ9_abs_0f7a4_5 : decode cJ9_abs_0f7a4 5 = .ok (.ineg, 1) := by decide +kernel
theorem dJ9_abs_0f7a4_6 : decode cJ9_abs_0f7a4 6 = .ok (.goto 4, 3) := by decide +kernel
theorem dJ9_abs_0f7a4_9 : decode cJ9_abs_0f7a4 9 = .ok (.iload_n 0, 1) := by decide +kernel
theorem dJ9_abs_0f7a4_10 : decode cJ9_abs_0f7a4 10 = .ok (.ireturn, 1) := by decide +kernel
theorem dJ9_max_7cf53_0 : decode cJ9_max_7cf53 0 = .ok (.iload_n 0, 1) := by decide +kernel
theorem dJ9_max_7cf53_1 : decode cJ9_max_7cf53 1 = .ok (.iload_n 1, 1) := by decide +kernel
theorem dJ9_max_7cf53_2 : decode cJ9_max_7cf53 2 = .ok (.if_icmp .lt 7, 3) := by decide +kernel
theorem dJ9_max_7cf53_5 : decode cJ9_max_7cf53 5 = .ok (.iload_n 0, 1) := by decide +kernel
theorem dJ9_max_7cf53_6 : decode cJ9_max_7cf53 6 = .ok (.goto 4, 3) := by decide +kernel
theorem dJ9_max_7cf53_9 : decode cJ9_max_7cf53 9 = .ok (.iload_n 1, 1) := by decide +kernel
theorem dJ9_max_7cf53_10 : decode cJ9_max_7cf53 10 = .ok (.ireturn, 1) := by decide +kernel
theorem dJ9_min_7cf53_0 : decode cJ9_min_7cf53 0 = .ok (.iload_n 0, 1) := by decide +kernel
theorem dJ9_min_7cf53_1 : decode cJ9_min_7cf53 1 = .ok (.iload_n 1, 1) := by decide +kernel
theorem dJ9_min_7cf53_2 : decode cJ9_min_7cf53 2 = .ok (.if_icmp .gt 7, 3) := by decide +kernel
theorem dJ9_min_7cf53_5 : decode cJ9_min_7cf53 5 = .ok (.iload_n 0, 1) := by decide +kernel
theorem dJ9_min_7cf53_6 : decode cJ9_min_7cf53 6 = .ok (.goto 4, 3) := by decide +kernel
theorem dJ9_min_7cf53_9 : decode cJ9_min_7cf53 9 = .ok (.iload_n 1, 1) := by decide +kernel
theorem dJ9_min_7cf53_10 : decode cJ9_min_7cf53 10 = .ok (.ireturn, 1) := by decide +kernel
theorem dJ7_fill_53178_0 : decode cJ7_fill_53178 0 = .ok (.iconst 0, 1) := by decide +kernel
theorem dJ7_fill_53178_1 : decode cJ7_fill_53178 1 = .ok (.istore_n 2, 1) := by decide +kernel
theorem dJ7_fill_53178_2 : decode cJ7_fill_53178 2 = .ok (.aload_n 0, 1) := by decide +kernel
theorem dJ7_fill_53178_3 : decode cJ7_fill_53178 3 = .ok (.arraylength, 1) := by decide +kernel
theorem dJ7_fill_53178_4 : decode cJ7_fill_53178 4 = .ok (.istore_n 3, 1) := by decide +kernel
theorem dJ7_fill_53178_5 : decode cJ7_fill_53178 5 = .ok (.iload_n 2, 1) := by decide +kernel
theorem dJ7_fill_53178_6 : decode cJ7_fill_53178 6 = .ok (.iload_n 3, 1) := by decide +kernel
theorem dJ7_fill_53178_7 : decode cJ7_fill_53178 7 = .ok (.if_icmp .ge 13, 3) := by decide +kernel
theorem dJ7_fill_53178_10 : decode cJ7_fill_53178 10 = .ok (.aload_n 0, 1) := by decide +kernel
theorem dJ7_fill_53178_11 : decode cJ7_fill_53178 11 = .ok (.iload_n 2, 1) := by decide +kernel
theorem dJ7_fill_53178_12 : decode cJ7_fill_53178 12 = .ok (.iload_n 1, 1) := by decide +kernel
theorem dJ7_fill_53178_13 : decode cJ7_fill_53178 13 = .ok (.iastore, 1) := by decide +kernel
theorem dJ7_fill_53178_14 : decode cJ7_fill_53178 14 = .ok (.iinc 2 1, 3) := by decide +kernel
theorem dJ7_fill_53178_17 : decode cJ7_fill_53178 17 = .ok (.goto (-12), 3) := by decide +kernel
theorem dJ7_fill_53178_20 : decode cJ7_fill_53178 20 = .ok (.return_, 1) := by decide +kernel
theorem dL_law_0 : decode cL_law 0 = .ok (.new 7, 3) := by decide +kernel
theorem dL_law_3 : decode cL_law 3 = .ok (.dup, 1) := by decide +kernel
theorem dL_law_4 : decode cL_law 4 = .ok (.invokespecial 9, 3) := by decide +kernel
theorem dL_law_7 : decode cL_law 7 = .ok (.astore_n 1, 1) := by decide +kernel
theorem dL_law_8 : decode cL_law 8 = .ok (.new 10, 3) := by decide +kernel
theorem dL_law_11 : decode cL_law 11 = .ok (.dup, 1) := by decide +kernel
theorem dL_law_12 : decode cL_law 12 = .ok (.invokespecial 12, 3) := by decide +kernel
theorem dL_law_15 : decode cL_law 15 = .ok (.astore_n 2, 1) := by decide +kernel
theorem dL_law_16 : decode cL_law 16 = .ok (.iconst 0, 1) := by decide +kernel
theorem dL_law_17 : decode cL_law 17 = .ok (.istore_n 3, 1) := by decide +kernel
theorem dL_law_18 : decode cL_law 18 = .ok (.iload_n 3, 1) := by decide +kernel
theorem dL_law_19 : decode cL_law 19 = .ok (.aload_n 0, 1) := by decide +kernel
theorem dL_law_20 : decode cL_law 20 = .ok (.arraylength, 1) := by decide +kernel
theorem dL_law_21 : decode cL_law 21 = .ok (.iconst 4, 1) := by decide +kernel
theorem dL_law_22 : decode cL_law 22 = .ok (.isub, 1) := by decide +kernel
theorem dL_law_23 : decode cL_law 23 = .ok (.if_icmp .gt 743, 3) := by decide +kernel
theorem dL_law_26 : decode cL_law 26 = .ok (.aload_n 0, 1) := by decide +kernel
theorem dL_law_27 : decode cL_law 27 = .ok (.iload_n 3, 1) := by decide +kernel
theorem dL_law_28 : decode cL_law 28 = .ok (.iaload, 1) := by decide +kernel
theorem dL_law_29 : decode cL_law 29 = .ok (.bipush 31, 2) := by decide +kernel
theorem dL_law_31 : decode cL_law 31 = .ok (.iand, 1) := by decide +kernel
theorem dL_law_32 : decode cL_law 32 = .ok (.tableswitch 728 0 21 #[104, 137, 196, 229, 262, 305, 338, 371, 384, 397, 422, 435, 448, 461, 474, 507, 540, 573, 606, 639, 682, 705], 104) := by decide +kernel
theorem dL_law_136 : decode cL_law 136 = .ok (.aload_n 1, 1) := by decide +kernel
theorem dL_law_137 : decode cL_law 137 = .ok (.aload_n 0, 1) := by decide +kernel
theorem dL_law_138 : decode cL_law 138 = .ok (.iload_n 3, 1) := by decide +kernel
theorem dL_law_139 : decode cL_law 139 = .ok (.iconst 1, 1) := by decide +kernel
theorem dL_law_140 : decode cL_law 140 = .ok (.iadd, 1) := by decide +kernel
theorem dL_law_141 : decode cL_law 141 = .ok (.iaload, 1) := by decide +kernel
theorem dL_law_142 : decode cL_law 142 = .ok (.aload_n 0, 1) := by decide +kernel
theorem dL_law_143 : decode cL_law 143 = .ok (.iload_n 3, 1) := by decide +kernel
theorem dL_law_144 : decode cL_law 144 = .ok (.iconst 2, 1) := by decide +kernel
theorem dL_law_145 : decode cL_law 145 = .ok (.iadd, 1) := by decide +kernel
theorem dL_law_146 : decode cL_law 146 = .ok (.iaload, 1) := by decide +kernel
theorem dL_law_147 : decode cL_law 147 = .ok (.invokevirtual 13, 3) := by decide +kernel
theorem dL_law_150 : decode cL_law 150 = .ok (.aload_n 2, 1) := by decide +kernel
theorem dL_law_151 : decode cL_law 151 = .ok (.aload_n 0, 1) := by decide +kernel
theorem dL_law_152 : decode cL_law 152 = .ok (.iload_n 3, 1) := by decide +kernel
theorem dL_law_153 : decode cL_law 153 = .ok (.iconst 1, 1) := by decide +kernel
theorem dL_law_154 : decode cL_law 154 = .ok (.iadd, 1) := by decide +kernel
theorem dL_law_155 : decode cL_law 155 = .ok (.iaload, 1) := by decide +kernel
theorem dL_law_156 : decode cL_law 156 = .ok (.aload_n 0, 1) := by decide +kernel
theorem dL_law_157 : decode cL_law 157 = .ok (.iload_n 3, 1) := by decide +kernel
theorem dL_law_158 : decode cL_law 158 = .ok (.iconst 2, 1) := by decide +kernel
theorem dL_law_159 : decode cL_law 159 = .ok (.iadd, 1) := by decide +kernel
theorem dL_law_160 : decode cL_law 160 = .ok (.iaload, 1) := by decide +kernel
theorem dL_law_161 : decode cL_law 161 = .ok (.invokevirtual 17, 3) := by decide +kernel
theorem dL_law_164 : decode cL_law 164 = .ok (.if_icmp .eq 596, 3) := by decide +kernel
theorem dL_law_167 : decode cL_law 167 = .ok (.iconst 0, 1) := by decide +kernel
theorem dL_law_168 : decode cL_law 168 = .ok (.ireturn, 1) := by decide +kernel
theorem dL_law_169 : decode cL_law 169 = .ok (.aload_n 1, 1) := by decide +kernel
theorem dL_law_170 : decode cL_law 170 = .ok (.aload_n 0, 1) := by decide +kernel
theorem dL_law_171 : decode cL_law 171 = .ok (.iload_n 3, 1) := by decide +kernel
theorem dL_law_172 : decode cL_law 172 = .ok (.iconst 1, 1) := by decide +kernel
theorem dL_law_173 : decode cL_law 173 = .ok (.iadd, 1) := by decide +kernel
theorem dL_law_174 : decode cL_law 174 = .ok (.iaload, 1) := by decide +kernel
theorem dL_law_175 : decode cL_law 175 = .ok (.aload_n 0, 1) := by decide +kernel
theorem dL_law_176 : decode cL_law 176 = .ok (.iload_n 3, 1) := by decide +kernel
theorem dL_law_177 : decode cL_law 177 = .ok (.iconst 2, 1) := by decide +kernel
theorem dL_law_178 : decode cL_law 178 = .ok (.iadd, 1) := by decide +kernel
theorem dL_law_179 : decode cL_law 179 = .ok (.iaload, 1) := by decide +kernel
theorem dL_law_180 : decode cL_law 180 = .ok (.aload_n 0, 1) := by decide +kernel
theorem dL_law_181 : decode cL_law 181 = .ok (.iload_n 3, 1) := by decide +kernel
theorem dL_law_182 : decode cL_law 182 = .ok (.iconst 3, 1) := by decide +kernel
theorem dL_law_183 : decode cL_law 183 = .ok (.iadd, 1) := by decide +kernel
theorem dL_law_184 : decode cL_law 184 = .ok (.iaload, 1) := by decide +kernel
theorem dL_law_185 : decode cL_law 185 = .ok (.ifCond .eq 7, 3) := by decide +kernel
theorem dL_law_188 : decode cL_law 188 = .ok (.iconst 1, 1) := by decide +kernel
theorem dL_law_189 : decode cL_law 189 = .ok (.goto 4, 3) := by decide +kernel
theorem dL_law_192 : decode cL_law 192 = .ok (.iconst 0, 1) := by decide +kernel
theorem dL_law_193 : decode cL_law 193 = .ok (.invokevirtual 18, 3) := by decide +kernel
theorem dL_law_196 : decode cL_law 196 = .ok (.aload_n 2, 1) := by decide +kernel
theorem dL_law_197 : decode cL_law 197 = .ok (.aload_n 0, 1) := by decide +kernel
theorem dL_law_198 : decode cL_law 198 = .ok (.iload_n 3, 1) := by decide +kernel
theorem dL_law_199 : decode cL_law 199 = .ok (.iconst 1, 1) := by decide +kernel
theorem dL_law_200 : decode cL_law 200 = .ok (.iadd, 1) := by decide +kernel
theorem dL_law_201 : decode cL_law 201 = .ok (.iaload, 1) := by decide +kernel
theorem dL_law_202 : decode cL_law 202 = .ok (.aload_n 0, 1) := by decide +kernel
theorem dL_law_203 : decode cL_law 203 = .ok (.iload_n 3, 1) := by decide +kernel
theorem dL_law_204 : decode cL_law 204 = .ok (.iconst 2, 1) := by decide +kernel
theorem dL_law_205 : decode cL_law 205 = .ok (.iadd, 1) := by decide +kernel
theorem dL_law_206 : decode cL_law 206 = .ok (.iaload, 1) := by decide +kernel
theorem dL_law_207 : decode cL_law 207 = .ok (.aload_n 0, 1) := by decide +kernel
theorem dL_law_208 : decode cL_law 208 = .ok (.iload_n 3, 1) := by decide +kernel
theorem dL_law_209 : decode cL_law 209 = .ok (.iconst 3, 1) := by decide +kernel
theorem dL_law_210 : decode cL_law 210 = .ok (.iadd, 1) := by decide +kernel
theorem dL_law_211 : decode cL_law 211 = .ok (.iaload, 1) := by decide +kernel
theorem dL_law_212 : decode cL_law 212 = .ok (.ifCond .eq 7, 3) := by decide +kernel
theorem dL_law_215 : decode cL_law 215 = .ok (.iconst 1, 1) := by decide +kernel
theorem dL_law_216 : decode cL_law 216 = .ok (.goto 4, 3) := by decide +kernel
theorem dL_law_219 : decode cL_law 219 = .ok (.iconst 0, 1) := by decide +kernel
theorem dL_law_220 : decode cL_law 220 = .ok (.invokevirtual 22, 3) := by decide +kernel
theorem dL_law_223 : decode cL_law 223 = .ok (.if_icmp .eq 537, 3) := by decide +kernel
theorem dL_law_226 : decode cL_law 226 = .ok (.iconst 0, 1) := by decide +kernel
theorem dL_law_227 : decode cL_law 227 = .ok (.ireturn, 1) := by decide +kernel
theorem dL_law_228 : decode cL_law 228 = .ok (.aload_n 1, 1) := by decide +kernel
theorem dL_law_229 : decode cL_law 229 = .ok (.aload_n 0, 1) := by decide +kernel
theorem dL_law_230 : decode cL_law 230 = .ok (.iload_n 3, 1) := by decide +kernel
theorem dL_law_231 : decode cL_law 231 = .ok (.iconst 1, 1) := by decide +kernel
theorem dL_law_232 : decode cL_law 232 = .ok (.iadd, 1) := by decide +kernel
theorem dL_law_233 : decode cL_law 233 = .ok (.iaload, 1) := by decide +kernel
theorem dL_law_234 : decode cL_law 234 = .ok (.aload_n 0, 1) := by decide +kernel
theorem dL_law_235 : decode cL_law 235 = .ok (.iload_n 3, 1) := by decide +kernel
theorem dL_law_236 : decode cL_law 236 = .ok (.iconst 2, 1) := by decide +kernel
theorem dL_law_237 : decode cL_law 237 = .ok (.iadd, 1) := by decide +kernel
theorem dL_law_238 : decode cL_law 238 = .ok (.iaload, 1) := by decide +kernel
theorem dL_law_239 : decode cL_law 239 = .ok (.invokevirtual 23, 3) := by decide +kernel
theorem dL_law_242 : decode cL_law 242 = .ok (.aload_n 2, 1) := by decide +kernel
theorem dL_law_243 : decode cL_law 243 = .ok (.aload_n 0, 1) := by decide +kernel
theorem dL_law_244 : decode cL_law 244 = .ok (.iload_n 3, 1) := by decide +kernel
theorem dL_law_245 : decode cL_law 245 = .ok (.iconst 1, 1) := by decide +kernel
theorem dL_law_246 : decode cL_law 246 = .ok (.iadd, 1) := by decide +kernel
theorem dL_law_247 : decode cL_law 247 = .ok (.iaload, 1) := by decide +kernel
theorem dL_law_248 : decode cL_law 248 = .ok (.aload_n 0, 1) := by decide +kernel
theorem dL_law_249 : decode cL_law 249 = .ok (.iload_n 3, 1) := by decide +kernel
theorem dL_law_250 : decode cL_law 250 = .ok (.iconst 2, 1) := by decide +kernel
theorem dL_law_251 : decode cL_law 251 = .ok (.iadd, 1) := by decide +kernel
theorem dL_law_252 : decode cL_law 252 = .ok (.iaload, 1) := by decide +kernel
theorem dL_law_253 : decode cL_law 253 = .ok (.invokevirtual 26, 3) := by decide +kernel
theorem dL_law_256 : decode cL_law 256 = .ok (.if_icmp .eq 504, 3) := by decide +kernel
theorem dL_law_259 : decode cL_law 259 = .ok (.iconst 0, 1) := by decide +kernel
theorem dL_law_260 : decode cL_law 260 = .ok (.ireturn, 1) := by decide +kernel
theorem dL_law_261 : decode cL_law 261 = .ok (.aload_n 1, 1) := by decide +kernel
theorem dL_law_262 : decode cL_law 262 = .ok (.aload_n 0, 1) := by decide +kernel
theorem dL_law_263 : decode cL_law 263 = .ok (.iload_n 3, 1) := by decide +kernel
theorem dL_law_264 : decode cL_law 264 = .ok (.iconst 1, 1) := by decide +kernel
theorem dL_law_265 : decode cL_law 265 = .ok (.iadd, 1) := by decide +kernel
theorem dL_law_266 : decode cL_law 266 = .ok (.iaload, 1) := by decide +kernel
theorem dL_law_267 : decode cL_law 267 = .ok (.aload_n 0, 1) := by decide +kernel
theorem dL_law_268 : decode cL_law 268 = .ok (.iload_n 3, 1) := by decide +kernel
theorem dL_law_269 : decode cL_law 269 = .ok (.iconst 2, 1) := by decide +kernel
theorem dL_law_270 : decode cL_law 270 = .ok (.iadd, 1) := by decide +kernel
theorem dL_law_271 : decode cL_law 271 = .ok (.iaload, 1) := by decide +kernel
theorem dL_law_272 : decode cL_law 272 = .ok (.invokevirtual 27, 3) := by decide +kernel
theorem dL_law_275 : decode cL_law 275 = .ok (.aload_n 2, 1) := by decide +kernel
theorem dL_law_276 : decode cL_law 276 = .ok (.aload_n 0, 1) := by decide +kernel
theorem dL_law_277 : decode cL_law 277 = .ok (.iload_n 3, 1) := by decide +kernel
theorem dL_law_278 : decode cL_law 278 = .ok (.iconst 1, 1) := by decide +kernel
theorem dL_law_279 : decode cL_law 279 = .ok (.iadd, 1) := by decide +kernel
theorem dL_law_280 : decode cL_law 280 = .ok (.iaload, 1) := by decide +kernel
theorem dL_law_281 : decode cL_law 281 = .ok (.aload_n 0, 1) := by decide +kernel
theorem dL_law_282 : decode cL_law 282 = .ok (.iload_n 3, 1) := by decide +kernel
theorem dL_law_283 : decode cL_law 283 = .ok (.iconst 2, 1) := by decide +kernel
theorem dL_law_284 : decode cL_law 284 = .ok (.iadd, 1) := by decide +kernel
theorem dL_law_285 : decode cL_law 285 = .ok (.iaload, 1) := by decide +kernel
theorem dL_law_286 : decode cL_law 286 = .ok (.invokevirtual 30, 3) := by decide +kernel
theorem dL_law_289 : decode cL_law 289 = .ok (.if_icmp .eq 471, 3) := by decide +kernel
theorem dL_law_292 : decode cL_law 292 = .ok (.iconst 0, 1) := by decide +kernel
theorem dL_law_293 : decode cL_law 293 = .ok (.ireturn, 1) := by decide +kernel
theorem dL_law_294 : decode cL_law 294 = .ok (.aload_n 1, 1) := by decide +kernel
theorem dL_law_295 : decode cL_law 295 = .ok (.aload_n 0, 1) := by decide +kernel
theorem dL_law_296 : decode cL_law 296 = .ok (.iload_n 3, 1) := by decide +kernel
theorem dL_law_297 : decode cL_law 297 = .ok (.iconst 1, 1) := by decide +kernel
theorem dL_law_298 : decode cL_law 298 = .ok (.iadd, 1) := by decide +kernel
theorem dL_law_299 : decode cL_law 299 = .ok (.iaload, 1) := by decide +kernel
theorem dL_law_300 : decode cL_law 300 = .ok (.aload_n 0, 1) := by decide +kernel
theorem dL_law_301 : decode cL_law 301 = .ok (.iload_n 3, 1) := by decide +kernel
theorem dL_law_302 : decode cL_law 302 = .ok (.iconst 2, 1) := by decide +kernel
theorem dL_law_303 : decode cL_law 303 = .ok (.iadd, 1) := by decide +kernel
theorem dL_law_304 : decode cL_law 304 = .ok (.iaload, 1) := by decide +kernel
theorem dL_law_305 : decode cL_law 305 = .ok (.aload_n 0, 1) := by decide +kernel
theorem dL_law_306 : decode cL_law 306 = .ok (.iload_n 3, 1) := by decide +kernel
theorem dL_law_307 : decode cL_law 307 = .ok (.iconst 3, 1) := by decide +kernel
theorem dL_law_308 : decode cL_law 308 = .ok (.iadd, 1) := by decide +kernel
theorem dL_law_309 : decode cL_law 309 = .ok (.iaload, 1) := by decide +kernel
theorem dL_law_310 : decode cL_law 310 = .ok (.invokevirtual 31, 3) := by decide +kernel
theorem dL_law_313 : decode cL_law 313 = .ok (.aload_n 2, 1) := by decide +kernel
theorem dL_law_314 : decode cL_law 314 = .ok (.aload_n 0, 1) := by decide +kernel
theorem dL_law_315 : decode cL_law 315 = .ok (.iload_n 3, 1) := by decide +kernel
theorem dL_law_316 : decode cL_law 316 = .ok (.iconst 1, 1) := by decide +kernel
theorem dL_law_317 : decode cL_law 317 = .ok (.iadd, 1) := by decide +kernel
theorem dL_law_318 : decode cL_law 318 = .ok (.iaload, 1) := by decide +kernel
theorem dL_law_319 : decode cL_law 319 = .ok (.aload_n 0, 1) := by decide +kernel
theorem dL_law_320 : decode cL_law 320 = .ok (.iload_n 3, 1) := by decide +kernel
theorem dL_law_321 : decode cL_law 321 = .ok (.iconst 2, 1) := by decide +kernel
theorem dL_law_322 : decode cL_law 322 = .ok (.iadd, 1) := by decide +kernel
theorem dL_law_323 : decode cL_law 323 = .ok (.iaload, 1) := by decide +kernel
theorem dL_law_324 : decode cL_law 324 = .ok (.aload_n 0, 1) := by decide +kernel
theorem dL_law_325 : decode cL_law 325 = .ok (.iload_n 3, 1) := by decide +kernel
theorem dL_law_326 : decode cL_law 326 = .ok (.iconst 3, 1) := by decide +kernel
theorem dL_law_327 : decode cL_law 327 = .ok (.iadd, 1) := by decide +kernel
theorem dL_law_328 : decode cL_law 328 = .ok (.iaload, 1) := by decide +kernel
theorem dL_law_329 : decode cL_law 329 = .ok (.invokevirtual 35, 3) := by decide +kernel
theorem dL_law_332 : decode cL_law 332 = .ok (.if_icmp .eq 428, 3) := by decide +kernel
theorem dL_law_335 : decode cL_law 335 = .ok (.iconst 0, 1) := by decide +kernel
theorem dL_law_336 : decode cL_law 336 = .ok (.ireturn, 1) := by decide +kernel
theorem dL_law_337 : decode cL_law 337 = .ok (.aload_n 1, 1) := by decide +kernel
theorem dL_law_338 : decode cL_law 338 = .ok (.aload_n 0, 1) := by decide +kernel
theorem dL_law_339 : decode cL_law 339 = .ok (.iload_n 3, 1) := by decide +kernel
theorem dL_law_340 : decode cL_law 340 = .ok (.iconst 1, 1) := by decide +kernel
theorem dL_law_341 : decode cL_law 341 = .ok (.iadd, 1) := by decide +kernel
theorem dL_law_342 : decode cL_law 342 = .ok (.iaload, 1) := by decide +kernel
theorem dL_law_343 : decode cL_law 343 = .ok (.aload_n 0, 1) := by decide +kernel
theorem dL_law_344 : decode cL_law 344 = .ok (.iload_n 3, 1) := by decide +kernel
theorem dL_law_345 : decode cL_law 345 = .ok (.iconst 2, 1) := by decide +kernel
theorem dL_law_346 : decode cL_law 346 = .ok (.iadd, 1) := by decide +kernel
theorem dL_law_347 : decode cL_law 347 = .ok (.iaload, 1) := by decide +kernel
theorem dL_law_348 : decode cL_law 348 = .ok (.invokevirtual 36, 3) := by decide +kernel
theorem dL_law_351 : decode cL_law 351 = .ok (.aload_n 2, 1) := by decide +kernel
theorem dL_law_352 : decode cL_law 352 = .ok (.aload_n 0, 1) := by decide +kernel
theorem dL_law_353 : decode cL_law 353 = .ok (.iload_n 3, 1) := by decide +kernel
theorem dL_law_354 : decode cL_law 354 = .ok (.iconst 1, 1) := by decide +kernel
theorem dL_law_355 : decode cL_law 355 = .ok (.iadd, 1) := by decide +kernel
theorem dL_law_356 : decode cL_law 356 = .ok (.iaload, 1) := by decide +kernel
theorem dL_law_357 : decode cL_law 357 = .ok (.aload_n 0, 1) := by decide +kernel
theorem dL_law_358 : decode cL_law 358 = .ok (.iload_n 3, 1) := by decide +kernel
theorem dL_law_359 : decode cL_law 359 = .ok (.iconst 2, 1) := by decide +kernel
theorem dL_law_360 : decode cL_law 360 = .ok (.iadd, 1) := by decide +kernel
theorem dL_law_361 : decode cL_law 361 = .ok (.iaload, 1) := by decide +kernel
theorem dL_law_362 : decode cL_law 362 = .ok (.invokevirtual 39, 3) := by decide +kernel
theorem dL_law_365 : decode cL_law 365 = .ok (.if_icmp .eq 395, 3) := by decide +kernel
theorem dL_law_368 : decode cL_law 368 = .ok (.iconst 0, 1) := by decide +kernel
theorem dL_law_369 : decode cL_law 369 = .ok (.ireturn, 1) := by decide +kernel
theorem dL_law_370 : decode cL_law 370 = .ok (.aload_n 1, 1) := by decide +kernel
theorem dL_law_371 : decode cL_law 371 = .ok (.aload_n 0, 1) := by decide +kernel
theorem dL_law_372 : decode cL_law 372 = .ok (.iload_n 3, 1) := by decide +kernel
theorem dL_law_373 : decode cL_law 373 = .ok (.iconst 1, 1) := by decide +kernel
theorem dL_law_374 : decode cL_law 374 = .ok (.iadd, 1) := by decide +kernel
theorem dL_law_375 : decode cL_law 375 = .ok (.iaload, 1) := by decide +kernel
theorem dL_law_376 : decode cL_law 376 = .ok (.aload_n 0, 1) := by decide +kernel
theorem dL_law_377 : decode cL_law 377 = .ok (.iload_n 3, 1) := by decide +kernel
theorem dL_law_378 : decode cL_law 378 = .ok (.iconst 2, 1) := by decide +kernel
theorem dL_law_379 : decode cL_law 379 = .ok (.iadd, 1) := by decide +kernel
theorem dL_law_380 : decode cL_law 380 = .ok (.iaload, 1) := by decide +kernel
theorem dL_law_381 : decode cL_law 381 = .ok (.invokevirtual 40, 3) := by decide +kernel
theorem dL_law_384 : decode cL_law 384 = .ok (.aload_n 2, 1) := by decide +kernel
theorem dL_law_385 : decode cL_law 385 = .ok (.aload_n 0, 1) := by decide +kernel
theorem dL_law_386 : decode cL_law 386 = .ok (.iload_n 3, 1) := by decide +kernel
theorem dL_law_387 : decode cL_law 387 = .ok (.iconst 1, 1) := by decide +kernel
theorem dL_law_388 : decode cL_law 388 = .ok (.iadd, 1) := by decide +kernel
theorem dL_law_389 : decode cL_law 389 = .ok (.iaload, 1) := by decide +kernel
theorem dL_law_390 : decode cL_law 390 = .ok (.aload_n 0, 1) := by decide +kernel
theorem dL_law_391 : decode cL_law 391 = .ok (.iload_n 3, 1) := by decide +kernel
theorem dL_law_392 : decode cL_law 392 = .ok (.iconst 2, 1) := by decide +kernel
theorem dL_law_393 : decode cL_law 393 = .ok (.iadd, 1) := by decide +kernel
theorem dL_law_394 : decode cL_law 394 = .ok (.iaload, 1) := by decide +kernel
theorem dL_law_395 : decode cL_law 395 = .ok (.invokevirtual 43, 3) := by decide +kernel
theorem dL_law_398 : decode cL_law 398 = .ok (.if_icmp .eq 362, 3) := by decide +kernel
theorem dL_law_401 : decode cL_law 401 = .ok (.iconst 0, 1) := by decide +kernel
theorem dL_law_402 : decode cL_law 402 = .ok (.ireturn, 1) := by decide +kernel
theorem dL_law_403 : decode cL_law 403 = .ok (.aload_n 1, 1) := by decide +kernel
theorem dL_law_404 : decode cL_law 404 = .ok (.invokevirtual 44, 3) := by decide +kernel
theorem dL_law_407 : decode cL_law 407 = .ok (.aload_n 2, 1) := by decide +kernel
theorem dL_law_408 : decode cL_law 408 = .ok (.invokevirtual 48, 3) := by decide +kernel
theorem dL_law_411 : decode cL_law 411 = .ok (.if_icmp .eq 349, 3) := by decide +kernel
theorem dL_law_414 : decode cL_law 414 = .ok (.iconst 0, 1) := by decide +kernel
theorem dL_law_415 : decode cL_law 415 = .ok (.ireturn, 1) := by decide +kernel
theorem dL_law_416 : decode cL_law 416 = .ok (.aload_n 1, 1) := by decide +kernel
theorem dL_law_417 : decode cL_law 417 = .ok (.invokevirtual 49, 3) := by decide +kernel
theorem dL_law_420 : decode cL_law 420 = .ok (.aload_n 2, 1) := by decide +kernel
theorem dL_law_421 : decode cL_law 421 = .ok (.invokevirtual 52, 3) := by decide +kernel
theorem dL_law_424 : decode cL_law 424 = .ok (.if_icmp .eq 336, 3) := by decide +kernel
theorem dL_law_427 : decode cL_law 427 = .ok (.iconst 0, 1) := by decide +kernel
theorem dL_law_428 : decode cL_law 428 = .ok (.ireturn, 1) := by decide +kernel
theorem dL_law_429 : decode cL_law 429 = .ok (.aload_n 1, 1) := by decide +kernel
theorem dL_law_430 : decode cL_law 430 = .ok (.aload_n 0, 1) := by decide +kernel
theorem dL_law_431 : decode cL_law 431 = .ok (.iload_n 3, 1) := by decide +kernel
theorem dL_law_432 : decode cL_law 432 = .ok (.iconst 1, 1) := by decide +kernel
theorem dL_law_433 : decode cL_law 433 = .ok (.iadd, 1) := by decide +kernel
theorem dL_law_434 : decode cL_law 434 = .ok (.iaload, 1) := by decide +kernel
theorem dL_law_435 : decode cL_law 435 = .ok (.i2c, 1) := by decide +kernel
theorem dL_law_436 : decode cL_law 436 = .ok (.invokevirtual 53, 3) := by decide +kernel
theorem dL_law_439 : decode cL_law 439 = .ok (.aload_n 2, 1) := by decide +kernel
theorem dL_law_440 : decode cL_law 440 = .ok (.aload_n 0, 1) := by decide +kernel
theorem dL_law_441 : decode cL_law 441 = .ok (.iload_n 3, 1) := by decide +kernel
theorem dL_law_442 : decode cL_law 442 = .ok (.iconst 1, 1) := by decide +kernel
theorem dL_law_443 : decode cL_law 443 = .ok (.iadd, 1) := by decide +kernel
theorem dL_law_444 : decode cL_law 444 = .ok (.iaload, 1) := by decide +kernel
theorem dL_law_445 : decode cL_law 445 = .ok (.i2c, 1) := by decide +kernel
theorem dL_law_446 : decode cL_law 446 = .ok (.invokevirtual 57, 3) := by decide +kernel
theorem dL_law_449 : decode cL_law 449 = .ok (.if_icmp .eq 311, 3) := by decide +kernel
theorem dL_law_452 : decode cL_law 452 = .ok (.iconst 0, 1) := by decide +kernel
theorem dL_law_453 : decode cL_law 453 = .ok (.ireturn, 1) := by decide +kernel
theorem dL_law_454 : decode cL_law 454 = .ok (.aload_n 1, 1) := by decide +kernel
theorem dL_law_455 : decode cL_law 455 = .ok (.invokevirtual 58, 3) := by decide +kernel
theorem dL_law_458 : decode cL_law 458 = .ok (.aload_n 2, 1) := by decide +kernel
theorem dL_law_459 : decode cL_law 459 = .ok (.invokevirtual 61, 3) := by decide +kernel
theorem dL_law_462 : decode cL_law 462 = .ok (.if_icmp .eq 298, 3) := by decide +kernel
theorem dL_law_465 : decode cL_law 465 = .ok (.iconst 0, 1) := by decide +kernel
theorem dL_law_466 : decode cL_law 466 = .ok (.ireturn, 1) := by decide +kernel
theorem dL_law_467 : decode cL_law 467 = .ok (.aload_n 1, 1) := by decide +kernel
theorem dL_law_468 : decode cL_law 468 = .ok (.invokevirtual 62, 3) := by decide +kernel
theorem dL_law_471 : decode cL_law 471 = .ok (.aload_n 2, 1) := by decide +kernel
theorem dL_law_472 : decode cL_law 472 = .ok (.invokevirtual 65, 3) := by decide +kernel
theorem dL_law_475 : decode cL_law 475 = .ok (.if_icmp .eq 285, 3) := by decide +kernel
theorem dL_law_478 : decode cL_law 478 = .ok (.iconst 0, 1) := by decide +kernel
theorem dL_law_479 : decode cL_law 479 = .ok (.ireturn, 1) := by decide +kernel
theorem dL_law_480 : decode cL_law 480 = .ok (.aload_n 1, 1) := by decide +kernel
theorem dL_law_481 : decode cL_law 481 = .ok (.invokevirtual 66, 3) := by decide +kernel
theorem dL_law_484 : decode cL_law 484 = .ok (.aload_n 2, 1) := by decide +kernel
theorem dL_law_485 : decode cL_law 485 = .ok (.invokevirtual 69, 3) := by decide +kernel
theorem dL_law_488 : decode cL_law 488 = .ok (.if_icmp .eq 272, 3) := by decide +kernel
theorem dL_law_491 : decode cL_law 491 = .ok (.iconst 0, 1) := by decide +kernel
theorem dL_law_492 : decode cL_law 492 = .ok (.ireturn, 1) := by decide +kernel
theorem dL_law_493 : decode cL_law 493 = .ok (.aload_n 1, 1) := by decide +kernel
theorem dL_law_494 : decode cL_law 494 = .ok (.invokevirtual 70, 3) := by decide +kernel
theorem dL_law_497 : decode cL_law 497 = .ok (.aload_n 2, 1) := by decide +kernel
theorem dL_law_498 : decode cL_law 498 = .ok (.invokevirtual 73, 3) := by decide +kernel
theorem dL_law_501 : decode cL_law 501 = .ok (.if_icmp .eq 259, 3) := by decide +kernel
theorem dL_law_504 : decode cL_law 504 = .ok (.iconst 0, 1) := by decide +kernel
theorem dL_law_505 : decode cL_law 505 = .ok (.ireturn, 1) := by decide +kernel
theorem dL_law_506 : decode cL_law 506 = .ok (.aload_n 1, 1) := by decide +kernel
theorem dL_law_507 : decode cL_law 507 = .ok (.aload_n 0, 1) := by decide +kernel
theorem dL_law_508 : decode cL_law 508 = .ok (.iload_n 3, 1) := by decide +kernel
theorem dL_law_509 : decode cL_law 509 = .ok (.iconst 1, 1) := by decide +kernel
theorem dL_law_510 : decode cL_law 510 = .ok (.iadd, 1) := by decide +kernel
theorem dL_law_511 : decode cL_law 511 = .ok (.iaload, 1) := by decide +kernel
theorem dL_law_512 : decode cL_law 512 = .ok (.aload_n 0, 1) := by decide +kernel
theorem dL_law_513 : decode cL_law 513 = .ok (.iload_n 3, 1) := by decide +kernel
theorem dL_law_514 : decode cL_law 514 = .ok (.iconst 2, 1) := by decide +kernel
theorem dL_law_515 : decode cL_law 515 = .ok (.iadd, 1) := by decide +kernel
theorem dL_law_516 : decode cL_law 516 = .ok (.iaload, 1) := by decide +kernel
theorem dL_law_517 : decode cL_law 517 = .ok (.invokevirtual 74, 3) := by decide +kernel
theorem dL_law_520 : decode cL_law 520 = .ok (.aload_n 2, 1) := by decide +kernel
theorem dL_law_521 : decode cL_law 521 = .ok (.aload_n 0, 1) := by decide +kernel
theorem dL_law_522 : decode cL_law 522 = .ok (.iload_n 3, 1) := by decide +kernel
theorem dL_law_523 : decode cL_law 523 = .ok (.iconst 1, 1) := by decide +kernel
theorem dL_law_524 : decode cL_law 524 = .ok (.iadd, 1) := by decide +kernel
theorem dL_law_525 : decode cL_law 525 = .ok (.iaload, 1) := by decide +kernel
theorem dL_law_526 : decode cL_law 526 = .ok (.aload_n 0, 1) := by decide +kernel
theorem dL_law_527 : decode cL_law 527 = .ok (.iload_n 3, 1) := by decide +kernel
theorem dL_law_528 : decode cL_law 528 = .ok (.iconst 2, 1) := by decide +kernel
theorem dL_law_529 : decode cL_law 529 = .ok (.iadd, 1) := by decide +kernel
theorem dL_law_530 : decode cL_law 530 = .ok (.iaload, 1) := by decide +kernel
theorem dL_law_531 : decode cL_law 531 = .ok (.invokevirtual 77, 3) := by decide +kernel
theorem dL_law_534 : decode cL_law 534 = .ok (.if_icmp .eq 226, 3) := by decide +kernel
theorem dL_law_537 : decode cL_law 537 = .ok (.iconst 0, 1) := by decide +kernel
theorem dL_law_538 : decode cL_law 538 = .ok (.ireturn, 1) := by decide +kernel
theorem dL_law_539 : decode cL_law 539 = .ok (.aload_n 1, 1) := by decide +kernel
theorem dL_law_540 : decode cL_law 540 = .ok (.aload_n 0, 1) := by decide +kernel
theorem dL_law_541 : decode cL_law 541 = .ok (.iload_n 3, 1) := by decide +kernel
theorem dL_law_542 : decode cL_law 542 = .ok (.iconst 1, 1) := by decide +kernel
theorem dL_law_543 : decode cL_law 543 = .ok (.iadd, 1) := by decide +kernel
theorem dL_law_544 : decode cL_law 544 = .ok (.iaload, 1) := by decide +kernel
theorem dL_law_545 : decode cL_law 545 = .ok (.aload_n 0, 1) := by decide +kernel
theorem dL_law_546 : decode cL_law 546 = .ok (.iload_n 3, 1) := by decide +kernel
theorem dL_law_547 : decode cL_law 547 = .ok (.iconst 2, 1) := by decide +kernel
theorem dL_law_548 : decode cL_law 548 = .ok (.iadd, 1) := by decide +kernel
theorem dL_law_549 : decode cL_law 549 = .ok (.iaload, 1) := by decide +kernel
theorem dL_law_550 : decode cL_law 550 = .ok (.invokevirtual 78, 3) := by decide +kernel
theorem dL_law_553 : decode cL_law 553 = .ok (.aload_n 2, 1) := by decide +kernel
theorem dL_law_554 : decode cL_law 554 = .ok (.aload_n 0, 1) := by decide +kernel
theorem dL_law_555 : decode cL_law 555 = .ok (.iload_n 3, 1) := by decide +kernel
theorem dL_law_556 : decode cL_law 556 = .ok (.iconst 1, 1) := by decide +kernel
theorem dL_law_557 : decode cL_law 557 = .ok (.iadd, 1) := by decide +kernel
theorem dL_law_558 : decode cL_law 558 = .ok (.iaload, 1) := by decide +kernel
theorem dL_law_559 : decode cL_law 559 = .ok (.aload_n 0, 1) := by decide +kernel
theorem dL_law_560 : decode cL_law 560 = .ok (.iload_n 3, 1) := by decide +kernel
theorem dL_law_561 : decode cL_law 561 = .ok (.iconst 2, 1) := by decide +kernel
theorem dL_law_562 : decode cL_law 562 = .ok (.iadd, 1) := by decide +kernel
theorem dL_law_563 : decode cL_law 563 = .ok (.iaload, 1) := by decide +kernel
theorem dL_law_564 : decode cL_law 564 = .ok (.invokevirtual 81, 3) := by decide +kernel
theorem dL_law_567 : decode cL_law 567 = .ok (.if_icmp .eq 193, 3) := by decide +kernel
theorem dL_law_570 : decode cL_law 570 = .ok (.iconst 0, 1) := by decide +kernel
theorem dL_law_571 : decode cL_law 571 = .ok (.ireturn, 1) := by decide +kernel
theorem dL_law_572 : decode cL_law 572 = .ok (.aload_n 1, 1) := by decide +kernel
theorem dL_law_573 : decode cL_law 573 = .ok (.aload_n 0, 1) := by decide +kernel
theorem dL_law_574 : decode cL_law 574 = .ok (.iload_n 3, 1) := by decide +kernel
theorem dL_law_575 : decode cL_law 575 = .ok (.iconst 1, 1) := by decide +kernel
theorem dL_law_576 : decode cL_law 576 = .ok (.iadd, 1) := by decide +kernel
theorem dL_law_577 : decode cL_law 577 = .ok (.iaload, 1) := by decide +kernel
theorem dL_law_578 : decode cL_law 578 = .ok (.aload_n 0, 1) := by decide +kernel
theorem dL_law_579 : decode cL_law 579 = .ok (.iload_n 3, 1) := by decide +kernel
theorem dL_law_580 : decode cL_law 580 = .ok (.iconst 2, 1) := by decide +kernel
theorem dL_law_581 : decode cL_law 581 = .ok (.iadd, 1) := by decide +kernel
theorem dL_law_582 : decode cL_law 582 = .ok (.iaload, 1) := by decide +kernel
theorem dL_law_583 : decode cL_law 583 = .ok (.invokevirtual 82, 3) := by decide +kernel
theorem dL_law_586 : decode cL_law 586 = .ok (.aload_n 2, 1) := by decide +kernel
theorem dL_law_587 : decode cL_law 587 = .ok (.aload_n 0, 1) := by decide +kernel
theorem dL_law_588 : decode cL_law 588 = .ok (.iload_n 3, 1) := by decide +kernel
theorem dL_law_589 : decode cL_law 589 = .ok (.iconst 1, 1) := by decide +kernel
theorem dL_law_590 : decode cL_law 590 = .ok (.iadd, 1) := by decide +kernel
theorem dL_law_591 : decode cL_law 591 = .ok (.iaload, 1) := by decide +kernel
theorem dL_law_592 : decode cL_law 592 = .ok (.aload_n 0, 1) := by decide +kernel
theorem dL_law_593 : decode cL_law 593 = .ok (.iload_n 3, 1) := by decide +kernel
theorem dL_law_594 : decode cL_law 594 = .ok (.iconst 2, 1) := by decide +kernel
theorem dL_law_595 : decode cL_law 595 = .ok (.iadd, 1) := by decide +kernel
theorem dL_law_596 : decode cL_law 596 = .ok (.iaload, 1) := by decide +kernel
theorem dL_law_597 : decode cL_law 597 = .ok (.invokevirtual 85, 3) := by decide +kernel
theorem dL_law_600 : decode cL_law 600 = .ok (.if_icmp .eq 160, 3) := by decide +kernel
theorem dL_law_603 : decode cL_law 603 = .ok (.iconst 0, 1) := by decide +kernel
theorem dL_law_604 : decode cL_law 604 = .ok (.ireturn, 1) := by decide +kernel
theorem dL_law_605 : decode cL_law 605 = .ok (.aload_n 1, 1) := by decide +kernel
theorem dL_law_606 : decode cL_law 606 = .ok (.aload_n 0, 1) := by decide +kernel
theorem dL_law_607 : decode cL_law 607 = .ok (.iload_n 3, 1) := by decide +kernel
theorem dL_law_608 : decode cL_law 608 = .ok (.iconst 1, 1) := by decide +kernel
theorem dL_law_609 : decode cL_law 609 = .ok (.iadd, 1) := by decide +kernel
theorem dL_law_610 : decode cL_law 610 = .ok (.iaload, 1) := by decide +kernel
theorem dL_law_611 : decode cL_law 611 = .ok (.aload_n 0, 1) := by decide +kernel
theorem dL_law_612 : decode cL_law 612 = .ok (.iload_n 3, 1) := by decide +kernel
theorem dL_law_613 : decode cL_law 613 = .ok (.iconst 2, 1) := by decide +kernel
theorem dL_law_614 : decode cL_law 614 = .ok (.iadd, 1) := by decide +kernel
theorem dL_law_615 : decode cL_law 615 = .ok (.iaload, 1) := by decide +kernel
theorem dL_law_616 : decode cL_law 616 = .ok (.invokevirtual 86, 3) := by decide +kernel
theorem dL_law_619 : decode cL_law 619 = .ok (.aload_n 2, 1) := by decide +kernel
theorem dL_law_620 : decode cL_law 620 = .ok (.aload_n 0, 1) := by decide +kernel
theorem dL_law_621 : decode cL_law 621 = .ok (.iload_n 3, 1) := by decide +kernel
theorem dL_law_622 : decode cL_law 622 = .ok (.iconst 1, 1) := by decide +kernel
theorem dL_law_623 : decode cL_law 623 = .ok (.iadd, 1) := by decide +kernel
theorem dL_law_624 : decode cL_law 624 = .ok (.iaload, 1) := by decide +kernel
theorem dL_law_625 : decode cL_law 625 = .ok (.aload_n 0, 1) := by decide +kernel
theorem dL_law_626 : decode cL_law 626 = .ok (.iload_n 3, 1) := by decide +kernel
theorem dL_law_627 : decode cL_law 627 = .ok (.iconst 2, 1) := by decide +kernel
theorem dL_law_628 : decode cL_law 628 = .ok (.iadd, 1) := by decide +kernel
theorem dL_law_629 : decode cL_law 629 = .ok (.iaload, 1) := by decide +kernel
theorem dL_law_630 : decode cL_law 630 = .ok (.invokevirtual 89, 3) := by decide +kernel
theorem dL_law_633 : decode cL_law 633 = .ok (.if_icmp .eq 127, 3) := by decide +kernel
theorem dL_law_636 : decode cL_law 636 = .ok (.iconst 0, 1) := by decide +kernel
theorem dL_law_637 : decode cL_law 637 = .ok (.ireturn, 1) := by decide +kernel
theorem dL_law_638 : decode cL_law 638 = .ok (.aload_n 1, 1) := by decide +kernel
theorem dL_law_639 : decode cL_law 639 = .ok (.aload_n 0, 1) := by decide +kernel
theorem dL_law_640 : decode cL_law 640 = .ok (.iload_n 3, 1) := by decide +kernel
theorem dL_law_641 : decode cL_law 641 = .ok (.iconst 1, 1) := by decide +kernel
theorem dL_law_642 : decode cL_law 642 = .ok (.iadd, 1) := by decide +kernel
theorem dL_law_643 : decode cL_law 643 = .ok (.iaload, 1) := by decide +kernel
theorem dL_law_644 : decode cL_law 644 = .ok (.aload_n 0, 1) := by decide +kernel
theorem dL_law_645 : decode cL_law 645 = .ok (.iload_n 3, 1) := by decide +kernel
theorem dL_law_646 : decode cL_law 646 = .ok (.iconst 2, 1) := by decide +kernel
theorem dL_law_647 : decode cL_law 647 = .ok (.iadd, 1) := by decide +kernel
theorem dL_law_648 : decode cL_law 648 = .ok (.iaload, 1) := by decide +kernel
theorem dL_law_649 : decode cL_law 649 = .ok (.invokevirtual 90, 3) := by decide +kernel
theorem dL_law_652 : decode cL_law 652 = .ok (.aload_n 2, 1) := by decide +kernel
theorem dL_law_653 : decode cL_law 653 = .ok (.aload_n 0, 1) := by decide +kernel
theorem dL_law_654 : decode cL_law 654 = .ok (.iload_n 3, 1) := by decide +kernel
theorem dL_law_655 : decode cL_law 655 = .ok (.iconst 1, 1) := by decide +kernel
theorem dL_law_656 : decode cL_law 656 = .ok (.iadd, 1) := by decide +kernel
theorem dL_law_657 : decode cL_law 657 = .ok (.iaload, 1) := by decide +kernel
theorem dL_law_658 : decode cL_law 658 = .ok (.aload_n 0, 1) := by decide +kernel
theorem dL_law_659 : decode cL_law 659 = .ok (.iload_n 3, 1) := by decide +kernel
theorem dL_law_660 : decode cL_law 660 = .ok (.iconst 2, 1) := by decide +kernel
theorem dL_law_661 : decode cL_law 661 = .ok (.iadd, 1) := by decide +kernel
theorem dL_law_662 : decode cL_law 662 = .ok (.iaload, 1) := by decide +kernel
theorem dL_law_663 : decode cL_law 663 = .ok (.invokevirtual 93, 3) := by decide +kernel
theorem dL_law_666 : decode cL_law 666 = .ok (.if_icmp .eq 94, 3) := by decide +kernel
theorem dL_law_669 : decode cL_law 669 = .ok (.iconst 0, 1) := by decide +kernel
theorem dL_law_670 : decode cL_law 670 = .ok (.ireturn, 1) := by decide +kernel
theorem dL_law_671 : decode cL_law 671 = .ok (.aload_n 1, 1) := by decide +kernel
theorem dL_law_672 : decode cL_law 672 = .ok (.aload_n 0, 1) := by decide +kernel
theorem dL_law_673 : decode cL_law 673 = .ok (.iload_n 3, 1) := by decide +kernel
theorem dL_law_674 : decode cL_law 674 = .ok (.iconst 1, 1) := by decide +kernel
theorem dL_law_675 : decode cL_law 675 = .ok (.iadd, 1) := by decide +kernel
theorem dL_law_676 : decode cL_law 676 = .ok (.iaload, 1) := by decide +kernel
theorem dL_law_677 : decode cL_law 677 = .ok (.aload_n 0, 1) := by decide +kernel
theorem dL_law_678 : decode cL_law 678 = .ok (.iload_n 3, 1) := by decide +kernel
theorem dL_law_679 : decode cL_law 679 = .ok (.iconst 2, 1) := by decide +kernel
theorem dL_law_680 : decode cL_law 680 = .ok (.iadd, 1) := by decide +kernel
theorem dL_law_681 : decode cL_law 681 = .ok (.iaload, 1) := by decide +kernel
theorem dL_law_682 : decode cL_law 682 = .ok (.aload_n 0, 1) := by decide +kernel
theorem dL_law_683 : decode cL_law 683 = .ok (.iload_n 3, 1) := by decide +kernel
theorem dL_law_684 : decode cL_law 684 = .ok (.iconst 3, 1) := by decide +kernel
theorem dL_law_685 : decode cL_law 685 = .ok (.iadd, 1) := by decide +kernel
theorem dL_law_686 : decode cL_law 686 = .ok (.iaload, 1) := by decide +kernel
theorem dL_law_687 : decode cL_law 687 = .ok (.invokevirtual 94, 3) := by decide +kernel
theorem dL_law_690 : decode cL_law 690 = .ok (.aload_n 2, 1) := by decide +kernel
theorem dL_law_691 : decode cL_law 691 = .ok (.aload_n 0, 1) := by decide +kernel
theorem dL_law_692 : decode cL_law 692 = .ok (.iload_n 3, 1) := by decide +kernel
theorem dL_law_693 : decode cL_law 693 = .ok (.iconst 1, 1) := by decide +kernel
theorem dL_law_694 : decode cL_law 694 = .ok (.iadd, 1) := by decide +kernel
theorem dL_law_695 : decode cL_law 695 = .ok (.iaload, 1) := by decide +kernel
theorem dL_law_696 : decode cL_law 696 = .ok (.aload_n 0, 1) := by decide +kernel
theorem dL_law_697 : decode cL_law 697 = .ok (.iload_n 3, 1) := by decide +kernel
theorem dL_law_698 : decode cL_law 698 = .ok (.iconst 2, 1) := by decide +kernel
theorem dL_law_699 : decode cL_law 699 = .ok (.iadd, 1) := by decide +kernel
theorem dL_law_700 : decode cL_law 700 = .ok (.iaload, 1) := by decide +kernel
theorem dL_law_701 : decode cL_law 701 = .ok (.aload_n 0, 1) := by decide +kernel
theorem dL_law_702 : decode cL_law 702 = .ok (.iload_n 3, 1) := by decide +kernel
theorem dL_law_703 : decode cL_law 703 = .ok (.iconst 3, 1) := by decide +kernel
theorem dL_law_704 : decode cL_law 704 = .ok (.iadd, 1) := by decide +kernel
theorem dL_law_705 : decode cL_law 705 = .ok (.iaload, 1) := by decide +kernel
theorem dL_law_706 : decode cL_law 706 = .ok (.invokevirtual 97, 3) := by decide +kernel
theorem dL_law_709 : decode cL_law 709 = .ok (.if_icmp .eq 51, 3) := by decide +kernel
theorem dL_law_712 : decode cL_law 712 = .ok (.iconst 0, 1) := by decide +kernel
theorem dL_law_713 : decode cL_law 713 = .ok (.ireturn, 1) := by decide +kernel
theorem dL_law_714 : decode cL_law 714 = .ok (.aload_n 1, 1) := by decide +kernel
theorem dL_law_715 : decode cL_law 715 = .ok (.aload_n 0, 1) := by decide +kernel
theorem dL_law_716 : decode cL_law 716 = .ok (.iload_n 3, 1) := by decide +kernel
theorem dL_law_717 : decode cL_law 717 = .ok (.iconst 1, 1) := by decide +kernel
theorem dL_law_718 : decode cL_law 718 = .ok (.iadd, 1) := by decide +kernel
theorem dL_law_719 : decode cL_law 719 = .ok (.iaload, 1) := by decide +kernel
theorem dL_law_720 : decode cL_law 720 = .ok (.invokevirtual 98, 3) := by decide +kernel
theorem dL_law_723 : decode cL_law 723 = .ok (.aload_n 2, 1) := by decide +kernel
theorem dL_law_724 : decode cL_law 724 = .ok (.aload_n 0, 1) := by decide +kernel
theorem dL_law_725 : decode cL_law 725 = .ok (.iload_n 3, 1) := by decide +kernel
theorem dL_law_726 : decode cL_law 726 = .ok (.iconst 1, 1) := by decide +kernel
theorem dL_law_727 : decode cL_law 727 = .ok (.iadd, 1) := by decide +kernel
theorem dL_law_728 : decode cL_law 728 = .ok (.iaload, 1) := by decide +kernel
theorem dL_law_729 : decode cL_law 729 = .ok (.invokevirtual 102, 3) := by decide +kernel
theorem dL_law_732 : decode cL_law 732 = .ok (.if_icmp .eq 28, 3) := by decide +kernel
theorem dL_law_735 : decode cL_law 735 = .ok (.iconst 0, 1) := by decide +kernel
theorem dL_law_736 : decode cL_law 736 = .ok (.ireturn, 1) := by decide +kernel
theorem dL_law_737 : decode cL_law 737 = .ok (.aload_n 1, 1) := by decide +kernel
theorem dL_law_738 : decode cL_law 738 = .ok (.aload_n 0, 1) := by decide +kernel
theorem dL_law_739 : decode cL_law 739 = .ok (.iload_n 3, 1) := by decide +kernel
theorem dL_law_740 : decode cL_law 740 = .ok (.iconst 1, 1) := by decide +kernel
theorem dL_law_741 : decode cL_law 741 = .ok (.iadd, 1) := by decide +kernel
theorem dL_law_742 : decode cL_law 742 = .ok (.iaload, 1) := by decide +kernel
theorem dL_law_743 : decode cL_law 743 = .ok (.invokevirtual 103, 3) := by decide +kernel
theorem dL_law_746 : decode cL_law 746 = .ok (.aload_n 2, 1) := by decide +kernel
theorem dL_law_747 : decode cL_law 747 = .ok (.aload_n 0, 1) := by decide +kernel
theorem dL_law_748 : decode cL_law 748 = .ok (.iload_n 3, 1) := by decide +kernel
theorem dL_law_749 : decode cL_law 749 = .ok (.iconst 1, 1) := by decide +kernel
theorem dL_law_750 : decode cL_law 750 = .ok (.iadd, 1) := by decide +kernel
theorem dL_law_751 : decode cL_law 751 = .ok (.iaload, 1) := by decide +kernel
theorem dL_law_752 : decode cL_law 752 = .ok (.invokevirtual 106, 3) := by decide +kernel
theorem dL_law_755 : decode cL_law 755 = .ok (.if_icmp .eq 5, 3) := by decide +kernel
theorem dL_law_758 : decode cL_law 758 = .ok (.iconst 0, 1) := by decide +kernel
theorem dL_law_759 : decode cL_law 759 = .ok (.ireturn, 1) := by decide +kernel
theorem dL_law_760 : decode cL_law 760 = .ok (.iinc 3 4, 3) := by decide +kernel
theorem dL_law_763 : decode cL_law 763 = .ok (.goto (-745), 3) := by decide +kernel
theorem dL_law_766 : decode cL_law 766 = .ok (.iconst 1, 1) := by decide +kernel
theorem dL_law_767 : decode cL_law 767 = .ok (.ireturn, 1) := by decide +kernel
