theorem dX8_init_0 : decode cX8_init 0 = .ok (.aload_n 0, 1) := by decide +kernel
theorem dX8_init_1 : decode cX8_init 1 = .ok (.invokespecial 1, 3) := by decide +kernel
theorem dX8_init_4 : decode cX8_init 4 = .ok (.aload_n 0, 1) := by decide +kernel
theorem dX8_init_5 : decode cX8_init 5 = .ok (.sipush 289, 3) := by decide +kernel
theorem dX8_init_8 : decode cX8_init 8 = .ok (.newarray .int, 2) := by decide +kernel
theorem dX8_init_10 : decode cX8_init 10 = .ok (.putfield 7, 3) := by decide +kernel
theorem dX8_init_13 : decode cX8_init 13 = .ok (.aload_n 0, 1) := by decide +kernel
theorem dX8_init_14 : decode cX8_init 14 = .ok (.sipush 289, 3) := by decide +kernel
theorem dX8_init_17 : decode cX8_init 17 = .ok (.newarray .int, 2) := by decide +kernel
theorem dX8_init_19 : decode cX8_init 19 = .ok (.putfield 13, 3) := by decide +kernel
theorem dX8_init_22 : decode cX8_init 22 = .ok (.aload_n 0, 1) := by decide +kernel
theorem dX8_init_23 : decode cX8_init 23 = .ok (.sipush 1156, 3) := by decide +kernel
theorem dX8_init_26 : decode cX8_init 26 = .ok (.newarray .int, 2) := by decide +kernel
theorem dX8_init_28 : decode cX8_init 28 = .ok (.putfield 16, 3) := by decide +kernel
theorem dX8_init_31 : decode cX8_init 31 = .ok (.aload_n 0, 1) := by decide +kernel
theorem dX8_init_32 : decode cX8_init 32 = .ok (.sipush 289, 3) := by decide +kernel
theorem dX8_init_35 : decode cX8_init 35 = .ok (.newarray .int, 2) := by decide +kernel
theorem dX8_init_37 : decode cX8_init 37 = .ok (.putfield 19, 3) := by decide +kernel
theorem dX8_init_40 : decode cX8_init 40 = .ok (.aload_n 0, 1) := by decide +kernel
theorem dX8_init_41 : decode cX8_init 41 = .ok (.bipush 60, 2) := by decide +kernel
theorem dX8_init_43 : decode cX8_init 43 = .ok (.newarray .int, 2) := by decide +kernel
theorem dX8_init_45 : decode cX8_init 45 = .ok (.putfield 22, 3) := by decide +kernel
theorem dX8_init_48 : decode cX8_init 48 = .ok (.aload_n 0, 1) := by decide +kernel
theorem dX8_init_49 : decode cX8_init 49 = .ok (.bipush 63, 2) := by decide +kernel
theorem dX8_init_51 : decode cX8_init 51 = .ok (.newarray .int, 2) := by decide +kernel
theorem dX8_init_53 : decode cX8_init 53 = .ok (.putfield 25, 3) := by decide +kernel
theorem dX8_init_56 : decode cX8_init 56 = .ok (.aload_n 0, 1) := by decide +kernel
theorem dX8_init_57 : decode cX8_init 57 = .ok (.bipush 63, 2) := by decide +kernel
theorem dX8_init_59 : decode cX8_init 59 = .ok (.newarray .boolean, 2) := by decide +kernel
theorem dX8_init_61 : decode cX8_init 61 = .ok (.putfield 28, 3) := by decide +kernel
theorem dX8_init_64 : decode cX8_init 64 = .ok (.aload_n 0, 1) := by decide +kernel
theorem dX8_init_65 : decode cX8_init 65 = .ok (.bipush 63, 2) := by decide +kernel
theorem dX8_init_67 : decode cX8_init 67 = .ok (.newarray .int, 2) := by decide +kernel
theorem dX8_init_69 : decode cX8_init 69 = .ok (.putfield 32, 3) := by decide +kernel
theorem dX8_init_72 : decode cX8_init 72 = .ok (.aload_n 0, 1) := by decide +kernel
theorem dX8_init_73 : decode cX8_init 73 = .ok (.bipush 63, 2) := by decide +kernel
theorem dX8_init_75 : decode cX8_init 75 = .ok (.newarray .boolean, 2) := by decide +kernel
theorem dX8_init_77 : decode cX8_init 77 = .ok (.putfield 35, 3) := by decide +kernel
theorem dX8_init_80 : decode cX8_init 80 = .ok (.aload_n 0, 1) := by decide +kernel
theorem dX8_init_81 : decode cX8_init 81 = .ok (.bipush 16, 2) := by decide +kernel
theorem dX8_init_83 : decode cX8_init 83 = .ok (.newarray .boolean, 2) := by decide +kernel
theorem dX8_init_85 : decode cX8_init 85 = .ok (.putfield 38, 3) := by decide +kernel
theorem dX8_init_88 : decode cX8_init 88 = .ok (.aload_n 0, 1) := by decide +kernel
theorem dX8_init_89 : decode cX8_init 89 = .ok (.bipush 96, 2) := by decide +kernel
theorem dX8_init_91 : decode cX8_init 91 = .ok (.newarray .int, 2) := by decide +kernel
theorem dX8_init_93 : decode cX8_init 93 = .ok (.putfield 41, 3) := by decide +kernel
theorem dX8_init_96 : decode cX8_init 96 = .ok (.aload_n 0, 1) := by decide +kernel
theorem dX8_init_97 : decode cX8_init 97 = .ok (.iconst 0, 1) := by decide +kernel
theorem dX8_init_98 : decode cX8_init 98 = .ok (.putfield 44, 3) := by decide +kernel
theorem dX8_init_101 : decode cX8_init 101 = .ok (.aload_n 0, 1) := by decide +kernel
theorem dX8_init_102 : decode cX8_init 102 = .ok (.getfield 7, 3) := by decide +kernel
theorem dX8_init_105 : decode cX8_init 105 = .ok (.sipush 189, 3) := by decide +kernel
theorem dX8_init_108 : decode cX8_init 108 = .ok (.bipush 27, 2) := by decide +kernel
theorem dX8_init_110 : decode cX8_init 110 = .ok (.iastore, 1) := by decide +kernel
theorem dX8_init_111 : decode cX8_init 111 = .ok (.aload_n 0, 1) := by decide +kernel
theorem dX8_init_112 : decode cX8_init 112 = .ok (.getfield 7, 3) := by decide +kernel
theorem dX8_init_115 : decode cX8_init 115 = .ok (.sipush 190, 3) := by decide +kernel
theorem dX8_init_118 : decode cX8_init 118 = .ok (.bipush 35, 2) := by decide +kernel
theorem dX8_init_120 : decode cX8_init 120 = .ok (.iastore, 1) := by decide +kernel
theorem dX8_init_121 : decode cX8_init 121 = .ok (.return_, 1) := by decide +kernel
theorem dX8_in_0 : decode cX8_in 0 = .ok (.iload_n 0, 1) := by decide +kernel
theorem dX8_in_1 : decode cX8_in 1 = .ok (.iload_n 1, 1) := by decide +kernel
theorem dX8_in_2 : decode cX8_in 2 = .ok (.if_icmp .lt 12, 3) := by decide +kernel
theorem dX8_in_5 : decode cX8_in 5 = .ok (.iload_n 0, 1) := by decide +kernel
theorem dX8_in_6 : decode cX8_in 6 = .ok (.iload_n 2, 1) := by decide +kernel
theorem dX8_in_7 : decode cX8_in 7 = .ok (.if_icmp .gt 7, 3) := by decide +kernel
theorem dX8_in_10 : decode cX8_in 10 = .ok (.iconst 1, 1) := by decide +kernel
theorem dX8_in_11 : decode cX8_in 11 = .ok (.goto 4, 3) := by decide +kernel
theorem dX8_in_14 : decode cX8_in 14 = .ok (.iconst 0, 1) := by decide +kernel
theorem dX8_in_15 : decode cX8_in 15 = .ok (.ireturn, 1) := by decide +kernel
theorem dX8_isHex_0 : decode cX8_isHex 0 = .ok (.iload_n 0, 1) := by decide +kernel
theorem dX8_isHex_1 : decode cX8_isHex 1 = .ok (.iconst 0, 1) := by decide +kernel
theorem dX8_isHex_2 : decode cX8_isHex 2 = .ok (.bipush 62, 2) := by decide +kernel
theorem dX8_isHex_4 : decode cX8_isHex 4 = .ok (.invokestatic 48, 3) := by decide +kernel
theorem dX8_isHex_7 : decode cX8_isHex 7 = .ok (.ireturn, 1) := by decide +kernel
theorem dX8_of_0 : decode cX8_of 0 = .ok (.aload_n 0, 1) := by decide +kernel
theorem dX8_of_1 : decode cX8_of 1 = .ok (.getfield 7, 3) := by decide +kernel
theorem dX8_of_4 : decode cX8_of 4 = .ok (.sipush 193, 3) := by decide +kernel
theorem dX8_of_7 : decode cX8_of 7 = .ok (.bipush 6, 2) := by decide +kernel
theorem dX8_of_9 : decode cX8_of 9 = .ok (.iload_n 1, 1) := by decide +kernel
theorem dX8_of_10 : decode cX8_of 10 = .ok (.imul, 1) := by decide +kernel
theorem dX8_of_11 : decode cX8_of 11 = .ok (.iadd, 1) := by decide +kernel
theorem dX8_of_12 : decode cX8_of 12 = .ok (.iload_n 2, 1) := by decide +kernel
theorem dX8_of_13 : decode cX8_of 13 = .ok (.iadd, 1) := by decide +kernel
theorem dX8_of_14 : decode cX8_of 14 = .ok (.iaload, 1) := by decide +kernel
theorem dX8_of_15 : decode cX8_of 15 = .ok (.ireturn, 1) := by decide +kernel
theorem dX8_lay_0 : decode cX8_lay 0 = .ok (.aload_n 0, 1) := by decide +kernel
theorem dX8_lay_1 : decode cX8_lay 1 = .ok (.getfield 7, 3) := by decide +kernel
theorem dX8_lay_4 : decode cX8_lay 4 = .ok (.sipush 193, 3) := by decide +kernel
theorem dX8_lay_7 : decode cX8_lay 7 = .ok (.bipush 6, 2) := by decide +kernel
theorem dX8_lay_9 : decode cX8_lay 9 = .ok (.iload_n 1, 1) := by decide +kernel
theorem dX8_lay_10 : decode cX8_lay 10 = .ok (.imul, 1) := by decide +kernel
theorem dX8_lay_11 : decode cX8_lay 11 = .ok (.iadd, 1) := by decide +kernel
theorem dX8_lay_12 : decode cX8_lay 12 = .ok (.iload_n 2, 1) := by decide +kernel
theorem dX8_lay_13 : decode cX8_lay 13 = .ok (.iadd, 1) := by decide +kernel
theorem dX8_lay_14 : decode cX8_lay 14 = .ok (.iload_n 3, 1) := by decide +kernel
theorem dX8_lay_15 : decode cX8_lay 15 = .ok (.iastore, 1) := by decide +kernel
theorem dX8_lay_16 : decode cX8_lay 16 = .ok (.return_, 1) := by decide +kernel
theorem dX8_isUnit_0 : decode cX8_isUnit 0 = .ok (.iload_n 1, 1) := by decide +kernel
theorem dX8_isUnit_1 : decode cX8_isUnit 1 = .ok (.iconst 0, 1) := by decide +kernel
theorem dX8_isUnit_2 : decode cX8_isUnit 2 = .ok (.aload_n 0, 1) := by decide +kernel
theorem dX8_isUnit_3 : decode cX8_isUnit 3 = .ok (.getfield 7, 3) := by decide +kernel
theorem dX8_isUnit_6 : decode cX8_isUnit 6 = .ok (.sipush 192, 3) := by decide +kernel
theorem dX8_isUnit_9 : decode cX8_isUnit 9 = .ok (.iaload, 1) := by decide +kernel
theorem dX8_isUnit_10 : decode cX8_isUnit 10 = .ok (.iconst 1, 1) := by decide +kernel
theorem dX8_isUnit_11 : decode cX8_isUnit 11 = .ok (.isub, 1) := by decide +kernel
theorem dX8_isUnit_12 : decode cX8_isUnit 12 = .ok (.invokestatic 48, 3) := by decide +kernel
theorem dX8_isUnit_15 : decode cX8_isUnit 15 = .ok (.ifCond .eq 16, 3) := by decide +kernel
theorem dX8_isUnit_18 : decode cX8_isUnit 18 = .ok (.aload_n 0, 1) := by decide +kernel
theorem dX8_isUnit_19 : decode cX8_isUnit 19 = .ok (.iload_n 1, 1) := by decide +kernel
theorem dX8_isUnit_20 : decode cX8_isUnit 20 = .ok (.iconst 1, 1) := by decide +kernel
theorem dX8_isUnit_21 : decode cX8_isUnit 21 = .ok (.invokevirtual 52, 3) := by decide +kernel
theorem dX8_isUnit_24 : decode cX8_isUnit 24 = .ok (.ifCond .le 7, 3) := by decide +kernel
theorem dX8_isUnit_27 : decode cX8_isUnit 27 = .ok (.iconst 1, 1) := by decide +kernel
theorem dX8_isUnit_28 : decode cX8_isUnit 28 = .ok (.goto 4, 3) := by decide +kernel
theorem dX8_isUnit_31 : decode cX8_isUnit 31 = .ok (.iconst 0, 1) := by decide +kernel
theorem dX8_isUnit_32 : decode cX8_isUnit 32 = .ok (.ireturn, 1) := by decide +kernel
theorem dX8_records_0 : decode cX8_records 0 = .ok (.aload_n 0, 1) := by decide +kernel
theorem dX8_records_1 : decode cX8_records 1 = .ok (.getfield 56, 3) := by decide +kernel
theorem dX8_records_4 : decode cX8_records 4 = .ok (.iconst 4, 1) := by decide +kernel
theorem dX8_records_5 : decode cX8_records 5 = .ok (.if_icmp .ne 44, 3) := by decide +kernel
theorem dX8_records_8 : decode cX8_records 8 = .ok (.iconst 0, 1) := by decide +kernel
theorem dX8_records_9 : decode cX8_records 9 = .ok (.istore_n 1, 1) := by decide +kernel
theorem dX8_records_10 : decode cX8_records 10 = .ok (.iload_n 1, 1) := by decide +kernel
theorem dX8_records_11 : decode cX8_records 11 = .ok (.sipush 867, 3) := by decide +kernel
theorem dX8_records_14 : decode cX8_records 14 = .ok (.if_icmp .ge 25, 3) := by decide +kernel
theorem dX8_records_17 : decode cX8_records 17 = .ok (.aload_n 0, 1) := by decide +kernel
theorem dX8_records_18 : decode cX8_records 18 = .ok (.getfield 16, 3) := by decide +kernel
theorem dX8_records_21 : decode cX8_records 21 = .ok (.iload_n 1, 1) := by decide +kernel
theorem dX8_records_22 : decode cX8_records 22 = .ok (.aload_n 0, 1) := by decide +kernel
theorem dX8_records_23 : decode cX8_records 23 = .ok (.getfield 16, 3) := by decide +kernel
theorem dX8_records_26 : decode cX8_records 26 = .ok (.iload_n 1, 1) := by decide +kernel
theorem dX8_records_27 : decode cX8_records 27 = .ok (.sipush 289, 3) := by decide +kernel
theorem dX8_records_30 : decode cX8_records 30 = .ok (.iadd, 1) := by decide +kernel
theorem dX8_records_31 : decode cX8_records 31 = .ok (.iaload, 1) := by decide +kernel
theorem dX8_records_32 : decode cX8_records 32 = .ok (.iastore, 1) := by decide +kernel
theorem dX8_records_33 : decode cX8_records 33 = .ok (.iinc 1 1, 3) := by decide +kernel
theorem dX8_records_36 : decode cX8_records 36 = .ok (.goto (-26), 3) := by decide +kernel
theorem dX8_records_39 : decode cX8_records 39 = .ok (.aload_n 0, 1) := by decide +kernel
theorem dX8_records_40 : decode cX8_records 40 = .ok (.dup, 1) := by decide +kernel
theorem dX8_records_41 : decode cX8_records 41 = .ok (.getfield 56, 3) := by decide +kernel
theorem dX8_records_44 : decode cX8_records 44 = .ok (.iconst 1, 1) := by decide +kernel
theorem dX8_records_45 : decode cX8_records 45 = .ok (.isub, 1) := by decide +kernel
theorem dX8_records_46 : decode cX8_records 46 = .ok (.putfield 56, 3) := by decide +kernel
theorem dX8_records_49 : decode cX8_records 49 = .ok (.iconst 0, 1) := by decide +kernel
theorem dX8_records_50 : decode cX8_records 50 = .ok (.istore_n 1, 1) := by decide +kernel
theorem dX8_records_51 : decode cX8_records 51 = .ok (.iload_n 1, 1) := by decide +kernel
theorem dX8_records_52 : decode cX8_records 52 = .ok (.sipush 289, 3) := by decide +kernel
theorem dX8_records_55 : decode cX8_records 55 = .ok (.if_icmp .ge 30, 3) := by decide +kernel
theorem dX8_records_58 : decode cX8_records 58 = .ok (.aload_n 0, 1) := by decide +kernel
theorem dX8_records_59 : decode cX8_records 59 = .ok (.getfield 16, 3) := by decide +kernel
theorem dX8_records_62 : decode cX8_records 62 = .ok (.sipush 289, 3) := by decide +kernel
theorem dX8_records_65 : decode cX8_records 65 = .ok (.aload_n 0, 1) := by decide +kernel
theorem dX8_records_66 : decode cX8_records 66 = .ok (.getfield 56, 3) := by decide +kernel
theorem dX8_records_69 : decode cX8_records 69 = .ok (.imul, 1) := by decide +kernel
theorem dX8_records_70 : decode cX8_records 70 = .ok (.iload_n 1, 1) := by decide +kernel
theorem dX8_records_71 : decode cX8_records 71 = .ok (.iadd, 1) := by decide +kernel
theorem dX8_records_72 : decode cX8_records 72 = .ok (.aload_n 0, 1) := by decide +kernel
theorem dX8_records_73 : decode cX8_records 73 = .ok (.getfield 7, 3) := by decide +kernel
theorem dX8_records_76 : decode cX8_records 76 = .ok (.iload_n 1, 1) := by decide +kernel
theorem dX8_records_77 : decode cX8_records 77 = .ok (.iaload, 1) := by decide +kernel
theorem dX8_records_78 : decode cX8_records 78 = .ok (.iastore, 1) := by decide +kernel
theorem dX8_records_79 : decode cX8_records 79 = .ok (.iinc 1 1, 3) := by decide +kernel
theorem dX8_records_82 : decode cX8_records 82 = .ok (.goto (-31), 3) := by decide +kernel
theorem dX8_records_85 : decode cX8_records 85 = .ok (.aload_n 0, 1) := by decide +kernel
theorem dX8_records_86 : decode cX8_records 86 = .ok (.dup, 1) := by decide +kernel
theorem dX8_records_87 : decode cX8_records 87 = .ok (.getfield 56, 3) := by decide +kernel
theorem dX8_records_90 : decode cX8_records 90 = .ok (.iconst 1, 1) := by decide +kernel
theorem dX8_records_91 : decode cX8_records 91 = .ok (.iadd, 1) := by decide +kernel
theorem dX8_records_92 : decode cX8_records 92 = .ok (.putfield 56, 3) := by decide +kernel
theorem dX8_records_95 : decode cX8_records 95 = .ok (.return_, 1) := by decide +kernel
theorem dX8_putAside_0 : decode cX8_putAside 0 = .ok (.iconst 0, 1) := by decide +kernel
theorem dX8_putAside_1 : decode cX8_putAside 1 = .ok (.istore_n 1, 1) := by decide +kernel
theorem dX8_putAside_2 : decode cX8_putAside 2 = .ok (.iload_n 1, 1) := by decide +kernel
theorem dX8_putAside_3 : decode cX8_putAside 3 = .ok (.sipush 289, 3) := by decide +kernel
theorem dX8_putAside_6 : decode cX8_putAside 6 = .ok (.if_icmp .ge 21, 3) := by decide +kernel
theorem dX8_putAside_9 : decode cX8_putAside 9 = .ok (.aload_n 0, 1) := by decide +kernel
theorem dX8_putAside_10 : decode cX8_putAside 10 = .ok (.getfield 13, 3) := by decide +kernel
theorem dX8_putAside_13 : decode cX8_putAside 13 = .ok (.iload_n 1, 1) := by decide +kernel
theorem dX8_putAside_14 : decode cX8_putAside 14 = .ok (.aload_n 0, 1) := by decide +kernel
theorem dX8_putAside_15 : decode cX8_putAside 15 = .ok (.getfield 7, 3) := by decide +kernel
theorem dX8_putAside_18 : decode cX8_putAside 18 = .ok (.iload_n 1, 1) := by decide +kernel
theorem dX8_putAside_19 : decode cX8_putAside 19 = .ok (.iaload, 1) := by decide +kernel
theorem dX8_putAside_20 : decode cX8_putAside 20 = .ok (.iastore, 1) := by decide +kernel
theorem dX8_putAside_21 : decode cX8_putAside 21 = .ok (.iinc 1 1, 3) := by decide +kernel
theorem dX8_putAside_24 : decode cX8_putAside 24 = .ok (.goto (-22), 3) := by decide +kernel
theorem dX8_putAside_27 : decode cX8_putAside 27 = .ok (.return_, 1) := by decide +kernel
theorem dX8_takeBack_0 : decode cX8_takeBack 0 = .ok (.iconst 0, 1) := by decide +kernel
theorem dX8_takeBack_1 : decode cX8_takeBack 1 = .ok (.istore_n 1, 1) := by decide +kernel
theorem dX8_takeBack_2 : decode cX8_takeBack 2 = .ok (.iload_n 1, 1) := by decide +kernel
theorem dX8_takeBack_3 : decode cX8_takeBack 3 = .ok (.sipush 289, 3) := by decide +kernel
theorem dX8_takeBack_6 : decode cX8_takeBack 6 = .ok (.if_icmp .ge 21, 3) := by decide +kernel
theorem dX8_takeBack_9 : decode cX8_takeBack 9 = .ok (.aload_n 0, 1) := by decide +kernel
theorem dX8_takeBack_10 : decode cX8_takeBack 10 = .ok (.getfield 7, 3) := by decide +kernel
theorem dX8_takeBack_13 : decode cX8_takeBack 13 = .ok (.iload_n 1, 1) := by decide +kernel
theorem dX8_takeBack_14 : decode cX8_takeBack 14 = .ok (.aload_n 0, 1) := by decide +kernel
theorem dX8_takeBack_15 : decode cX8_takeBack 15 = .ok (.getfield 13, 3) := by decide +kernel
theorem dX8_takeBack_18 : decode cX8_takeBack 18 = .ok (.iload_n 1, 1) := by decide +kernel
theorem dX8_takeBack_19 : decode cX8_takeBack 19 = .ok (.iaload, 1) := by decide +kernel
theorem dX8_takeBack_20 : decode cX8_takeBack 20 = .ok (.iastore, 1) := by decide +kernel
theorem dX8_takeBack_21 : decode cX8_takeBack 21 = .ok (.iinc 1 1, 3) := by decide +kernel
theorem dX8_takeBack_24 : decode cX8_takeBack 24 = .ok (.goto (-22), 3) := by decide +kernel
theorem dX8_takeBack_27 : decode cX8_takeBack 27 = .ok (.return_, 1) := by decide +kernel
theorem dX8_next_0 : decode cX8_next 0 = .ok (.iload_n 0, 1) := by decide +kernel
theorem dX8_next_1 : decode cX8_next 1 = .ok (.bipush 9, 2) := by decide +kernel
theorem dX8_next_3 : decode cX8_next 3 = .ok (.idiv, 1) := by decide +kernel
theorem dX8_next_4 : decode cX8_next 4 = .ok (.istore_n 2, 1) := by decide +kernel
theorem dX8_next_5 : decode cX8_next 5 = .ok (.iload_n 0, 1) := by decide +kernel
theorem dX8_next_6 : decode cX8_next 6 = .ok (.bipush 9, 2) := by decide +kernel
theorem dX8_next_8 : decode cX8_next 8 = .ok (.irem, 1) := by decide +kernel
theorem dX8_next_9 : decode cX8_next 9 = .ok (.istore_n 3, 1) := by decide +kernel
theorem dX8_next_10 : decode cX8_next 10 = .ok (.iload_n 2, 1) := by decide +kernel
theorem dX8_next_11 : decode cX8_next 11 = .ok (.iconst 2, 1) := by decide +kernel
theorem dX8_next_12 : decode cX8_next 12 = .ok (.irem, 1) := by decide +kernel
theorem dX8_next_13 : decode cX8_next 13 = .ok (.istore 4, 2) := by decide +kernel
theorem dX8_next_15 : decode cX8_next 15 = .ok (.iload_n 1, 1) := by decide +kernel
theorem dX8_next_16 : decode cX8_next 16 = .ok (.tableswitch 85 0 4 #[36, 42, 53, 66, 72], 36) := by decide +kernel
theorem dX8_next_52 : decode cX8_next 52 = .ok (.iinc 3 1, 3) := by decide +kernel
theorem dX8_next_55 : decode cX8_next 55 = .ok (.goto 54, 3) := by decide +kernel
theorem dX8_next_58 : decode cX8_next 58 = .ok (.iinc 2 (-1), 3) := by decide +kernel
theorem dX8_next_61 : decode cX8_next 61 = .ok (.iload_n 3, 1) := by decide +kernel
theorem dX8_next_62 : decode cX8_next 62 = .ok (.iload 4, 2) := by decide +kernel
theorem dX8_next_64 : decode cX8_next 64 = .ok (.iadd, 1) := by decide +kernel
theorem dX8_next_65 : decode cX8_next 65 = .ok (.istore_n 3, 1) := by decide +kernel
theorem dX8_next_66 : decode cX8_next 66 = .ok (.goto 43, 3) := by decide +kernel
theorem dX8_next_69 : decode cX8_next 69 = .ok (.iinc 2 (-1), 3) := by decide +kernel
theorem dX8_next_72 : decode cX8_next 72 = .ok (.iload_n 3, 1) := by decide +kernel
theorem dX8_next_73 : decode cX8_next 73 = .ok (.iload 4, 2) := by decide +kernel
theorem dX8_next_75 : decode cX8_next 75 = .ok (.iconst 1, 1) := by decide +kernel
theorem dX8_next_76 : decode cX8_next 76 = .ok (.isub, 1) := by decide +kernel
theorem dX8_next_77 : decode cX8_next 77 = .ok (.iadd, 1) := by decide +kernel
theorem dX8_next_78 : decode cX8_next 78 = .ok (.istore_n 3, 1) := by decide +kernel
theorem dX8_next_79 : decode cX8_next 79 = .ok (.goto 30, 3) := by decide +kernel
theorem dX8_next_82 : decode cX8_next 82 = .ok (.iinc 3 (-1), 3) := by decide +kernel
theorem dX8_next_85 : decode cX8_next 85 = .ok (.goto 24, 3) := by decide +kernel
theorem dX8_next_88 : decode cX8_next 88 = .ok (.iinc 2 1, 3) := by decide +kernel
theorem dX8_next_91 : decode cX8_next 91 = .ok (.iload_n 3, 1) := by decide +kernel
theorem dX8_next_92 : decode cX8_next 92 = .ok (.iload 4, 2) := by decide +kernel
theorem dX8_next_94 : decode cX8_next 94 = .ok (.iconst 1, 1) := by decide +kernel
theorem dX8_next_95 : decode cX8_next 95 = .ok (.isub, 1) := by decide +kernel
theorem dX8_next_96 : decode cX8_next 96 = .ok (.iadd, 1) := by decide +kernel
theorem dX8_next_97 : decode cX8_next 97 = .ok (.istore_n 3, 1) := by decide +kernel
theorem dX8_next_98 : decode cX8_next 98 = .ok (.goto 11, 3) := by decide +kernel
theorem dX8_next_101 : decode cX8_next 101 = .ok (.iinc 2 1, 3) := by decide +kernel
theorem dX8_next_104 : decode cX8_next 104 = .ok (.iload_n 3, 1) := by decide +kernel
theorem dX8_next_105 : decode cX8_next 105 = .ok (.iload 4, 2) := by decide +kernel
theorem dX8_next_107 : decode cX8_next 107 = .ok (.iadd, 1) := by decide +kernel
theorem dX8_next_108 : decode cX8_next 108 = .ok (.istore_n 3, 1) := by decide +kernel
theorem dX8_next_109 : decode cX8_next 109 = .ok (.iload_n 2, 1) := by decide +kernel
theorem dX8_next_110 : decode cX8_next 110 = .ok (.iconst 0, 1) := by decide +kernel
theorem dX8_next_111 : decode cX8_next 111 = .ok (.bipush 6, 2) := by decide +kernel
theorem dX8_next_113 : decode cX8_next 113 = .ok (.invokestatic 48, 3) := by decide +kernel
theorem dX8_next_116 : decode cX8_next 116 = .ok (.ifCond .eq 22, 3) := by decide +kernel
theorem dX8_next_119 : decode cX8_next 119 = .ok (.iload_n 3, 1) := by decide +kernel
theorem dX8_next_120 : decode cX8_next 120 = .ok (.iconst 0, 1) := by decide +kernel
theorem dX8_next_121 : decode cX8_next 121 = .ok (.bipush 8, 2) := by decide +kernel
theorem dX8_next_123 : decode cX8_next 123 = .ok (.invokestatic 48, 3) := by decide +kernel
theorem dX8_next_126 : decode cX8_next 126 = .ok (.ifCond .eq 12, 3) := by decide +kernel
theorem dX8_next_129 : decode cX8_next 129 = .ok (.bipush 9, 2) := by decide +kernel
theorem dX8_next_131 : decode cX8_next 131 = .ok (.iload_n 2, 1) := by decide +kernel
theorem dX8_next_132 : decode cX8_next 132 = .ok (.imul, 1) := by decide +kernel
theorem dX8_next_133 : decode cX8_next 133 = .ok (.iload_n 3, 1) := by decide +kernel
theorem dX8_next_134 : decode cX8_next 134 = .ok (.iadd, 1) := by decide +kernel
theorem dX8_next_135 : decode cX8_next 135 = .ok (.goto 5, 3) := by decide +kernel
theorem dX8_next_138 : decode cX8_next 138 = .ok (.bipush (-5), 2) := by decide +kernel
theorem dX8_next_140 : decode cX8_next 140 = .ok (.ireturn, 1) := by decide +kernel
theorem dX8_directionTo_0 : decode cX8_directionTo 0 = .ok (.iconst 0, 1) := by decide +kernel
theorem dX8_directionTo_1 : decode cX8_directionTo 1 = .ok (.istore_n 2, 1) := by decide +kernel
theorem dX8_directionTo_2 : decode cX8_directionTo 2 = .ok (.iload_n 2, 1) := by decide +kernel
theorem dX8_directionTo_3 : decode cX8_directionTo 3 = .ok (.bipush 6, 2) := by decide +kernel
theorem dX8_directionTo_5 : decode cX8_directionTo 5 = .ok (.if_icmp .ge 20, 3) := by decide +kernel
theorem dX8_directionTo_8 : decode cX8_directionTo 8 = .ok (.iload_n 0, 1) := by decide +kernel
theorem dX8_directionTo_9 : decode cX8_directionTo 9 = .ok (.iload_n 2, 1) := by decide +kernel
theorem dX8_directionTo_10 : decode cX8_directionTo 10 = .ok (.invokestatic 59, 3) := by decide +kernel
theorem dX8_directionTo_13 : decode cX8_directionTo 13 = .ok (.iload_n 1, 1) := by decide +kernel
theorem dX8_directionTo_14 : decode cX8_directionTo 14 = .ok (.if_icmp .ne 5, 3) := by decide +kernel
theorem dX8_directionTo_17 : decode cX8_directionTo 17 = .ok (.iload_n 2, 1) := by decide +kernel
theorem dX8_directionTo_18 : decode cX8_directionTo 18 = .ok (.ireturn, 1) := by decide +kernel
theorem dX8_directionTo_19 : decode cX8_directionTo 19 = .ok (.iinc 2 1, 3) := by decide +kernel
theorem dX8_directionTo_22 : decode cX8_directionTo 22 = .ok (.goto (-20), 3) := by decide +kernel
theorem dX8_directionTo_25 : decode cX8_directionTo 25 = .ok (.bipush (-5), 2) := by decide +kernel
theorem dX8_directionTo_27 : decode cX8_directionTo 27 = .ok (.ireturn, 1) := by decide +kernel
theorem dX8_hasRiver_0 : decode cX8_hasRiver 0 = .ok (.aload_n 0, 1) := by decide +kernel
theorem dX8_hasRiver_1 : decode cX8_hasRiver 1 = .ok (.getfield 7, 3) := by decide +kernel
theorem dX8_hasRiver_4 : decode cX8_hasRiver 4 = .ok (.bipush 63, 2) := by decide +kernel
theorem dX8_hasRiver_6 : decode cX8_hasRiver 6 = .ok (.iload_n 1, 1) := by decide +kernel
theorem dX8_hasRiver_7 : decode cX8_hasRiver 7 = .ok (.iadd, 1) := by decide +kernel
theorem dX8_hasRiver_8 : decode cX8_hasRiver 8 = .ok (.iaload, 1) := by decide +kernel
theorem dX8_hasRiver_9 : decode cX8_hasRiver 9 = .ok (.iload_n 2, 1) := by decide +kernel
theorem dX8_hasRiver_10 : decode cX8_hasRiver 10 = .ok (.ishr, 1) := by decide +kernel
theorem dX8_hasRiver_11 : decode cX8_hasRiver 11 = .ok (.iconst 1, 1) := by decide +kernel
theorem dX8_hasRiver_12 : decode cX8_hasRiver 12 = .ok (.iand, 1) := by decide +kernel
theorem dX8_hasRiver_13 : decode cX8_hasRiver 13 = .ok (.iconst 1, 1) := by decide +kernel
theorem dX8_hasRiver_14 : decode cX8_hasRiver 14 = .ok (.if_icmp .ne 7, 3) := by decide +kernel
theorem dX8_hasRiver_17 : decode cX8_hasRiver 17 = .ok (.iconst 1, 1) := by decide +kernel
theorem dX8_hasRiver_18 : decode cX8_hasRiver 18 = .ok (.goto 4, 3) := by decide +kernel
theorem dX8_hasRiver_21 : decode cX8_hasRiver 21 = .ok (.iconst 0, 1) := by decide +kernel
theorem dX8_hasRiver_22 : decode cX8_hasRiver 22 = .ok (.ireturn, 1) := by decide +kernel
theorem dX8_unitOn_0 : decode cX8_unitOn 0 = .ok (.iconst 0, 1) := by decide +kernel
theorem dX8_unitOn_1 : decode cX8_unitOn 1 = .ok (.istore_n 2, 1) := by decide +kernel
theorem dX8_unitOn_2 : decode cX8_unitOn 2 = .ok (.iload_n 2, 1) := by decide +kernel
theorem dX8_unitOn_3 : decode cX8_unitOn 3 = .ok (.aload_n 0, 1) := by decide +kernel
theorem dX8_unitOn_4 : decode cX8_unitOn 4 = .ok (.getfield 7, 3) := by decide +kernel
theorem dX8_unitOn_7 : decode cX8_unitOn 7 = .ok (.sipush 192, 3) := by decide +kernel
theorem dX8_unitOn_10 : decode cX8_unitOn 10 = .ok (.iaload, 1) := by decide +kernel
theorem dX8_unitOn_11 : decode cX8_unitOn 11 = .ok (.if_icmp .ge 30, 3) := by decide +kernel
theorem dX8_unitOn_14 : decode cX8_unitOn 14 = .ok (.aload_n 0, 1) := by decide +kernel
theorem dX8_unitOn_15 : decode cX8_unitOn 15 = .ok (.iload_n 2, 1) := by decide +kernel
theorem dX8_unitOn_16 : decode cX8_unitOn 16 = .ok (.iconst 1, 1) := by decide +kernel
theorem dX8_unitOn_17 : decode cX8_unitOn 17 = .ok (.invokevirtual 52, 3) := by decide +kernel
theorem dX8_unitOn_20 : decode cX8_unitOn 20 = .ok (.ifCond .le 15, 3) := by decide +kernel
theorem dX8_unitOn_23 : decode cX8_unitOn 23 = .ok (.aload_n 0, 1) := by decide +kernel
theorem dX8_unitOn_24 : decode cX8_unitOn 24 = .ok (.iload_n 2, 1) := by decide +kernel
theorem dX8_unitOn_25 : decode cX8_unitOn 25 = .ok (.iconst 2, 1) := by decide +kernel
theorem dX8_unitOn_26 : decode cX8_unitOn 26 = .ok (.invokevirtual 52, 3) := by decide +kernel
theorem dX8_unitOn_29 : decode cX8_unitOn 29 = .ok (.iload_n 1, 1) := by decide +kernel
theorem dX8_unitOn_30 : decode cX8_unitOn 30 = .ok (.if_icmp .ne 5, 3) := by decide +kernel
theorem dX8_unitOn_33 : decode cX8_unitOn 33 = .ok (.iload_n 2, 1) := by decide +kernel
theorem dX8_unitOn_34 : decode cX8_unitOn 34 = .ok (.ireturn, 1) := by decide +kernel
theorem dX8_unitOn_35 : decode cX8_unitOn 35 = .ok (.iinc 2 1, 3) := by decide +kernel
theorem dX8_unitOn_38 : decode cX8_unitOn 38 = .ok (.goto (-36), 3) := by decide +kernel
theorem dX8_unitOn_41 : decode cX8_unitOn 41 = .ok (.bipush (-5), 2) := by decide +kernel
theorem dX8_unitOn_43 : decode cX8_unitOn 43 = .ok (.ireturn, 1) := by decide +kernel
theorem dX8_isOn_0 : decode cX8_isOn 0 = .ok (.aload_n 0, 1) := by decide +kernel
theorem dX8_isOn_1 : decode cX8_isOn 1 = .ok (.iload_n 1, 1) := by decide +kernel
theorem dX8_isOn_2 : decode cX8_isOn 2 = .ok (.invokevirtual 62, 3) := by decide +kernel
theorem dX8_isOn_5 : decode cX8_isOn 5 = .ok (.istore_n 3, 1) := by decide +kernel
theorem dX8_isOn_6 : decode cX8_isOn 6 = .ok (.iload_n 3, 1) := by decide +kernel
theorem dX8_isOn_7 : decode cX8_isOn 7 = .ok (.bipush (-5), 2) := by decide +kernel
theorem dX8_isOn_9 : decode cX8_isOn 9 = .ok (.if_icmp .eq 17, 3) := by decide +kernel
theorem dX8_isOn_12 : decode cX8_isOn 12 = .ok (.aload_n 0, 1) := by decide +kernel
theorem dX8_isOn_13 : decode cX8_isOn 13 = .ok (.iload_n 3, 1) := by decide +kernel
theorem dX8_isOn_14 : decode cX8_isOn 14 = .ok (.iconst 0, 1) := by decide +kernel
theorem dX8_isOn_15 : decode cX8_isOn 15 = .ok (.invokevirtual 52, 3) := by decide +kernel
theorem dX8_isOn_18 : decode cX8_isOn 18 = .ok (.iload_n 2, 1) := by decide +kernel
theorem dX8_isOn_19 : decode cX8_isOn 19 = .ok (.if_icmp .ne 7, 3) := by decide +kernel
theorem dX8_isOn_22 : decode cX8_isOn 22 = .ok (.iconst 1, 1) := by decide +kernel
theorem dX8_isOn_23 : decode cX8_isOn 23 = .ok (.goto 4, 3) := by decide +kernel
theorem dX8_isOn_26 : decode cX8_isOn 26 = .ok (.iconst 0, 1) := by decide +kernel
theorem dX8_isOn_27 : decode cX8_isOn 27 = .ok (.ireturn, 1) := by decide +kernel
theorem dX8_isInZone_0 : decode cX8_isInZone 0 = .ok (.iconst 0, 1) := by decide +kernel
theorem dX8_isInZone_1 : decode cX8_isInZone 1 = .ok (.istore_n 3, 1) := by decide +kernel
theorem dX8_isInZone_2 : decode cX8_isInZone 2 = .ok (.iconst 0, 1) := by decide +kernel
theorem dX8_isInZone_3 : decode cX8_isInZone 3 = .ok (.istore 4, 2) := by decide +kernel
theorem dX8_isInZone_5 : decode cX8_isInZone 5 = .ok (.iload 4, 2) := by decide +kernel
theorem dX8_isInZone_7 : decode cX8_isInZone 7 = .ok (.bipush 6, 2) := by decide +kernel
theorem dX8_isInZone_9 : decode cX8_isInZone 9 = .ok (.if_icmp .ge 44, 3) := by decide +kernel
theorem dX8_isInZone_12 : decode cX8_isInZone 12 = .ok (.iload_n 1, 1) := by decide +kernel
theorem dX8_isInZone_13 : decode cX8_isInZone 13 = .ok (.iload 4, 2) := by decide +kernel
theorem dX8_isInZone_15 : decode cX8_isInZone 15 = .ok (.invokestatic 59, 3) := by decide +kernel
theorem dX8_isInZone_18 : decode cX8_isInZone 18 = .ok (.istore 5, 2) := by decide +kernel
theorem dX8_isInZone_20 : decode cX8_isInZone 20 = .ok (.iload_n 3, 1) := by decide +kernel
theorem dX8_isInZone_21 : decode cX8_isInZone 21 = .ok (.ifCond .ne 20, 3) := by decide +kernel
theorem dX8_isInZone_24 : decode cX8_isInZone 24 = .ok (.iload 5, 2) := by decide +kernel
theorem dX8_isInZone_26 : decode cX8_isInZone 26 = .ok (.bipush (-5), 2) := by decide +kernel
theorem dX8_isInZone_28 : decode cX8_isInZone 28 = .ok (.if_icmp .eq 17, 3) := by decide +kernel
theorem dX8_isInZone_31 : decode cX8_isInZone 31 = .ok (.aload_n 0, 1) := by decide +kernel
theorem dX8_isInZone_32 : decode cX8_isInZone 32 = .ok (.iload 5, 2) := by decide +kernel
theorem dX8_isInZone_34 : decode cX8_isInZone 34 = .ok (.iload_n 2, 1) := by decide +kernel
theorem dX8_isInZone_35 : decode cX8_isInZone 35 = .ok (.invokevirtual 66, 3) := by decide +kernel
theorem dX8_isInZone_38 : decode cX8_isInZone 38 = .ok (.ifCond .eq 7, 3) := by decide +kernel
theorem dX8_isInZone_41 : decode cX8_isInZone 41 = .ok (.iconst 1, 1) := by decide +kernel
theorem dX8_isInZone_42 : decode cX8_isInZone 42 = .ok (.goto 4, 3) := by decide +kernel
theorem dX8_isInZone_45 : decode cX8_isInZone 45 = .ok (.iconst 0, 1) := by decide +kernel
theorem dX8_isInZone_46 : decode cX8_isInZone 46 = .ok (.istore_n 3, 1) := by decide +kernel
theorem dX8_isInZone_47 : decode cX8_isInZone 47 = .ok (.iinc 4 1, 3) := by decide +kernel
theorem dX8_isInZone_50 : decode cX8_isInZone 50 = .ok (.goto (-45), 3) := by decide +kernel
theorem dX8_isInZone_53 : decode cX8_isInZone 53 = .ok (.iload_n 3, 1) := by decide +kernel
theorem dX8_isInZone_54 : decode cX8_isInZone 54 = .ok (.ireturn, 1) := by decide +kernel
theorem dX8_laysZone_0 : decode cX8_laysZone 0 = .ok (.iconst 0, 1) := by decide +kernel
theorem dX8_laysZone_1 : decode cX8_laysZone 1 = .ok (.istore_n 2, 1) := by decide +kernel
theorem dX8_laysZone_2 : decode cX8_laysZone 2 = .ok (.iload_n 2, 1) := by decide +kernel
theorem dX8_laysZone_3 : decode cX8_laysZone 3 = .ok (.bipush 63, 2) := by decide +kernel
theorem dX8_laysZone_5 : decode cX8_laysZone 5 = .ok (.if_icmp .ge 21, 3) := by decide +kernel
theorem dX8_laysZone_8 : decode cX8_laysZone 8 = .ok (.aload_n 0, 1) := by decide +kernel
theorem dX8_laysZone_9 : decode cX8_laysZone 9 = .ok (.getfield 35, 3) := by decide +kernel
theorem dX8_laysZone_12 : decode cX8_laysZone 12 = .ok (.iload_n 2, 1) := by decide +kernel
theorem dX8_laysZone_13 : decode cX8_laysZone 13 = .ok (.aload_n 0, 1) := by decide +kernel
theorem dX8_laysZone_14 : decode cX8_laysZone 14 = .ok (.iload_n 2, 1) := by decide +kernel
theorem dX8_laysZone_15 : decode cX8_laysZone 15 = .ok (.iload_n 1, 1) := by decide +kernel
theorem dX8_laysZone_16 : decode cX8_laysZone 16 = .ok (.invokevirtual 70, 3) := by decide +kernel
theorem dX8_laysZone_19 : decode cX8_laysZone 19 = .ok (.bastore, 1) := by decide +kernel
theorem dX8_laysZone_20 : decode cX8_laysZone 20 = .ok (.iinc 2 1, 3) := by decide +kernel
theorem dX8_laysZone_23 : decode cX8_laysZone 23 = .ok (.goto (-21), 3) := by decide +kernel
theorem dX8_laysZone_26 : decode cX8_laysZone 26 = .ok (.return_, 1) := by decide +kernel
theorem dX8_laysDistances_0 : decode cX8_laysDistances 0 = .ok (.iconst 0, 1) := by decide +kernel
theorem dX8_laysDistances_1 : decode cX8_laysDistances 1 = .ok (.istore_n 2, 1) := by decide +kernel
theorem dX8_laysDistances_2 : decode cX8_laysDistances 2 = .ok (.iload_n 2, 1) := by decide +kernel
theorem dX8_laysDistances_3 : decode cX8_laysDistances 3 = .ok (.bipush 63, 2) := by decide +kernel
theorem dX8_laysDistances_5 : decode cX8_laysDistances 5 = .ok (.if_icmp .ge 27, 3) := by decide +kernel
theorem dX8_laysDistances_8 : decode cX8_laysDistances 8 = .ok (.aload_n 0, 1) := by decide +kernel
theorem dX8_laysDistances_9 : decode cX8_laysDistances 9 = .ok (.getfield 32, 3) := by decide +kernel
theorem dX8_laysDistances_12 : decode cX8_laysDistances 12 = .ok (.iload_n 2, 1) := by decide +kernel
theorem dX8_laysDistances_13 : decode cX8_laysDistances 13 = .ok (.iload_n 2, 1) := by decide +kernel
theorem dX8_laysDistances_14 : decode cX8_laysDistances 14 = .ok (.iload_n 1, 1) := by decide +kernel
theorem dX8_laysDistances_15 : decode cX8_laysDistances 15 = .ok (.if_icmp .ne 7, 3) := by decide +kernel
theorem dX8_laysDistances_18 : decode cX8_laysDistances 18 = .ok (.iconst 0, 1) := by decide +kernel
theorem dX8_laysDistances_19 : decode cX8_laysDistances 19 = .ok (.goto 6, 3) := by decide +kernel
theorem dX8_laysDistances_22 : decode cX8_laysDistances 22 = .ok (.sipush 1000, 3) := by decide +kernel
theorem dX8_laysDistances_25 : decode cX8_laysDistances 25 = .ok (.iastore, 1) := by decide +kernel
theorem dX8_laysDistances_26 : decode cX8_laysDistances 26 = .ok (.iinc 2 1, 3) := by decide +kernel
theorem dX8_laysDistances_29 : decode cX8_laysDistances 29 = .ok (.goto (-27), 3) := by decide +kernel
theorem dX8_laysDistances_32 : decode cX8_laysDistances 32 = .ok (.iconst 0, 1) := by decide +kernel
theorem dX8_laysDistances_33 : decode cX8_laysDistances 33 = .ok (.istore_n 2, 1) := by decide +kernel
theorem dX8_laysDistances_34 : decode cX8_laysDistances 34 = .ok (.iload_n 2, 1) := by decide +kernel
theorem dX8_laysDistances_35 : decode cX8_laysDistances 35 = .ok (.bipush 63, 2) := by decide +kernel
theorem dX8_laysDistances_37 : decode cX8_laysDistances 37 = .ok (.if_icmp .ge 87, 3) := by decide +kernel
theorem dX8_laysDistances_40 : decode cX8_laysDistances 40 = .ok (.iconst 0, 1) := by decide +kernel
theorem dX8_laysDistances_41 : decode cX8_laysDistances 41 = .ok (.istore_n 3, 1) := by decide +kernel
theorem dX8_laysDistances_42 : decode cX8_laysDistances 42 = .ok (.iload_n 3, 1) := by decide +kernel
theorem dX8_laysDistances_43 : decode cX8_laysDistances 43 = .ok (.bipush 63, 2) := by decide +kernel
theorem dX8_laysDistances_45 : decode cX8_laysDistances 45 = .ok (.if_icmp .ge 73, 3) := by decide +kernel
theorem dX8_laysDistances_48 : decode cX8_laysDistances 48 = .ok (.iconst 0, 1) := by decide +kernel
theorem dX8_laysDistances_49 : decode cX8_laysDistances 49 = .ok (.istore 4, 2) := by decide +kernel
theorem dX8_laysDistances_51 : decode cX8_laysDistances 51 = .ok (.iload 4, 2) := by decide +kernel
theorem dX8_laysDistances_53 : decode cX8_laysDistances 53 = .ok (.bipush 6, 2) := by decide +kernel
theorem dX8_laysDistances_55 : decode cX8_laysDistances 55 = .ok (.if_icmp .ge 57, 3) := by decide +kernel
theorem dX8_laysDistances_58 : decode cX8_laysDistances 58 = .ok (.aload_n 0, 1) := by decide +kernel
theorem dX8_laysDistances_59 : decode cX8_laysDistances 59 = .ok (.getfield 32, 3) := by decide +kernel
theorem dX8_laysDistances_62 : decode cX8_laysDistances 62 = .ok (.iload_n 3, 1) := by decide +kernel
theorem dX8_laysDistances_63 : decode cX8_laysDistances 63 = .ok (.iaload, 1) := by decide +kernel
theorem dX8_laysDistances_64 : decode cX8_laysDistances 64 = .ok (.iload_n 2, 1) := by decide +kernel
theorem dX8_laysDistances_65 : decode cX8_laysDistances 65 = .ok (.if_icmp .ne 47, 3) := by decide +kernel
theorem dX8_laysDistances_68 : decode cX8_laysDistances 68 = .ok (.iload_n 3, 1) := by decide +kernel
theorem dX8_laysDistances_69 : decode cX8_laysDistances 69 = .ok (.iload 4, 2) := by decide +kernel
theorem dX8_laysDistances_71 : decode cX8_laysDistances 71 = .ok (.invokestatic 59, 3) := by decide +kernel
theorem dX8_laysDistances_74 : decode cX8_laysDistances 74 = .ok (.istore 5, 2) := by decide +kernel
theorem dX8_laysDistances_76 : decode cX8_laysDistances 76 = .ok (.iload 5, 2) := by decide +kernel
theorem dX8_laysDistances_78 : decode cX8_laysDistances 78 = .ok (.bipush (-5), 2) := by decide +kernel
theorem dX8_laysDistances_80 : decode cX8_laysDistances 80 = .ok (.if_icmp .eq 26, 3) := by decide +kernel
theorem dX8_laysDistances_83 : decode cX8_laysDistances 83 = .ok (.aload_n 0, 1) := by decide +kernel
theorem dX8_laysDistances_84 : decode cX8_laysDistances 84 = .ok (.getfield 32, 3) := by decide +kernel
theorem dX8_laysDistances_87 : decode cX8_laysDistances 87 = .ok (.iload 5, 2) := by decide +kernel
theorem dX8_laysDistances_89 : decode cX8_laysDistances 89 = .ok (.iaload, 1) := by decide +kernel
theorem dX8_laysDistances_90 : decode cX8_laysDistances 90 = .ok (.sipush 1000, 3) := by decide +kernel
theorem dX8_laysDistances_93 : decode cX8_laysDistances 93 = .ok (.if_icmp .ne 13, 3) := by decide +kernel
theorem dX8_laysDistances_96 : decode cX8_laysDistances 96 = .ok (.aload_n 0, 1) := by decide +kernel
theorem dX8_laysDistances_97 : decode cX8_laysDistances 97 = .ok (.getfield 32, 3) := by decide +kernel
theorem dX8_laysDistances_100 : decode cX8_laysDistances 100 = .ok (.iload 5, 2) := by decide +kernel
theorem dX8_laysDistances_102 : decode cX8_laysDistances 102 = .ok (.iload_n 2, 1) := by decide +kernel
theorem dX8_laysDistances_103 : decode cX8_laysDistances 103 = .ok (.iconst 1, 1) := by decide +kernel
theorem dX8_laysDistances_104 : decode cX8_laysDistances 104 = .ok (.iadd, 1) := by decide +kernel
theorem dX8_laysDistances_105 : decode cX8_laysDistances 105 = .ok (.iastore, 1) := by decide +kernel
theorem dX8_laysDistances_106 : decode cX8_laysDistances 106 = .ok (.iinc 4 1, 3) := by decide +kernel
theorem dX8_laysDistances_109 : decode cX8_laysDistances 109 = .ok (.goto (-58), 3) := by decide +kernel
theorem dX8_laysDistances_112 : decode cX8_laysDistances 112 = .ok (.iinc 3 1, 3) := by decide +kernel
theorem dX8_laysDistances_115 : decode cX8_laysDistances 115 = .ok (.goto (-73), 3) := by decide +kernel
theorem dX8_laysDistances_118 : decode cX8_laysDistances 118 = .ok (.iinc 2 1, 3) := by decide +kernel
theorem dX8_laysDistances_121 : decode cX8_laysDistances 121 = .ok (.goto (-87), 3) := by decide +kernel
theorem dX8_laysDistances_124 : decode cX8_laysDistances 124 = .ok (.return_, 1) := by decide +kernel
theorem dX8_stands_0 : decode cX8_stands 0 = .ok (.aload_n 0, 1) := by decide +kernel
theorem dX8_stands_1 : decode cX8_stands 1 = .ok (.iload_n 1, 1) := by decide +kernel
theorem dX8_stands_2 : decode cX8_stands 2 = .ok (.iconst 2, 1) := by decide +kernel
theorem dX8_stands_3 : decode cX8_stands 3 = .ok (.iload_n 2, 1) := by decide +kernel
theorem dX8_stands_4 : decode cX8_stands 4 = .ok (.invokevirtual 73, 3) := by decide +kernel
theorem dX8_stands_7 : decode cX8_stands 7 = .ok (.aload_n 0, 1) := by decide +kernel
theorem dX8_stands_8 : decode cX8_stands 8 = .ok (.getfield 7, 3) := by decide +kernel
theorem dX8_stands_11 : decode cX8_stands 11 = .ok (.bipush 126, 2) := by decide +kernel
theorem dX8_stands_13 : decode cX8_stands 13 = .ok (.iload_n 2, 1) := by decide +kernel
theorem dX8_stands_14 : decode cX8_stands 14 = .ok (.iadd, 1) := by decide +kernel
theorem dX8_stands_15 : decode cX8_stands 15 = .ok (.aload_n 0, 1) := by decide +kernel
theorem dX8_stands_16 : decode cX8_stands 16 = .ok (.getfield 7, 3) := by decide +kernel
theorem dX8_stands_19 : decode cX8_stands 19 = .ok (.bipush 126, 2) := by decide +kernel
theorem dX8_stands_21 : decode cX8_stands 21 = .ok (.iload_n 2, 1) := by decide +kernel
theorem dX8_stands_22 : decode cX8_stands 22 = .ok (.iadd, 1) := by decide +kernel
theorem dX8_stands_23 : decode cX8_stands 23 = .ok (.iaload, 1) := by decide +kernel
theorem dX8_stands_24 : decode cX8_stands 24 = .ok (.ifCond .ne 7, 3) := by decide +kernel
theorem dX8_stands_27 : decode cX8_stands 27 = .ok (.iconst 0, 1) := by decide +kernel
theorem dX8_stands_28 : decode cX8_stands 28 = .ok (.goto 11, 3) := by decide +kernel
theorem dX8_stands_31 : decode cX8_stands 31 = .ok (.aload_n 0, 1) := by decide +kernel
theorem dX8_stands_32 : decode cX8_stands 32 = .ok (.iload_n 1, 1) := by decide +kernel
theorem dX8_stands_33 : decode cX8_stands 33 = .ok (.iconst 0, 1) := by decide +kernel
theorem dX8_stands_34 : decode cX8_stands 34 = .ok (.invokevirtual 52, 3) := by decide +kernel
theorem dX8_stands_37 : decode cX8_stands 37 = .ok (.iconst 1, 1) := by decide +kernel
theorem dX8_stands_38 : decode cX8_stands 38 = .ok (.iadd, 1) := by decide +kernel
theorem dX8_stands_39 : decode cX8_stands 39 = .ok (.iastore, 1) := by decide +kernel
theorem dX8_stands_40 : decode cX8_stands 40 = .ok (.return_, 1) := by decide +kernel
theorem dX8_entering_0 : decode cX8_entering 0 = .ok (.aload_n 0, 1) := by decide +kernel
theorem dX8_entering_1 : decode cX8_entering 1 = .ok (.getfield 7, 3) := by decide +kernel
theorem dX8_entering_4 : decode cX8_entering 4 = .ok (.iconst 0, 1) := by decide +kernel
theorem dX8_entering_5 : decode cX8_entering 5 = .ok (.iload_n 3, 1) := by decide +kernel
theorem dX8_entering_6 : decode cX8_entering 6 = .ok (.iadd, 1) := by decide +kernel
theorem dX8_entering_7 : decode cX8_entering 7 = .ok (.iaload, 1) := by decide +kernel
theorem dX8_entering_8 : decode cX8_entering 8 = .ok (.ifCond .ne 7, 3) := by decide +kernel
theorem dX8_entering_11 : decode cX8_entering 11 = .ok (.iconst 1, 1) := by decide +kernel
theorem dX8_entering_12 : decode cX8_entering 12 = .ok (.goto 4, 3) := by decide +kernel
theorem dX8_entering_15 : decode cX8_entering 15 = .ok (.iconst 2, 1) := by decide +kernel
theorem dX8_entering_16 : decode cX8_entering 16 = .ok (.aload_n 0, 1) := by decide +kernel
theorem dX8_entering_17 : decode cX8_entering 17 = .ok (.iload_n 1, 1) := by decide +kernel
theorem dX8_entering_18 : decode cX8_entering 18 = .ok (.iload_n 2, 1) := by decide +kernel
theorem dX8_entering_19 : decode cX8_entering 19 = .ok (.invokevirtual 77, 3) := by decide +kernel
theorem dX8_entering_22 : decode cX8_entering 22 = .ok (.ifCond .eq 7, 3) := by decide +kernel
theorem dX8_entering_25 : decode cX8_entering 25 = .ok (.iconst 1, 1) := by decide +kernel
theorem dX8_entering_26 : decode cX8_entering 26 = .ok (.goto 4, 3) := by decide +kernel
theorem dX8_entering_29 : decode cX8_entering 29 = .ok (.iconst 0, 1) := by decide +kernel
theorem dX8_entering_30 : decode cX8_entering 30 = .ok (.iadd, 1) := by decide +kernel
theorem dX8_entering_31 : decode cX8_entering 31 = .ok (.ireturn, 1) := by decide +kernel
theorem dX8_laysWays_0 : decode cX8_laysWays 0 = .ok (.iconst 1, 1) := by decide +kernel
theorem dX8_laysWays_1 : decode cX8_laysWays 1 = .ok (.aload_n 0, 1) := by decide +kernel
theorem dX8_laysWays_2 : decode cX8_laysWays 2 = .ok (.iload_n 1, 1) := by decide +kernel
theorem dX8_laysWays_3 : decode cX8_laysWays 3 = .ok (.iconst 0, 1) := by decide +kernel
theorem dX8_laysWays_4 : decode cX8_laysWays 4 = .ok (.invokevirtual 52, 3) := by decide +kernel
theorem dX8_laysWays_7 : decode cX8_laysWays 7 = .ok (.isub, 1) := by decide +kernel
theorem dX8_laysWays_8 : decode cX8_laysWays 8 = .ok (.istore_n 2, 1) := by decide +kernel
theorem dX8_laysWays_9 : decode cX8_laysWays 9 = .ok (.aload_n 0, 1) := by decide +kernel
theorem dX8_laysWays_10 : decode cX8_laysWays 10 = .ok (.iload_n 1, 1) := by decide +kernel
theorem dX8_laysWays_11 : decode cX8_laysWays 11 = .ok (.iconst 2, 1) := by decide +kernel
theorem dX8_laysWays_12 : decode cX8_laysWays 12 = .ok (.invokevirtual 52, 3) := by decide +kernel
theorem dX8_laysWays_15 : decode cX8_laysWays 15 = .ok (.istore_n 3, 1) := by decide +kernel
theorem dX8_laysWays_16 : decode cX8_laysWays 16 = .ok (.aload_n 0, 1) := by decide +kernel
theorem dX8_laysWays_17 : decode cX8_laysWays 17 = .ok (.iload_n 2, 1) := by decide +kernel
theorem dX8_laysWays_18 : decode cX8_laysWays 18 = .ok (.invokevirtual 80, 3) := by decide +kernel
theorem dX8_laysWays_21 : decode cX8_laysWays 21 = .ok (.iconst 0, 1) := by decide +kernel
theorem dX8_laysWays_22 : decode cX8_laysWays 22 = .ok (.istore 4, 2) := by decide +kernel
theorem dX8_laysWays_24 : decode cX8_laysWays 24 = .ok (.iload 4, 2) := by decide +kernel
theorem dX8_laysWays_26 : decode cX8_laysWays 26 = .ok (.bipush 63, 2) := by decide +kernel
theorem dX8_laysWays_28 : decode cX8_laysWays 28 = .ok (.if_icmp .ge 37, 3) := by decide +kernel
theorem dX8_laysWays_31 : decode cX8_laysWays 31 = .ok (.aload_n 0, 1) := by decide +kernel
theorem dX8_laysWays_32 : decode cX8_laysWays 32 = .ok (.getfield 25, 3) := by decide +kernel
theorem dX8_laysWays_35 : decode cX8_laysWays 35 = .ok (.iload 4, 2) := by decide +kernel
theorem dX8_laysWays_37 : decode cX8_laysWays 37 = .ok (.iload 4, 2) := by decide +kernel
theorem dX8_laysWays_39 : decode cX8_laysWays 39 = .ok (.iload_n 3, 1) := by decide +kernel
theorem dX8_laysWays_40 : decode cX8_laysWays 40 = .ok (.if_icmp .ne 7, 3) := by decide +kernel
theorem dX8_laysWays_43 : decode cX8_laysWays 43 = .ok (.iconst 0, 1) := by decide +kernel
theorem dX8_laysWays_44 : decode cX8_laysWays 44 = .ok (.goto 6, 3) := by decide +kernel
theorem dX8_laysWays_47 : decode cX8_laysWays 47 = .ok (.sipush 1000, 3) := by decide +kernel
theorem dX8_laysWays_50 : decode cX8_laysWays 50 = .ok (.iastore, 1) := by decide +kernel
theorem dX8_laysWays_51 : decode cX8_laysWays 51 = .ok (.aload_n 0, 1) := by decide +kernel
theorem dX8_laysWays_52 : decode cX8_laysWays 52 = .ok (.getfield 28, 3) := by decide +kernel
theorem dX8_laysWays_55 : decode cX8_laysWays 55 = .ok (.iload 4, 2) := by decide +kernel
theorem dX8_laysWays_57 : decode cX8_laysWays 57 = .ok (.iconst 0, 1) := by decide +kernel
theorem dX8_laysWays_58 : decode cX8_laysWays 58 = .ok (.bastore, 1) := by decide +kernel
theorem dX8_laysWays_59 : decode cX8_laysWays 59 = .ok (.iinc 4 1, 3) := by decide +kernel
theorem dX8_laysWays_62 : decode cX8_laysWays 62 = .ok (.goto (-38), 3) := by decide +kernel
theorem dX8_laysWays_65 : decode cX8_laysWays 65 = .ok (.iload_n 3, 1) := by decide +kernel
theorem dX8_laysWays_66 : decode cX8_laysWays 66 = .ok (.istore 4, 2) := by decide +kernel
theorem dX8_laysWays_68 : decode cX8_laysWays 68 = .ok (.iload 4, 2) := by decide +kernel
theorem dX8_laysWays_70 : decode cX8_laysWays 70 = .ok (.bipush (-5), 2) := by decide +kernel
theorem dX8_laysWays_72 : decode cX8_laysWays 72 = .ok (.if_icmp .eq 129, 3) := by decide +kernel
theorem dX8_laysWays_75 : decode cX8_laysWays 75 = .ok (.aload_n 0, 1) := by decide +kernel
theorem dX8_laysWays_76 : decode cX8_laysWays 76 = .ok (.getfield 28, 3) := by decide +kernel
theorem dX8_laysWays_79 : decode cX8_laysWays 79 = .ok (.iload 4, 2) := by decide +kernel
theorem dX8_laysWays_81 : decode cX8_laysWays 81 = .ok (.iconst 1, 1) := by decide +kernel
theorem dX8_laysWays_82 : decode cX8_laysWays 82 = .ok (.bastore, 1) := by decide +kernel
theorem dX8_laysWays_83 : decode cX8_laysWays 83 = .ok (.iconst 0, 1) := by decide +kernel
theorem dX8_laysWays_84 : decode cX8_laysWays 84 = .ok (.istore 5, 2) := by decide +kernel
theorem dX8_laysWays_86 : decode cX8_laysWays 86 = .ok (.iload 5, 2) := by decide +kernel
theorem dX8_laysWays_88 : decode cX8_laysWays 88 = .ok (.bipush 6, 2) := by decide +kernel
theorem dX8_laysWays_90 : decode cX8_laysWays 90 = .ok (.if_icmp .ge 102, 3) := by decide +kernel
theorem dX8_laysWays_93 : decode cX8_laysWays 93 = .ok (.iload 4, 2) := by decide +kernel
theorem dX8_laysWays_95 : decode cX8_laysWays 95 = .ok (.iload_n 3, 1) := by decide +kernel
theorem dX8_laysWays_96 : decode cX8_laysWays 96 = .ok (.if_icmp .eq 13, 3) := by decide +kernel
theorem dX8_laysWays_99 : decode cX8_laysWays 99 = .ok (.aload_n 0, 1) := by decide +kernel
theorem dX8_laysWays_100 : decode cX8_laysWays 100 = .ok (.getfield 35, 3) := by decide +kernel
theorem dX8_laysWays_103 : decode cX8_laysWays 103 = .ok (.iload 4, 2) := by decide +kernel
theorem dX8_laysWays_105 : decode cX8_laysWays 105 = .ok (.baload, 1) := by decide +kernel
theorem dX8_laysWays_106 : decode cX8_laysWays 106 = .ok (.ifCond .ne 86, 3) := by decide +kernel
theorem dX8_laysWays_109 : decode cX8_laysWays 109 = .ok (.iload 4, 2) := by decide +kernel
theorem dX8_laysWays_111 : decode cX8_laysWays 111 = .ok (.iload 5, 2) := by decide +kernel
theorem dX8_laysWays_113 : decode cX8_laysWays 113 = .ok (.invokestatic 59, 3) := by decide +kernel
theorem dX8_laysWays_116 : decode cX8_laysWays 116 = .ok (.istore 6, 2) := by decide +kernel
theorem dX8_laysWays_118 : decode cX8_laysWays 118 = .ok (.iload 6, 2) := by decide +kernel
theorem dX8_laysWays_120 : decode cX8_laysWays 120 = .ok (.bipush (-5), 2) := by decide +kernel
theorem dX8_laysWays_122 : decode cX8_laysWays 122 = .ok (.if_icmp .eq 64, 3) := by decide +kernel
theorem dX8_laysWays_125 : decode cX8_laysWays 125 = .ok (.aload_n 0, 1) := by decide +kernel
theorem dX8_laysWays_126 : decode cX8_laysWays 126 = .ok (.iload 6, 2) := by decide +kernel
theorem dX8_laysWays_128 : decode cX8_laysWays 128 = .ok (.iload_n 2, 1) := by decide +kernel
theorem dX8_laysWays_129 : decode cX8_laysWays 129 = .ok (.invokevirtual 66, 3) := by decide +kernel
theorem dX8_laysWays_132 : decode cX8_laysWays 132 = .ok (.ifCond .ne 54, 3) := by decide +kernel
theorem dX8_laysWays_135 : decode cX8_laysWays 135 = .ok (.aload_n 0, 1) := by decide +kernel
theorem dX8_laysWays_136 : decode cX8_laysWays 136 = .ok (.getfield 25, 3) := by decide +kernel
theorem dX8_laysWays_139 : decode cX8_laysWays 139 = .ok (.iload 4, 2) := by decide +kernel
theorem dX8_laysWays_141 : decode cX8_laysWays 141 = .ok (.iaload, 1) := by decide +kernel
theorem dX8_laysWays_142 : decode cX8_laysWays 142 = .ok (.aload_n 0, 1) := by decide +kernel
theorem dX8_laysWays_143 : decode cX8_laysWays 143 = .ok (.iload 4, 2) := by decide +kernel
theorem dX8_laysWays_145 : decode cX8_laysWays 145 = .ok (.iload 5, 2) := by decide +kernel
theorem dX8_laysWays_147 : decode cX8_laysWays 147 = .ok (.iload 6, 2) := by decide +kernel
theorem dX8_laysWays_149 : decode cX8_laysWays 149 = .ok (.invokevirtual 84, 3) := by decide +kernel
theorem dX8_laysWays_152 : decode cX8_laysWays 152 = .ok (.iadd, 1) := by decide +kernel
theorem dX8_laysWays_153 : decode cX8_laysWays 153 = .ok (.istore 7, 2) := by decide +kernel
theorem dX8_laysWays_155 : decode cX8_laysWays 155 = .ok (.aload_n 0, 1) := by decide +kernel
theorem dX8_laysWays_156 : decode cX8_laysWays 156 = .ok (.getfield 25, 3) := by decide +kernel
theorem dX8_laysWays_159 : decode cX8_laysWays 159 = .ok (.iload 6, 2) := by decide +kernel
theorem dX8_laysWays_161 : decode cX8_laysWays 161 = .ok (.iload 7, 2) := by decide +kernel
theorem dX8_laysWays_163 : decode cX8_laysWays 163 = .ok (.aload_n 0, 1) := by decide +kernel
theorem dX8_laysWays_164 : decode cX8_laysWays 164 = .ok (.getfield 25, 3) := by decide +kernel
theorem dX8_laysWays_167 : decode cX8_laysWays 167 = .ok (.iload 6, 2) := by decide +kernel
theorem dX8_laysWays_169 : decode cX8_laysWays 169 = .ok (.iaload, 1) := by decide +kernel
theorem dX8_laysWays_170 : decode cX8_laysWays 170 = .ok (.if_icmp .ge 8, 3) := by decide +kernel
theorem dX8_laysWays_173 : decode cX8_laysWays 173 = .ok (.iload 7, 2) := by decide +kernel
theorem dX8_laysWays_175 : decode cX8_laysWays 175 = .ok (.goto 10, 3) := by decide +kernel
theorem dX8_laysWays_178 : decode cX8_laysWays 178 = .ok (.aload_n 0, 1) := by decide +kernel
theorem dX8_laysWays_179 : decode cX8_laysWays 179 = .ok (.getfield 25, 3) := by decide +kernel
theorem dX8_laysWays_182 : decode cX8_laysWays 182 = .ok (.iload 6, 2) := by decide +kernel
theorem dX8_laysWays_184 : decode cX8_laysWays 184 = .ok (.iaload, 1) := by decide +kernel
theorem dX8_laysWays_185 : decode cX8_laysWays 185 = .ok (.iastore, 1) := by decide +kernel
theorem dX8_laysWays_186 : decode cX8_laysWays 186 = .ok (.iinc 5 1, 3) := by decide +kernel
theorem dX8_laysWays_189 : decode cX8_laysWays 189 = .ok (.goto (-103), 3) := by decide +kernel
theorem dX8_laysWays_192 : decode cX8_laysWays 192 = .ok (.aload_n 0, 1) := by decide +kernel
theorem dX8_laysWays_193 : decode cX8_laysWays 193 = .ok (.invokevirtual 88, 3) := by decide +kernel
theorem dX8_laysWays_196 : decode cX8_laysWays 196 = .ok (.istore 4, 2) := by decide +kernel
theorem dX8_laysWays_198 : decode cX8_laysWays 198 = .ok (.goto (-130), 3) := by decide +kernel
theorem dX8_laysWays_201 : decode cX8_laysWays 201 = .ok (.return_, 1) := by decide +kernel
theorem dX8_cheapest_0 : decode cX8_cheapest 0 = .ok (.bipush (-5), 2) := by decide +kernel
theorem dX8_cheapest_2 : decode cX8_cheapest 2 = .ok (.istore_n 1, 1) := by decide +kernel
theorem dX8_cheapest_3 : decode cX8_cheapest 3 = .ok (.iconst 0, 1) := by decide +kernel
theorem dX8_cheapest_4 : decode cX8_cheapest 4 = .ok (.istore_n 2, 1) := by decide +kernel
theorem dX8_cheapest_5 : decode cX8_cheapest 5 = .ok (.iload_n 2, 1) := by decide +kernel
theorem dX8_cheapest_6 : decode cX8_cheapest 6 = .ok (.bipush 63, 2) := by decide +kernel
theorem dX8_cheapest_8 : decode cX8_cheapest 8 = .ok (.if_icmp .ge 57, 3) := by decide +kernel
theorem dX8_cheapest_11 : decode cX8_cheapest 11 = .ok (.aload_n 0, 1) := by decide +kernel
theorem dX8_cheapest_12 : decode cX8_cheapest 12 = .ok (.getfield 28, 3) := by decide +kernel
theorem dX8_cheapest_15 : decode cX8_cheapest 15 = .ok (.iload_n 2, 1) := by decide +kernel
theorem dX8_cheapest_16 : decode cX8_cheapest 16 = .ok (.baload, 1) := by decide +kernel
theorem dX8_cheapest_17 : decode cX8_cheapest 17 = .ok (.ifCond .ne 40, 3) := by decide +kernel
theorem dX8_cheapest_20 : decode cX8_cheapest 20 = .ok (.aload_n 0, 1) := by decide +kernel
theorem dX8_cheapest_21 : decode cX8_cheapest 21 = .ok (.getfield 25, 3) := by decide +kernel
theorem dX8_cheapest_24 : decode cX8_cheapest 24 = .ok (.iload_n 2, 1) := by decide +kernel
theorem dX8_cheapest_25 : decode cX8_cheapest 25 = .ok (.iaload, 1) := by decide +kernel
theorem dX8_cheapest_26 : decode cX8_cheapest 26 = .ok (.sipush 1000, 3) := by decide +kernel
theorem dX8_cheapest_29 : decode cX8_cheapest 29 = .ok (.if_icmp .ge 28, 3) := by decide +kernel
theorem dX8_cheapest_32 : decode cX8_cheapest 32 = .ok (.iload_n 1, 1) := by decide +kernel
theorem dX8_cheapest_33 : decode cX8_cheapest 33 = .ok (.bipush (-5), 2) := by decide +kernel
theorem dX8_cheapest_35 : decode cX8_cheapest 35 = .ok (.if_icmp .eq 18, 3) := by decide +kernel
theorem dX8_cheapest_38 : decode cX8_cheapest 38 = .ok (.aload_n 0, 1) := by decide +kernel
theorem dX8_cheapest_39 : decode cX8_cheapest 39 = .ok (.getfield 25, 3) := by decide +kernel
theorem dX8_cheapest_42 : decode cX8_cheapest 42 = .ok (.iload_n 2, 1) := by decide +kernel
theorem dX8_cheapest_43 : decode cX8_cheapest 43 = .ok (.iaload, 1) := by decide +kernel
theorem dX8_cheapest_44 : decode cX8_cheapest 44 = .ok (.aload_n 0, 1) := by decide +kernel
theorem dX8_cheapest_45 : decode cX8_cheapest 45 = .ok (.getfield 25, 3) := by decide +kernel
theorem dX8_cheapest_48 : decode cX8_cheapest 48 = .ok (.iload_n 1, 1) := by decide +kernel
theorem dX8_cheapest_49 : decode cX8_cheapest 49 = .ok (.iaload, 1) := by decide +kernel
theorem dX8_cheapest_50 : decode cX8_cheapest 50 = .ok (.if_icmp .ge 7, 3) := by decide +kernel
theorem dX8_cheapest_53 : decode cX8_cheapest 53 = .ok (.iload_n 2, 1) := by decide +kernel
theorem dX8_cheapest_54 : decode cX8_cheapest 54 = .ok (.goto 4, 3) := by decide +kernel
theorem dX8_cheapest_57 : decode cX8_cheapest 57 = .ok (.iload_n 1, 1) := by decide +kernel
theorem dX8_cheapest_58 : decode cX8_cheapest 58 = .ok (.istore_n 1, 1) := by decide +kernel
theorem dX8_cheapest_59 : decode cX8_cheapest 59 = .ok (.iinc 2 1, 3) := by decide +kernel
theorem dX8_cheapest_62 : decode cX8_cheapest 62 = .ok (.goto (-57), 3) := by decide +kernel
theorem dX8_cheapest_65 : decode cX8_cheapest 65 = .ok (.iload_n 1, 1) := by decide +kernel
theorem dX8_cheapest_66 : decode cX8_cheapest 66 = .ok (.ireturn, 1) := by decide +kernel
theorem dX8_canReach_0 : decode cX8_canReach 0 = .ok (.aload_n 0, 1) := by decide +kernel
theorem dX8_canReach_1 : decode cX8_canReach 1 = .ok (.getfield 25, 3) := by decide +kernel
theorem dX8_canReach_4 : decode cX8_canReach 4 = .ok (.iload_n 2, 1) := by decide +kernel
theorem dX8_canReach_5 : decode cX8_canReach 5 = .ok (.iaload, 1) := by decide +kernel
theorem dX8_canReach_6 : decode cX8_canReach 6 = .ok (.aload_n 0, 1) := by decide +kernel
theorem dX8_canReach_7 : decode cX8_canReach 7 = .ok (.iload_n 1, 1) := by decide +kernel
theorem dX8_canReach_8 : decode cX8_canReach 8 = .ok (.iconst 3, 1) := by decide +kernel
theorem dX8_canReach_9 : decode cX8_canReach 9 = .ok (.invokevirtual 52, 3) := by decide +kernel
theorem dX8_canReach_12 : decode cX8_canReach 12 = .ok (.if_icmp .gt 17, 3) := by decide +kernel
theorem dX8_canReach_15 : decode cX8_canReach 15 = .ok (.aload_n 0, 1) := by decide +kernel
theorem dX8_canReach_16 : decode cX8_canReach 16 = .ok (.iload_n 2, 1) := by decide +kernel
theorem dX8_canReach_17 : decode cX8_canReach 17 = .ok (.invokevirtual 62, 3) := by decide +kernel
theorem dX8_canReach_20 : decode cX8_canReach 20 = .ok (.bipush (-5), 2) := by decide +kernel
theorem dX8_canReach_22 : decode cX8_canReach 22 = .ok (.if_icmp .ne 7, 3) := by decide +kernel
theorem dX8_canReach_25 : decode cX8_canReach 25 = .ok (.iconst 1, 1) := by decide +kernel
theorem dX8_canReach_26 : decode cX8_canReach 26 = .ok (.goto 4, 3) := by decide +kernel
theorem dX8_canReach_29 : decode cX8_canReach 29 = .ok (.iconst 0, 1) := by decide +kernel
theorem dX8_canReach_30 : decode cX8_canReach 30 = .ok (.ireturn, 1) := by decide +kernel
theorem dX8_isSource_0 : decode cX8_isSource 0 = .ok (.aload_n 0, 1) := by decide +kernel
theorem dX8_isSource_1 : decode cX8_isSource 1 = .ok (.getfield 7, 3) := by decide +kernel
theorem dX8_isSource_4 : decode cX8_isSource 4 = .ok (.sipush 189, 3) := by decide +kernel
theorem dX8_isSource_7 : decode cX8_isSource 7 = .ok (.iload_n 2, 1) := by decide +kernel
theorem dX8_isSource_8 : decode cX8_isSource 8 = .ok (.iadd, 1) := by decide +kernel
theorem dX8_isSource_9 : decode cX8_isSource 9 = .ok (.iaload, 1) := by decide +kernel
theorem dX8_isSource_10 : decode cX8_isSource 10 = .ok (.iload_n 1, 1) := by decide +kernel
theorem dX8_isSource_11 : decode cX8_isSource 11 = .ok (.if_icmp .eq 18, 3) := by decide +kernel
theorem dX8_isSource_14 : decode cX8_isSource 14 = .ok (.aload_n 0, 1) := by decide +kernel
theorem dX8_isSource_15 : decode cX8_isSource 15 = .ok (.getfield 7, 3) := by decide +kernel
theorem dX8_isSource_18 : decode cX8_isSource 18 = .ok (.bipush 126, 2) := by decide +kernel
theorem dX8_isSource_20 : decode cX8_isSource 20 = .ok (.iload_n 1, 1) := by decide +kernel
theorem dX8_isSource_21 : decode cX8_isSource 21 = .ok (.iadd, 1) := by decide +kernel
theorem dX8_isSource_22 : decode cX8_isSource 22 = .ok (.iaload, 1) := by decide +kernel
theorem dX8_isSource_23 : decode cX8_isSource 23 = .ok (.iload_n 2, 1) := by decide +kernel
theorem dX8_isSource_24 : decode cX8_isSource 24 = .ok (.iconst 1, 1) := by decide +kernel
theorem dX8_isSource_25 : decode cX8_isSource 25 = .ok (.iadd, 1) := by decide +kernel
theorem dX8_isSource_26 : decode cX8_isSource 26 = .ok (.if_icmp .ne 7, 3) := by decide +kernel
theorem dX8_isSource_29 : decode cX8_isSource 29 = .ok (.iconst 1, 1) := by decide +kernel
theorem dX8_isSource_30 : decode cX8_isSource 30 = .ok (.goto 4, 3) := by decide +kernel
theorem dX8_isSource_33 : decode cX8_isSource 33 = .ok (.iconst 0, 1) := by decide +kernel
theorem dX8_isSource_34 : decode cX8_isSource 34 = .ok (.ireturn, 1) := by decide +kernel
theorem dX8_isFree_0 : decode cX8_isFree 0 = .ok (.aload_n 0, 1) := by decide +kernel
theorem dX8_isFree_1 : decode cX8_isFree 1 = .ok (.iload_n 1, 1) := by decide +kernel
theorem dX8_isFree_2 : decode cX8_isFree 2 = .ok (.iconst 1, 1) := by decide +kernel
theorem dX8_isFree_3 : decode cX8_isFree 3 = .ok (.iload_n 2, 1) := by decide +kernel
theorem dX8_isFree_4 : decode cX8_isFree 4 = .ok (.isub, 1) := by decide +kernel
theorem dX8_isFree_5 : decode cX8_isFree 5 = .ok (.invokevirtual 66, 3) := by decide +kernel
theorem dX8_isFree_8 : decode cX8_isFree 8 = .ok (.ifCond .ne 25, 3) := by decide +kernel
theorem dX8_isFree_11 : decode cX8_isFree 11 = .ok (.aload_n 0, 1) := by decide +kernel
theorem dX8_isFree_12 : decode cX8_isFree 12 = .ok (.getfield 35, 3) := by decide +kernel
theorem dX8_isFree_15 : decode cX8_isFree 15 = .ok (.iload_n 1, 1) := by decide +kernel
theorem dX8_isFree_16 : decode cX8_isFree 16 = .ok (.baload, 1) := by decide +kernel
theorem dX8_isFree_17 : decode cX8_isFree 17 = .ok (.ifCond .eq 12, 3) := by decide +kernel
theorem dX8_isFree_20 : decode cX8_isFree 20 = .ok (.aload_n 0, 1) := by decide +kernel
theorem dX8_isFree_21 : decode cX8_isFree 21 = .ok (.iload_n 1, 1) := by decide +kernel
theorem dX8_isFree_22 : decode cX8_isFree 22 = .ok (.iload_n 2, 1) := by decide +kernel
theorem dX8_isFree_23 : decode cX8_isFree 23 = .ok (.invokevirtual 66, 3) := by decide +kernel
theorem dX8_isFree_26 : decode cX8_isFree 26 = .ok (.ifCond .eq 7, 3) := by decide +kernel
theorem dX8_isFree_29 : decode cX8_isFree 29 = .ok (.iconst 1, 1) := by decide +kernel
theorem dX8_isFree_30 : decode cX8_isFree 30 = .ok (.goto 4, 3) := by decide +kernel
theorem dX8_isFree_33 : decode cX8_isFree 33 = .ok (.iconst 0, 1) := by decide +kernel
theorem dX8_isFree_34 : decode cX8_isFree 34 = .ok (.ireturn, 1) := by decide +kernel
theorem dX8_toSource_0 : decode cX8_toSource 0 = .ok (.aload_n 0, 1) := by decide +kernel
theorem dX8_toSource_1 : decode cX8_toSource 1 = .ok (.iload_n 1, 1) := by decide +kernel
theorem dX8_toSource_2 : decode cX8_toSource 2 = .ok (.iconst 0, 1) := by decide +kernel
theorem dX8_toSource_3 : decode cX8_toSource 3 = .ok (.invokevirtual 52, 3) := by decide +kernel
theorem dX8_toSource_6 : decode cX8_toSource 6 = .ok (.istore_n 2, 1) := by decide +kernel
theorem dX8_toSource_7 : decode cX8_toSource 7 = .ok (.aload_n 0, 1) := by decide +kernel
theorem dX8_toSource_8 : decode cX8_toSource 8 = .ok (.iconst 1, 1) := by decide +kernel
theorem dX8_toSource_9 : decode cX8_toSource 9 = .ok (.iload_n 2, 1) := by decide +kernel
theorem dX8_toSource_10 : decode cX8_toSource 10 = .ok (.isub, 1) := by decide +kernel
theorem dX8_toSource_11 : decode cX8_toSource 11 = .ok (.invokevirtual 80, 3) := by decide +kernel
theorem dX8_toSource_14 : decode cX8_toSource 14 = .ok (.iconst 0, 1) := by decide +kernel
theorem dX8_toSource_15 : decode cX8_toSource 15 = .ok (.istore_n 3, 1) := by decide +kernel
theorem dX8_toSource_16 : decode cX8_toSource 16 = .ok (.iload_n 3, 1) := by decide +kernel
theorem dX8_toSource_17 : decode cX8_toSource 17 = .ok (.bipush 63, 2) := by decide +kernel
theorem dX8_toSource_19 : decode cX8_toSource 19 = .ok (.if_icmp .ge 32, 3) := by decide +kernel
theorem dX8_toSource_22 : decode cX8_toSource 22 = .ok (.aload_n 0, 1) := by decide +kernel
theorem dX8_toSource_23 : decode cX8_toSource 23 = .ok (.getfield 32, 3) := by decide +kernel
theorem dX8_toSource_26 : decode cX8_toSource 26 = .ok (.iload_n 3, 1) := by decide +kernel
theorem dX8_toSource_27 : decode cX8_toSource 27 = .ok (.iload_n 3, 1) := by decide +kernel
theorem dX8_toSource_28 : decode cX8_toSource 28 = .ok (.aload_n 0, 1) := by decide +kernel
theorem dX8_toSource_29 : decode cX8_toSource 29 = .ok (.iload_n 1, 1) := by decide +kernel
theorem dX8_toSource_30 : decode cX8_toSource 30 = .ok (.iconst 2, 1) := by decide +kernel
theorem dX8_toSource_31 : decode cX8_toSource 31 = .ok (.invokevirtual 52, 3) := by decide +kernel
theorem dX8_toSource_34 : decode cX8_toSource 34 = .ok (.if_icmp .ne 7, 3) := by decide +kernel
theorem dX8_toSource_37 : decode cX8_toSource 37 = .ok (.iconst 0, 1) := by decide +kernel
theorem dX8_toSource_38 : decode cX8_toSource 38 = .ok (.goto 6, 3) := by decide +kernel
theorem dX8_toSource_41 : decode cX8_toSource 41 = .ok (.sipush 1000, 3) := by decide +kernel
theorem dX8_toSource_44 : decode cX8_toSource 44 = .ok (.iastore, 1) := by decide +kernel
theorem dX8_toSource_45 : decode cX8_toSource 45 = .ok (.iinc 3 1, 3) := by decide +kernel
theorem dX8_toSource_48 : decode cX8_toSource 48 = .ok (.goto (-32), 3) := by decide +kernel
theorem dX8_toSource_51 : decode cX8_toSource 51 = .ok (.iconst 0, 1) := by decide +kernel
theorem dX8_toSource_52 : decode cX8_toSource 52 = .ok (.istore_n 3, 1) := by decide +kernel
theorem dX8_toSource_53 : decode cX8_toSource 53 = .ok (.iload_n 3, 1) := by decide +kernel
theorem dX8_toSource_54 : decode cX8_toSource 54 = .ok (.bipush 7, 2) := by decide +kernel
theorem dX8_toSource_56 : decode cX8_toSource 56 = .ok (.if_icmp .ge 140, 3) := by decide +kernel
theorem dX8_toSource_59 : decode cX8_toSource 59 = .ok (.iconst 0, 1) := by decide +kernel
theorem dX8_toSource_60 : decode cX8_toSource 60 = .ok (.istore 4, 2) := by decide +kernel
theorem dX8_toSource_62 : decode cX8_toSource 62 = .ok (.iload 4, 2) := by decide +kernel
theorem dX8_toSource_64 : decode cX8_toSource 64 = .ok (.bipush 63, 2) := by decide +kernel
theorem dX8_toSource_66 : decode cX8_toSource 66 = .ok (.if_icmp .ge 32, 3) := by decide +kernel
theorem dX8_toSource_69 : decode cX8_toSource 69 = .ok (.aload_n 0, 1) := by decide +kernel
theorem dX8_toSource_70 : decode cX8_toSource 70 = .ok (.getfield 32, 3) := by decide +kernel
theorem dX8_toSource_73 : decode cX8_toSource 73 = .ok (.iload 4, 2) := by decide +kernel
theorem dX8_toSource_75 : decode cX8_toSource 75 = .ok (.iaload, 1) := by decide +kernel
theorem dX8_toSource_76 : decode cX8_toSource 76 = .ok (.iload_n 3, 1) := by decide +kernel
theorem dX8_toSource_77 : decode cX8_toSource 77 = .ok (.if_icmp .ne 15, 3) := by decide +kernel
theorem dX8_toSource_80 : decode cX8_toSource 80 = .ok (.aload_n 0, 1) := by decide +kernel
theorem dX8_toSource_81 : decode cX8_toSource 81 = .ok (.iload 4, 2) := by decide +kernel
theorem dX8_toSource_83 : decode cX8_toSource 83 = .ok (.iload_n 2, 1) := by decide +kernel
theorem dX8_toSource_84 : decode cX8_toSource 84 = .ok (.invokevirtual 92, 3) := by decide +kernel
theorem dX8_toSource_87 : decode cX8_toSource 87 = .ok (.ifCond .eq 5, 3) := by decide +kernel
theorem dX8_toSource_90 : decode cX8_toSource 90 = .ok (.iload_n 3, 1) := by decide +kernel
theorem dX8_toSource_91 : decode cX8_toSource 91 = .ok (.ireturn, 1) := by decide +kernel
theorem dX8_toSource_92 : decode cX8_toSource 92 = .ok (.iinc 4 1, 3) := by decide +kernel
theorem dX8_toSource_95 : decode cX8_toSource 95 = .ok (.goto (-33), 3) := by decide +kernel
theorem dX8_toSource_98 : decode cX8_toSource 98 = .ok (.iconst 0, 1) := by decide +kernel
theorem dX8_toSource_99 : decode cX8_toSource 99 = .ok (.istore 4, 2) := by decide +kernel
theorem dX8_toSource_101 : decode cX8_toSource 101 = .ok (.iload 4, 2) := by decide +kernel
theorem dX8_toSource_103 : decode cX8_toSource 103 = .ok (.bipush 63, 2) := by decide +kernel
theorem dX8_toSource_105 : decode cX8_toSource 105 = .ok (.if_icmp .ge 85, 3) := by decide +kernel
theorem dX8_toSource_108 : decode cX8_toSource 108 = .ok (.iconst 0, 1) := by decide +kernel
theorem dX8_toSource_109 : decode cX8_toSource 109 = .ok (.istore 5, 2) := by decide +kernel
theorem dX8_toSource_111 : decode cX8_toSource 111 = .ok (.iload 5, 2) := by decide +kernel
theorem dX8_toSource_113 : decode cX8_toSource 113 = .ok (.bipush 6, 2) := by decide +kernel
theorem dX8_toSource_115 : decode cX8_toSource 115 = .ok (.if_icmp .ge 69, 3) := by decide +kernel
theorem dX8_toSource_118 : decode cX8_toSource 118 = .ok (.aload_n 0, 1) := by decide +kernel
theorem dX8_toSource_119 : decode cX8_toSource 119 = .ok (.getfield 32, 3) := by decide +kernel
theorem dX8_toSource_122 : decode cX8_toSource 122 = .ok (.iload 4, 2) := by decide +kernel
theorem dX8_toSource_124 : decode cX8_toSource 124 = .ok (.iaload, 1) := by decide +kernel
theorem dX8_toSource_125 : decode cX8_toSource 125 = .ok (.iload_n 3, 1) := by decide +kernel
theorem dX8_toSource_126 : decode cX8_toSource 126 = .ok (.if_icmp .ne 58, 3) := by decide +kernel
theorem dX8_toSource_129 : decode cX8_toSource 129 = .ok (.iload 4, 2) := by decide +kernel
theorem dX8_toSource_131 : decode cX8_toSource 131 = .ok (.iload 5, 2) := by decide +kernel
theorem dX8_toSource_133 : decode cX8_toSource 133 = .ok (.invokestatic 59, 3) := by decide +kernel
theorem dX8_toSource_136 : decode cX8_toSource 136 = .ok (.istore 6, 2) := by decide +kernel
theorem dX8_toSource_138 : decode cX8_toSource 138 = .ok (.iload 6, 2) := by decide +kernel
theorem dX8_toSource_140 : decode cX8_toSource 140 = .ok (.bipush (-5), 2) := by decide +kernel
theorem dX8_toSource_142 : decode cX8_toSource 142 = .ok (.if_icmp .eq 36, 3) := by decide +kernel
theorem dX8_toSource_145 : decode cX8_toSource 145 = .ok (.aload_n 0, 1) := by decide +kernel
theorem dX8_toSource_146 : decode cX8_toSource 146 = .ok (.getfield 32, 3) := by decide +kernel
theorem dX8_toSource_149 : decode cX8_toSource 149 = .ok (.iload 6, 2) := by decide +kernel
theorem dX8_toSource_151 : decode cX8_toSource 151 = .ok (.iaload, 1) := by decide +kernel
theorem dX8_toSource_152 : decode cX8_toSource 152 = .ok (.sipush 1000, 3) := by decide +kernel
theorem dX8_toSource_155 : decode cX8_toSource 155 = .ok (.if_icmp .ne 23, 3) := by decide +kernel
theorem dX8_toSource_158 : decode cX8_toSource 158 = .ok (.aload_n 0, 1) := by decide +kernel
theorem dX8_toSource_159 : decode cX8_toSource 159 = .ok (.iload 6, 2) := by decide +kernel
theorem dX8_toSource_161 : decode cX8_toSource 161 = .ok (.iload_n 2, 1) := by decide +kernel
theorem dX8_toSource_162 : decode cX8_toSource 162 = .ok (.invokevirtual 95, 3) := by decide +kernel
theorem dX8_toSource_165 : decode cX8_toSource 165 = .ok (.ifCond .eq 13, 3) := by decide +kernel
theorem dX8_toSource_168 : decode cX8_toSource 168 = .ok (.aload_n 0, 1) := by decide +kernel
theorem dX8_toSource_169 : decode cX8_toSource 169 = .ok (.getfield 32, 3) := by decide +kernel
theorem dX8_toSource_172 : decode cX8_toSource 172 = .ok (.iload 6, 2) := by decide +kernel
theorem dX8_toSource_174 : decode cX8_toSource 174 = .ok (.iload_n 3, 1) := by decide +kernel
theorem dX8_toSource_175 : decode cX8_toSource 175 = .ok (.iconst 1, 1) := by decide +kernel
theorem dX8_toSource_176 : decode cX8_toSource 176 = .ok (.iadd, 1) := by decide +kernel
theorem dX8_toSource_177 : decode cX8_toSource 177 = .ok (.iastore, 1) := by decide +kernel
theorem dX8_toSource_178 : decode cX8_toSource 178 = .ok (.iinc 5 1, 3) := by decide +kernel
theorem dX8_toSource_181 : decode cX8_toSource 181 = .ok (.goto (-70), 3) := by decide +kernel
theorem dX8_toSource_184 : decode cX8_toSource 184 = .ok (.iinc 4 1, 3) := by decide +kernel
theorem dX8_toSource_187 : decode cX8_toSource 187 = .ok (.goto (-86), 3) := by decide +kernel
theorem dX8_toSource_190 : decode cX8_toSource 190 = .ok (.iinc 3 1, 3) := by decide +kernel
theorem dX8_toSource_193 : decode cX8_toSource 193 = .ok (.goto (-140), 3) := by decide +kernel
theorem dX8_toSource_196 : decode cX8_toSource 196 = .ok (.bipush (-5), 2) := by decide +kernel
theorem dX8_toSource_198 : decode cX8_toSource 198 = .ok (.ireturn, 1) := by decide +kernel
theorem dX8_isSupplied_0 : decode cX8_isSupplied 0 = .ok (.aload_n 0, 1) := by decide +kernel
theorem dX8_isSupplied_1 : decode cX8_isSupplied 1 = .ok (.iload_n 1, 1) := by decide +kernel
theorem dX8_isSupplied_2 : decode cX8_isSupplied 2 = .ok (.invokevirtual 98, 3) := by decide +kernel
theorem dX8_isSupplied_5 : decode cX8_isSupplied 5 = .ok (.bipush (-5), 2) := by decide +kernel
theorem dX8_isSupplied_7 : decode cX8_isSupplied 7 = .ok (.if_icmp .eq 7, 3) := by decide +kernel
theorem dX8_isSupplied_10 : decode cX8_isSupplied 10 = .ok (.iconst 1, 1) := by decide +kernel
theorem dX8_isSupplied_11 : decode cX8_isSupplied 11 = .ok (.goto 4, 3) := by decide +kernel
theorem dX8_isSupplied_14 : decode cX8_isSupplied 14 = .ok (.iconst 0, 1) := by decide +kernel
theorem dX8_isSupplied_15 : decode cX8_isSupplied 15 = .ok (.ireturn, 1) := by decide +kernel
theorem dX8_sees_0 : decode cX8_sees 0 = .ok (.aload_n 0, 1) := by decide +kernel
theorem dX8_sees_1 : decode cX8_sees 1 = .ok (.iload_n 2, 1) := by decide +kernel
theorem dX8_sees_2 : decode cX8_sees 2 = .ok (.invokevirtual 101, 3) := by decide +kernel
theorem dX8_sees_5 : decode cX8_sees 5 = .ok (.aload_n 0, 1) := by decide +kernel
theorem dX8_sees_6 : decode cX8_sees 6 = .ok (.getfield 7, 3) := by decide +kernel
theorem dX8_sees_9 : decode cX8_sees 9 = .ok (.iconst 0, 1) := by decide +kernel
theorem dX8_sees_10 : decode cX8_sees 10 = .ok (.iload_n 2, 1) := by decide +kernel
theorem dX8_sees_11 : decode cX8_sees 11 = .ok (.iadd, 1) := by decide +kernel
theorem dX8_sees_12 : decode cX8_sees 12 = .ok (.iaload, 1) := by decide +kernel
theorem dX8_sees_13 : decode cX8_sees 13 = .ok (.iconst 1, 1) := by decide +kernel
theorem dX8_sees_14 : decode cX8_sees 14 = .ok (.if_icmp .ne 7, 3) := by decide +kernel
theorem dX8_sees_17 : decode cX8_sees 17 = .ok (.iconst 1, 1) := by decide +kernel
theorem dX8_sees_18 : decode cX8_sees 18 = .ok (.goto 4, 3) := by decide +kernel
theorem dX8_sees_21 : decode cX8_sees 21 = .ok (.iconst 2, 1) := by decide +kernel
theorem dX8_sees_22 : decode cX8_sees 22 = .ok (.istore_n 3, 1) := by decide +kernel
theorem dX8_sees_23 : decode cX8_sees 23 = .ok (.iconst 0, 1) := by decide +kernel
theorem dX8_sees_24 : decode cX8_sees 24 = .ok (.istore 4, 2) := by decide +kernel
theorem dX8_sees_26 : decode cX8_sees 26 = .ok (.iconst 0, 1) := by decide +kernel
theorem dX8_sees_27 : decode cX8_sees 27 = .ok (.istore 5, 2) := by decide +kernel
theorem dX8_sees_29 : decode cX8_sees 29 = .ok (.iload 5, 2) := by decide +kernel
theorem dX8_sees_31 : decode cX8_sees 31 = .ok (.aload_n 0, 1) := by decide +kernel
theorem dX8_sees_32 : decode cX8_sees 32 = .ok (.getfield 7, 3) := by decide +kernel
theorem dX8_sees_35 : decode cX8_sees 35 = .ok (.sipush 192, 3) := by decide +kernel
theorem dX8_sees_38 : decode cX8_sees 38 = .ok (.iaload, 1) := by decide +kernel
theorem dX8_sees_39 : decode cX8_sees 39 = .ok (.if_icmp .ge 58, 3) := by decide +kernel
theorem dX8_sees_42 : decode cX8_sees 42 = .ok (.iload 4, 2) := by decide +kernel
theorem dX8_sees_44 : decode cX8_sees 44 = .ok (.ifCond .ne 40, 3) := by decide +kernel
theorem dX8_sees_47 : decode cX8_sees 47 = .ok (.aload_n 0, 1) := by decide +kernel
theorem dX8_sees_48 : decode cX8_sees 48 = .ok (.iload 5, 2) := by decide +kernel
theorem dX8_sees_50 : decode cX8_sees 50 = .ok (.iconst 1, 1) := by decide +kernel
theorem dX8_sees_51 : decode cX8_sees 51 = .ok (.invokevirtual 52, 3) := by decide +kernel
theorem dX8_sees_54 : decode cX8_sees 54 = .ok (.ifCond .le 34, 3) := by decide +kernel
theorem dX8_sees_57 : decode cX8_sees 57 = .ok (.aload_n 0, 1) := by decide +kernel
theorem dX8_sees_58 : decode cX8_sees 58 = .ok (.iload 5, 2) := by decide +kernel
theorem dX8_sees_60 : decode cX8_sees 60 = .ok (.iconst 0, 1) := by decide +kernel
theorem dX8_sees_61 : decode cX8_sees 61 = .ok (.invokevirtual 52, 3) := by decide +kernel
theorem dX8_sees_64 : decode cX8_sees 64 = .ok (.iload_n 1, 1) := by decide +kernel
theorem dX8_sees_65 : decode cX8_sees 65 = .ok (.if_icmp .ne 23, 3) := by decide +kernel
theorem dX8_sees_68 : decode cX8_sees 68 = .ok (.aload_n 0, 1) := by decide +kernel
theorem dX8_sees_69 : decode cX8_sees 69 = .ok (.getfield 32, 3) := by decide +kernel
theorem dX8_sees_72 : decode cX8_sees 72 = .ok (.aload_n 0, 1) := by decide +kernel
theorem dX8_sees_73 : decode cX8_sees 73 = .ok (.iload 5, 2) := by decide +kernel
theorem dX8_sees_75 : decode cX8_sees 75 = .ok (.iconst 2, 1) := by decide +kernel
theorem dX8_sees_76 : decode cX8_sees 76 = .ok (.invokevirtual 52, 3) := by decide +kernel
theorem dX8_sees_79 : decode cX8_sees 79 = .ok (.iaload, 1) := by decide +kernel
theorem dX8_sees_80 : decode cX8_sees 80 = .ok (.iload_n 3, 1) := by decide +kernel
theorem dX8_sees_81 : decode cX8_sees 81 = .ok (.if_icmp .gt 7, 3) := by decide +kernel
theorem dX8_sees_84 : decode cX8_sees 84 = .ok (.iconst 1, 1) := by decide +kernel
theorem dX8_sees_85 : decode cX8_sees 85 = .ok (.goto 4, 3) := by decide +kernel
theorem dX8_sees_88 : decode cX8_sees 88 = .ok (.iconst 0, 1) := by decide +kernel
theorem dX8_sees_89 : decode cX8_sees 89 = .ok (.istore 4, 2) := by decide +kernel
theorem dX8_sees_91 : decode cX8_sees 91 = .ok (.iinc 5 1, 3) := by decide +kernel
theorem dX8_sees_94 : decode cX8_sees 94 = .ok (.goto (-65), 3) := by decide +kernel
theorem dX8_sees_97 : decode cX8_sees 97 = .ok (.iconst 0, 1) := by decide +kernel
theorem dX8_sees_98 : decode cX8_sees 98 = .ok (.istore 5, 2) := by decide +kernel
theorem dX8_sees_100 : decode cX8_sees 100 = .ok (.iload 5, 2) := by decide +kernel
theorem dX8_sees_102 : decode cX8_sees 102 = .ok (.bipush 63, 2) := by decide +kernel
theorem dX8_sees_104 : decode cX8_sees 104 = .ok (.if_icmp .ge 48, 3) := by decide +kernel
theorem dX8_sees_107 : decode cX8_sees 107 = .ok (.iload 4, 2) := by decide +kernel
theorem dX8_sees_109 : decode cX8_sees 109 = .ok (.ifCond .ne 30, 3) := by decide +kernel
theorem dX8_sees_112 : decode cX8_sees 112 = .ok (.aload_n 0, 1) := by decide +kernel
theorem dX8_sees_113 : decode cX8_sees 113 = .ok (.getfield 7, 3) := by decide +kernel
theorem dX8_sees_116 : decode cX8_sees 116 = .ok (.bipush 126, 2) := by decide +kernel
theorem dX8_sees_118 : decode cX8_sees 118 = .ok (.iload 5, 2) := by decide +kernel
theorem dX8_sees_120 : decode cX8_sees 120 = .ok (.iadd, 1) := by decide +kernel
theorem dX8_sees_121 : decode cX8_sees 121 = .ok (.iaload, 1) := by decide +kernel
theorem dX8_sees_122 : decode cX8_sees 122 = .ok (.iload_n 1, 1) := by decide +kernel
theorem dX8_sees_123 : decode cX8_sees 123 = .ok (.iconst 1, 1) := by decide +kernel
theorem dX8_sees_124 : decode cX8_sees 124 = .ok (.iadd, 1) := by decide +kernel
theorem dX8_sees_125 : decode cX8_sees 125 = .ok (.if_icmp .ne 18, 3) := by decide +kernel
theorem dX8_sees_128 : decode cX8_sees 128 = .ok (.aload_n 0, 1) := by decide +kernel
theorem dX8_sees_129 : decode cX8_sees 129 = .ok (.getfield 32, 3) := by decide +kernel
theorem dX8_sees_132 : decode cX8_sees 132 = .ok (.iload 5, 2) := by decide +kernel
theorem dX8_sees_134 : decode cX8_sees 134 = .ok (.iaload, 1) := by decide +kernel
theorem dX8_sees_135 : decode cX8_sees 135 = .ok (.iconst 1, 1) := by decide +kernel
theorem dX8_sees_136 : decode cX8_sees 136 = .ok (.if_icmp .gt 7, 3) := by decide +kernel
theorem dX8_sees_139 : decode cX8_sees 139 = .ok (.iconst 1, 1) := by decide +kernel
theorem dX8_sees_140 : decode cX8_sees 140 = .ok (.goto 4, 3) := by decide +kernel
theorem dX8_sees_143 : decode cX8_sees 143 = .ok (.iconst 0, 1) := by decide +kernel
theorem dX8_sees_144 : decode cX8_sees 144 = .ok (.istore 4, 2) := by decide +kernel
theorem dX8_sees_146 : decode cX8_sees 146 = .ok (.iinc 5 1, 3) := by decide +kernel
theorem dX8_sees_149 : decode cX8_sees 149 = .ok (.goto (-49), 3) := by decide +kernel
theorem dX8_sees_152 : decode cX8_sees 152 = .ok (.iload 4, 2) := by decide +kernel
theorem dX8_sees_154 : decode cX8_sees 154 = .ok (.ireturn, 1) := by decide +kernel
theorem dX8_power_0 : decode cX8_power 0 = .ok (.iconst 2, 1) := by decide +kernel
theorem dX8_power_1 : decode cX8_power 1 = .ok (.aload_n 0, 1) := by decide +kernel
theorem dX8_power_2 : decode cX8_power 2 = .ok (.iload_n 1, 1) := by decide +kernel
theorem dX8_power_3 : decode cX8_power 3 = .ok (.iconst 1, 1) := by decide +kernel
theorem dX8_power_4 : decode cX8_power 4 = .ok (.invokevirtual 52, 3) := by decide +kernel
theorem dX8_power_7 : decode cX8_power 7 = .ok (.imul, 1) := by decide +kernel
theorem dX8_power_8 : decode cX8_power 8 = .ok (.istore_n 3, 1) := by decide +kernel
theorem dX8_power_9 : decode cX8_power 9 = .ok (.aload_n 0, 1) := by decide +kernel
theorem dX8_power_10 : decode cX8_power 10 = .ok (.iload_n 1, 1) := by decide +kernel
theorem dX8_power_11 : decode cX8_power 11 = .ok (.invokevirtual 104, 3) := by decide +kernel
theorem dX8_power_14 : decode cX8_power 14 = .ok (.ifCond .eq 7, 3) := by decide +kernel
theorem dX8_power_17 : decode cX8_power 17 = .ok (.iload_n 3, 1) := by decide +kernel
theorem dX8_power_18 : decode cX8_power 18 = .ok (.goto 6, 3) := by decide +kernel
theorem dX8_power_21 : decode cX8_power 21 = .ok (.iload_n 3, 1) := by decide +kernel
theorem dX8_power_22 : decode cX8_power 22 = .ok (.iconst 2, 1) := by decide +kernel
theorem dX8_power_23 : decode cX8_power 23 = .ok (.idiv, 1) := by decide +kernel
theorem dX8_power_24 : decode cX8_power 24 = .ok (.istore_n 3, 1) := by decide +kernel
theorem dX8_power_25 : decode cX8_power 25 = .ok (.aload_n 0, 1) := by decide +kernel
theorem dX8_power_26 : decode cX8_power 26 = .ok (.aload_n 0, 1) := by decide +kernel
theorem dX8_power_27 : decode cX8_power 27 = .ok (.iload_n 1, 1) := by decide +kernel
theorem dX8_power_28 : decode cX8_power 28 = .ok (.iconst 2, 1) := by decide +kernel
theorem dX8_power_29 : decode cX8_power 29 = .ok (.invokevirtual 52, 3) := by decide +kernel
theorem dX8_power_32 : decode cX8_power 32 = .ok (.aload_n 0, 1) := by decide +kernel
theorem dX8_power_33 : decode cX8_power 33 = .ok (.iload_n 1, 1) := by decide +kernel
theorem dX8_power_34 : decode cX8_power 34 = .ok (.iconst 2, 1) := by decide +kernel
theorem dX8_power_35 : decode cX8_power 35 = .ok (.invokevirtual 52, 3) := by decide +kernel
theorem dX8_power_38 : decode cX8_power 38 = .ok (.iload_n 2, 1) := by decide +kernel
theorem dX8_power_39 : decode cX8_power 39 = .ok (.invokestatic 108, 3) := by decide +kernel
theorem dX8_power_42 : decode cX8_power 42 = .ok (.invokevirtual 77, 3) := by decide +kernel
theorem dX8_power_45 : decode cX8_power 45 = .ok (.ifCond .eq 9, 3) := by decide +kernel
theorem dX8_power_48 : decode cX8_power 48 = .ok (.iload_n 3, 1) := by decide +kernel
theorem dX8_power_49 : decode cX8_power 49 = .ok (.iconst 2, 1) := by decide +kernel
theorem dX8_power_50 : decode cX8_power 50 = .ok (.idiv, 1) := by decide +kernel
theorem dX8_power_51 : decode cX8_power 51 = .ok (.goto 4, 3) := by decide +kernel
theorem dX8_power_54 : decode cX8_power 54 = .ok (.iload_n 3, 1) := by decide +kernel
theorem dX8_power_55 : decode cX8_power 55 = .ok (.ireturn, 1) := by decide +kernel
theorem dX8_defence_0 : decode cX8_defence 0 = .ok (.aload_n 0, 1) := by decide +kernel
theorem dX8_defence_1 : decode cX8_defence 1 = .ok (.iload_n 1, 1) := by decide +kernel
theorem dX8_defence_2 : decode cX8_defence 2 = .ok (.iconst 2, 1) := by decide +kernel
theorem dX8_defence_3 : decode cX8_defence 3 = .ok (.invokevirtual 52, 3) := by decide +kernel
theorem dX8_defence_6 : decode cX8_defence 6 = .ok (.istore_n 2, 1) := by decide +kernel
theorem dX8_defence_7 : decode cX8_defence 7 = .ok (.iconst 2, 1) := by decide +kernel
theorem dX8_defence_8 : decode cX8_defence 8 = .ok (.aload_n 0, 1) := by decide +kernel
theorem dX8_defence_9 : decode cX8_defence 9 = .ok (.iload_n 1, 1) := by decide +kernel
theorem dX8_defence_10 : decode cX8_defence 10 = .ok (.iconst 1, 1) := by decide +kernel
theorem dX8_defence_11 : decode cX8_defence 11 = .ok (.invokevirtual 52, 3) := by decide +kernel
theorem dX8_defence_14 : decode cX8_defence 14 = .ok (.imul, 1) := by decide +kernel
theorem dX8_defence_15 : decode cX8_defence 15 = .ok (.istore_n 3, 1) := by decide +kernel
theorem dX8_defence_16 : decode cX8_defence 16 = .ok (.aload_n 0, 1) := by decide +kernel
theorem dX8_defence_17 : decode cX8_defence 17 = .ok (.getfield 7, 3) := by decide +kernel
theorem dX8_defence_20 : decode cX8_defence 20 = .ok (.bipush 126, 2) := by decide +kernel
theorem dX8_defence_22 : decode cX8_defence 22 = .ok (.iload_n 2, 1) := by decide +kernel
theorem dX8_defence_23 : decode cX8_defence 23 = .ok (.iadd, 1) := by decide +kernel
theorem dX8_defence_24 : decode cX8_defence 24 = .ok (.iaload, 1) := by decide +kernel
theorem dX8_defence_25 : decode cX8_defence 25 = .ok (.ifCond .le 9, 3) := by decide +kernel
theorem dX8_defence_28 : decode cX8_defence 28 = .ok (.iconst 2, 1) := by decide +kernel
theorem dX8_defence_29 : decode cX8_defence 29 = .ok (.iload_n 3, 1) := by decide +kernel
theorem dX8_defence_30 : decode cX8_defence 30 = .ok (.imul, 1) := by decide +kernel
theorem dX8_defence_31 : decode cX8_defence 31 = .ok (.goto 4, 3) := by decide +kernel
theorem dX8_defence_34 : decode cX8_defence 34 = .ok (.iload_n 3, 1) := by decide +kernel
theorem dX8_defence_35 : decode cX8_defence 35 = .ok (.istore_n 3, 1) := by decide +kernel
theorem dX8_defence_36 : decode cX8_defence 36 = .ok (.iload_n 3, 1) := by decide +kernel
theorem dX8_defence_37 : decode cX8_defence 37 = .ok (.aload_n 0, 1) := by decide +kernel
theorem dX8_defence_38 : decode cX8_defence 38 = .ok (.getfield 7, 3) := by decide +kernel
theorem dX8_defence_41 : decode cX8_defence 41 = .ok (.iconst 0, 1) := by decide +kernel
theorem dX8_defence_42 : decode cX8_defence 42 = .ok (.iload_n 2, 1) := by decide +kernel
theorem dX8_defence_43 : decode cX8_defence 43 = .ok (.iadd, 1) := by decide +kernel
theorem dX8_defence_44 : decode cX8_defence 44 = .ok (.iaload, 1) := by decide +kernel
theorem dX8_defence_45 : decode cX8_defence 45 = .ok (.ifCond .le 7, 3) := by decide +kernel
theorem dX8_defence_48 : decode cX8_defence 48 = .ok (.iconst 2, 1) := by decide +kernel
theorem dX8_defence_49 : decode cX8_defence 49 = .ok (.goto 4, 3) := by decide +kernel
theorem dX8_defence_52 : decode cX8_defence 52 = .ok (.iconst 0, 1) := by decide +kernel
theorem dX8_defence_53 : decode cX8_defence 53 = .ok (.iadd, 1) := by decide +kernel
theorem dX8_defence_54 : decode cX8_defence 54 = .ok (.istore_n 3, 1) := by decide +kernel
theorem dX8_defence_55 : decode cX8_defence 55 = .ok (.aload_n 0, 1) := by decide +kernel
theorem dX8_defence_56 : decode cX8_defence 56 = .ok (.iload_n 1, 1) := by decide +kernel
theorem dX8_defence_57 : decode cX8_defence 57 = .ok (.invokevirtual 104, 3) := by decide +kernel
theorem dX8_defence_60 : decode cX8_defence 60 = .ok (.ifCond .eq 7, 3) := by decide +kernel
theorem dX8_defence_63 : decode cX8_defence 63 = .ok (.iload_n 3, 1) := by decide +kernel
theorem dX8_defence_64 : decode cX8_defence 64 = .ok (.goto 6, 3) := by decide +kernel
theorem dX8_defence_67 : decode cX8_defence 67 = .ok (.iload_n 3, 1) := by decide +kernel
theorem dX8_defence_68 : decode cX8_defence 68 = .ok (.iconst 2, 1) := by decide +kernel
theorem dX8_defence_69 : decode cX8_defence 69 = .ok (.idiv, 1) := by decide +kernel
theorem dX8_defence_70 : decode cX8_defence 70 = .ok (.ireturn, 1) := by decide +kernel
theorem dX8_weakened_0 : decode cX8_weakened 0 = .ok (.aload_n 0, 1) := by decide +kernel
theorem dX8_weakened_1 : decode cX8_weakened 1 = .ok (.iload_n 1, 1) := by decide +kernel
theorem dX8_weakened_2 : decode cX8_weakened 2 = .ok (.iconst 1, 1) := by decide +kernel
theorem dX8_weakened_3 : decode cX8_weakened 3 = .ok (.invokevirtual 52, 3) := by decide +kernel
theorem dX8_weakened_6 : decode cX8_weakened 6 = .ok (.iconst 1, 1) := by decide +kernel
theorem dX8_weakened_7 : decode cX8_weakened 7 = .ok (.isub, 1) := by decide +kernel
theorem dX8_weakened_8 : decode cX8_weakened 8 = .ok (.iload_n 2, 1) := by decide +kernel
theorem dX8_weakened_9 : decode cX8_weakened 9 = .ok (.iconst 4, 1) := by decide +kernel
theorem dX8_weakened_10 : decode cX8_weakened 10 = .ok (.idiv, 1) := by decide +kernel
theorem dX8_weakened_11 : decode cX8_weakened 11 = .ok (.isub, 1) := by decide +kernel
theorem dX8_weakened_12 : decode cX8_weakened 12 = .ok (.istore_n 3, 1) := by decide +kernel
theorem dX8_weakened_13 : decode cX8_weakened 13 = .ok (.iload_n 3, 1) := by decide +kernel
theorem dX8_weakened_14 : decode cX8_weakened 14 = .ok (.ifCond .ge 7, 3) := by decide +kernel
theorem dX8_weakened_17 : decode cX8_weakened 17 = .ok (.iconst 0, 1) := by decide +kernel
theorem dX8_weakened_18 : decode cX8_weakened 18 = .ok (.goto 4, 3) := by decide +kernel
theorem dX8_weakened_21 : decode cX8_weakened 21 = .ok (.iload_n 3, 1) := by decide +kernel
theorem dX8_weakened_22 : decode cX8_weakened 22 = .ok (.ireturn, 1) := by decide +kernel
theorem dX8_canFight_0 : decode cX8_canFight 0 = .ok (.aload_n 0, 1) := by decide +kernel
theorem dX8_canFight_1 : decode cX8_canFight 1 = .ok (.iload_n 2, 1) := by decide +kernel
theorem dX8_canFight_2 : decode cX8_canFight 2 = .ok (.iconst 1, 1) := by decide +kernel
theorem dX8_canFight_3 : decode cX8_canFight 3 = .ok (.aload_n 0, 1) := by decide +kernel
theorem dX8_canFight_4 : decode cX8_canFight 4 = .ok (.iload_n 1, 1) := by decide +kernel
theorem dX8_canFight_5 : decode cX8_canFight 5 = .ok (.iconst 0, 1) := by decide +kernel
theorem dX8_canFight_6 : decode cX8_canFight 6 = .ok (.invokevirtual 52, 3) := by decide +kernel
theorem dX8_canFight_9 : decode cX8_canFight 9 = .ok (.isub, 1) := by decide +kernel
theorem dX8_canFight_10 : decode cX8_canFight 10 = .ok (.invokevirtual 66, 3) := by decide +kernel
theorem dX8_canFight_13 : decode cX8_canFight 13 = .ok (.ifCond .eq 22, 3) := by decide +kernel
theorem dX8_canFight_16 : decode cX8_canFight 16 = .ok (.aload_n 0, 1) := by decide +kernel
theorem dX8_canFight_17 : decode cX8_canFight 17 = .ok (.iload_n 1, 1) := by decide +kernel
theorem dX8_canFight_18 : decode cX8_canFight 18 = .ok (.iconst 2, 1) := by decide +kernel
theorem dX8_canFight_19 : decode cX8_canFight 19 = .ok (.invokevirtual 52, 3) := by decide +kernel
theorem dX8_canFight_22 : decode cX8_canFight 22 = .ok (.iload_n 2, 1) := by decide +kernel
theorem dX8_canFight_23 : decode cX8_canFight 23 = .ok (.invokestatic 108, 3) := by decide +kernel
theorem dX8_canFight_26 : decode cX8_canFight 26 = .ok (.bipush (-5), 2) := by decide +kernel
theorem dX8_canFight_28 : decode cX8_canFight 28 = .ok (.if_icmp .eq 7, 3) := by decide +kernel
theorem dX8_canFight_31 : decode cX8_canFight 31 = .ok (.iconst 1, 1) := by decide +kernel
theorem dX8_canFight_32 : decode cX8_canFight 32 = .ok (.goto 4, 3) := by decide +kernel
theorem dX8_canFight_35 : decode cX8_canFight 35 = .ok (.iconst 0, 1) := by decide +kernel
theorem dX8_canFight_36 : decode cX8_canFight 36 = .ok (.ireturn, 1) := by decide +kernel
theorem dX8_fights_0 : decode cX8_fights 0 = .ok (.aload_n 0, 1) := by decide +kernel
theorem dX8_fights_1 : decode cX8_fights 1 = .ok (.iload_n 2, 1) := by decide +kernel
theorem dX8_fights_2 : decode cX8_fights 2 = .ok (.invokevirtual 62, 3) := by decide +kernel
theorem dX8_fights_5 : decode cX8_fights 5 = .ok (.istore_n 3, 1) := by decide +kernel
theorem dX8_fights_6 : decode cX8_fights 6 = .ok (.aload_n 0, 1) := by decide +kernel
theorem dX8_fights_7 : decode cX8_fights 7 = .ok (.iload_n 1, 1) := by decide +kernel
theorem dX8_fights_8 : decode cX8_fights 8 = .ok (.iload_n 2, 1) := by decide +kernel
theorem dX8_fights_9 : decode cX8_fights 9 = .ok (.invokevirtual 111, 3) := by decide +kernel
theorem dX8_fights_12 : decode cX8_fights 12 = .ok (.istore 4, 2) := by decide +kernel
theorem dX8_fights_14 : decode cX8_fights 14 = .ok (.aload_n 0, 1) := by decide +kernel
theorem dX8_fights_15 : decode cX8_fights 15 = .ok (.iload_n 3, 1) := by decide +kernel
theorem dX8_fights_16 : decode cX8_fights 16 = .ok (.invokevirtual 114, 3) := by decide +kernel
theorem dX8_fights_19 : decode cX8_fights 19 = .ok (.istore 5, 2) := by decide +kernel
theorem dX8_fights_21 : decode cX8_fights 21 = .ok (.aload_n 0, 1) := by decide +kernel
theorem dX8_fights_22 : decode cX8_fights 22 = .ok (.iload_n 1, 1) := by decide +kernel
theorem dX8_fights_23 : decode cX8_fights 23 = .ok (.iconst 4, 1) := by decide +kernel
theorem dX8_fights_24 : decode cX8_fights 24 = .ok (.iconst 0, 1) := by decide +kernel
theorem dX8_fights_25 : decode cX8_fights 25 = .ok (.invokevirtual 73, 3) := by decide +kernel
theorem dX8_fights_28 : decode cX8_fights 28 = .ok (.iload 4, 2) := by decide +kernel
theorem dX8_fights_30 : decode cX8_fights 30 = .ok (.iload 5, 2) := by decide +kernel
theorem dX8_fights_32 : decode cX8_fights 32 = .ok (.if_icmp .le 37, 3) := by decide +kernel
theorem dX8_fights_35 : decode cX8_fights 35 = .ok (.aload_n 0, 1) := by decide +kernel
theorem dX8_fights_36 : decode cX8_fights 36 = .ok (.iload_n 3, 1) := by decide +kernel
theorem dX8_fights_37 : decode cX8_fights 37 = .ok (.iconst 1, 1) := by decide +kernel
theorem dX8_fights_38 : decode cX8_fights 38 = .ok (.aload_n 0, 1) := by decide +kernel
theorem dX8_fights_39 : decode cX8_fights 39 = .ok (.iload_n 3, 1) := by decide +kernel
theorem dX8_fights_40 : decode cX8_fights 40 = .ok (.iload 4, 2) := by decide +kernel
theorem dX8_fights_42 : decode cX8_fights 42 = .ok (.iload 5, 2) := by decide +kernel
theorem dX8_fights_44 : decode cX8_fights 44 = .ok (.isub, 1) := by decide +kernel
theorem dX8_fights_45 : decode cX8_fights 45 = .ok (.invokevirtual 117, 3) := by decide +kernel
theorem dX8_fights_48 : decode cX8_fights 48 = .ok (.invokevirtual 73, 3) := by decide +kernel
theorem dX8_fights_51 : decode cX8_fights 51 = .ok (.aload_n 0, 1) := by decide +kernel
theorem dX8_fights_52 : decode cX8_fights 52 = .ok (.iload_n 3, 1) := by decide +kernel
theorem dX8_fights_53 : decode cX8_fights 53 = .ok (.iconst 1, 1) := by decide +kernel
theorem dX8_fights_54 : decode cX8_fights 54 = .ok (.invokevirtual 52, 3) := by decide +kernel
theorem dX8_fights_57 : decode cX8_fights 57 = .ok (.ifCond .ne 28, 3) := by decide +kernel
theorem dX8_fights_60 : decode cX8_fights 60 = .ok (.aload_n 0, 1) := by decide +kernel
theorem dX8_fights_61 : decode cX8_fights 61 = .ok (.iload_n 1, 1) := by decide +kernel
theorem dX8_fights_62 : decode cX8_fights 62 = .ok (.iload_n 2, 1) := by decide +kernel
theorem dX8_fights_63 : decode cX8_fights 63 = .ok (.invokevirtual 120, 3) := by decide +kernel
theorem dX8_fights_66 : decode cX8_fights 66 = .ok (.goto 19, 3) := by decide +kernel
theorem dX8_fights_69 : decode cX8_fights 69 = .ok (.aload_n 0, 1) := by decide +kernel
theorem dX8_fights_70 : decode cX8_fights 70 = .ok (.iload_n 1, 1) := by decide +kernel
theorem dX8_fights_71 : decode cX8_fights 71 = .ok (.iconst 1, 1) := by decide +kernel
theorem dX8_fights_72 : decode cX8_fights 72 = .ok (.aload_n 0, 1) := by decide +kernel
theorem dX8_fights_73 : decode cX8_fights 73 = .ok (.iload_n 1, 1) := by decide +kernel
theorem dX8_fights_74 : decode cX8_fights 74 = .ok (.iload 5, 2) := by decide +kernel
theorem dX8_fights_76 : decode cX8_fights 76 = .ok (.iload 4, 2) := by decide +kernel
theorem dX8_fights_78 : decode cX8_fights 78 = .ok (.isub, 1) := by decide +kernel
theorem dX8_fights_79 : decode cX8_fights 79 = .ok (.invokevirtual 117, 3) := by decide +kernel
theorem dX8_fights_82 : decode cX8_fights 82 = .ok (.invokevirtual 73, 3) := by decide +kernel
theorem dX8_fights_85 : decode cX8_fights 85 = .ok (.aload_n 0, 1) := by decide +kernel
theorem dX8_fights_86 : decode cX8_fights 86 = .ok (.iload_n 3, 1) := by decide +kernel
theorem dX8_fights_87 : decode cX8_fights 87 = .ok (.iconst 1, 1) := by decide +kernel
theorem dX8_fights_88 : decode cX8_fights 88 = .ok (.invokevirtual 52, 3) := by decide +kernel
theorem dX8_fights_91 : decode cX8_fights 91 = .ok (.ireturn, 1) := by decide +kernel
theorem dX8_ground_0 : decode cX8_ground 0 = .ok (.aload_n 0, 1) := by decide +kernel
theorem dX8_ground_1 : decode cX8_ground 1 = .ok (.iconst 0, 1) := by decide +kernel
theorem dX8_ground_2 : decode cX8_ground 2 = .ok (.putfield 44, 3) := by decide +kernel
theorem dX8_ground_5 : decode cX8_ground 5 = .ok (.iload_n 1, 1) := by decide +kernel
theorem dX8_ground_6 : decode cX8_ground 6 = .ok (.invokestatic 124, 3) := by decide +kernel
theorem dX8_ground_9 : decode cX8_ground 9 = .ok (.ifCond .ne 5, 3) := by decide +kernel
theorem dX8_ground_12 : decode cX8_ground 12 = .ok (.iconst (-1), 1) := by decide +kernel
theorem dX8_ground_13 : decode cX8_ground 13 = .ok (.ireturn, 1) := by decide +kernel
theorem dX8_ground_14 : decode cX8_ground 14 = .ok (.iload_n 2, 1) := by decide +kernel
theorem dX8_ground_15 : decode cX8_ground 15 = .ok (.iconst 0, 1) := by decide +kernel
theorem dX8_ground_16 : decode cX8_ground 16 = .ok (.iconst 2, 1) := by decide +kernel
theorem dX8_ground_17 : decode cX8_ground 17 = .ok (.invokestatic 48, 3) := by decide +kernel
theorem dX8_ground_20 : decode cX8_ground 20 = .ok (.ifCond .ne 6, 3) := by decide +kernel
theorem dX8_ground_23 : decode cX8_ground 23 = .ok (.bipush (-2), 2) := by decide +kernel
theorem dX8_ground_25 : decode cX8_ground 25 = .ok (.ireturn, 1) := by decide +kernel
theorem dX8_ground_26 : decode cX8_ground 26 = .ok (.aload_n 0, 1) := by decide +kernel
theorem dX8_ground_27 : decode cX8_ground 27 = .ok (.getfield 7, 3) := by decide +kernel
theorem dX8_ground_30 : decode cX8_ground 30 = .ok (.iconst 0, 1) := by decide +kernel
theorem dX8_ground_31 : decode cX8_ground 31 = .ok (.iload_n 1, 1) := by decide +kernel
theorem dX8_ground_32 : decode cX8_ground 32 = .ok (.iadd, 1) := by decide +kernel
theorem dX8_ground_33 : decode cX8_ground 33 = .ok (.iaload, 1) := by decide +kernel
theorem dX8_ground_34 : decode cX8_ground 34 = .ok (.istore_n 3, 1) := by decide +kernel
theorem dX8_ground_35 : decode cX8_ground 35 = .ok (.iload_n 3, 1) := by decide +kernel
theorem dX8_ground_36 : decode cX8_ground 36 = .ok (.iload_n 2, 1) := by decide +kernel
theorem dX8_ground_37 : decode cX8_ground 37 = .ok (.if_icmp .ne 6, 3) := by decide +kernel
theorem dX8_ground_40 : decode cX8_ground 40 = .ok (.bipush (-5), 2) := by decide +kernel
theorem dX8_ground_42 : decode cX8_ground 42 = .ok (.ireturn, 1) := by decide +kernel
theorem dX8_ground_43 : decode cX8_ground 43 = .ok (.aload_n 0, 1) := by decide +kernel
theorem dX8_ground_44 : decode cX8_ground 44 = .ok (.invokevirtual 127, 3) := by decide +kernel
theorem dX8_ground_47 : decode cX8_ground 47 = .ok (.aload_n 0, 1) := by decide +kernel
theorem dX8_ground_48 : decode cX8_ground 48 = .ok (.getfield 7, 3) := by decide +kernel
theorem dX8_ground_51 : decode cX8_ground 51 = .ok (.iconst 0, 1) := by decide +kernel
theorem dX8_ground_52 : decode cX8_ground 52 = .ok (.iload_n 1, 1) := by decide +kernel
theorem dX8_ground_53 : decode cX8_ground 53 = .ok (.iadd, 1) := by decide +kernel
theorem dX8_ground_54 : decode cX8_ground 54 = .ok (.iload_n 2, 1) := by decide +kernel
theorem dX8_ground_55 : decode cX8_ground 55 = .ok (.iastore, 1) := by decide +kernel
theorem dX8_ground_56 : decode cX8_ground 56 = .ok (.iload_n 3, 1) := by decide +kernel
theorem dX8_ground_57 : decode cX8_ground 57 = .ok (.ireturn, 1) := by decide +kernel
theorem dX8_rivers_0 : decode cX8_rivers 0 = .ok (.iconst 0, 1) := by decide +kernel
theorem dX8_rivers_1 : decode cX8_rivers 1 = .ok (.istore_n 1, 1) := by decide +kernel
theorem dX8_rivers_2 : decode cX8_rivers 2 = .ok (.iconst 0, 1) := by decide +kernel
theorem dX8_rivers_3 : decode cX8_rivers 3 = .ok (.istore_n 2, 1) := by decide +kernel
theorem dX8_rivers_4 : decode cX8_rivers 4 = .ok (.iload_n 2, 1) := by decide +kernel
theorem dX8_rivers_5 : decode cX8_rivers 5 = .ok (.bipush 63, 2) := by decide +kernel
theorem dX8_rivers_7 : decode cX8_rivers 7 = .ok (.if_icmp .ge 39, 3) := by decide +kernel
theorem dX8_rivers_10 : decode cX8_rivers 10 = .ok (.iconst 0, 1) := by decide +kernel
theorem dX8_rivers_11 : decode cX8_rivers 11 = .ok (.istore_n 3, 1) := by decide +kernel
theorem dX8_rivers_12 : decode cX8_rivers 12 = .ok (.iload_n 3, 1) := by decide +kernel
theorem dX8_rivers_13 : decode cX8_rivers 13 = .ok (.iconst 3, 1) := by decide +kernel
theorem dX8_rivers_14 : decode cX8_rivers 14 = .ok (.if_icmp .ge 26, 3) := by decide +kernel
theorem dX8_rivers_17 : decode cX8_rivers 17 = .ok (.iload_n 1, 1) := by decide +kernel
theorem dX8_rivers_18 : decode cX8_rivers 18 = .ok (.aload_n 0, 1) := by decide +kernel
theorem dX8_rivers_19 : decode cX8_rivers 19 = .ok (.iload_n 2, 1) := by decide +kernel
theorem dX8_rivers_20 : decode cX8_rivers 20 = .ok (.iload_n 3, 1) := by decide +kernel
theorem dX8_rivers_21 : decode cX8_rivers 21 = .ok (.invokevirtual 77, 3) := by decide +kernel
theorem dX8_rivers_24 : decode cX8_rivers 24 = .ok (.ifCond .eq 7, 3) := by decide +kernel
theorem dX8_rivers_27 : decode cX8_rivers 27 = .ok (.iconst 1, 1) := by decide +kernel
theorem dX8_rivers_28 : decode cX8_rivers 28 = .ok (.goto 4, 3) := by decide +kernel
theorem dX8_rivers_31 : decode cX8_rivers 31 = .ok (.iconst 0, 1) := by decide +kernel
theorem dX8_rivers_32 : decode cX8_rivers 32 = .ok (.iadd, 1) := by decide +kernel
theorem dX8_rivers_33 : decode cX8_rivers 33 = .ok (.istore_n 1, 1) := by decide +kernel
theorem dX8_rivers_34 : decode cX8_rivers 34 = .ok (.iinc 3 1, 3) := by decide +kernel
theorem dX8_rivers_37 : decode cX8_rivers 37 = .ok (.goto (-25), 3) := by decide +kernel
theorem dX8_rivers_40 : decode cX8_rivers 40 = .ok (.iinc 2 1, 3) := by decide +kernel
theorem dX8_rivers_43 : decode cX8_rivers 43 = .ok (.goto (-39), 3) := by decide +kernel
theorem dX8_rivers_46 : decode cX8_rivers 46 = .ok (.iload_n 1, 1) := by decide +kernel
theorem dX8_rivers_47 : decode cX8_rivers 47 = .ok (.ireturn, 1) := by decide +kernel
theorem dX8_river_0 : decode cX8_river 0 = .ok (.aload_n 0, 1) := by decide +kernel
theorem dX8_river_1 : decode cX8_river 1 = .ok (.iconst 0, 1) := by decide +kernel
theorem dX8_river_2 : decode cX8_river 2 = .ok (.putfield 44, 3) := by decide +kernel
theorem dX8_river_5 : decode cX8_river 5 = .ok (.iload_n 1, 1) := by decide +kernel
theorem dX8_river_6 : decode cX8_river 6 = .ok (.invokestatic 124, 3) := by decide +kernel
theorem dX8_river_9 : decode cX8_river 9 = .ok (.ifCond .ne 5, 3) := by decide +kernel
theorem dX8_river_12 : decode cX8_river 12 = .ok (.iconst (-1), 1) := by decide +kernel
theorem dX8_river_13 : decode cX8_river 13 = .ok (.ireturn, 1) := by decide +kernel
theorem dX8_river_14 : decode cX8_river 14 = .ok (.iload_n 2, 1) := by decide +kernel
theorem dX8_river_15 : decode cX8_river 15 = .ok (.iconst 0, 1) := by decide +kernel
theorem dX8_river_16 : decode cX8_river 16 = .ok (.iconst 5, 1) := by decide +kernel
theorem dX8_river_17 : decode cX8_river 17 = .ok (.invokestatic 48, 3) := by decide +kernel
theorem dX8_river_20 : decode cX8_river 20 = .ok (.ifCond .ne 6, 3) := by decide +kernel
theorem dX8_river_23 : decode cX8_river 23 = .ok (.bipush (-2), 2) := by decide +kernel
theorem dX8_river_25 : decode cX8_river 25 = .ok (.ireturn, 1) := by decide +kernel
theorem dX8_river_26 : decode cX8_river 26 = .ok (.iload_n 1, 1) := by decide +kernel
theorem dX8_river_27 : decode cX8_river 27 = .ok (.iload_n 2, 1) := by decide +kernel
theorem dX8_river_28 : decode cX8_river 28 = .ok (.invokestatic 59, 3) := by decide +kernel
theorem dX8_river_31 : decode cX8_river 31 = .ok (.istore 4, 2) := by decide +kernel
theorem dX8_river_33 : decode cX8_river 33 = .ok (.iload 4, 2) := by decide +kernel
theorem dX8_river_35 : decode cX8_river 35 = .ok (.bipush (-5), 2) := by decide +kernel
theorem dX8_river_37 : decode cX8_river 37 = .ok (.if_icmp .ne 6, 3) := by decide +kernel
theorem dX8_river_40 : decode cX8_river 40 = .ok (.bipush (-4), 2) := by decide +kernel
theorem dX8_river_42 : decode cX8_river 42 = .ok (.ireturn, 1) := by decide +kernel
theorem dX8_river_43 : decode cX8_river 43 = .ok (.aload_n 0, 1) := by decide +kernel
theorem dX8_river_44 : decode cX8_river 44 = .ok (.iload_n 1, 1) := by decide +kernel
theorem dX8_river_45 : decode cX8_river 45 = .ok (.iload_n 2, 1) := by decide +kernel
theorem dX8_river_46 : decode cX8_river 46 = .ok (.invokevirtual 77, 3) := by decide +kernel
theorem dX8_river_49 : decode cX8_river 49 = .ok (.iload_n 3, 1) := by decide +kernel
theorem dX8_river_50 : decode cX8_river 50 = .ok (.if_icmp .ne 6, 3) := by decide +kernel
theorem dX8_river_53 : decode cX8_river 53 = .ok (.bipush (-5), 2) := by decide +kernel
theorem dX8_river_55 : decode cX8_river 55 = .ok (.ireturn, 1) := by decide +kernel
theorem dX8_river_56 : decode cX8_river 56 = .ok (.aload_n 0, 1) := by decide +kernel
theorem dX8_river_57 : decode cX8_river 57 = .ok (.invokevirtual 127, 3) := by decide +kernel
theorem dX8_river_60 : decode cX8_river 60 = .ok (.aload_n 0, 1) := by decide +kernel
theorem dX8_river_61 : decode cX8_river 61 = .ok (.getfield 7, 3) := by decide +kernel
theorem dX8_river_64 : decode cX8_river 64 = .ok (.bipush 63, 2) := by decide +kernel
theorem dX8_river_66 : decode cX8_river 66 = .ok (.iload_n 1, 1) := by decide +kernel
theorem dX8_river_67 : decode cX8_river 67 = .ok (.iadd, 1) := by decide +kernel
theorem dX8_river_68 : decode cX8_river 68 = .ok (.dup2, 1) := by decide +kernel
theorem dX8_river_69 : decode cX8_river 69 = .ok (.iaload, 1) := by decide +kernel
theorem dX8_river_70 : decode cX8_river 70 = .ok (.iconst 1, 1) := by decide +kernel
theorem dX8_river_71 : decode cX8_river 71 = .ok (.iload_n 2, 1) := by decide +kernel
theorem dX8_river_72 : decode cX8_river 72 = .ok (.ishl, 1) := by decide +kernel
theorem dX8_river_73 : decode cX8_river 73 = .ok (.ixor, 1) := by decide +kernel
theorem dX8_river_74 : decode cX8_river 74 = .ok (.iastore, 1) := by decide +kernel
theorem dX8_river_75 : decode cX8_river 75 = .ok (.aload_n 0, 1) := by decide +kernel
theorem dX8_river_76 : decode cX8_river 76 = .ok (.getfield 7, 3) := by decide +kernel
theorem dX8_river_79 : decode cX8_river 79 = .ok (.bipush 63, 2) := by decide +kernel
theorem dX8_river_81 : decode cX8_river 81 = .ok (.iload 4, 2) := by decide +kernel
theorem dX8_river_83 : decode cX8_river 83 = .ok (.iadd, 1) := by decide +kernel
theorem dX8_river_84 : decode cX8_river 84 = .ok (.dup2, 1) := by decide +kernel
theorem dX8_river_85 : decode cX8_river 85 = .ok (.iaload, 1) := by decide +kernel
theorem dX8_river_86 : decode cX8_river 86 = .ok (.iconst 1, 1) := by decide +kernel
theorem dX8_river_87 : decode cX8_river 87 = .ok (.iload_n 2, 1) := by decide +kernel
theorem dX8_river_88 : decode cX8_river 88 = .ok (.iconst 3, 1) := by decide +kernel
theorem dX8_river_89 : decode cX8_river 89 = .ok (.iadd, 1) := by decide +kernel
theorem dX8_river_90 : decode cX8_river 90 = .ok (.bipush 6, 2) := by decide +kernel
theorem dX8_river_92 : decode cX8_river 92 = .ok (.irem, 1) := by decide +kernel
theorem dX8_river_93 : decode cX8_river 93 = .ok (.ishl, 1) := by decide +kernel
theorem dX8_river_94 : decode cX8_river 94 = .ok (.ixor, 1) := by decide +kernel
theorem dX8_river_95 : decode cX8_river 95 = .ok (.iastore, 1) := by decide +kernel
theorem dX8_river_96 : decode cX8_river 96 = .ok (.aload_n 0, 1) := by decide +kernel
theorem dX8_river_97 : decode cX8_river 97 = .ok (.invokevirtual 130, 3) := by decide +kernel
theorem dX8_river_100 : decode cX8_river 100 = .ok (.ireturn, 1) := by decide +kernel
theorem dX8_forts_0 : decode cX8_forts 0 = .ok (.iconst 0, 1) := by decide +kernel
theorem dX8_forts_1 : decode cX8_forts 1 = .ok (.istore_n 2, 1) := by decide +kernel
theorem dX8_forts_2 : decode cX8_forts 2 = .ok (.iconst 0, 1) := by decide +kernel
theorem dX8_forts_3 : decode cX8_forts 3 = .ok (.istore_n 3, 1) := by decide +kernel
theorem dX8_forts_4 : decode cX8_forts 4 = .ok (.iload_n 3, 1) := by decide +kernel
theorem dX8_forts_5 : decode cX8_forts 5 = .ok (.bipush 63, 2) := by decide +kernel
theorem dX8_forts_7 : decode cX8_forts 7 = .ok (.if_icmp .ge 32, 3) := by decide +kernel
theorem dX8_forts_10 : decode cX8_forts 10 = .ok (.iload_n 2, 1) := by decide +kernel
theorem dX8_forts_11 : decode cX8_forts 11 = .ok (.aload_n 0, 1) := by decide +kernel
theorem dX8_forts_12 : decode cX8_forts 12 = .ok (.getfield 7, 3) := by decide +kernel
theorem dX8_forts_15 : decode cX8_forts 15 = .ok (.bipush 126, 2) := by decide +kernel
theorem dX8_forts_17 : decode cX8_forts 17 = .ok (.iload_n 3, 1) := by decide +kernel
theorem dX8_forts_18 : decode cX8_forts 18 = .ok (.iadd, 1) := by decide +kernel
theorem dX8_forts_19 : decode cX8_forts 19 = .ok (.iaload, 1) := by decide +kernel
theorem dX8_forts_20 : decode cX8_forts 20 = .ok (.iload_n 1, 1) := by decide +kernel
theorem dX8_forts_21 : decode cX8_forts 21 = .ok (.iconst 1, 1) := by decide +kernel
theorem dX8_forts_22 : decode cX8_forts 22 = .ok (.iadd, 1) := by decide +kernel
theorem dX8_forts_23 : decode cX8_forts 23 = .ok (.if_icmp .ne 7, 3) := by decide +kernel
theorem dX8_forts_26 : decode cX8_forts 26 = .ok (.iconst 1, 1) := by decide +kernel
theorem dX8_forts_27 : decode cX8_forts 27 = .ok (.goto 4, 3) := by decide +kernel
theorem dX8_forts_30 : decode cX8_forts 30 = .ok (.iconst 0, 1) := by decide +kernel
theorem dX8_forts_31 : decode cX8_forts 31 = .ok (.iadd, 1) := by decide +kernel
theorem dX8_forts_32 : decode cX8_forts 32 = .ok (.istore_n 2, 1) := by decide +kernel
theorem dX8_forts_33 : decode cX8_forts 33 = .ok (.iinc 3 1, 3) := by decide +kernel
theorem dX8_forts_36 : decode cX8_forts 36 = .ok (.goto (-32), 3) := by decide +kernel
theorem dX8_forts_39 : decode cX8_forts 39 = .ok (.iload_n 2, 1) := by decide +kernel
theorem dX8_forts_40 : decode cX8_forts 40 = .ok (.ireturn, 1) := by decide +kernel
theorem dX8_fort_0 : decode cX8_fort 0 = .ok (.aload_n 0, 1) := by decide +kernel
theorem dX8_fort_1 : decode cX8_fort 1 = .ok (.iconst 0, 1) := by decide +kernel
theorem dX8_fort_2 : decode cX8_fort 2 = .ok (.putfield 44, 3) := by decide +kernel
theorem dX8_fort_5 : decode cX8_fort 5 = .ok (.iload_n 1, 1) := by decide +kernel
theorem dX8_fort_6 : decode cX8_fort 6 = .ok (.invokestatic 124, 3) := by decide +kernel
theorem dX8_fort_9 : decode cX8_fort 9 = .ok (.ifCond .ne 5, 3) := by decide +kernel
theorem dX8_fort_12 : decode cX8_fort 12 = .ok (.iconst (-1), 1) := by decide +kernel
theorem dX8_fort_13 : decode cX8_fort 13 = .ok (.ireturn, 1) := by decide +kernel
theorem dX8_fort_14 : decode cX8_fort 14 = .ok (.iload_n 2, 1) := by decide +kernel
theorem dX8_fort_15 : decode cX8_fort 15 = .ok (.iconst 0, 1) := by decide +kernel
theorem dX8_fort_16 : decode cX8_fort 16 = .ok (.iconst 2, 1) := by decide +kernel
theorem dX8_fort_17 : decode cX8_fort 17 = .ok (.invokestatic 48, 3) := by decide +kernel
theorem dX8_fort_20 : decode cX8_fort 20 = .ok (.ifCond .ne 6, 3) := by decide +kernel
theorem dX8_fort_23 : decode cX8_fort 23 = .ok (.bipush (-2), 2) := by decide +kernel
theorem dX8_fort_25 : decode cX8_fort 25 = .ok (.ireturn, 1) := by decide +kernel
theorem dX8_fort_26 : decode cX8_fort 26 = .ok (.aload_n 0, 1) := by decide +kernel
theorem dX8_fort_27 : decode cX8_fort 27 = .ok (.getfield 7, 3) := by decide +kernel
theorem dX8_fort_30 : decode cX8_fort 30 = .ok (.bipush 126, 2) := by decide +kernel
theorem dX8_fort_32 : decode cX8_fort 32 = .ok (.iload_n 1, 1) := by decide +kernel
theorem dX8_fort_33 : decode cX8_fort 33 = .ok (.iadd, 1) := by decide +kernel
theorem dX8_fort_34 : decode cX8_fort 34 = .ok (.iaload, 1) := by decide +kernel
theorem dX8_fort_35 : decode cX8_fort 35 = .ok (.ifCond .ne 7, 3) := by decide +kernel
theorem dX8_fort_38 : decode cX8_fort 38 = .ok (.iconst 1, 1) := by decide +kernel
theorem dX8_fort_39 : decode cX8_fort 39 = .ok (.goto 4, 3) := by decide +kernel
theorem dX8_fort_42 : decode cX8_fort 42 = .ok (.iconst 0, 1) := by decide +kernel
theorem dX8_fort_43 : decode cX8_fort 43 = .ok (.iload_n 2, 1) := by decide +kernel
theorem dX8_fort_44 : decode cX8_fort 44 = .ok (.iconst 2, 1) := by decide +kernel
theorem dX8_fort_45 : decode cX8_fort 45 = .ok (.if_icmp .ne 7, 3) := by decide +kernel
theorem dX8_fort_48 : decode cX8_fort 48 = .ok (.iconst 1, 1) := by decide +kernel
theorem dX8_fort_49 : decode cX8_fort 49 = .ok (.goto 4, 3) := by decide +kernel
theorem dX8_fort_52 : decode cX8_fort 52 = .ok (.iconst 0, 1) := by decide +kernel
theorem dX8_fort_53 : decode cX8_fort 53 = .ok (.if_icmp .ne 6, 3) := by decide +kernel
theorem dX8_fort_56 : decode cX8_fort 56 = .ok (.bipush (-5), 2) := by decide +kernel
theorem dX8_fort_58 : decode cX8_fort 58 = .ok (.ireturn, 1) := by decide +kernel
theorem dX8_fort_59 : decode cX8_fort 59 = .ok (.aload_n 0, 1) := by decide +kernel
theorem dX8_fort_60 : decode cX8_fort 60 = .ok (.invokevirtual 127, 3) := by decide +kernel
theorem dX8_fort_63 : decode cX8_fort 63 = .ok (.aload_n 0, 1) := by decide +kernel
theorem dX8_fort_64 : decode cX8_fort 64 = .ok (.iload_n 1, 1) := by decide +kernel
theorem dX8_fort_65 : decode cX8_fort 65 = .ok (.invokevirtual 62, 3) := by decide +kernel
theorem dX8_fort_68 : decode cX8_fort 68 = .ok (.istore_n 3, 1) := by decide +kernel
theorem dX8_fort_69 : decode cX8_fort 69 = .ok (.aload_n 0, 1) := by decide +kernel
theorem dX8_fort_70 : decode cX8_fort 70 = .ok (.getfield 7, 3) := by decide +kernel
theorem dX8_fort_73 : decode cX8_fort 73 = .ok (.bipush 126, 2) := by decide +kernel
theorem dX8_fort_75 : decode cX8_fort 75 = .ok (.iload_n 1, 1) := by decide +kernel
theorem dX8_fort_76 : decode cX8_fort 76 = .ok (.iadd, 1) := by decide +kernel
theorem dX8_fort_77 : decode cX8_fort 77 = .ok (.iload_n 2, 1) := by decide +kernel
theorem dX8_fort_78 : decode cX8_fort 78 = .ok (.iconst 2, 1) := by decide +kernel
theorem dX8_fort_79 : decode cX8_fort 79 = .ok (.if_icmp .ne 7, 3) := by decide +kernel
theorem dX8_fort_82 : decode cX8_fort 82 = .ok (.iconst 0, 1) := by decide +kernel
theorem dX8_fort_83 : decode cX8_fort 83 = .ok (.goto 23, 3) := by decide +kernel
theorem dX8_fort_86 : decode cX8_fort 86 = .ok (.iload_n 3, 1) := by decide +kernel
theorem dX8_fort_87 : decode cX8_fort 87 = .ok (.bipush (-5), 2) := by decide +kernel
theorem dX8_fort_89 : decode cX8_fort 89 = .ok (.if_icmp .ne 9, 3) := by decide +kernel
theorem dX8_fort_92 : decode cX8_fort 92 = .ok (.iload_n 2, 1) := by decide +kernel
theorem dX8_fort_93 : decode cX8_fort 93 = .ok (.iconst 1, 1) := by decide +kernel
theorem dX8_fort_94 : decode cX8_fort 94 = .ok (.iadd, 1) := by decide +kernel
theorem dX8_fort_95 : decode cX8_fort 95 = .ok (.goto 11, 3) := by decide +kernel
theorem dX8_fort_98 : decode cX8_fort 98 = .ok (.aload_n 0, 1) := by decide +kernel
theorem dX8_fort_99 : decode cX8_fort 99 = .ok (.iload_n 3, 1) := by decide +kernel
theorem dX8_fort_100 : decode cX8_fort 100 = .ok (.iconst 0, 1) := by decide +kernel
theorem dX8_fort_101 : decode cX8_fort 101 = .ok (.invokevirtual 52, 3) := by decide +kernel
theorem dX8_fort_104 : decode cX8_fort 104 = .ok (.iconst 1, 1) := by decide +kernel
theorem dX8_fort_105 : decode cX8_fort 105 = .ok (.iadd, 1) := by decide +kernel
theorem dX8_fort_106 : decode cX8_fort 106 = .ok (.iastore, 1) := by decide +kernel
theorem dX8_fort_107 : decode cX8_fort 107 = .ok (.aload_n 0, 1) := by decide +kernel
theorem dX8_fort_108 : decode cX8_fort 108 = .ok (.iconst 0, 1) := by decide +kernel
theorem dX8_fort_109 : decode cX8_fort 109 = .ok (.invokevirtual 133, 3) := by decide +kernel
theorem dX8_fort_112 : decode cX8_fort 112 = .ok (.aload_n 0, 1) := by decide +kernel
theorem dX8_fort_113 : decode cX8_fort 113 = .ok (.iconst 1, 1) := by decide +kernel
theorem dX8_fort_114 : decode cX8_fort 114 = .ok (.invokevirtual 133, 3) := by decide +kernel
theorem dX8_fort_117 : decode cX8_fort 117 = .ok (.iadd, 1) := by decide +kernel
theorem dX8_fort_118 : decode cX8_fort 118 = .ok (.ireturn, 1) := by decide +kernel
theorem dX8_base_0 : decode cX8_base 0 = .ok (.aload_n 0, 1) := by decide +kernel
theorem dX8_base_1 : decode cX8_base 1 = .ok (.iconst 0, 1) := by decide +kernel
theorem dX8_base_2 : decode cX8_base 2 = .ok (.putfield 44, 3) := by decide +kernel
theorem dX8_base_5 : decode cX8_base 5 = .ok (.iload_n 1, 1) := by decide +kernel
theorem dX8_base_6 : decode cX8_base 6 = .ok (.iconst 0, 1) := by decide +kernel
theorem dX8_base_7 : decode cX8_base 7 = .ok (.iconst 1, 1) := by decide +kernel
theorem dX8_base_8 : decode cX8_base 8 = .ok (.invokestatic 48, 3) := by decide +kernel
theorem dX8_base_11 : decode cX8_base 11 = .ok (.ifCond .eq 10, 3) := by decide +kernel
theorem dX8_base_14 : decode cX8_base 14 = .ok (.iload_n 2, 1) := by decide +kernel
theorem dX8_base_15 : decode cX8_base 15 = .ok (.invokestatic 124, 3) := by decide +kernel
theorem dX8_base_18 : decode cX8_base 18 = .ok (.ifCond .ne 5, 3) := by decide +kernel
theorem dX8_base_21 : decode cX8_base 21 = .ok (.iconst (-1), 1) := by decide +kernel
theorem dX8_base_22 : decode cX8_base 22 = .ok (.ireturn, 1) := by decide +kernel
theorem dX8_base_23 : decode cX8_base 23 = .ok (.aload_n 0, 1) := by decide +kernel
theorem dX8_base_24 : decode cX8_base 24 = .ok (.getfield 7, 3) := by decide +kernel
theorem dX8_base_27 : decode cX8_base 27 = .ok (.sipush 189, 3) := by decide +kernel
theorem dX8_base_30 : decode cX8_base 30 = .ok (.iload_n 1, 1) := by decide +kernel
theorem dX8_base_31 : decode cX8_base 31 = .ok (.iadd, 1) := by decide +kernel
theorem dX8_base_32 : decode cX8_base 32 = .ok (.iaload, 1) := by decide +kernel
theorem dX8_base_33 : decode cX8_base 33 = .ok (.istore_n 3, 1) := by decide +kernel
theorem dX8_base_34 : decode cX8_base 34 = .ok (.iload_n 3, 1) := by decide +kernel
theorem dX8_base_35 : decode cX8_base 35 = .ok (.iload_n 2, 1) := by decide +kernel
theorem dX8_base_36 : decode cX8_base 36 = .ok (.if_icmp .ne 6, 3) := by decide +kernel
theorem dX8_base_39 : decode cX8_base 39 = .ok (.bipush (-5), 2) := by decide +kernel
theorem dX8_base_41 : decode cX8_base 41 = .ok (.ireturn, 1) := by decide +kernel
theorem dX8_base_42 : decode cX8_base 42 = .ok (.aload_n 0, 1) := by decide +kernel
theorem dX8_base_43 : decode cX8_base 43 = .ok (.invokevirtual 127, 3) := by decide +kernel
theorem dX8_base_46 : decode cX8_base 46 = .ok (.aload_n 0, 1) := by decide +kernel
theorem dX8_base_47 : decode cX8_base 47 = .ok (.getfield 7, 3) := by decide +kernel
theorem dX8_base_50 : decode cX8_base 50 = .ok (.sipush 189, 3) := by decide +kernel
theorem dX8_base_53 : decode cX8_base 53 = .ok (.iload_n 1, 1) := by decide +kernel
theorem dX8_base_54 : decode cX8_base 54 = .ok (.iadd, 1) := by decide +kernel
theorem dX8_base_55 : decode cX8_base 55 = .ok (.iload_n 2, 1) := by decide +kernel
theorem dX8_base_56 : decode cX8_base 56 = .ok (.iastore, 1) := by decide +kernel
theorem dX8_base_57 : decode cX8_base 57 = .ok (.iload_n 3, 1) := by decide +kernel
theorem dX8_base_58 : decode cX8_base 58 = .ok (.ireturn, 1) := by decide +kernel
theorem dX8_place_0 : decode cX8_place 0 = .ok (.aload_n 0, 1) := by decide +kernel
theorem dX8_place_1 : decode cX8_place 1 = .ok (.iconst 0, 1) := by decide +kernel
theorem dX8_place_2 : decode cX8_place 2 = .ok (.putfield 44, 3) := by decide +kernel
theorem dX8_place_5 : decode cX8_place 5 = .ok (.iload_n 1, 1) := by decide +kernel
theorem dX8_place_6 : decode cX8_place 6 = .ok (.iconst 0, 1) := by decide +kernel
theorem dX8_place_7 : decode cX8_place 7 = .ok (.iconst 1, 1) := by decide +kernel
theorem dX8_place_8 : decode cX8_place 8 = .ok (.invokestatic 48, 3) := by decide +kernel
theorem dX8_place_11 : decode cX8_place 11 = .ok (.ifCond .eq 10, 3) := by decide +kernel
theorem dX8_place_14 : decode cX8_place 14 = .ok (.iload_n 3, 1) := by decide +kernel
theorem dX8_place_15 : decode cX8_place 15 = .ok (.invokestatic 124, 3) := by decide +kernel
theorem dX8_place_18 : decode cX8_place 18 = .ok (.ifCond .ne 5, 3) := by decide +kernel
theorem dX8_place_21 : decode cX8_place 21 = .ok (.iconst (-1), 1) := by decide +kernel
theorem dX8_place_22 : decode cX8_place 22 = .ok (.ireturn, 1) := by decide +kernel
theorem dX8_place_23 : decode cX8_place 23 = .ok (.iload_n 2, 1) := by decide +kernel
theorem dX8_place_24 : decode cX8_place 24 = .ok (.iconst 1, 1) := by decide +kernel
theorem dX8_place_25 : decode cX8_place 25 = .ok (.bipush 9, 2) := by decide +kernel
theorem dX8_place_27 : decode cX8_place 27 = .ok (.invokestatic 48, 3) := by decide +kernel
theorem dX8_place_30 : decode cX8_place 30 = .ok (.ifCond .ne 6, 3) := by decide +kernel
theorem dX8_place_33 : decode cX8_place 33 = .ok (.bipush (-2), 2) := by decide +kernel
theorem dX8_place_35 : decode cX8_place 35 = .ok (.ireturn, 1) := by decide +kernel
theorem dX8_place_36 : decode cX8_place 36 = .ok (.aload_n 0, 1) := by decide +kernel
theorem dX8_place_37 : decode cX8_place 37 = .ok (.getfield 7, 3) := by decide +kernel
theorem dX8_place_40 : decode cX8_place 40 = .ok (.sipush 192, 3) := by decide +kernel
theorem dX8_place_43 : decode cX8_place 43 = .ok (.iaload, 1) := by decide +kernel
theorem dX8_place_44 : decode cX8_place 44 = .ok (.bipush 16, 2) := by decide +kernel
theorem dX8_place_46 : decode cX8_place 46 = .ok (.if_icmp .ne 6, 3) := by decide +kernel
theorem dX8_place_49 : decode cX8_place 49 = .ok (.bipush (-3), 2) := by decide +kernel
theorem dX8_place_51 : decode cX8_place 51 = .ok (.ireturn, 1) := by decide +kernel
theorem dX8_place_52 : decode cX8_place 52 = .ok (.aload_n 0, 1) := by decide +kernel
theorem dX8_place_53 : decode cX8_place 53 = .ok (.iload_n 3, 1) := by decide +kernel
theorem dX8_place_54 : decode cX8_place 54 = .ok (.invokevirtual 62, 3) := by decide +kernel
theorem dX8_place_57 : decode cX8_place 57 = .ok (.bipush (-5), 2) := by decide +kernel
theorem dX8_place_59 : decode cX8_place 59 = .ok (.if_icmp .eq 6, 3) := by decide +kernel
theorem dX8_place_62 : decode cX8_place 62 = .ok (.bipush (-4), 2) := by decide +kernel
theorem dX8_place_64 : decode cX8_place 64 = .ok (.ireturn, 1) := by decide +kernel
theorem dX8_place_65 : decode cX8_place 65 = .ok (.aload_n 0, 1) := by decide +kernel
theorem dX8_place_66 : decode cX8_place 66 = .ok (.invokevirtual 127, 3) := by decide +kernel
theorem dX8_place_69 : decode cX8_place 69 = .ok (.aload_n 0, 1) := by decide +kernel
theorem dX8_place_70 : decode cX8_place 70 = .ok (.getfield 7, 3) := by decide +kernel
theorem dX8_place_73 : decode cX8_place 73 = .ok (.sipush 192, 3) := by decide +kernel
theorem dX8_place_76 : decode cX8_place 76 = .ok (.iaload, 1) := by decide +kernel
theorem dX8_place_77 : decode cX8_place 77 = .ok (.istore 4, 2) := by decide +kernel
theorem dX8_place_79 : decode cX8_place 79 = .ok (.aload_n 0, 1) := by decide +kernel
theorem dX8_place_80 : decode cX8_place 80 = .ok (.getfield 7, 3) := by decide +kernel
theorem dX8_place_83 : decode cX8_place 83 = .ok (.sipush 192, 3) := by decide +kernel
theorem dX8_place_86 : decode cX8_place 86 = .ok (.dup2, 1) := by decide +kernel
theorem dX8_place_87 : decode cX8_place 87 = .ok (.iaload, 1) := by decide +kernel
theorem dX8_place_88 : decode cX8_place 88 = .ok (.iconst 1, 1) := by decide +kernel
theorem dX8_place_89 : decode cX8_place 89 = .ok (.iadd, 1) := by decide +kernel
theorem dX8_place_90 : decode cX8_place 90 = .ok (.iastore, 1) := by decide +kernel
theorem dX8_place_91 : decode cX8_place 91 = .ok (.aload_n 0, 1) := by decide +kernel
theorem dX8_place_92 : decode cX8_place 92 = .ok (.iload 4, 2) := by decide +kernel
theorem dX8_place_94 : decode cX8_place 94 = .ok (.iconst 0, 1) := by decide +kernel
theorem dX8_place_95 : decode cX8_place 95 = .ok (.iload_n 1, 1) := by decide +kernel
theorem dX8_place_96 : decode cX8_place 96 = .ok (.invokevirtual 73, 3) := by decide +kernel
theorem dX8_place_99 : decode cX8_place 99 = .ok (.aload_n 0, 1) := by decide +kernel
theorem dX8_place_100 : decode cX8_place 100 = .ok (.iload 4, 2) := by decide +kernel
theorem dX8_place_102 : decode cX8_place 102 = .ok (.iconst 1, 1) := by decide +kernel
theorem dX8_place_103 : decode cX8_place 103 = .ok (.iload_n 2, 1) := by decide +kernel
theorem dX8_place_104 : decode cX8_place 104 = .ok (.invokevirtual 73, 3) := by decide +kernel
theorem dX8_place_107 : decode cX8_place 107 = .ok (.aload_n 0, 1) := by decide +kernel
theorem dX8_place_108 : decode cX8_place 108 = .ok (.iload 4, 2) := by decide +kernel
theorem dX8_place_110 : decode cX8_place 110 = .ok (.iconst 3, 1) := by decide +kernel
theorem dX8_place_111 : decode cX8_place 111 = .ok (.iconst 4, 1) := by decide +kernel
theorem dX8_place_112 : decode cX8_place 112 = .ok (.invokevirtual 73, 3) := by decide +kernel
theorem dX8_place_115 : decode cX8_place 115 = .ok (.aload_n 0, 1) := by decide +kernel
theorem dX8_place_116 : decode cX8_place 116 = .ok (.iload 4, 2) := by decide +kernel
theorem dX8_place_118 : decode cX8_place 118 = .ok (.iconst 4, 1) := by decide +kernel
theorem dX8_place_119 : decode cX8_place 119 = .ok (.iconst 1, 1) := by decide +kernel
theorem dX8_place_120 : decode cX8_place 120 = .ok (.invokevirtual 73, 3) := by decide +kernel
theorem dX8_place_123 : decode cX8_place 123 = .ok (.aload_n 0, 1) := by decide +kernel
theorem dX8_place_124 : decode cX8_place 124 = .ok (.iload 4, 2) := by decide +kernel
theorem dX8_place_126 : decode cX8_place 126 = .ok (.iload_n 3, 1) := by decide +kernel
theorem dX8_place_127 : decode cX8_place 127 = .ok (.invokevirtual 120, 3) := by decide +kernel
theorem dX8_place_130 : decode cX8_place 130 = .ok (.iload 4, 2) := by decide +kernel
theorem dX8_place_132 : decode cX8_place 132 = .ok (.ireturn, 1) := by decide +kernel
theorem dX8_isAtTurn_0 : decode cX8_isAtTurn 0 = .ok (.aload_n 0, 1) := by decide +kernel
theorem dX8_isAtTurn_1 : decode cX8_isAtTurn 1 = .ok (.iload_n 1, 1) := by decide +kernel
theorem dX8_isAtTurn_2 : decode cX8_isAtTurn 2 = .ok (.iconst 0, 1) := by decide +kernel
theorem dX8_isAtTurn_3 : decode cX8_isAtTurn 3 = .ok (.invokevirtual 52, 3) := by decide +kernel
theorem dX8_isAtTurn_6 : decode cX8_isAtTurn 6 = .ok (.aload_n 0, 1) := by decide +kernel
theorem dX8_isAtTurn_7 : decode cX8_isAtTurn 7 = .ok (.getfield 7, 3) := by decide +kernel
theorem dX8_isAtTurn_10 : decode cX8_isAtTurn 10 = .ok (.sipush 191, 3) := by decide +kernel
theorem dX8_isAtTurn_13 : decode cX8_isAtTurn 13 = .ok (.iaload, 1) := by decide +kernel
theorem dX8_isAtTurn_14 : decode cX8_isAtTurn 14 = .ok (.iconst 2, 1) := by decide +kernel
theorem dX8_isAtTurn_15 : decode cX8_isAtTurn 15 = .ok (.irem, 1) := by decide +kernel
theorem dX8_isAtTurn_16 : decode cX8_isAtTurn 16 = .ok (.if_icmp .ne 7, 3) := by decide +kernel
theorem dX8_isAtTurn_19 : decode cX8_isAtTurn 19 = .ok (.iconst 1, 1) := by decide +kernel
theorem dX8_isAtTurn_20 : decode cX8_isAtTurn 20 = .ok (.goto 4, 3) := by decide +kernel
theorem dX8_isAtTurn_23 : decode cX8_isAtTurn 23 = .ok (.iconst 0, 1) := by decide +kernel
theorem dX8_isAtTurn_24 : decode cX8_isAtTurn 24 = .ok (.ireturn, 1) := by decide +kernel
theorem dX8_refusesMove_0 : decode cX8_refusesMove 0 = .ok (.aload_n 0, 1) := by decide +kernel
theorem dX8_refusesMove_1 : decode cX8_refusesMove 1 = .ok (.iload_n 1, 1) := by decide +kernel
theorem dX8_refusesMove_2 : decode cX8_refusesMove 2 = .ok (.invokevirtual 136, 3) := by decide +kernel
theorem dX8_refusesMove_5 : decode cX8_refusesMove 5 = .ok (.ifCond .eq 10, 3) := by decide +kernel
theorem dX8_refusesMove_8 : decode cX8_refusesMove 8 = .ok (.iload_n 2, 1) := by decide +kernel
theorem dX8_refusesMove_9 : decode cX8_refusesMove 9 = .ok (.invokestatic 124, 3) := by decide +kernel
theorem dX8_refusesMove_12 : decode cX8_refusesMove 12 = .ok (.ifCond .ne 5, 3) := by decide +kernel
theorem dX8_refusesMove_15 : decode cX8_refusesMove 15 = .ok (.iconst (-1), 1) := by decide +kernel
theorem dX8_refusesMove_16 : decode cX8_refusesMove 16 = .ok (.ireturn, 1) := by decide +kernel
theorem dX8_refusesMove_17 : decode cX8_refusesMove 17 = .ok (.aload_n 0, 1) := by decide +kernel
theorem dX8_refusesMove_18 : decode cX8_refusesMove 18 = .ok (.iload_n 1, 1) := by decide +kernel
theorem dX8_refusesMove_19 : decode cX8_refusesMove 19 = .ok (.invokevirtual 139, 3) := by decide +kernel
theorem dX8_refusesMove_22 : decode cX8_refusesMove 22 = .ok (.ifCond .ne 6, 3) := by decide +kernel
theorem dX8_refusesMove_25 : decode cX8_refusesMove 25 = .ok (.bipush (-4), 2) := by decide +kernel
theorem dX8_refusesMove_27 : decode cX8_refusesMove 27 = .ok (.ireturn, 1) := by decide +kernel
theorem dX8_refusesMove_28 : decode cX8_refusesMove 28 = .ok (.aload_n 0, 1) := by decide +kernel
theorem dX8_refusesMove_29 : decode cX8_refusesMove 29 = .ok (.iload_n 1, 1) := by decide +kernel
theorem dX8_refusesMove_30 : decode cX8_refusesMove 30 = .ok (.iconst 2, 1) := by decide +kernel
theorem dX8_refusesMove_31 : decode cX8_refusesMove 31 = .ok (.invokevirtual 52, 3) := by decide +kernel
theorem dX8_refusesMove_34 : decode cX8_refusesMove 34 = .ok (.iload_n 2, 1) := by decide +kernel
theorem dX8_refusesMove_35 : decode cX8_refusesMove 35 = .ok (.if_icmp .ne 6, 3) := by decide +kernel
theorem dX8_refusesMove_38 : decode cX8_refusesMove 38 = .ok (.bipush (-5), 2) := by decide +kernel
theorem dX8_refusesMove_40 : decode cX8_refusesMove 40 = .ok (.ireturn, 1) := by decide +kernel
theorem dX8_refusesMove_41 : decode cX8_refusesMove 41 = .ok (.aload_n 0, 1) := by decide +kernel
theorem dX8_refusesMove_42 : decode cX8_refusesMove 42 = .ok (.iload_n 1, 1) := by decide +kernel
theorem dX8_refusesMove_43 : decode cX8_refusesMove 43 = .ok (.invokevirtual 142, 3) := by decide +kernel
theorem dX8_refusesMove_46 : decode cX8_refusesMove 46 = .ok (.aload_n 0, 1) := by decide +kernel
theorem dX8_refusesMove_47 : decode cX8_refusesMove 47 = .ok (.iload_n 1, 1) := by decide +kernel
theorem dX8_refusesMove_48 : decode cX8_refusesMove 48 = .ok (.iload_n 2, 1) := by decide +kernel
theorem dX8_refusesMove_49 : decode cX8_refusesMove 49 = .ok (.invokevirtual 145, 3) := by decide +kernel
theorem dX8_refusesMove_52 : decode cX8_refusesMove 52 = .ok (.ifCond .eq 7, 3) := by decide +kernel
theorem dX8_refusesMove_55 : decode cX8_refusesMove 55 = .ok (.iconst 0, 1) := by decide +kernel
theorem dX8_refusesMove_56 : decode cX8_refusesMove 56 = .ok (.goto 5, 3) := by decide +kernel
theorem dX8_refusesMove_59 : decode cX8_refusesMove 59 = .ok (.bipush (-4), 2) := by decide +kernel
theorem dX8_refusesMove_61 : decode cX8_refusesMove 61 = .ok (.ireturn, 1) := by decide +kernel
theorem dX8_moves_0 : decode cX8_moves 0 = .ok (.aload_n 0, 1) := by decide +kernel
theorem dX8_moves_1 : decode cX8_moves 1 = .ok (.iload_n 1, 1) := by decide +kernel
theorem dX8_moves_2 : decode cX8_moves 2 = .ok (.iconst 3, 1) := by decide +kernel
theorem dX8_moves_3 : decode cX8_moves 3 = .ok (.aload_n 0, 1) := by decide +kernel
theorem dX8_moves_4 : decode cX8_moves 4 = .ok (.iload_n 1, 1) := by decide +kernel
theorem dX8_moves_5 : decode cX8_moves 5 = .ok (.iconst 3, 1) := by decide +kernel
theorem dX8_moves_6 : decode cX8_moves 6 = .ok (.invokevirtual 52, 3) := by decide +kernel
theorem dX8_moves_9 : decode cX8_moves 9 = .ok (.aload_n 0, 1) := by decide +kernel
theorem dX8_moves_10 : decode cX8_moves 10 = .ok (.getfield 25, 3) := by decide +kernel
theorem dX8_moves_13 : decode cX8_moves 13 = .ok (.iload_n 2, 1) := by decide +kernel
theorem dX8_moves_14 : decode cX8_moves 14 = .ok (.iaload, 1) := by decide +kernel
theorem dX8_moves_15 : decode cX8_moves 15 = .ok (.isub, 1) := by decide +kernel
theorem dX8_moves_16 : decode cX8_moves 16 = .ok (.invokevirtual 73, 3) := by decide +kernel
theorem dX8_moves_19 : decode cX8_moves 19 = .ok (.aload_n 0, 1) := by decide +kernel
theorem dX8_moves_20 : decode cX8_moves 20 = .ok (.iload_n 1, 1) := by decide +kernel
theorem dX8_moves_21 : decode cX8_moves 21 = .ok (.iload_n 2, 1) := by decide +kernel
theorem dX8_moves_22 : decode cX8_moves 22 = .ok (.invokevirtual 120, 3) := by decide +kernel
theorem dX8_moves_25 : decode cX8_moves 25 = .ok (.aload_n 0, 1) := by decide +kernel
theorem dX8_moves_26 : decode cX8_moves 26 = .ok (.iload_n 1, 1) := by decide +kernel
theorem dX8_moves_27 : decode cX8_moves 27 = .ok (.iconst 3, 1) := by decide +kernel
theorem dX8_moves_28 : decode cX8_moves 28 = .ok (.invokevirtual 52, 3) := by decide +kernel
theorem dX8_moves_31 : decode cX8_moves 31 = .ok (.ireturn, 1) := by decide +kernel
theorem dX8_move_0 : decode cX8_move 0 = .ok (.aload_n 0, 1) := by decide +kernel
theorem dX8_move_1 : decode cX8_move 1 = .ok (.iconst 0, 1) := by decide +kernel
theorem dX8_move_2 : decode cX8_move 2 = .ok (.putfield 44, 3) := by decide +kernel
theorem dX8_move_5 : decode cX8_move 5 = .ok (.aload_n 0, 1) := by decide +kernel
theorem dX8_move_6 : decode cX8_move 6 = .ok (.iload_n 1, 1) := by decide +kernel
theorem dX8_move_7 : decode cX8_move 7 = .ok (.iload_n 2, 1) := by decide +kernel
theorem dX8_move_8 : decode cX8_move 8 = .ok (.invokevirtual 148, 3) := by decide +kernel
theorem dX8_move_11 : decode cX8_move 11 = .ok (.istore_n 3, 1) := by decide +kernel
theorem dX8_move_12 : decode cX8_move 12 = .ok (.iload_n 3, 1) := by decide +kernel
theorem dX8_move_13 : decode cX8_move 13 = .ok (.ifCond .eq 5, 3) := by decide +kernel
theorem dX8_move_16 : decode cX8_move 16 = .ok (.iload_n 3, 1) := by decide +kernel
theorem dX8_move_17 : decode cX8_move 17 = .ok (.ireturn, 1) := by decide +kernel
theorem dX8_move_18 : decode cX8_move 18 = .ok (.aload_n 0, 1) := by decide +kernel
theorem dX8_move_19 : decode cX8_move 19 = .ok (.invokevirtual 127, 3) := by decide +kernel
theorem dX8_move_22 : decode cX8_move 22 = .ok (.aload_n 0, 1) := by decide +kernel
theorem dX8_move_23 : decode cX8_move 23 = .ok (.iload_n 1, 1) := by decide +kernel
theorem dX8_move_24 : decode cX8_move 24 = .ok (.iload_n 2, 1) := by decide +kernel
theorem dX8_move_25 : decode cX8_move 25 = .ok (.invokevirtual 151, 3) := by decide +kernel
theorem dX8_move_28 : decode cX8_move 28 = .ok (.ireturn, 1) := by decide +kernel
theorem dX8_refusesAttack_0 : decode cX8_refusesAttack 0 = .ok (.aload_n 0, 1) := by decide +kernel
theorem dX8_refusesAttack_1 : decode cX8_refusesAttack 1 = .ok (.iload_n 1, 1) := by decide +kernel
theorem dX8_refusesAttack_2 : decode cX8_refusesAttack 2 = .ok (.invokevirtual 136, 3) := by decide +kernel
theorem dX8_refusesAttack_5 : decode cX8_refusesAttack 5 = .ok (.ifCond .eq 10, 3) := by decide +kernel
theorem dX8_refusesAttack_8 : decode cX8_refusesAttack 8 = .ok (.iload_n 2, 1) := by decide +kernel
theorem dX8_refusesAttack_9 : decode cX8_refusesAttack 9 = .ok (.invokestatic 124, 3) := by decide +kernel
theorem dX8_refusesAttack_12 : decode cX8_refusesAttack 12 = .ok (.ifCond .ne 5, 3) := by decide +kernel
theorem dX8_refusesAttack_15 : decode cX8_refusesAttack 15 = .ok (.iconst (-1), 1) := by decide +kernel
theorem dX8_refusesAttack_16 : decode cX8_refusesAttack 16 = .ok (.ireturn, 1) := by decide +kernel
theorem dX8_refusesAttack_17 : decode cX8_refusesAttack 17 = .ok (.aload_n 0, 1) := by decide +kernel
theorem dX8_refusesAttack_18 : decode cX8_refusesAttack 18 = .ok (.iload_n 1, 1) := by decide +kernel
theorem dX8_refusesAttack_19 : decode cX8_refusesAttack 19 = .ok (.invokevirtual 139, 3) := by decide +kernel
theorem dX8_refusesAttack_22 : decode cX8_refusesAttack 22 = .ok (.ifCond .eq 26, 3) := by decide +kernel
theorem dX8_refusesAttack_25 : decode cX8_refusesAttack 25 = .ok (.aload_n 0, 1) := by decide +kernel
theorem dX8_refusesAttack_26 : decode cX8_refusesAttack 26 = .ok (.iload_n 1, 1) := by decide +kernel
theorem dX8_refusesAttack_27 : decode cX8_refusesAttack 27 = .ok (.iconst 4, 1) := by decide +kernel
theorem dX8_refusesAttack_28 : decode cX8_refusesAttack 28 = .ok (.invokevirtual 52, 3) := by decide +kernel
theorem dX8_refusesAttack_31 : decode cX8_refusesAttack 31 = .ok (.iconst 1, 1) := by decide +kernel
theorem dX8_refusesAttack_32 : decode cX8_refusesAttack 32 = .ok (.if_icmp .ne 16, 3) := by decide +kernel
theorem dX8_refusesAttack_35 : decode cX8_refusesAttack 35 = .ok (.aload_n 0, 1) := by decide +kernel
theorem dX8_refusesAttack_36 : decode cX8_refusesAttack 36 = .ok (.iload_n 1, 1) := by decide +kernel
theorem dX8_refusesAttack_37 : decode cX8_refusesAttack 37 = .ok (.iload_n 2, 1) := by decide +kernel
theorem dX8_refusesAttack_38 : decode cX8_refusesAttack 38 = .ok (.invokevirtual 154, 3) := by decide +kernel
theorem dX8_refusesAttack_41 : decode cX8_refusesAttack 41 = .ok (.ifCond .eq 7, 3) := by decide +kernel
theorem dX8_refusesAttack_44 : decode cX8_refusesAttack 44 = .ok (.iconst 0, 1) := by decide +kernel
theorem dX8_refusesAttack_45 : decode cX8_refusesAttack 45 = .ok (.goto 5, 3) := by decide +kernel
theorem dX8_refusesAttack_48 : decode cX8_refusesAttack 48 = .ok (.bipush (-4), 2) := by decide +kernel
theorem dX8_refusesAttack_50 : decode cX8_refusesAttack 50 = .ok (.ireturn, 1) := by decide +kernel
theorem dX8_attack_0 : decode cX8_attack 0 = .ok (.aload_n 0, 1) := by decide +kernel
theorem dX8_attack_1 : decode cX8_attack 1 = .ok (.iconst 0, 1) := by decide +kernel
theorem dX8_attack_2 : decode cX8_attack 2 = .ok (.putfield 44, 3) := by decide +kernel
theorem dX8_attack_5 : decode cX8_attack 5 = .ok (.aload_n 0, 1) := by decide +kernel
theorem dX8_attack_6 : decode cX8_attack 6 = .ok (.iload_n 1, 1) := by decide +kernel
theorem dX8_attack_7 : decode cX8_attack 7 = .ok (.iload_n 2, 1) := by decide +kernel
theorem dX8_attack_8 : decode cX8_attack 8 = .ok (.invokevirtual 157, 3) := by decide +kernel
theorem dX8_attack_11 : decode cX8_attack 11 = .ok (.istore_n 3, 1) := by decide +kernel
theorem dX8_attack_12 : decode cX8_attack 12 = .ok (.iload_n 3, 1) := by decide +kernel
theorem dX8_attack_13 : decode cX8_attack 13 = .ok (.ifCond .eq 5, 3) := by decide +kernel
theorem dX8_attack_16 : decode cX8_attack 16 = .ok (.iload_n 3, 1) := by decide +kernel
theorem dX8_attack_17 : decode cX8_attack 17 = .ok (.ireturn, 1) := by decide +kernel
theorem dX8_attack_18 : decode cX8_attack 18 = .ok (.aload_n 0, 1) := by decide +kernel
theorem dX8_attack_19 : decode cX8_attack 19 = .ok (.invokevirtual 127, 3) := by decide +kernel
theorem dX8_attack_22 : decode cX8_attack 22 = .ok (.aload_n 0, 1) := by decide +kernel
theorem dX8_attack_23 : decode cX8_attack 23 = .ok (.iload_n 1, 1) := by decide +kernel
theorem dX8_attack_24 : decode cX8_attack 24 = .ok (.iload_n 2, 1) := by decide +kernel
theorem dX8_attack_25 : decode cX8_attack 25 = .ok (.invokevirtual 160, 3) := by decide +kernel
theorem dX8_attack_28 : decode cX8_attack 28 = .ok (.ireturn, 1) := by decide +kernel
theorem dX8_ends_0 : decode cX8_ends 0 = .ok (.aload_n 0, 1) := by decide +kernel
theorem dX8_ends_1 : decode cX8_ends 1 = .ok (.getfield 7, 3) := by decide +kernel
theorem dX8_ends_4 : decode cX8_ends 4 = .ok (.sipush 191, 3) := by decide +kernel
theorem dX8_ends_7 : decode cX8_ends 7 = .ok (.iaload, 1) := by decide +kernel
theorem dX8_ends_8 : decode cX8_ends 8 = .ok (.iconst 2, 1) := by decide +kernel
theorem dX8_ends_9 : decode cX8_ends 9 = .ok (.irem, 1) := by decide +kernel
theorem dX8_ends_10 : decode cX8_ends 10 = .ok (.istore_n 1, 1) := by decide +kernel
theorem dX8_ends_11 : decode cX8_ends 11 = .ok (.iconst 0, 1) := by decide +kernel
theorem dX8_ends_12 : decode cX8_ends 12 = .ok (.istore_n 2, 1) := by decide +kernel
theorem dX8_ends_13 : decode cX8_ends 13 = .ok (.iconst 0, 1) := by decide +kernel
theorem dX8_ends_14 : decode cX8_ends 14 = .ok (.istore_n 3, 1) := by decide +kernel
theorem dX8_ends_15 : decode cX8_ends 15 = .ok (.iload_n 3, 1) := by decide +kernel
theorem dX8_ends_16 : decode cX8_ends 16 = .ok (.aload_n 0, 1) := by decide +kernel
theorem dX8_ends_17 : decode cX8_ends 17 = .ok (.getfield 7, 3) := by decide +kernel
theorem dX8_ends_20 : decode cX8_ends 20 = .ok (.sipush 192, 3) := by decide +kernel
theorem dX8_ends_23 : decode cX8_ends 23 = .ok (.iaload, 1) := by decide +kernel
theorem dX8_ends_24 : decode cX8_ends 24 = .ok (.if_icmp .ge 47, 3) := by decide +kernel
theorem dX8_ends_27 : decode cX8_ends 27 = .ok (.aload_n 0, 1) := by decide +kernel
theorem dX8_ends_28 : decode cX8_ends 28 = .ok (.getfield 38, 3) := by decide +kernel
theorem dX8_ends_31 : decode cX8_ends 31 = .ok (.iload_n 3, 1) := by decide +kernel
theorem dX8_ends_32 : decode cX8_ends 32 = .ok (.aload_n 0, 1) := by decide +kernel
theorem dX8_ends_33 : decode cX8_ends 33 = .ok (.iload_n 3, 1) := by decide +kernel
theorem dX8_ends_34 : decode cX8_ends 34 = .ok (.iconst 1, 1) := by decide +kernel
theorem dX8_ends_35 : decode cX8_ends 35 = .ok (.invokevirtual 52, 3) := by decide +kernel
theorem dX8_ends_38 : decode cX8_ends 38 = .ok (.ifCond .le 25, 3) := by decide +kernel
theorem dX8_ends_41 : decode cX8_ends 41 = .ok (.aload_n 0, 1) := by decide +kernel
theorem dX8_ends_42 : decode cX8_ends 42 = .ok (.iload_n 3, 1) := by decide +kernel
theorem dX8_ends_43 : decode cX8_ends 43 = .ok (.iconst 0, 1) := by decide +kernel
theorem dX8_ends_44 : decode cX8_ends 44 = .ok (.invokevirtual 52, 3) := by decide +kernel
theorem dX8_ends_47 : decode cX8_ends 47 = .ok (.iload_n 1, 1) := by decide +kernel
theorem dX8_ends_48 : decode cX8_ends 48 = .ok (.if_icmp .ne 15, 3) := by decide +kernel
theorem dX8_ends_51 : decode cX8_ends 51 = .ok (.aload_n 0, 1) := by decide +kernel
theorem dX8_ends_52 : decode cX8_ends 52 = .ok (.iload_n 3, 1) := by decide +kernel
theorem dX8_ends_53 : decode cX8_ends 53 = .ok (.invokevirtual 104, 3) := by decide +kernel
theorem dX8_ends_56 : decode cX8_ends 56 = .ok (.ifCond .ne 7, 3) := by decide +kernel
theorem dX8_ends_59 : decode cX8_ends 59 = .ok (.iconst 1, 1) := by decide +kernel
theorem dX8_ends_60 : decode cX8_ends 60 = .ok (.goto 4, 3) := by decide +kernel
theorem dX8_ends_63 : decode cX8_ends 63 = .ok (.iconst 0, 1) := by decide +kernel
theorem dX8_ends_64 : decode cX8_ends 64 = .ok (.bastore, 1) := by decide +kernel
theorem dX8_ends_65 : decode cX8_ends 65 = .ok (.iinc 3 1, 3) := by decide +kernel
theorem dX8_ends_68 : decode cX8_ends 68 = .ok (.goto (-53), 3) := by decide +kernel
theorem dX8_ends_71 : decode cX8_ends 71 = .ok (.iconst 0, 1) := by decide +kernel
theorem dX8_ends_72 : decode cX8_ends 72 = .ok (.istore_n 3, 1) := by decide +kernel
theorem dX8_ends_73 : decode cX8_ends 73 = .ok (.iload_n 3, 1) := by decide +kernel
theorem dX8_ends_74 : decode cX8_ends 74 = .ok (.aload_n 0, 1) := by decide +kernel
theorem dX8_ends_75 : decode cX8_ends 75 = .ok (.getfield 7, 3) := by decide +kernel
theorem dX8_ends_78 : decode cX8_ends 78 = .ok (.sipush 192, 3) := by decide +kernel
theorem dX8_ends_81 : decode cX8_ends 81 = .ok (.iaload, 1) := by decide +kernel
theorem dX8_ends_82 : decode cX8_ends 82 = .ok (.if_icmp .ge 132, 3) := by decide +kernel
theorem dX8_ends_85 : decode cX8_ends 85 = .ok (.aload_n 0, 1) := by decide +kernel
theorem dX8_ends_86 : decode cX8_ends 86 = .ok (.iload_n 3, 1) := by decide +kernel
theorem dX8_ends_87 : decode cX8_ends 87 = .ok (.iconst 1, 1) := by decide +kernel
theorem dX8_ends_88 : decode cX8_ends 88 = .ok (.invokevirtual 52, 3) := by decide +kernel
theorem dX8_ends_91 : decode cX8_ends 91 = .ok (.ifCond .le 93, 3) := by decide +kernel
theorem dX8_ends_94 : decode cX8_ends 94 = .ok (.aload_n 0, 1) := by decide +kernel
theorem dX8_ends_95 : decode cX8_ends 95 = .ok (.iload_n 3, 1) := by decide +kernel
theorem dX8_ends_96 : decode cX8_ends 96 = .ok (.iconst 0, 1) := by decide +kernel
theorem dX8_ends_97 : decode cX8_ends 97 = .ok (.invokevirtual 52, 3) := by decide +kernel
theorem dX8_ends_100 : decode cX8_ends 100 = .ok (.iload_n 1, 1) := by decide +kernel
theorem dX8_ends_101 : decode cX8_ends 101 = .ok (.if_icmp .ne 83, 3) := by decide +kernel
theorem dX8_ends_104 : decode cX8_ends 104 = .ok (.aload_n 0, 1) := by decide +kernel
theorem dX8_ends_105 : decode cX8_ends 105 = .ok (.iload_n 3, 1) := by decide +kernel
theorem dX8_ends_106 : decode cX8_ends 106 = .ok (.iconst 5, 1) := by decide +kernel
theorem dX8_ends_107 : decode cX8_ends 107 = .ok (.aload_n 0, 1) := by decide +kernel
theorem dX8_ends_108 : decode cX8_ends 108 = .ok (.getfield 38, 3) := by decide +kernel
theorem dX8_ends_111 : decode cX8_ends 111 = .ok (.iload_n 3, 1) := by decide +kernel
theorem dX8_ends_112 : decode cX8_ends 112 = .ok (.baload, 1) := by decide +kernel
theorem dX8_ends_113 : decode cX8_ends 113 = .ok (.ifCond .eq 14, 3) := by decide +kernel
theorem dX8_ends_116 : decode cX8_ends 116 = .ok (.aload_n 0, 1) := by decide +kernel
theorem dX8_ends_117 : decode cX8_ends 117 = .ok (.iload_n 3, 1) := by decide +kernel
theorem dX8_ends_118 : decode cX8_ends 118 = .ok (.iconst 5, 1) := by decide +kernel
theorem dX8_ends_119 : decode cX8_ends 119 = .ok (.invokevirtual 52, 3) := by decide +kernel
theorem dX8_ends_122 : decode cX8_ends 122 = .ok (.iconst 1, 1) := by decide +kernel
theorem dX8_ends_123 : decode cX8_ends 123 = .ok (.iadd, 1) := by decide +kernel
theorem dX8_ends_124 : decode cX8_ends 124 = .ok (.goto 4, 3) := by decide +kernel
theorem dX8_ends_127 : decode cX8_ends 127 = .ok (.iconst 0, 1) := by decide +kernel
theorem dX8_ends_128 : decode cX8_ends 128 = .ok (.invokevirtual 73, 3) := by decide +kernel
theorem dX8_ends_131 : decode cX8_ends 131 = .ok (.aload_n 0, 1) := by decide +kernel
theorem dX8_ends_132 : decode cX8_ends 132 = .ok (.iload_n 3, 1) := by decide +kernel
theorem dX8_ends_133 : decode cX8_ends 133 = .ok (.iconst 1, 1) := by decide +kernel
theorem dX8_ends_134 : decode cX8_ends 134 = .ok (.aload_n 0, 1) := by decide +kernel
theorem dX8_ends_135 : decode cX8_ends 135 = .ok (.iload_n 3, 1) := by decide +kernel
theorem dX8_ends_136 : decode cX8_ends 136 = .ok (.iconst 5, 1) := by decide +kernel
theorem dX8_ends_137 : decode cX8_ends 137 = .ok (.invokevirtual 52, 3) := by decide +kernel
theorem dX8_ends_140 : decode cX8_ends 140 = .ok (.iconst 1, 1) := by decide +kernel
theorem dX8_ends_141 : decode cX8_ends 141 = .ok (.if_icmp .le 14, 3) := by decide +kernel
theorem dX8_ends_144 : decode cX8_ends 144 = .ok (.aload_n 0, 1) := by decide +kernel
theorem dX8_ends_145 : decode cX8_ends 145 = .ok (.iload_n 3, 1) := by decide +kernel
theorem dX8_ends_146 : decode cX8_ends 146 = .ok (.iconst 1, 1) := by decide +kernel
theorem dX8_ends_147 : decode cX8_ends 147 = .ok (.invokevirtual 52, 3) := by decide +kernel
theorem dX8_ends_150 : decode cX8_ends 150 = .ok (.iconst 1, 1) := by decide +kernel
theorem dX8_ends_151 : decode cX8_ends 151 = .ok (.isub, 1) := by decide +kernel
theorem dX8_ends_152 : decode cX8_ends 152 = .ok (.goto 9, 3) := by decide +kernel
theorem dX8_ends_155 : decode cX8_ends 155 = .ok (.aload_n 0, 1) := by decide +kernel
theorem dX8_ends_156 : decode cX8_ends 156 = .ok (.iload_n 3, 1) := by decide +kernel
theorem dX8_ends_157 : decode cX8_ends 157 = .ok (.iconst 1, 1) := by decide +kernel
theorem dX8_ends_158 : decode cX8_ends 158 = .ok (.invokevirtual 52, 3) := by decide +kernel
theorem dX8_ends_161 : decode cX8_ends 161 = .ok (.invokevirtual 73, 3) := by decide +kernel
theorem dX8_ends_164 : decode cX8_ends 164 = .ok (.iload_n 2, 1) := by decide +kernel
theorem dX8_ends_165 : decode cX8_ends 165 = .ok (.aload_n 0, 1) := by decide +kernel
theorem dX8_ends_166 : decode cX8_ends 166 = .ok (.iload_n 3, 1) := by decide +kernel
theorem dX8_ends_167 : decode cX8_ends 167 = .ok (.iconst 1, 1) := by decide +kernel
theorem dX8_ends_168 : decode cX8_ends 168 = .ok (.invokevirtual 52, 3) := by decide +kernel
theorem dX8_ends_171 : decode cX8_ends 171 = .ok (.ifCond .ne 7, 3) := by decide +kernel
theorem dX8_ends_174 : decode cX8_ends 174 = .ok (.iconst 1, 1) := by decide +kernel
theorem dX8_ends_175 : decode cX8_ends 175 = .ok (.goto 4, 3) := by decide +kernel
theorem dX8_ends_178 : decode cX8_ends 178 = .ok (.iconst 0, 1) := by decide +kernel
theorem dX8_ends_179 : decode cX8_ends 179 = .ok (.iadd, 1) := by decide +kernel
theorem dX8_ends_180 : decode cX8_ends 180 = .ok (.istore_n 2, 1) := by decide +kernel
theorem dX8_ends_181 : decode cX8_ends 181 = .ok (.goto 27, 3) := by decide +kernel
theorem dX8_ends_184 : decode cX8_ends 184 = .ok (.aload_n 0, 1) := by decide +kernel
theorem dX8_ends_185 : decode cX8_ends 185 = .ok (.iload_n 3, 1) := by decide +kernel
theorem dX8_ends_186 : decode cX8_ends 186 = .ok (.iconst 0, 1) := by decide +kernel
theorem dX8_ends_187 : decode cX8_ends 187 = .ok (.invokevirtual 52, 3) := by decide +kernel
theorem dX8_ends_190 : decode cX8_ends 190 = .ok (.iload_n 1, 1) := by decide +kernel
theorem dX8_ends_191 : decode cX8_ends 191 = .ok (.if_icmp .eq 17, 3) := by decide +kernel
theorem dX8_ends_194 : decode cX8_ends 194 = .ok (.aload_n 0, 1) := by decide +kernel
theorem dX8_ends_195 : decode cX8_ends 195 = .ok (.iload_n 3, 1) := by decide +kernel
theorem dX8_ends_196 : decode cX8_ends 196 = .ok (.iconst 3, 1) := by decide +kernel
theorem dX8_ends_197 : decode cX8_ends 197 = .ok (.iconst 4, 1) := by decide +kernel
theorem dX8_ends_198 : decode cX8_ends 198 = .ok (.invokevirtual 73, 3) := by decide +kernel
theorem dX8_ends_201 : decode cX8_ends 201 = .ok (.aload_n 0, 1) := by decide +kernel
theorem dX8_ends_202 : decode cX8_ends 202 = .ok (.iload_n 3, 1) := by decide +kernel
theorem dX8_ends_203 : decode cX8_ends 203 = .ok (.iconst 4, 1) := by decide +kernel
theorem dX8_ends_204 : decode cX8_ends 204 = .ok (.iconst 1, 1) := by decide +kernel
theorem dX8_ends_205 : decode cX8_ends 205 = .ok (.invokevirtual 73, 3) := by decide +kernel
theorem dX8_ends_208 : decode cX8_ends 208 = .ok (.iinc 3 1, 3) := by decide +kernel
theorem dX8_ends_211 : decode cX8_ends 211 = .ok (.goto (-138), 3) := by decide +kernel
theorem dX8_ends_214 : decode cX8_ends 214 = .ok (.aload_n 0, 1) := by decide +kernel
theorem dX8_ends_215 : decode cX8_ends 215 = .ok (.getfield 7, 3) := by decide +kernel
theorem dX8_ends_218 : decode cX8_ends 218 = .ok (.sipush 191, 3) := by decide +kernel
theorem dX8_ends_221 : decode cX8_ends 221 = .ok (.dup2, 1) := by decide +kernel
theorem dX8_ends_222 : decode cX8_ends 222 = .ok (.iaload, 1) := by decide +kernel
theorem dX8_ends_223 : decode cX8_ends 223 = .ok (.iconst 1, 1) := by decide +kernel
theorem dX8_ends_224 : decode cX8_ends 224 = .ok (.iadd, 1) := by decide +kernel
theorem dX8_ends_225 : decode cX8_ends 225 = .ok (.iastore, 1) := by decide +kernel
theorem dX8_ends_226 : decode cX8_ends 226 = .ok (.iload_n 2, 1) := by decide +kernel
theorem dX8_ends_227 : decode cX8_ends 227 = .ok (.ireturn, 1) := by decide +kernel
theorem dX8_endTurn_0 : decode cX8_endTurn 0 = .ok (.aload_n 0, 1) := by decide +kernel
theorem dX8_endTurn_1 : decode cX8_endTurn 1 = .ok (.iconst 0, 1) := by decide +kernel
theorem dX8_endTurn_2 : decode cX8_endTurn 2 = .ok (.putfield 44, 3) := by decide +kernel
theorem dX8_endTurn_5 : decode cX8_endTurn 5 = .ok (.aload_n 0, 1) := by decide +kernel
theorem dX8_endTurn_6 : decode cX8_endTurn 6 = .ok (.getfield 7, 3) := by decide +kernel
theorem dX8_endTurn_9 : decode cX8_endTurn 9 = .ok (.sipush 191, 3) := by decide +kernel
theorem dX8_endTurn_12 : decode cX8_endTurn 12 = .ok (.iaload, 1) := by decide +kernel
theorem dX8_endTurn_13 : decode cX8_endTurn 13 = .ok (.sipush 999, 3) := by decide +kernel
theorem dX8_endTurn_16 : decode cX8_endTurn 16 = .ok (.if_icmp .ne 6, 3) := by decide +kernel
theorem dX8_endTurn_19 : decode cX8_endTurn 19 = .ok (.bipush (-3), 2) := by decide +kernel
theorem dX8_endTurn_21 : decode cX8_endTurn 21 = .ok (.ireturn, 1) := by decide +kernel
theorem dX8_endTurn_22 : decode cX8_endTurn 22 = .ok (.aload_n 0, 1) := by decide +kernel
theorem dX8_endTurn_23 : decode cX8_endTurn 23 = .ok (.invokevirtual 127, 3) := by decide +kernel
theorem dX8_endTurn_26 : decode cX8_endTurn 26 = .ok (.aload_n 0, 1) := by decide +kernel
theorem dX8_endTurn_27 : decode cX8_endTurn 27 = .ok (.invokevirtual 163, 3) := by decide +kernel
theorem dX8_endTurn_30 : decode cX8_endTurn 30 = .ok (.ireturn, 1) := by decide +kernel
theorem dX8_type_0 : decode cX8_type 0 = .ok (.aload_n 0, 1) := by decide +kernel
theorem dX8_type_1 : decode cX8_type 1 = .ok (.iconst 0, 1) := by decide +kernel
theorem dX8_type_2 : decode cX8_type 2 = .ok (.putfield 44, 3) := by decide +kernel
theorem dX8_type_5 : decode cX8_type 5 = .ok (.aload_n 0, 1) := by decide +kernel
theorem dX8_type_6 : decode cX8_type 6 = .ok (.getfield 166, 3) := by decide +kernel
theorem dX8_type_9 : decode cX8_type 9 = .ok (.bipush 60, 2) := by decide +kernel
theorem dX8_type_11 : decode cX8_type 11 = .ok (.if_icmp .ne 6, 3) := by decide +kernel
theorem dX8_type_14 : decode cX8_type 14 = .ok (.bipush (-3), 2) := by decide +kernel
theorem dX8_type_16 : decode cX8_type 16 = .ok (.ireturn, 1) := by decide +kernel
theorem dX8_type_17 : decode cX8_type 17 = .ok (.aload_n 0, 1) := by decide +kernel
theorem dX8_type_18 : decode cX8_type 18 = .ok (.getfield 22, 3) := by decide +kernel
theorem dX8_type_21 : decode cX8_type 21 = .ok (.aload_n 0, 1) := by decide +kernel
theorem dX8_type_22 : decode cX8_type 22 = .ok (.getfield 166, 3) := by decide +kernel
theorem dX8_type_25 : decode cX8_type 25 = .ok (.iload_n 1, 1) := by decide +kernel
theorem dX8_type_26 : decode cX8_type 26 = .ok (.iastore, 1) := by decide +kernel
theorem dX8_type_27 : decode cX8_type 27 = .ok (.aload_n 0, 1) := by decide +kernel
theorem dX8_type_28 : decode cX8_type 28 = .ok (.dup, 1) := by decide +kernel
theorem dX8_type_29 : decode cX8_type 29 = .ok (.getfield 166, 3) := by decide +kernel
theorem dX8_type_32 : decode cX8_type 32 = .ok (.iconst 1, 1) := by decide +kernel
theorem dX8_type_33 : decode cX8_type 33 = .ok (.iadd, 1) := by decide +kernel
theorem dX8_type_34 : decode cX8_type 34 = .ok (.putfield 166, 3) := by decide +kernel
theorem dX8_type_37 : decode cX8_type 37 = .ok (.aload_n 0, 1) := by decide +kernel
theorem dX8_type_38 : decode cX8_type 38 = .ok (.getfield 166, 3) := by decide +kernel
theorem dX8_type_41 : decode cX8_type 41 = .ok (.ireturn, 1) := by decide +kernel
theorem dX8_clearText_0 : decode cX8_clearText 0 = .ok (.aload_n 0, 1) := by decide +kernel
theorem dX8_clearText_1 : decode cX8_clearText 1 = .ok (.iconst 0, 1) := by decide +kernel
theorem dX8_clearText_2 : decode cX8_clearText 2 = .ok (.putfield 44, 3) := by decide +kernel
theorem dX8_clearText_5 : decode cX8_clearText 5 = .ok (.aload_n 0, 1) := by decide +kernel
theorem dX8_clearText_6 : decode cX8_clearText 6 = .ok (.getfield 166, 3) := by decide +kernel
theorem dX8_clearText_9 : decode cX8_clearText 9 = .ok (.istore_n 1, 1) := by decide +kernel
theorem dX8_clearText_10 : decode cX8_clearText 10 = .ok (.aload_n 0, 1) := by decide +kernel
theorem dX8_clearText_11 : decode cX8_clearText 11 = .ok (.iconst 0, 1) := by decide +kernel
theorem dX8_clearText_12 : decode cX8_clearText 12 = .ok (.putfield 166, 3) := by decide +kernel
theorem dX8_clearText_15 : decode cX8_clearText 15 = .ok (.iload_n 1, 1) := by decide +kernel
theorem dX8_clearText_16 : decode cX8_clearText 16 = .ok (.ireturn, 1) := by decide +kernel
theorem dX8_sign_0 : decode cX8_sign 0 = .ok (.aload_n 0, 1) := by decide +kernel
theorem dX8_sign_1 : decode cX8_sign 1 = .ok (.getfield 169, 3) := by decide +kernel
theorem dX8_sign_4 : decode cX8_sign 4 = .ok (.aload_n 0, 1) := by decide +kernel
theorem dX8_sign_5 : decode cX8_sign 5 = .ok (.getfield 166, 3) := by decide +kernel
theorem dX8_sign_8 : decode cX8_sign 8 = .ok (.if_icmp .ge 15, 3) := by decide +kernel
theorem dX8_sign_11 : decode cX8_sign 11 = .ok (.aload_n 0, 1) := by decide +kernel
theorem dX8_sign_12 : decode cX8_sign 12 = .ok (.getfield 22, 3) := by decide +kernel
theorem dX8_sign_15 : decode cX8_sign 15 = .ok (.aload_n 0, 1) := by decide +kernel
theorem dX8_sign_16 : decode cX8_sign 16 = .ok (.getfield 169, 3) := by decide +kernel
theorem dX8_sign_19 : decode cX8_sign 19 = .ok (.iaload, 1) := by decide +kernel
theorem dX8_sign_20 : decode cX8_sign 20 = .ok (.goto 4, 3) := by decide +kernel
theorem dX8_sign_23 : decode cX8_sign 23 = .ok (.iconst 0, 1) := by decide +kernel
theorem dX8_sign_24 : decode cX8_sign 24 = .ok (.ireturn, 1) := by decide +kernel
theorem dX8_takes_0 : decode cX8_takes 0 = .ok (.aload_n 0, 1) := by decide +kernel
theorem dX8_takes_1 : decode cX8_takes 1 = .ok (.aload_n 0, 1) := by decide +kernel
theorem dX8_takes_2 : decode cX8_takes 2 = .ok (.getfield 172, 3) := by decide +kernel
theorem dX8_takes_5 : decode cX8_takes 5 = .ok (.ifCond .eq 19, 3) := by decide +kernel
theorem dX8_takes_8 : decode cX8_takes 8 = .ok (.aload_n 0, 1) := by decide +kernel
theorem dX8_takes_9 : decode cX8_takes 9 = .ok (.invokevirtual 176, 3) := by decide +kernel
theorem dX8_takes_12 : decode cX8_takes 12 = .ok (.iload_n 1, 1) := by decide +kernel
theorem dX8_takes_13 : decode cX8_takes 13 = .ok (.iload_n 2, 1) := by decide +kernel
theorem dX8_takes_14 : decode cX8_takes 14 = .ok (.invokestatic 48, 3) := by decide +kernel
theorem dX8_takes_17 : decode cX8_takes 17 = .ok (.ifCond .eq 7, 3) := by decide +kernel
theorem dX8_takes_20 : decode cX8_takes 20 = .ok (.iconst 1, 1) := by decide +kernel
theorem dX8_takes_21 : decode cX8_takes 21 = .ok (.goto 4, 3) := by decide +kernel
theorem dX8_takes_24 : decode cX8_takes 24 = .ok (.iconst 0, 1) := by decide +kernel
theorem dX8_takes_25 : decode cX8_takes 25 = .ok (.putfield 172, 3) := by decide +kernel
theorem dX8_takes_28 : decode cX8_takes 28 = .ok (.aload_n 0, 1) := by decide +kernel
theorem dX8_takes_29 : decode cX8_takes 29 = .ok (.invokevirtual 176, 3) := by decide +kernel
theorem dX8_takes_32 : decode cX8_takes 32 = .ok (.iload_n 1, 1) := by decide +kernel
theorem dX8_takes_33 : decode cX8_takes 33 = .ok (.isub, 1) := by decide +kernel
theorem dX8_takes_34 : decode cX8_takes 34 = .ok (.istore_n 3, 1) := by decide +kernel
theorem dX8_takes_35 : decode cX8_takes 35 = .ok (.aload_n 0, 1) := by decide +kernel
theorem dX8_takes_36 : decode cX8_takes 36 = .ok (.dup, 1) := by decide +kernel
theorem dX8_takes_37 : decode cX8_takes 37 = .ok (.getfield 169, 3) := by decide +kernel
theorem dX8_takes_40 : decode cX8_takes 40 = .ok (.aload_n 0, 1) := by decide +kernel
theorem dX8_takes_41 : decode cX8_takes 41 = .ok (.getfield 172, 3) := by decide +kernel
theorem dX8_takes_44 : decode cX8_takes 44 = .ok (.ifCond .eq 7, 3) := by decide +kernel
theorem dX8_takes_47 : decode cX8_takes 47 = .ok (.iconst 1, 1) := by decide +kernel
theorem dX8_takes_48 : decode cX8_takes 48 = .ok (.goto 4, 3) := by decide +kernel
theorem dX8_takes_51 : decode cX8_takes 51 = .ok (.iconst 0, 1) := by decide +kernel
theorem dX8_takes_52 : decode cX8_takes 52 = .ok (.iadd, 1) := by decide +kernel
theorem dX8_takes_53 : decode cX8_takes 53 = .ok (.putfield 169, 3) := by decide +kernel
theorem dX8_takes_56 : decode cX8_takes 56 = .ok (.iload_n 3, 1) := by decide +kernel
theorem dX8_takes_57 : decode cX8_takes 57 = .ok (.ireturn, 1) := by decide +kernel
theorem dX8_readsOrder_0 : decode cX8_readsOrder 0 = .ok (.iconst 2, 1) := by decide +kernel
theorem dX8_readsOrder_1 : decode cX8_readsOrder 1 = .ok (.istore_n 1, 1) := by decide +kernel
theorem dX8_readsOrder_2 : decode cX8_readsOrder 2 = .ok (.iconst 0, 1) := by decide +kernel
theorem dX8_readsOrder_3 : decode cX8_readsOrder 3 = .ok (.istore_n 2, 1) := by decide +kernel
theorem dX8_readsOrder_4 : decode cX8_readsOrder 4 = .ok (.iconst 0, 1) := by decide +kernel
theorem dX8_readsOrder_5 : decode cX8_readsOrder 5 = .ok (.istore_n 3, 1) := by decide +kernel
theorem dX8_readsOrder_6 : decode cX8_readsOrder 6 = .ok (.aload_n 0, 1) := by decide +kernel
theorem dX8_readsOrder_7 : decode cX8_readsOrder 7 = .ok (.invokevirtual 176, 3) := by decide +kernel
theorem dX8_readsOrder_10 : decode cX8_readsOrder 10 = .ok (.bipush 46, 2) := by decide +kernel
theorem dX8_readsOrder_12 : decode cX8_readsOrder 12 = .ok (.if_icmp .ne 16, 3) := by decide +kernel
theorem dX8_readsOrder_15 : decode cX8_readsOrder 15 = .ok (.aload_n 0, 1) := by decide +kernel
theorem dX8_readsOrder_16 : decode cX8_readsOrder 16 = .ok (.dup, 1) := by decide +kernel
theorem dX8_readsOrder_17 : decode cX8_readsOrder 17 = .ok (.getfield 169, 3) := by decide +kernel
theorem dX8_readsOrder_20 : decode cX8_readsOrder 20 = .ok (.iconst 1, 1) := by decide +kernel
theorem dX8_readsOrder_21 : decode cX8_readsOrder 21 = .ok (.iadd, 1) := by decide +kernel
theorem dX8_readsOrder_22 : decode cX8_readsOrder 22 = .ok (.putfield 169, 3) := by decide +kernel
theorem dX8_readsOrder_25 : decode cX8_readsOrder 25 = .ok (.goto 149, 3) := by decide +kernel
theorem dX8_readsOrder_28 : decode cX8_readsOrder 28 = .ok (.aload_n 0, 1) := by decide +kernel
theorem dX8_readsOrder_29 : decode cX8_readsOrder 29 = .ok (.bipush 48, 2) := by decide +kernel
theorem dX8_readsOrder_31 : decode cX8_readsOrder 31 = .ok (.bipush 57, 2) := by decide +kernel
theorem dX8_readsOrder_33 : decode cX8_readsOrder 33 = .ok (.invokevirtual 179, 3) := by decide +kernel
theorem dX8_readsOrder_36 : decode cX8_readsOrder 36 = .ok (.istore_n 2, 1) := by decide +kernel
theorem dX8_readsOrder_37 : decode cX8_readsOrder 37 = .ok (.aload_n 0, 1) := by decide +kernel
theorem dX8_readsOrder_38 : decode cX8_readsOrder 38 = .ok (.getfield 172, 3) := by decide +kernel
theorem dX8_readsOrder_41 : decode cX8_readsOrder 41 = .ok (.ifCond .eq 36, 3) := by decide +kernel
theorem dX8_readsOrder_44 : decode cX8_readsOrder 44 = .ok (.iload_n 2, 1) := by decide +kernel
theorem dX8_readsOrder_45 : decode cX8_readsOrder 45 = .ok (.iconst 1, 1) := by decide +kernel
theorem dX8_readsOrder_46 : decode cX8_readsOrder 46 = .ok (.if_icmp .ne 31, 3) := by decide +kernel
theorem dX8_readsOrder_49 : decode cX8_readsOrder 49 = .ok (.aload_n 0, 1) := by decide +kernel
theorem dX8_readsOrder_50 : decode cX8_readsOrder 50 = .ok (.invokevirtual 176, 3) := by decide +kernel
theorem dX8_readsOrder_53 : decode cX8_readsOrder 53 = .ok (.bipush 48, 2) := by decide +kernel
theorem dX8_readsOrder_55 : decode cX8_readsOrder 55 = .ok (.bipush 53, 2) := by decide +kernel
theorem dX8_readsOrder_57 : decode cX8_readsOrder 57 = .ok (.invokestatic 48, 3) := by decide +kernel
theorem dX8_readsOrder_60 : decode cX8_readsOrder 60 = .ok (.ifCond .eq 17, 3) := by decide +kernel
theorem dX8_readsOrder_63 : decode cX8_readsOrder 63 = .ok (.bipush 10, 2) := by decide +kernel
theorem dX8_readsOrder_65 : decode cX8_readsOrder 65 = .ok (.aload_n 0, 1) := by decide +kernel
theorem dX8_readsOrder_66 : decode cX8_readsOrder 66 = .ok (.bipush 48, 2) := by decide +kernel
theorem dX8_readsOrder_68 : decode cX8_readsOrder 68 = .ok (.bipush 53, 2) := by decide +kernel
theorem dX8_readsOrder_70 : decode cX8_readsOrder 70 = .ok (.invokevirtual 179, 3) := by decide +kernel
theorem dX8_readsOrder_73 : decode cX8_readsOrder 73 = .ok (.iadd, 1) := by decide +kernel
theorem dX8_readsOrder_74 : decode cX8_readsOrder 74 = .ok (.goto 4, 3) := by decide +kernel
theorem dX8_readsOrder_77 : decode cX8_readsOrder 77 = .ok (.iload_n 2, 1) := by decide +kernel
theorem dX8_readsOrder_78 : decode cX8_readsOrder 78 = .ok (.istore_n 2, 1) := by decide +kernel
theorem dX8_readsOrder_79 : decode cX8_readsOrder 79 = .ok (.aload_n 0, 1) := by decide +kernel
theorem dX8_readsOrder_80 : decode cX8_readsOrder 80 = .ok (.invokevirtual 176, 3) := by decide +kernel
theorem dX8_readsOrder_83 : decode cX8_readsOrder 83 = .ok (.bipush 33, 2) := by decide +kernel
theorem dX8_readsOrder_85 : decode cX8_readsOrder 85 = .ok (.if_icmp .ne 7, 3) := by decide +kernel
theorem dX8_readsOrder_88 : decode cX8_readsOrder 88 = .ok (.iconst 1, 1) := by decide +kernel
theorem dX8_readsOrder_89 : decode cX8_readsOrder 89 = .ok (.goto 4, 3) := by decide +kernel
theorem dX8_readsOrder_92 : decode cX8_readsOrder 92 = .ok (.iconst 0, 1) := by decide +kernel
theorem dX8_readsOrder_93 : decode cX8_readsOrder 93 = .ok (.istore_n 1, 1) := by decide +kernel
theorem dX8_readsOrder_94 : decode cX8_readsOrder 94 = .ok (.aload_n 0, 1) := by decide +kernel
theorem dX8_readsOrder_95 : decode cX8_readsOrder 95 = .ok (.aload_n 0, 1) := by decide +kernel
theorem dX8_readsOrder_96 : decode cX8_readsOrder 96 = .ok (.getfield 172, 3) := by decide +kernel
theorem dX8_readsOrder_99 : decode cX8_readsOrder 99 = .ok (.ifCond .eq 25, 3) := by decide +kernel
theorem dX8_readsOrder_102 : decode cX8_readsOrder 102 = .ok (.aload_n 0, 1) := by decide +kernel
theorem dX8_readsOrder_103 : decode cX8_readsOrder 103 = .ok (.invokevirtual 176, 3) := by decide +kernel
theorem dX8_readsOrder_106 : decode cX8_readsOrder 106 = .ok (.bipush 62, 2) := by decide +kernel
theorem dX8_readsOrder_108 : decode cX8_readsOrder 108 = .ok (.if_icmp .eq 12, 3) := by decide +kernel
theorem dX8_readsOrder_111 : decode cX8_readsOrder 111 = .ok (.aload_n 0, 1) := by decide +kernel
theorem dX8_readsOrder_112 : decode cX8_readsOrder 112 = .ok (.invokevirtual 176, 3) := by decide +kernel
theorem dX8_readsOrder_115 : decode cX8_readsOrder 115 = .ok (.bipush 33, 2) := by decide +kernel
theorem dX8_readsOrder_117 : decode cX8_readsOrder 117 = .ok (.if_icmp .ne 7, 3) := by decide +kernel
theorem dX8_readsOrder_120 : decode cX8_readsOrder 120 = .ok (.iconst 1, 1) := by decide +kernel
theorem dX8_readsOrder_121 : decode cX8_readsOrder 121 = .ok (.goto 4, 3) := by decide +kernel
theorem dX8_readsOrder_124 : decode cX8_readsOrder 124 = .ok (.iconst 0, 1) := by decide +kernel
theorem dX8_readsOrder_125 : decode cX8_readsOrder 125 = .ok (.putfield 172, 3) := by decide +kernel
theorem dX8_readsOrder_128 : decode cX8_readsOrder 128 = .ok (.aload_n 0, 1) := by decide +kernel
theorem dX8_readsOrder_129 : decode cX8_readsOrder 129 = .ok (.dup, 1) := by decide +kernel
theorem dX8_readsOrder_130 : decode cX8_readsOrder 130 = .ok (.getfield 169, 3) := by decide +kernel
theorem dX8_readsOrder_133 : decode cX8_readsOrder 133 = .ok (.aload_n 0, 1) := by decide +kernel
theorem dX8_readsOrder_134 : decode cX8_readsOrder 134 = .ok (.getfield 172, 3) := by decide +kernel
theorem dX8_readsOrder_137 : decode cX8_readsOrder 137 = .ok (.ifCond .eq 7, 3) := by decide +kernel
theorem dX8_readsOrder_140 : decode cX8_readsOrder 140 = .ok (.iconst 1, 1) := by decide +kernel
theorem dX8_readsOrder_141 : decode cX8_readsOrder 141 = .ok (.goto 4, 3) := by decide +kernel
theorem dX8_readsOrder_144 : decode cX8_readsOrder 144 = .ok (.iconst 0, 1) := by decide +kernel
theorem dX8_readsOrder_145 : decode cX8_readsOrder 145 = .ok (.iadd, 1) := by decide +kernel
theorem dX8_readsOrder_146 : decode cX8_readsOrder 146 = .ok (.putfield 169, 3) := by decide +kernel
theorem dX8_readsOrder_149 : decode cX8_readsOrder 149 = .ok (.aload_n 0, 1) := by decide +kernel
theorem dX8_readsOrder_150 : decode cX8_readsOrder 150 = .ok (.bipush 97, 2) := by decide +kernel
theorem dX8_readsOrder_152 : decode cX8_readsOrder 152 = .ok (.bipush 105, 2) := by decide +kernel
theorem dX8_readsOrder_154 : decode cX8_readsOrder 154 = .ok (.invokevirtual 179, 3) := by decide +kernel
theorem dX8_readsOrder_157 : decode cX8_readsOrder 157 = .ok (.istore 4, 2) := by decide +kernel
theorem dX8_readsOrder_159 : decode cX8_readsOrder 159 = .ok (.bipush 9, 2) := by decide +kernel
theorem dX8_readsOrder_161 : decode cX8_readsOrder 161 = .ok (.aload_n 0, 1) := by decide +kernel
theorem dX8_readsOrder_162 : decode cX8_readsOrder 162 = .ok (.bipush 49, 2) := by decide +kernel
theorem dX8_readsOrder_164 : decode cX8_readsOrder 164 = .ok (.bipush 55, 2) := by decide +kernel
theorem dX8_readsOrder_166 : decode cX8_readsOrder 166 = .ok (.invokevirtual 179, 3) := by decide +kernel
theorem dX8_readsOrder_169 : decode cX8_readsOrder 169 = .ok (.imul, 1) := by decide +kernel
theorem dX8_readsOrder_170 : decode cX8_readsOrder 170 = .ok (.iload 4, 2) := by decide +kernel
theorem dX8_readsOrder_172 : decode cX8_readsOrder 172 = .ok (.iadd, 1) := by decide +kernel
theorem dX8_readsOrder_173 : decode cX8_readsOrder 173 = .ok (.istore_n 3, 1) := by decide +kernel
theorem dX8_readsOrder_174 : decode cX8_readsOrder 174 = .ok (.aload_n 0, 1) := by decide +kernel
theorem dX8_readsOrder_175 : decode cX8_readsOrder 175 = .ok (.getfield 172, 3) := by decide +kernel
theorem dX8_readsOrder_178 : decode cX8_readsOrder 178 = .ok (.ifCond .eq 53, 3) := by decide +kernel
theorem dX8_readsOrder_181 : decode cX8_readsOrder 181 = .ok (.aload_n 0, 1) := by decide +kernel
theorem dX8_readsOrder_182 : decode cX8_readsOrder 182 = .ok (.getfield 41, 3) := by decide +kernel
theorem dX8_readsOrder_185 : decode cX8_readsOrder 185 = .ok (.iconst 3, 1) := by decide +kernel
theorem dX8_readsOrder_186 : decode cX8_readsOrder 186 = .ok (.aload_n 0, 1) := by decide +kernel
theorem dX8_readsOrder_187 : decode cX8_readsOrder 187 = .ok (.getfield 182, 3) := by decide +kernel
theorem dX8_readsOrder_190 : decode cX8_readsOrder 190 = .ok (.imul, 1) := by decide +kernel
theorem dX8_readsOrder_191 : decode cX8_readsOrder 191 = .ok (.iload_n 1, 1) := by decide +kernel
theorem dX8_readsOrder_192 : decode cX8_readsOrder 192 = .ok (.iastore, 1) := by decide +kernel
theorem dX8_readsOrder_193 : decode cX8_readsOrder 193 = .ok (.aload_n 0, 1) := by decide +kernel
theorem dX8_readsOrder_194 : decode cX8_readsOrder 194 = .ok (.getfield 41, 3) := by decide +kernel
theorem dX8_readsOrder_197 : decode cX8_readsOrder 197 = .ok (.iconst 3, 1) := by decide +kernel
theorem dX8_readsOrder_198 : decode cX8_readsOrder 198 = .ok (.aload_n 0, 1) := by decide +kernel
theorem dX8_readsOrder_199 : decode cX8_readsOrder 199 = .ok (.getfield 182, 3) := by decide +kernel
theorem dX8_readsOrder_202 : decode cX8_readsOrder 202 = .ok (.imul, 1) := by decide +kernel
theorem dX8_readsOrder_203 : decode cX8_readsOrder 203 = .ok (.iconst 1, 1) := by decide +kernel
theorem dX8_readsOrder_204 : decode cX8_readsOrder 204 = .ok (.iadd, 1) := by decide +kernel
theorem dX8_readsOrder_205 : decode cX8_readsOrder 205 = .ok (.iload_n 2, 1) := by decide +kernel
theorem dX8_readsOrder_206 : decode cX8_readsOrder 206 = .ok (.iastore, 1) := by decide +kernel
theorem dX8_readsOrder_207 : decode cX8_readsOrder 207 = .ok (.aload_n 0, 1) := by decide +kernel
theorem dX8_readsOrder_208 : decode cX8_readsOrder 208 = .ok (.getfield 41, 3) := by decide +kernel
theorem dX8_readsOrder_211 : decode cX8_readsOrder 211 = .ok (.iconst 3, 1) := by decide +kernel
theorem dX8_readsOrder_212 : decode cX8_readsOrder 212 = .ok (.aload_n 0, 1) := by decide +kernel
theorem dX8_readsOrder_213 : decode cX8_readsOrder 213 = .ok (.getfield 182, 3) := by decide +kernel
theorem dX8_readsOrder_216 : decode cX8_readsOrder 216 = .ok (.imul, 1) := by decide +kernel
theorem dX8_readsOrder_217 : decode cX8_readsOrder 217 = .ok (.iconst 2, 1) := by decide +kernel
theorem dX8_readsOrder_218 : decode cX8_readsOrder 218 = .ok (.iadd, 1) := by decide +kernel
theorem dX8_readsOrder_219 : decode cX8_readsOrder 219 = .ok (.iload_n 3, 1) := by decide +kernel
theorem dX8_readsOrder_220 : decode cX8_readsOrder 220 = .ok (.iastore, 1) := by decide +kernel
theorem dX8_readsOrder_221 : decode cX8_readsOrder 221 = .ok (.aload_n 0, 1) := by decide +kernel
theorem dX8_readsOrder_222 : decode cX8_readsOrder 222 = .ok (.dup, 1) := by decide +kernel
theorem dX8_readsOrder_223 : decode cX8_readsOrder 223 = .ok (.getfield 182, 3) := by decide +kernel
theorem dX8_readsOrder_226 : decode cX8_readsOrder 226 = .ok (.iconst 1, 1) := by decide +kernel
theorem dX8_readsOrder_227 : decode cX8_readsOrder 227 = .ok (.iadd, 1) := by decide +kernel
theorem dX8_readsOrder_228 : decode cX8_readsOrder 228 = .ok (.putfield 182, 3) := by decide +kernel
theorem dX8_readsOrder_231 : decode cX8_readsOrder 231 = .ok (.return_, 1) := by decide +kernel
theorem dX8_reads_0 : decode cX8_reads 0 = .ok (.aload_n 0, 1) := by decide +kernel
theorem dX8_reads_1 : decode cX8_reads 1 = .ok (.iconst 0, 1) := by decide +kernel
theorem dX8_reads_2 : decode cX8_reads 2 = .ok (.putfield 169, 3) := by decide +kernel
theorem dX8_reads_5 : decode cX8_reads 5 = .ok (.aload_n 0, 1) := by decide +kernel
theorem dX8_reads_6 : decode cX8_reads 6 = .ok (.iconst 1, 1) := by decide +kernel
theorem dX8_reads_7 : decode cX8_reads 7 = .ok (.putfield 172, 3) := by decide +kernel
theorem dX8_reads_10 : decode cX8_reads 10 = .ok (.aload_n 0, 1) := by decide +kernel
theorem dX8_reads_11 : decode cX8_reads 11 = .ok (.iconst 0, 1) := by decide +kernel
theorem dX8_reads_12 : decode cX8_reads 12 = .ok (.putfield 182, 3) := by decide +kernel
theorem dX8_reads_15 : decode cX8_reads 15 = .ok (.aload_n 0, 1) := by decide +kernel
theorem dX8_reads_16 : decode cX8_reads 16 = .ok (.invokevirtual 185, 3) := by decide +kernel
theorem dX8_reads_19 : decode cX8_reads 19 = .ok (.aload_n 0, 1) := by decide +kernel
theorem dX8_reads_20 : decode cX8_reads 20 = .ok (.getfield 172, 3) := by decide +kernel
theorem dX8_reads_23 : decode cX8_reads 23 = .ok (.ifCond .eq 37, 3) := by decide +kernel
theorem dX8_reads_26 : decode cX8_reads 26 = .ok (.aload_n 0, 1) := by decide +kernel
theorem dX8_reads_27 : decode cX8_reads 27 = .ok (.getfield 169, 3) := by decide +kernel
theorem dX8_reads_30 : decode cX8_reads 30 = .ok (.aload_n 0, 1) := by decide +kernel
theorem dX8_reads_31 : decode cX8_reads 31 = .ok (.getfield 166, 3) := by decide +kernel
theorem dX8_reads_34 : decode cX8_reads 34 = .ok (.if_icmp .ge 26, 3) := by decide +kernel
theorem dX8_reads_37 : decode cX8_reads 37 = .ok (.aload_n 0, 1) := by decide +kernel
theorem dX8_reads_38 : decode cX8_reads 38 = .ok (.bipush 59, 2) := by decide +kernel
theorem dX8_reads_40 : decode cX8_reads 40 = .ok (.bipush 59, 2) := by decide +kernel
theorem dX8_reads_42 : decode cX8_reads 42 = .ok (.invokevirtual 179, 3) := by decide +kernel
theorem dX8_reads_45 : decode cX8_reads 45 = .ok (.pop, 1) := by decide +kernel
theorem dX8_reads_46 : decode cX8_reads 46 = .ok (.aload_n 0, 1) := by decide +kernel
theorem dX8_reads_47 : decode cX8_reads 47 = .ok (.getfield 172, 3) := by decide +kernel
theorem dX8_reads_50 : decode cX8_reads 50 = .ok (.ifCond .eq (-31), 3) := by decide +kernel
theorem dX8_reads_53 : decode cX8_reads 53 = .ok (.aload_n 0, 1) := by decide +kernel
theorem dX8_reads_54 : decode cX8_reads 54 = .ok (.invokevirtual 185, 3) := by decide +kernel
theorem dX8_reads_57 : decode cX8_reads 57 = .ok (.goto (-38), 3) := by decide +kernel
theorem dX8_reads_60 : decode cX8_reads 60 = .ok (.aload_n 0, 1) := by decide +kernel
theorem dX8_reads_61 : decode cX8_reads 61 = .ok (.getfield 172, 3) := by decide +kernel
theorem dX8_reads_64 : decode cX8_reads 64 = .ok (.ifCond .eq 8, 3) := by decide +kernel
theorem dX8_reads_67 : decode cX8_reads 67 = .ok (.bipush (-5), 2) := by decide +kernel
theorem dX8_reads_69 : decode cX8_reads 69 = .ok (.goto 7, 3) := by decide +kernel
theorem dX8_reads_72 : decode cX8_reads 72 = .ok (.aload_n 0, 1) := by decide +kernel
theorem dX8_reads_73 : decode cX8_reads 73 = .ok (.getfield 169, 3) := by decide +kernel
theorem dX8_reads_76 : decode cX8_reads 76 = .ok (.ireturn, 1) := by decide +kernel
theorem dX8_does_0 : decode cX8_does 0 = .ok (.aload_n 0, 1) := by decide +kernel
theorem dX8_does_1 : decode cX8_does 1 = .ok (.getfield 41, 3) := by decide +kernel
theorem dX8_does_4 : decode cX8_does 4 = .ok (.iconst 3, 1) := by decide +kernel
theorem dX8_does_5 : decode cX8_does 5 = .ok (.iload_n 1, 1) := by decide +kernel
theorem dX8_does_6 : decode cX8_does 6 = .ok (.imul, 1) := by decide +kernel
theorem dX8_does_7 : decode cX8_does 7 = .ok (.iconst 1, 1) := by decide +kernel
theorem dX8_does_8 : decode cX8_does 8 = .ok (.iadd, 1) := by decide +kernel
theorem dX8_does_9 : decode cX8_does 9 = .ok (.iaload, 1) := by decide +kernel
theorem dX8_does_10 : decode cX8_does 10 = .ok (.istore_n 2, 1) := by decide +kernel
theorem dX8_does_11 : decode cX8_does 11 = .ok (.aload_n 0, 1) := by decide +kernel
theorem dX8_does_12 : decode cX8_does 12 = .ok (.getfield 41, 3) := by decide +kernel
theorem dX8_does_15 : decode cX8_does 15 = .ok (.iconst 3, 1) := by decide +kernel
theorem dX8_does_16 : decode cX8_does 16 = .ok (.iload_n 1, 1) := by decide +kernel
theorem dX8_does_17 : decode cX8_does 17 = .ok (.imul, 1) := by decide +kernel
theorem dX8_does_18 : decode cX8_does 18 = .ok (.iconst 2, 1) := by decide +kernel
theorem dX8_does_19 : decode cX8_does 19 = .ok (.iadd, 1) := by decide +kernel
theorem dX8_does_20 : decode cX8_does 20 = .ok (.iaload, 1) := by decide +kernel
theorem dX8_does_21 : decode cX8_does 21 = .ok (.istore_n 3, 1) := by decide +kernel
theorem dX8_does_22 : decode cX8_does 22 = .ok (.iconst 0, 1) := by decide +kernel
theorem dX8_does_23 : decode cX8_does 23 = .ok (.istore 4, 2) := by decide +kernel
theorem dX8_does_25 : decode cX8_does 25 = .ok (.aload_n 0, 1) := by decide +kernel
theorem dX8_does_26 : decode cX8_does 26 = .ok (.getfield 41, 3) := by decide +kernel
theorem dX8_does_29 : decode cX8_does 29 = .ok (.iconst 3, 1) := by decide +kernel
theorem dX8_does_30 : decode cX8_does 30 = .ok (.iload_n 1, 1) := by decide +kernel
theorem dX8_does_31 : decode cX8_does 31 = .ok (.imul, 1) := by decide +kernel
theorem dX8_does_32 : decode cX8_does 32 = .ok (.iaload, 1) := by decide +kernel
theorem dX8_does_33 : decode cX8_does 33 = .ok (.ifCond .ne 26, 3) := by decide +kernel
theorem dX8_does_36 : decode cX8_does 36 = .ok (.aload_n 0, 1) := by decide +kernel
theorem dX8_does_37 : decode cX8_does 37 = .ok (.iload_n 2, 1) := by decide +kernel
theorem dX8_does_38 : decode cX8_does 38 = .ok (.iload_n 3, 1) := by decide +kernel
theorem dX8_does_39 : decode cX8_does 39 = .ok (.invokevirtual 148, 3) := by decide +kernel
theorem dX8_does_42 : decode cX8_does 42 = .ok (.istore 4, 2) := by decide +kernel
theorem dX8_does_44 : decode cX8_does 44 = .ok (.iload 4, 2) := by decide +kernel
theorem dX8_does_46 : decode cX8_does 46 = .ok (.ifCond .ne 74, 3) := by decide +kernel
theorem dX8_does_49 : decode cX8_does 49 = .ok (.aload_n 0, 1) := by decide +kernel
theorem dX8_does_50 : decode cX8_does 50 = .ok (.iload_n 2, 1) := by decide +kernel
theorem dX8_does_51 : decode cX8_does 51 = .ok (.iload_n 3, 1) := by decide +kernel
theorem dX8_does_52 : decode cX8_does 52 = .ok (.invokevirtual 151, 3) := by decide +kernel
theorem dX8_does_55 : decode cX8_does 55 = .ok (.pop, 1) := by decide +kernel
theorem dX8_does_56 : decode cX8_does 56 = .ok (.goto 64, 3) := by decide +kernel
theorem dX8_does_59 : decode cX8_does 59 = .ok (.aload_n 0, 1) := by decide +kernel
theorem dX8_does_60 : decode cX8_does 60 = .ok (.getfield 41, 3) := by decide +kernel
theorem dX8_does_63 : decode cX8_does 63 = .ok (.iconst 3, 1) := by decide +kernel
theorem dX8_does_64 : decode cX8_does 64 = .ok (.iload_n 1, 1) := by decide +kernel
theorem dX8_does_65 : decode cX8_does 65 = .ok (.imul, 1) := by decide +kernel
theorem dX8_does_66 : decode cX8_does 66 = .ok (.iaload, 1) := by decide +kernel
theorem dX8_does_67 : decode cX8_does 67 = .ok (.iconst 1, 1) := by decide +kernel
theorem dX8_does_68 : decode cX8_does 68 = .ok (.if_icmp .ne 26, 3) := by decide +kernel
theorem dX8_does_71 : decode cX8_does 71 = .ok (.aload_n 0, 1) := by decide +kernel
theorem dX8_does_72 : decode cX8_does 72 = .ok (.iload_n 2, 1) := by decide +kernel
theorem dX8_does_73 : decode cX8_does 73 = .ok (.iload_n 3, 1) := by decide +kernel
theorem dX8_does_74 : decode cX8_does 74 = .ok (.invokevirtual 157, 3) := by decide +kernel
theorem dX8_does_77 : decode cX8_does 77 = .ok (.istore 4, 2) := by decide +kernel
theorem dX8_does_79 : decode cX8_does 79 = .ok (.iload 4, 2) := by decide +kernel
theorem dX8_does_81 : decode cX8_does 81 = .ok (.ifCond .ne 39, 3) := by decide +kernel
theorem dX8_does_84 : decode cX8_does 84 = .ok (.aload_n 0, 1) := by decide +kernel
theorem dX8_does_85 : decode cX8_does 85 = .ok (.iload_n 2, 1) := by decide +kernel
theorem dX8_does_86 : decode cX8_does 86 = .ok (.iload_n 3, 1) := by decide +kernel
theorem dX8_does_87 : decode cX8_does 87 = .ok (.invokevirtual 160, 3) := by decide +kernel
theorem dX8_does_90 : decode cX8_does 90 = .ok (.pop, 1) := by decide +kernel
theorem dX8_does_91 : decode cX8_does 91 = .ok (.goto 29, 3) := by decide +kernel
theorem dX8_does_94 : decode cX8_does 94 = .ok (.aload_n 0, 1) := by decide +kernel
theorem dX8_does_95 : decode cX8_does 95 = .ok (.getfield 7, 3) := by decide +kernel
theorem dX8_does_98 : decode cX8_does 98 = .ok (.sipush 191, 3) := by decide +kernel
theorem dX8_does_101 : decode cX8_does 101 = .ok (.iaload, 1) := by decide +kernel
theorem dX8_does_102 : decode cX8_does 102 = .ok (.sipush 999, 3) := by decide +kernel
theorem dX8_does_105 : decode cX8_does 105 = .ok (.if_icmp .ne 10, 3) := by decide +kernel
theorem dX8_does_108 : decode cX8_does 108 = .ok (.bipush (-3), 2) := by decide +kernel
theorem dX8_does_110 : decode cX8_does 110 = .ok (.istore 4, 2) := by decide +kernel
theorem dX8_does_112 : decode cX8_does 112 = .ok (.goto 8, 3) := by decide +kernel
theorem dX8_does_115 : decode cX8_does 115 = .ok (.aload_n 0, 1) := by decide +kernel
theorem dX8_does_116 : decode cX8_does 116 = .ok (.invokevirtual 163, 3) := by decide +kernel
theorem dX8_does_119 : decode cX8_does 119 = .ok (.pop, 1) := by decide +kernel
theorem dX8_does_120 : decode cX8_does 120 = .ok (.iload 4, 2) := by decide +kernel
theorem dX8_does_122 : decode cX8_does 122 = .ok (.bipush (-5), 2) := by decide +kernel
theorem dX8_does_124 : decode cX8_does 124 = .ok (.if_icmp .ne 7, 3) := by decide +kernel
theorem dX8_does_127 : decode cX8_does 127 = .ok (.iconst 0, 1) := by decide +kernel
theorem dX8_does_128 : decode cX8_does 128 = .ok (.goto 5, 3) := by decide +kernel
theorem dX8_does_131 : decode cX8_does 131 = .ok (.iload 4, 2) := by decide +kernel
theorem dX8_does_133 : decode cX8_does 133 = .ok (.ireturn, 1) := by decide +kernel
theorem dX8_perform_0 : decode cX8_perform 0 = .ok (.aload_n 0, 1) := by decide +kernel
theorem dX8_perform_1 : decode cX8_perform 1 = .ok (.iconst 0, 1) := by decide +kernel
theorem dX8_perform_2 : decode cX8_perform 2 = .ok (.putfield 44, 3) := by decide +kernel
theorem dX8_perform_5 : decode cX8_perform 5 = .ok (.aload_n 0, 1) := by decide +kernel
theorem dX8_perform_6 : decode cX8_perform 6 = .ok (.invokevirtual 188, 3) := by decide +kernel
theorem dX8_perform_9 : decode cX8_perform 9 = .ok (.istore_n 1, 1) := by decide +kernel
theorem dX8_perform_10 : decode cX8_perform 10 = .ok (.iload_n 1, 1) := by decide +kernel
theorem dX8_perform_11 : decode cX8_perform 11 = .ok (.bipush (-5), 2) := by decide +kernel
theorem dX8_perform_13 : decode cX8_perform 13 = .ok (.if_icmp .eq 8, 3) := by decide +kernel
theorem dX8_perform_16 : decode cX8_perform 16 = .ok (.bipush (-100), 2) := by decide +kernel
theorem dX8_perform_18 : decode cX8_perform 18 = .ok (.iload_n 1, 1) := by decide +kernel
theorem dX8_perform_19 : decode cX8_perform 19 = .ok (.isub, 1) := by decide +kernel
theorem dX8_perform_20 : decode cX8_perform 20 = .ok (.ireturn, 1) := by decide +kernel
theorem dX8_perform_21 : decode cX8_perform 21 = .ok (.aload_n 0, 1) := by decide +kernel
theorem dX8_perform_22 : decode cX8_perform 22 = .ok (.invokevirtual 191, 3) := by decide +kernel
theorem dX8_perform_25 : decode cX8_perform 25 = .ok (.iconst 0, 1) := by decide +kernel
theorem dX8_perform_26 : decode cX8_perform 26 = .ok (.istore_n 2, 1) := by decide +kernel
theorem dX8_perform_27 : decode cX8_perform 27 = .ok (.iconst 0, 1) := by decide +kernel
theorem dX8_perform_28 : decode cX8_perform 28 = .ok (.istore_n 3, 1) := by decide +kernel
theorem dX8_perform_29 : decode cX8_perform 29 = .ok (.iload_n 3, 1) := by decide +kernel
theorem dX8_perform_30 : decode cX8_perform 30 = .ok (.aload_n 0, 1) := by decide +kernel
theorem dX8_perform_31 : decode cX8_perform 31 = .ok (.getfield 182, 3) := by decide +kernel
theorem dX8_perform_34 : decode cX8_perform 34 = .ok (.if_icmp .ge 19, 3) := by decide +kernel
theorem dX8_perform_37 : decode cX8_perform 37 = .ok (.iload_n 2, 1) := by decide +kernel
theorem dX8_perform_38 : decode cX8_perform 38 = .ok (.ifCond .ne 15, 3) := by decide +kernel
theorem dX8_perform_41 : decode cX8_perform 41 = .ok (.aload_n 0, 1) := by decide +kernel
theorem dX8_perform_42 : decode cX8_perform 42 = .ok (.iload_n 3, 1) := by decide +kernel
theorem dX8_perform_43 : decode cX8_perform 43 = .ok (.invokevirtual 194, 3) := by decide +kernel
theorem dX8_perform_46 : decode cX8_perform 46 = .ok (.istore_n 2, 1) := by decide +kernel
theorem dX8_perform_47 : decode cX8_perform 47 = .ok (.iinc 3 1, 3) := by decide +kernel
theorem dX8_perform_50 : decode cX8_perform 50 = .ok (.goto (-21), 3) := by decide +kernel
theorem dX8_perform_53 : decode cX8_perform 53 = .ok (.aload_n 0, 1) := by decide +kernel
theorem dX8_perform_54 : decode cX8_perform 54 = .ok (.invokevirtual 197, 3) := by decide +kernel
theorem dX8_perform_57 : decode cX8_perform 57 = .ok (.iload_n 2, 1) := by decide +kernel
theorem dX8_perform_58 : decode cX8_perform 58 = .ok (.ifCond .eq 5, 3) := by decide +kernel
theorem dX8_perform_61 : decode cX8_perform 61 = .ok (.iload_n 2, 1) := by decide +kernel
theorem dX8_perform_62 : decode cX8_perform 62 = .ok (.ireturn, 1) := by decide +kernel
theorem dX8_perform_63 : decode cX8_perform 63 = .ok (.aload_n 0, 1) := by decide +kernel
theorem dX8_perform_64 : decode cX8_perform 64 = .ok (.invokevirtual 127, 3) := by decide +kernel
theorem dX8_perform_67 : decode cX8_perform 67 = .ok (.iconst 0, 1) := by decide +kernel
theorem dX8_perform_68 : decode cX8_perform 68 = .ok (.istore_n 3, 1) := by decide +kernel
theorem dX8_perform_69 : decode cX8_perform 69 = .ok (.iload_n 3, 1) := by decide +kernel
theorem dX8_perform_70 : decode cX8_perform 70 = .ok (.aload_n 0, 1) := by decide +kernel
theorem dX8_perform_71 : decode cX8_perform 71 = .ok (.getfield 182, 3) := by decide +kernel
theorem dX8_perform_74 : decode cX8_perform 74 = .ok (.if_icmp .ge 15, 3) := by decide +kernel
theorem dX8_perform_77 : decode cX8_perform 77 = .ok (.aload_n 0, 1) := by decide +kernel
theorem dX8_perform_78 : decode cX8_perform 78 = .ok (.iload_n 3, 1) := by decide +kernel
theorem dX8_perform_79 : decode cX8_perform 79 = .ok (.invokevirtual 194, 3) := by decide +kernel
theorem dX8_perform_82 : decode cX8_perform 82 = .ok (.pop, 1) := by decide +kernel
theorem dX8_perform_83 : decode cX8_perform 83 = .ok (.iinc 3 1, 3) := by decide +kernel
theorem dX8_perform_86 : decode cX8_perform 86 = .ok (.goto (-17), 3) := by decide +kernel
theorem dX8_perform_89 : decode cX8_perform 89 = .ok (.aload_n 0, 1) := by decide +kernel
theorem dX8_perform_90 : decode cX8_perform 90 = .ok (.getfield 182, 3) := by decide +kernel
theorem dX8_perform_93 : decode cX8_perform 93 = .ok (.ireturn, 1) := by decide +kernel
theorem dX8_undo_0 : decode cX8_undo 0 = .ok (.aload_n 0, 1) := by decide +kernel
theorem dX8_undo_1 : decode cX8_undo 1 = .ok (.iconst 0, 1) := by decide +kernel
theorem dX8_undo_2 : decode cX8_undo 2 = .ok (.putfield 44, 3) := by decide +kernel
theorem dX8_undo_5 : decode cX8_undo 5 = .ok (.aload_n 0, 1) := by decide +kernel
theorem dX8_undo_6 : decode cX8_undo 6 = .ok (.getfield 56, 3) := by decide +kernel
theorem dX8_undo_9 : decode cX8_undo 9 = .ok (.ifCond .ne 6, 3) := by decide +kernel
theorem dX8_undo_12 : decode cX8_undo 12 = .ok (.bipush (-5), 2) := by decide +kernel
theorem dX8_undo_14 : decode cX8_undo 14 = .ok (.ireturn, 1) := by decide +kernel
theorem dX8_undo_15 : decode cX8_undo 15 = .ok (.aload_n 0, 1) := by decide +kernel
theorem dX8_undo_16 : decode cX8_undo 16 = .ok (.dup, 1) := by decide +kernel
theorem dX8_undo_17 : decode cX8_undo 17 = .ok (.getfield 56, 3) := by decide +kernel
theorem dX8_undo_20 : decode cX8_undo 20 = .ok (.iconst 1, 1) := by decide +kernel
theorem dX8_undo_21 : decode cX8_undo 21 = .ok (.isub, 1) := by decide +kernel
theorem dX8_undo_22 : decode cX8_undo 22 = .ok (.putfield 56, 3) := by decide +kernel
theorem dX8_undo_25 : decode cX8_undo 25 = .ok (.iconst 0, 1) := by decide +kernel
theorem dX8_undo_26 : decode cX8_undo 26 = .ok (.istore_n 1, 1) := by decide +kernel
theorem dX8_undo_27 : decode cX8_undo 27 = .ok (.iload_n 1, 1) := by decide +kernel
theorem dX8_undo_28 : decode cX8_undo 28 = .ok (.sipush 289, 3) := by decide +kernel
theorem dX8_undo_31 : decode cX8_undo 31 = .ok (.if_icmp .ge 30, 3) := by decide +kernel
theorem dX8_undo_34 : decode cX8_undo 34 = .ok (.aload_n 0, 1) := by decide +kernel
theorem dX8_undo_35 : decode cX8_undo 35 = .ok (.getfield 7, 3) := by decide +kernel
theorem dX8_undo_38 : decode cX8_undo 38 = .ok (.iload_n 1, 1) := by decide +kernel
theorem dX8_undo_39 : decode cX8_undo 39 = .ok (.aload_n 0, 1) := by decide +kernel
theorem dX8_undo_40 : decode cX8_undo 40 = .ok (.getfield 16, 3) := by decide +kernel
theorem dX8_undo_43 : decode cX8_undo 43 = .ok (.sipush 289, 3) := by decide +kernel
theorem dX8_undo_46 : decode cX8_undo 46 = .ok (.aload_n 0, 1) := by decide +kernel
theorem dX8_undo_47 : decode cX8_undo 47 = .ok (.getfield 56, 3) := by decide +kernel
theorem dX8_undo_50 : decode cX8_undo 50 = .ok (.imul, 1) := by decide +kernel
theorem dX8_undo_51 : decode cX8_undo 51 = .ok (.iload_n 1, 1) := by decide +kernel
theorem dX8_undo_52 : decode cX8_undo 52 = .ok (.iadd, 1) := by decide +kernel
theorem dX8_undo_53 : decode cX8_undo 53 = .ok (.iaload, 1) := by decide +kernel
theorem dX8_undo_54 : decode cX8_undo 54 = .ok (.iastore, 1) := by decide +kernel
theorem dX8_undo_55 : decode cX8_undo 55 = .ok (.iinc 1 1, 3) := by decide +kernel
theorem dX8_undo_58 : decode cX8_undo 58 = .ok (.goto (-31), 3) := by decide +kernel
theorem dX8_undo_61 : decode cX8_undo 61 = .ok (.aload_n 0, 1) := by decide +kernel
theorem dX8_undo_62 : decode cX8_undo 62 = .ok (.getfield 56, 3) := by decide +kernel
theorem dX8_undo_65 : decode cX8_undo 65 = .ok (.ireturn, 1) := by decide +kernel
theorem dX8_keep_0 : decode cX8_keep 0 = .ok (.aload_n 0, 1) := by decide +kernel
theorem dX8_keep_1 : decode cX8_keep 1 = .ok (.iconst 0, 1) := by decide +kernel
theorem dX8_keep_2 : decode cX8_keep 2 = .ok (.putfield 44, 3) := by decide +kernel
theorem dX8_keep_5 : decode cX8_keep 5 = .ok (.iconst 0, 1) := by decide +kernel
theorem dX8_keep_6 : decode cX8_keep 6 = .ok (.istore_n 1, 1) := by decide +kernel
theorem dX8_keep_7 : decode cX8_keep 7 = .ok (.iload_n 1, 1) := by decide +kernel
theorem dX8_keep_8 : decode cX8_keep 8 = .ok (.sipush 289, 3) := by decide +kernel
theorem dX8_keep_11 : decode cX8_keep 11 = .ok (.if_icmp .ge 21, 3) := by decide +kernel
theorem dX8_keep_14 : decode cX8_keep 14 = .ok (.aload_n 0, 1) := by decide +kernel
theorem dX8_keep_15 : decode cX8_keep 15 = .ok (.getfield 19, 3) := by decide +kernel
theorem dX8_keep_18 : decode cX8_keep 18 = .ok (.iload_n 1, 1) := by decide +kernel
theorem dX8_keep_19 : decode cX8_keep 19 = .ok (.aload_n 0, 1) := by decide +kernel
theorem dX8_keep_20 : decode cX8_keep 20 = .ok (.getfield 7, 3) := by decide +kernel
theorem dX8_keep_23 : decode cX8_keep 23 = .ok (.iload_n 1, 1) := by decide +kernel
theorem dX8_keep_24 : decode cX8_keep 24 = .ok (.iaload, 1) := by decide +kernel
theorem dX8_keep_25 : decode cX8_keep 25 = .ok (.iastore, 1) := by decide +kernel
theorem dX8_keep_26 : decode cX8_keep 26 = .ok (.iinc 1 1, 3) := by decide +kernel
theorem dX8_keep_29 : decode cX8_keep 29 = .ok (.goto (-22), 3) := by decide +kernel
theorem dX8_keep_32 : decode cX8_keep 32 = .ok (.aload_n 0, 1) := by decide +kernel
theorem dX8_keep_33 : decode cX8_keep 33 = .ok (.iconst 1, 1) := by decide +kernel
theorem dX8_keep_34 : decode cX8_keep 34 = .ok (.putfield 200, 3) := by decide +kernel
theorem dX8_keep_37 : decode cX8_keep 37 = .ok (.aload_n 0, 1) := by decide +kernel
theorem dX8_keep_38 : decode cX8_keep 38 = .ok (.getfield 7, 3) := by decide +kernel
theorem dX8_keep_41 : decode cX8_keep 41 = .ok (.sipush 191, 3) := by decide +kernel
theorem dX8_keep_44 : decode cX8_keep 44 = .ok (.iaload, 1) := by decide +kernel
theorem dX8_keep_45 : decode cX8_keep 45 = .ok (.ireturn, 1) := by decide +kernel
theorem dX8_restore_0 : decode cX8_restore 0 = .ok (.aload_n 0, 1) := by decide +kernel
theorem dX8_restore_1 : decode cX8_restore 1 = .ok (.iconst 0, 1) := by decide +kernel
theorem dX8_restore_2 : decode cX8_restore 2 = .ok (.putfield 44, 3) := by decide +kernel
theorem dX8_restore_5 : decode cX8_restore 5 = .ok (.aload_n 0, 1) := by decide +kernel
theorem dX8_restore_6 : decode cX8_restore 6 = .ok (.getfield 200, 3) := by decide +kernel
theorem dX8_restore_9 : decode cX8_restore 9 = .ok (.ifCond .ne 6, 3) := by decide +kernel
theorem dX8_restore_12 : decode cX8_restore 12 = .ok (.bipush (-5), 2) := by decide +kernel
theorem dX8_restore_14 : decode cX8_restore 14 = .ok (.ireturn, 1) := by decide +kernel
theorem dX8_restore_15 : decode cX8_restore 15 = .ok (.aload_n 0, 1) := by decide +kernel
theorem dX8_restore_16 : decode cX8_restore 16 = .ok (.invokevirtual 127, 3) := by decide +kernel
theorem dX8_restore_19 : decode cX8_restore 19 = .ok (.iconst 0, 1) := by decide +kernel
theorem dX8_restore_20 : decode cX8_restore 20 = .ok (.istore_n 1, 1) := by decide +kernel
theorem dX8_restore_21 : decode cX8_restore 21 = .ok (.iload_n 1, 1) := by decide +kernel
theorem dX8_restore_22 : decode cX8_restore 22 = .ok (.sipush 289, 3) := by decide +kernel
theorem dX8_restore_25 : decode cX8_restore 25 = .ok (.if_icmp .ge 21, 3) := by decide +kernel
theorem dX8_restore_28 : decode cX8_restore 28 = .ok (.aload_n 0, 1) := by decide +kernel
theorem dX8_restore_29 : decode cX8_restore 29 = .ok (.getfield 7, 3) := by decide +kernel
theorem dX8_restore_32 : decode cX8_restore 32 = .ok (.iload_n 1, 1) := by decide +kernel
theorem dX8_restore_33 : decode cX8_restore 33 = .ok (.aload_n 0, 1) := by decide +kernel
theorem dX8_restore_34 : decode cX8_restore 34 = .ok (.getfield 19, 3) := by decide +kernel
theorem dX8_restore_37 : decode cX8_restore 37 = .ok (.iload_n 1, 1) := by decide +kernel
theorem dX8_restore_38 : decode cX8_restore 38 = .ok (.iaload, 1) := by decide +kernel
theorem dX8_restore_39 : decode cX8_restore 39 = .ok (.iastore, 1) := by decide +kernel
theorem dX8_restore_40 : decode cX8_restore 40 = .ok (.iinc 1 1, 3) := by decide +kernel
theorem dX8_restore_43 : decode cX8_restore 43 = .ok (.goto (-22), 3) := by decide +kernel
theorem dX8_restore_46 : decode cX8_restore 46 = .ok (.aload_n 0, 1) := by decide +kernel
theorem dX8_restore_47 : decode cX8_restore 47 = .ok (.getfield 7, 3) := by decide +kernel
theorem dX8_restore_50 : decode cX8_restore 50 = .ok (.sipush 191, 3) := by decide +kernel
theorem dX8_restore_53 : decode cX8_restore 53 = .ok (.iaload, 1) := by decide +kernel
theorem dX8_restore_54 : decode cX8_restore 54 = .ok (.ireturn, 1) := by decide +kernel
theorem dX8_besides_0 : decode cX8_besides 0 = .ok (.iconst 0, 1) := by decide +kernel
theorem dX8_besides_1 : decode cX8_besides 1 = .ok (.istore_n 2, 1) := by decide +kernel
theorem dX8_besides_2 : decode cX8_besides 2 = .ok (.iconst 0, 1) := by decide +kernel
theorem dX8_besides_3 : decode cX8_besides 3 = .ok (.istore_n 3, 1) := by decide +kernel
theorem dX8_besides_4 : decode cX8_besides 4 = .ok (.iload_n 3, 1) := by decide +kernel
theorem dX8_besides_5 : decode cX8_besides 5 = .ok (.bipush 6, 2) := by decide +kernel
theorem dX8_besides_7 : decode cX8_besides 7 = .ok (.if_icmp .ge 27, 3) := by decide +kernel
theorem dX8_besides_10 : decode cX8_besides 10 = .ok (.iload_n 2, 1) := by decide +kernel
theorem dX8_besides_11 : decode cX8_besides 11 = .ok (.iload_n 1, 1) := by decide +kernel
theorem dX8_besides_12 : decode cX8_besides 12 = .ok (.iload_n 3, 1) := by decide +kernel
theorem dX8_besides_13 : decode cX8_besides 13 = .ok (.invokestatic 59, 3) := by decide +kernel
theorem dX8_besides_16 : decode cX8_besides 16 = .ok (.bipush (-5), 2) := by decide +kernel
theorem dX8_besides_18 : decode cX8_besides 18 = .ok (.if_icmp .ne 7, 3) := by decide +kernel
theorem dX8_besides_21 : decode cX8_besides 21 = .ok (.iconst 0, 1) := by decide +kernel
theorem dX8_besides_22 : decode cX8_besides 22 = .ok (.goto 4, 3) := by decide +kernel
theorem dX8_besides_25 : decode cX8_besides 25 = .ok (.iconst 1, 1) := by decide +kernel
theorem dX8_besides_26 : decode cX8_besides 26 = .ok (.iadd, 1) := by decide +kernel
theorem dX8_besides_27 : decode cX8_besides 27 = .ok (.istore_n 2, 1) := by decide +kernel
theorem dX8_besides_28 : decode cX8_besides 28 = .ok (.iinc 3 1, 3) := by decide +kernel
theorem dX8_besides_31 : decode cX8_besides 31 = .ok (.goto (-27), 3) := by decide +kernel
theorem dX8_besides_34 : decode cX8_besides 34 = .ok (.iload_n 2, 1) := by decide +kernel
theorem dX8_besides_35 : decode cX8_besides 35 = .ok (.ireturn, 1) := by decide +kernel
theorem dX8_hex_0 : decode cX8_hex 0 = .ok (.aload_n 0, 1) := by decide +kernel
theorem dX8_hex_1 : decode cX8_hex 1 = .ok (.iconst 0, 1) := by decide +kernel
theorem dX8_hex_2 : decode cX8_hex 2 = .ok (.putfield 44, 3) := by decide +kernel
theorem dX8_hex_5 : decode cX8_hex 5 = .ok (.iload_n 1, 1) := by decide +kernel
theorem dX8_hex_6 : decode cX8_hex 6 = .ok (.invokestatic 124, 3) := by decide +kernel
theorem dX8_hex_9 : decode cX8_hex 9 = .ok (.ifCond .ne 5, 3) := by decide +kernel
theorem dX8_hex_12 : decode cX8_hex 12 = .ok (.iconst (-1), 1) := by decide +kernel
theorem dX8_hex_13 : decode cX8_hex 13 = .ok (.ireturn, 1) := by decide +kernel
theorem dX8_hex_14 : decode cX8_hex 14 = .ok (.iload_n 2, 1) := by decide +kernel
theorem dX8_hex_15 : decode cX8_hex 15 = .ok (.tableswitch 144 0 8 #[49, 58, 68, 97, 103, 103, 120, 120, 138], 49) := by decide +kernel
theorem dX8_hex_64 : decode cX8_hex 64 = .ok (.aload_n 0, 1) := by decide +kernel
theorem dX8_hex_65 : decode cX8_hex 65 = .ok (.getfield 7, 3) := by decide +kernel
theorem dX8_hex_68 : decode cX8_hex 68 = .ok (.iconst 0, 1) := by decide +kernel
theorem dX8_hex_69 : decode cX8_hex 69 = .ok (.iload_n 1, 1) := by decide +kernel
theorem dX8_hex_70 : decode cX8_hex 70 = .ok (.iadd, 1) := by decide +kernel
theorem dX8_hex_71 : decode cX8_hex 71 = .ok (.iaload, 1) := by decide +kernel
theorem dX8_hex_72 : decode cX8_hex 72 = .ok (.ireturn, 1) := by decide +kernel
theorem dX8_hex_73 : decode cX8_hex 73 = .ok (.aload_n 0, 1) := by decide +kernel
theorem dX8_hex_74 : decode cX8_hex 74 = .ok (.getfield 7, 3) := by decide +kernel
theorem dX8_hex_77 : decode cX8_hex 77 = .ok (.bipush 63, 2) := by decide +kernel
theorem dX8_hex_79 : decode cX8_hex 79 = .ok (.iload_n 1, 1) := by decide +kernel
theorem dX8_hex_80 : decode cX8_hex 80 = .ok (.iadd, 1) := by decide +kernel
theorem dX8_hex_81 : decode cX8_hex 81 = .ok (.iaload, 1) := by decide +kernel
theorem dX8_hex_82 : decode cX8_hex 82 = .ok (.ireturn, 1) := by decide +kernel
theorem dX8_hex_83 : decode cX8_hex 83 = .ok (.aload_n 0, 1) := by decide +kernel
theorem dX8_hex_84 : decode cX8_hex 84 = .ok (.getfield 7, 3) := by decide +kernel
theorem dX8_hex_87 : decode cX8_hex 87 = .ok (.bipush 126, 2) := by decide +kernel
theorem dX8_hex_89 : decode cX8_hex 89 = .ok (.iload_n 1, 1) := by decide +kernel
theorem dX8_hex_90 : decode cX8_hex 90 = .ok (.iadd, 1) := by decide +kernel
theorem dX8_hex_91 : decode cX8_hex 91 = .ok (.iaload, 1) := by decide +kernel
theorem dX8_hex_92 : decode cX8_hex 92 = .ok (.ifCond .ne 8, 3) := by decide +kernel
theorem dX8_hex_95 : decode cX8_hex 95 = .ok (.bipush (-5), 2) := by decide +kernel
theorem dX8_hex_97 : decode cX8_hex 97 = .ok (.goto 14, 3) := by decide +kernel
theorem dX8_hex_100 : decode cX8_hex 100 = .ok (.aload_n 0, 1) := by decide +kernel
theorem dX8_hex_101 : decode cX8_hex 101 = .ok (.getfield 7, 3) := by decide +kernel
theorem dX8_hex_104 : decode cX8_hex 104 = .ok (.bipush 126, 2) := by decide +kernel
theorem dX8_hex_106 : decode cX8_hex 106 = .ok (.iload_n 1, 1) := by decide +kernel
theorem dX8_hex_107 : decode cX8_hex 107 = .ok (.iadd, 1) := by decide +kernel
theorem dX8_hex_108 : decode cX8_hex 108 = .ok (.iaload, 1) := by decide +kernel
theorem dX8_hex_109 : decode cX8_hex 109 = .ok (.iconst 1, 1) := by decide +kernel
theorem dX8_hex_110 : decode cX8_hex 110 = .ok (.isub, 1) := by decide +kernel
theorem dX8_hex_111 : decode cX8_hex 111 = .ok (.ireturn, 1) := by decide +kernel
theorem dX8_hex_112 : decode cX8_hex 112 = .ok (.aload_n 0, 1) := by decide +kernel
theorem dX8_hex_113 : decode cX8_hex 113 = .ok (.iload_n 1, 1) := by decide +kernel
theorem dX8_hex_114 : decode cX8_hex 114 = .ok (.invokevirtual 62, 3) := by decide +kernel
theorem dX8_hex_117 : decode cX8_hex 117 = .ok (.ireturn, 1) := by decide +kernel
theorem dX8_hex_118 : decode cX8_hex 118 = .ok (.aload_n 0, 1) := by decide +kernel
theorem dX8_hex_119 : decode cX8_hex 119 = .ok (.iload_n 1, 1) := by decide +kernel
theorem dX8_hex_120 : decode cX8_hex 120 = .ok (.iload_n 2, 1) := by decide +kernel
theorem dX8_hex_121 : decode cX8_hex 121 = .ok (.iconst 4, 1) := by decide +kernel
theorem dX8_hex_122 : decode cX8_hex 122 = .ok (.isub, 1) := by decide +kernel
theorem dX8_hex_123 : decode cX8_hex 123 = .ok (.invokevirtual 70, 3) := by decide +kernel
theorem dX8_hex_126 : decode cX8_hex 126 = .ok (.ifCond .eq 7, 3) := by decide +kernel
theorem dX8_hex_129 : decode cX8_hex 129 = .ok (.iconst 1, 1) := by decide +kernel
theorem dX8_hex_130 : decode cX8_hex 130 = .ok (.goto 4, 3) := by decide +kernel
theorem dX8_hex_133 : decode cX8_hex 133 = .ok (.iconst 0, 1) := by decide +kernel
theorem dX8_hex_134 : decode cX8_hex 134 = .ok (.ireturn, 1) := by decide +kernel
theorem dX8_hex_135 : decode cX8_hex 135 = .ok (.aload_n 0, 1) := by decide +kernel
theorem dX8_hex_136 : decode cX8_hex 136 = .ok (.iload_n 2, 1) := by decide +kernel
theorem dX8_hex_137 : decode cX8_hex 137 = .ok (.bipush 6, 2) := by decide +kernel
theorem dX8_hex_139 : decode cX8_hex 139 = .ok (.isub, 1) := by decide +kernel
theorem dX8_hex_140 : decode cX8_hex 140 = .ok (.iload_n 1, 1) := by decide +kernel
theorem dX8_hex_141 : decode cX8_hex 141 = .ok (.invokevirtual 203, 3) := by decide +kernel
theorem dX8_hex_144 : decode cX8_hex 144 = .ok (.ifCond .eq 7, 3) := by decide +kernel
theorem dX8_hex_147 : decode cX8_hex 147 = .ok (.iconst 1, 1) := by decide +kernel
theorem dX8_hex_148 : decode cX8_hex 148 = .ok (.goto 4, 3) := by decide +kernel
theorem dX8_hex_151 : decode cX8_hex 151 = .ok (.iconst 0, 1) := by decide +kernel
theorem dX8_hex_152 : decode cX8_hex 152 = .ok (.ireturn, 1) := by decide +kernel
theorem dX8_hex_153 : decode cX8_hex 153 = .ok (.aload_n 0, 1) := by decide +kernel
theorem dX8_hex_154 : decode cX8_hex 154 = .ok (.iload_n 1, 1) := by decide +kernel
theorem dX8_hex_155 : decode cX8_hex 155 = .ok (.invokevirtual 206, 3) := by decide +kernel
theorem dX8_hex_158 : decode cX8_hex 158 = .ok (.ireturn, 1) := by decide +kernel
theorem dX8_hex_159 : decode cX8_hex 159 = .ok (.bipush (-2), 2) := by decide +kernel
theorem dX8_hex_161 : decode cX8_hex 161 = .ok (.ireturn, 1) := by decide +kernel
theorem dX8_beside_0 : decode cX8_beside 0 = .ok (.aload_n 0, 1) := by decide +kernel
theorem dX8_beside_1 : decode cX8_beside 1 = .ok (.iconst 0, 1) := by decide +kernel
theorem dX8_beside_2 : decode cX8_beside 2 = .ok (.putfield 44, 3) := by decide +kernel
theorem dX8_beside_5 : decode cX8_beside 5 = .ok (.iload_n 1, 1) := by decide +kernel
theorem dX8_beside_6 : decode cX8_beside 6 = .ok (.invokestatic 124, 3) := by decide +kernel
theorem dX8_beside_9 : decode cX8_beside 9 = .ok (.ifCond .ne 5, 3) := by decide +kernel
theorem dX8_beside_12 : decode cX8_beside 12 = .ok (.iconst (-1), 1) := by decide +kernel
theorem dX8_beside_13 : decode cX8_beside 13 = .ok (.ireturn, 1) := by decide +kernel
theorem dX8_beside_14 : decode cX8_beside 14 = .ok (.iload_n 2, 1) := by decide +kernel
theorem dX8_beside_15 : decode cX8_beside 15 = .ok (.iconst 0, 1) := by decide +kernel
theorem dX8_beside_16 : decode cX8_beside 16 = .ok (.iconst 5, 1) := by decide +kernel
theorem dX8_beside_17 : decode cX8_beside 17 = .ok (.invokestatic 48, 3) := by decide +kernel
theorem dX8_beside_20 : decode cX8_beside 20 = .ok (.ifCond .eq 11, 3) := by decide +kernel
theorem dX8_beside_23 : decode cX8_beside 23 = .ok (.iload_n 1, 1) := by decide +kernel
theorem dX8_beside_24 : decode cX8_beside 24 = .ok (.iload_n 2, 1) := by decide +kernel
theorem dX8_beside_25 : decode cX8_beside 25 = .ok (.invokestatic 59, 3) := by decide +kernel
theorem dX8_beside_28 : decode cX8_beside 28 = .ok (.goto 5, 3) := by decide +kernel
theorem dX8_beside_31 : decode cX8_beside 31 = .ok (.bipush (-2), 2) := by decide +kernel
theorem dX8_beside_33 : decode cX8_beside 33 = .ok (.ireturn, 1) := by decide +kernel
theorem dX8_distance_0 : decode cX8_distance 0 = .ok (.aload_n 0, 1) := by decide +kernel
theorem dX8_distance_1 : decode cX8_distance 1 = .ok (.iconst 0, 1) := by decide +kernel
theorem dX8_distance_2 : decode cX8_distance 2 = .ok (.putfield 44, 3) := by decide +kernel
theorem dX8_distance_5 : decode cX8_distance 5 = .ok (.iload_n 1, 1) := by decide +kernel
theorem dX8_distance_6 : decode cX8_distance 6 = .ok (.invokestatic 124, 3) := by decide +kernel
theorem dX8_distance_9 : decode cX8_distance 9 = .ok (.ifCond .eq 10, 3) := by decide +kernel
theorem dX8_distance_12 : decode cX8_distance 12 = .ok (.iload_n 2, 1) := by decide +kernel
theorem dX8_distance_13 : decode cX8_distance 13 = .ok (.invokestatic 124, 3) := by decide +kernel
theorem dX8_distance_16 : decode cX8_distance 16 = .ok (.ifCond .ne 5, 3) := by decide +kernel
theorem dX8_distance_19 : decode cX8_distance 19 = .ok (.iconst (-1), 1) := by decide +kernel
theorem dX8_distance_20 : decode cX8_distance 20 = .ok (.ireturn, 1) := by decide +kernel
theorem dX8_distance_21 : decode cX8_distance 21 = .ok (.aload_n 0, 1) := by decide +kernel
theorem dX8_distance_22 : decode cX8_distance 22 = .ok (.iload_n 1, 1) := by decide +kernel
theorem dX8_distance_23 : decode cX8_distance 23 = .ok (.invokevirtual 101, 3) := by decide +kernel
theorem dX8_distance_26 : decode cX8_distance 26 = .ok (.aload_n 0, 1) := by decide +kernel
theorem dX8_distance_27 : decode cX8_distance 27 = .ok (.getfield 32, 3) := by decide +kernel
theorem dX8_distance_30 : decode cX8_distance 30 = .ok (.iload_n 2, 1) := by decide +kernel
theorem dX8_distance_31 : decode cX8_distance 31 = .ok (.iaload, 1) := by decide +kernel
theorem dX8_distance_32 : decode cX8_distance 32 = .ok (.ireturn, 1) := by decide +kernel
theorem dX8_reaches_0 : decode cX8_reaches 0 = .ok (.aload_n 0, 1) := by decide +kernel
theorem dX8_reaches_1 : decode cX8_reaches 1 = .ok (.iload_n 1, 1) := by decide +kernel
theorem dX8_reaches_2 : decode cX8_reaches 2 = .ok (.invokevirtual 142, 3) := by decide +kernel
theorem dX8_reaches_5 : decode cX8_reaches 5 = .ok (.iconst 0, 1) := by decide +kernel
theorem dX8_reaches_6 : decode cX8_reaches 6 = .ok (.istore_n 2, 1) := by decide +kernel
theorem dX8_reaches_7 : decode cX8_reaches 7 = .ok (.iconst 0, 1) := by decide +kernel
theorem dX8_reaches_8 : decode cX8_reaches 8 = .ok (.istore_n 3, 1) := by decide +kernel
theorem dX8_reaches_9 : decode cX8_reaches 9 = .ok (.iload_n 3, 1) := by decide +kernel
theorem dX8_reaches_10 : decode cX8_reaches 10 = .ok (.bipush 63, 2) := by decide +kernel
theorem dX8_reaches_12 : decode cX8_reaches 12 = .ok (.if_icmp .ge 26, 3) := by decide +kernel
theorem dX8_reaches_15 : decode cX8_reaches 15 = .ok (.iload_n 2, 1) := by decide +kernel
theorem dX8_reaches_16 : decode cX8_reaches 16 = .ok (.aload_n 0, 1) := by decide +kernel
theorem dX8_reaches_17 : decode cX8_reaches 17 = .ok (.iload_n 1, 1) := by decide +kernel
theorem dX8_reaches_18 : decode cX8_reaches 18 = .ok (.iload_n 3, 1) := by decide +kernel
theorem dX8_reaches_19 : decode cX8_reaches 19 = .ok (.invokevirtual 145, 3) := by decide +kernel
theorem dX8_reaches_22 : decode cX8_reaches 22 = .ok (.ifCond .eq 7, 3) := by decide +kernel
theorem dX8_reaches_25 : decode cX8_reaches 25 = .ok (.iconst 1, 1) := by decide +kernel
theorem dX8_reaches_26 : decode cX8_reaches 26 = .ok (.goto 4, 3) := by decide +kernel
theorem dX8_reaches_29 : decode cX8_reaches 29 = .ok (.iconst 0, 1) := by decide +kernel
theorem dX8_reaches_30 : decode cX8_reaches 30 = .ok (.iadd, 1) := by decide +kernel
theorem dX8_reaches_31 : decode cX8_reaches 31 = .ok (.istore_n 2, 1) := by decide +kernel
theorem dX8_reaches_32 : decode cX8_reaches 32 = .ok (.iinc 3 1, 3) := by decide +kernel
theorem dX8_reaches_35 : decode cX8_reaches 35 = .ok (.goto (-26), 3) := by decide +kernel
theorem dX8_reaches_38 : decode cX8_reaches 38 = .ok (.iload_n 2, 1) := by decide +kernel
theorem dX8_reaches_39 : decode cX8_reaches 39 = .ok (.ireturn, 1) := by decide +kernel
theorem dX8_unit_0 : decode cX8_unit 0 = .ok (.aload_n 0, 1) := by decide +kernel
theorem dX8_unit_1 : decode cX8_unit 1 = .ok (.iconst 0, 1) := by decide +kernel
theorem dX8_unit_2 : decode cX8_unit 2 = .ok (.putfield 44, 3) := by decide +kernel
theorem dX8_unit_5 : decode cX8_unit 5 = .ok (.aload_n 0, 1) := by decide +kernel
theorem dX8_unit_6 : decode cX8_unit 6 = .ok (.iload_n 1, 1) := by decide +kernel
theorem dX8_unit_7 : decode cX8_unit 7 = .ok (.invokevirtual 136, 3) := by decide +kernel
theorem dX8_unit_10 : decode cX8_unit 10 = .ok (.ifCond .ne 5, 3) := by decide +kernel
theorem dX8_unit_13 : decode cX8_unit 13 = .ok (.iconst (-1), 1) := by decide +kernel
theorem dX8_unit_14 : decode cX8_unit 14 = .ok (.ireturn, 1) := by decide +kernel
theorem dX8_unit_15 : decode cX8_unit 15 = .ok (.iload_n 2, 1) := by decide +kernel
theorem dX8_unit_16 : decode cX8_unit 16 = .ok (.tableswitch 96 5 9 #[36, 50, 56, 63, 69], 36) := by decide +kernel
theorem dX8_unit_52 : decode cX8_unit 52 = .ok (.aload_n 0, 1) := by decide +kernel
theorem dX8_unit_53 : decode cX8_unit 53 = .ok (.iload_n 1, 1) := by decide +kernel
theorem dX8_unit_54 : decode cX8_unit 54 = .ok (.invokevirtual 104, 3) := by decide +kernel
theorem dX8_unit_57 : decode cX8_unit 57 = .ok (.ifCond .eq 7, 3) := by decide +kernel
theorem dX8_unit_60 : decode cX8_unit 60 = .ok (.iconst 1, 1) := by decide +kernel
theorem dX8_unit_61 : decode cX8_unit 61 = .ok (.goto 4, 3) := by decide +kernel
theorem dX8_unit_64 : decode cX8_unit 64 = .ok (.iconst 0, 1) := by decide +kernel
theorem dX8_unit_65 : decode cX8_unit 65 = .ok (.ireturn, 1) := by decide +kernel
theorem dX8_unit_66 : decode cX8_unit 66 = .ok (.aload_n 0, 1) := by decide +kernel
theorem dX8_unit_67 : decode cX8_unit 67 = .ok (.iload_n 1, 1) := by decide +kernel
theorem dX8_unit_68 : decode cX8_unit 68 = .ok (.invokevirtual 98, 3) := by decide +kernel
theorem dX8_unit_71 : decode cX8_unit 71 = .ok (.ireturn, 1) := by decide +kernel
theorem dX8_unit_72 : decode cX8_unit 72 = .ok (.aload_n 0, 1) := by decide +kernel
theorem dX8_unit_73 : decode cX8_unit 73 = .ok (.iload_n 1, 1) := by decide +kernel
theorem dX8_unit_74 : decode cX8_unit 74 = .ok (.iconst 5, 1) := by decide +kernel
theorem dX8_unit_75 : decode cX8_unit 75 = .ok (.invokevirtual 52, 3) := by decide +kernel
theorem dX8_unit_78 : decode cX8_unit 78 = .ok (.ireturn, 1) := by decide +kernel
theorem dX8_unit_79 : decode cX8_unit 79 = .ok (.aload_n 0, 1) := by decide +kernel
theorem dX8_unit_80 : decode cX8_unit 80 = .ok (.iload_n 1, 1) := by decide +kernel
theorem dX8_unit_81 : decode cX8_unit 81 = .ok (.invokevirtual 209, 3) := by decide +kernel
theorem dX8_unit_84 : decode cX8_unit 84 = .ok (.ireturn, 1) := by decide +kernel
theorem dX8_unit_85 : decode cX8_unit 85 = .ok (.aload_n 0, 1) := by decide +kernel
theorem dX8_unit_86 : decode cX8_unit 86 = .ok (.iconst 1, 1) := by decide +kernel
theorem dX8_unit_87 : decode cX8_unit 87 = .ok (.aload_n 0, 1) := by decide +kernel
theorem dX8_unit_88 : decode cX8_unit 88 = .ok (.iload_n 1, 1) := by decide +kernel
theorem dX8_unit_89 : decode cX8_unit 89 = .ok (.iconst 0, 1) := by decide +kernel
theorem dX8_unit_90 : decode cX8_unit 90 = .ok (.invokevirtual 52, 3) := by decide +kernel
theorem dX8_unit_93 : decode cX8_unit 93 = .ok (.isub, 1) := by decide +kernel
theorem dX8_unit_94 : decode cX8_unit 94 = .ok (.aload_n 0, 1) := by decide +kernel
theorem dX8_unit_95 : decode cX8_unit 95 = .ok (.iload_n 1, 1) := by decide +kernel
theorem dX8_unit_96 : decode cX8_unit 96 = .ok (.iconst 2, 1) := by decide +kernel
theorem dX8_unit_97 : decode cX8_unit 97 = .ok (.invokevirtual 52, 3) := by decide +kernel
theorem dX8_unit_100 : decode cX8_unit 100 = .ok (.invokevirtual 203, 3) := by decide +kernel
theorem dX8_unit_103 : decode cX8_unit 103 = .ok (.ifCond .eq 7, 3) := by decide +kernel
theorem dX8_unit_106 : decode cX8_unit 106 = .ok (.iconst 1, 1) := by decide +kernel
theorem dX8_unit_107 : decode cX8_unit 107 = .ok (.goto 4, 3) := by decide +kernel
theorem dX8_unit_110 : decode cX8_unit 110 = .ok (.iconst 0, 1) := by decide +kernel
theorem dX8_unit_111 : decode cX8_unit 111 = .ok (.ireturn, 1) := by decide +kernel
theorem dX8_unit_112 : decode cX8_unit 112 = .ok (.iload_n 2, 1) := by decide +kernel
theorem dX8_unit_113 : decode cX8_unit 113 = .ok (.iconst 0, 1) := by decide +kernel
theorem dX8_unit_114 : decode cX8_unit 114 = .ok (.iconst 4, 1) := by decide +kernel
theorem dX8_unit_115 : decode cX8_unit 115 = .ok (.invokestatic 48, 3) := by decide +kernel
theorem dX8_unit_118 : decode cX8_unit 118 = .ok (.ifCond .eq 12, 3) := by decide +kernel
theorem dX8_unit_121 : decode cX8_unit 121 = .ok (.aload_n 0, 1) := by decide +kernel
theorem dX8_unit_122 : decode cX8_unit 122 = .ok (.iload_n 1, 1) := by decide +kernel
theorem dX8_unit_123 : decode cX8_unit 123 = .ok (.iload_n 2, 1) := by decide +kernel
theorem dX8_unit_124 : decode cX8_unit 124 = .ok (.invokevirtual 52, 3) := by decide +kernel
theorem dX8_unit_127 : decode cX8_unit 127 = .ok (.goto 5, 3) := by decide +kernel
theorem dX8_unit_130 : decode cX8_unit 130 = .ok (.bipush (-2), 2) := by decide +kernel
theorem dX8_unit_132 : decode cX8_unit 132 = .ok (.ireturn, 1) := by decide +kernel
theorem dX8_cost_0 : decode cX8_cost 0 = .ok (.aload_n 0, 1) := by decide +kernel
theorem dX8_cost_1 : decode cX8_cost 1 = .ok (.iconst 0, 1) := by decide +kernel
theorem dX8_cost_2 : decode cX8_cost 2 = .ok (.putfield 44, 3) := by decide +kernel
theorem dX8_cost_5 : decode cX8_cost 5 = .ok (.aload_n 0, 1) := by decide +kernel
theorem dX8_cost_6 : decode cX8_cost 6 = .ok (.iload_n 1, 1) := by decide +kernel
theorem dX8_cost_7 : decode cX8_cost 7 = .ok (.invokevirtual 136, 3) := by decide +kernel
theorem dX8_cost_10 : decode cX8_cost 10 = .ok (.ifCond .eq 10, 3) := by decide +kernel
theorem dX8_cost_13 : decode cX8_cost 13 = .ok (.iload_n 2, 1) := by decide +kernel
theorem dX8_cost_14 : decode cX8_cost 14 = .ok (.invokestatic 124, 3) := by decide +kernel
theorem dX8_cost_17 : decode cX8_cost 17 = .ok (.ifCond .ne 5, 3) := by decide +kernel
theorem dX8_cost_20 : decode cX8_cost 20 = .ok (.iconst (-1), 1) := by decide +kernel
theorem dX8_cost_21 : decode cX8_cost 21 = .ok (.ireturn, 1) := by decide +kernel
theorem dX8_cost_22 : decode cX8_cost 22 = .ok (.aload_n 0, 1) := by decide +kernel
theorem dX8_cost_23 : decode cX8_cost 23 = .ok (.iload_n 1, 1) := by decide +kernel
theorem dX8_cost_24 : decode cX8_cost 24 = .ok (.invokevirtual 142, 3) := by decide +kernel
theorem dX8_cost_27 : decode cX8_cost 27 = .ok (.aload_n 0, 1) := by decide +kernel
theorem dX8_cost_28 : decode cX8_cost 28 = .ok (.iload_n 1, 1) := by decide +kernel
theorem dX8_cost_29 : decode cX8_cost 29 = .ok (.iconst 2, 1) := by decide +kernel
theorem dX8_cost_30 : decode cX8_cost 30 = .ok (.invokevirtual 52, 3) := by decide +kernel
theorem dX8_cost_33 : decode cX8_cost 33 = .ok (.iload_n 2, 1) := by decide +kernel
theorem dX8_cost_34 : decode cX8_cost 34 = .ok (.if_icmp .ne 7, 3) := by decide +kernel
theorem dX8_cost_37 : decode cX8_cost 37 = .ok (.iconst 0, 1) := by decide +kernel
theorem dX8_cost_38 : decode cX8_cost 38 = .ok (.goto 23, 3) := by decide +kernel
theorem dX8_cost_41 : decode cX8_cost 41 = .ok (.aload_n 0, 1) := by decide +kernel
theorem dX8_cost_42 : decode cX8_cost 42 = .ok (.iload_n 1, 1) := by decide +kernel
theorem dX8_cost_43 : decode cX8_cost 43 = .ok (.iload_n 2, 1) := by decide +kernel
theorem dX8_cost_44 : decode cX8_cost 44 = .ok (.invokevirtual 145, 3) := by decide +kernel
theorem dX8_cost_47 : decode cX8_cost 47 = .ok (.ifCond .eq 12, 3) := by decide +kernel
theorem dX8_cost_50 : decode cX8_cost 50 = .ok (.aload_n 0, 1) := by decide +kernel
theorem dX8_cost_51 : decode cX8_cost 51 = .ok (.getfield 25, 3) := by decide +kernel
theorem dX8_cost_54 : decode cX8_cost 54 = .ok (.iload_n 2, 1) := by decide +kernel
theorem dX8_cost_55 : decode cX8_cost 55 = .ok (.iaload, 1) := by decide +kernel
theorem dX8_cost_56 : decode cX8_cost 56 = .ok (.goto 5, 3) := by decide +kernel
theorem dX8_cost_59 : decode cX8_cost 59 = .ok (.bipush (-5), 2) := by decide +kernel
theorem dX8_cost_61 : decode cX8_cost 61 = .ok (.ireturn, 1) := by decide +kernel
theorem dX8_would_0 : decode cX8_would 0 = .ok (.aload_n 0, 1) := by decide +kernel
theorem dX8_would_1 : decode cX8_would 1 = .ok (.iconst 0, 1) := by decide +kernel
theorem dX8_would_2 : decode cX8_would 2 = .ok (.putfield 44, 3) := by decide +kernel
theorem dX8_would_5 : decode cX8_would 5 = .ok (.aload_n 0, 1) := by decide +kernel
theorem dX8_would_6 : decode cX8_would 6 = .ok (.iload_n 1, 1) := by decide +kernel
theorem dX8_would_7 : decode cX8_would 7 = .ok (.invokevirtual 136, 3) := by decide +kernel
theorem dX8_would_10 : decode cX8_would 10 = .ok (.ifCond .eq 10, 3) := by decide +kernel
theorem dX8_would_13 : decode cX8_would 13 = .ok (.iload_n 2, 1) := by decide +kernel
theorem dX8_would_14 : decode cX8_would 14 = .ok (.invokestatic 124, 3) := by decide +kernel
theorem dX8_would_17 : decode cX8_would 17 = .ok (.ifCond .ne 5, 3) := by decide +kernel
theorem dX8_would_20 : decode cX8_would 20 = .ok (.iconst (-1), 1) := by decide +kernel
theorem dX8_would_21 : decode cX8_would 21 = .ok (.ireturn, 1) := by decide +kernel
theorem dX8_would_22 : decode cX8_would 22 = .ok (.iload_n 3, 1) := by decide +kernel
theorem dX8_would_23 : decode cX8_would 23 = .ok (.iconst 0, 1) := by decide +kernel
theorem dX8_would_24 : decode cX8_would 24 = .ok (.iconst 3, 1) := by decide +kernel
theorem dX8_would_25 : decode cX8_would 25 = .ok (.invokestatic 48, 3) := by decide +kernel
theorem dX8_would_28 : decode cX8_would 28 = .ok (.ifCond .ne 6, 3) := by decide +kernel
theorem dX8_would_31 : decode cX8_would 31 = .ok (.bipush (-2), 2) := by decide +kernel
theorem dX8_would_33 : decode cX8_would 33 = .ok (.ireturn, 1) := by decide +kernel
theorem dX8_would_34 : decode cX8_would 34 = .ok (.aload_n 0, 1) := by decide +kernel
theorem dX8_would_35 : decode cX8_would 35 = .ok (.iload_n 1, 1) := by decide +kernel
theorem dX8_would_36 : decode cX8_would 36 = .ok (.iload_n 2, 1) := by decide +kernel
theorem dX8_would_37 : decode cX8_would 37 = .ok (.invokevirtual 154, 3) := by decide +kernel
theorem dX8_would_40 : decode cX8_would 40 = .ok (.ifCond .ne 6, 3) := by decide +kernel
theorem dX8_would_43 : decode cX8_would 43 = .ok (.bipush (-4), 2) := by decide +kernel
theorem dX8_would_45 : decode cX8_would 45 = .ok (.ireturn, 1) := by decide +kernel
theorem dX8_would_46 : decode cX8_would 46 = .ok (.aload_n 0, 1) := by decide +kernel
theorem dX8_would_47 : decode cX8_would 47 = .ok (.iload_n 2, 1) := by decide +kernel
theorem dX8_would_48 : decode cX8_would 48 = .ok (.invokevirtual 62, 3) := by decide +kernel
theorem dX8_would_51 : decode cX8_would 51 = .ok (.istore 4, 2) := by decide +kernel
theorem dX8_would_53 : decode cX8_would 53 = .ok (.aload_n 0, 1) := by decide +kernel
theorem dX8_would_54 : decode cX8_would 54 = .ok (.iload_n 1, 1) := by decide +kernel
theorem dX8_would_55 : decode cX8_would 55 = .ok (.iload_n 2, 1) := by decide +kernel
theorem dX8_would_56 : decode cX8_would 56 = .ok (.invokevirtual 111, 3) := by decide +kernel
theorem dX8_would_59 : decode cX8_would 59 = .ok (.istore 5, 2) := by decide +kernel
theorem dX8_would_61 : decode cX8_would 61 = .ok (.aload_n 0, 1) := by decide +kernel
theorem dX8_would_62 : decode cX8_would 62 = .ok (.iload 4, 2) := by decide +kernel
theorem dX8_would_64 : decode cX8_would 64 = .ok (.invokevirtual 114, 3) := by decide +kernel
theorem dX8_would_67 : decode cX8_would 67 = .ok (.istore 6, 2) := by decide +kernel
theorem dX8_would_69 : decode cX8_would 69 = .ok (.iload_n 3, 1) := by decide +kernel
theorem dX8_would_70 : decode cX8_would 70 = .ok (.tableswitch 59 0 2 #[26, 29, 32], 26) := by decide +kernel
theorem dX8_would_96 : decode cX8_would 96 = .ok (.iload 5, 2) := by decide +kernel
theorem dX8_would_98 : decode cX8_would 98 = .ok (.ireturn, 1) := by decide +kernel
theorem dX8_would_99 : decode cX8_would 99 = .ok (.iload 6, 2) := by decide +kernel
theorem dX8_would_101 : decode cX8_would 101 = .ok (.ireturn, 1) := by decide +kernel
theorem dX8_would_102 : decode cX8_would 102 = .ok (.iload 5, 2) := by decide +kernel
theorem dX8_would_104 : decode cX8_would 104 = .ok (.iload 6, 2) := by decide +kernel
theorem dX8_would_106 : decode cX8_would 106 = .ok (.if_icmp .le 12, 3) := by decide +kernel
theorem dX8_would_109 : decode cX8_would 109 = .ok (.aload_n 0, 1) := by decide +kernel
theorem dX8_would_110 : decode cX8_would 110 = .ok (.iload_n 1, 1) := by decide +kernel
theorem dX8_would_111 : decode cX8_would 111 = .ok (.iconst 1, 1) := by decide +kernel
theorem dX8_would_112 : decode cX8_would 112 = .ok (.invokevirtual 52, 3) := by decide +kernel
theorem dX8_would_115 : decode cX8_would 115 = .ok (.goto 13, 3) := by decide +kernel
theorem dX8_would_118 : decode cX8_would 118 = .ok (.aload_n 0, 1) := by decide +kernel
theorem dX8_would_119 : decode cX8_would 119 = .ok (.iload_n 1, 1) := by decide +kernel
theorem dX8_would_120 : decode cX8_would 120 = .ok (.iload 6, 2) := by decide +kernel
theorem dX8_would_122 : decode cX8_would 122 = .ok (.iload 5, 2) := by decide +kernel
theorem dX8_would_124 : decode cX8_would 124 = .ok (.isub, 1) := by decide +kernel
theorem dX8_would_125 : decode cX8_would 125 = .ok (.invokevirtual 117, 3) := by decide +kernel
theorem dX8_would_128 : decode cX8_would 128 = .ok (.ireturn, 1) := by decide +kernel
theorem dX8_would_129 : decode cX8_would 129 = .ok (.iload 5, 2) := by decide +kernel
theorem dX8_would_131 : decode cX8_would 131 = .ok (.iload 6, 2) := by decide +kernel
theorem dX8_would_133 : decode cX8_would 133 = .ok (.if_icmp .le 17, 3) := by decide +kernel
theorem dX8_would_136 : decode cX8_would 136 = .ok (.aload_n 0, 1) := by decide +kernel
theorem dX8_would_137 : decode cX8_would 137 = .ok (.iload 4, 2) := by decide +kernel
theorem dX8_would_139 : decode cX8_would 139 = .ok (.iload 5, 2) := by decide +kernel
theorem dX8_would_141 : decode cX8_would 141 = .ok (.iload 6, 2) := by decide +kernel
theorem dX8_would_143 : decode cX8_would 143 = .ok (.isub, 1) := by decide +kernel
theorem dX8_would_144 : decode cX8_would 144 = .ok (.invokevirtual 117, 3) := by decide +kernel
theorem dX8_would_147 : decode cX8_would 147 = .ok (.goto 10, 3) := by decide +kernel
theorem dX8_would_150 : decode cX8_would 150 = .ok (.aload_n 0, 1) := by decide +kernel
theorem dX8_would_151 : decode cX8_would 151 = .ok (.iload 4, 2) := by decide +kernel
theorem dX8_would_153 : decode cX8_would 153 = .ok (.iconst 1, 1) := by decide +kernel
theorem dX8_would_154 : decode cX8_would 154 = .ok (.invokevirtual 52, 3) := by decide +kernel
theorem dX8_would_157 : decode cX8_would 157 = .ok (.ireturn, 1) := by decide +kernel
theorem dX8_besieged_0 : decode cX8_besieged 0 = .ok (.aload_n 0, 1) := by decide +kernel
theorem dX8_besieged_1 : decode cX8_besieged 1 = .ok (.iconst 0, 1) := by decide +kernel
theorem dX8_besieged_2 : decode cX8_besieged 2 = .ok (.putfield 44, 3) := by decide +kernel
theorem dX8_besieged_5 : decode cX8_besieged 5 = .ok (.iload_n 1, 1) := by decide +kernel
theorem dX8_besieged_6 : decode cX8_besieged 6 = .ok (.invokestatic 124, 3) := by decide +kernel
theorem dX8_besieged_9 : decode cX8_besieged 9 = .ok (.ifCond .ne 5, 3) := by decide +kernel
theorem dX8_besieged_12 : decode cX8_besieged 12 = .ok (.iconst (-1), 1) := by decide +kernel
theorem dX8_besieged_13 : decode cX8_besieged 13 = .ok (.ireturn, 1) := by decide +kernel
theorem dX8_besieged_14 : decode cX8_besieged 14 = .ok (.aload_n 0, 1) := by decide +kernel
theorem dX8_besieged_15 : decode cX8_besieged 15 = .ok (.getfield 7, 3) := by decide +kernel
theorem dX8_besieged_18 : decode cX8_besieged 18 = .ok (.bipush 126, 2) := by decide +kernel
theorem dX8_besieged_20 : decode cX8_besieged 20 = .ok (.iload_n 1, 1) := by decide +kernel
theorem dX8_besieged_21 : decode cX8_besieged 21 = .ok (.iadd, 1) := by decide +kernel
theorem dX8_besieged_22 : decode cX8_besieged 22 = .ok (.iaload, 1) := by decide +kernel
theorem dX8_besieged_23 : decode cX8_besieged 23 = .ok (.ifCond .ne 6, 3) := by decide +kernel
theorem dX8_besieged_26 : decode cX8_besieged 26 = .ok (.bipush (-5), 2) := by decide +kernel
theorem dX8_besieged_28 : decode cX8_besieged 28 = .ok (.ireturn, 1) := by decide +kernel
theorem dX8_besieged_29 : decode cX8_besieged 29 = .ok (.iconst 2, 1) := by decide +kernel
theorem dX8_besieged_30 : decode cX8_besieged 30 = .ok (.aload_n 0, 1) := by decide +kernel
theorem dX8_besieged_31 : decode cX8_besieged 31 = .ok (.getfield 7, 3) := by decide +kernel
theorem dX8_besieged_34 : decode cX8_besieged 34 = .ok (.bipush 126, 2) := by decide +kernel
theorem dX8_besieged_36 : decode cX8_besieged 36 = .ok (.iload_n 1, 1) := by decide +kernel
theorem dX8_besieged_37 : decode cX8_besieged 37 = .ok (.iadd, 1) := by decide +kernel
theorem dX8_besieged_38 : decode cX8_besieged 38 = .ok (.iaload, 1) := by decide +kernel
theorem dX8_besieged_39 : decode cX8_besieged 39 = .ok (.isub, 1) := by decide +kernel
theorem dX8_besieged_40 : decode cX8_besieged 40 = .ok (.istore_n 2, 1) := by decide +kernel
theorem dX8_besieged_41 : decode cX8_besieged 41 = .ok (.iconst 1, 1) := by decide +kernel
theorem dX8_besieged_42 : decode cX8_besieged 42 = .ok (.istore_n 3, 1) := by decide +kernel
theorem dX8_besieged_43 : decode cX8_besieged 43 = .ok (.iconst 0, 1) := by decide +kernel
theorem dX8_besieged_44 : decode cX8_besieged 44 = .ok (.istore 4, 2) := by decide +kernel
theorem dX8_besieged_46 : decode cX8_besieged 46 = .ok (.iload 4, 2) := by decide +kernel
theorem dX8_besieged_48 : decode cX8_besieged 48 = .ok (.bipush 6, 2) := by decide +kernel
theorem dX8_besieged_50 : decode cX8_besieged 50 = .ok (.if_icmp .ge 54, 3) := by decide +kernel
theorem dX8_besieged_53 : decode cX8_besieged 53 = .ok (.iload_n 1, 1) := by decide +kernel
theorem dX8_besieged_54 : decode cX8_besieged 54 = .ok (.iload 4, 2) := by decide +kernel
theorem dX8_besieged_56 : decode cX8_besieged 56 = .ok (.invokestatic 59, 3) := by decide +kernel
theorem dX8_besieged_59 : decode cX8_besieged 59 = .ok (.istore 5, 2) := by decide +kernel
theorem dX8_besieged_61 : decode cX8_besieged 61 = .ok (.iload_n 3, 1) := by decide +kernel
theorem dX8_besieged_62 : decode cX8_besieged 62 = .ok (.ifCond .eq 34, 3) := by decide +kernel
theorem dX8_besieged_65 : decode cX8_besieged 65 = .ok (.iload 5, 2) := by decide +kernel
theorem dX8_besieged_67 : decode cX8_besieged 67 = .ok (.bipush (-5), 2) := by decide +kernel
theorem dX8_besieged_69 : decode cX8_besieged 69 = .ok (.if_icmp .eq 23, 3) := by decide +kernel
theorem dX8_besieged_72 : decode cX8_besieged 72 = .ok (.aload_n 0, 1) := by decide +kernel
theorem dX8_besieged_73 : decode cX8_besieged 73 = .ok (.iload 5, 2) := by decide +kernel
theorem dX8_besieged_75 : decode cX8_besieged 75 = .ok (.iload_n 2, 1) := by decide +kernel
theorem dX8_besieged_76 : decode cX8_besieged 76 = .ok (.invokevirtual 66, 3) := by decide +kernel
theorem dX8_besieged_79 : decode cX8_besieged 79 = .ok (.ifCond .ne 13, 3) := by decide +kernel
theorem dX8_besieged_82 : decode cX8_besieged 82 = .ok (.aload_n 0, 1) := by decide +kernel
theorem dX8_besieged_83 : decode cX8_besieged 83 = .ok (.iload 5, 2) := by decide +kernel
theorem dX8_besieged_85 : decode cX8_besieged 85 = .ok (.iload_n 2, 1) := by decide +kernel
theorem dX8_besieged_86 : decode cX8_besieged 86 = .ok (.invokevirtual 70, 3) := by decide +kernel
theorem dX8_besieged_89 : decode cX8_besieged 89 = .ok (.ifCond .eq 7, 3) := by decide +kernel
theorem dX8_besieged_92 : decode cX8_besieged 92 = .ok (.iconst 1, 1) := by decide +kernel
theorem dX8_besieged_93 : decode cX8_besieged 93 = .ok (.goto 4, 3) := by decide +kernel
theorem dX8_besieged_96 : decode cX8_besieged 96 = .ok (.iconst 0, 1) := by decide +kernel
theorem dX8_besieged_97 : decode cX8_besieged 97 = .ok (.istore_n 3, 1) := by decide +kernel
theorem dX8_besieged_98 : decode cX8_besieged 98 = .ok (.iinc 4 1, 3) := by decide +kernel
theorem dX8_besieged_101 : decode cX8_besieged 101 = .ok (.goto (-55), 3) := by decide +kernel
theorem dX8_besieged_104 : decode cX8_besieged 104 = .ok (.iload_n 3, 1) := by decide +kernel
theorem dX8_besieged_105 : decode cX8_besieged 105 = .ok (.ifCond .eq 7, 3) := by decide +kernel
theorem dX8_besieged_108 : decode cX8_besieged 108 = .ok (.iconst 1, 1) := by decide +kernel
theorem dX8_besieged_109 : decode cX8_besieged 109 = .ok (.goto 4, 3) := by decide +kernel
theorem dX8_besieged_112 : decode cX8_besieged 112 = .ok (.iconst 0, 1) := by decide +kernel
theorem dX8_besieged_113 : decode cX8_besieged 113 = .ok (.ireturn, 1) := by decide +kernel
theorem dX8_unitsOf_0 : decode cX8_unitsOf 0 = .ok (.iconst 0, 1) := by decide +kernel
theorem dX8_unitsOf_1 : decode cX8_unitsOf 1 = .ok (.istore_n 3, 1) := by decide +kernel
theorem dX8_unitsOf_2 : decode cX8_unitsOf 2 = .ok (.iconst 0, 1) := by decide +kernel
theorem dX8_unitsOf_3 : decode cX8_unitsOf 3 = .ok (.istore 4, 2) := by decide +kernel
theorem dX8_unitsOf_5 : decode cX8_unitsOf 5 = .ok (.iload 4, 2) := by decide +kernel
theorem dX8_unitsOf_7 : decode cX8_unitsOf 7 = .ok (.aload_n 0, 1) := by decide +kernel
theorem dX8_unitsOf_8 : decode cX8_unitsOf 8 = .ok (.getfield 7, 3) := by decide +kernel
theorem dX8_unitsOf_11 : decode cX8_unitsOf 11 = .ok (.sipush 192, 3) := by decide +kernel
theorem dX8_unitsOf_14 : decode cX8_unitsOf 14 = .ok (.iaload, 1) := by decide +kernel
theorem dX8_unitsOf_15 : decode cX8_unitsOf 15 = .ok (.if_icmp .ge 65, 3) := by decide +kernel
theorem dX8_unitsOf_18 : decode cX8_unitsOf 18 = .ok (.aload_n 0, 1) := by decide +kernel
theorem dX8_unitsOf_19 : decode cX8_unitsOf 19 = .ok (.iload 4, 2) := by decide +kernel
theorem dX8_unitsOf_21 : decode cX8_unitsOf 21 = .ok (.iconst 1, 1) := by decide +kernel
theorem dX8_unitsOf_22 : decode cX8_unitsOf 22 = .ok (.invokevirtual 52, 3) := by decide +kernel
theorem dX8_unitsOf_25 : decode cX8_unitsOf 25 = .ok (.ifCond .le 18, 3) := by decide +kernel
theorem dX8_unitsOf_28 : decode cX8_unitsOf 28 = .ok (.aload_n 0, 1) := by decide +kernel
theorem dX8_unitsOf_29 : decode cX8_unitsOf 29 = .ok (.iload 4, 2) := by decide +kernel
theorem dX8_unitsOf_31 : decode cX8_unitsOf 31 = .ok (.iconst 0, 1) := by decide +kernel
theorem dX8_unitsOf_32 : decode cX8_unitsOf 32 = .ok (.invokevirtual 52, 3) := by decide +kernel
theorem dX8_unitsOf_35 : decode cX8_unitsOf 35 = .ok (.iload_n 1, 1) := by decide +kernel
theorem dX8_unitsOf_36 : decode cX8_unitsOf 36 = .ok (.if_icmp .ne 7, 3) := by decide +kernel
theorem dX8_unitsOf_39 : decode cX8_unitsOf 39 = .ok (.iconst 1, 1) := by decide +kernel
theorem dX8_unitsOf_40 : decode cX8_unitsOf 40 = .ok (.goto 4, 3) := by decide +kernel
theorem dX8_unitsOf_43 : decode cX8_unitsOf 43 = .ok (.iconst 0, 1) := by decide +kernel
theorem dX8_unitsOf_44 : decode cX8_unitsOf 44 = .ok (.istore 5, 2) := by decide +kernel
theorem dX8_unitsOf_46 : decode cX8_unitsOf 46 = .ok (.iload_n 3, 1) := by decide +kernel
theorem dX8_unitsOf_47 : decode cX8_unitsOf 47 = .ok (.iload 5, 2) := by decide +kernel
theorem dX8_unitsOf_49 : decode cX8_unitsOf 49 = .ok (.ifCond .ne 7, 3) := by decide +kernel
theorem dX8_unitsOf_52 : decode cX8_unitsOf 52 = .ok (.iconst 0, 1) := by decide +kernel
theorem dX8_unitsOf_53 : decode cX8_unitsOf 53 = .ok (.goto 19, 3) := by decide +kernel
theorem dX8_unitsOf_56 : decode cX8_unitsOf 56 = .ok (.iload_n 2, 1) := by decide +kernel
theorem dX8_unitsOf_57 : decode cX8_unitsOf 57 = .ok (.iconst 1, 1) := by decide +kernel
theorem dX8_unitsOf_58 : decode cX8_unitsOf 58 = .ok (.if_icmp .ne 13, 3) := by decide +kernel
theorem dX8_unitsOf_61 : decode cX8_unitsOf 61 = .ok (.aload_n 0, 1) := by decide +kernel
theorem dX8_unitsOf_62 : decode cX8_unitsOf 62 = .ok (.iload 4, 2) := by decide +kernel
theorem dX8_unitsOf_64 : decode cX8_unitsOf 64 = .ok (.iconst 1, 1) := by decide +kernel
theorem dX8_unitsOf_65 : decode cX8_unitsOf 65 = .ok (.invokevirtual 52, 3) := by decide +kernel
theorem dX8_unitsOf_68 : decode cX8_unitsOf 68 = .ok (.goto 4, 3) := by decide +kernel
theorem dX8_unitsOf_71 : decode cX8_unitsOf 71 = .ok (.iconst 1, 1) := by decide +kernel
theorem dX8_unitsOf_72 : decode cX8_unitsOf 72 = .ok (.iadd, 1) := by decide +kernel
theorem dX8_unitsOf_73 : decode cX8_unitsOf 73 = .ok (.istore_n 3, 1) := by decide +kernel
theorem dX8_unitsOf_74 : decode cX8_unitsOf 74 = .ok (.iinc 4 1, 3) := by decide +kernel
theorem dX8_unitsOf_77 : decode cX8_unitsOf 77 = .ok (.goto (-72), 3) := by decide +kernel
theorem dX8_unitsOf_80 : decode cX8_unitsOf 80 = .ok (.iload_n 3, 1) := by decide +kernel
theorem dX8_unitsOf_81 : decode cX8_unitsOf 81 = .ok (.ireturn, 1) := by decide +kernel
theorem dX8_seen_0 : decode cX8_seen 0 = .ok (.iconst 0, 1) := by decide +kernel
theorem dX8_seen_1 : decode cX8_seen 1 = .ok (.istore_n 2, 1) := by decide +kernel
theorem dX8_seen_2 : decode cX8_seen 2 = .ok (.iconst 0, 1) := by decide +kernel
theorem dX8_seen_3 : decode cX8_seen 3 = .ok (.istore_n 3, 1) := by decide +kernel
theorem dX8_seen_4 : decode cX8_seen 4 = .ok (.iload_n 3, 1) := by decide +kernel
theorem dX8_seen_5 : decode cX8_seen 5 = .ok (.bipush 63, 2) := by decide +kernel
theorem dX8_seen_7 : decode cX8_seen 7 = .ok (.if_icmp .ge 26, 3) := by decide +kernel
theorem dX8_seen_10 : decode cX8_seen 10 = .ok (.iload_n 2, 1) := by decide +kernel
theorem dX8_seen_11 : decode cX8_seen 11 = .ok (.aload_n 0, 1) := by decide +kernel
theorem dX8_seen_12 : decode cX8_seen 12 = .ok (.iload_n 1, 1) := by decide +kernel
theorem dX8_seen_13 : decode cX8_seen 13 = .ok (.iload_n 3, 1) := by decide +kernel
theorem dX8_seen_14 : decode cX8_seen 14 = .ok (.invokevirtual 203, 3) := by decide +kernel
theorem dX8_seen_17 : decode cX8_seen 17 = .ok (.ifCond .eq 7, 3) := by decide +kernel
theorem dX8_seen_20 : decode cX8_seen 20 = .ok (.iconst 1, 1) := by decide +kernel
theorem dX8_seen_21 : decode cX8_seen 21 = .ok (.goto 4, 3) := by decide +kernel
theorem dX8_seen_24 : decode cX8_seen 24 = .ok (.iconst 0, 1) := by decide +kernel
theorem dX8_seen_25 : decode cX8_seen 25 = .ok (.iadd, 1) := by decide +kernel
theorem dX8_seen_26 : decode cX8_seen 26 = .ok (.istore_n 2, 1) := by decide +kernel
theorem dX8_seen_27 : decode cX8_seen 27 = .ok (.iinc 3 1, 3) := by decide +kernel
theorem dX8_seen_30 : decode cX8_seen 30 = .ok (.goto (-26), 3) := by decide +kernel
theorem dX8_seen_33 : decode cX8_seen 33 = .ok (.iload_n 2, 1) := by decide +kernel
theorem dX8_seen_34 : decode cX8_seen 34 = .ok (.ireturn, 1) := by decide +kernel
theorem dX8_count_0 : decode cX8_count 0 = .ok (.aload_n 0, 1) := by decide +kernel
theorem dX8_count_1 : decode cX8_count 1 = .ok (.iconst 0, 1) := by decide +kernel
theorem dX8_count_2 : decode cX8_count 2 = .ok (.putfield 44, 3) := by decide +kernel
theorem dX8_count_5 : decode cX8_count 5 = .ok (.iload_n 1, 1) := by decide +kernel
theorem dX8_count_6 : decode cX8_count 6 = .ok (.tableswitch 173 0 15 #[78, 87, 98, 107, 107, 117, 117, 126, 126, 135, 140, 140, 149, 154, 159, 159], 78) := by decide +kernel
theorem dX8_count_84 : decode cX8_count 84 = .ok (.aload_n 0, 1) := by decide +kernel
theorem dX8_count_85 : decode cX8_count 85 = .ok (.getfield 7, 3) := by decide +kernel
theorem dX8_count_88 : decode cX8_count 88 = .ok (.sipush 191, 3) := by decide +kernel
theorem dX8_count_91 : decode cX8_count 91 = .ok (.iaload, 1) := by decide +kernel
theorem dX8_count_92 : decode cX8_count 92 = .ok (.ireturn, 1) := by decide +kernel
theorem dX8_count_93 : decode cX8_count 93 = .ok (.aload_n 0, 1) := by decide +kernel
theorem dX8_count_94 : decode cX8_count 94 = .ok (.getfield 7, 3) := by decide +kernel
theorem dX8_count_97 : decode cX8_count 97 = .ok (.sipush 191, 3) := by decide +kernel
theorem dX8_count_100 : decode cX8_count 100 = .ok (.iaload, 1) := by decide +kernel
theorem dX8_count_101 : decode cX8_count 101 = .ok (.iconst 2, 1) := by decide +kernel
theorem dX8_count_102 : decode cX8_count 102 = .ok (.irem, 1) := by decide +kernel
theorem dX8_count_103 : decode cX8_count 103 = .ok (.ireturn, 1) := by decide +kernel
theorem dX8_count_104 : decode cX8_count 104 = .ok (.aload_n 0, 1) := by decide +kernel
theorem dX8_count_105 : decode cX8_count 105 = .ok (.getfield 7, 3) := by decide +kernel
theorem dX8_count_108 : decode cX8_count 108 = .ok (.sipush 192, 3) := by decide +kernel
theorem dX8_count_111 : decode cX8_count 111 = .ok (.iaload, 1) := by decide +kernel
theorem dX8_count_112 : decode cX8_count 112 = .ok (.ireturn, 1) := by decide +kernel
theorem dX8_count_113 : decode cX8_count 113 = .ok (.aload_n 0, 1) := by decide +kernel
theorem dX8_count_114 : decode cX8_count 114 = .ok (.iload_n 1, 1) := by decide +kernel
theorem dX8_count_115 : decode cX8_count 115 = .ok (.iconst 3, 1) := by decide +kernel
theorem dX8_count_116 : decode cX8_count 116 = .ok (.isub, 1) := by decide +kernel
theorem dX8_count_117 : decode cX8_count 117 = .ok (.bipush (-5), 2) := by decide +kernel
theorem dX8_count_119 : decode cX8_count 119 = .ok (.invokevirtual 212, 3) := by decide +kernel
theorem dX8_count_122 : decode cX8_count 122 = .ok (.ireturn, 1) := by decide +kernel
theorem dX8_count_123 : decode cX8_count 123 = .ok (.aload_n 0, 1) := by decide +kernel
theorem dX8_count_124 : decode cX8_count 124 = .ok (.iload_n 1, 1) := by decide +kernel
theorem dX8_count_125 : decode cX8_count 125 = .ok (.iconst 5, 1) := by decide +kernel
theorem dX8_count_126 : decode cX8_count 126 = .ok (.isub, 1) := by decide +kernel
theorem dX8_count_127 : decode cX8_count 127 = .ok (.iconst 1, 1) := by decide +kernel
theorem dX8_count_128 : decode cX8_count 128 = .ok (.invokevirtual 212, 3) := by decide +kernel
theorem dX8_count_131 : decode cX8_count 131 = .ok (.ireturn, 1) := by decide +kernel
theorem dX8_count_132 : decode cX8_count 132 = .ok (.aload_n 0, 1) := by decide +kernel
theorem dX8_count_133 : decode cX8_count 133 = .ok (.iload_n 1, 1) := by decide +kernel
theorem dX8_count_134 : decode cX8_count 134 = .ok (.bipush 7, 2) := by decide +kernel
theorem dX8_count_136 : decode cX8_count 136 = .ok (.isub, 1) := by decide +kernel
theorem dX8_count_137 : decode cX8_count 137 = .ok (.invokevirtual 133, 3) := by decide +kernel
theorem dX8_count_140 : decode cX8_count 140 = .ok (.ireturn, 1) := by decide +kernel
theorem dX8_count_141 : decode cX8_count 141 = .ok (.aload_n 0, 1) := by decide +kernel
theorem dX8_count_142 : decode cX8_count 142 = .ok (.invokevirtual 130, 3) := by decide +kernel
theorem dX8_count_145 : decode cX8_count 145 = .ok (.ireturn, 1) := by decide +kernel
theorem dX8_count_146 : decode cX8_count 146 = .ok (.aload_n 0, 1) := by decide +kernel
theorem dX8_count_147 : decode cX8_count 147 = .ok (.iload_n 1, 1) := by decide +kernel
theorem dX8_count_148 : decode cX8_count 148 = .ok (.bipush 10, 2) := by decide +kernel
theorem dX8_count_150 : decode cX8_count 150 = .ok (.isub, 1) := by decide +kernel
theorem dX8_count_151 : decode cX8_count 151 = .ok (.invokevirtual 215, 3) := by decide +kernel
theorem dX8_count_154 : decode cX8_count 154 = .ok (.ireturn, 1) := by decide +kernel
theorem dX8_count_155 : decode cX8_count 155 = .ok (.aload_n 0, 1) := by decide +kernel
theorem dX8_count_156 : decode cX8_count 156 = .ok (.getfield 56, 3) := by decide +kernel
theorem dX8_count_159 : decode cX8_count 159 = .ok (.ireturn, 1) := by decide +kernel
theorem dX8_count_160 : decode cX8_count 160 = .ok (.aload_n 0, 1) := by decide +kernel
theorem dX8_count_161 : decode cX8_count 161 = .ok (.getfield 166, 3) := by decide +kernel
theorem dX8_count_164 : decode cX8_count 164 = .ok (.ireturn, 1) := by decide +kernel
theorem dX8_count_165 : decode cX8_count 165 = .ok (.aload_n 0, 1) := by decide +kernel
theorem dX8_count_166 : decode cX8_count 166 = .ok (.getfield 7, 3) := by decide +kernel
theorem dX8_count_169 : decode cX8_count 169 = .ok (.sipush 189, 3) := by decide +kernel
theorem dX8_count_172 : decode cX8_count 172 = .ok (.iload_n 1, 1) := by decide +kernel
theorem dX8_count_173 : decode cX8_count 173 = .ok (.iadd, 1) := by decide +kernel
theorem dX8_count_174 : decode cX8_count 174 = .ok (.bipush 14, 2) := by decide +kernel
theorem dX8_count_176 : decode cX8_count 176 = .ok (.isub, 1) := by decide +kernel
theorem dX8_count_177 : decode cX8_count 177 = .ok (.iaload, 1) := by decide +kernel
theorem dX8_count_178 : decode cX8_count 178 = .ok (.ireturn, 1) := by decide +kernel
theorem dX8_count_179 : decode cX8_count 179 = .ok (.bipush (-2), 2) := by decide +kernel
theorem dX8_count_181 : decode cX8_count 181 = .ok (.ireturn, 1) := by decide +kernel
