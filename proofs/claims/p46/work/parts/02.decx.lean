theorem dX0_init_0 : decode cX0_init 0 = .ok (.aload_n 0, 1) := by decide +kernel
theorem dX0_init_1 : decode cX0_init 1 = .ok (.invokespecial 3, 3) := by decide +kernel
theorem dX0_init_4 : decode cX0_init 4 = .ok (.aload_n 0, 1) := by decide +kernel
theorem dX0_init_5 : decode cX0_init 5 = .ok (.bipush 40, 2) := by decide +kernel
theorem dX0_init_7 : decode cX0_init 7 = .ok (.newarray .int, 2) := by decide +kernel
theorem dX0_init_9 : decode cX0_init 9 = .ok (.putfield 9, 3) := by decide +kernel
theorem dX0_init_12 : decode cX0_init 12 = .ok (.return_, 1) := by decide +kernel
theorem dX0_add_0 : decode cX0_add 0 = .ok (.aload_n 0, 1) := by decide +kernel
theorem dX0_add_1 : decode cX0_add 1 = .ok (.getfield 15, 3) := by decide +kernel
theorem dX0_add_4 : decode cX0_add 4 = .ok (.ifCond .lt 35, 3) := by decide +kernel
theorem dX0_add_7 : decode cX0_add 7 = .ok (.aload_n 0, 1) := by decide +kernel
theorem dX0_add_8 : decode cX0_add 8 = .ok (.getfield 15, 3) := by decide +kernel
theorem dX0_add_11 : decode cX0_add 11 = .ok (.aload_n 0, 1) := by decide +kernel
theorem dX0_add_12 : decode cX0_add 12 = .ok (.getfield 9, 3) := by decide +kernel
theorem dX0_add_15 : decode cX0_add 15 = .ok (.arraylength, 1) := by decide +kernel
theorem dX0_add_16 : decode cX0_add 16 = .ok (.if_icmp .ge 23, 3) := by decide +kernel
theorem dX0_add_19 : decode cX0_add 19 = .ok (.aload_n 0, 1) := by decide +kernel
theorem dX0_add_20 : decode cX0_add 20 = .ok (.getfield 9, 3) := by decide +kernel
theorem dX0_add_23 : decode cX0_add 23 = .ok (.aload_n 0, 1) := by decide +kernel
theorem dX0_add_24 : decode cX0_add 24 = .ok (.getfield 15, 3) := by decide +kernel
theorem dX0_add_27 : decode cX0_add 27 = .ok (.iload_n 1, 1) := by decide +kernel
theorem dX0_add_28 : decode cX0_add 28 = .ok (.iastore, 1) := by decide +kernel
theorem dX0_add_29 : decode cX0_add 29 = .ok (.aload_n 0, 1) := by decide +kernel
theorem dX0_add_30 : decode cX0_add 30 = .ok (.dup, 1) := by decide +kernel
theorem dX0_add_31 : decode cX0_add 31 = .ok (.getfield 15, 3) := by decide +kernel
theorem dX0_add_34 : decode cX0_add 34 = .ok (.iconst 1, 1) := by decide +kernel
theorem dX0_add_35 : decode cX0_add 35 = .ok (.iadd, 1) := by decide +kernel
theorem dX0_add_36 : decode cX0_add 36 = .ok (.putfield 15, 3) := by decide +kernel
theorem dX0_add_39 : decode cX0_add 39 = .ok (.return_, 1) := by decide +kernel
theorem dX0_take_0 : decode cX0_take 0 = .ok (.aload_n 0, 1) := by decide +kernel
theorem dX0_take_1 : decode cX0_take 1 = .ok (.aload_n 1, 1) := by decide +kernel
theorem dX0_take_2 : decode cX0_take 2 = .ok (.getfield 15, 3) := by decide +kernel
theorem dX0_take_5 : decode cX0_take 5 = .ok (.putfield 15, 3) := by decide +kernel
theorem dX0_take_8 : decode cX0_take 8 = .ok (.iconst 0, 1) := by decide +kernel
theorem dX0_take_9 : decode cX0_take 9 = .ok (.istore_n 2, 1) := by decide +kernel
theorem dX0_take_10 : decode cX0_take 10 = .ok (.iload_n 2, 1) := by decide +kernel
theorem dX0_take_11 : decode cX0_take 11 = .ok (.aload_n 0, 1) := by decide +kernel
theorem dX0_take_12 : decode cX0_take 12 = .ok (.getfield 15, 3) := by decide +kernel
theorem dX0_take_15 : decode cX0_take 15 = .ok (.if_icmp .ge 30, 3) := by decide +kernel
theorem dX0_take_18 : decode cX0_take 18 = .ok (.iload_n 2, 1) := by decide +kernel
theorem dX0_take_19 : decode cX0_take 19 = .ok (.aload_n 0, 1) := by decide +kernel
theorem dX0_take_20 : decode cX0_take 20 = .ok (.getfield 9, 3) := by decide +kernel
theorem dX0_take_23 : decode cX0_take 23 = .ok (.arraylength, 1) := by decide +kernel
theorem dX0_take_24 : decode cX0_take 24 = .ok (.if_icmp .ge 21, 3) := by decide +kernel
theorem dX0_take_27 : decode cX0_take 27 = .ok (.aload_n 0, 1) := by decide +kernel
theorem dX0_take_28 : decode cX0_take 28 = .ok (.getfield 9, 3) := by decide +kernel
theorem dX0_take_31 : decode cX0_take 31 = .ok (.iload_n 2, 1) := by decide +kernel
theorem dX0_take_32 : decode cX0_take 32 = .ok (.aload_n 1, 1) := by decide +kernel
theorem dX0_take_33 : decode cX0_take 33 = .ok (.getfield 9, 3) := by decide +kernel
theorem dX0_take_36 : decode cX0_take 36 = .ok (.iload_n 2, 1) := by decide +kernel
theorem dX0_take_37 : decode cX0_take 37 = .ok (.iaload, 1) := by decide +kernel
theorem dX0_take_38 : decode cX0_take 38 = .ok (.iastore, 1) := by decide +kernel
theorem dX0_take_39 : decode cX0_take 39 = .ok (.iinc 2 1, 3) := by decide +kernel
theorem dX0_take_42 : decode cX0_take 42 = .ok (.goto (-32), 3) := by decide +kernel
theorem dX0_take_45 : decode cX0_take 45 = .ok (.return_, 1) := by decide +kernel
theorem dX1_init_0 : decode cX1_init 0 = .ok (.aload_n 0, 1) := by decide +kernel
theorem dX1_init_1 : decode cX1_init 1 = .ok (.invokespecial 3, 3) := by decide +kernel
theorem dX1_init_4 : decode cX1_init 4 = .ok (.aload_n 0, 1) := by decide +kernel
theorem dX1_init_5 : decode cX1_init 5 = .ok (.bipush 6, 2) := by decide +kernel
theorem dX1_init_7 : decode cX1_init 7 = .ok (.iconst 4, 1) := by decide +kernel
theorem dX1_init_8 : decode cX1_init 8 = .ok (.multianewarray 9 2, 4) := by decide +kernel
theorem dX1_init_12 : decode cX1_init 12 = .ok (.putfield 11, 3) := by decide +kernel
theorem dX1_init_15 : decode cX1_init 15 = .ok (.aload_n 0, 1) := by decide +kernel
theorem dX1_init_16 : decode cX1_init 16 = .ok (.iconst 4, 1) := by decide +kernel
theorem dX1_init_17 : decode cX1_init 17 = .ok (.newarray .int, 2) := by decide +kernel
theorem dX1_init_19 : decode cX1_init 19 = .ok (.putfield 16, 3) := by decide +kernel
theorem dX1_init_22 : decode cX1_init 22 = .ok (.aload_n 0, 1) := by decide +kernel
theorem dX1_init_23 : decode cX1_init 23 = .ok (.iconst 5, 1) := by decide +kernel
theorem dX1_init_24 : decode cX1_init 24 = .ok (.newarray .int, 2) := by decide +kernel
theorem dX1_init_26 : decode cX1_init 26 = .ok (.putfield 20, 3) := by decide +kernel
theorem dX1_init_29 : decode cX1_init 29 = .ok (.aload_n 0, 1) := by decide +kernel
theorem dX1_init_30 : decode cX1_init 30 = .ok (.iconst 5, 1) := by decide +kernel
theorem dX1_init_31 : decode cX1_init 31 = .ok (.newarray .int, 2) := by decide +kernel
theorem dX1_init_33 : decode cX1_init 33 = .ok (.putfield 23, 3) := by decide +kernel
theorem dX1_init_36 : decode cX1_init 36 = .ok (.aload_n 0, 1) := by decide +kernel
theorem dX1_init_37 : decode cX1_init 37 = .ok (.aload_n 1, 1) := by decide +kernel
theorem dX1_init_38 : decode cX1_init 38 = .ok (.putfield 26, 3) := by decide +kernel
theorem dX1_init_41 : decode cX1_init 41 = .ok (.return_, 1) := by decide +kernel
theorem dX1_begin_0 : decode cX1_begin 0 = .ok (.aload_n 0, 1) := by decide +kernel
theorem dX1_begin_1 : decode cX1_begin 1 = .ok (.aload_n 1, 1) := by decide +kernel
theorem dX1_begin_2 : decode cX1_begin 2 = .ok (.invokevirtual 30, 3) := by decide +kernel
theorem dX1_begin_5 : decode cX1_begin 5 = .ok (.putfield 36, 3) := by decide +kernel
theorem dX1_begin_8 : decode cX1_begin 8 = .ok (.aload_n 0, 1) := by decide +kernel
theorem dX1_begin_9 : decode cX1_begin 9 = .ok (.iload_n 2, 1) := by decide +kernel
theorem dX1_begin_10 : decode cX1_begin 10 = .ok (.iconst 5, 1) := by decide +kernel
theorem dX1_begin_11 : decode cX1_begin 11 = .ok (.invokestatic 39, 3) := by decide +kernel
theorem dX1_begin_14 : decode cX1_begin 14 = .ok (.putfield 45, 3) := by decide +kernel
theorem dX1_begin_17 : decode cX1_begin 17 = .ok (.aload_n 0, 1) := by decide +kernel
theorem dX1_begin_18 : decode cX1_begin 18 = .ok (.aload_n 0, 1) := by decide +kernel
theorem dX1_begin_19 : decode cX1_begin 19 = .ok (.getfield 45, 3) := by decide +kernel
theorem dX1_begin_22 : decode cX1_begin 22 = .ok (.iconst 1, 1) := by decide +kernel
theorem dX1_begin_23 : decode cX1_begin 23 = .ok (.iadd, 1) := by decide +kernel
theorem dX1_begin_24 : decode cX1_begin 24 = .ok (.putfield 48, 3) := by decide +kernel
theorem dX1_begin_27 : decode cX1_begin 27 = .ok (.iconst 0, 1) := by decide +kernel
theorem dX1_begin_28 : decode cX1_begin 28 = .ok (.istore_n 3, 1) := by decide +kernel
theorem dX1_begin_29 : decode cX1_begin 29 = .ok (.iload_n 3, 1) := by decide +kernel
theorem dX1_begin_30 : decode cX1_begin 30 = .ok (.aload_n 0, 1) := by decide +kernel
theorem dX1_begin_31 : decode cX1_begin 31 = .ok (.getfield 26, 3) := by decide +kernel
theorem dX1_begin_34 : decode cX1_begin 34 = .ok (.getfield 51, 3) := by decide +kernel
theorem dX1_begin_37 : decode cX1_begin 37 = .ok (.if_icmp .ge 34, 3) := by decide +kernel
theorem dX1_begin_40 : decode cX1_begin 40 = .ok (.aload_n 0, 1) := by decide +kernel
theorem dX1_begin_41 : decode cX1_begin 41 = .ok (.getfield 11, 3) := by decide +kernel
theorem dX1_begin_44 : decode cX1_begin 44 = .ok (.iconst 0, 1) := by decide +kernel
theorem dX1_begin_45 : decode cX1_begin 45 = .ok (.aaload, 1) := by decide +kernel
theorem dX1_begin_46 : decode cX1_begin 46 = .ok (.iload_n 3, 1) := by decide +kernel
theorem dX1_begin_47 : decode cX1_begin 47 = .ok (.aload_n 1, 1) := by decide +kernel
theorem dX1_begin_48 : decode cX1_begin 48 = .ok (.getfield 56, 3) := by decide +kernel
theorem dX1_begin_51 : decode cX1_begin 51 = .ok (.iload_n 3, 1) := by decide +kernel
theorem dX1_begin_52 : decode cX1_begin 52 = .ok (.iaload, 1) := by decide +kernel
theorem dX1_begin_53 : decode cX1_begin 53 = .ok (.iastore, 1) := by decide +kernel
theorem dX1_begin_54 : decode cX1_begin 54 = .ok (.aload_n 0, 1) := by decide +kernel
theorem dX1_begin_55 : decode cX1_begin 55 = .ok (.getfield 16, 3) := by decide +kernel
theorem dX1_begin_58 : decode cX1_begin 58 = .ok (.iload_n 3, 1) := by decide +kernel
theorem dX1_begin_59 : decode cX1_begin 59 = .ok (.aload_n 1, 1) := by decide +kernel
theorem dX1_begin_60 : decode cX1_begin 60 = .ok (.iload_n 3, 1) := by decide +kernel
theorem dX1_begin_61 : decode cX1_begin 61 = .ok (.invokevirtual 58, 3) := by decide +kernel
theorem dX1_begin_64 : decode cX1_begin 64 = .ok (.iastore, 1) := by decide +kernel
theorem dX1_begin_65 : decode cX1_begin 65 = .ok (.iinc 3 1, 3) := by decide +kernel
theorem dX1_begin_68 : decode cX1_begin 68 = .ok (.goto (-39), 3) := by decide +kernel
theorem dX1_begin_71 : decode cX1_begin 71 = .ok (.return_, 1) := by decide +kernel
theorem dX1_laceOn_0 : decode cX1_laceOn 0 = .ok (.iload_n 2, 1) := by decide +kernel
theorem dX1_laceOn_1 : decode cX1_laceOn 1 = .ok (.aload_n 0, 1) := by decide +kernel
theorem dX1_laceOn_2 : decode cX1_laceOn 2 = .ok (.getfield 48, 3) := by decide +kernel
theorem dX1_laceOn_5 : decode cX1_laceOn 5 = .ok (.if_icmp .lt 4, 3) := by decide +kernel
theorem dX1_laceOn_8 : decode cX1_laceOn 8 = .ok (.return_, 1) := by decide +kernel
theorem dX1_laceOn_9 : decode cX1_laceOn 9 = .ok (.iload_n 1, 1) := by decide +kernel
theorem dX1_laceOn_10 : decode cX1_laceOn 10 = .ok (.aload_n 0, 1) := by decide +kernel
theorem dX1_laceOn_11 : decode cX1_laceOn 11 = .ok (.getfield 45, 3) := by decide +kernel
theorem dX1_laceOn_14 : decode cX1_laceOn 14 = .ok (.if_icmp .ge 8, 3) := by decide +kernel
theorem dX1_laceOn_17 : decode cX1_laceOn 17 = .ok (.iload_n 1, 1) := by decide +kernel
theorem dX1_laceOn_18 : decode cX1_laceOn 18 = .ok (.iconst 5, 1) := by decide +kernel
theorem dX1_laceOn_19 : decode cX1_laceOn 19 = .ok (.if_icmp .lt 23, 3) := by decide +kernel
theorem dX1_laceOn_22 : decode cX1_laceOn 22 = .ok (.aload_n 0, 1) := by decide +kernel
theorem dX1_laceOn_23 : decode cX1_laceOn 23 = .ok (.iload_n 2, 1) := by decide +kernel
theorem dX1_laceOn_24 : decode cX1_laceOn 24 = .ok (.putfield 48, 3) := by decide +kernel
theorem dX1_laceOn_27 : decode cX1_laceOn 27 = .ok (.aload_n 0, 1) := by decide +kernel
theorem dX1_laceOn_28 : decode cX1_laceOn 28 = .ok (.getfield 20, 3) := by decide +kernel
theorem dX1_laceOn_31 : decode cX1_laceOn 31 = .ok (.iconst 0, 1) := by decide +kernel
theorem dX1_laceOn_32 : decode cX1_laceOn 32 = .ok (.aload_n 0, 1) := by decide +kernel
theorem dX1_laceOn_33 : decode cX1_laceOn 33 = .ok (.getfield 23, 3) := by decide +kernel
theorem dX1_laceOn_36 : decode cX1_laceOn 36 = .ok (.iconst 0, 1) := by decide +kernel
theorem dX1_laceOn_37 : decode cX1_laceOn 37 = .ok (.iconst 5, 1) := by decide +kernel
theorem dX1_laceOn_38 : decode cX1_laceOn 38 = .ok (.invokestatic 62, 3) := by decide +kernel
theorem dX1_laceOn_41 : decode cX1_laceOn 41 = .ok (.return_, 1) := by decide +kernel
theorem dX1_laceOn_42 : decode cX1_laceOn 42 = .ok (.aload_n 0, 1) := by decide +kernel
theorem dX1_laceOn_43 : decode cX1_laceOn 43 = .ok (.getfield 20, 3) := by decide +kernel
theorem dX1_laceOn_46 : decode cX1_laceOn 46 = .ok (.iload_n 1, 1) := by decide +kernel
theorem dX1_laceOn_47 : decode cX1_laceOn 47 = .ok (.bipush (-9), 2) := by decide +kernel
theorem dX1_laceOn_49 : decode cX1_laceOn 49 = .ok (.iastore, 1) := by decide +kernel
theorem dX1_laceOn_50 : decode cX1_laceOn 50 = .ok (.aload_n 0, 1) := by decide +kernel
theorem dX1_laceOn_51 : decode cX1_laceOn 51 = .ok (.iload_n 1, 1) := by decide +kernel
theorem dX1_laceOn_52 : decode cX1_laceOn 52 = .ok (.bipush (-9), 2) := by decide +kernel
theorem dX1_laceOn_54 : decode cX1_laceOn 54 = .ok (.invokevirtual 68, 3) := by decide +kernel
theorem dX1_laceOn_57 : decode cX1_laceOn 57 = .ok (.ifCond .eq 11, 3) := by decide +kernel
theorem dX1_laceOn_60 : decode cX1_laceOn 60 = .ok (.aload_n 0, 1) := by decide +kernel
theorem dX1_laceOn_61 : decode cX1_laceOn 61 = .ok (.iload_n 1, 1) := by decide +kernel
theorem dX1_laceOn_62 : decode cX1_laceOn 62 = .ok (.iconst 1, 1) := by decide +kernel
theorem dX1_laceOn_63 : decode cX1_laceOn 63 = .ok (.iadd, 1) := by decide +kernel
theorem dX1_laceOn_64 : decode cX1_laceOn 64 = .ok (.iload_n 2, 1) := by decide +kernel
theorem dX1_laceOn_65 : decode cX1_laceOn 65 = .ok (.invokestatic 72, 3) := by decide +kernel
theorem dX1_laceOn_68 : decode cX1_laceOn 68 = .ok (.iconst 0, 1) := by decide +kernel
theorem dX1_laceOn_69 : decode cX1_laceOn 69 = .ok (.istore_n 3, 1) := by decide +kernel
theorem dX1_laceOn_70 : decode cX1_laceOn 70 = .ok (.iload_n 3, 1) := by decide +kernel
theorem dX1_laceOn_71 : decode cX1_laceOn 71 = .ok (.aload_n 0, 1) := by decide +kernel
theorem dX1_laceOn_72 : decode cX1_laceOn 72 = .ok (.getfield 26, 3) := by decide +kernel
theorem dX1_laceOn_75 : decode cX1_laceOn 75 = .ok (.getfield 51, 3) := by decide +kernel
theorem dX1_laceOn_78 : decode cX1_laceOn 78 = .ok (.if_icmp .ge 47, 3) := by decide +kernel
theorem dX1_laceOn_81 : decode cX1_laceOn 81 = .ok (.aload_n 0, 1) := by decide +kernel
theorem dX1_laceOn_82 : decode cX1_laceOn 82 = .ok (.getfield 20, 3) := by decide +kernel
theorem dX1_laceOn_85 : decode cX1_laceOn 85 = .ok (.iload_n 1, 1) := by decide +kernel
theorem dX1_laceOn_86 : decode cX1_laceOn 86 = .ok (.iload_n 3, 1) := by decide +kernel
theorem dX1_laceOn_87 : decode cX1_laceOn 87 = .ok (.iastore, 1) := by decide +kernel
theorem dX1_laceOn_88 : decode cX1_laceOn 88 = .ok (.aload_n 0, 1) := by decide +kernel
theorem dX1_laceOn_89 : decode cX1_laceOn 89 = .ok (.getfield 36, 3) := by decide +kernel
theorem dX1_laceOn_92 : decode cX1_laceOn 92 = .ok (.iload_n 3, 1) := by decide +kernel
theorem dX1_laceOn_93 : decode cX1_laceOn 93 = .ok (.ishr, 1) := by decide +kernel
theorem dX1_laceOn_94 : decode cX1_laceOn 94 = .ok (.iconst 1, 1) := by decide +kernel
theorem dX1_laceOn_95 : decode cX1_laceOn 95 = .ok (.iand, 1) := by decide +kernel
theorem dX1_laceOn_96 : decode cX1_laceOn 96 = .ok (.iconst 1, 1) := by decide +kernel
theorem dX1_laceOn_97 : decode cX1_laceOn 97 = .ok (.if_icmp .ne 22, 3) := by decide +kernel
theorem dX1_laceOn_100 : decode cX1_laceOn 100 = .ok (.aload_n 0, 1) := by decide +kernel
theorem dX1_laceOn_101 : decode cX1_laceOn 101 = .ok (.iload_n 1, 1) := by decide +kernel
theorem dX1_laceOn_102 : decode cX1_laceOn 102 = .ok (.iload_n 3, 1) := by decide +kernel
theorem dX1_laceOn_103 : decode cX1_laceOn 103 = .ok (.invokevirtual 68, 3) := by decide +kernel
theorem dX1_laceOn_106 : decode cX1_laceOn 106 = .ok (.ifCond .eq 13, 3) := by decide +kernel
theorem dX1_laceOn_109 : decode cX1_laceOn 109 = .ok (.aload_n 0, 1) := by decide +kernel
theorem dX1_laceOn_110 : decode cX1_laceOn 110 = .ok (.iload_n 1, 1) := by decide +kernel
theorem dX1_laceOn_111 : decode cX1_laceOn 111 = .ok (.iconst 1, 1) := by decide +kernel
theorem dX1_laceOn_112 : decode cX1_laceOn 112 = .ok (.iadd, 1) := by decide +kernel
theorem dX1_laceOn_113 : decode cX1_laceOn 113 = .ok (.iload_n 2, 1) := by decide +kernel
theorem dX1_laceOn_114 : decode cX1_laceOn 114 = .ok (.iconst 1, 1) := by decide +kernel
theorem dX1_laceOn_115 : decode cX1_laceOn 115 = .ok (.iadd, 1) := by decide +kernel
theorem dX1_laceOn_116 : decode cX1_laceOn 116 = .ok (.invokestatic 72, 3) := by decide +kernel
theorem dX1_laceOn_119 : decode cX1_laceOn 119 = .ok (.iinc 3 1, 3) := by decide +kernel
theorem dX1_laceOn_122 : decode cX1_laceOn 122 = .ok (.goto (-52), 3) := by decide +kernel
theorem dX1_laceOn_125 : decode cX1_laceOn 125 = .ok (.return_, 1) := by decide +kernel
theorem dX1_holdsOut_0 : decode cX1_holdsOut 0 = .ok (.iload_n 1, 1) := by decide +kernel
theorem dX1_holdsOut_1 : decode cX1_holdsOut 1 = .ok (.ifCond .lt 8, 3) := by decide +kernel
theorem dX1_holdsOut_4 : decode cX1_holdsOut 4 = .ok (.iload_n 1, 1) := by decide +kernel
theorem dX1_holdsOut_5 : decode cX1_holdsOut 5 = .ok (.iconst 5, 1) := by decide +kernel
theorem dX1_holdsOut_6 : decode cX1_holdsOut 6 = .ok (.if_icmp .lt 5, 3) := by decide +kernel
theorem dX1_holdsOut_9 : decode cX1_holdsOut 9 = .ok (.iconst 0, 1) := by decide +kernel
theorem dX1_holdsOut_10 : decode cX1_holdsOut 10 = .ok (.ireturn, 1) := by decide +kernel
theorem dX1_holdsOut_11 : decode cX1_holdsOut 11 = .ok (.iconst 0, 1) := by decide +kernel
theorem dX1_holdsOut_12 : decode cX1_holdsOut 12 = .ok (.istore_n 3, 1) := by decide +kernel
theorem dX1_holdsOut_13 : decode cX1_holdsOut 13 = .ok (.iload_n 3, 1) := by decide +kernel
theorem dX1_holdsOut_14 : decode cX1_holdsOut 14 = .ok (.aload_n 0, 1) := by decide +kernel
theorem dX1_holdsOut_15 : decode cX1_holdsOut 15 = .ok (.getfield 26, 3) := by decide +kernel
theorem dX1_holdsOut_18 : decode cX1_holdsOut 18 = .ok (.getfield 51, 3) := by decide +kernel
theorem dX1_holdsOut_21 : decode cX1_holdsOut 21 = .ok (.if_icmp .ge 90, 3) := by decide +kernel
theorem dX1_holdsOut_24 : decode cX1_holdsOut 24 = .ok (.iload_n 3, 1) := by decide +kernel
theorem dX1_holdsOut_25 : decode cX1_holdsOut 25 = .ok (.iload_n 2, 1) := by decide +kernel
theorem dX1_holdsOut_26 : decode cX1_holdsOut 26 = .ok (.if_icmp .ne 7, 3) := by decide +kernel
theorem dX1_holdsOut_29 : decode cX1_holdsOut 29 = .ok (.iconst 0, 1) := by decide +kernel
theorem dX1_holdsOut_30 : decode cX1_holdsOut 30 = .ok (.goto 11, 3) := by decide +kernel
theorem dX1_holdsOut_33 : decode cX1_holdsOut 33 = .ok (.aload_n 0, 1) := by decide +kernel
theorem dX1_holdsOut_34 : decode cX1_holdsOut 34 = .ok (.getfield 11, 3) := by decide +kernel
theorem dX1_holdsOut_37 : decode cX1_holdsOut 37 = .ok (.iload_n 1, 1) := by decide +kernel
theorem dX1_holdsOut_38 : decode cX1_holdsOut 38 = .ok (.aaload, 1) := by decide +kernel
theorem dX1_holdsOut_39 : decode cX1_holdsOut 39 = .ok (.iload_n 3, 1) := by decide +kernel
theorem dX1_holdsOut_40 : decode cX1_holdsOut 40 = .ok (.iaload, 1) := by decide +kernel
theorem dX1_holdsOut_41 : decode cX1_holdsOut 41 = .ok (.istore 4, 2) := by decide +kernel
theorem dX1_holdsOut_43 : decode cX1_holdsOut 43 = .ok (.aload_n 0, 1) := by decide +kernel
theorem dX1_holdsOut_44 : decode cX1_holdsOut 44 = .ok (.getfield 36, 3) := by decide +kernel
theorem dX1_holdsOut_47 : decode cX1_holdsOut 47 = .ok (.iload_n 3, 1) := by decide +kernel
theorem dX1_holdsOut_48 : decode cX1_holdsOut 48 = .ok (.ishr, 1) := by decide +kernel
theorem dX1_holdsOut_49 : decode cX1_holdsOut 49 = .ok (.iconst 1, 1) := by decide +kernel
theorem dX1_holdsOut_50 : decode cX1_holdsOut 50 = .ok (.iand, 1) := by decide +kernel
theorem dX1_holdsOut_51 : decode cX1_holdsOut 51 = .ok (.iconst 1, 1) := by decide +kernel
theorem dX1_holdsOut_52 : decode cX1_holdsOut 52 = .ok (.if_icmp .ne 24, 3) := by decide +kernel
theorem dX1_holdsOut_55 : decode cX1_holdsOut 55 = .ok (.aload_n 0, 1) := by decide +kernel
theorem dX1_holdsOut_56 : decode cX1_holdsOut 56 = .ok (.getfield 16, 3) := by decide +kernel
theorem dX1_holdsOut_59 : decode cX1_holdsOut 59 = .ok (.iload_n 3, 1) := by decide +kernel
theorem dX1_holdsOut_60 : decode cX1_holdsOut 60 = .ok (.iaload, 1) := by decide +kernel
theorem dX1_holdsOut_61 : decode cX1_holdsOut 61 = .ok (.aload_n 0, 1) := by decide +kernel
theorem dX1_holdsOut_62 : decode cX1_holdsOut 62 = .ok (.getfield 26, 3) := by decide +kernel
theorem dX1_holdsOut_65 : decode cX1_holdsOut 65 = .ok (.iload_n 3, 1) := by decide +kernel
theorem dX1_holdsOut_66 : decode cX1_holdsOut 66 = .ok (.iload 4, 2) := by decide +kernel
theorem dX1_holdsOut_68 : decode cX1_holdsOut 68 = .ok (.invokevirtual 76, 3) := by decide +kernel
theorem dX1_holdsOut_71 : decode cX1_holdsOut 71 = .ok (.if_icmp .le 5, 3) := by decide +kernel
theorem dX1_holdsOut_74 : decode cX1_holdsOut 74 = .ok (.iconst 0, 1) := by decide +kernel
theorem dX1_holdsOut_75 : decode cX1_holdsOut 75 = .ok (.ireturn, 1) := by decide +kernel
theorem dX1_holdsOut_76 : decode cX1_holdsOut 76 = .ok (.aload_n 0, 1) := by decide +kernel
theorem dX1_holdsOut_77 : decode cX1_holdsOut 77 = .ok (.getfield 11, 3) := by decide +kernel
theorem dX1_holdsOut_80 : decode cX1_holdsOut 80 = .ok (.iload_n 1, 1) := by decide +kernel
theorem dX1_holdsOut_81 : decode cX1_holdsOut 81 = .ok (.iconst 1, 1) := by decide +kernel
theorem dX1_holdsOut_82 : decode cX1_holdsOut 82 = .ok (.iadd, 1) := by decide +kernel
theorem dX1_holdsOut_83 : decode cX1_holdsOut 83 = .ok (.aaload, 1) := by decide +kernel
theorem dX1_holdsOut_84 : decode cX1_holdsOut 84 = .ok (.iload_n 3, 1) := by decide +kernel
theorem dX1_holdsOut_85 : decode cX1_holdsOut 85 = .ok (.iload 4, 2) := by decide +kernel
theorem dX1_holdsOut_87 : decode cX1_holdsOut 87 = .ok (.aload_n 0, 1) := by decide +kernel
theorem dX1_holdsOut_88 : decode cX1_holdsOut 88 = .ok (.getfield 16, 3) := by decide +kernel
theorem dX1_holdsOut_91 : decode cX1_holdsOut 91 = .ok (.iload_n 3, 1) := by decide +kernel
theorem dX1_holdsOut_92 : decode cX1_holdsOut 92 = .ok (.iaload, 1) := by decide +kernel
theorem dX1_holdsOut_93 : decode cX1_holdsOut 93 = .ok (.ifCond .le 7, 3) := by decide +kernel
theorem dX1_holdsOut_96 : decode cX1_holdsOut 96 = .ok (.iconst 1, 1) := by decide +kernel
theorem dX1_holdsOut_97 : decode cX1_holdsOut 97 = .ok (.goto 4, 3) := by decide +kernel
theorem dX1_holdsOut_100 : decode cX1_holdsOut 100 = .ok (.iconst 0, 1) := by decide +kernel
theorem dX1_holdsOut_101 : decode cX1_holdsOut 101 = .ok (.invokestatic 79, 3) := by decide +kernel
theorem dX1_holdsOut_104 : decode cX1_holdsOut 104 = .ok (.iastore, 1) := by decide +kernel
theorem dX1_holdsOut_105 : decode cX1_holdsOut 105 = .ok (.iinc 3 1, 3) := by decide +kernel
theorem dX1_holdsOut_108 : decode cX1_holdsOut 108 = .ok (.goto (-95), 3) := by decide +kernel
theorem dX1_holdsOut_111 : decode cX1_holdsOut 111 = .ok (.iconst 1, 1) := by decide +kernel
theorem dX1_holdsOut_112 : decode cX1_holdsOut 112 = .ok (.ireturn, 1) := by decide +kernel
theorem dX2_init_0 : decode cX2_init 0 = .ok (.aload_n 0, 1) := by decide +kernel
theorem dX2_init_1 : decode cX2_init 1 = .ok (.invokespecial 3, 3) := by decide +kernel
theorem dX2_init_4 : decode cX2_init 4 = .ok (.aload_n 0, 1) := by decide +kernel
theorem dX2_init_5 : decode cX2_init 5 = .ok (.iconst 4, 1) := by decide +kernel
theorem dX2_init_6 : decode cX2_init 6 = .ok (.newarray .int, 2) := by decide +kernel
theorem dX2_init_8 : decode cX2_init 8 = .ok (.putfield 9, 3) := by decide +kernel
theorem dX2_init_11 : decode cX2_init 11 = .ok (.aload_n 0, 1) := by decide +kernel
theorem dX2_init_12 : decode cX2_init 12 = .ok (.iconst 4, 1) := by decide +kernel
theorem dX2_init_13 : decode cX2_init 13 = .ok (.newarray .int, 2) := by decide +kernel
theorem dX2_init_15 : decode cX2_init 15 = .ok (.putfield 15, 3) := by decide +kernel
theorem dX2_init_18 : decode cX2_init 18 = .ok (.aload_n 0, 1) := by decide +kernel
theorem dX2_init_19 : decode cX2_init 19 = .ok (.iconst 4, 1) := by decide +kernel
theorem dX2_init_20 : decode cX2_init 20 = .ok (.newarray .int, 2) := by decide +kernel
theorem dX2_init_22 : decode cX2_init 22 = .ok (.putfield 18, 3) := by decide +kernel
theorem dX2_init_25 : decode cX2_init 25 = .ok (.aload_n 0, 1) := by decide +kernel
theorem dX2_init_26 : decode cX2_init 26 = .ok (.iconst 5, 1) := by decide +kernel
theorem dX2_init_27 : decode cX2_init 27 = .ok (.newarray .int, 2) := by decide +kernel
theorem dX2_init_29 : decode cX2_init 29 = .ok (.putfield 21, 3) := by decide +kernel
theorem dX2_init_32 : decode cX2_init 32 = .ok (.aload_n 0, 1) := by decide +kernel
theorem dX2_init_33 : decode cX2_init 33 = .ok (.iconst 5, 1) := by decide +kernel
theorem dX2_init_34 : decode cX2_init 34 = .ok (.newarray .int, 2) := by decide +kernel
theorem dX2_init_36 : decode cX2_init 36 = .ok (.putfield 24, 3) := by decide +kernel
theorem dX2_init_39 : decode cX2_init 39 = .ok (.return_, 1) := by decide +kernel
theorem dX2_isEmpty_0 : decode cX2_isEmpty 0 = .ok (.aload_n 0, 1) := by decide +kernel
theorem dX2_isEmpty_1 : decode cX2_isEmpty 1 = .ok (.getfield 27, 3) := by decide +kernel
theorem dX2_isEmpty_4 : decode cX2_isEmpty 4 = .ok (.ifCond .ne 7, 3) := by decide +kernel
theorem dX2_isEmpty_7 : decode cX2_isEmpty 7 = .ok (.iconst 1, 1) := by decide +kernel
theorem dX2_isEmpty_8 : decode cX2_isEmpty 8 = .ok (.goto 4, 3) := by decide +kernel
theorem dX2_isEmpty_11 : decode cX2_isEmpty 11 = .ok (.iconst 0, 1) := by decide +kernel
theorem dX2_isEmpty_12 : decode cX2_isEmpty 12 = .ok (.ireturn, 1) := by decide +kernel
theorem dX2_isPole_0 : decode cX2_isPole 0 = .ok (.iload_n 1, 1) := by decide +kernel
theorem dX2_isPole_1 : decode cX2_isPole 1 = .ok (.ifCond .lt 20, 3) := by decide +kernel
theorem dX2_isPole_4 : decode cX2_isPole 4 = .ok (.iload_n 1, 1) := by decide +kernel
theorem dX2_isPole_5 : decode cX2_isPole 5 = .ok (.aload_n 0, 1) := by decide +kernel
theorem dX2_isPole_6 : decode cX2_isPole 6 = .ok (.getfield 27, 3) := by decide +kernel
theorem dX2_isPole_9 : decode cX2_isPole 9 = .ok (.if_icmp .ge 12, 3) := by decide +kernel
theorem dX2_isPole_12 : decode cX2_isPole 12 = .ok (.iload_n 1, 1) := by decide +kernel
theorem dX2_isPole_13 : decode cX2_isPole 13 = .ok (.iconst 4, 1) := by decide +kernel
theorem dX2_isPole_14 : decode cX2_isPole 14 = .ok (.if_icmp .ge 7, 3) := by decide +kernel
theorem dX2_isPole_17 : decode cX2_isPole 17 = .ok (.iconst 1, 1) := by decide +kernel
theorem dX2_isPole_18 : decode cX2_isPole 18 = .ok (.goto 4, 3) := by decide +kernel
theorem dX2_isPole_21 : decode cX2_isPole 21 = .ok (.iconst 0, 1) := by decide +kernel
theorem dX2_isPole_22 : decode cX2_isPole 22 = .ok (.ireturn, 1) := by decide +kernel
theorem dX2_isOne_0 : decode cX2_isOne 0 = .ok (.iload_n 1, 1) := by decide +kernel
theorem dX2_isOne_1 : decode cX2_isOne 1 = .ok (.ifCond .lt 20, 3) := by decide +kernel
theorem dX2_isOne_4 : decode cX2_isOne 4 = .ok (.iload_n 1, 1) := by decide +kernel
theorem dX2_isOne_5 : decode cX2_isOne 5 = .ok (.aload_n 0, 1) := by decide +kernel
theorem dX2_isOne_6 : decode cX2_isOne 6 = .ok (.getfield 31, 3) := by decide +kernel
theorem dX2_isOne_9 : decode cX2_isOne 9 = .ok (.if_icmp .ge 12, 3) := by decide +kernel
theorem dX2_isOne_12 : decode cX2_isOne 12 = .ok (.iload_n 1, 1) := by decide +kernel
theorem dX2_isOne_13 : decode cX2_isOne 13 = .ok (.iconst 5, 1) := by decide +kernel
theorem dX2_isOne_14 : decode cX2_isOne 14 = .ok (.if_icmp .ge 7, 3) := by decide +kernel
theorem dX2_isOne_17 : decode cX2_isOne 17 = .ok (.iconst 1, 1) := by decide +kernel
theorem dX2_isOne_18 : decode cX2_isOne 18 = .ok (.goto 4, 3) := by decide +kernel
theorem dX2_isOne_21 : decode cX2_isOne 21 = .ok (.iconst 0, 1) := by decide +kernel
theorem dX2_isOne_22 : decode cX2_isOne 22 = .ok (.ireturn, 1) := by decide +kernel
theorem dX2_read_0 : decode cX2_read 0 = .ok (.aload_n 0, 1) := by decide +kernel
theorem dX2_read_1 : decode cX2_read 1 = .ok (.iconst 0, 1) := by decide +kernel
theorem dX2_read_2 : decode cX2_read 2 = .ok (.putfield 27, 3) := by decide +kernel
theorem dX2_read_5 : decode cX2_read 5 = .ok (.aload_n 0, 1) := by decide +kernel
theorem dX2_read_6 : decode cX2_read 6 = .ok (.iconst 0, 1) := by decide +kernel
theorem dX2_read_7 : decode cX2_read 7 = .ok (.putfield 31, 3) := by decide +kernel
theorem dX2_read_10 : decode cX2_read 10 = .ok (.iconst 0, 1) := by decide +kernel
theorem dX2_read_11 : decode cX2_read 11 = .ok (.istore_n 2, 1) := by decide +kernel
theorem dX2_read_12 : decode cX2_read 12 = .ok (.iload_n 2, 1) := by decide +kernel
theorem dX2_read_13 : decode cX2_read 13 = .ok (.aload_n 1, 1) := by decide +kernel
theorem dX2_read_14 : decode cX2_read 14 = .ok (.getfield 34, 3) := by decide +kernel
theorem dX2_read_17 : decode cX2_read 17 = .ok (.if_icmp .ge 73, 3) := by decide +kernel
theorem dX2_read_20 : decode cX2_read 20 = .ok (.aload_n 1, 1) := by decide +kernel
theorem dX2_read_21 : decode cX2_read 21 = .ok (.iload_n 2, 1) := by decide +kernel
theorem dX2_read_22 : decode cX2_read 22 = .ok (.invokevirtual 39, 3) := by decide +kernel
theorem dX2_read_25 : decode cX2_read 25 = .ok (.istore_n 3, 1) := by decide +kernel
theorem dX2_read_26 : decode cX2_read 26 = .ok (.bipush (-9), 2) := by decide +kernel
theorem dX2_read_28 : decode cX2_read 28 = .ok (.istore 4, 2) := by decide +kernel
theorem dX2_read_30 : decode cX2_read 30 = .ok (.iload_n 3, 1) := by decide +kernel
theorem dX2_read_31 : decode cX2_read 31 = .ok (.bipush 32, 2) := by decide +kernel
theorem dX2_read_33 : decode cX2_read 33 = .ok (.if_icmp .ne 9, 3) := by decide +kernel
theorem dX2_read_36 : decode cX2_read 36 = .ok (.iinc 2 1, 3) := by decide +kernel
theorem dX2_read_39 : decode cX2_read 39 = .ok (.goto 38, 3) := by decide +kernel
theorem dX2_read_42 : decode cX2_read 42 = .ok (.iload_n 3, 1) := by decide +kernel
theorem dX2_read_43 : decode cX2_read 43 = .ok (.bipush 109, 2) := by decide +kernel
theorem dX2_read_45 : decode cX2_read 45 = .ok (.if_icmp .ne 17, 3) := by decide +kernel
theorem dX2_read_48 : decode cX2_read 48 = .ok (.aload_n 0, 1) := by decide +kernel
theorem dX2_read_49 : decode cX2_read 49 = .ok (.aload_n 1, 1) := by decide +kernel
theorem dX2_read_50 : decode cX2_read 50 = .ok (.iload_n 2, 1) := by decide +kernel
theorem dX2_read_51 : decode cX2_read 51 = .ok (.invokevirtual 43, 3) := by decide +kernel
theorem dX2_read_54 : decode cX2_read 54 = .ok (.istore 4, 2) := by decide +kernel
theorem dX2_read_56 : decode cX2_read 56 = .ok (.iinc 2 3, 3) := by decide +kernel
theorem dX2_read_59 : decode cX2_read 59 = .ok (.goto 18, 3) := by decide +kernel
theorem dX2_read_62 : decode cX2_read 62 = .ok (.aload_n 0, 1) := by decide +kernel
theorem dX2_read_63 : decode cX2_read 63 = .ok (.aload_n 1, 1) := by decide +kernel
theorem dX2_read_64 : decode cX2_read 64 = .ok (.iload_n 2, 1) := by decide +kernel
theorem dX2_read_65 : decode cX2_read 65 = .ok (.iload_n 3, 1) := by decide +kernel
theorem dX2_read_66 : decode cX2_read 66 = .ok (.invokestatic 47, 3) := by decide +kernel
theorem dX2_read_69 : decode cX2_read 69 = .ok (.invokevirtual 50, 3) := by decide +kernel
theorem dX2_read_72 : decode cX2_read 72 = .ok (.istore 4, 2) := by decide +kernel
theorem dX2_read_74 : decode cX2_read 74 = .ok (.iinc 2 4, 3) := by decide +kernel
theorem dX2_read_77 : decode cX2_read 77 = .ok (.iload 4, 2) := by decide +kernel
theorem dX2_read_79 : decode cX2_read 79 = .ok (.bipush (-9), 2) := by decide +kernel
theorem dX2_read_81 : decode cX2_read 81 = .ok (.if_icmp .eq 6, 3) := by decide +kernel
theorem dX2_read_84 : decode cX2_read 84 = .ok (.iload 4, 2) := by decide +kernel
theorem dX2_read_86 : decode cX2_read 86 = .ok (.ireturn, 1) := by decide +kernel
theorem dX2_read_87 : decode cX2_read 87 = .ok (.goto (-75), 3) := by decide +kernel
theorem dX2_read_90 : decode cX2_read 90 = .ok (.aload_n 0, 1) := by decide +kernel
theorem dX2_read_91 : decode cX2_read 91 = .ok (.getfield 27, 3) := by decide +kernel
theorem dX2_read_94 : decode cX2_read 94 = .ok (.ifCond .eq 10, 3) := by decide +kernel
theorem dX2_read_97 : decode cX2_read 97 = .ok (.aload_n 0, 1) := by decide +kernel
theorem dX2_read_98 : decode cX2_read 98 = .ok (.getfield 31, 3) := by decide +kernel
theorem dX2_read_101 : decode cX2_read 101 = .ok (.ifCond .ne 10, 3) := by decide +kernel
theorem dX2_read_104 : decode cX2_read 104 = .ok (.aload_n 1, 1) := by decide +kernel
theorem dX2_read_105 : decode cX2_read 105 = .ok (.getfield 34, 3) := by decide +kernel
theorem dX2_read_108 : decode cX2_read 108 = .ok (.goto 5, 3) := by decide +kernel
theorem dX2_read_111 : decode cX2_read 111 = .ok (.bipush (-9), 2) := by decide +kernel
theorem dX2_read_113 : decode cX2_read 113 = .ok (.ireturn, 1) := by decide +kernel
theorem dX2_readPole_0 : decode cX2_readPole 0 = .ok (.aload_n 1, 1) := by decide +kernel
theorem dX2_readPole_1 : decode cX2_readPole 1 = .ok (.iload_n 2, 1) := by decide +kernel
theorem dX2_readPole_2 : decode cX2_readPole 2 = .ok (.iconst 1, 1) := by decide +kernel
theorem dX2_readPole_3 : decode cX2_readPole 3 = .ok (.iadd, 1) := by decide +kernel
theorem dX2_readPole_4 : decode cX2_readPole 4 = .ok (.invokestatic 54, 3) := by decide +kernel
theorem dX2_readPole_7 : decode cX2_readPole 7 = .ok (.istore 4, 2) := by decide +kernel
theorem dX2_readPole_9 : decode cX2_readPole 9 = .ok (.aload_n 1, 1) := by decide +kernel
theorem dX2_readPole_10 : decode cX2_readPole 10 = .ok (.iload_n 2, 1) := by decide +kernel
theorem dX2_readPole_11 : decode cX2_readPole 11 = .ok (.iconst 2, 1) := by decide +kernel
theorem dX2_readPole_12 : decode cX2_readPole 12 = .ok (.iadd, 1) := by decide +kernel
theorem dX2_readPole_13 : decode cX2_readPole 13 = .ok (.invokestatic 54, 3) := by decide +kernel
theorem dX2_readPole_16 : decode cX2_readPole 16 = .ok (.istore 5, 2) := by decide +kernel
theorem dX2_readPole_18 : decode cX2_readPole 18 = .ok (.aload_n 1, 1) := by decide +kernel
theorem dX2_readPole_19 : decode cX2_readPole 19 = .ok (.iload_n 2, 1) := by decide +kernel
theorem dX2_readPole_20 : decode cX2_readPole 20 = .ok (.iconst 3, 1) := by decide +kernel
theorem dX2_readPole_21 : decode cX2_readPole 21 = .ok (.iadd, 1) := by decide +kernel
theorem dX2_readPole_22 : decode cX2_readPole 22 = .ok (.invokestatic 54, 3) := by decide +kernel
theorem dX2_readPole_25 : decode cX2_readPole 25 = .ok (.istore 6, 2) := by decide +kernel
theorem dX2_readPole_27 : decode cX2_readPole 27 = .ok (.iload_n 3, 1) := by decide +kernel
theorem dX2_readPole_28 : decode cX2_readPole 28 = .ok (.ifCond .lt 11, 3) := by decide +kernel
theorem dX2_readPole_31 : decode cX2_readPole 31 = .ok (.aload_n 0, 1) := by decide +kernel
theorem dX2_readPole_32 : decode cX2_readPole 32 = .ok (.getfield 27, 3) := by decide +kernel
theorem dX2_readPole_35 : decode cX2_readPole 35 = .ok (.iconst 4, 1) := by decide +kernel
theorem dX2_readPole_36 : decode cX2_readPole 36 = .ok (.if_icmp .lt 5, 3) := by decide +kernel
theorem dX2_readPole_39 : decode cX2_readPole 39 = .ok (.iload_n 2, 1) := by decide +kernel
theorem dX2_readPole_40 : decode cX2_readPole 40 = .ok (.ireturn, 1) := by decide +kernel
theorem dX2_readPole_41 : decode cX2_readPole 41 = .ok (.iload 4, 2) := by decide +kernel
theorem dX2_readPole_43 : decode cX2_readPole 43 = .ok (.iconst 1, 1) := by decide +kernel
theorem dX2_readPole_44 : decode cX2_readPole 44 = .ok (.if_icmp .ge 7, 3) := by decide +kernel
theorem dX2_readPole_47 : decode cX2_readPole 47 = .ok (.iload_n 2, 1) := by decide +kernel
theorem dX2_readPole_48 : decode cX2_readPole 48 = .ok (.iconst 1, 1) := by decide +kernel
theorem dX2_readPole_49 : decode cX2_readPole 49 = .ok (.iadd, 1) := by decide +kernel
theorem dX2_readPole_50 : decode cX2_readPole 50 = .ok (.ireturn, 1) := by decide +kernel
theorem dX2_readPole_51 : decode cX2_readPole 51 = .ok (.iload 5, 2) := by decide +kernel
theorem dX2_readPole_53 : decode cX2_readPole 53 = .ok (.ifCond .ge 7, 3) := by decide +kernel
theorem dX2_readPole_56 : decode cX2_readPole 56 = .ok (.iload_n 2, 1) := by decide +kernel
theorem dX2_readPole_57 : decode cX2_readPole 57 = .ok (.iconst 2, 1) := by decide +kernel
theorem dX2_readPole_58 : decode cX2_readPole 58 = .ok (.iadd, 1) := by decide +kernel
theorem dX2_readPole_59 : decode cX2_readPole 59 = .ok (.ireturn, 1) := by decide +kernel
theorem dX2_readPole_60 : decode cX2_readPole 60 = .ok (.iload 6, 2) := by decide +kernel
theorem dX2_readPole_62 : decode cX2_readPole 62 = .ok (.ifCond .ge 7, 3) := by decide +kernel
theorem dX2_readPole_65 : decode cX2_readPole 65 = .ok (.iload_n 2, 1) := by decide +kernel
theorem dX2_readPole_66 : decode cX2_readPole 66 = .ok (.iconst 3, 1) := by decide +kernel
theorem dX2_readPole_67 : decode cX2_readPole 67 = .ok (.iadd, 1) := by decide +kernel
theorem dX2_readPole_68 : decode cX2_readPole 68 = .ok (.ireturn, 1) := by decide +kernel
theorem dX2_readPole_69 : decode cX2_readPole 69 = .ok (.bipush 10, 2) := by decide +kernel
theorem dX2_readPole_71 : decode cX2_readPole 71 = .ok (.iload 5, 2) := by decide +kernel
theorem dX2_readPole_73 : decode cX2_readPole 73 = .ok (.imul, 1) := by decide +kernel
theorem dX2_readPole_74 : decode cX2_readPole 74 = .ok (.iload 6, 2) := by decide +kernel
theorem dX2_readPole_76 : decode cX2_readPole 76 = .ok (.iadd, 1) := by decide +kernel
theorem dX2_readPole_77 : decode cX2_readPole 77 = .ok (.bipush 60, 2) := by decide +kernel
theorem dX2_readPole_79 : decode cX2_readPole 79 = .ok (.if_icmp .le 7, 3) := by decide +kernel
theorem dX2_readPole_82 : decode cX2_readPole 82 = .ok (.iload_n 2, 1) := by decide +kernel
theorem dX2_readPole_83 : decode cX2_readPole 83 = .ok (.iconst 2, 1) := by decide +kernel
theorem dX2_readPole_84 : decode cX2_readPole 84 = .ok (.iadd, 1) := by decide +kernel
theorem dX2_readPole_85 : decode cX2_readPole 85 = .ok (.ireturn, 1) := by decide +kernel
theorem dX2_readPole_86 : decode cX2_readPole 86 = .ok (.aload_n 0, 1) := by decide +kernel
theorem dX2_readPole_87 : decode cX2_readPole 87 = .ok (.getfield 9, 3) := by decide +kernel
theorem dX2_readPole_90 : decode cX2_readPole 90 = .ok (.aload_n 0, 1) := by decide +kernel
theorem dX2_readPole_91 : decode cX2_readPole 91 = .ok (.getfield 27, 3) := by decide +kernel
theorem dX2_readPole_94 : decode cX2_readPole 94 = .ok (.iload_n 3, 1) := by decide +kernel
theorem dX2_readPole_95 : decode cX2_readPole 95 = .ok (.iastore, 1) := by decide +kernel
theorem dX2_readPole_96 : decode cX2_readPole 96 = .ok (.aload_n 0, 1) := by decide +kernel
theorem dX2_readPole_97 : decode cX2_readPole 97 = .ok (.getfield 15, 3) := by decide +kernel
theorem dX2_readPole_100 : decode cX2_readPole 100 = .ok (.aload_n 0, 1) := by decide +kernel
theorem dX2_readPole_101 : decode cX2_readPole 101 = .ok (.getfield 27, 3) := by decide +kernel
theorem dX2_readPole_104 : decode cX2_readPole 104 = .ok (.iload 4, 2) := by decide +kernel
theorem dX2_readPole_106 : decode cX2_readPole 106 = .ok (.iastore, 1) := by decide +kernel
theorem dX2_readPole_107 : decode cX2_readPole 107 = .ok (.aload_n 0, 1) := by decide +kernel
theorem dX2_readPole_108 : decode cX2_readPole 108 = .ok (.getfield 18, 3) := by decide +kernel
theorem dX2_readPole_111 : decode cX2_readPole 111 = .ok (.aload_n 0, 1) := by decide +kernel
theorem dX2_readPole_112 : decode cX2_readPole 112 = .ok (.getfield 27, 3) := by decide +kernel
theorem dX2_readPole_115 : decode cX2_readPole 115 = .ok (.bipush 10, 2) := by decide +kernel
theorem dX2_readPole_117 : decode cX2_readPole 117 = .ok (.iload 5, 2) := by decide +kernel
theorem dX2_readPole_119 : decode cX2_readPole 119 = .ok (.imul, 1) := by decide +kernel
theorem dX2_readPole_120 : decode cX2_readPole 120 = .ok (.iload 6, 2) := by decide +kernel
theorem dX2_readPole_122 : decode cX2_readPole 122 = .ok (.iadd, 1) := by decide +kernel
theorem dX2_readPole_123 : decode cX2_readPole 123 = .ok (.iastore, 1) := by decide +kernel
theorem dX2_readPole_124 : decode cX2_readPole 124 = .ok (.aload_n 0, 1) := by decide +kernel
theorem dX2_readPole_125 : decode cX2_readPole 125 = .ok (.dup, 1) := by decide +kernel
theorem dX2_readPole_126 : decode cX2_readPole 126 = .ok (.getfield 27, 3) := by decide +kernel
theorem dX2_readPole_129 : decode cX2_readPole 129 = .ok (.iconst 1, 1) := by decide +kernel
theorem dX2_readPole_130 : decode cX2_readPole 130 = .ok (.iadd, 1) := by decide +kernel
theorem dX2_readPole_131 : decode cX2_readPole 131 = .ok (.putfield 27, 3) := by decide +kernel
theorem dX2_readPole_134 : decode cX2_readPole 134 = .ok (.bipush (-9), 2) := by decide +kernel
theorem dX2_readPole_136 : decode cX2_readPole 136 = .ok (.ireturn, 1) := by decide +kernel
theorem dX2_readOne_0 : decode cX2_readOne 0 = .ok (.aload_n 1, 1) := by decide +kernel
theorem dX2_readOne_1 : decode cX2_readOne 1 = .ok (.iload_n 2, 1) := by decide +kernel
theorem dX2_readOne_2 : decode cX2_readOne 2 = .ok (.iconst 1, 1) := by decide +kernel
theorem dX2_readOne_3 : decode cX2_readOne 3 = .ok (.iadd, 1) := by decide +kernel
theorem dX2_readOne_4 : decode cX2_readOne 4 = .ok (.invokestatic 54, 3) := by decide +kernel
theorem dX2_readOne_7 : decode cX2_readOne 7 = .ok (.istore_n 3, 1) := by decide +kernel
theorem dX2_readOne_8 : decode cX2_readOne 8 = .ok (.aload_n 1, 1) := by decide +kernel
theorem dX2_readOne_9 : decode cX2_readOne 9 = .ok (.iload_n 2, 1) := by decide +kernel
theorem dX2_readOne_10 : decode cX2_readOne 10 = .ok (.iconst 2, 1) := by decide +kernel
theorem dX2_readOne_11 : decode cX2_readOne 11 = .ok (.iadd, 1) := by decide +kernel
theorem dX2_readOne_12 : decode cX2_readOne 12 = .ok (.invokestatic 54, 3) := by decide +kernel
theorem dX2_readOne_15 : decode cX2_readOne 15 = .ok (.istore 4, 2) := by decide +kernel
theorem dX2_readOne_17 : decode cX2_readOne 17 = .ok (.aload_n 0, 1) := by decide +kernel
theorem dX2_readOne_18 : decode cX2_readOne 18 = .ok (.getfield 31, 3) := by decide +kernel
theorem dX2_readOne_21 : decode cX2_readOne 21 = .ok (.iconst 5, 1) := by decide +kernel
theorem dX2_readOne_22 : decode cX2_readOne 22 = .ok (.if_icmp .lt 5, 3) := by decide +kernel
theorem dX2_readOne_25 : decode cX2_readOne 25 = .ok (.iload_n 2, 1) := by decide +kernel
theorem dX2_readOne_26 : decode cX2_readOne 26 = .ok (.ireturn, 1) := by decide +kernel
theorem dX2_readOne_27 : decode cX2_readOne 27 = .ok (.iload_n 3, 1) := by decide +kernel
theorem dX2_readOne_28 : decode cX2_readOne 28 = .ok (.iconst 1, 1) := by decide +kernel
theorem dX2_readOne_29 : decode cX2_readOne 29 = .ok (.if_icmp .ge 7, 3) := by decide +kernel
theorem dX2_readOne_32 : decode cX2_readOne 32 = .ok (.iload_n 2, 1) := by decide +kernel
theorem dX2_readOne_33 : decode cX2_readOne 33 = .ok (.iconst 1, 1) := by decide +kernel
theorem dX2_readOne_34 : decode cX2_readOne 34 = .ok (.iadd, 1) := by decide +kernel
theorem dX2_readOne_35 : decode cX2_readOne 35 = .ok (.ireturn, 1) := by decide +kernel
theorem dX2_readOne_36 : decode cX2_readOne 36 = .ok (.iload 4, 2) := by decide +kernel
theorem dX2_readOne_38 : decode cX2_readOne 38 = .ok (.ifCond .ge 7, 3) := by decide +kernel
theorem dX2_readOne_41 : decode cX2_readOne 41 = .ok (.iload_n 2, 1) := by decide +kernel
theorem dX2_readOne_42 : decode cX2_readOne 42 = .ok (.iconst 2, 1) := by decide +kernel
theorem dX2_readOne_43 : decode cX2_readOne 43 = .ok (.iadd, 1) := by decide +kernel
theorem dX2_readOne_44 : decode cX2_readOne 44 = .ok (.ireturn, 1) := by decide +kernel
theorem dX2_readOne_45 : decode cX2_readOne 45 = .ok (.aload_n 0, 1) := by decide +kernel
theorem dX2_readOne_46 : decode cX2_readOne 46 = .ok (.getfield 21, 3) := by decide +kernel
theorem dX2_readOne_49 : decode cX2_readOne 49 = .ok (.aload_n 0, 1) := by decide +kernel
theorem dX2_readOne_50 : decode cX2_readOne 50 = .ok (.getfield 31, 3) := by decide +kernel
theorem dX2_readOne_53 : decode cX2_readOne 53 = .ok (.iload_n 3, 1) := by decide +kernel
theorem dX2_readOne_54 : decode cX2_readOne 54 = .ok (.iastore, 1) := by decide +kernel
theorem dX2_readOne_55 : decode cX2_readOne 55 = .ok (.aload_n 0, 1) := by decide +kernel
theorem dX2_readOne_56 : decode cX2_readOne 56 = .ok (.getfield 24, 3) := by decide +kernel
theorem dX2_readOne_59 : decode cX2_readOne 59 = .ok (.aload_n 0, 1) := by decide +kernel
theorem dX2_readOne_60 : decode cX2_readOne 60 = .ok (.getfield 31, 3) := by decide +kernel
theorem dX2_readOne_63 : decode cX2_readOne 63 = .ok (.iload 4, 2) := by decide +kernel
theorem dX2_readOne_65 : decode cX2_readOne 65 = .ok (.iastore, 1) := by decide +kernel
theorem dX2_readOne_66 : decode cX2_readOne 66 = .ok (.aload_n 0, 1) := by decide +kernel
theorem dX2_readOne_67 : decode cX2_readOne 67 = .ok (.dup, 1) := by decide +kernel
theorem dX2_readOne_68 : decode cX2_readOne 68 = .ok (.getfield 31, 3) := by decide +kernel
theorem dX2_readOne_71 : decode cX2_readOne 71 = .ok (.iconst 1, 1) := by decide +kernel
theorem dX2_readOne_72 : decode cX2_readOne 72 = .ok (.iadd, 1) := by decide +kernel
theorem dX2_readOne_73 : decode cX2_readOne 73 = .ok (.putfield 31, 3) := by decide +kernel
theorem dX2_readOne_76 : decode cX2_readOne 76 = .ok (.bipush (-9), 2) := by decide +kernel
theorem dX2_readOne_78 : decode cX2_readOne 78 = .ok (.ireturn, 1) := by decide +kernel
theorem dX2_figure_0 : decode cX2_figure 0 = .ok (.aload_n 0, 1) := by decide +kernel
theorem dX2_figure_1 : decode cX2_figure 1 = .ok (.iload_n 1, 1) := by decide +kernel
theorem dX2_figure_2 : decode cX2_figure 2 = .ok (.invokevirtual 39, 3) := by decide +kernel
theorem dX2_figure_5 : decode cX2_figure 5 = .ok (.istore_n 2, 1) := by decide +kernel
theorem dX2_figure_6 : decode cX2_figure 6 = .ok (.iload_n 2, 1) := by decide +kernel
theorem dX2_figure_7 : decode cX2_figure 7 = .ok (.bipush 48, 2) := by decide +kernel
theorem dX2_figure_9 : decode cX2_figure 9 = .ok (.if_icmp .lt 16, 3) := by decide +kernel
theorem dX2_figure_12 : decode cX2_figure 12 = .ok (.iload_n 2, 1) := by decide +kernel
theorem dX2_figure_13 : decode cX2_figure 13 = .ok (.bipush 57, 2) := by decide +kernel
theorem dX2_figure_15 : decode cX2_figure 15 = .ok (.if_icmp .gt 10, 3) := by decide +kernel
theorem dX2_figure_18 : decode cX2_figure 18 = .ok (.iload_n 2, 1) := by decide +kernel
theorem dX2_figure_19 : decode cX2_figure 19 = .ok (.bipush 48, 2) := by decide +kernel
theorem dX2_figure_21 : decode cX2_figure 21 = .ok (.isub, 1) := by decide +kernel
theorem dX2_figure_22 : decode cX2_figure 22 = .ok (.goto 4, 3) := by decide +kernel
theorem dX2_figure_25 : decode cX2_figure 25 = .ok (.iconst (-1), 1) := by decide +kernel
theorem dX2_figure_26 : decode cX2_figure 26 = .ok (.ireturn, 1) := by decide +kernel
theorem dX2_kindOf_0 : decode cX2_kindOf 0 = .ok (.iconst 0, 1) := by decide +kernel
theorem dX2_kindOf_1 : decode cX2_kindOf 1 = .ok (.istore_n 1, 1) := by decide +kernel
theorem dX2_kindOf_2 : decode cX2_kindOf 2 = .ok (.iload_n 1, 1) := by decide +kernel
theorem dX2_kindOf_3 : decode cX2_kindOf 3 = .ok (.getstatic 57, 3) := by decide +kernel
theorem dX2_kindOf_6 : decode cX2_kindOf 6 = .ok (.arraylength, 1) := by decide +kernel
theorem dX2_kindOf_7 : decode cX2_kindOf 7 = .ok (.if_icmp .ge 20, 3) := by decide +kernel
theorem dX2_kindOf_10 : decode cX2_kindOf 10 = .ok (.getstatic 57, 3) := by decide +kernel
theorem dX2_kindOf_13 : decode cX2_kindOf 13 = .ok (.iload_n 1, 1) := by decide +kernel
theorem dX2_kindOf_14 : decode cX2_kindOf 14 = .ok (.iaload, 1) := by decide +kernel
theorem dX2_kindOf_15 : decode cX2_kindOf 15 = .ok (.iload_n 0, 1) := by decide +kernel
theorem dX2_kindOf_16 : decode cX2_kindOf 16 = .ok (.if_icmp .ne 5, 3) := by decide +kernel
theorem dX2_kindOf_19 : decode cX2_kindOf 19 = .ok (.iload_n 1, 1) := by decide +kernel
theorem dX2_kindOf_20 : decode cX2_kindOf 20 = .ok (.ireturn, 1) := by decide +kernel
theorem dX2_kindOf_21 : decode cX2_kindOf 21 = .ok (.iinc 1 1, 3) := by decide +kernel
theorem dX2_kindOf_24 : decode cX2_kindOf 24 = .ok (.goto (-22), 3) := by decide +kernel
theorem dX2_kindOf_27 : decode cX2_kindOf 27 = .ok (.iconst (-1), 1) := by decide +kernel
theorem dX2_kindOf_28 : decode cX2_kindOf 28 = .ok (.ireturn, 1) := by decide +kernel
theorem dX2_highOn_0 : decode cX2_highOn 0 = .ok (.iload_n 1, 1) := by decide +kernel
theorem dX2_highOn_1 : decode cX2_highOn 1 = .ok (.ifCond .lt 23, 3) := by decide +kernel
theorem dX2_highOn_4 : decode cX2_highOn 4 = .ok (.iload_n 1, 1) := by decide +kernel
theorem dX2_highOn_5 : decode cX2_highOn 5 = .ok (.aload_n 0, 1) := by decide +kernel
theorem dX2_highOn_6 : decode cX2_highOn 6 = .ok (.getfield 31, 3) := by decide +kernel
theorem dX2_highOn_9 : decode cX2_highOn 9 = .ok (.if_icmp .ge 15, 3) := by decide +kernel
theorem dX2_highOn_12 : decode cX2_highOn 12 = .ok (.iload_n 2, 1) := by decide +kernel
theorem dX2_highOn_13 : decode cX2_highOn 13 = .ok (.ifCond .lt 11, 3) := by decide +kernel
theorem dX2_highOn_16 : decode cX2_highOn 16 = .ok (.iload_n 2, 1) := by decide +kernel
theorem dX2_highOn_17 : decode cX2_highOn 17 = .ok (.aload_n 0, 1) := by decide +kernel
theorem dX2_highOn_18 : decode cX2_highOn 18 = .ok (.getfield 27, 3) := by decide +kernel
theorem dX2_highOn_21 : decode cX2_highOn 21 = .ok (.if_icmp .lt 5, 3) := by decide +kernel
theorem dX2_highOn_24 : decode cX2_highOn 24 = .ok (.iconst 0, 1) := by decide +kernel
theorem dX2_highOn_25 : decode cX2_highOn 25 = .ok (.ireturn, 1) := by decide +kernel
theorem dX2_highOn_26 : decode cX2_highOn 26 = .ok (.aload_n 0, 1) := by decide +kernel
theorem dX2_highOn_27 : decode cX2_highOn 27 = .ok (.getfield 24, 3) := by decide +kernel
theorem dX2_highOn_30 : decode cX2_highOn 30 = .ok (.iload_n 1, 1) := by decide +kernel
theorem dX2_highOn_31 : decode cX2_highOn 31 = .ok (.iaload, 1) := by decide +kernel
theorem dX2_highOn_32 : decode cX2_highOn 32 = .ok (.aload_n 0, 1) := by decide +kernel
theorem dX2_highOn_33 : decode cX2_highOn 33 = .ok (.getfield 15, 3) := by decide +kernel
theorem dX2_highOn_36 : decode cX2_highOn 36 = .ok (.iload_n 2, 1) := by decide +kernel
theorem dX2_highOn_37 : decode cX2_highOn 37 = .ok (.iaload, 1) := by decide +kernel
theorem dX2_highOn_38 : decode cX2_highOn 38 = .ok (.if_icmp .ge 12, 3) := by decide +kernel
theorem dX2_highOn_41 : decode cX2_highOn 41 = .ok (.aload_n 0, 1) := by decide +kernel
theorem dX2_highOn_42 : decode cX2_highOn 42 = .ok (.getfield 24, 3) := by decide +kernel
theorem dX2_highOn_45 : decode cX2_highOn 45 = .ok (.iload_n 1, 1) := by decide +kernel
theorem dX2_highOn_46 : decode cX2_highOn 46 = .ok (.iaload, 1) := by decide +kernel
theorem dX2_highOn_47 : decode cX2_highOn 47 = .ok (.goto 9, 3) := by decide +kernel
theorem dX2_highOn_50 : decode cX2_highOn 50 = .ok (.aload_n 0, 1) := by decide +kernel
theorem dX2_highOn_51 : decode cX2_highOn 51 = .ok (.getfield 15, 3) := by decide +kernel
theorem dX2_highOn_54 : decode cX2_highOn 54 = .ok (.iload_n 2, 1) := by decide +kernel
theorem dX2_highOn_55 : decode cX2_highOn 55 = .ok (.iaload, 1) := by decide +kernel
theorem dX2_highOn_56 : decode cX2_highOn 56 = .ok (.ireturn, 1) := by decide +kernel
theorem dX2_loadBy_0 : decode cX2_loadBy 0 = .ok (.aload_n 0, 1) := by decide +kernel
theorem dX2_loadBy_1 : decode cX2_loadBy 1 = .ok (.iload_n 1, 1) := by decide +kernel
theorem dX2_loadBy_2 : decode cX2_loadBy 2 = .ok (.invokevirtual 60, 3) := by decide +kernel
theorem dX2_loadBy_5 : decode cX2_loadBy 5 = .ok (.ifCond .eq 21, 3) := by decide +kernel
theorem dX2_loadBy_8 : decode cX2_loadBy 8 = .ok (.aload_n 0, 1) := by decide +kernel
theorem dX2_loadBy_9 : decode cX2_loadBy 9 = .ok (.getfield 21, 3) := by decide +kernel
theorem dX2_loadBy_12 : decode cX2_loadBy 12 = .ok (.iload_n 1, 1) := by decide +kernel
theorem dX2_loadBy_13 : decode cX2_loadBy 13 = .ok (.iaload, 1) := by decide +kernel
theorem dX2_loadBy_14 : decode cX2_loadBy 14 = .ok (.aload_n 0, 1) := by decide +kernel
theorem dX2_loadBy_15 : decode cX2_loadBy 15 = .ok (.iload_n 1, 1) := by decide +kernel
theorem dX2_loadBy_16 : decode cX2_loadBy 16 = .ok (.iload_n 2, 1) := by decide +kernel
theorem dX2_loadBy_17 : decode cX2_loadBy 17 = .ok (.invokevirtual 64, 3) := by decide +kernel
theorem dX2_loadBy_20 : decode cX2_loadBy 20 = .ok (.iconst 2, 1) := by decide +kernel
theorem dX2_loadBy_21 : decode cX2_loadBy 21 = .ok (.idiv, 1) := by decide +kernel
theorem dX2_loadBy_22 : decode cX2_loadBy 22 = .ok (.iadd, 1) := by decide +kernel
theorem dX2_loadBy_23 : decode cX2_loadBy 23 = .ok (.goto 4, 3) := by decide +kernel
theorem dX2_loadBy_26 : decode cX2_loadBy 26 = .ok (.iconst 0, 1) := by decide +kernel
theorem dX2_loadBy_27 : decode cX2_loadBy 27 = .ok (.ireturn, 1) := by decide +kernel
theorem dX2_bearsWith_0 : decode cX2_bearsWith 0 = .ok (.aload_n 0, 1) := by decide +kernel
theorem dX2_bearsWith_1 : decode cX2_bearsWith 1 = .ok (.iload_n 1, 1) := by decide +kernel
theorem dX2_bearsWith_2 : decode cX2_bearsWith 2 = .ok (.invokevirtual 68, 3) := by decide +kernel
theorem dX2_bearsWith_5 : decode cX2_bearsWith 5 = .ok (.ifCond .eq 28, 3) := by decide +kernel
theorem dX2_bearsWith_8 : decode cX2_bearsWith 8 = .ok (.aload_n 0, 1) := by decide +kernel
theorem dX2_bearsWith_9 : decode cX2_bearsWith 9 = .ok (.getfield 9, 3) := by decide +kernel
theorem dX2_bearsWith_12 : decode cX2_bearsWith 12 = .ok (.iload_n 1, 1) := by decide +kernel
theorem dX2_bearsWith_13 : decode cX2_bearsWith 13 = .ok (.iaload, 1) := by decide +kernel
theorem dX2_bearsWith_14 : decode cX2_bearsWith 14 = .ok (.aload_n 0, 1) := by decide +kernel
theorem dX2_bearsWith_15 : decode cX2_bearsWith 15 = .ok (.getfield 15, 3) := by decide +kernel
theorem dX2_bearsWith_18 : decode cX2_bearsWith 18 = .ok (.iload_n 1, 1) := by decide +kernel
theorem dX2_bearsWith_19 : decode cX2_bearsWith 19 = .ok (.iaload, 1) := by decide +kernel
theorem dX2_bearsWith_20 : decode cX2_bearsWith 20 = .ok (.aload_n 0, 1) := by decide +kernel
theorem dX2_bearsWith_21 : decode cX2_bearsWith 21 = .ok (.getfield 18, 3) := by decide +kernel
theorem dX2_bearsWith_24 : decode cX2_bearsWith 24 = .ok (.iload_n 1, 1) := by decide +kernel
theorem dX2_bearsWith_25 : decode cX2_bearsWith 25 = .ok (.iaload, 1) := by decide +kernel
theorem dX2_bearsWith_26 : decode cX2_bearsWith 26 = .ok (.iload_n 2, 1) := by decide +kernel
theorem dX2_bearsWith_27 : decode cX2_bearsWith 27 = .ok (.invokestatic 71, 3) := by decide +kernel
theorem dX2_bearsWith_30 : decode cX2_bearsWith 30 = .ok (.goto 4, 3) := by decide +kernel
theorem dX2_bearsWith_33 : decode cX2_bearsWith 33 = .ok (.iconst 0, 1) := by decide +kernel
theorem dX2_bearsWith_34 : decode cX2_bearsWith 34 = .ok (.ireturn, 1) := by decide +kernel
theorem dX2_howManyLaced_0 : decode cX2_howManyLaced 0 = .ok (.iconst 0, 1) := by decide +kernel
theorem dX2_howManyLaced_1 : decode cX2_howManyLaced 1 = .ok (.istore_n 1, 1) := by decide +kernel
theorem dX2_howManyLaced_2 : decode cX2_howManyLaced 2 = .ok (.iconst 0, 1) := by decide +kernel
theorem dX2_howManyLaced_3 : decode cX2_howManyLaced 3 = .ok (.istore_n 2, 1) := by decide +kernel
theorem dX2_howManyLaced_4 : decode cX2_howManyLaced 4 = .ok (.iload_n 2, 1) := by decide +kernel
theorem dX2_howManyLaced_5 : decode cX2_howManyLaced 5 = .ok (.aload_n 0, 1) := by decide +kernel
theorem dX2_howManyLaced_6 : decode cX2_howManyLaced 6 = .ok (.getfield 27, 3) := by decide +kernel
theorem dX2_howManyLaced_9 : decode cX2_howManyLaced 9 = .ok (.if_icmp .ge 30, 3) := by decide +kernel
theorem dX2_howManyLaced_12 : decode cX2_howManyLaced 12 = .ok (.iload_n 1, 1) := by decide +kernel
theorem dX2_howManyLaced_13 : decode cX2_howManyLaced 13 = .ok (.aload_n 0, 1) := by decide +kernel
theorem dX2_howManyLaced_14 : decode cX2_howManyLaced 14 = .ok (.getfield 9, 3) := by decide +kernel
theorem dX2_howManyLaced_17 : decode cX2_howManyLaced 17 = .ok (.iload_n 2, 1) := by decide +kernel
theorem dX2_howManyLaced_18 : decode cX2_howManyLaced 18 = .ok (.iaload, 1) := by decide +kernel
theorem dX2_howManyLaced_19 : decode cX2_howManyLaced 19 = .ok (.iconst 2, 1) := by decide +kernel
theorem dX2_howManyLaced_20 : decode cX2_howManyLaced 20 = .ok (.invokestatic 75, 3) := by decide +kernel
theorem dX2_howManyLaced_23 : decode cX2_howManyLaced 23 = .ok (.ifCond .eq 7, 3) := by decide +kernel
theorem dX2_howManyLaced_26 : decode cX2_howManyLaced 26 = .ok (.iconst 1, 1) := by decide +kernel
theorem dX2_howManyLaced_27 : decode cX2_howManyLaced 27 = .ok (.goto 4, 3) := by decide +kernel
theorem dX2_howManyLaced_30 : decode cX2_howManyLaced 30 = .ok (.iconst 0, 1) := by decide +kernel
theorem dX2_howManyLaced_31 : decode cX2_howManyLaced 31 = .ok (.iadd, 1) := by decide +kernel
theorem dX2_howManyLaced_32 : decode cX2_howManyLaced 32 = .ok (.istore_n 1, 1) := by decide +kernel
theorem dX2_howManyLaced_33 : decode cX2_howManyLaced 33 = .ok (.iinc 2 1, 3) := by decide +kernel
theorem dX2_howManyLaced_36 : decode cX2_howManyLaced 36 = .ok (.goto (-32), 3) := by decide +kernel
theorem dX2_howManyLaced_39 : decode cX2_howManyLaced 39 = .ok (.iload_n 1, 1) := by decide +kernel
theorem dX2_howManyLaced_40 : decode cX2_howManyLaced 40 = .ok (.ireturn, 1) := by decide +kernel
theorem dX3_init_0 : decode cX3_init 0 = .ok (.aload_n 0, 1) := by decide +kernel
theorem dX3_init_1 : decode cX3_init 1 = .ok (.invokespecial 3, 3) := by decide +kernel
theorem dX3_init_4 : decode cX3_init 4 = .ok (.aload_n 0, 1) := by decide +kernel
theorem dX3_init_5 : decode cX3_init 5 = .ok (.bipush 60, 2) := by decide +kernel
theorem dX3_init_7 : decode cX3_init 7 = .ok (.newarray .int, 2) := by decide +kernel
theorem dX3_init_9 : decode cX3_init 9 = .ok (.putfield 9, 3) := by decide +kernel
theorem dX3_init_12 : decode cX3_init 12 = .ok (.aload_n 0, 1) := by decide +kernel
theorem dX3_init_13 : decode cX3_init 13 = .ok (.iconst (-1), 1) := by decide +kernel
theorem dX3_init_14 : decode cX3_init 14 = .ok (.putfield 15, 3) := by decide +kernel
theorem dX3_init_17 : decode cX3_init 17 = .ok (.return_, 1) := by decide +kernel
theorem dX3_isMissing_0 : decode cX3_isMissing 0 = .ok (.aload_n 0, 1) := by decide +kernel
theorem dX3_isMissing_1 : decode cX3_isMissing 1 = .ok (.getfield 15, 3) := by decide +kernel
theorem dX3_isMissing_4 : decode cX3_isMissing 4 = .ok (.ifCond .ge 7, 3) := by decide +kernel
theorem dX3_isMissing_7 : decode cX3_isMissing 7 = .ok (.iconst 1, 1) := by decide +kernel
theorem dX3_isMissing_8 : decode cX3_isMissing 8 = .ok (.goto 4, 3) := by decide +kernel
theorem dX3_isMissing_11 : decode cX3_isMissing 11 = .ok (.iconst 0, 1) := by decide +kernel
theorem dX3_isMissing_12 : decode cX3_isMissing 12 = .ok (.ireturn, 1) := by decide +kernel
theorem dX3_has_0 : decode cX3_has 0 = .ok (.iload_n 1, 1) := by decide +kernel
theorem dX3_has_1 : decode cX3_has 1 = .ok (.ifCond .lt 24, 3) := by decide +kernel
theorem dX3_has_4 : decode cX3_has 4 = .ok (.iload_n 1, 1) := by decide +kernel
theorem dX3_has_5 : decode cX3_has 5 = .ok (.aload_n 0, 1) := by decide +kernel
theorem dX3_has_6 : decode cX3_has 6 = .ok (.getfield 15, 3) := by decide +kernel
theorem dX3_has_9 : decode cX3_has 9 = .ok (.if_icmp .ge 16, 3) := by decide +kernel
theorem dX3_has_12 : decode cX3_has 12 = .ok (.iload_n 1, 1) := by decide +kernel
theorem dX3_has_13 : decode cX3_has 13 = .ok (.aload_n 0, 1) := by decide +kernel
theorem dX3_has_14 : decode cX3_has 14 = .ok (.getfield 9, 3) := by decide +kernel
theorem dX3_has_17 : decode cX3_has 17 = .ok (.arraylength, 1) := by decide +kernel
theorem dX3_has_18 : decode cX3_has 18 = .ok (.if_icmp .ge 7, 3) := by decide +kernel
theorem dX3_has_21 : decode cX3_has 21 = .ok (.iconst 1, 1) := by decide +kernel
theorem dX3_has_22 : decode cX3_has 22 = .ok (.goto 4, 3) := by decide +kernel
theorem dX3_has_25 : decode cX3_has 25 = .ok (.iconst 0, 1) := by decide +kernel
theorem dX3_has_26 : decode cX3_has 26 = .ok (.ireturn, 1) := by decide +kernel
theorem dX3_findingAt_0 : decode cX3_findingAt 0 = .ok (.aload_n 0, 1) := by decide +kernel
theorem dX3_findingAt_1 : decode cX3_findingAt 1 = .ok (.invokevirtual 19, 3) := by decide +kernel
theorem dX3_findingAt_4 : decode cX3_findingAt 4 = .ok (.ifCond .eq 5, 3) := by decide +kernel
theorem dX3_findingAt_7 : decode cX3_findingAt 7 = .ok (.iconst 1, 1) := by decide +kernel
theorem dX3_findingAt_8 : decode cX3_findingAt 8 = .ok (.ireturn, 1) := by decide +kernel
theorem dX3_findingAt_9 : decode cX3_findingAt 9 = .ok (.aload_n 0, 1) := by decide +kernel
theorem dX3_findingAt_10 : decode cX3_findingAt 10 = .ok (.iload_n 1, 1) := by decide +kernel
theorem dX3_findingAt_11 : decode cX3_findingAt 11 = .ok (.invokevirtual 23, 3) := by decide +kernel
theorem dX3_findingAt_14 : decode cX3_findingAt 14 = .ok (.ifCond .eq 7, 3) := by decide +kernel
theorem dX3_findingAt_17 : decode cX3_findingAt 17 = .ok (.iconst 0, 1) := by decide +kernel
theorem dX3_findingAt_18 : decode cX3_findingAt 18 = .ok (.goto 4, 3) := by decide +kernel
theorem dX3_findingAt_21 : decode cX3_findingAt 21 = .ok (.iconst 2, 1) := by decide +kernel
theorem dX3_findingAt_22 : decode cX3_findingAt 22 = .ok (.ireturn, 1) := by decide +kernel
theorem dX3_get_0 : decode cX3_get 0 = .ok (.aload_n 0, 1) := by decide +kernel
theorem dX3_get_1 : decode cX3_get 1 = .ok (.iload_n 1, 1) := by decide +kernel
theorem dX3_get_2 : decode cX3_get 2 = .ok (.invokevirtual 23, 3) := by decide +kernel
theorem dX3_get_5 : decode cX3_get 5 = .ok (.ifCond .eq 12, 3) := by decide +kernel
theorem dX3_get_8 : decode cX3_get 8 = .ok (.aload_n 0, 1) := by decide +kernel
theorem dX3_get_9 : decode cX3_get 9 = .ok (.getfield 9, 3) := by decide +kernel
theorem dX3_get_12 : decode cX3_get 12 = .ok (.iload_n 1, 1) := by decide +kernel
theorem dX3_get_13 : decode cX3_get 13 = .ok (.iaload, 1) := by decide +kernel
theorem dX3_get_14 : decode cX3_get 14 = .ok (.goto 4, 3) := by decide +kernel
theorem dX3_get_17 : decode cX3_get 17 = .ok (.iconst 0, 1) := by decide +kernel
theorem dX3_get_18 : decode cX3_get 18 = .ok (.ireturn, 1) := by decide +kernel
theorem dX3_set_0 : decode cX3_set 0 = .ok (.aload_n 0, 1) := by decide +kernel
theorem dX3_set_1 : decode cX3_set 1 = .ok (.iload_n 1, 1) := by decide +kernel
theorem dX3_set_2 : decode cX3_set 2 = .ok (.invokevirtual 23, 3) := by decide +kernel
theorem dX3_set_5 : decode cX3_set 5 = .ok (.ifCond .eq 10, 3) := by decide +kernel
theorem dX3_set_8 : decode cX3_set 8 = .ok (.aload_n 0, 1) := by decide +kernel
theorem dX3_set_9 : decode cX3_set 9 = .ok (.getfield 9, 3) := by decide +kernel
theorem dX3_set_12 : decode cX3_set 12 = .ok (.iload_n 1, 1) := by decide +kernel
theorem dX3_set_13 : decode cX3_set 13 = .ok (.iload_n 2, 1) := by decide +kernel
theorem dX3_set_14 : decode cX3_set 14 = .ok (.iastore, 1) := by decide +kernel
theorem dX3_set_15 : decode cX3_set 15 = .ok (.return_, 1) := by decide +kernel
theorem dX3_fill_0 : decode cX3_fill 0 = .ok (.aload_n 0, 1) := by decide +kernel
theorem dX3_fill_1 : decode cX3_fill 1 = .ok (.iload_n 1, 1) := by decide +kernel
theorem dX3_fill_2 : decode cX3_fill 2 = .ok (.aload_n 0, 1) := by decide +kernel
theorem dX3_fill_3 : decode cX3_fill 3 = .ok (.getfield 9, 3) := by decide +kernel
theorem dX3_fill_6 : decode cX3_fill 6 = .ok (.arraylength, 1) := by decide +kernel
theorem dX3_fill_7 : decode cX3_fill 7 = .ok (.invokestatic 27, 3) := by decide +kernel
theorem dX3_fill_10 : decode cX3_fill 10 = .ok (.putfield 15, 3) := by decide +kernel
theorem dX3_fill_13 : decode cX3_fill 13 = .ok (.iconst 0, 1) := by decide +kernel
theorem dX3_fill_14 : decode cX3_fill 14 = .ok (.istore_n 3, 1) := by decide +kernel
theorem dX3_fill_15 : decode cX3_fill 15 = .ok (.iload_n 3, 1) := by decide +kernel
theorem dX3_fill_16 : decode cX3_fill 16 = .ok (.aload_n 0, 1) := by decide +kernel
theorem dX3_fill_17 : decode cX3_fill 17 = .ok (.getfield 15, 3) := by decide +kernel
theorem dX3_fill_20 : decode cX3_fill 20 = .ok (.if_icmp .ge 16, 3) := by decide +kernel
theorem dX3_fill_23 : decode cX3_fill 23 = .ok (.aload_n 0, 1) := by decide +kernel
theorem dX3_fill_24 : decode cX3_fill 24 = .ok (.getfield 9, 3) := by decide +kernel
theorem dX3_fill_27 : decode cX3_fill 27 = .ok (.iload_n 3, 1) := by decide +kernel
theorem dX3_fill_28 : decode cX3_fill 28 = .ok (.iload_n 2, 1) := by decide +kernel
theorem dX3_fill_29 : decode cX3_fill 29 = .ok (.iastore, 1) := by decide +kernel
theorem dX3_fill_30 : decode cX3_fill 30 = .ok (.iinc 3 1, 3) := by decide +kernel
theorem dX3_fill_33 : decode cX3_fill 33 = .ok (.goto (-18), 3) := by decide +kernel
theorem dX3_fill_36 : decode cX3_fill 36 = .ok (.return_, 1) := by decide +kernel
theorem dX3_take_0 : decode cX3_take 0 = .ok (.aload_n 0, 1) := by decide +kernel
theorem dX3_take_1 : decode cX3_take 1 = .ok (.iload_n 2, 1) := by decide +kernel
theorem dX3_take_2 : decode cX3_take 2 = .ok (.aload_n 1, 1) := by decide +kernel
theorem dX3_take_3 : decode cX3_take 3 = .ok (.arraylength, 1) := by decide +kernel
theorem dX3_take_4 : decode cX3_take 4 = .ok (.invokestatic 27, 3) := by decide +kernel
theorem dX3_take_7 : decode cX3_take 7 = .ok (.iconst 0, 1) := by decide +kernel
theorem dX3_take_8 : decode cX3_take 8 = .ok (.invokevirtual 33, 3) := by decide +kernel
theorem dX3_take_11 : decode cX3_take 11 = .ok (.iconst 0, 1) := by decide +kernel
theorem dX3_take_12 : decode cX3_take 12 = .ok (.istore_n 3, 1) := by decide +kernel
theorem dX3_take_13 : decode cX3_take 13 = .ok (.iload_n 3, 1) := by decide +kernel
theorem dX3_take_14 : decode cX3_take 14 = .ok (.aload_n 0, 1) := by decide +kernel
theorem dX3_take_15 : decode cX3_take 15 = .ok (.getfield 15, 3) := by decide +kernel
theorem dX3_take_18 : decode cX3_take 18 = .ok (.if_icmp .ge 18, 3) := by decide +kernel
theorem dX3_take_21 : decode cX3_take 21 = .ok (.aload_n 0, 1) := by decide +kernel
theorem dX3_take_22 : decode cX3_take 22 = .ok (.getfield 9, 3) := by decide +kernel
theorem dX3_take_25 : decode cX3_take 25 = .ok (.iload_n 3, 1) := by decide +kernel
theorem dX3_take_26 : decode cX3_take 26 = .ok (.aload_n 1, 1) := by decide +kernel
theorem dX3_take_27 : decode cX3_take 27 = .ok (.iload_n 3, 1) := by decide +kernel
theorem dX3_take_28 : decode cX3_take 28 = .ok (.iaload, 1) := by decide +kernel
theorem dX3_take_29 : decode cX3_take 29 = .ok (.iastore, 1) := by decide +kernel
theorem dX3_take_30 : decode cX3_take 30 = .ok (.iinc 3 1, 3) := by decide +kernel
theorem dX3_take_33 : decode cX3_take 33 = .ok (.goto (-20), 3) := by decide +kernel
theorem dX3_take_36 : decode cX3_take 36 = .ok (.return_, 1) := by decide +kernel
theorem dX4_init_0 : decode cX4_init 0 = .ok (.aload_n 0, 1) := by decide +kernel
theorem dX4_init_1 : decode cX4_init 1 = .ok (.invokespecial 3, 3) := by decide +kernel
theorem dX4_init_4 : decode cX4_init 4 = .ok (.aload_n 0, 1) := by decide +kernel
theorem dX4_init_5 : decode cX4_init 5 = .ok (.iconst 4, 1) := by decide +kernel
theorem dX4_init_6 : decode cX4_init 6 = .ok (.newarray .int, 2) := by decide +kernel
theorem dX4_init_8 : decode cX4_init 8 = .ok (.putfield 9, 3) := by decide +kernel
theorem dX4_init_11 : decode cX4_init 11 = .ok (.aload_n 0, 1) := by decide +kernel
theorem dX4_init_12 : decode cX4_init 12 = .ok (.iconst 5, 1) := by decide +kernel
theorem dX4_init_13 : decode cX4_init 13 = .ok (.newarray .int, 2) := by decide +kernel
theorem dX4_init_15 : decode cX4_init 15 = .ok (.putfield 15, 3) := by decide +kernel
theorem dX4_init_18 : decode cX4_init 18 = .ok (.aload_n 0, 1) := by decide +kernel
theorem dX4_init_19 : decode cX4_init 19 = .ok (.aload_n 1, 1) := by decide +kernel
theorem dX4_init_20 : decode cX4_init 20 = .ok (.putfield 18, 3) := by decide +kernel
theorem dX4_init_23 : decode cX4_init 23 = .ok (.return_, 1) := by decide +kernel
theorem dX4_begin_0 : decode cX4_begin 0 = .ok (.iconst 0, 1) := by decide +kernel
theorem dX4_begin_1 : decode cX4_begin 1 = .ok (.istore_n 1, 1) := by decide +kernel
theorem dX4_begin_2 : decode cX4_begin 2 = .ok (.iload_n 1, 1) := by decide +kernel
theorem dX4_begin_3 : decode cX4_begin 3 = .ok (.aload_n 0, 1) := by decide +kernel
theorem dX4_begin_4 : decode cX4_begin 4 = .ok (.getfield 9, 3) := by decide +kernel
theorem dX4_begin_7 : decode cX4_begin 7 = .ok (.arraylength, 1) := by decide +kernel
theorem dX4_begin_8 : decode cX4_begin 8 = .ok (.if_icmp .ge 16, 3) := by decide +kernel
theorem dX4_begin_11 : decode cX4_begin 11 = .ok (.aload_n 0, 1) := by decide +kernel
theorem dX4_begin_12 : decode cX4_begin 12 = .ok (.getfield 9, 3) := by decide +kernel
theorem dX4_begin_15 : decode cX4_begin 15 = .ok (.iload_n 1, 1) := by decide +kernel
theorem dX4_begin_16 : decode cX4_begin 16 = .ok (.iconst 0, 1) := by decide +kernel
theorem dX4_begin_17 : decode cX4_begin 17 = .ok (.iastore, 1) := by decide +kernel
theorem dX4_begin_18 : decode cX4_begin 18 = .ok (.iinc 1 1, 3) := by decide +kernel
theorem dX4_begin_21 : decode cX4_begin 21 = .ok (.goto (-19), 3) := by decide +kernel
theorem dX4_begin_24 : decode cX4_begin 24 = .ok (.iconst 0, 1) := by decide +kernel
theorem dX4_begin_25 : decode cX4_begin 25 = .ok (.istore_n 1, 1) := by decide +kernel
theorem dX4_begin_26 : decode cX4_begin 26 = .ok (.iload_n 1, 1) := by decide +kernel
theorem dX4_begin_27 : decode cX4_begin 27 = .ok (.aload_n 0, 1) := by decide +kernel
theorem dX4_begin_28 : decode cX4_begin 28 = .ok (.getfield 15, 3) := by decide +kernel
theorem dX4_begin_31 : decode cX4_begin 31 = .ok (.arraylength, 1) := by decide +kernel
theorem dX4_begin_32 : decode cX4_begin 32 = .ok (.if_icmp .ge 17, 3) := by decide +kernel
theorem dX4_begin_35 : decode cX4_begin 35 = .ok (.aload_n 0, 1) := by decide +kernel
theorem dX4_begin_36 : decode cX4_begin 36 = .ok (.getfield 15, 3) := by decide +kernel
theorem dX4_begin_39 : decode cX4_begin 39 = .ok (.iload_n 1, 1) := by decide +kernel
theorem dX4_begin_40 : decode cX4_begin 40 = .ok (.bipush (-9), 2) := by decide +kernel
theorem dX4_begin_42 : decode cX4_begin 42 = .ok (.iastore, 1) := by decide +kernel
theorem dX4_begin_43 : decode cX4_begin 43 = .ok (.iinc 1 1, 3) := by decide +kernel
theorem dX4_begin_46 : decode cX4_begin 46 = .ok (.goto (-20), 3) := by decide +kernel
theorem dX4_begin_49 : decode cX4_begin 49 = .ok (.aload_n 0, 1) := by decide +kernel
theorem dX4_begin_50 : decode cX4_begin 50 = .ok (.iconst 0, 1) := by decide +kernel
theorem dX4_begin_51 : decode cX4_begin 51 = .ok (.putfield 22, 3) := by decide +kernel
theorem dX4_begin_54 : decode cX4_begin 54 = .ok (.aload_n 0, 1) := by decide +kernel
theorem dX4_begin_55 : decode cX4_begin 55 = .ok (.iconst 0, 1) := by decide +kernel
theorem dX4_begin_56 : decode cX4_begin 56 = .ok (.putfield 26, 3) := by decide +kernel
theorem dX4_begin_59 : decode cX4_begin 59 = .ok (.aload_n 0, 1) := by decide +kernel
theorem dX4_begin_60 : decode cX4_begin 60 = .ok (.iconst 0, 1) := by decide +kernel
theorem dX4_begin_61 : decode cX4_begin 61 = .ok (.putfield 29, 3) := by decide +kernel
theorem dX4_begin_64 : decode cX4_begin 64 = .ok (.return_, 1) := by decide +kernel
theorem dX4_take_0 : decode cX4_take 0 = .ok (.iconst 0, 1) := by decide +kernel
theorem dX4_take_1 : decode cX4_take 1 = .ok (.istore_n 2, 1) := by decide +kernel
theorem dX4_take_2 : decode cX4_take 2 = .ok (.iload_n 2, 1) := by decide +kernel
theorem dX4_take_3 : decode cX4_take 3 = .ok (.aload_n 0, 1) := by decide +kernel
theorem dX4_take_4 : decode cX4_take 4 = .ok (.getfield 9, 3) := by decide +kernel
theorem dX4_take_7 : decode cX4_take 7 = .ok (.arraylength, 1) := by decide +kernel
theorem dX4_take_8 : decode cX4_take 8 = .ok (.if_icmp .ge 21, 3) := by decide +kernel
theorem dX4_take_11 : decode cX4_take 11 = .ok (.aload_n 0, 1) := by decide +kernel
theorem dX4_take_12 : decode cX4_take 12 = .ok (.getfield 9, 3) := by decide +kernel
theorem dX4_take_15 : decode cX4_take 15 = .ok (.iload_n 2, 1) := by decide +kernel
theorem dX4_take_16 : decode cX4_take 16 = .ok (.aload_n 1, 1) := by decide +kernel
theorem dX4_take_17 : decode cX4_take 17 = .ok (.getfield 9, 3) := by decide +kernel
theorem dX4_take_20 : decode cX4_take 20 = .ok (.iload_n 2, 1) := by decide +kernel
theorem dX4_take_21 : decode cX4_take 21 = .ok (.iaload, 1) := by decide +kernel
theorem dX4_take_22 : decode cX4_take 22 = .ok (.iastore, 1) := by decide +kernel
theorem dX4_take_23 : decode cX4_take 23 = .ok (.iinc 2 1, 3) := by decide +kernel
theorem dX4_take_26 : decode cX4_take 26 = .ok (.goto (-24), 3) := by decide +kernel
theorem dX4_take_29 : decode cX4_take 29 = .ok (.iconst 0, 1) := by decide +kernel
theorem dX4_take_30 : decode cX4_take 30 = .ok (.istore_n 2, 1) := by decide +kernel
theorem dX4_take_31 : decode cX4_take 31 = .ok (.iload_n 2, 1) := by decide +kernel
theorem dX4_take_32 : decode cX4_take 32 = .ok (.aload_n 0, 1) := by decide +kernel
theorem dX4_take_33 : decode cX4_take 33 = .ok (.getfield 15, 3) := by decide +kernel
theorem dX4_take_36 : decode cX4_take 36 = .ok (.arraylength, 1) := by decide +kernel
theorem dX4_take_37 : decode cX4_take 37 = .ok (.if_icmp .ge 21, 3) := by decide +kernel
theorem dX4_take_40 : decode cX4_take 40 = .ok (.aload_n 0, 1) := by decide +kernel
theorem dX4_take_41 : decode cX4_take 41 = .ok (.getfield 15, 3) := by decide +kernel
theorem dX4_take_44 : decode cX4_take 44 = .ok (.iload_n 2, 1) := by decide +kernel
theorem dX4_take_45 : decode cX4_take 45 = .ok (.aload_n 1, 1) := by decide +kernel
theorem dX4_take_46 : decode cX4_take 46 = .ok (.getfield 15, 3) := by decide +kernel
theorem dX4_take_49 : decode cX4_take 49 = .ok (.iload_n 2, 1) := by decide +kernel
theorem dX4_take_50 : decode cX4_take 50 = .ok (.iaload, 1) := by decide +kernel
theorem dX4_take_51 : decode cX4_take 51 = .ok (.iastore, 1) := by decide +kernel
theorem dX4_take_52 : decode cX4_take 52 = .ok (.iinc 2 1, 3) := by decide +kernel
theorem dX4_take_55 : decode cX4_take 55 = .ok (.goto (-24), 3) := by decide +kernel
theorem dX4_take_58 : decode cX4_take 58 = .ok (.aload_n 0, 1) := by decide +kernel
theorem dX4_take_59 : decode cX4_take 59 = .ok (.aload_n 1, 1) := by decide +kernel
theorem dX4_take_60 : decode cX4_take 60 = .ok (.getfield 22, 3) := by decide +kernel
theorem dX4_take_63 : decode cX4_take 63 = .ok (.putfield 22, 3) := by decide +kernel
theorem dX4_take_66 : decode cX4_take 66 = .ok (.aload_n 0, 1) := by decide +kernel
theorem dX4_take_67 : decode cX4_take 67 = .ok (.aload_n 1, 1) := by decide +kernel
theorem dX4_take_68 : decode cX4_take 68 = .ok (.getfield 26, 3) := by decide +kernel
theorem dX4_take_71 : decode cX4_take 71 = .ok (.putfield 26, 3) := by decide +kernel
theorem dX4_take_74 : decode cX4_take 74 = .ok (.aload_n 0, 1) := by decide +kernel
theorem dX4_take_75 : decode cX4_take 75 = .ok (.aload_n 1, 1) := by decide +kernel
theorem dX4_take_76 : decode cX4_take 76 = .ok (.getfield 29, 3) := by decide +kernel
theorem dX4_take_79 : decode cX4_take 79 = .ok (.putfield 29, 3) := by decide +kernel
theorem dX4_take_82 : decode cX4_take 82 = .ok (.return_, 1) := by decide +kernel
theorem dX4_replay_0 : decode cX4_replay 0 = .ok (.aload_n 0, 1) := by decide +kernel
theorem dX4_replay_1 : decode cX4_replay 1 = .ok (.invokevirtual 32, 3) := by decide +kernel
theorem dX4_replay_4 : decode cX4_replay 4 = .ok (.iconst 0, 1) := by decide +kernel
theorem dX4_replay_5 : decode cX4_replay 5 = .ok (.istore_n 2, 1) := by decide +kernel
theorem dX4_replay_6 : decode cX4_replay 6 = .ok (.iload_n 2, 1) := by decide +kernel
theorem dX4_replay_7 : decode cX4_replay 7 = .ok (.aload_n 1, 1) := by decide +kernel
theorem dX4_replay_8 : decode cX4_replay 8 = .ok (.getfield 35, 3) := by decide +kernel
theorem dX4_replay_11 : decode cX4_replay 11 = .ok (.if_icmp .ge 26, 3) := by decide +kernel
theorem dX4_replay_14 : decode cX4_replay 14 = .ok (.iload_n 2, 1) := by decide +kernel
theorem dX4_replay_15 : decode cX4_replay 15 = .ok (.bipush 40, 2) := by decide +kernel
theorem dX4_replay_17 : decode cX4_replay 17 = .ok (.if_icmp .ge 20, 3) := by decide +kernel
theorem dX4_replay_20 : decode cX4_replay 20 = .ok (.aload_n 0, 1) := by decide +kernel
theorem dX4_replay_21 : decode cX4_replay 21 = .ok (.aload_n 1, 1) := by decide +kernel
theorem dX4_replay_22 : decode cX4_replay 22 = .ok (.getfield 40, 3) := by decide +kernel
theorem dX4_replay_25 : decode cX4_replay 25 = .ok (.iload_n 2, 1) := by decide +kernel
theorem dX4_replay_26 : decode cX4_replay 26 = .ok (.iaload, 1) := by decide +kernel
theorem dX4_replay_27 : decode cX4_replay 27 = .ok (.invokevirtual 43, 3) := by decide +kernel
theorem dX4_replay_30 : decode cX4_replay 30 = .ok (.pop, 1) := by decide +kernel
theorem dX4_replay_31 : decode cX4_replay 31 = .ok (.iinc 2 1, 3) := by decide +kernel
theorem dX4_replay_34 : decode cX4_replay 34 = .ok (.goto (-28), 3) := by decide +kernel
theorem dX4_replay_37 : decode cX4_replay 37 = .ok (.return_, 1) := by decide +kernel
theorem dX4_apply_0 : decode cX4_apply 0 = .ok (.iload_n 1, 1) := by decide +kernel
theorem dX4_apply_1 : decode cX4_apply 1 = .ok (.bipush 10, 2) := by decide +kernel
theorem dX4_apply_3 : decode cX4_apply 3 = .ok (.idiv, 1) := by decide +kernel
theorem dX4_apply_4 : decode cX4_apply 4 = .ok (.bipush 10, 2) := by decide +kernel
theorem dX4_apply_6 : decode cX4_apply 6 = .ok (.irem, 1) := by decide +kernel
theorem dX4_apply_7 : decode cX4_apply 7 = .ok (.istore_n 2, 1) := by decide +kernel
theorem dX4_apply_8 : decode cX4_apply 8 = .ok (.iload_n 1, 1) := by decide +kernel
theorem dX4_apply_9 : decode cX4_apply 9 = .ok (.bipush 10, 2) := by decide +kernel
theorem dX4_apply_11 : decode cX4_apply 11 = .ok (.irem, 1) := by decide +kernel
theorem dX4_apply_12 : decode cX4_apply 12 = .ok (.istore_n 3, 1) := by decide +kernel
theorem dX4_apply_13 : decode cX4_apply 13 = .ok (.iload_n 1, 1) := by decide +kernel
theorem dX4_apply_14 : decode cX4_apply 14 = .ok (.bipush 100, 2) := by decide +kernel
theorem dX4_apply_16 : decode cX4_apply 16 = .ok (.idiv, 1) := by decide +kernel
theorem dX4_apply_17 : decode cX4_apply 17 = .ok (.tableswitch 65 0 3 #[31, 38, 44, 50], 31) := by decide +kernel
theorem dX4_apply_48 : decode cX4_apply 48 = .ok (.aload_n 0, 1) := by decide +kernel
theorem dX4_apply_49 : decode cX4_apply 49 = .ok (.iload_n 2, 1) := by decide +kernel
theorem dX4_apply_50 : decode cX4_apply 50 = .ok (.iload_n 3, 1) := by decide +kernel
theorem dX4_apply_51 : decode cX4_apply 51 = .ok (.invokevirtual 47, 3) := by decide +kernel
theorem dX4_apply_54 : decode cX4_apply 54 = .ok (.ireturn, 1) := by decide +kernel
theorem dX4_apply_55 : decode cX4_apply 55 = .ok (.aload_n 0, 1) := by decide +kernel
theorem dX4_apply_56 : decode cX4_apply 56 = .ok (.iload_n 2, 1) := by decide +kernel
theorem dX4_apply_57 : decode cX4_apply 57 = .ok (.invokevirtual 51, 3) := by decide +kernel
theorem dX4_apply_60 : decode cX4_apply 60 = .ok (.ireturn, 1) := by decide +kernel
theorem dX4_apply_61 : decode cX4_apply 61 = .ok (.aload_n 0, 1) := by decide +kernel
theorem dX4_apply_62 : decode cX4_apply 62 = .ok (.iload_n 3, 1) := by decide +kernel
theorem dX4_apply_63 : decode cX4_apply 63 = .ok (.invokevirtual 54, 3) := by decide +kernel
theorem dX4_apply_66 : decode cX4_apply 66 = .ok (.ireturn, 1) := by decide +kernel
theorem dX4_apply_67 : decode cX4_apply 67 = .ok (.aload_n 0, 1) := by decide +kernel
theorem dX4_apply_68 : decode cX4_apply 68 = .ok (.dup, 1) := by decide +kernel
theorem dX4_apply_69 : decode cX4_apply 69 = .ok (.getfield 29, 3) := by decide +kernel
theorem dX4_apply_72 : decode cX4_apply 72 = .ok (.iconst 1, 1) := by decide +kernel
theorem dX4_apply_73 : decode cX4_apply 73 = .ok (.iadd, 1) := by decide +kernel
theorem dX4_apply_74 : decode cX4_apply 74 = .ok (.putfield 29, 3) := by decide +kernel
theorem dX4_apply_77 : decode cX4_apply 77 = .ok (.aload_n 0, 1) := by decide +kernel
theorem dX4_apply_78 : decode cX4_apply 78 = .ok (.getfield 29, 3) := by decide +kernel
theorem dX4_apply_81 : decode cX4_apply 81 = .ok (.ireturn, 1) := by decide +kernel
theorem dX4_apply_82 : decode cX4_apply 82 = .ok (.aload_n 0, 1) := by decide +kernel
theorem dX4_apply_83 : decode cX4_apply 83 = .ok (.invokevirtual 57, 3) := by decide +kernel
theorem dX4_apply_86 : decode cX4_apply 86 = .ok (.ireturn, 1) := by decide +kernel
theorem dX4_goUp_0 : decode cX4_goUp 0 = .ok (.aload_n 0, 1) := by decide +kernel
theorem dX4_goUp_1 : decode cX4_goUp 1 = .ok (.getfield 18, 3) := by decide +kernel
theorem dX4_goUp_4 : decode cX4_goUp 4 = .ok (.iload_n 1, 1) := by decide +kernel
theorem dX4_goUp_5 : decode cX4_goUp 5 = .ok (.invokevirtual 61, 3) := by decide +kernel
theorem dX4_goUp_8 : decode cX4_goUp 8 = .ok (.ifCond .eq 10, 3) := by decide +kernel
theorem dX4_goUp_11 : decode cX4_goUp 11 = .ok (.aload_n 0, 1) := by decide +kernel
theorem dX4_goUp_12 : decode cX4_goUp 12 = .ok (.getfield 15, 3) := by decide +kernel
theorem dX4_goUp_15 : decode cX4_goUp 15 = .ok (.iload_n 1, 1) := by decide +kernel
theorem dX4_goUp_16 : decode cX4_goUp 16 = .ok (.iload_n 2, 1) := by decide +kernel
theorem dX4_goUp_17 : decode cX4_goUp 17 = .ok (.iastore, 1) := by decide +kernel
theorem dX4_goUp_18 : decode cX4_goUp 18 = .ok (.aload_n 0, 1) := by decide +kernel
theorem dX4_goUp_19 : decode cX4_goUp 19 = .ok (.iload_n 2, 1) := by decide +kernel
theorem dX4_goUp_20 : decode cX4_goUp 20 = .ok (.invokevirtual 67, 3) := by decide +kernel
theorem dX4_goUp_23 : decode cX4_goUp 23 = .ok (.ireturn, 1) := by decide +kernel
theorem dX4_comeDown_0 : decode cX4_comeDown 0 = .ok (.aload_n 0, 1) := by decide +kernel
theorem dX4_comeDown_1 : decode cX4_comeDown 1 = .ok (.getfield 18, 3) := by decide +kernel
theorem dX4_comeDown_4 : decode cX4_comeDown 4 = .ok (.iload_n 1, 1) := by decide +kernel
theorem dX4_comeDown_5 : decode cX4_comeDown 5 = .ok (.invokevirtual 61, 3) := by decide +kernel
theorem dX4_comeDown_8 : decode cX4_comeDown 8 = .ok (.ifCond .ne 5, 3) := by decide +kernel
theorem dX4_comeDown_11 : decode cX4_comeDown 11 = .ok (.iconst 0, 1) := by decide +kernel
theorem dX4_comeDown_12 : decode cX4_comeDown 12 = .ok (.ireturn, 1) := by decide +kernel
theorem dX4_comeDown_13 : decode cX4_comeDown 13 = .ok (.aload_n 0, 1) := by decide +kernel
theorem dX4_comeDown_14 : decode cX4_comeDown 14 = .ok (.getfield 18, 3) := by decide +kernel
theorem dX4_comeDown_17 : decode cX4_comeDown 17 = .ok (.iload_n 1, 1) := by decide +kernel
theorem dX4_comeDown_18 : decode cX4_comeDown 18 = .ok (.aload_n 0, 1) := by decide +kernel
theorem dX4_comeDown_19 : decode cX4_comeDown 19 = .ok (.getfield 15, 3) := by decide +kernel
theorem dX4_comeDown_22 : decode cX4_comeDown 22 = .ok (.iload_n 1, 1) := by decide +kernel
theorem dX4_comeDown_23 : decode cX4_comeDown 23 = .ok (.iaload, 1) := by decide +kernel
theorem dX4_comeDown_24 : decode cX4_comeDown 24 = .ok (.invokevirtual 70, 3) := by decide +kernel
theorem dX4_comeDown_27 : decode cX4_comeDown 27 = .ok (.istore_n 2, 1) := by decide +kernel
theorem dX4_comeDown_28 : decode cX4_comeDown 28 = .ok (.aload_n 0, 1) := by decide +kernel
theorem dX4_comeDown_29 : decode cX4_comeDown 29 = .ok (.getfield 15, 3) := by decide +kernel
theorem dX4_comeDown_32 : decode cX4_comeDown 32 = .ok (.iload_n 1, 1) := by decide +kernel
theorem dX4_comeDown_33 : decode cX4_comeDown 33 = .ok (.bipush (-9), 2) := by decide +kernel
theorem dX4_comeDown_35 : decode cX4_comeDown 35 = .ok (.iastore, 1) := by decide +kernel
theorem dX4_comeDown_36 : decode cX4_comeDown 36 = .ok (.iload_n 2, 1) := by decide +kernel
theorem dX4_comeDown_37 : decode cX4_comeDown 37 = .ok (.ireturn, 1) := by decide +kernel
theorem dX4_renew_0 : decode cX4_renew 0 = .ok (.aload_n 0, 1) := by decide +kernel
theorem dX4_renew_1 : decode cX4_renew 1 = .ok (.getfield 18, 3) := by decide +kernel
theorem dX4_renew_4 : decode cX4_renew 4 = .ok (.iload_n 1, 1) := by decide +kernel
theorem dX4_renew_5 : decode cX4_renew 5 = .ok (.invokevirtual 73, 3) := by decide +kernel
theorem dX4_renew_8 : decode cX4_renew 8 = .ok (.ifCond .ne 5, 3) := by decide +kernel
theorem dX4_renew_11 : decode cX4_renew 11 = .ok (.iconst 0, 1) := by decide +kernel
theorem dX4_renew_12 : decode cX4_renew 12 = .ok (.ireturn, 1) := by decide +kernel
theorem dX4_renew_13 : decode cX4_renew 13 = .ok (.aload_n 0, 1) := by decide +kernel
theorem dX4_renew_14 : decode cX4_renew 14 = .ok (.getfield 9, 3) := by decide +kernel
theorem dX4_renew_17 : decode cX4_renew 17 = .ok (.iload_n 1, 1) := by decide +kernel
theorem dX4_renew_18 : decode cX4_renew 18 = .ok (.iaload, 1) := by decide +kernel
theorem dX4_renew_19 : decode cX4_renew 19 = .ok (.istore_n 2, 1) := by decide +kernel
theorem dX4_renew_20 : decode cX4_renew 20 = .ok (.aload_n 0, 1) := by decide +kernel
theorem dX4_renew_21 : decode cX4_renew 21 = .ok (.getfield 9, 3) := by decide +kernel
theorem dX4_renew_24 : decode cX4_renew 24 = .ok (.iload_n 1, 1) := by decide +kernel
theorem dX4_renew_25 : decode cX4_renew 25 = .ok (.iconst 0, 1) := by decide +kernel
theorem dX4_renew_26 : decode cX4_renew 26 = .ok (.iastore, 1) := by decide +kernel
theorem dX4_renew_27 : decode cX4_renew 27 = .ok (.iload_n 2, 1) := by decide +kernel
theorem dX4_renew_28 : decode cX4_renew 28 = .ok (.ireturn, 1) := by decide +kernel
theorem dX4_passYear_0 : decode cX4_passYear 0 = .ok (.iconst 0, 1) := by decide +kernel
theorem dX4_passYear_1 : decode cX4_passYear 1 = .ok (.istore_n 1, 1) := by decide +kernel
theorem dX4_passYear_2 : decode cX4_passYear 2 = .ok (.iconst 0, 1) := by decide +kernel
theorem dX4_passYear_3 : decode cX4_passYear 3 = .ok (.istore_n 2, 1) := by decide +kernel
theorem dX4_passYear_4 : decode cX4_passYear 4 = .ok (.iload_n 2, 1) := by decide +kernel
theorem dX4_passYear_5 : decode cX4_passYear 5 = .ok (.aload_n 0, 1) := by decide +kernel
theorem dX4_passYear_6 : decode cX4_passYear 6 = .ok (.getfield 18, 3) := by decide +kernel
theorem dX4_passYear_9 : decode cX4_passYear 9 = .ok (.getfield 76, 3) := by decide +kernel
theorem dX4_passYear_12 : decode cX4_passYear 12 = .ok (.if_icmp .ge 73, 3) := by decide +kernel
theorem dX4_passYear_15 : decode cX4_passYear 15 = .ok (.aload_n 0, 1) := by decide +kernel
theorem dX4_passYear_16 : decode cX4_passYear 16 = .ok (.iload_n 2, 1) := by decide +kernel
theorem dX4_passYear_17 : decode cX4_passYear 17 = .ok (.invokevirtual 67, 3) := by decide +kernel
theorem dX4_passYear_20 : decode cX4_passYear 20 = .ok (.istore_n 3, 1) := by decide +kernel
theorem dX4_passYear_21 : decode cX4_passYear 21 = .ok (.aload_n 0, 1) := by decide +kernel
theorem dX4_passYear_22 : decode cX4_passYear 22 = .ok (.iload_n 2, 1) := by decide +kernel
theorem dX4_passYear_23 : decode cX4_passYear 23 = .ok (.invokevirtual 79, 3) := by decide +kernel
theorem dX4_passYear_26 : decode cX4_passYear 26 = .ok (.ifCond .eq 21, 3) := by decide +kernel
theorem dX4_passYear_29 : decode cX4_passYear 29 = .ok (.iload_n 3, 1) := by decide +kernel
theorem dX4_passYear_30 : decode cX4_passYear 30 = .ok (.aload_n 0, 1) := by decide +kernel
theorem dX4_passYear_31 : decode cX4_passYear 31 = .ok (.iload_n 2, 1) := by decide +kernel
theorem dX4_passYear_32 : decode cX4_passYear 32 = .ok (.invokevirtual 82, 3) := by decide +kernel
theorem dX4_passYear_35 : decode cX4_passYear 35 = .ok (.if_icmp .le 12, 3) := by decide +kernel
theorem dX4_passYear_38 : decode cX4_passYear 38 = .ok (.iload_n 1, 1) := by decide +kernel
theorem dX4_passYear_39 : decode cX4_passYear 39 = .ok (.iconst 1, 1) := by decide +kernel
theorem dX4_passYear_40 : decode cX4_passYear 40 = .ok (.iload_n 2, 1) := by decide +kernel
theorem dX4_passYear_41 : decode cX4_passYear 41 = .ok (.ishl, 1) := by decide +kernel
theorem dX4_passYear_42 : decode cX4_passYear 42 = .ok (.ior, 1) := by decide +kernel
theorem dX4_passYear_43 : decode cX4_passYear 43 = .ok (.istore_n 1, 1) := by decide +kernel
theorem dX4_passYear_44 : decode cX4_passYear 44 = .ok (.goto 35, 3) := by decide +kernel
theorem dX4_passYear_47 : decode cX4_passYear 47 = .ok (.aload_n 0, 1) := by decide +kernel
theorem dX4_passYear_48 : decode cX4_passYear 48 = .ok (.iload_n 2, 1) := by decide +kernel
theorem dX4_passYear_49 : decode cX4_passYear 49 = .ok (.invokevirtual 79, 3) := by decide +kernel
theorem dX4_passYear_52 : decode cX4_passYear 52 = .ok (.ifCond .eq 27, 3) := by decide +kernel
theorem dX4_passYear_55 : decode cX4_passYear 55 = .ok (.aload_n 0, 1) := by decide +kernel
theorem dX4_passYear_56 : decode cX4_passYear 56 = .ok (.getfield 9, 3) := by decide +kernel
theorem dX4_passYear_59 : decode cX4_passYear 59 = .ok (.iload_n 2, 1) := by decide +kernel
theorem dX4_passYear_60 : decode cX4_passYear 60 = .ok (.aload_n 0, 1) := by decide +kernel
theorem dX4_passYear_61 : decode cX4_passYear 61 = .ok (.getfield 9, 3) := by decide +kernel
theorem dX4_passYear_64 : decode cX4_passYear 64 = .ok (.iload_n 2, 1) := by decide +kernel
theorem dX4_passYear_65 : decode cX4_passYear 65 = .ok (.iaload, 1) := by decide +kernel
theorem dX4_passYear_66 : decode cX4_passYear 66 = .ok (.iload_n 3, 1) := by decide +kernel
theorem dX4_passYear_67 : decode cX4_passYear 67 = .ok (.ifCond .le 7, 3) := by decide +kernel
theorem dX4_passYear_70 : decode cX4_passYear 70 = .ok (.iconst 1, 1) := by decide +kernel
theorem dX4_passYear_71 : decode cX4_passYear 71 = .ok (.goto 4, 3) := by decide +kernel
theorem dX4_passYear_74 : decode cX4_passYear 74 = .ok (.iconst 0, 1) := by decide +kernel
theorem dX4_passYear_75 : decode cX4_passYear 75 = .ok (.invokestatic 85, 3) := by decide +kernel
theorem dX4_passYear_78 : decode cX4_passYear 78 = .ok (.iastore, 1) := by decide +kernel
theorem dX4_passYear_79 : decode cX4_passYear 79 = .ok (.iinc 2 1, 3) := by decide +kernel
theorem dX4_passYear_82 : decode cX4_passYear 82 = .ok (.goto (-78), 3) := by decide +kernel
theorem dX4_passYear_85 : decode cX4_passYear 85 = .ok (.iconst 0, 1) := by decide +kernel
theorem dX4_passYear_86 : decode cX4_passYear 86 = .ok (.istore_n 2, 1) := by decide +kernel
theorem dX4_passYear_87 : decode cX4_passYear 87 = .ok (.iload_n 2, 1) := by decide +kernel
theorem dX4_passYear_88 : decode cX4_passYear 88 = .ok (.aload_n 0, 1) := by decide +kernel
theorem dX4_passYear_89 : decode cX4_passYear 89 = .ok (.getfield 18, 3) := by decide +kernel
theorem dX4_passYear_92 : decode cX4_passYear 92 = .ok (.getfield 89, 3) := by decide +kernel
theorem dX4_passYear_95 : decode cX4_passYear 95 = .ok (.if_icmp .ge 39, 3) := by decide +kernel
theorem dX4_passYear_98 : decode cX4_passYear 98 = .ok (.aload_n 0, 1) := by decide +kernel
theorem dX4_passYear_99 : decode cX4_passYear 99 = .ok (.iload_n 2, 1) := by decide +kernel
theorem dX4_passYear_100 : decode cX4_passYear 100 = .ok (.invokevirtual 92, 3) := by decide +kernel
theorem dX4_passYear_103 : decode cX4_passYear 103 = .ok (.ifCond .eq 25, 3) := by decide +kernel
theorem dX4_passYear_106 : decode cX4_passYear 106 = .ok (.iload_n 1, 1) := by decide +kernel
theorem dX4_passYear_107 : decode cX4_passYear 107 = .ok (.aload_n 0, 1) := by decide +kernel
theorem dX4_passYear_108 : decode cX4_passYear 108 = .ok (.getfield 15, 3) := by decide +kernel
theorem dX4_passYear_111 : decode cX4_passYear 111 = .ok (.iload_n 2, 1) := by decide +kernel
theorem dX4_passYear_112 : decode cX4_passYear 112 = .ok (.iaload, 1) := by decide +kernel
theorem dX4_passYear_113 : decode cX4_passYear 113 = .ok (.ishr, 1) := by decide +kernel
theorem dX4_passYear_114 : decode cX4_passYear 114 = .ok (.iconst 1, 1) := by decide +kernel
theorem dX4_passYear_115 : decode cX4_passYear 115 = .ok (.iand, 1) := by decide +kernel
theorem dX4_passYear_116 : decode cX4_passYear 116 = .ok (.iconst 1, 1) := by decide +kernel
theorem dX4_passYear_117 : decode cX4_passYear 117 = .ok (.if_icmp .ne 11, 3) := by decide +kernel
theorem dX4_passYear_120 : decode cX4_passYear 120 = .ok (.aload_n 0, 1) := by decide +kernel
theorem dX4_passYear_121 : decode cX4_passYear 121 = .ok (.getfield 15, 3) := by decide +kernel
theorem dX4_passYear_124 : decode cX4_passYear 124 = .ok (.iload_n 2, 1) := by decide +kernel
theorem dX4_passYear_125 : decode cX4_passYear 125 = .ok (.bipush (-9), 2) := by decide +kernel
theorem dX4_passYear_127 : decode cX4_passYear 127 = .ok (.iastore, 1) := by decide +kernel
theorem dX4_passYear_128 : decode cX4_passYear 128 = .ok (.iinc 2 1, 3) := by decide +kernel
theorem dX4_passYear_131 : decode cX4_passYear 131 = .ok (.goto (-44), 3) := by decide +kernel
theorem dX4_passYear_134 : decode cX4_passYear 134 = .ok (.aload_n 0, 1) := by decide +kernel
theorem dX4_passYear_135 : decode cX4_passYear 135 = .ok (.dup, 1) := by decide +kernel
theorem dX4_passYear_136 : decode cX4_passYear 136 = .ok (.getfield 22, 3) := by decide +kernel
theorem dX4_passYear_139 : decode cX4_passYear 139 = .ok (.iload_n 1, 1) := by decide +kernel
theorem dX4_passYear_140 : decode cX4_passYear 140 = .ok (.ior, 1) := by decide +kernel
theorem dX4_passYear_141 : decode cX4_passYear 141 = .ok (.putfield 22, 3) := by decide +kernel
theorem dX4_passYear_144 : decode cX4_passYear 144 = .ok (.aload_n 0, 1) := by decide +kernel
theorem dX4_passYear_145 : decode cX4_passYear 145 = .ok (.dup, 1) := by decide +kernel
theorem dX4_passYear_146 : decode cX4_passYear 146 = .ok (.getfield 26, 3) := by decide +kernel
theorem dX4_passYear_149 : decode cX4_passYear 149 = .ok (.iconst 1, 1) := by decide +kernel
theorem dX4_passYear_150 : decode cX4_passYear 150 = .ok (.iadd, 1) := by decide +kernel
theorem dX4_passYear_151 : decode cX4_passYear 151 = .ok (.putfield 26, 3) := by decide +kernel
theorem dX4_passYear_154 : decode cX4_passYear 154 = .ok (.iload_n 1, 1) := by decide +kernel
theorem dX4_passYear_155 : decode cX4_passYear 155 = .ok (.ireturn, 1) := by decide +kernel
theorem dX4_isUp_0 : decode cX4_isUp 0 = .ok (.aload_n 0, 1) := by decide +kernel
theorem dX4_isUp_1 : decode cX4_isUp 1 = .ok (.getfield 18, 3) := by decide +kernel
theorem dX4_isUp_4 : decode cX4_isUp 4 = .ok (.iload_n 1, 1) := by decide +kernel
theorem dX4_isUp_5 : decode cX4_isUp 5 = .ok (.invokevirtual 73, 3) := by decide +kernel
theorem dX4_isUp_8 : decode cX4_isUp 8 = .ok (.ifCond .eq 18, 3) := by decide +kernel
theorem dX4_isUp_11 : decode cX4_isUp 11 = .ok (.aload_n 0, 1) := by decide +kernel
theorem dX4_isUp_12 : decode cX4_isUp 12 = .ok (.getfield 22, 3) := by decide +kernel
theorem dX4_isUp_15 : decode cX4_isUp 15 = .ok (.iload_n 1, 1) := by decide +kernel
theorem dX4_isUp_16 : decode cX4_isUp 16 = .ok (.ishr, 1) := by decide +kernel
theorem dX4_isUp_17 : decode cX4_isUp 17 = .ok (.iconst 1, 1) := by decide +kernel
theorem dX4_isUp_18 : decode cX4_isUp 18 = .ok (.iand, 1) := by decide +kernel
theorem dX4_isUp_19 : decode cX4_isUp 19 = .ok (.ifCond .ne 7, 3) := by decide +kernel
theorem dX4_isUp_22 : decode cX4_isUp 22 = .ok (.iconst 1, 1) := by decide +kernel
theorem dX4_isUp_23 : decode cX4_isUp 23 = .ok (.goto 4, 3) := by decide +kernel
theorem dX4_isUp_26 : decode cX4_isUp 26 = .ok (.iconst 0, 1) := by decide +kernel
theorem dX4_isUp_27 : decode cX4_isUp 27 = .ok (.ireturn, 1) := by decide +kernel
theorem dX4_isSeated_0 : decode cX4_isSeated 0 = .ok (.aload_n 0, 1) := by decide +kernel
theorem dX4_isSeated_1 : decode cX4_isSeated 1 = .ok (.getfield 18, 3) := by decide +kernel
theorem dX4_isSeated_4 : decode cX4_isSeated 4 = .ok (.iload_n 1, 1) := by decide +kernel
theorem dX4_isSeated_5 : decode cX4_isSeated 5 = .ok (.invokevirtual 61, 3) := by decide +kernel
theorem dX4_isSeated_8 : decode cX4_isSeated 8 = .ok (.ifCond .eq 18, 3) := by decide +kernel
theorem dX4_isSeated_11 : decode cX4_isSeated 11 = .ok (.aload_n 0, 1) := by decide +kernel
theorem dX4_isSeated_12 : decode cX4_isSeated 12 = .ok (.getfield 15, 3) := by decide +kernel
theorem dX4_isSeated_15 : decode cX4_isSeated 15 = .ok (.iload_n 1, 1) := by decide +kernel
theorem dX4_isSeated_16 : decode cX4_isSeated 16 = .ok (.iaload, 1) := by decide +kernel
theorem dX4_isSeated_17 : decode cX4_isSeated 17 = .ok (.bipush (-9), 2) := by decide +kernel
theorem dX4_isSeated_19 : decode cX4_isSeated 19 = .ok (.if_icmp .eq 7, 3) := by decide +kernel
theorem dX4_isSeated_22 : decode cX4_isSeated 22 = .ok (.iconst 1, 1) := by decide +kernel
theorem dX4_isSeated_23 : decode cX4_isSeated 23 = .ok (.goto 4, 3) := by decide +kernel
theorem dX4_isSeated_26 : decode cX4_isSeated 26 = .ok (.iconst 0, 1) := by decide +kernel
theorem dX4_isSeated_27 : decode cX4_isSeated 27 = .ok (.ireturn, 1) := by decide +kernel
theorem dX4_stands_0 : decode cX4_stands 0 = .ok (.aload_n 0, 1) := by decide +kernel
theorem dX4_stands_1 : decode cX4_stands 1 = .ok (.iload_n 1, 1) := by decide +kernel
theorem dX4_stands_2 : decode cX4_stands 2 = .ok (.invokevirtual 79, 3) := by decide +kernel
theorem dX4_stands_5 : decode cX4_stands 5 = .ok (.ifCond .eq 20, 3) := by decide +kernel
theorem dX4_stands_8 : decode cX4_stands 8 = .ok (.aload_n 0, 1) := by decide +kernel
theorem dX4_stands_9 : decode cX4_stands 9 = .ok (.iload_n 1, 1) := by decide +kernel
theorem dX4_stands_10 : decode cX4_stands 10 = .ok (.invokevirtual 67, 3) := by decide +kernel
theorem dX4_stands_13 : decode cX4_stands 13 = .ok (.aload_n 0, 1) := by decide +kernel
theorem dX4_stands_14 : decode cX4_stands 14 = .ok (.iload_n 1, 1) := by decide +kernel
theorem dX4_stands_15 : decode cX4_stands 15 = .ok (.invokevirtual 82, 3) := by decide +kernel
theorem dX4_stands_18 : decode cX4_stands 18 = .ok (.if_icmp .gt 7, 3) := by decide +kernel
theorem dX4_stands_21 : decode cX4_stands 21 = .ok (.iconst 1, 1) := by decide +kernel
theorem dX4_stands_22 : decode cX4_stands 22 = .ok (.goto 4, 3) := by decide +kernel
theorem dX4_stands_25 : decode cX4_stands 25 = .ok (.iconst 0, 1) := by decide +kernel
theorem dX4_stands_26 : decode cX4_stands 26 = .ok (.ireturn, 1) := by decide +kernel
theorem dX4_up_0 : decode cX4_up 0 = .ok (.iconst 1, 1) := by decide +kernel
theorem dX4_up_1 : decode cX4_up 1 = .ok (.aload_n 0, 1) := by decide +kernel
theorem dX4_up_2 : decode cX4_up 2 = .ok (.getfield 18, 3) := by decide +kernel
theorem dX4_up_5 : decode cX4_up 5 = .ok (.getfield 76, 3) := by decide +kernel
theorem dX4_up_8 : decode cX4_up 8 = .ok (.ishl, 1) := by decide +kernel
theorem dX4_up_9 : decode cX4_up 9 = .ok (.iconst 1, 1) := by decide +kernel
theorem dX4_up_10 : decode cX4_up 10 = .ok (.isub, 1) := by decide +kernel
theorem dX4_up_11 : decode cX4_up 11 = .ok (.aload_n 0, 1) := by decide +kernel
theorem dX4_up_12 : decode cX4_up 12 = .ok (.getfield 22, 3) := by decide +kernel
theorem dX4_up_15 : decode cX4_up 15 = .ok (.iconst (-1), 1) := by decide +kernel
theorem dX4_up_16 : decode cX4_up 16 = .ok (.ixor, 1) := by decide +kernel
theorem dX4_up_17 : decode cX4_up 17 = .ok (.iand, 1) := by decide +kernel
theorem dX4_up_18 : decode cX4_up 18 = .ok (.ireturn, 1) := by decide +kernel
theorem dX4_standing_0 : decode cX4_standing 0 = .ok (.iconst 0, 1) := by decide +kernel
theorem dX4_standing_1 : decode cX4_standing 1 = .ok (.istore_n 1, 1) := by decide +kernel
theorem dX4_standing_2 : decode cX4_standing 2 = .ok (.iconst 0, 1) := by decide +kernel
theorem dX4_standing_3 : decode cX4_standing 3 = .ok (.istore_n 2, 1) := by decide +kernel
theorem dX4_standing_4 : decode cX4_standing 4 = .ok (.iload_n 2, 1) := by decide +kernel
theorem dX4_standing_5 : decode cX4_standing 5 = .ok (.aload_n 0, 1) := by decide +kernel
theorem dX4_standing_6 : decode cX4_standing 6 = .ok (.getfield 18, 3) := by decide +kernel
theorem dX4_standing_9 : decode cX4_standing 9 = .ok (.getfield 76, 3) := by decide +kernel
theorem dX4_standing_12 : decode cX4_standing 12 = .ok (.if_icmp .ge 23, 3) := by decide +kernel
theorem dX4_standing_15 : decode cX4_standing 15 = .ok (.aload_n 0, 1) := by decide +kernel
theorem dX4_standing_16 : decode cX4_standing 16 = .ok (.iload_n 2, 1) := by decide +kernel
theorem dX4_standing_17 : decode cX4_standing 17 = .ok (.invokevirtual 95, 3) := by decide +kernel
theorem dX4_standing_20 : decode cX4_standing 20 = .ok (.ifCond .eq 9, 3) := by decide +kernel
theorem dX4_standing_23 : decode cX4_standing 23 = .ok (.iload_n 1, 1) := by decide +kernel
theorem dX4_standing_24 : decode cX4_standing 24 = .ok (.iconst 1, 1) := by decide +kernel
theorem dX4_standing_25 : decode cX4_standing 25 = .ok (.iload_n 2, 1) := by decide +kernel
theorem dX4_standing_26 : decode cX4_standing 26 = .ok (.ishl, 1) := by decide +kernel
theorem dX4_standing_27 : decode cX4_standing 27 = .ok (.ior, 1) := by decide +kernel
theorem dX4_standing_28 : decode cX4_standing 28 = .ok (.istore_n 1, 1) := by decide +kernel
theorem dX4_standing_29 : decode cX4_standing 29 = .ok (.iinc 2 1, 3) := by decide +kernel
theorem dX4_standing_32 : decode cX4_standing 32 = .ok (.goto (-28), 3) := by decide +kernel
theorem dX4_standing_35 : decode cX4_standing 35 = .ok (.iload_n 1, 1) := by decide +kernel
theorem dX4_standing_36 : decode cX4_standing 36 = .ok (.ireturn, 1) := by decide +kernel
theorem dX4_loadOn_0 : decode cX4_loadOn 0 = .ok (.iconst 0, 1) := by decide +kernel
theorem dX4_loadOn_1 : decode cX4_loadOn 1 = .ok (.istore_n 2, 1) := by decide +kernel
theorem dX4_loadOn_2 : decode cX4_loadOn 2 = .ok (.iconst 0, 1) := by decide +kernel
theorem dX4_loadOn_3 : decode cX4_loadOn 3 = .ok (.istore_n 3, 1) := by decide +kernel
theorem dX4_loadOn_4 : decode cX4_loadOn 4 = .ok (.iload_n 3, 1) := by decide +kernel
theorem dX4_loadOn_5 : decode cX4_loadOn 5 = .ok (.aload_n 0, 1) := by decide +kernel
theorem dX4_loadOn_6 : decode cX4_loadOn 6 = .ok (.getfield 18, 3) := by decide +kernel
theorem dX4_loadOn_9 : decode cX4_loadOn 9 = .ok (.getfield 89, 3) := by decide +kernel
theorem dX4_loadOn_12 : decode cX4_loadOn 12 = .ok (.if_icmp .ge 31, 3) := by decide +kernel
theorem dX4_loadOn_15 : decode cX4_loadOn 15 = .ok (.aload_n 0, 1) := by decide +kernel
theorem dX4_loadOn_16 : decode cX4_loadOn 16 = .ok (.getfield 15, 3) := by decide +kernel
theorem dX4_loadOn_19 : decode cX4_loadOn 19 = .ok (.iload_n 3, 1) := by decide +kernel
theorem dX4_loadOn_20 : decode cX4_loadOn 20 = .ok (.iaload, 1) := by decide +kernel
theorem dX4_loadOn_21 : decode cX4_loadOn 21 = .ok (.iload_n 1, 1) := by decide +kernel
theorem dX4_loadOn_22 : decode cX4_loadOn 22 = .ok (.if_icmp .ne 15, 3) := by decide +kernel
theorem dX4_loadOn_25 : decode cX4_loadOn 25 = .ok (.iload_n 2, 1) := by decide +kernel
theorem dX4_loadOn_26 : decode cX4_loadOn 26 = .ok (.aload_n 0, 1) := by decide +kernel
theorem dX4_loadOn_27 : decode cX4_loadOn 27 = .ok (.getfield 18, 3) := by decide +kernel
theorem dX4_loadOn_30 : decode cX4_loadOn 30 = .ok (.iload_n 3, 1) := by decide +kernel
theorem dX4_loadOn_31 : decode cX4_loadOn 31 = .ok (.iload_n 1, 1) := by decide +kernel
theorem dX4_loadOn_32 : decode cX4_loadOn 32 = .ok (.invokevirtual 98, 3) := by decide +kernel
theorem dX4_loadOn_35 : decode cX4_loadOn 35 = .ok (.iadd, 1) := by decide +kernel
theorem dX4_loadOn_36 : decode cX4_loadOn 36 = .ok (.istore_n 2, 1) := by decide +kernel
theorem dX4_loadOn_37 : decode cX4_loadOn 37 = .ok (.iinc 3 1, 3) := by decide +kernel
theorem dX4_loadOn_40 : decode cX4_loadOn 40 = .ok (.goto (-36), 3) := by decide +kernel
theorem dX4_loadOn_43 : decode cX4_loadOn 43 = .ok (.iload_n 2, 1) := by decide +kernel
theorem dX4_loadOn_44 : decode cX4_loadOn 44 = .ok (.ireturn, 1) := by decide +kernel
theorem dX4_bearsNow_0 : decode cX4_bearsNow 0 = .ok (.aload_n 0, 1) := by decide +kernel
theorem dX4_bearsNow_1 : decode cX4_bearsNow 1 = .ok (.getfield 18, 3) := by decide +kernel
theorem dX4_bearsNow_4 : decode cX4_bearsNow 4 = .ok (.iload_n 1, 1) := by decide +kernel
theorem dX4_bearsNow_5 : decode cX4_bearsNow 5 = .ok (.invokevirtual 73, 3) := by decide +kernel
theorem dX4_bearsNow_8 : decode cX4_bearsNow 8 = .ok (.ifCond .eq 42, 3) := by decide +kernel
theorem dX4_bearsNow_11 : decode cX4_bearsNow 11 = .ok (.aload_n 0, 1) := by decide +kernel
theorem dX4_bearsNow_12 : decode cX4_bearsNow 12 = .ok (.getfield 18, 3) := by decide +kernel
theorem dX4_bearsNow_15 : decode cX4_bearsNow 15 = .ok (.getfield 101, 3) := by decide +kernel
theorem dX4_bearsNow_18 : decode cX4_bearsNow 18 = .ok (.iload_n 1, 1) := by decide +kernel
theorem dX4_bearsNow_19 : decode cX4_bearsNow 19 = .ok (.iaload, 1) := by decide +kernel
theorem dX4_bearsNow_20 : decode cX4_bearsNow 20 = .ok (.aload_n 0, 1) := by decide +kernel
theorem dX4_bearsNow_21 : decode cX4_bearsNow 21 = .ok (.getfield 18, 3) := by decide +kernel
theorem dX4_bearsNow_24 : decode cX4_bearsNow 24 = .ok (.getfield 104, 3) := by decide +kernel
theorem dX4_bearsNow_27 : decode cX4_bearsNow 27 = .ok (.iload_n 1, 1) := by decide +kernel
theorem dX4_bearsNow_28 : decode cX4_bearsNow 28 = .ok (.iaload, 1) := by decide +kernel
theorem dX4_bearsNow_29 : decode cX4_bearsNow 29 = .ok (.aload_n 0, 1) := by decide +kernel
theorem dX4_bearsNow_30 : decode cX4_bearsNow 30 = .ok (.getfield 18, 3) := by decide +kernel
theorem dX4_bearsNow_33 : decode cX4_bearsNow 33 = .ok (.getfield 107, 3) := by decide +kernel
theorem dX4_bearsNow_36 : decode cX4_bearsNow 36 = .ok (.iload_n 1, 1) := by decide +kernel
theorem dX4_bearsNow_37 : decode cX4_bearsNow 37 = .ok (.iaload, 1) := by decide +kernel
theorem dX4_bearsNow_38 : decode cX4_bearsNow 38 = .ok (.aload_n 0, 1) := by decide +kernel
theorem dX4_bearsNow_39 : decode cX4_bearsNow 39 = .ok (.getfield 9, 3) := by decide +kernel
theorem dX4_bearsNow_42 : decode cX4_bearsNow 42 = .ok (.iload_n 1, 1) := by decide +kernel
theorem dX4_bearsNow_43 : decode cX4_bearsNow 43 = .ok (.iaload, 1) := by decide +kernel
theorem dX4_bearsNow_44 : decode cX4_bearsNow 44 = .ok (.invokestatic 110, 3) := by decide +kernel
theorem dX4_bearsNow_47 : decode cX4_bearsNow 47 = .ok (.goto 4, 3) := by decide +kernel
theorem dX4_bearsNow_50 : decode cX4_bearsNow 50 = .ok (.iconst 0, 1) := by decide +kernel
theorem dX4_bearsNow_51 : decode cX4_bearsNow 51 = .ok (.ireturn, 1) := by decide +kernel
theorem dX4_bearsAs_0 : decode cX4_bearsAs 0 = .ok (.aload_n 0, 1) := by decide +kernel
theorem dX4_bearsAs_1 : decode cX4_bearsAs 1 = .ok (.getfield 18, 3) := by decide +kernel
theorem dX4_bearsAs_4 : decode cX4_bearsAs 4 = .ok (.iload_n 1, 1) := by decide +kernel
theorem dX4_bearsAs_5 : decode cX4_bearsAs 5 = .ok (.invokevirtual 73, 3) := by decide +kernel
theorem dX4_bearsAs_8 : decode cX4_bearsAs 8 = .ok (.ifCond .eq 34, 3) := by decide +kernel
theorem dX4_bearsAs_11 : decode cX4_bearsAs 11 = .ok (.iload_n 2, 1) := by decide +kernel
theorem dX4_bearsAs_12 : decode cX4_bearsAs 12 = .ok (.aload_n 0, 1) := by decide +kernel
theorem dX4_bearsAs_13 : decode cX4_bearsAs 13 = .ok (.getfield 18, 3) := by decide +kernel
theorem dX4_bearsAs_16 : decode cX4_bearsAs 16 = .ok (.getfield 104, 3) := by decide +kernel
theorem dX4_bearsAs_19 : decode cX4_bearsAs 19 = .ok (.iload_n 1, 1) := by decide +kernel
theorem dX4_bearsAs_20 : decode cX4_bearsAs 20 = .ok (.iaload, 1) := by decide +kernel
theorem dX4_bearsAs_21 : decode cX4_bearsAs 21 = .ok (.aload_n 0, 1) := by decide +kernel
theorem dX4_bearsAs_22 : decode cX4_bearsAs 22 = .ok (.getfield 18, 3) := by decide +kernel
theorem dX4_bearsAs_25 : decode cX4_bearsAs 25 = .ok (.getfield 107, 3) := by decide +kernel
theorem dX4_bearsAs_28 : decode cX4_bearsAs 28 = .ok (.iload_n 1, 1) := by decide +kernel
theorem dX4_bearsAs_29 : decode cX4_bearsAs 29 = .ok (.iaload, 1) := by decide +kernel
theorem dX4_bearsAs_30 : decode cX4_bearsAs 30 = .ok (.aload_n 0, 1) := by decide +kernel
theorem dX4_bearsAs_31 : decode cX4_bearsAs 31 = .ok (.getfield 9, 3) := by decide +kernel
theorem dX4_bearsAs_34 : decode cX4_bearsAs 34 = .ok (.iload_n 1, 1) := by decide +kernel
theorem dX4_bearsAs_35 : decode cX4_bearsAs 35 = .ok (.iaload, 1) := by decide +kernel
theorem dX4_bearsAs_36 : decode cX4_bearsAs 36 = .ok (.invokestatic 110, 3) := by decide +kernel
theorem dX4_bearsAs_39 : decode cX4_bearsAs 39 = .ok (.goto 4, 3) := by decide +kernel
theorem dX4_bearsAs_42 : decode cX4_bearsAs 42 = .ok (.iconst 0, 1) := by decide +kernel
theorem dX4_bearsAs_43 : decode cX4_bearsAs 43 = .ok (.ireturn, 1) := by decide +kernel
theorem dX4_howManyHold_0 : decode cX4_howManyHold 0 = .ok (.iconst 0, 1) := by decide +kernel
theorem dX4_howManyHold_1 : decode cX4_howManyHold 1 = .ok (.istore 4, 2) := by decide +kernel
theorem dX4_howManyHold_3 : decode cX4_howManyHold 3 = .ok (.iconst 0, 1) := by decide +kernel
theorem dX4_howManyHold_4 : decode cX4_howManyHold 4 = .ok (.istore 5, 2) := by decide +kernel
theorem dX4_howManyHold_6 : decode cX4_howManyHold 6 = .ok (.iload 5, 2) := by decide +kernel
theorem dX4_howManyHold_8 : decode cX4_howManyHold 8 = .ok (.bipush 6, 2) := by decide +kernel
theorem dX4_howManyHold_10 : decode cX4_howManyHold 10 = .ok (.if_icmp .ge 33, 3) := by decide +kernel
theorem dX4_howManyHold_13 : decode cX4_howManyHold 13 = .ok (.iload_n 2, 1) := by decide +kernel
theorem dX4_howManyHold_14 : decode cX4_howManyHold 14 = .ok (.iload 5, 2) := by decide +kernel
theorem dX4_howManyHold_16 : decode cX4_howManyHold 16 = .ok (.ishr, 1) := by decide +kernel
theorem dX4_howManyHold_17 : decode cX4_howManyHold 17 = .ok (.iconst 1, 1) := by decide +kernel
theorem dX4_howManyHold_18 : decode cX4_howManyHold 18 = .ok (.iand, 1) := by decide +kernel
theorem dX4_howManyHold_19 : decode cX4_howManyHold 19 = .ok (.iconst 1, 1) := by decide +kernel
theorem dX4_howManyHold_20 : decode cX4_howManyHold 20 = .ok (.if_icmp .ne 17, 3) := by decide +kernel
theorem dX4_howManyHold_23 : decode cX4_howManyHold 23 = .ok (.aload_n 0, 1) := by decide +kernel
theorem dX4_howManyHold_24 : decode cX4_howManyHold 24 = .ok (.iload_n 1, 1) := by decide +kernel
theorem dX4_howManyHold_25 : decode cX4_howManyHold 25 = .ok (.iload 5, 2) := by decide +kernel
theorem dX4_howManyHold_27 : decode cX4_howManyHold 27 = .ok (.invokevirtual 114, 3) := by decide +kernel
theorem dX4_howManyHold_30 : decode cX4_howManyHold 30 = .ok (.iload_n 3, 1) := by decide +kernel
theorem dX4_howManyHold_31 : decode cX4_howManyHold 31 = .ok (.if_icmp .lt 6, 3) := by decide +kernel
theorem dX4_howManyHold_34 : decode cX4_howManyHold 34 = .ok (.iinc 4 1, 3) := by decide +kernel
theorem dX4_howManyHold_37 : decode cX4_howManyHold 37 = .ok (.iinc 5 1, 3) := by decide +kernel
theorem dX4_howManyHold_40 : decode cX4_howManyHold 40 = .ok (.goto (-34), 3) := by decide +kernel
theorem dX4_howManyHold_43 : decode cX4_howManyHold 43 = .ok (.iload 4, 2) := by decide +kernel
theorem dX4_howManyHold_45 : decode cX4_howManyHold 45 = .ok (.ireturn, 1) := by decide +kernel
theorem dX4_seatedOn_0 : decode cX4_seatedOn 0 = .ok (.iconst 0, 1) := by decide +kernel
theorem dX4_seatedOn_1 : decode cX4_seatedOn 1 = .ok (.istore_n 2, 1) := by decide +kernel
theorem dX4_seatedOn_2 : decode cX4_seatedOn 2 = .ok (.iconst 0, 1) := by decide +kernel
theorem dX4_seatedOn_3 : decode cX4_seatedOn 3 = .ok (.istore_n 3, 1) := by decide +kernel
theorem dX4_seatedOn_4 : decode cX4_seatedOn 4 = .ok (.iload_n 3, 1) := by decide +kernel
theorem dX4_seatedOn_5 : decode cX4_seatedOn 5 = .ok (.aload_n 0, 1) := by decide +kernel
theorem dX4_seatedOn_6 : decode cX4_seatedOn 6 = .ok (.getfield 18, 3) := by decide +kernel
theorem dX4_seatedOn_9 : decode cX4_seatedOn 9 = .ok (.getfield 89, 3) := by decide +kernel
theorem dX4_seatedOn_12 : decode cX4_seatedOn 12 = .ok (.if_icmp .ge 25, 3) := by decide +kernel
theorem dX4_seatedOn_15 : decode cX4_seatedOn 15 = .ok (.aload_n 0, 1) := by decide +kernel
theorem dX4_seatedOn_16 : decode cX4_seatedOn 16 = .ok (.getfield 15, 3) := by decide +kernel
theorem dX4_seatedOn_19 : decode cX4_seatedOn 19 = .ok (.iload_n 3, 1) := by decide +kernel
theorem dX4_seatedOn_20 : decode cX4_seatedOn 20 = .ok (.iaload, 1) := by decide +kernel
theorem dX4_seatedOn_21 : decode cX4_seatedOn 21 = .ok (.iload_n 1, 1) := by decide +kernel
theorem dX4_seatedOn_22 : decode cX4_seatedOn 22 = .ok (.if_icmp .ne 9, 3) := by decide +kernel
theorem dX4_seatedOn_25 : decode cX4_seatedOn 25 = .ok (.iload_n 2, 1) := by decide +kernel
theorem dX4_seatedOn_26 : decode cX4_seatedOn 26 = .ok (.iconst 1, 1) := by decide +kernel
theorem dX4_seatedOn_27 : decode cX4_seatedOn 27 = .ok (.iload_n 3, 1) := by decide +kernel
theorem dX4_seatedOn_28 : decode cX4_seatedOn 28 = .ok (.ishl, 1) := by decide +kernel
theorem dX4_seatedOn_29 : decode cX4_seatedOn 29 = .ok (.ior, 1) := by decide +kernel
theorem dX4_seatedOn_30 : decode cX4_seatedOn 30 = .ok (.istore_n 2, 1) := by decide +kernel
theorem dX4_seatedOn_31 : decode cX4_seatedOn 31 = .ok (.iinc 3 1, 3) := by decide +kernel
theorem dX4_seatedOn_34 : decode cX4_seatedOn 34 = .ok (.goto (-30), 3) := by decide +kernel
theorem dX4_seatedOn_37 : decode cX4_seatedOn 37 = .ok (.iload_n 2, 1) := by decide +kernel
theorem dX4_seatedOn_38 : decode cX4_seatedOn 38 = .ok (.ireturn, 1) := by decide +kernel
theorem dX4_seatedPeople_0 : decode cX4_seatedPeople 0 = .ok (.iconst 0, 1) := by decide +kernel
theorem dX4_seatedPeople_1 : decode cX4_seatedPeople 1 = .ok (.istore_n 1, 1) := by decide +kernel
theorem dX4_seatedPeople_2 : decode cX4_seatedPeople 2 = .ok (.iconst 0, 1) := by decide +kernel
theorem dX4_seatedPeople_3 : decode cX4_seatedPeople 3 = .ok (.istore_n 2, 1) := by decide +kernel
theorem dX4_seatedPeople_4 : decode cX4_seatedPeople 4 = .ok (.iload_n 2, 1) := by decide +kernel
theorem dX4_seatedPeople_5 : decode cX4_seatedPeople 5 = .ok (.aload_n 0, 1) := by decide +kernel
theorem dX4_seatedPeople_6 : decode cX4_seatedPeople 6 = .ok (.getfield 18, 3) := by decide +kernel
theorem dX4_seatedPeople_9 : decode cX4_seatedPeople 9 = .ok (.getfield 89, 3) := by decide +kernel
theorem dX4_seatedPeople_12 : decode cX4_seatedPeople 12 = .ok (.if_icmp .ge 23, 3) := by decide +kernel
theorem dX4_seatedPeople_15 : decode cX4_seatedPeople 15 = .ok (.aload_n 0, 1) := by decide +kernel
theorem dX4_seatedPeople_16 : decode cX4_seatedPeople 16 = .ok (.iload_n 2, 1) := by decide +kernel
theorem dX4_seatedPeople_17 : decode cX4_seatedPeople 17 = .ok (.invokevirtual 92, 3) := by decide +kernel
theorem dX4_seatedPeople_20 : decode cX4_seatedPeople 20 = .ok (.ifCond .eq 9, 3) := by decide +kernel
theorem dX4_seatedPeople_23 : decode cX4_seatedPeople 23 = .ok (.iload_n 1, 1) := by decide +kernel
theorem dX4_seatedPeople_24 : decode cX4_seatedPeople 24 = .ok (.iconst 1, 1) := by decide +kernel
theorem dX4_seatedPeople_25 : decode cX4_seatedPeople 25 = .ok (.iload_n 2, 1) := by decide +kernel
theorem dX4_seatedPeople_26 : decode cX4_seatedPeople 26 = .ok (.ishl, 1) := by decide +kernel
theorem dX4_seatedPeople_27 : decode cX4_seatedPeople 27 = .ok (.ior, 1) := by decide +kernel
theorem dX4_seatedPeople_28 : decode cX4_seatedPeople 28 = .ok (.istore_n 1, 1) := by decide +kernel
theorem dX4_seatedPeople_29 : decode cX4_seatedPeople 29 = .ok (.iinc 2 1, 3) := by decide +kernel
theorem dX4_seatedPeople_32 : decode cX4_seatedPeople 32 = .ok (.goto (-28), 3) := by decide +kernel
theorem dX4_seatedPeople_35 : decode cX4_seatedPeople 35 = .ok (.iload_n 1, 1) := by decide +kernel
theorem dX4_seatedPeople_36 : decode cX4_seatedPeople 36 = .ok (.ireturn, 1) := by decide +kernel
theorem dX4_highOfAll_0 : decode cX4_highOfAll 0 = .ok (.iconst 0, 1) := by decide +kernel
theorem dX4_highOfAll_1 : decode cX4_highOfAll 1 = .ok (.istore_n 1, 1) := by decide +kernel
theorem dX4_highOfAll_2 : decode cX4_highOfAll 2 = .ok (.iconst 0, 1) := by decide +kernel
theorem dX4_highOfAll_3 : decode cX4_highOfAll 3 = .ok (.istore_n 2, 1) := by decide +kernel
theorem dX4_highOfAll_4 : decode cX4_highOfAll 4 = .ok (.iload_n 2, 1) := by decide +kernel
theorem dX4_highOfAll_5 : decode cX4_highOfAll 5 = .ok (.aload_n 0, 1) := by decide +kernel
theorem dX4_highOfAll_6 : decode cX4_highOfAll 6 = .ok (.getfield 18, 3) := by decide +kernel
theorem dX4_highOfAll_9 : decode cX4_highOfAll 9 = .ok (.getfield 89, 3) := by decide +kernel
theorem dX4_highOfAll_12 : decode cX4_highOfAll 12 = .ok (.if_icmp .ge 26, 3) := by decide +kernel
theorem dX4_highOfAll_15 : decode cX4_highOfAll 15 = .ok (.iload_n 1, 1) := by decide +kernel
theorem dX4_highOfAll_16 : decode cX4_highOfAll 16 = .ok (.aload_n 0, 1) := by decide +kernel
theorem dX4_highOfAll_17 : decode cX4_highOfAll 17 = .ok (.getfield 18, 3) := by decide +kernel
theorem dX4_highOfAll_20 : decode cX4_highOfAll 20 = .ok (.iload_n 2, 1) := by decide +kernel
theorem dX4_highOfAll_21 : decode cX4_highOfAll 21 = .ok (.aload_n 0, 1) := by decide +kernel
theorem dX4_highOfAll_22 : decode cX4_highOfAll 22 = .ok (.getfield 15, 3) := by decide +kernel
theorem dX4_highOfAll_25 : decode cX4_highOfAll 25 = .ok (.iload_n 2, 1) := by decide +kernel
theorem dX4_highOfAll_26 : decode cX4_highOfAll 26 = .ok (.iaload, 1) := by decide +kernel
theorem dX4_highOfAll_27 : decode cX4_highOfAll 27 = .ok (.invokevirtual 70, 3) := by decide +kernel
theorem dX4_highOfAll_30 : decode cX4_highOfAll 30 = .ok (.iadd, 1) := by decide +kernel
theorem dX4_highOfAll_31 : decode cX4_highOfAll 31 = .ok (.istore_n 1, 1) := by decide +kernel
theorem dX4_highOfAll_32 : decode cX4_highOfAll 32 = .ok (.iinc 2 1, 3) := by decide +kernel
theorem dX4_highOfAll_35 : decode cX4_highOfAll 35 = .ok (.goto (-31), 3) := by decide +kernel
theorem dX4_highOfAll_38 : decode cX4_highOfAll 38 = .ok (.iload_n 1, 1) := by decide +kernel
theorem dX4_highOfAll_39 : decode cX4_highOfAll 39 = .ok (.ireturn, 1) := by decide +kernel
theorem dX4_highOfStanding_0 : decode cX4_highOfStanding 0 = .ok (.iconst 0, 1) := by decide +kernel
theorem dX4_highOfStanding_1 : decode cX4_highOfStanding 1 = .ok (.istore_n 1, 1) := by decide +kernel
theorem dX4_highOfStanding_2 : decode cX4_highOfStanding 2 = .ok (.iconst 0, 1) := by decide +kernel
theorem dX4_highOfStanding_3 : decode cX4_highOfStanding 3 = .ok (.istore_n 2, 1) := by decide +kernel
theorem dX4_highOfStanding_4 : decode cX4_highOfStanding 4 = .ok (.iload_n 2, 1) := by decide +kernel
theorem dX4_highOfStanding_5 : decode cX4_highOfStanding 5 = .ok (.aload_n 0, 1) := by decide +kernel
theorem dX4_highOfStanding_6 : decode cX4_highOfStanding 6 = .ok (.getfield 18, 3) := by decide +kernel
theorem dX4_highOfStanding_9 : decode cX4_highOfStanding 9 = .ok (.getfield 89, 3) := by decide +kernel
theorem dX4_highOfStanding_12 : decode cX4_highOfStanding 12 = .ok (.if_icmp .ge 39, 3) := by decide +kernel
theorem dX4_highOfStanding_15 : decode cX4_highOfStanding 15 = .ok (.aload_n 0, 1) := by decide +kernel
theorem dX4_highOfStanding_16 : decode cX4_highOfStanding 16 = .ok (.aload_n 0, 1) := by decide +kernel
theorem dX4_highOfStanding_17 : decode cX4_highOfStanding 17 = .ok (.getfield 15, 3) := by decide +kernel
theorem dX4_highOfStanding_20 : decode cX4_highOfStanding 20 = .ok (.iload_n 2, 1) := by decide +kernel
theorem dX4_highOfStanding_21 : decode cX4_highOfStanding 21 = .ok (.iaload, 1) := by decide +kernel
theorem dX4_highOfStanding_22 : decode cX4_highOfStanding 22 = .ok (.invokevirtual 95, 3) := by decide +kernel
theorem dX4_highOfStanding_25 : decode cX4_highOfStanding 25 = .ok (.ifCond .eq 20, 3) := by decide +kernel
theorem dX4_highOfStanding_28 : decode cX4_highOfStanding 28 = .ok (.iload_n 1, 1) := by decide +kernel
theorem dX4_highOfStanding_29 : decode cX4_highOfStanding 29 = .ok (.aload_n 0, 1) := by decide +kernel
theorem dX4_highOfStanding_30 : decode cX4_highOfStanding 30 = .ok (.getfield 18, 3) := by decide +kernel
theorem dX4_highOfStanding_33 : decode cX4_highOfStanding 33 = .ok (.iload_n 2, 1) := by decide +kernel
theorem dX4_highOfStanding_34 : decode cX4_highOfStanding 34 = .ok (.aload_n 0, 1) := by decide +kernel
theorem dX4_highOfStanding_35 : decode cX4_highOfStanding 35 = .ok (.getfield 15, 3) := by decide +kernel
theorem dX4_highOfStanding_38 : decode cX4_highOfStanding 38 = .ok (.iload_n 2, 1) := by decide +kernel
theorem dX4_highOfStanding_39 : decode cX4_highOfStanding 39 = .ok (.iaload, 1) := by decide +kernel
theorem dX4_highOfStanding_40 : decode cX4_highOfStanding 40 = .ok (.invokevirtual 70, 3) := by decide +kernel
theorem dX4_highOfStanding_43 : decode cX4_highOfStanding 43 = .ok (.iadd, 1) := by decide +kernel
theorem dX4_highOfStanding_44 : decode cX4_highOfStanding 44 = .ok (.istore_n 1, 1) := by decide +kernel
theorem dX4_highOfStanding_45 : decode cX4_highOfStanding 45 = .ok (.iinc 2 1, 3) := by decide +kernel
theorem dX4_highOfStanding_48 : decode cX4_highOfStanding 48 = .ok (.goto (-44), 3) := by decide +kernel
theorem dX4_highOfStanding_51 : decode cX4_highOfStanding 51 = .ok (.iload_n 1, 1) := by decide +kernel
theorem dX4_highOfStanding_52 : decode cX4_highOfStanding 52 = .ok (.ireturn, 1) := by decide +kernel
theorem dX4_ofPole_0 : decode cX4_ofPole 0 = .ok (.aload_n 0, 1) := by decide +kernel
theorem dX4_ofPole_1 : decode cX4_ofPole 1 = .ok (.getfield 18, 3) := by decide +kernel
theorem dX4_ofPole_4 : decode cX4_ofPole 4 = .ok (.iload_n 1, 1) := by decide +kernel
theorem dX4_ofPole_5 : decode cX4_ofPole 5 = .ok (.invokevirtual 73, 3) := by decide +kernel
theorem dX4_ofPole_8 : decode cX4_ofPole 8 = .ok (.ifCond .ne 5, 3) := by decide +kernel
theorem dX4_ofPole_11 : decode cX4_ofPole 11 = .ok (.iconst 0, 1) := by decide +kernel
theorem dX4_ofPole_12 : decode cX4_ofPole 12 = .ok (.ireturn, 1) := by decide +kernel
theorem dX4_ofPole_13 : decode cX4_ofPole 13 = .ok (.iload_n 2, 1) := by decide +kernel
theorem dX4_ofPole_14 : decode cX4_ofPole 14 = .ok (.tableswitch 97 0 6 #[42, 52, 62, 72, 79, 85, 91], 42) := by decide +kernel
theorem dX4_ofPole_56 : decode cX4_ofPole 56 = .ok (.aload_n 0, 1) := by decide +kernel
theorem dX4_ofPole_57 : decode cX4_ofPole 57 = .ok (.getfield 18, 3) := by decide +kernel
theorem dX4_ofPole_60 : decode cX4_ofPole 60 = .ok (.getfield 101, 3) := by decide +kernel
theorem dX4_ofPole_63 : decode cX4_ofPole 63 = .ok (.iload_n 1, 1) := by decide +kernel
theorem dX4_ofPole_64 : decode cX4_ofPole 64 = .ok (.iaload, 1) := by decide +kernel
theorem dX4_ofPole_65 : decode cX4_ofPole 65 = .ok (.ireturn, 1) := by decide +kernel
theorem dX4_ofPole_66 : decode cX4_ofPole 66 = .ok (.aload_n 0, 1) := by decide +kernel
theorem dX4_ofPole_67 : decode cX4_ofPole 67 = .ok (.getfield 18, 3) := by decide +kernel
theorem dX4_ofPole_70 : decode cX4_ofPole 70 = .ok (.getfield 104, 3) := by decide +kernel
theorem dX4_ofPole_73 : decode cX4_ofPole 73 = .ok (.iload_n 1, 1) := by decide +kernel
theorem dX4_ofPole_74 : decode cX4_ofPole 74 = .ok (.iaload, 1) := by decide +kernel
theorem dX4_ofPole_75 : decode cX4_ofPole 75 = .ok (.ireturn, 1) := by decide +kernel
theorem dX4_ofPole_76 : decode cX4_ofPole 76 = .ok (.aload_n 0, 1) := by decide +kernel
theorem dX4_ofPole_77 : decode cX4_ofPole 77 = .ok (.getfield 18, 3) := by decide +kernel
theorem dX4_ofPole_80 : decode cX4_ofPole 80 = .ok (.getfield 107, 3) := by decide +kernel
theorem dX4_ofPole_83 : decode cX4_ofPole 83 = .ok (.iload_n 1, 1) := by decide +kernel
theorem dX4_ofPole_84 : decode cX4_ofPole 84 = .ok (.iaload, 1) := by decide +kernel
theorem dX4_ofPole_85 : decode cX4_ofPole 85 = .ok (.ireturn, 1) := by decide +kernel
theorem dX4_ofPole_86 : decode cX4_ofPole 86 = .ok (.aload_n 0, 1) := by decide +kernel
theorem dX4_ofPole_87 : decode cX4_ofPole 87 = .ok (.getfield 9, 3) := by decide +kernel
theorem dX4_ofPole_90 : decode cX4_ofPole 90 = .ok (.iload_n 1, 1) := by decide +kernel
theorem dX4_ofPole_91 : decode cX4_ofPole 91 = .ok (.iaload, 1) := by decide +kernel
theorem dX4_ofPole_92 : decode cX4_ofPole 92 = .ok (.ireturn, 1) := by decide +kernel
theorem dX4_ofPole_93 : decode cX4_ofPole 93 = .ok (.aload_n 0, 1) := by decide +kernel
theorem dX4_ofPole_94 : decode cX4_ofPole 94 = .ok (.iload_n 1, 1) := by decide +kernel
theorem dX4_ofPole_95 : decode cX4_ofPole 95 = .ok (.invokevirtual 82, 3) := by decide +kernel
theorem dX4_ofPole_98 : decode cX4_ofPole 98 = .ok (.ireturn, 1) := by decide +kernel
theorem dX4_ofPole_99 : decode cX4_ofPole 99 = .ok (.aload_n 0, 1) := by decide +kernel
theorem dX4_ofPole_100 : decode cX4_ofPole 100 = .ok (.iload_n 1, 1) := by decide +kernel
theorem dX4_ofPole_101 : decode cX4_ofPole 101 = .ok (.invokevirtual 67, 3) := by decide +kernel
theorem dX4_ofPole_104 : decode cX4_ofPole 104 = .ok (.ireturn, 1) := by decide +kernel
theorem dX4_ofPole_105 : decode cX4_ofPole 105 = .ok (.aload_n 0, 1) := by decide +kernel
theorem dX4_ofPole_106 : decode cX4_ofPole 106 = .ok (.iload_n 1, 1) := by decide +kernel
theorem dX4_ofPole_107 : decode cX4_ofPole 107 = .ok (.invokevirtual 117, 3) := by decide +kernel
theorem dX4_ofPole_110 : decode cX4_ofPole 110 = .ok (.ireturn, 1) := by decide +kernel
theorem dX4_ofPole_111 : decode cX4_ofPole 111 = .ok (.aload_n 0, 1) := by decide +kernel
theorem dX4_ofPole_112 : decode cX4_ofPole 112 = .ok (.getfield 22, 3) := by decide +kernel
theorem dX4_ofPole_115 : decode cX4_ofPole 115 = .ok (.iload_n 1, 1) := by decide +kernel
theorem dX4_ofPole_116 : decode cX4_ofPole 116 = .ok (.ishr, 1) := by decide +kernel
theorem dX4_ofPole_117 : decode cX4_ofPole 117 = .ok (.iconst 1, 1) := by decide +kernel
theorem dX4_ofPole_118 : decode cX4_ofPole 118 = .ok (.iand, 1) := by decide +kernel
theorem dX4_ofPole_119 : decode cX4_ofPole 119 = .ok (.ireturn, 1) := by decide +kernel
theorem dX4_ofOne_0 : decode cX4_ofOne 0 = .ok (.aload_n 0, 1) := by decide +kernel
theorem dX4_ofOne_1 : decode cX4_ofOne 1 = .ok (.getfield 18, 3) := by decide +kernel
theorem dX4_ofOne_4 : decode cX4_ofOne 4 = .ok (.iload_n 1, 1) := by decide +kernel
theorem dX4_ofOne_5 : decode cX4_ofOne 5 = .ok (.invokevirtual 61, 3) := by decide +kernel
theorem dX4_ofOne_8 : decode cX4_ofOne 8 = .ok (.ifCond .ne 5, 3) := by decide +kernel
theorem dX4_ofOne_11 : decode cX4_ofOne 11 = .ok (.iconst 0, 1) := by decide +kernel
theorem dX4_ofOne_12 : decode cX4_ofOne 12 = .ok (.ireturn, 1) := by decide +kernel
theorem dX4_ofOne_13 : decode cX4_ofOne 13 = .ok (.iload_n 2, 1) := by decide +kernel
theorem dX4_ofOne_14 : decode cX4_ofOne 14 = .ok (.tableswitch 53 0 2 #[26, 36, 46], 26) := by decide +kernel
theorem dX4_ofOne_40 : decode cX4_ofOne 40 = .ok (.aload_n 0, 1) := by decide +kernel
theorem dX4_ofOne_41 : decode cX4_ofOne 41 = .ok (.getfield 18, 3) := by decide +kernel
theorem dX4_ofOne_44 : decode cX4_ofOne 44 = .ok (.getfield 120, 3) := by decide +kernel
theorem dX4_ofOne_47 : decode cX4_ofOne 47 = .ok (.iload_n 1, 1) := by decide +kernel
theorem dX4_ofOne_48 : decode cX4_ofOne 48 = .ok (.iaload, 1) := by decide +kernel
theorem dX4_ofOne_49 : decode cX4_ofOne 49 = .ok (.ireturn, 1) := by decide +kernel
theorem dX4_ofOne_50 : decode cX4_ofOne 50 = .ok (.aload_n 0, 1) := by decide +kernel
theorem dX4_ofOne_51 : decode cX4_ofOne 51 = .ok (.getfield 18, 3) := by decide +kernel
theorem dX4_ofOne_54 : decode cX4_ofOne 54 = .ok (.getfield 123, 3) := by decide +kernel
theorem dX4_ofOne_57 : decode cX4_ofOne 57 = .ok (.iload_n 1, 1) := by decide +kernel
theorem dX4_ofOne_58 : decode cX4_ofOne 58 = .ok (.iaload, 1) := by decide +kernel
theorem dX4_ofOne_59 : decode cX4_ofOne 59 = .ok (.ireturn, 1) := by decide +kernel
theorem dX4_ofOne_60 : decode cX4_ofOne 60 = .ok (.aload_n 0, 1) := by decide +kernel
theorem dX4_ofOne_61 : decode cX4_ofOne 61 = .ok (.getfield 15, 3) := by decide +kernel
theorem dX4_ofOne_64 : decode cX4_ofOne 64 = .ok (.iload_n 1, 1) := by decide +kernel
theorem dX4_ofOne_65 : decode cX4_ofOne 65 = .ok (.iaload, 1) := by decide +kernel
theorem dX4_ofOne_66 : decode cX4_ofOne 66 = .ok (.ireturn, 1) := by decide +kernel
theorem dX4_ofOne_67 : decode cX4_ofOne 67 = .ok (.aload_n 0, 1) := by decide +kernel
theorem dX4_ofOne_68 : decode cX4_ofOne 68 = .ok (.getfield 18, 3) := by decide +kernel
theorem dX4_ofOne_71 : decode cX4_ofOne 71 = .ok (.iload_n 1, 1) := by decide +kernel
theorem dX4_ofOne_72 : decode cX4_ofOne 72 = .ok (.aload_n 0, 1) := by decide +kernel
theorem dX4_ofOne_73 : decode cX4_ofOne 73 = .ok (.getfield 15, 3) := by decide +kernel
theorem dX4_ofOne_76 : decode cX4_ofOne 76 = .ok (.iload_n 1, 1) := by decide +kernel
theorem dX4_ofOne_77 : decode cX4_ofOne 77 = .ok (.iaload, 1) := by decide +kernel
theorem dX4_ofOne_78 : decode cX4_ofOne 78 = .ok (.invokevirtual 70, 3) := by decide +kernel
theorem dX4_ofOne_81 : decode cX4_ofOne 81 = .ok (.ireturn, 1) := by decide +kernel
theorem dX5_init_0 : decode cX5_init 0 = .ok (.aload_n 0, 1) := by decide +kernel
theorem dX5_init_1 : decode cX5_init 1 = .ok (.invokespecial 3, 3) := by decide +kernel
theorem dX5_init_4 : decode cX5_init 4 = .ok (.aload_n 0, 1) := by decide +kernel
theorem dX5_init_5 : decode cX5_init 5 = .ok (.iconst 5, 1) := by decide +kernel
theorem dX5_init_6 : decode cX5_init 6 = .ok (.newarray .int, 2) := by decide +kernel
theorem dX5_init_8 : decode cX5_init 8 = .ok (.putfield 9, 3) := by decide +kernel
theorem dX5_init_11 : decode cX5_init 11 = .ok (.aload_n 0, 1) := by decide +kernel
theorem dX5_init_12 : decode cX5_init 12 = .ok (.iconst 4, 1) := by decide +kernel
theorem dX5_init_13 : decode cX5_init 13 = .ok (.newarray .int, 2) := by decide +kernel
theorem dX5_init_15 : decode cX5_init 15 = .ok (.putfield 15, 3) := by decide +kernel
theorem dX5_init_18 : decode cX5_init 18 = .ok (.aload_n 0, 1) := by decide +kernel
theorem dX5_init_19 : decode cX5_init 19 = .ok (.iconst 4, 1) := by decide +kernel
theorem dX5_init_20 : decode cX5_init 20 = .ok (.newarray .int, 2) := by decide +kernel
theorem dX5_init_22 : decode cX5_init 22 = .ok (.putfield 18, 3) := by decide +kernel
theorem dX5_init_25 : decode cX5_init 25 = .ok (.aload_n 0, 1) := by decide +kernel
theorem dX5_init_26 : decode cX5_init 26 = .ok (.iconst 4, 1) := by decide +kernel
theorem dX5_init_27 : decode cX5_init 27 = .ok (.newarray .int, 2) := by decide +kernel
theorem dX5_init_29 : decode cX5_init 29 = .ok (.putfield 21, 3) := by decide +kernel
theorem dX5_init_32 : decode cX5_init 32 = .ok (.aload_n 0, 1) := by decide +kernel
theorem dX5_init_33 : decode cX5_init 33 = .ok (.aload_n 1, 1) := by decide +kernel
theorem dX5_init_34 : decode cX5_init 34 = .ok (.putfield 24, 3) := by decide +kernel
theorem dX5_init_37 : decode cX5_init 37 = .ok (.return_, 1) := by decide +kernel
theorem dX5_begin_0 : decode cX5_begin 0 = .ok (.aload_n 0, 1) := by decide +kernel
theorem dX5_begin_1 : decode cX5_begin 1 = .ok (.aload_n 1, 1) := by decide +kernel
theorem dX5_begin_2 : decode cX5_begin 2 = .ok (.invokevirtual 28, 3) := by decide +kernel
theorem dX5_begin_5 : decode cX5_begin 5 = .ok (.putfield 34, 3) := by decide +kernel
theorem dX5_begin_8 : decode cX5_begin 8 = .ok (.iconst 0, 1) := by decide +kernel
theorem dX5_begin_9 : decode cX5_begin 9 = .ok (.istore_n 2, 1) := by decide +kernel
theorem dX5_begin_10 : decode cX5_begin 10 = .ok (.iload_n 2, 1) := by decide +kernel
theorem dX5_begin_11 : decode cX5_begin 11 = .ok (.aload_n 0, 1) := by decide +kernel
theorem dX5_begin_12 : decode cX5_begin 12 = .ok (.getfield 24, 3) := by decide +kernel
theorem dX5_begin_15 : decode cX5_begin 15 = .ok (.getfield 37, 3) := by decide +kernel
theorem dX5_begin_18 : decode cX5_begin 18 = .ok (.if_icmp .ge 34, 3) := by decide +kernel
theorem dX5_begin_21 : decode cX5_begin 21 = .ok (.aload_n 0, 1) := by decide +kernel
theorem dX5_begin_22 : decode cX5_begin 22 = .ok (.getfield 15, 3) := by decide +kernel
theorem dX5_begin_25 : decode cX5_begin 25 = .ok (.iload_n 2, 1) := by decide +kernel
theorem dX5_begin_26 : decode cX5_begin 26 = .ok (.iconst 0, 1) := by decide +kernel
theorem dX5_begin_27 : decode cX5_begin 27 = .ok (.iastore, 1) := by decide +kernel
theorem dX5_begin_28 : decode cX5_begin 28 = .ok (.aload_n 0, 1) := by decide +kernel
theorem dX5_begin_29 : decode cX5_begin 29 = .ok (.getfield 18, 3) := by decide +kernel
theorem dX5_begin_32 : decode cX5_begin 32 = .ok (.iload_n 2, 1) := by decide +kernel
theorem dX5_begin_33 : decode cX5_begin 33 = .ok (.iconst 0, 1) := by decide +kernel
theorem dX5_begin_34 : decode cX5_begin 34 = .ok (.iastore, 1) := by decide +kernel
theorem dX5_begin_35 : decode cX5_begin 35 = .ok (.aload_n 0, 1) := by decide +kernel
theorem dX5_begin_36 : decode cX5_begin 36 = .ok (.getfield 21, 3) := by decide +kernel
theorem dX5_begin_39 : decode cX5_begin 39 = .ok (.iload_n 2, 1) := by decide +kernel
theorem dX5_begin_40 : decode cX5_begin 40 = .ok (.aload_n 1, 1) := by decide +kernel
theorem dX5_begin_41 : decode cX5_begin 41 = .ok (.iload_n 2, 1) := by decide +kernel
theorem dX5_begin_42 : decode cX5_begin 42 = .ok (.invokevirtual 42, 3) := by decide +kernel
theorem dX5_begin_45 : decode cX5_begin 45 = .ok (.iastore, 1) := by decide +kernel
theorem dX5_begin_46 : decode cX5_begin 46 = .ok (.iinc 2 1, 3) := by decide +kernel
theorem dX5_begin_49 : decode cX5_begin 49 = .ok (.goto (-39), 3) := by decide +kernel
theorem dX5_begin_52 : decode cX5_begin 52 = .ok (.iconst 0, 1) := by decide +kernel
theorem dX5_begin_53 : decode cX5_begin 53 = .ok (.istore_n 2, 1) := by decide +kernel
theorem dX5_begin_54 : decode cX5_begin 54 = .ok (.iload_n 2, 1) := by decide +kernel
theorem dX5_begin_55 : decode cX5_begin 55 = .ok (.aload_n 0, 1) := by decide +kernel
theorem dX5_begin_56 : decode cX5_begin 56 = .ok (.getfield 24, 3) := by decide +kernel
theorem dX5_begin_59 : decode cX5_begin 59 = .ok (.getfield 46, 3) := by decide +kernel
theorem dX5_begin_62 : decode cX5_begin 62 = .ok (.if_icmp .ge 28, 3) := by decide +kernel
theorem dX5_begin_65 : decode cX5_begin 65 = .ok (.aload_n 0, 1) := by decide +kernel
theorem dX5_begin_66 : decode cX5_begin 66 = .ok (.getfield 9, 3) := by decide +kernel
theorem dX5_begin_69 : decode cX5_begin 69 = .ok (.iload_n 2, 1) := by decide +kernel
theorem dX5_begin_70 : decode cX5_begin 70 = .ok (.bipush (-9), 2) := by decide +kernel
theorem dX5_begin_72 : decode cX5_begin 72 = .ok (.iastore, 1) := by decide +kernel
theorem dX5_begin_73 : decode cX5_begin 73 = .ok (.aload_n 0, 1) := by decide +kernel
theorem dX5_begin_74 : decode cX5_begin 74 = .ok (.iload_n 2, 1) := by decide +kernel
theorem dX5_begin_75 : decode cX5_begin 75 = .ok (.aload_n 1, 1) := by decide +kernel
theorem dX5_begin_76 : decode cX5_begin 76 = .ok (.getfield 49, 3) := by decide +kernel
theorem dX5_begin_79 : decode cX5_begin 79 = .ok (.iload_n 2, 1) := by decide +kernel
theorem dX5_begin_80 : decode cX5_begin 80 = .ok (.iaload, 1) := by decide +kernel
theorem dX5_begin_81 : decode cX5_begin 81 = .ok (.invokevirtual 50, 3) := by decide +kernel
theorem dX5_begin_84 : decode cX5_begin 84 = .ok (.iinc 2 1, 3) := by decide +kernel
theorem dX5_begin_87 : decode cX5_begin 87 = .ok (.goto (-33), 3) := by decide +kernel
theorem dX5_begin_90 : decode cX5_begin 90 = .ok (.return_, 1) := by decide +kernel
theorem dX5_seat_0 : decode cX5_seat 0 = .ok (.aload_n 0, 1) := by decide +kernel
theorem dX5_seat_1 : decode cX5_seat 1 = .ok (.getfield 24, 3) := by decide +kernel
theorem dX5_seat_4 : decode cX5_seat 4 = .ok (.iload_n 1, 1) := by decide +kernel
theorem dX5_seat_5 : decode cX5_seat 5 = .ok (.invokevirtual 54, 3) := by decide +kernel
theorem dX5_seat_8 : decode cX5_seat 8 = .ok (.ifCond .eq 57, 3) := by decide +kernel
theorem dX5_seat_11 : decode cX5_seat 11 = .ok (.aload_n 0, 1) := by decide +kernel
theorem dX5_seat_12 : decode cX5_seat 12 = .ok (.getfield 24, 3) := by decide +kernel
theorem dX5_seat_15 : decode cX5_seat 15 = .ok (.iload_n 2, 1) := by decide +kernel
theorem dX5_seat_16 : decode cX5_seat 16 = .ok (.invokevirtual 58, 3) := by decide +kernel
theorem dX5_seat_19 : decode cX5_seat 19 = .ok (.ifCond .eq 46, 3) := by decide +kernel
theorem dX5_seat_22 : decode cX5_seat 22 = .ok (.aload_n 0, 1) := by decide +kernel
theorem dX5_seat_23 : decode cX5_seat 23 = .ok (.getfield 9, 3) := by decide +kernel
theorem dX5_seat_26 : decode cX5_seat 26 = .ok (.iload_n 1, 1) := by decide +kernel
theorem dX5_seat_27 : decode cX5_seat 27 = .ok (.iload_n 2, 1) := by decide +kernel
theorem dX5_seat_28 : decode cX5_seat 28 = .ok (.iastore, 1) := by decide +kernel
theorem dX5_seat_29 : decode cX5_seat 29 = .ok (.aload_n 0, 1) := by decide +kernel
theorem dX5_seat_30 : decode cX5_seat 30 = .ok (.getfield 15, 3) := by decide +kernel
theorem dX5_seat_33 : decode cX5_seat 33 = .ok (.iload_n 2, 1) := by decide +kernel
theorem dX5_seat_34 : decode cX5_seat 34 = .ok (.dup2, 1) := by decide +kernel
theorem dX5_seat_35 : decode cX5_seat 35 = .ok (.iaload, 1) := by decide +kernel
theorem dX5_seat_36 : decode cX5_seat 36 = .ok (.aload_n 0, 1) := by decide +kernel
theorem dX5_seat_37 : decode cX5_seat 37 = .ok (.getfield 24, 3) := by decide +kernel
theorem dX5_seat_40 : decode cX5_seat 40 = .ok (.iload_n 1, 1) := by decide +kernel
theorem dX5_seat_41 : decode cX5_seat 41 = .ok (.iload_n 2, 1) := by decide +kernel
theorem dX5_seat_42 : decode cX5_seat 42 = .ok (.invokevirtual 61, 3) := by decide +kernel
theorem dX5_seat_45 : decode cX5_seat 45 = .ok (.iadd, 1) := by decide +kernel
theorem dX5_seat_46 : decode cX5_seat 46 = .ok (.iastore, 1) := by decide +kernel
theorem dX5_seat_47 : decode cX5_seat 47 = .ok (.aload_n 0, 1) := by decide +kernel
theorem dX5_seat_48 : decode cX5_seat 48 = .ok (.getfield 18, 3) := by decide +kernel
theorem dX5_seat_51 : decode cX5_seat 51 = .ok (.iload_n 2, 1) := by decide +kernel
theorem dX5_seat_52 : decode cX5_seat 52 = .ok (.dup2, 1) := by decide +kernel
theorem dX5_seat_53 : decode cX5_seat 53 = .ok (.iaload, 1) := by decide +kernel
theorem dX5_seat_54 : decode cX5_seat 54 = .ok (.aload_n 0, 1) := by decide +kernel
theorem dX5_seat_55 : decode cX5_seat 55 = .ok (.getfield 24, 3) := by decide +kernel
theorem dX5_seat_58 : decode cX5_seat 58 = .ok (.iload_n 1, 1) := by decide +kernel
theorem dX5_seat_59 : decode cX5_seat 59 = .ok (.iload_n 2, 1) := by decide +kernel
theorem dX5_seat_60 : decode cX5_seat 60 = .ok (.invokevirtual 65, 3) := by decide +kernel
theorem dX5_seat_63 : decode cX5_seat 63 = .ok (.iadd, 1) := by decide +kernel
theorem dX5_seat_64 : decode cX5_seat 64 = .ok (.iastore, 1) := by decide +kernel
theorem dX5_seat_65 : decode cX5_seat 65 = .ok (.return_, 1) := by decide +kernel
theorem dX5_unseat_0 : decode cX5_unseat 0 = .ok (.aload_n 0, 1) := by decide +kernel
theorem dX5_unseat_1 : decode cX5_unseat 1 = .ok (.getfield 24, 3) := by decide +kernel
theorem dX5_unseat_4 : decode cX5_unseat 4 = .ok (.iload_n 1, 1) := by decide +kernel
theorem dX5_unseat_5 : decode cX5_unseat 5 = .ok (.invokevirtual 54, 3) := by decide +kernel
theorem dX5_unseat_8 : decode cX5_unseat 8 = .ok (.ifCond .eq 12, 3) := by decide +kernel
theorem dX5_unseat_11 : decode cX5_unseat 11 = .ok (.aload_n 0, 1) := by decide +kernel
theorem dX5_unseat_12 : decode cX5_unseat 12 = .ok (.getfield 9, 3) := by decide +kernel
theorem dX5_unseat_15 : decode cX5_unseat 15 = .ok (.iload_n 1, 1) := by decide +kernel
theorem dX5_unseat_16 : decode cX5_unseat 16 = .ok (.iaload, 1) := by decide +kernel
theorem dX5_unseat_17 : decode cX5_unseat 17 = .ok (.goto 5, 3) := by decide +kernel
theorem dX5_unseat_20 : decode cX5_unseat 20 = .ok (.bipush (-9), 2) := by decide +kernel
theorem dX5_unseat_22 : decode cX5_unseat 22 = .ok (.istore_n 2, 1) := by decide +kernel
theorem dX5_unseat_23 : decode cX5_unseat 23 = .ok (.aload_n 0, 1) := by decide +kernel
theorem dX5_unseat_24 : decode cX5_unseat 24 = .ok (.getfield 24, 3) := by decide +kernel
theorem dX5_unseat_27 : decode cX5_unseat 27 = .ok (.iload_n 2, 1) := by decide +kernel
theorem dX5_unseat_28 : decode cX5_unseat 28 = .ok (.invokevirtual 58, 3) := by decide +kernel
theorem dX5_unseat_31 : decode cX5_unseat 31 = .ok (.ifCond .eq 47, 3) := by decide +kernel
theorem dX5_unseat_34 : decode cX5_unseat 34 = .ok (.aload_n 0, 1) := by decide +kernel
theorem dX5_unseat_35 : decode cX5_unseat 35 = .ok (.getfield 9, 3) := by decide +kernel
theorem dX5_unseat_38 : decode cX5_unseat 38 = .ok (.iload_n 1, 1) := by decide +kernel
theorem dX5_unseat_39 : decode cX5_unseat 39 = .ok (.bipush (-9), 2) := by decide +kernel
theorem dX5_unseat_41 : decode cX5_unseat 41 = .ok (.iastore, 1) := by decide +kernel
theorem dX5_unseat_42 : decode cX5_unseat 42 = .ok (.aload_n 0, 1) := by decide +kernel
theorem dX5_unseat_43 : decode cX5_unseat 43 = .ok (.getfield 15, 3) := by decide +kernel
theorem dX5_unseat_46 : decode cX5_unseat 46 = .ok (.iload_n 2, 1) := by decide +kernel
theorem dX5_unseat_47 : decode cX5_unseat 47 = .ok (.dup2, 1) := by decide +kernel
theorem dX5_unseat_48 : decode cX5_unseat 48 = .ok (.iaload, 1) := by decide +kernel
theorem dX5_unseat_49 : decode cX5_unseat 49 = .ok (.aload_n 0, 1) := by decide +kernel
theorem dX5_unseat_50 : decode cX5_unseat 50 = .ok (.getfield 24, 3) := by decide +kernel
theorem dX5_unseat_53 : decode cX5_unseat 53 = .ok (.iload_n 1, 1) := by decide +kernel
theorem dX5_unseat_54 : decode cX5_unseat 54 = .ok (.iload_n 2, 1) := by decide +kernel
theorem dX5_unseat_55 : decode cX5_unseat 55 = .ok (.invokevirtual 61, 3) := by decide +kernel
theorem dX5_unseat_58 : decode cX5_unseat 58 = .ok (.isub, 1) := by decide +kernel
theorem dX5_unseat_59 : decode cX5_unseat 59 = .ok (.iastore, 1) := by decide +kernel
theorem dX5_unseat_60 : decode cX5_unseat 60 = .ok (.aload_n 0, 1) := by decide +kernel
theorem dX5_unseat_61 : decode cX5_unseat 61 = .ok (.getfield 18, 3) := by decide +kernel
theorem dX5_unseat_64 : decode cX5_unseat 64 = .ok (.iload_n 2, 1) := by decide +kernel
theorem dX5_unseat_65 : decode cX5_unseat 65 = .ok (.dup2, 1) := by decide +kernel
theorem dX5_unseat_66 : decode cX5_unseat 66 = .ok (.iaload, 1) := by decide +kernel
theorem dX5_unseat_67 : decode cX5_unseat 67 = .ok (.aload_n 0, 1) := by decide +kernel
theorem dX5_unseat_68 : decode cX5_unseat 68 = .ok (.getfield 24, 3) := by decide +kernel
theorem dX5_unseat_71 : decode cX5_unseat 71 = .ok (.iload_n 1, 1) := by decide +kernel
theorem dX5_unseat_72 : decode cX5_unseat 72 = .ok (.iload_n 2, 1) := by decide +kernel
theorem dX5_unseat_73 : decode cX5_unseat 73 = .ok (.invokevirtual 65, 3) := by decide +kernel
theorem dX5_unseat_76 : decode cX5_unseat 76 = .ok (.isub, 1) := by decide +kernel
theorem dX5_unseat_77 : decode cX5_unseat 77 = .ok (.iastore, 1) := by decide +kernel
theorem dX5_unseat_78 : decode cX5_unseat 78 = .ok (.iload_n 2, 1) := by decide +kernel
theorem dX5_unseat_79 : decode cX5_unseat 79 = .ok (.ireturn, 1) := by decide +kernel
theorem dX5_worth_0 : decode cX5_worth 0 = .ok (.iconst 0, 1) := by decide +kernel
theorem dX5_worth_1 : decode cX5_worth 1 = .ok (.istore_n 1, 1) := by decide +kernel
theorem dX5_worth_2 : decode cX5_worth 2 = .ok (.iconst 0, 1) := by decide +kernel
theorem dX5_worth_3 : decode cX5_worth 3 = .ok (.istore_n 2, 1) := by decide +kernel
theorem dX5_worth_4 : decode cX5_worth 4 = .ok (.iload_n 2, 1) := by decide +kernel
theorem dX5_worth_5 : decode cX5_worth 5 = .ok (.aload_n 0, 1) := by decide +kernel
theorem dX5_worth_6 : decode cX5_worth 6 = .ok (.getfield 24, 3) := by decide +kernel
theorem dX5_worth_9 : decode cX5_worth 9 = .ok (.getfield 37, 3) := by decide +kernel
theorem dX5_worth_12 : decode cX5_worth 12 = .ok (.if_icmp .ge 37, 3) := by decide +kernel
theorem dX5_worth_15 : decode cX5_worth 15 = .ok (.iload_n 1, 1) := by decide +kernel
theorem dX5_worth_16 : decode cX5_worth 16 = .ok (.aload_n 0, 1) := by decide +kernel
theorem dX5_worth_17 : decode cX5_worth 17 = .ok (.getfield 15, 3) := by decide +kernel
theorem dX5_worth_20 : decode cX5_worth 20 = .ok (.iload_n 2, 1) := by decide +kernel
theorem dX5_worth_21 : decode cX5_worth 21 = .ok (.iaload, 1) := by decide +kernel
theorem dX5_worth_22 : decode cX5_worth 22 = .ok (.aload_n 0, 1) := by decide +kernel
theorem dX5_worth_23 : decode cX5_worth 23 = .ok (.getfield 21, 3) := by decide +kernel
theorem dX5_worth_26 : decode cX5_worth 26 = .ok (.iload_n 2, 1) := by decide +kernel
theorem dX5_worth_27 : decode cX5_worth 27 = .ok (.iaload, 1) := by decide +kernel
theorem dX5_worth_28 : decode cX5_worth 28 = .ok (.if_icmp .gt 12, 3) := by decide +kernel
theorem dX5_worth_31 : decode cX5_worth 31 = .ok (.aload_n 0, 1) := by decide +kernel
theorem dX5_worth_32 : decode cX5_worth 32 = .ok (.getfield 18, 3) := by decide +kernel
theorem dX5_worth_35 : decode cX5_worth 35 = .ok (.iload_n 2, 1) := by decide +kernel
theorem dX5_worth_36 : decode cX5_worth 36 = .ok (.iaload, 1) := by decide +kernel
theorem dX5_worth_37 : decode cX5_worth 37 = .ok (.goto 4, 3) := by decide +kernel
theorem dX5_worth_40 : decode cX5_worth 40 = .ok (.iconst 0, 1) := by decide +kernel
theorem dX5_worth_41 : decode cX5_worth 41 = .ok (.iadd, 1) := by decide +kernel
theorem dX5_worth_42 : decode cX5_worth 42 = .ok (.istore_n 1, 1) := by decide +kernel
theorem dX5_worth_43 : decode cX5_worth 43 = .ok (.iinc 2 1, 3) := by decide +kernel
theorem dX5_worth_46 : decode cX5_worth 46 = .ok (.goto (-42), 3) := by decide +kernel
theorem dX5_worth_49 : decode cX5_worth 49 = .ok (.iload_n 1, 1) := by decide +kernel
theorem dX5_worth_50 : decode cX5_worth 50 = .ok (.ireturn, 1) := by decide +kernel
theorem dX5_sendUp_0 : decode cX5_sendUp 0 = .ok (.iload_n 1, 1) := by decide +kernel
theorem dX5_sendUp_1 : decode cX5_sendUp 1 = .ok (.ifCond .gt 8, 3) := by decide +kernel
theorem dX5_sendUp_4 : decode cX5_sendUp 4 = .ok (.aload_n 0, 1) := by decide +kernel
theorem dX5_sendUp_5 : decode cX5_sendUp 5 = .ok (.invokevirtual 68, 3) := by decide +kernel
theorem dX5_sendUp_8 : decode cX5_sendUp 8 = .ok (.ireturn, 1) := by decide +kernel
theorem dX5_sendUp_9 : decode cX5_sendUp 9 = .ok (.aload_n 0, 1) := by decide +kernel
theorem dX5_sendUp_10 : decode cX5_sendUp 10 = .ok (.iload_n 1, 1) := by decide +kernel
theorem dX5_sendUp_11 : decode cX5_sendUp 11 = .ok (.iconst 1, 1) := by decide +kernel
theorem dX5_sendUp_12 : decode cX5_sendUp 12 = .ok (.isub, 1) := by decide +kernel
theorem dX5_sendUp_13 : decode cX5_sendUp 13 = .ok (.iload_n 2, 1) := by decide +kernel
theorem dX5_sendUp_14 : decode cX5_sendUp 14 = .ok (.iload_n 3, 1) := by decide +kernel
theorem dX5_sendUp_15 : decode cX5_sendUp 15 = .ok (.invokestatic 71, 3) := by decide +kernel
theorem dX5_sendUp_18 : decode cX5_sendUp 18 = .ok (.istore 4, 2) := by decide +kernel
theorem dX5_sendUp_20 : decode cX5_sendUp 20 = .ok (.iconst 0, 1) := by decide +kernel
theorem dX5_sendUp_21 : decode cX5_sendUp 21 = .ok (.istore 5, 2) := by decide +kernel
theorem dX5_sendUp_23 : decode cX5_sendUp 23 = .ok (.iload 5, 2) := by decide +kernel
theorem dX5_sendUp_25 : decode cX5_sendUp 25 = .ok (.aload_n 0, 1) := by decide +kernel
theorem dX5_sendUp_26 : decode cX5_sendUp 26 = .ok (.getfield 24, 3) := by decide +kernel
theorem dX5_sendUp_29 : decode cX5_sendUp 29 = .ok (.getfield 46, 3) := by decide +kernel
theorem dX5_sendUp_32 : decode cX5_sendUp 32 = .ok (.if_icmp .ge 97, 3) := by decide +kernel
theorem dX5_sendUp_35 : decode cX5_sendUp 35 = .ok (.iconst 0, 1) := by decide +kernel
theorem dX5_sendUp_36 : decode cX5_sendUp 36 = .ok (.istore 6, 2) := by decide +kernel
theorem dX5_sendUp_38 : decode cX5_sendUp 38 = .ok (.iload 6, 2) := by decide +kernel
theorem dX5_sendUp_40 : decode cX5_sendUp 40 = .ok (.aload_n 0, 1) := by decide +kernel
theorem dX5_sendUp_41 : decode cX5_sendUp 41 = .ok (.getfield 24, 3) := by decide +kernel
theorem dX5_sendUp_44 : decode cX5_sendUp 44 = .ok (.getfield 37, 3) := by decide +kernel
theorem dX5_sendUp_47 : decode cX5_sendUp 47 = .ok (.if_icmp .ge 76, 3) := by decide +kernel
theorem dX5_sendUp_50 : decode cX5_sendUp 50 = .ok (.aload_n 0, 1) := by decide +kernel
theorem dX5_sendUp_51 : decode cX5_sendUp 51 = .ok (.getfield 9, 3) := by decide +kernel
theorem dX5_sendUp_54 : decode cX5_sendUp 54 = .ok (.iload 5, 2) := by decide +kernel
theorem dX5_sendUp_56 : decode cX5_sendUp 56 = .ok (.iaload, 1) := by decide +kernel
theorem dX5_sendUp_57 : decode cX5_sendUp 57 = .ok (.bipush (-9), 2) := by decide +kernel
theorem dX5_sendUp_59 : decode cX5_sendUp 59 = .ok (.if_icmp .ne 64, 3) := by decide +kernel
theorem dX5_sendUp_62 : decode cX5_sendUp 62 = .ok (.iload 4, 2) := by decide +kernel
theorem dX5_sendUp_64 : decode cX5_sendUp 64 = .ok (.iload_n 3, 1) := by decide +kernel
theorem dX5_sendUp_65 : decode cX5_sendUp 65 = .ok (.if_icmp .ge 58, 3) := by decide +kernel
theorem dX5_sendUp_68 : decode cX5_sendUp 68 = .ok (.aload_n 0, 1) := by decide +kernel
theorem dX5_sendUp_69 : decode cX5_sendUp 69 = .ok (.getfield 34, 3) := by decide +kernel
theorem dX5_sendUp_72 : decode cX5_sendUp 72 = .ok (.iload 6, 2) := by decide +kernel
theorem dX5_sendUp_74 : decode cX5_sendUp 74 = .ok (.ishr, 1) := by decide +kernel
theorem dX5_sendUp_75 : decode cX5_sendUp 75 = .ok (.iconst 1, 1) := by decide +kernel
theorem dX5_sendUp_76 : decode cX5_sendUp 76 = .ok (.iand, 1) := by decide +kernel
theorem dX5_sendUp_77 : decode cX5_sendUp 77 = .ok (.iconst 1, 1) := by decide +kernel
theorem dX5_sendUp_78 : decode cX5_sendUp 78 = .ok (.if_icmp .ne 39, 3) := by decide +kernel
theorem dX5_sendUp_81 : decode cX5_sendUp 81 = .ok (.aload_n 0, 1) := by decide +kernel
theorem dX5_sendUp_82 : decode cX5_sendUp 82 = .ok (.iload 5, 2) := by decide +kernel
theorem dX5_sendUp_84 : decode cX5_sendUp 84 = .ok (.iload 6, 2) := by decide +kernel
theorem dX5_sendUp_86 : decode cX5_sendUp 86 = .ok (.invokevirtual 50, 3) := by decide +kernel
theorem dX5_sendUp_89 : decode cX5_sendUp 89 = .ok (.iload 4, 2) := by decide +kernel
theorem dX5_sendUp_91 : decode cX5_sendUp 91 = .ok (.aload_n 0, 1) := by decide +kernel
theorem dX5_sendUp_92 : decode cX5_sendUp 92 = .ok (.iload_n 1, 1) := by decide +kernel
theorem dX5_sendUp_93 : decode cX5_sendUp 93 = .ok (.iconst 1, 1) := by decide +kernel
theorem dX5_sendUp_94 : decode cX5_sendUp 94 = .ok (.isub, 1) := by decide +kernel
theorem dX5_sendUp_95 : decode cX5_sendUp 95 = .ok (.iload_n 2, 1) := by decide +kernel
theorem dX5_sendUp_96 : decode cX5_sendUp 96 = .ok (.iload 4, 2) := by decide +kernel
theorem dX5_sendUp_98 : decode cX5_sendUp 98 = .ok (.invokestatic 75, 3) := by decide +kernel
theorem dX5_sendUp_101 : decode cX5_sendUp 101 = .ok (.iload_n 3, 1) := by decide +kernel
theorem dX5_sendUp_102 : decode cX5_sendUp 102 = .ok (.invokestatic 71, 3) := by decide +kernel
theorem dX5_sendUp_105 : decode cX5_sendUp 105 = .ok (.invokestatic 75, 3) := by decide +kernel
theorem dX5_sendUp_108 : decode cX5_sendUp 108 = .ok (.istore 4, 2) := by decide +kernel
theorem dX5_sendUp_110 : decode cX5_sendUp 110 = .ok (.aload_n 0, 1) := by decide +kernel
theorem dX5_sendUp_111 : decode cX5_sendUp 111 = .ok (.iload 5, 2) := by decide +kernel
theorem dX5_sendUp_113 : decode cX5_sendUp 113 = .ok (.invokevirtual 80, 3) := by decide +kernel
theorem dX5_sendUp_116 : decode cX5_sendUp 116 = .ok (.pop, 1) := by decide +kernel
theorem dX5_sendUp_117 : decode cX5_sendUp 117 = .ok (.iinc 6 1, 3) := by decide +kernel
theorem dX5_sendUp_120 : decode cX5_sendUp 120 = .ok (.goto (-82), 3) := by decide +kernel
theorem dX5_sendUp_123 : decode cX5_sendUp 123 = .ok (.iinc 5 1, 3) := by decide +kernel
theorem dX5_sendUp_126 : decode cX5_sendUp 126 = .ok (.goto (-103), 3) := by decide +kernel
theorem dX5_sendUp_129 : decode cX5_sendUp 129 = .ok (.iload 4, 2) := by decide +kernel
theorem dX5_sendUp_131 : decode cX5_sendUp 131 = .ok (.ireturn, 1) := by decide +kernel
theorem dX5_callDown_0 : decode cX5_callDown 0 = .ok (.iload_n 1, 1) := by decide +kernel
theorem dX5_callDown_1 : decode cX5_callDown 1 = .ok (.ifCond .gt 8, 3) := by decide +kernel
theorem dX5_callDown_4 : decode cX5_callDown 4 = .ok (.aload_n 0, 1) := by decide +kernel
theorem dX5_callDown_5 : decode cX5_callDown 5 = .ok (.invokevirtual 68, 3) := by decide +kernel
theorem dX5_callDown_8 : decode cX5_callDown 8 = .ok (.ireturn, 1) := by decide +kernel
theorem dX5_callDown_9 : decode cX5_callDown 9 = .ok (.aload_n 0, 1) := by decide +kernel
theorem dX5_callDown_10 : decode cX5_callDown 10 = .ok (.iload_n 1, 1) := by decide +kernel
theorem dX5_callDown_11 : decode cX5_callDown 11 = .ok (.iconst 1, 1) := by decide +kernel
theorem dX5_callDown_12 : decode cX5_callDown 12 = .ok (.isub, 1) := by decide +kernel
theorem dX5_callDown_13 : decode cX5_callDown 13 = .ok (.iload_n 2, 1) := by decide +kernel
theorem dX5_callDown_14 : decode cX5_callDown 14 = .ok (.iload_n 3, 1) := by decide +kernel
theorem dX5_callDown_15 : decode cX5_callDown 15 = .ok (.invokestatic 83, 3) := by decide +kernel
theorem dX5_callDown_18 : decode cX5_callDown 18 = .ok (.istore 4, 2) := by decide +kernel
theorem dX5_callDown_20 : decode cX5_callDown 20 = .ok (.iconst 0, 1) := by decide +kernel
theorem dX5_callDown_21 : decode cX5_callDown 21 = .ok (.istore 5, 2) := by decide +kernel
theorem dX5_callDown_23 : decode cX5_callDown 23 = .ok (.iload 5, 2) := by decide +kernel
theorem dX5_callDown_25 : decode cX5_callDown 25 = .ok (.aload_n 0, 1) := by decide +kernel
theorem dX5_callDown_26 : decode cX5_callDown 26 = .ok (.getfield 24, 3) := by decide +kernel
theorem dX5_callDown_29 : decode cX5_callDown 29 = .ok (.getfield 46, 3) := by decide +kernel
theorem dX5_callDown_32 : decode cX5_callDown 32 = .ok (.if_icmp .ge 64, 3) := by decide +kernel
theorem dX5_callDown_35 : decode cX5_callDown 35 = .ok (.iload 4, 2) := by decide +kernel
theorem dX5_callDown_37 : decode cX5_callDown 37 = .ok (.iload_n 2, 1) := by decide +kernel
theorem dX5_callDown_38 : decode cX5_callDown 38 = .ok (.if_icmp .le 58, 3) := by decide +kernel
theorem dX5_callDown_41 : decode cX5_callDown 41 = .ok (.aload_n 0, 1) := by decide +kernel
theorem dX5_callDown_42 : decode cX5_callDown 42 = .ok (.getfield 9, 3) := by decide +kernel
theorem dX5_callDown_45 : decode cX5_callDown 45 = .ok (.iload 5, 2) := by decide +kernel
theorem dX5_callDown_47 : decode cX5_callDown 47 = .ok (.iaload, 1) := by decide +kernel
theorem dX5_callDown_48 : decode cX5_callDown 48 = .ok (.bipush (-9), 2) := by decide +kernel
theorem dX5_callDown_50 : decode cX5_callDown 50 = .ok (.if_icmp .eq 40, 3) := by decide +kernel
theorem dX5_callDown_53 : decode cX5_callDown 53 = .ok (.aload_n 0, 1) := by decide +kernel
theorem dX5_callDown_54 : decode cX5_callDown 54 = .ok (.iload 5, 2) := by decide +kernel
theorem dX5_callDown_56 : decode cX5_callDown 56 = .ok (.invokevirtual 80, 3) := by decide +kernel
theorem dX5_callDown_59 : decode cX5_callDown 59 = .ok (.istore 6, 2) := by decide +kernel
theorem dX5_callDown_61 : decode cX5_callDown 61 = .ok (.iload 4, 2) := by decide +kernel
theorem dX5_callDown_63 : decode cX5_callDown 63 = .ok (.aload_n 0, 1) := by decide +kernel
theorem dX5_callDown_64 : decode cX5_callDown 64 = .ok (.iload_n 1, 1) := by decide +kernel
theorem dX5_callDown_65 : decode cX5_callDown 65 = .ok (.iconst 1, 1) := by decide +kernel
theorem dX5_callDown_66 : decode cX5_callDown 66 = .ok (.isub, 1) := by decide +kernel
theorem dX5_callDown_67 : decode cX5_callDown 67 = .ok (.iload_n 2, 1) := by decide +kernel
theorem dX5_callDown_68 : decode cX5_callDown 68 = .ok (.iload_n 3, 1) := by decide +kernel
theorem dX5_callDown_69 : decode cX5_callDown 69 = .ok (.iload 4, 2) := by decide +kernel
theorem dX5_callDown_71 : decode cX5_callDown 71 = .ok (.invokestatic 86, 3) := by decide +kernel
theorem dX5_callDown_74 : decode cX5_callDown 74 = .ok (.invokestatic 83, 3) := by decide +kernel
theorem dX5_callDown_77 : decode cX5_callDown 77 = .ok (.invokestatic 86, 3) := by decide +kernel
theorem dX5_callDown_80 : decode cX5_callDown 80 = .ok (.istore 4, 2) := by decide +kernel
theorem dX5_callDown_82 : decode cX5_callDown 82 = .ok (.aload_n 0, 1) := by decide +kernel
theorem dX5_callDown_83 : decode cX5_callDown 83 = .ok (.iload 5, 2) := by decide +kernel
theorem dX5_callDown_85 : decode cX5_callDown 85 = .ok (.iload 6, 2) := by decide +kernel
theorem dX5_callDown_87 : decode cX5_callDown 87 = .ok (.invokevirtual 50, 3) := by decide +kernel
theorem dX5_callDown_90 : decode cX5_callDown 90 = .ok (.iinc 5 1, 3) := by decide +kernel
theorem dX5_callDown_93 : decode cX5_callDown 93 = .ok (.goto (-70), 3) := by decide +kernel
theorem dX5_callDown_96 : decode cX5_callDown 96 = .ok (.iload 4, 2) := by decide +kernel
theorem dX5_callDown_98 : decode cX5_callDown 98 = .ok (.ireturn, 1) := by decide +kernel
theorem dX6_init_0 : decode cX6_init 0 = .ok (.aload_n 0, 1) := by decide +kernel
theorem dX6_init_1 : decode cX6_init 1 = .ok (.invokespecial 3, 3) := by decide +kernel
theorem dX6_init_4 : decode cX6_init 4 = .ok (.aload_n 0, 1) := by decide +kernel
theorem dX6_init_5 : decode cX6_init 5 = .ok (.iconst 4, 1) := by decide +kernel
theorem dX6_init_6 : decode cX6_init 6 = .ok (.newarray .int, 2) := by decide +kernel
theorem dX6_init_8 : decode cX6_init 8 = .ok (.putfield 9, 3) := by decide +kernel
theorem dX6_init_11 : decode cX6_init 11 = .ok (.aload_n 0, 1) := by decide +kernel
theorem dX6_init_12 : decode cX6_init 12 = .ok (.bipush 6, 2) := by decide +kernel
theorem dX6_init_14 : decode cX6_init 14 = .ok (.newarray .int, 2) := by decide +kernel
theorem dX6_init_16 : decode cX6_init 16 = .ok (.putfield 15, 3) := by decide +kernel
theorem dX6_init_19 : decode cX6_init 19 = .ok (.aload_n 0, 1) := by decide +kernel
theorem dX6_init_20 : decode cX6_init 20 = .ok (.iconst 5, 1) := by decide +kernel
theorem dX6_init_21 : decode cX6_init 21 = .ok (.newarray .int, 2) := by decide +kernel
theorem dX6_init_23 : decode cX6_init 23 = .ok (.putfield 18, 3) := by decide +kernel
theorem dX6_init_26 : decode cX6_init 26 = .ok (.aload_n 0, 1) := by decide +kernel
theorem dX6_init_27 : decode cX6_init 27 = .ok (.iconst 5, 1) := by decide +kernel
theorem dX6_init_28 : decode cX6_init 28 = .ok (.newarray .int, 2) := by decide +kernel
theorem dX6_init_30 : decode cX6_init 30 = .ok (.putfield 21, 3) := by decide +kernel
theorem dX6_init_33 : decode cX6_init 33 = .ok (.aload_n 0, 1) := by decide +kernel
theorem dX6_init_34 : decode cX6_init 34 = .ok (.aload_n 1, 1) := by decide +kernel
theorem dX6_init_35 : decode cX6_init 35 = .ok (.putfield 24, 3) := by decide +kernel
theorem dX6_init_38 : decode cX6_init 38 = .ok (.return_, 1) := by decide +kernel
theorem dX6_begin_0 : decode cX6_begin 0 = .ok (.iconst 0, 1) := by decide +kernel
theorem dX6_begin_1 : decode cX6_begin 1 = .ok (.istore_n 2, 1) := by decide +kernel
theorem dX6_begin_2 : decode cX6_begin 2 = .ok (.iload_n 2, 1) := by decide +kernel
theorem dX6_begin_3 : decode cX6_begin 3 = .ok (.aload_n 0, 1) := by decide +kernel
theorem dX6_begin_4 : decode cX6_begin 4 = .ok (.getfield 24, 3) := by decide +kernel
theorem dX6_begin_7 : decode cX6_begin 7 = .ok (.getfield 28, 3) := by decide +kernel
theorem dX6_begin_10 : decode cX6_begin 10 = .ok (.if_icmp .ge 32, 3) := by decide +kernel
theorem dX6_begin_13 : decode cX6_begin 13 = .ok (.aload_n 0, 1) := by decide +kernel
theorem dX6_begin_14 : decode cX6_begin 14 = .ok (.getfield 9, 3) := by decide +kernel
theorem dX6_begin_17 : decode cX6_begin 17 = .ok (.iload_n 2, 1) := by decide +kernel
theorem dX6_begin_18 : decode cX6_begin 18 = .ok (.aload_n 1, 1) := by decide +kernel
theorem dX6_begin_19 : decode cX6_begin 19 = .ok (.iload_n 2, 1) := by decide +kernel
theorem dX6_begin_20 : decode cX6_begin 20 = .ok (.invokevirtual 34, 3) := by decide +kernel
theorem dX6_begin_23 : decode cX6_begin 23 = .ok (.ifCond .eq 11, 3) := by decide +kernel
theorem dX6_begin_26 : decode cX6_begin 26 = .ok (.aload_n 1, 1) := by decide +kernel
theorem dX6_begin_27 : decode cX6_begin 27 = .ok (.iload_n 2, 1) := by decide +kernel
theorem dX6_begin_28 : decode cX6_begin 28 = .ok (.invokevirtual 40, 3) := by decide +kernel
theorem dX6_begin_31 : decode cX6_begin 31 = .ok (.goto 4, 3) := by decide +kernel
theorem dX6_begin_34 : decode cX6_begin 34 = .ok (.iconst 0, 1) := by decide +kernel
theorem dX6_begin_35 : decode cX6_begin 35 = .ok (.iastore, 1) := by decide +kernel
theorem dX6_begin_36 : decode cX6_begin 36 = .ok (.iinc 2 1, 3) := by decide +kernel
theorem dX6_begin_39 : decode cX6_begin 39 = .ok (.goto (-37), 3) := by decide +kernel
theorem dX6_begin_42 : decode cX6_begin 42 = .ok (.aload_n 0, 1) := by decide +kernel
theorem dX6_begin_43 : decode cX6_begin 43 = .ok (.getfield 15, 3) := by decide +kernel
theorem dX6_begin_46 : decode cX6_begin 46 = .ok (.aload_n 0, 1) := by decide +kernel
theorem dX6_begin_47 : decode cX6_begin 47 = .ok (.getfield 24, 3) := by decide +kernel
theorem dX6_begin_50 : decode cX6_begin 50 = .ok (.getfield 44, 3) := by decide +kernel
theorem dX6_begin_53 : decode cX6_begin 53 = .ok (.iconst 0, 1) := by decide +kernel
theorem dX6_begin_54 : decode cX6_begin 54 = .ok (.iastore, 1) := by decide +kernel
theorem dX6_begin_55 : decode cX6_begin 55 = .ok (.aload_n 0, 1) := by decide +kernel
theorem dX6_begin_56 : decode cX6_begin 56 = .ok (.getfield 24, 3) := by decide +kernel
theorem dX6_begin_59 : decode cX6_begin 59 = .ok (.getfield 44, 3) := by decide +kernel
theorem dX6_begin_62 : decode cX6_begin 62 = .ok (.iconst 1, 1) := by decide +kernel
theorem dX6_begin_63 : decode cX6_begin 63 = .ok (.isub, 1) := by decide +kernel
theorem dX6_begin_64 : decode cX6_begin 64 = .ok (.istore_n 2, 1) := by decide +kernel
theorem dX6_begin_65 : decode cX6_begin 65 = .ok (.iload_n 2, 1) := by decide +kernel
theorem dX6_begin_66 : decode cX6_begin 66 = .ok (.ifCond .lt 77, 3) := by decide +kernel
theorem dX6_begin_69 : decode cX6_begin 69 = .ok (.iconst 0, 1) := by decide +kernel
theorem dX6_begin_70 : decode cX6_begin 70 = .ok (.istore_n 3, 1) := by decide +kernel
theorem dX6_begin_71 : decode cX6_begin 71 = .ok (.iconst 0, 1) := by decide +kernel
theorem dX6_begin_72 : decode cX6_begin 72 = .ok (.istore 4, 2) := by decide +kernel
theorem dX6_begin_74 : decode cX6_begin 74 = .ok (.iload 4, 2) := by decide +kernel
theorem dX6_begin_76 : decode cX6_begin 76 = .ok (.aload_n 0, 1) := by decide +kernel
theorem dX6_begin_77 : decode cX6_begin 77 = .ok (.getfield 24, 3) := by decide +kernel
theorem dX6_begin_80 : decode cX6_begin 80 = .ok (.getfield 28, 3) := by decide +kernel
theorem dX6_begin_83 : decode cX6_begin 83 = .ok (.if_icmp .ge 38, 3) := by decide +kernel
theorem dX6_begin_86 : decode cX6_begin 86 = .ok (.aload_n 0, 1) := by decide +kernel
theorem dX6_begin_87 : decode cX6_begin 87 = .ok (.getfield 9, 3) := by decide +kernel
theorem dX6_begin_90 : decode cX6_begin 90 = .ok (.iload 4, 2) := by decide +kernel
theorem dX6_begin_92 : decode cX6_begin 92 = .ok (.iaload, 1) := by decide +kernel
theorem dX6_begin_93 : decode cX6_begin 93 = .ok (.ifCond .le 20, 3) := by decide +kernel
theorem dX6_begin_96 : decode cX6_begin 96 = .ok (.iload_n 3, 1) := by decide +kernel
theorem dX6_begin_97 : decode cX6_begin 97 = .ok (.aload_n 0, 1) := by decide +kernel
theorem dX6_begin_98 : decode cX6_begin 98 = .ok (.getfield 24, 3) := by decide +kernel
theorem dX6_begin_101 : decode cX6_begin 101 = .ok (.iload_n 2, 1) := by decide +kernel
theorem dX6_begin_102 : decode cX6_begin 102 = .ok (.iload 4, 2) := by decide +kernel
theorem dX6_begin_104 : decode cX6_begin 104 = .ok (.invokevirtual 47, 3) := by decide +kernel
theorem dX6_begin_107 : decode cX6_begin 107 = .ok (.invokestatic 51, 3) := by decide +kernel
theorem dX6_begin_110 : decode cX6_begin 110 = .ok (.goto 4, 3) := by decide +kernel
theorem dX6_begin_113 : decode cX6_begin 113 = .ok (.iload_n 3, 1) := by decide +kernel
theorem dX6_begin_114 : decode cX6_begin 114 = .ok (.istore_n 3, 1) := by decide +kernel
theorem dX6_begin_115 : decode cX6_begin 115 = .ok (.iinc 4 1, 3) := by decide +kernel
theorem dX6_begin_118 : decode cX6_begin 118 = .ok (.goto (-44), 3) := by decide +kernel
theorem dX6_begin_121 : decode cX6_begin 121 = .ok (.aload_n 0, 1) := by decide +kernel
theorem dX6_begin_122 : decode cX6_begin 122 = .ok (.getfield 15, 3) := by decide +kernel
theorem dX6_begin_125 : decode cX6_begin 125 = .ok (.iload_n 2, 1) := by decide +kernel
theorem dX6_begin_126 : decode cX6_begin 126 = .ok (.aload_n 0, 1) := by decide +kernel
theorem dX6_begin_127 : decode cX6_begin 127 = .ok (.getfield 15, 3) := by decide +kernel
theorem dX6_begin_130 : decode cX6_begin 130 = .ok (.iload_n 2, 1) := by decide +kernel
theorem dX6_begin_131 : decode cX6_begin 131 = .ok (.iconst 1, 1) := by decide +kernel
theorem dX6_begin_132 : decode cX6_begin 132 = .ok (.iadd, 1) := by decide +kernel
theorem dX6_begin_133 : decode cX6_begin 133 = .ok (.iaload, 1) := by decide +kernel
theorem dX6_begin_134 : decode cX6_begin 134 = .ok (.iload_n 3, 1) := by decide +kernel
theorem dX6_begin_135 : decode cX6_begin 135 = .ok (.iadd, 1) := by decide +kernel
theorem dX6_begin_136 : decode cX6_begin 136 = .ok (.iastore, 1) := by decide +kernel
theorem dX6_begin_137 : decode cX6_begin 137 = .ok (.iinc 2 (-1), 3) := by decide +kernel
theorem dX6_begin_140 : decode cX6_begin 140 = .ok (.goto (-75), 3) := by decide +kernel
theorem dX6_begin_143 : decode cX6_begin 143 = .ok (.aload_n 0, 1) := by decide +kernel
theorem dX6_begin_144 : decode cX6_begin 144 = .ok (.iconst (-1), 1) := by decide +kernel
theorem dX6_begin_145 : decode cX6_begin 145 = .ok (.putfield 56, 3) := by decide +kernel
theorem dX6_begin_148 : decode cX6_begin 148 = .ok (.aload_n 0, 1) := by decide +kernel
theorem dX6_begin_149 : decode cX6_begin 149 = .ok (.bipush (-9), 2) := by decide +kernel
theorem dX6_begin_151 : decode cX6_begin 151 = .ok (.putfield 59, 3) := by decide +kernel
theorem dX6_begin_154 : decode cX6_begin 154 = .ok (.return_, 1) := by decide +kernel
theorem dX6_seatHighest_0 : decode cX6_seatHighest 0 = .ok (.iload_n 1, 1) := by decide +kernel
theorem dX6_seatHighest_1 : decode cX6_seatHighest 1 = .ok (.aload_n 0, 1) := by decide +kernel
theorem dX6_seatHighest_2 : decode cX6_seatHighest 2 = .ok (.getfield 24, 3) := by decide +kernel
theorem dX6_seatHighest_5 : decode cX6_seatHighest 5 = .ok (.getfield 44, 3) := by decide +kernel
theorem dX6_seatHighest_8 : decode cX6_seatHighest 8 = .ok (.if_icmp .ge 8, 3) := by decide +kernel
theorem dX6_seatHighest_11 : decode cX6_seatHighest 11 = .ok (.iload_n 1, 1) := by decide +kernel
theorem dX6_seatHighest_12 : decode cX6_seatHighest 12 = .ok (.iconst 5, 1) := by decide +kernel
theorem dX6_seatHighest_13 : decode cX6_seatHighest 13 = .ok (.if_icmp .lt 31, 3) := by decide +kernel
theorem dX6_seatHighest_16 : decode cX6_seatHighest 16 = .ok (.iload_n 2, 1) := by decide +kernel
theorem dX6_seatHighest_17 : decode cX6_seatHighest 17 = .ok (.aload_n 0, 1) := by decide +kernel
theorem dX6_seatHighest_18 : decode cX6_seatHighest 18 = .ok (.getfield 56, 3) := by decide +kernel
theorem dX6_seatHighest_21 : decode cX6_seatHighest 21 = .ok (.if_icmp .le 22, 3) := by decide +kernel
theorem dX6_seatHighest_24 : decode cX6_seatHighest 24 = .ok (.aload_n 0, 1) := by decide +kernel
theorem dX6_seatHighest_25 : decode cX6_seatHighest 25 = .ok (.iload_n 2, 1) := by decide +kernel
theorem dX6_seatHighest_26 : decode cX6_seatHighest 26 = .ok (.putfield 56, 3) := by decide +kernel
theorem dX6_seatHighest_29 : decode cX6_seatHighest 29 = .ok (.aload_n 0, 1) := by decide +kernel
theorem dX6_seatHighest_30 : decode cX6_seatHighest 30 = .ok (.getfield 18, 3) := by decide +kernel
theorem dX6_seatHighest_33 : decode cX6_seatHighest 33 = .ok (.iconst 0, 1) := by decide +kernel
theorem dX6_seatHighest_34 : decode cX6_seatHighest 34 = .ok (.aload_n 0, 1) := by decide +kernel
theorem dX6_seatHighest_35 : decode cX6_seatHighest 35 = .ok (.getfield 21, 3) := by decide +kernel
theorem dX6_seatHighest_38 : decode cX6_seatHighest 38 = .ok (.iconst 0, 1) := by decide +kernel
theorem dX6_seatHighest_39 : decode cX6_seatHighest 39 = .ok (.iconst 5, 1) := by decide +kernel
theorem dX6_seatHighest_40 : decode cX6_seatHighest 40 = .ok (.invokestatic 62, 3) := by decide +kernel
theorem dX6_seatHighest_43 : decode cX6_seatHighest 43 = .ok (.return_, 1) := by decide +kernel
theorem dX6_seatHighest_44 : decode cX6_seatHighest 44 = .ok (.iload_n 2, 1) := by decide +kernel
theorem dX6_seatHighest_45 : decode cX6_seatHighest 45 = .ok (.aload_n 0, 1) := by decide +kernel
theorem dX6_seatHighest_46 : decode cX6_seatHighest 46 = .ok (.getfield 15, 3) := by decide +kernel
theorem dX6_seatHighest_49 : decode cX6_seatHighest 49 = .ok (.iload_n 1, 1) := by decide +kernel
theorem dX6_seatHighest_50 : decode cX6_seatHighest 50 = .ok (.iaload, 1) := by decide +kernel
theorem dX6_seatHighest_51 : decode cX6_seatHighest 51 = .ok (.iadd, 1) := by decide +kernel
theorem dX6_seatHighest_52 : decode cX6_seatHighest 52 = .ok (.aload_n 0, 1) := by decide +kernel
theorem dX6_seatHighest_53 : decode cX6_seatHighest 53 = .ok (.getfield 56, 3) := by decide +kernel
theorem dX6_seatHighest_56 : decode cX6_seatHighest 56 = .ok (.if_icmp .gt 4, 3) := by decide +kernel
theorem dX6_seatHighest_59 : decode cX6_seatHighest 59 = .ok (.return_, 1) := by decide +kernel
theorem dX6_seatHighest_60 : decode cX6_seatHighest 60 = .ok (.aload_n 0, 1) := by decide +kernel
theorem dX6_seatHighest_61 : decode cX6_seatHighest 61 = .ok (.getfield 18, 3) := by decide +kernel
theorem dX6_seatHighest_64 : decode cX6_seatHighest 64 = .ok (.iload_n 1, 1) := by decide +kernel
theorem dX6_seatHighest_65 : decode cX6_seatHighest 65 = .ok (.bipush (-9), 2) := by decide +kernel
theorem dX6_seatHighest_67 : decode cX6_seatHighest 67 = .ok (.iastore, 1) := by decide +kernel
theorem dX6_seatHighest_68 : decode cX6_seatHighest 68 = .ok (.aload_n 0, 1) := by decide +kernel
theorem dX6_seatHighest_69 : decode cX6_seatHighest 69 = .ok (.iload_n 1, 1) := by decide +kernel
theorem dX6_seatHighest_70 : decode cX6_seatHighest 70 = .ok (.iconst 1, 1) := by decide +kernel
theorem dX6_seatHighest_71 : decode cX6_seatHighest 71 = .ok (.iadd, 1) := by decide +kernel
theorem dX6_seatHighest_72 : decode cX6_seatHighest 72 = .ok (.iload_n 2, 1) := by decide +kernel
theorem dX6_seatHighest_73 : decode cX6_seatHighest 73 = .ok (.invokestatic 68, 3) := by decide +kernel
theorem dX6_seatHighest_76 : decode cX6_seatHighest 76 = .ok (.iconst 0, 1) := by decide +kernel
theorem dX6_seatHighest_77 : decode cX6_seatHighest 77 = .ok (.istore_n 3, 1) := by decide +kernel
theorem dX6_seatHighest_78 : decode cX6_seatHighest 78 = .ok (.iload_n 3, 1) := by decide +kernel
theorem dX6_seatHighest_79 : decode cX6_seatHighest 79 = .ok (.aload_n 0, 1) := by decide +kernel
theorem dX6_seatHighest_80 : decode cX6_seatHighest 80 = .ok (.getfield 24, 3) := by decide +kernel
theorem dX6_seatHighest_83 : decode cX6_seatHighest 83 = .ok (.getfield 28, 3) := by decide +kernel
theorem dX6_seatHighest_86 : decode cX6_seatHighest 86 = .ok (.if_icmp .ge 78, 3) := by decide +kernel
theorem dX6_seatHighest_89 : decode cX6_seatHighest 89 = .ok (.aload_n 0, 1) := by decide +kernel
theorem dX6_seatHighest_90 : decode cX6_seatHighest 90 = .ok (.getfield 24, 3) := by decide +kernel
theorem dX6_seatHighest_93 : decode cX6_seatHighest 93 = .ok (.iload_n 1, 1) := by decide +kernel
theorem dX6_seatHighest_94 : decode cX6_seatHighest 94 = .ok (.iload_n 3, 1) := by decide +kernel
theorem dX6_seatHighest_95 : decode cX6_seatHighest 95 = .ok (.invokevirtual 72, 3) := by decide +kernel
theorem dX6_seatHighest_98 : decode cX6_seatHighest 98 = .ok (.istore 4, 2) := by decide +kernel
theorem dX6_seatHighest_100 : decode cX6_seatHighest 100 = .ok (.iload 4, 2) := by decide +kernel
theorem dX6_seatHighest_102 : decode cX6_seatHighest 102 = .ok (.aload_n 0, 1) := by decide +kernel
theorem dX6_seatHighest_103 : decode cX6_seatHighest 103 = .ok (.getfield 9, 3) := by decide +kernel
theorem dX6_seatHighest_106 : decode cX6_seatHighest 106 = .ok (.iload_n 3, 1) := by decide +kernel
theorem dX6_seatHighest_107 : decode cX6_seatHighest 107 = .ok (.iaload, 1) := by decide +kernel
theorem dX6_seatHighest_108 : decode cX6_seatHighest 108 = .ok (.if_icmp .gt 50, 3) := by decide +kernel
theorem dX6_seatHighest_111 : decode cX6_seatHighest 111 = .ok (.aload_n 0, 1) := by decide +kernel
theorem dX6_seatHighest_112 : decode cX6_seatHighest 112 = .ok (.getfield 18, 3) := by decide +kernel
theorem dX6_seatHighest_115 : decode cX6_seatHighest 115 = .ok (.iload_n 1, 1) := by decide +kernel
theorem dX6_seatHighest_116 : decode cX6_seatHighest 116 = .ok (.iload_n 3, 1) := by decide +kernel
theorem dX6_seatHighest_117 : decode cX6_seatHighest 117 = .ok (.iastore, 1) := by decide +kernel
theorem dX6_seatHighest_118 : decode cX6_seatHighest 118 = .ok (.aload_n 0, 1) := by decide +kernel
theorem dX6_seatHighest_119 : decode cX6_seatHighest 119 = .ok (.getfield 9, 3) := by decide +kernel
theorem dX6_seatHighest_122 : decode cX6_seatHighest 122 = .ok (.iload_n 3, 1) := by decide +kernel
theorem dX6_seatHighest_123 : decode cX6_seatHighest 123 = .ok (.dup2, 1) := by decide +kernel
theorem dX6_seatHighest_124 : decode cX6_seatHighest 124 = .ok (.iaload, 1) := by decide +kernel
theorem dX6_seatHighest_125 : decode cX6_seatHighest 125 = .ok (.iload 4, 2) := by decide +kernel
theorem dX6_seatHighest_127 : decode cX6_seatHighest 127 = .ok (.isub, 1) := by decide +kernel
theorem dX6_seatHighest_128 : decode cX6_seatHighest 128 = .ok (.iastore, 1) := by decide +kernel
theorem dX6_seatHighest_129 : decode cX6_seatHighest 129 = .ok (.aload_n 0, 1) := by decide +kernel
theorem dX6_seatHighest_130 : decode cX6_seatHighest 130 = .ok (.iload_n 1, 1) := by decide +kernel
theorem dX6_seatHighest_131 : decode cX6_seatHighest 131 = .ok (.iconst 1, 1) := by decide +kernel
theorem dX6_seatHighest_132 : decode cX6_seatHighest 132 = .ok (.iadd, 1) := by decide +kernel
theorem dX6_seatHighest_133 : decode cX6_seatHighest 133 = .ok (.iload_n 2, 1) := by decide +kernel
theorem dX6_seatHighest_134 : decode cX6_seatHighest 134 = .ok (.aload_n 0, 1) := by decide +kernel
theorem dX6_seatHighest_135 : decode cX6_seatHighest 135 = .ok (.getfield 24, 3) := by decide +kernel
theorem dX6_seatHighest_138 : decode cX6_seatHighest 138 = .ok (.iload_n 1, 1) := by decide +kernel
theorem dX6_seatHighest_139 : decode cX6_seatHighest 139 = .ok (.iload_n 3, 1) := by decide +kernel
theorem dX6_seatHighest_140 : decode cX6_seatHighest 140 = .ok (.invokevirtual 47, 3) := by decide +kernel
theorem dX6_seatHighest_143 : decode cX6_seatHighest 143 = .ok (.iadd, 1) := by decide +kernel
theorem dX6_seatHighest_144 : decode cX6_seatHighest 144 = .ok (.invokestatic 68, 3) := by decide +kernel
theorem dX6_seatHighest_147 : decode cX6_seatHighest 147 = .ok (.aload_n 0, 1) := by decide +kernel
theorem dX6_seatHighest_148 : decode cX6_seatHighest 148 = .ok (.getfield 9, 3) := by decide +kernel
theorem dX6_seatHighest_151 : decode cX6_seatHighest 151 = .ok (.iload_n 3, 1) := by decide +kernel
theorem dX6_seatHighest_152 : decode cX6_seatHighest 152 = .ok (.dup2, 1) := by decide +kernel
theorem dX6_seatHighest_153 : decode cX6_seatHighest 153 = .ok (.iaload, 1) := by decide +kernel
theorem dX6_seatHighest_154 : decode cX6_seatHighest 154 = .ok (.iload 4, 2) := by decide +kernel
theorem dX6_seatHighest_156 : decode cX6_seatHighest 156 = .ok (.iadd, 1) := by decide +kernel
theorem dX6_seatHighest_157 : decode cX6_seatHighest 157 = .ok (.iastore, 1) := by decide +kernel
theorem dX6_seatHighest_158 : decode cX6_seatHighest 158 = .ok (.iinc 3 1, 3) := by decide +kernel
theorem dX6_seatHighest_161 : decode cX6_seatHighest 161 = .ok (.goto (-83), 3) := by decide +kernel
theorem dX6_seatHighest_164 : decode cX6_seatHighest 164 = .ok (.return_, 1) := by decide +kernel
theorem dX6_seatAll_0 : decode cX6_seatAll 0 = .ok (.aload_n 0, 1) := by decide +kernel
theorem dX6_seatAll_1 : decode cX6_seatAll 1 = .ok (.getfield 59, 3) := by decide +kernel
theorem dX6_seatAll_4 : decode cX6_seatAll 4 = .ok (.bipush (-9), 2) := by decide +kernel
theorem dX6_seatAll_6 : decode cX6_seatAll 6 = .ok (.if_icmp .eq 18, 3) := by decide +kernel
theorem dX6_seatAll_9 : decode cX6_seatAll 9 = .ok (.iload_n 2, 1) := by decide +kernel
theorem dX6_seatAll_10 : decode cX6_seatAll 10 = .ok (.invokestatic 75, 3) := by decide +kernel
theorem dX6_seatAll_13 : decode cX6_seatAll 13 = .ok (.aload_n 0, 1) := by decide +kernel
theorem dX6_seatAll_14 : decode cX6_seatAll 14 = .ok (.getfield 59, 3) := by decide +kernel
theorem dX6_seatAll_17 : decode cX6_seatAll 17 = .ok (.invokestatic 75, 3) := by decide +kernel
theorem dX6_seatAll_20 : decode cX6_seatAll 20 = .ok (.if_icmp .le 4, 3) := by decide +kernel
theorem dX6_seatAll_23 : decode cX6_seatAll 23 = .ok (.return_, 1) := by decide +kernel
theorem dX6_seatAll_24 : decode cX6_seatAll 24 = .ok (.iload_n 1, 1) := by decide +kernel
theorem dX6_seatAll_25 : decode cX6_seatAll 25 = .ok (.aload_n 0, 1) := by decide +kernel
theorem dX6_seatAll_26 : decode cX6_seatAll 26 = .ok (.getfield 24, 3) := by decide +kernel
theorem dX6_seatAll_29 : decode cX6_seatAll 29 = .ok (.getfield 44, 3) := by decide +kernel
theorem dX6_seatAll_32 : decode cX6_seatAll 32 = .ok (.if_icmp .ge 8, 3) := by decide +kernel
theorem dX6_seatAll_35 : decode cX6_seatAll 35 = .ok (.iload_n 1, 1) := by decide +kernel
theorem dX6_seatAll_36 : decode cX6_seatAll 36 = .ok (.iconst 5, 1) := by decide +kernel
theorem dX6_seatAll_37 : decode cX6_seatAll 37 = .ok (.if_icmp .lt 9, 3) := by decide +kernel
theorem dX6_seatAll_40 : decode cX6_seatAll 40 = .ok (.aload_n 0, 1) := by decide +kernel
theorem dX6_seatAll_41 : decode cX6_seatAll 41 = .ok (.iload_n 2, 1) := by decide +kernel
theorem dX6_seatAll_42 : decode cX6_seatAll 42 = .ok (.invokevirtual 80, 3) := by decide +kernel
theorem dX6_seatAll_45 : decode cX6_seatAll 45 = .ok (.return_, 1) := by decide +kernel
theorem dX6_seatAll_46 : decode cX6_seatAll 46 = .ok (.iconst 0, 1) := by decide +kernel
theorem dX6_seatAll_47 : decode cX6_seatAll 47 = .ok (.istore_n 3, 1) := by decide +kernel
theorem dX6_seatAll_48 : decode cX6_seatAll 48 = .ok (.iload_n 3, 1) := by decide +kernel
theorem dX6_seatAll_49 : decode cX6_seatAll 49 = .ok (.aload_n 0, 1) := by decide +kernel
theorem dX6_seatAll_50 : decode cX6_seatAll 50 = .ok (.getfield 24, 3) := by decide +kernel
theorem dX6_seatAll_53 : decode cX6_seatAll 53 = .ok (.getfield 28, 3) := by decide +kernel
theorem dX6_seatAll_56 : decode cX6_seatAll 56 = .ok (.if_icmp .ge 65, 3) := by decide +kernel
theorem dX6_seatAll_59 : decode cX6_seatAll 59 = .ok (.aload_n 0, 1) := by decide +kernel
theorem dX6_seatAll_60 : decode cX6_seatAll 60 = .ok (.getfield 24, 3) := by decide +kernel
theorem dX6_seatAll_63 : decode cX6_seatAll 63 = .ok (.iload_n 1, 1) := by decide +kernel
theorem dX6_seatAll_64 : decode cX6_seatAll 64 = .ok (.iload_n 3, 1) := by decide +kernel
theorem dX6_seatAll_65 : decode cX6_seatAll 65 = .ok (.invokevirtual 72, 3) := by decide +kernel
theorem dX6_seatAll_68 : decode cX6_seatAll 68 = .ok (.istore 4, 2) := by decide +kernel
theorem dX6_seatAll_70 : decode cX6_seatAll 70 = .ok (.iload 4, 2) := by decide +kernel
theorem dX6_seatAll_72 : decode cX6_seatAll 72 = .ok (.aload_n 0, 1) := by decide +kernel
theorem dX6_seatAll_73 : decode cX6_seatAll 73 = .ok (.getfield 9, 3) := by decide +kernel
theorem dX6_seatAll_76 : decode cX6_seatAll 76 = .ok (.iload_n 3, 1) := by decide +kernel
theorem dX6_seatAll_77 : decode cX6_seatAll 77 = .ok (.iaload, 1) := by decide +kernel
theorem dX6_seatAll_78 : decode cX6_seatAll 78 = .ok (.if_icmp .gt 37, 3) := by decide +kernel
theorem dX6_seatAll_81 : decode cX6_seatAll 81 = .ok (.aload_n 0, 1) := by decide +kernel
theorem dX6_seatAll_82 : decode cX6_seatAll 82 = .ok (.getfield 9, 3) := by decide +kernel
theorem dX6_seatAll_85 : decode cX6_seatAll 85 = .ok (.iload_n 3, 1) := by decide +kernel
theorem dX6_seatAll_86 : decode cX6_seatAll 86 = .ok (.dup2, 1) := by decide +kernel
theorem dX6_seatAll_87 : decode cX6_seatAll 87 = .ok (.iaload, 1) := by decide +kernel
theorem dX6_seatAll_88 : decode cX6_seatAll 88 = .ok (.iload 4, 2) := by decide +kernel
theorem dX6_seatAll_90 : decode cX6_seatAll 90 = .ok (.isub, 1) := by decide +kernel
theorem dX6_seatAll_91 : decode cX6_seatAll 91 = .ok (.iastore, 1) := by decide +kernel
theorem dX6_seatAll_92 : decode cX6_seatAll 92 = .ok (.aload_n 0, 1) := by decide +kernel
theorem dX6_seatAll_93 : decode cX6_seatAll 93 = .ok (.iload_n 1, 1) := by decide +kernel
theorem dX6_seatAll_94 : decode cX6_seatAll 94 = .ok (.iconst 1, 1) := by decide +kernel
theorem dX6_seatAll_95 : decode cX6_seatAll 95 = .ok (.iadd, 1) := by decide +kernel
theorem dX6_seatAll_96 : decode cX6_seatAll 96 = .ok (.iload_n 2, 1) := by decide +kernel
theorem dX6_seatAll_97 : decode cX6_seatAll 97 = .ok (.iconst 1, 1) := by decide +kernel
theorem dX6_seatAll_98 : decode cX6_seatAll 98 = .ok (.iload_n 3, 1) := by decide +kernel
theorem dX6_seatAll_99 : decode cX6_seatAll 99 = .ok (.ishl, 1) := by decide +kernel
theorem dX6_seatAll_100 : decode cX6_seatAll 100 = .ok (.ior, 1) := by decide +kernel
theorem dX6_seatAll_101 : decode cX6_seatAll 101 = .ok (.invokestatic 84, 3) := by decide +kernel
theorem dX6_seatAll_104 : decode cX6_seatAll 104 = .ok (.aload_n 0, 1) := by decide +kernel
theorem dX6_seatAll_105 : decode cX6_seatAll 105 = .ok (.getfield 9, 3) := by decide +kernel
theorem dX6_seatAll_108 : decode cX6_seatAll 108 = .ok (.iload_n 3, 1) := by decide +kernel
theorem dX6_seatAll_109 : decode cX6_seatAll 109 = .ok (.dup2, 1) := by decide +kernel
theorem dX6_seatAll_110 : decode cX6_seatAll 110 = .ok (.iaload, 1) := by decide +kernel
theorem dX6_seatAll_111 : decode cX6_seatAll 111 = .ok (.iload 4, 2) := by decide +kernel
theorem dX6_seatAll_113 : decode cX6_seatAll 113 = .ok (.iadd, 1) := by decide +kernel
theorem dX6_seatAll_114 : decode cX6_seatAll 114 = .ok (.iastore, 1) := by decide +kernel
theorem dX6_seatAll_115 : decode cX6_seatAll 115 = .ok (.iinc 3 1, 3) := by decide +kernel
theorem dX6_seatAll_118 : decode cX6_seatAll 118 = .ok (.goto (-70), 3) := by decide +kernel
theorem dX6_seatAll_121 : decode cX6_seatAll 121 = .ok (.return_, 1) := by decide +kernel
theorem dX6_offer_0 : decode cX6_offer 0 = .ok (.iload_n 1, 1) := by decide +kernel
theorem dX6_offer_1 : decode cX6_offer 1 = .ok (.invokestatic 75, 3) := by decide +kernel
theorem dX6_offer_4 : decode cX6_offer 4 = .ok (.aload_n 0, 1) := by decide +kernel
theorem dX6_offer_5 : decode cX6_offer 5 = .ok (.getfield 59, 3) := by decide +kernel
theorem dX6_offer_8 : decode cX6_offer 8 = .ok (.invokestatic 75, 3) := by decide +kernel
theorem dX6_offer_11 : decode cX6_offer 11 = .ok (.isub, 1) := by decide +kernel
theorem dX6_offer_12 : decode cX6_offer 12 = .ok (.istore_n 2, 1) := by decide +kernel
theorem dX6_offer_13 : decode cX6_offer 13 = .ok (.aload_n 0, 1) := by decide +kernel
theorem dX6_offer_14 : decode cX6_offer 14 = .ok (.getfield 59, 3) := by decide +kernel
theorem dX6_offer_17 : decode cX6_offer 17 = .ok (.bipush (-9), 2) := by decide +kernel
theorem dX6_offer_19 : decode cX6_offer 19 = .ok (.if_icmp .eq 19, 3) := by decide +kernel
theorem dX6_offer_22 : decode cX6_offer 22 = .ok (.iload_n 2, 1) := by decide +kernel
theorem dX6_offer_23 : decode cX6_offer 23 = .ok (.ifCond .lt 15, 3) := by decide +kernel
theorem dX6_offer_26 : decode cX6_offer 26 = .ok (.iload_n 2, 1) := by decide +kernel
theorem dX6_offer_27 : decode cX6_offer 27 = .ok (.ifCond .ne 16, 3) := by decide +kernel
theorem dX6_offer_30 : decode cX6_offer 30 = .ok (.iload_n 1, 1) := by decide +kernel
theorem dX6_offer_31 : decode cX6_offer 31 = .ok (.aload_n 0, 1) := by decide +kernel
theorem dX6_offer_32 : decode cX6_offer 32 = .ok (.getfield 59, 3) := by decide +kernel
theorem dX6_offer_35 : decode cX6_offer 35 = .ok (.if_icmp .ge 8, 3) := by decide +kernel
theorem dX6_offer_38 : decode cX6_offer 38 = .ok (.aload_n 0, 1) := by decide +kernel
theorem dX6_offer_39 : decode cX6_offer 39 = .ok (.iload_n 1, 1) := by decide +kernel
theorem dX6_offer_40 : decode cX6_offer 40 = .ok (.putfield 59, 3) := by decide +kernel
theorem dX6_offer_43 : decode cX6_offer 43 = .ok (.return_, 1) := by decide +kernel
theorem dX7_init_0 : decode cX7_init 0 = .ok (.aload_n 0, 1) := by decide +kernel
theorem dX7_init_1 : decode cX7_init 1 = .ok (.invokespecial 1, 3) := by decide +kernel
theorem dX7_init_4 : decode cX7_init 4 = .ok (.aload_n 0, 1) := by decide +kernel
theorem dX7_init_5 : decode cX7_init 5 = .ok (.bipush 6, 2) := by decide +kernel
theorem dX7_init_7 : decode cX7_init 7 = .ok (.anewarray 9, 3) := by decide +kernel
theorem dX7_init_10 : decode cX7_init 10 = .ok (.putfield 11, 3) := by decide +kernel
theorem dX7_init_13 : decode cX7_init 13 = .ok (.aload_n 0, 1) := by decide +kernel
theorem dX7_init_14 : decode cX7_init 14 = .ok (.iconst 4, 1) := by decide +kernel
theorem dX7_init_15 : decode cX7_init 15 = .ok (.anewarray 9, 3) := by decide +kernel
theorem dX7_init_18 : decode cX7_init 18 = .ok (.putfield 15, 3) := by decide +kernel
theorem dX7_init_21 : decode cX7_init 21 = .ok (.aload_n 0, 1) := by decide +kernel
theorem dX7_init_22 : decode cX7_init 22 = .ok (.new 18, 3) := by decide +kernel
theorem dX7_init_25 : decode cX7_init 25 = .ok (.dup, 1) := by decide +kernel
theorem dX7_init_26 : decode cX7_init 26 = .ok (.invokespecial 20, 3) := by decide +kernel
theorem dX7_init_29 : decode cX7_init 29 = .ok (.putfield 21, 3) := by decide +kernel
theorem dX7_init_32 : decode cX7_init 32 = .ok (.aload_n 0, 1) := by decide +kernel
theorem dX7_init_33 : decode cX7_init 33 = .ok (.new 18, 3) := by decide +kernel
theorem dX7_init_36 : decode cX7_init 36 = .ok (.dup, 1) := by decide +kernel
theorem dX7_init_37 : decode cX7_init 37 = .ok (.invokespecial 20, 3) := by decide +kernel
theorem dX7_init_40 : decode cX7_init 40 = .ok (.putfield 25, 3) := by decide +kernel
theorem dX7_init_43 : decode cX7_init 43 = .ok (.aload_n 0, 1) := by decide +kernel
theorem dX7_init_44 : decode cX7_init 44 = .ok (.new 28, 3) := by decide +kernel
theorem dX7_init_47 : decode cX7_init 47 = .ok (.dup, 1) := by decide +kernel
theorem dX7_init_48 : decode cX7_init 48 = .ok (.aload_n 0, 1) := by decide +kernel
theorem dX7_init_49 : decode cX7_init 49 = .ok (.getfield 21, 3) := by decide +kernel
theorem dX7_init_52 : decode cX7_init 52 = .ok (.invokespecial 30, 3) := by decide +kernel
theorem dX7_init_55 : decode cX7_init 55 = .ok (.putfield 33, 3) := by decide +kernel
theorem dX7_init_58 : decode cX7_init 58 = .ok (.aload_n 0, 1) := by decide +kernel
theorem dX7_init_59 : decode cX7_init 59 = .ok (.new 28, 3) := by decide +kernel
theorem dX7_init_62 : decode cX7_init 62 = .ok (.dup, 1) := by decide +kernel
theorem dX7_init_63 : decode cX7_init 63 = .ok (.aload_n 0, 1) := by decide +kernel
theorem dX7_init_64 : decode cX7_init 64 = .ok (.getfield 21, 3) := by decide +kernel
theorem dX7_init_67 : decode cX7_init 67 = .ok (.invokespecial 30, 3) := by decide +kernel
theorem dX7_init_70 : decode cX7_init 70 = .ok (.putfield 37, 3) := by decide +kernel
theorem dX7_init_73 : decode cX7_init 73 = .ok (.aload_n 0, 1) := by decide +kernel
theorem dX7_init_74 : decode cX7_init 74 = .ok (.new 40, 3) := by decide +kernel
theorem dX7_init_77 : decode cX7_init 77 = .ok (.dup, 1) := by decide +kernel
theorem dX7_init_78 : decode cX7_init 78 = .ok (.invokespecial 42, 3) := by decide +kernel
theorem dX7_init_81 : decode cX7_init 81 = .ok (.putfield 43, 3) := by decide +kernel
theorem dX7_init_84 : decode cX7_init 84 = .ok (.aload_n 0, 1) := by decide +kernel
theorem dX7_init_85 : decode cX7_init 85 = .ok (.iconst 3, 1) := by decide +kernel
theorem dX7_init_86 : decode cX7_init 86 = .ok (.anewarray 40, 3) := by decide +kernel
theorem dX7_init_89 : decode cX7_init 89 = .ok (.putfield 47, 3) := by decide +kernel
theorem dX7_init_92 : decode cX7_init 92 = .ok (.aload_n 0, 1) := by decide +kernel
theorem dX7_init_93 : decode cX7_init 93 = .ok (.new 51, 3) := by decide +kernel
theorem dX7_init_96 : decode cX7_init 96 = .ok (.dup, 1) := by decide +kernel
theorem dX7_init_97 : decode cX7_init 97 = .ok (.aload_n 0, 1) := by decide +kernel
theorem dX7_init_98 : decode cX7_init 98 = .ok (.getfield 21, 3) := by decide +kernel
theorem dX7_init_101 : decode cX7_init 101 = .ok (.invokespecial 53, 3) := by decide +kernel
theorem dX7_init_104 : decode cX7_init 104 = .ok (.putfield 54, 3) := by decide +kernel
theorem dX7_init_107 : decode cX7_init 107 = .ok (.aload_n 0, 1) := by decide +kernel
theorem dX7_init_108 : decode cX7_init 108 = .ok (.new 58, 3) := by decide +kernel
theorem dX7_init_111 : decode cX7_init 111 = .ok (.dup, 1) := by decide +kernel
theorem dX7_init_112 : decode cX7_init 112 = .ok (.aload_n 0, 1) := by decide +kernel
theorem dX7_init_113 : decode cX7_init 113 = .ok (.getfield 21, 3) := by decide +kernel
theorem dX7_init_116 : decode cX7_init 116 = .ok (.invokespecial 60, 3) := by decide +kernel
theorem dX7_init_119 : decode cX7_init 119 = .ok (.putfield 61, 3) := by decide +kernel
theorem dX7_init_122 : decode cX7_init 122 = .ok (.aload_n 0, 1) := by decide +kernel
theorem dX7_init_123 : decode cX7_init 123 = .ok (.new 65, 3) := by decide +kernel
theorem dX7_init_126 : decode cX7_init 126 = .ok (.dup, 1) := by decide +kernel
theorem dX7_init_127 : decode cX7_init 127 = .ok (.aload_n 0, 1) := by decide +kernel
theorem dX7_init_128 : decode cX7_init 128 = .ok (.getfield 21, 3) := by decide +kernel
theorem dX7_init_131 : decode cX7_init 131 = .ok (.invokespecial 67, 3) := by decide +kernel
theorem dX7_init_134 : decode cX7_init 134 = .ok (.putfield 68, 3) := by decide +kernel
theorem dX7_init_137 : decode cX7_init 137 = .ok (.aload_n 0, 1) := by decide +kernel
theorem dX7_init_138 : decode cX7_init 138 = .ok (.bipush 6, 2) := by decide +kernel
theorem dX7_init_140 : decode cX7_init 140 = .ok (.newarray .int, 2) := by decide +kernel
theorem dX7_init_142 : decode cX7_init 142 = .ok (.putfield 72, 3) := by decide +kernel
theorem dX7_init_145 : decode cX7_init 145 = .ok (.aload_n 0, 1) := by decide +kernel
theorem dX7_init_146 : decode cX7_init 146 = .ok (.lconst 1, 1) := by decide +kernel
theorem dX7_init_147 : decode cX7_init 147 = .ok (.putfield 76, 3) := by decide +kernel
theorem dX7_init_150 : decode cX7_init 150 = .ok (.iconst 0, 1) := by decide +kernel
theorem dX7_init_151 : decode cX7_init 151 = .ok (.istore_n 1, 1) := by decide +kernel
theorem dX7_init_152 : decode cX7_init 152 = .ok (.iload_n 1, 1) := by decide +kernel
theorem dX7_init_153 : decode cX7_init 153 = .ok (.aload_n 0, 1) := by decide +kernel
theorem dX7_init_154 : decode cX7_init 154 = .ok (.getfield 11, 3) := by decide +kernel
theorem dX7_init_157 : decode cX7_init 157 = .ok (.arraylength, 1) := by decide +kernel
theorem dX7_init_158 : decode cX7_init 158 = .ok (.if_icmp .ge 22, 3) := by decide +kernel
theorem dX7_init_161 : decode cX7_init 161 = .ok (.aload_n 0, 1) := by decide +kernel
theorem dX7_init_162 : decode cX7_init 162 = .ok (.getfield 11, 3) := by decide +kernel
theorem dX7_init_165 : decode cX7_init 165 = .ok (.iload_n 1, 1) := by decide +kernel
theorem dX7_init_166 : decode cX7_init 166 = .ok (.new 9, 3) := by decide +kernel
theorem dX7_init_169 : decode cX7_init 169 = .ok (.dup, 1) := by decide +kernel
theorem dX7_init_170 : decode cX7_init 170 = .ok (.invokespecial 80, 3) := by decide +kernel
theorem dX7_init_173 : decode cX7_init 173 = .ok (.aastore, 1) := by decide +kernel
theorem dX7_init_174 : decode cX7_init 174 = .ok (.iinc 1 1, 3) := by decide +kernel
theorem dX7_init_177 : decode cX7_init 177 = .ok (.goto (-25), 3) := by decide +kernel
theorem dX7_init_180 : decode cX7_init 180 = .ok (.iconst 0, 1) := by decide +kernel
theorem dX7_init_181 : decode cX7_init 181 = .ok (.istore_n 1, 1) := by decide +kernel
theorem dX7_init_182 : decode cX7_init 182 = .ok (.iload_n 1, 1) := by decide +kernel
theorem dX7_init_183 : decode cX7_init 183 = .ok (.aload_n 0, 1) := by decide +kernel
theorem dX7_init_184 : decode cX7_init 184 = .ok (.getfield 15, 3) := by decide +kernel
theorem dX7_init_187 : decode cX7_init 187 = .ok (.arraylength, 1) := by decide +kernel
theorem dX7_init_188 : decode cX7_init 188 = .ok (.if_icmp .ge 22, 3) := by decide +kernel
theorem dX7_init_191 : decode cX7_init 191 = .ok (.aload_n 0, 1) := by decide +kernel
theorem dX7_init_192 : decode cX7_init 192 = .ok (.getfield 15, 3) := by decide +kernel
theorem dX7_init_195 : decode cX7_init 195 = .ok (.iload_n 1, 1) := by decide +kernel
theorem dX7_init_196 : decode cX7_init 196 = .ok (.new 9, 3) := by decide +kernel
theorem dX7_init_199 : decode cX7_init 199 = .ok (.dup, 1) := by decide +kernel
theorem dX7_init_200 : decode cX7_init 200 = .ok (.invokespecial 80, 3) := by decide +kernel
theorem dX7_init_203 : decode cX7_init 203 = .ok (.aastore, 1) := by decide +kernel
theorem dX7_init_204 : decode cX7_init 204 = .ok (.iinc 1 1, 3) := by decide +kernel
theorem dX7_init_207 : decode cX7_init 207 = .ok (.goto (-25), 3) := by decide +kernel
theorem dX7_init_210 : decode cX7_init 210 = .ok (.iconst 0, 1) := by decide +kernel
theorem dX7_init_211 : decode cX7_init 211 = .ok (.istore_n 1, 1) := by decide +kernel
theorem dX7_init_212 : decode cX7_init 212 = .ok (.iload_n 1, 1) := by decide +kernel
theorem dX7_init_213 : decode cX7_init 213 = .ok (.aload_n 0, 1) := by decide +kernel
theorem dX7_init_214 : decode cX7_init 214 = .ok (.getfield 47, 3) := by decide +kernel
theorem dX7_init_217 : decode cX7_init 217 = .ok (.arraylength, 1) := by decide +kernel
theorem dX7_init_218 : decode cX7_init 218 = .ok (.if_icmp .ge 32, 3) := by decide +kernel
theorem dX7_init_221 : decode cX7_init 221 = .ok (.aload_n 0, 1) := by decide +kernel
theorem dX7_init_222 : decode cX7_init 222 = .ok (.getfield 47, 3) := by decide +kernel
theorem dX7_init_225 : decode cX7_init 225 = .ok (.iload_n 1, 1) := by decide +kernel
theorem dX7_init_226 : decode cX7_init 226 = .ok (.new 40, 3) := by decide +kernel
theorem dX7_init_229 : decode cX7_init 229 = .ok (.dup, 1) := by decide +kernel
theorem dX7_init_230 : decode cX7_init 230 = .ok (.invokespecial 42, 3) := by decide +kernel
theorem dX7_init_233 : decode cX7_init 233 = .ok (.aastore, 1) := by decide +kernel
theorem dX7_init_234 : decode cX7_init 234 = .ok (.aload_n 0, 1) := by decide +kernel
theorem dX7_init_235 : decode cX7_init 235 = .ok (.getfield 47, 3) := by decide +kernel
theorem dX7_init_238 : decode cX7_init 238 = .ok (.iload_n 1, 1) := by decide +kernel
theorem dX7_init_239 : decode cX7_init 239 = .ok (.aaload, 1) := by decide +kernel
theorem dX7_init_240 : decode cX7_init 240 = .ok (.iconst (-1), 1) := by decide +kernel
theorem dX7_init_241 : decode cX7_init 241 = .ok (.putfield 81, 3) := by decide +kernel
theorem dX7_init_244 : decode cX7_init 244 = .ok (.iinc 1 1, 3) := by decide +kernel
theorem dX7_init_247 : decode cX7_init 247 = .ok (.goto (-35), 3) := by decide +kernel
theorem dX7_init_250 : decode cX7_init 250 = .ok (.return_, 1) := by decide +kernel
theorem dX7_row_0 : decode cX7_row 0 = .ok (.aload_n 0, 1) := by decide +kernel
theorem dX7_row_1 : decode cX7_row 1 = .ok (.aload_n 0, 1) := by decide +kernel
theorem dX7_row_2 : decode cX7_row 2 = .ok (.iload_n 1, 1) := by decide +kernel
theorem dX7_row_3 : decode cX7_row 3 = .ok (.invokevirtual 85, 3) := by decide +kernel
theorem dX7_row_6 : decode cX7_row 6 = .ok (.iload_n 2, 1) := by decide +kernel
theorem dX7_row_7 : decode cX7_row 7 = .ok (.bipush 40, 2) := by decide +kernel
theorem dX7_row_9 : decode cX7_row 9 = .ok (.iconst 0, 1) := by decide +kernel
theorem dX7_row_10 : decode cX7_row 10 = .ok (.invokevirtual 89, 3) := by decide +kernel
theorem dX7_row_13 : decode cX7_row 13 = .ok (.ireturn, 1) := by decide +kernel
theorem dX7_lay_0 : decode cX7_lay 0 = .ok (.aload_n 0, 1) := by decide +kernel
theorem dX7_lay_1 : decode cX7_lay 1 = .ok (.iload_n 1, 1) := by decide +kernel
theorem dX7_lay_2 : decode cX7_lay 2 = .ok (.invokevirtual 85, 3) := by decide +kernel
theorem dX7_lay_5 : decode cX7_lay 5 = .ok (.astore 4, 2) := by decide +kernel
theorem dX7_lay_7 : decode cX7_lay 7 = .ok (.aload 4, 2) := by decide +kernel
theorem dX7_lay_9 : decode cX7_lay 9 = .ok (.ifnonnull 5, 3) := by decide +kernel
theorem dX7_lay_12 : decode cX7_lay 12 = .ok (.iconst (-1), 1) := by decide +kernel
theorem dX7_lay_13 : decode cX7_lay 13 = .ok (.ireturn, 1) := by decide +kernel
theorem dX7_lay_14 : decode cX7_lay 14 = .ok (.aload 4, 2) := by decide +kernel
theorem dX7_lay_16 : decode cX7_lay 16 = .ok (.iload_n 2, 1) := by decide +kernel
theorem dX7_lay_17 : decode cX7_lay 17 = .ok (.invokevirtual 93, 3) := by decide +kernel
theorem dX7_lay_20 : decode cX7_lay 20 = .ok (.istore 5, 2) := by decide +kernel
theorem dX7_lay_22 : decode cX7_lay 22 = .ok (.iload 5, 2) := by decide +kernel
theorem dX7_lay_24 : decode cX7_lay 24 = .ok (.ifCond .eq 10, 3) := by decide +kernel
theorem dX7_lay_27 : decode cX7_lay 27 = .ok (.aload_n 0, 1) := by decide +kernel
theorem dX7_lay_28 : decode cX7_lay 28 = .ok (.iload 5, 2) := by decide +kernel
theorem dX7_lay_30 : decode cX7_lay 30 = .ok (.invokevirtual 97, 3) := by decide +kernel
theorem dX7_lay_33 : decode cX7_lay 33 = .ok (.ireturn, 1) := by decide +kernel
theorem dX7_lay_34 : decode cX7_lay 34 = .ok (.aload 4, 2) := by decide +kernel
theorem dX7_lay_36 : decode cX7_lay 36 = .ok (.iload_n 2, 1) := by decide +kernel
theorem dX7_lay_37 : decode cX7_lay 37 = .ok (.invokevirtual 100, 3) := by decide +kernel
theorem dX7_lay_40 : decode cX7_lay 40 = .ok (.istore 6, 2) := by decide +kernel
theorem dX7_lay_42 : decode cX7_lay 42 = .ok (.aload 4, 2) := by decide +kernel
theorem dX7_lay_44 : decode cX7_lay 44 = .ok (.iload_n 2, 1) := by decide +kernel
theorem dX7_lay_45 : decode cX7_lay 45 = .ok (.iload_n 3, 1) := by decide +kernel
theorem dX7_lay_46 : decode cX7_lay 46 = .ok (.invokevirtual 103, 3) := by decide +kernel
theorem dX7_lay_49 : decode cX7_lay 49 = .ok (.aload_n 0, 1) := by decide +kernel
theorem dX7_lay_50 : decode cX7_lay 50 = .ok (.iload 6, 2) := by decide +kernel
theorem dX7_lay_52 : decode cX7_lay 52 = .ok (.invokevirtual 107, 3) := by decide +kernel
theorem dX7_lay_55 : decode cX7_lay 55 = .ok (.ireturn, 1) := by decide +kernel
theorem dX7_at_0 : decode cX7_at 0 = .ok (.aload_n 0, 1) := by decide +kernel
theorem dX7_at_1 : decode cX7_at 1 = .ok (.iload_n 1, 1) := by decide +kernel
theorem dX7_at_2 : decode cX7_at 2 = .ok (.invokevirtual 85, 3) := by decide +kernel
theorem dX7_at_5 : decode cX7_at 5 = .ok (.astore_n 3, 1) := by decide +kernel
theorem dX7_at_6 : decode cX7_at 6 = .ok (.aload_n 3, 1) := by decide +kernel
theorem dX7_at_7 : decode cX7_at 7 = .ok (.ifnonnull 5, 3) := by decide +kernel
theorem dX7_at_10 : decode cX7_at 10 = .ok (.iconst (-1), 1) := by decide +kernel
theorem dX7_at_11 : decode cX7_at 11 = .ok (.ireturn, 1) := by decide +kernel
theorem dX7_at_12 : decode cX7_at 12 = .ok (.aload_n 3, 1) := by decide +kernel
theorem dX7_at_13 : decode cX7_at 13 = .ok (.iload_n 2, 1) := by decide +kernel
theorem dX7_at_14 : decode cX7_at 14 = .ok (.invokevirtual 93, 3) := by decide +kernel
theorem dX7_at_17 : decode cX7_at 17 = .ok (.istore 4, 2) := by decide +kernel
theorem dX7_at_19 : decode cX7_at 19 = .ok (.iload 4, 2) := by decide +kernel
theorem dX7_at_21 : decode cX7_at 21 = .ok (.ifCond .eq 12, 3) := by decide +kernel
theorem dX7_at_24 : decode cX7_at 24 = .ok (.aload_n 0, 1) := by decide +kernel
theorem dX7_at_25 : decode cX7_at 25 = .ok (.iload 4, 2) := by decide +kernel
theorem dX7_at_27 : decode cX7_at 27 = .ok (.invokevirtual 97, 3) := by decide +kernel
theorem dX7_at_30 : decode cX7_at 30 = .ok (.goto 12, 3) := by decide +kernel
theorem dX7_at_33 : decode cX7_at 33 = .ok (.aload_n 0, 1) := by decide +kernel
theorem dX7_at_34 : decode cX7_at 34 = .ok (.aload_n 3, 1) := by decide +kernel
theorem dX7_at_35 : decode cX7_at 35 = .ok (.iload_n 2, 1) := by decide +kernel
theorem dX7_at_36 : decode cX7_at 36 = .ok (.invokevirtual 100, 3) := by decide +kernel
theorem dX7_at_39 : decode cX7_at 39 = .ok (.invokevirtual 107, 3) := by decide +kernel
theorem dX7_at_42 : decode cX7_at 42 = .ok (.ireturn, 1) := by decide +kernel
theorem dX7_text_0 : decode cX7_text 0 = .ok (.aload_n 0, 1) := by decide +kernel
theorem dX7_text_1 : decode cX7_text 1 = .ok (.aload_n 0, 1) := by decide +kernel
theorem dX7_text_2 : decode cX7_text 2 = .ok (.iload_n 1, 1) := by decide +kernel
theorem dX7_text_3 : decode cX7_text 3 = .ok (.invokevirtual 128, 3) := by decide +kernel
theorem dX7_text_6 : decode cX7_text 6 = .ok (.iload_n 2, 1) := by decide +kernel
theorem dX7_text_7 : decode cX7_text 7 = .ok (.bipush 60, 2) := by decide +kernel
theorem dX7_text_9 : decode cX7_text 9 = .ok (.bipush 32, 2) := by decide +kernel
theorem dX7_text_11 : decode cX7_text 11 = .ok (.invokevirtual 89, 3) := by decide +kernel
theorem dX7_text_14 : decode cX7_text 14 = .ok (.ireturn, 1) := by decide +kernel
theorem dX7_put_0 : decode cX7_put 0 = .ok (.aload_n 0, 1) := by decide +kernel
theorem dX7_put_1 : decode cX7_put 1 = .ok (.iload_n 1, 1) := by decide +kernel
theorem dX7_put_2 : decode cX7_put 2 = .ok (.invokevirtual 128, 3) := by decide +kernel
theorem dX7_put_5 : decode cX7_put 5 = .ok (.astore 4, 2) := by decide +kernel
theorem dX7_put_7 : decode cX7_put 7 = .ok (.aload 4, 2) := by decide +kernel
theorem dX7_put_9 : decode cX7_put 9 = .ok (.ifnonnull 5, 3) := by decide +kernel
theorem dX7_put_12 : decode cX7_put 12 = .ok (.iconst (-1), 1) := by decide +kernel
theorem dX7_put_13 : decode cX7_put 13 = .ok (.ireturn, 1) := by decide +kernel
theorem dX7_put_14 : decode cX7_put 14 = .ok (.aload 4, 2) := by decide +kernel
theorem dX7_put_16 : decode cX7_put 16 = .ok (.iload_n 2, 1) := by decide +kernel
theorem dX7_put_17 : decode cX7_put 17 = .ok (.invokevirtual 93, 3) := by decide +kernel
theorem dX7_put_20 : decode cX7_put 20 = .ok (.istore 5, 2) := by decide +kernel
theorem dX7_put_22 : decode cX7_put 22 = .ok (.iload 5, 2) := by decide +kernel
theorem dX7_put_24 : decode cX7_put 24 = .ok (.ifCond .eq 10, 3) := by decide +kernel
theorem dX7_put_27 : decode cX7_put 27 = .ok (.aload_n 0, 1) := by decide +kernel
theorem dX7_put_28 : decode cX7_put 28 = .ok (.iload 5, 2) := by decide +kernel
theorem dX7_put_30 : decode cX7_put 30 = .ok (.invokevirtual 97, 3) := by decide +kernel
theorem dX7_put_33 : decode cX7_put 33 = .ok (.ireturn, 1) := by decide +kernel
theorem dX7_put_34 : decode cX7_put 34 = .ok (.aload 4, 2) := by decide +kernel
theorem dX7_put_36 : decode cX7_put 36 = .ok (.iload_n 2, 1) := by decide +kernel
theorem dX7_put_37 : decode cX7_put 37 = .ok (.invokevirtual 100, 3) := by decide +kernel
theorem dX7_put_40 : decode cX7_put 40 = .ok (.istore 6, 2) := by decide +kernel
theorem dX7_put_42 : decode cX7_put 42 = .ok (.aload 4, 2) := by decide +kernel
theorem dX7_put_44 : decode cX7_put 44 = .ok (.iload_n 2, 1) := by decide +kernel
theorem dX7_put_45 : decode cX7_put 45 = .ok (.iload_n 3, 1) := by decide +kernel
theorem dX7_put_46 : decode cX7_put 46 = .ok (.i2b, 1) := by decide +kernel
theorem dX7_put_47 : decode cX7_put 47 = .ok (.invokevirtual 103, 3) := by decide +kernel
theorem dX7_put_50 : decode cX7_put 50 = .ok (.iload 6, 2) := by decide +kernel
theorem dX7_put_52 : decode cX7_put 52 = .ok (.sipush 1000, 3) := by decide +kernel
theorem dX7_put_55 : decode cX7_put 55 = .ok (.iadd, 1) := by decide +kernel
theorem dX7_put_56 : decode cX7_put 56 = .ok (.ireturn, 1) := by decide +kernel
theorem dX7_fault_0 : decode cX7_fault 0 = .ok (.aload_n 0, 1) := by decide +kernel
theorem dX7_fault_1 : decode cX7_fault 1 = .ok (.iload_n 1, 1) := by decide +kernel
theorem dX7_fault_2 : decode cX7_fault 2 = .ok (.invokevirtual 128, 3) := by decide +kernel
theorem dX7_fault_5 : decode cX7_fault 5 = .ok (.astore_n 2, 1) := by decide +kernel
theorem dX7_fault_6 : decode cX7_fault 6 = .ok (.aload_n 2, 1) := by decide +kernel
theorem dX7_fault_7 : decode cX7_fault 7 = .ok (.ifnonnull 5, 3) := by decide +kernel
theorem dX7_fault_10 : decode cX7_fault 10 = .ok (.iconst (-1), 1) := by decide +kernel
theorem dX7_fault_11 : decode cX7_fault 11 = .ok (.ireturn, 1) := by decide +kernel
theorem dX7_fault_12 : decode cX7_fault 12 = .ok (.aload_n 2, 1) := by decide +kernel
theorem dX7_fault_13 : decode cX7_fault 13 = .ok (.invokevirtual 110, 3) := by decide +kernel
theorem dX7_fault_16 : decode cX7_fault 16 = .ok (.ifCond .eq 11, 3) := by decide +kernel
theorem dX7_fault_19 : decode cX7_fault 19 = .ok (.aload_n 0, 1) := by decide +kernel
theorem dX7_fault_20 : decode cX7_fault 20 = .ok (.iconst 1, 1) := by decide +kernel
theorem dX7_fault_21 : decode cX7_fault 21 = .ok (.invokevirtual 97, 3) := by decide +kernel
theorem dX7_fault_24 : decode cX7_fault 24 = .ok (.goto 11, 3) := by decide +kernel
theorem dX7_fault_27 : decode cX7_fault 27 = .ok (.aload_n 0, 1) := by decide +kernel
theorem dX7_fault_28 : decode cX7_fault 28 = .ok (.getfield 25, 3) := by decide +kernel
theorem dX7_fault_31 : decode cX7_fault 31 = .ok (.aload_n 2, 1) := by decide +kernel
theorem dX7_fault_32 : decode cX7_fault 32 = .ok (.invokevirtual 131, 3) := by decide +kernel
theorem dX7_fault_35 : decode cX7_fault 35 = .ok (.ireturn, 1) := by decide +kernel
theorem dX7_nave_0 : decode cX7_nave 0 = .ok (.aload_n 0, 1) := by decide +kernel
theorem dX7_nave_1 : decode cX7_nave 1 = .ok (.iload_n 1, 1) := by decide +kernel
theorem dX7_nave_2 : decode cX7_nave 2 = .ok (.invokevirtual 128, 3) := by decide +kernel
theorem dX7_nave_5 : decode cX7_nave 5 = .ok (.astore_n 2, 1) := by decide +kernel
theorem dX7_nave_6 : decode cX7_nave 6 = .ok (.aload_n 2, 1) := by decide +kernel
theorem dX7_nave_7 : decode cX7_nave 7 = .ok (.ifnonnull 5, 3) := by decide +kernel
theorem dX7_nave_10 : decode cX7_nave 10 = .ok (.iconst (-1), 1) := by decide +kernel
theorem dX7_nave_11 : decode cX7_nave 11 = .ok (.ireturn, 1) := by decide +kernel
theorem dX7_nave_12 : decode cX7_nave 12 = .ok (.aload_n 2, 1) := by decide +kernel
theorem dX7_nave_13 : decode cX7_nave 13 = .ok (.invokevirtual 110, 3) := by decide +kernel
theorem dX7_nave_16 : decode cX7_nave 16 = .ok (.ifCond .eq 9, 3) := by decide +kernel
theorem dX7_nave_19 : decode cX7_nave 19 = .ok (.aload_n 0, 1) := by decide +kernel
theorem dX7_nave_20 : decode cX7_nave 20 = .ok (.iconst 1, 1) := by decide +kernel
theorem dX7_nave_21 : decode cX7_nave 21 = .ok (.invokevirtual 97, 3) := by decide +kernel
theorem dX7_nave_24 : decode cX7_nave 24 = .ok (.ireturn, 1) := by decide +kernel
theorem dX7_nave_25 : decode cX7_nave 25 = .ok (.aload_n 0, 1) := by decide +kernel
theorem dX7_nave_26 : decode cX7_nave 26 = .ok (.getfield 25, 3) := by decide +kernel
theorem dX7_nave_29 : decode cX7_nave 29 = .ok (.aload_n 2, 1) := by decide +kernel
theorem dX7_nave_30 : decode cX7_nave 30 = .ok (.invokevirtual 131, 3) := by decide +kernel
theorem dX7_nave_33 : decode cX7_nave 33 = .ok (.bipush (-9), 2) := by decide +kernel
theorem dX7_nave_35 : decode cX7_nave 35 = .ok (.if_icmp .eq 6, 3) := by decide +kernel
theorem dX7_nave_38 : decode cX7_nave 38 = .ok (.bipush (-4), 2) := by decide +kernel
theorem dX7_nave_40 : decode cX7_nave 40 = .ok (.ireturn, 1) := by decide +kernel
theorem dX7_nave_41 : decode cX7_nave 41 = .ok (.aload_n 0, 1) := by decide +kernel
theorem dX7_nave_42 : decode cX7_nave 42 = .ok (.getfield 21, 3) := by decide +kernel
theorem dX7_nave_45 : decode cX7_nave 45 = .ok (.aload_n 2, 1) := by decide +kernel
theorem dX7_nave_46 : decode cX7_nave 46 = .ok (.invokevirtual 131, 3) := by decide +kernel
theorem dX7_nave_49 : decode cX7_nave 49 = .ok (.pop, 1) := by decide +kernel
theorem dX7_nave_50 : decode cX7_nave 50 = .ok (.aload_n 0, 1) := by decide +kernel
theorem dX7_nave_51 : decode cX7_nave 51 = .ok (.getfield 33, 3) := by decide +kernel
theorem dX7_nave_54 : decode cX7_nave 54 = .ok (.invokevirtual 135, 3) := by decide +kernel
theorem dX7_nave_57 : decode cX7_nave 57 = .ok (.aload_n 0, 1) := by decide +kernel
theorem dX7_nave_58 : decode cX7_nave 58 = .ok (.getfield 43, 3) := by decide +kernel
theorem dX7_nave_61 : decode cX7_nave 61 = .ok (.iconst 0, 1) := by decide +kernel
theorem dX7_nave_62 : decode cX7_nave 62 = .ok (.putfield 81, 3) := by decide +kernel
theorem dX7_nave_65 : decode cX7_nave 65 = .ok (.iconst 0, 1) := by decide +kernel
theorem dX7_nave_66 : decode cX7_nave 66 = .ok (.istore_n 3, 1) := by decide +kernel
theorem dX7_nave_67 : decode cX7_nave 67 = .ok (.iload_n 3, 1) := by decide +kernel
theorem dX7_nave_68 : decode cX7_nave 68 = .ok (.aload_n 0, 1) := by decide +kernel
theorem dX7_nave_69 : decode cX7_nave 69 = .ok (.getfield 47, 3) := by decide +kernel
theorem dX7_nave_72 : decode cX7_nave 72 = .ok (.arraylength, 1) := by decide +kernel
theorem dX7_nave_73 : decode cX7_nave 73 = .ok (.if_icmp .ge 19, 3) := by decide +kernel
theorem dX7_nave_76 : decode cX7_nave 76 = .ok (.aload_n 0, 1) := by decide +kernel
theorem dX7_nave_77 : decode cX7_nave 77 = .ok (.getfield 47, 3) := by decide +kernel
theorem dX7_nave_80 : decode cX7_nave 80 = .ok (.iload_n 3, 1) := by decide +kernel
theorem dX7_nave_81 : decode cX7_nave 81 = .ok (.aaload, 1) := by decide +kernel
theorem dX7_nave_82 : decode cX7_nave 82 = .ok (.iconst (-1), 1) := by decide +kernel
theorem dX7_nave_83 : decode cX7_nave 83 = .ok (.putfield 81, 3) := by decide +kernel
theorem dX7_nave_86 : decode cX7_nave 86 = .ok (.iinc 3 1, 3) := by decide +kernel
theorem dX7_nave_89 : decode cX7_nave 89 = .ok (.goto (-22), 3) := by decide +kernel
theorem dX7_nave_92 : decode cX7_nave 92 = .ok (.aload_n 0, 1) := by decide +kernel
theorem dX7_nave_93 : decode cX7_nave 93 = .ok (.getfield 21, 3) := by decide +kernel
theorem dX7_nave_96 : decode cX7_nave 96 = .ok (.getfield 137, 3) := by decide +kernel
theorem dX7_nave_99 : decode cX7_nave 99 = .ok (.ireturn, 1) := by decide +kernel
theorem dX7_pole_0 : decode cX7_pole 0 = .ok (.aload_n 0, 1) := by decide +kernel
theorem dX7_pole_1 : decode cX7_pole 1 = .ok (.getfield 21, 3) := by decide +kernel
theorem dX7_pole_4 : decode cX7_pole 4 = .ok (.iload_n 1, 1) := by decide +kernel
theorem dX7_pole_5 : decode cX7_pole 5 = .ok (.invokevirtual 140, 3) := by decide +kernel
theorem dX7_pole_8 : decode cX7_pole 8 = .ok (.ifCond .eq 13, 3) := by decide +kernel
theorem dX7_pole_11 : decode cX7_pole 11 = .ok (.iload_n 2, 1) := by decide +kernel
theorem dX7_pole_12 : decode cX7_pole 12 = .ok (.ifCond .lt 9, 3) := by decide +kernel
theorem dX7_pole_15 : decode cX7_pole 15 = .ok (.iload_n 2, 1) := by decide +kernel
theorem dX7_pole_16 : decode cX7_pole 16 = .ok (.bipush 8, 2) := by decide +kernel
theorem dX7_pole_18 : decode cX7_pole 18 = .ok (.if_icmp .lt 5, 3) := by decide +kernel
theorem dX7_pole_21 : decode cX7_pole 21 = .ok (.iconst (-1), 1) := by decide +kernel
theorem dX7_pole_22 : decode cX7_pole 22 = .ok (.ireturn, 1) := by decide +kernel
theorem dX7_pole_23 : decode cX7_pole 23 = .ok (.aload_n 0, 1) := by decide +kernel
theorem dX7_pole_24 : decode cX7_pole 24 = .ok (.aload_n 0, 1) := by decide +kernel
theorem dX7_pole_25 : decode cX7_pole 25 = .ok (.getfield 33, 3) := by decide +kernel
theorem dX7_pole_28 : decode cX7_pole 28 = .ok (.iload_n 1, 1) := by decide +kernel
theorem dX7_pole_29 : decode cX7_pole 29 = .ok (.iload_n 2, 1) := by decide +kernel
theorem dX7_pole_30 : decode cX7_pole 30 = .ok (.invokevirtual 144, 3) := by decide +kernel
theorem dX7_pole_33 : decode cX7_pole 33 = .ok (.invokevirtual 107, 3) := by decide +kernel
theorem dX7_pole_36 : decode cX7_pole 36 = .ok (.ireturn, 1) := by decide +kernel
theorem dX7_one_0 : decode cX7_one 0 = .ok (.aload_n 0, 1) := by decide +kernel
theorem dX7_one_1 : decode cX7_one 1 = .ok (.getfield 21, 3) := by decide +kernel
theorem dX7_one_4 : decode cX7_one 4 = .ok (.iload_n 1, 1) := by decide +kernel
theorem dX7_one_5 : decode cX7_one 5 = .ok (.invokevirtual 148, 3) := by decide +kernel
theorem dX7_one_8 : decode cX7_one 8 = .ok (.ifCond .eq 12, 3) := by decide +kernel
theorem dX7_one_11 : decode cX7_one 11 = .ok (.iload_n 2, 1) := by decide +kernel
theorem dX7_one_12 : decode cX7_one 12 = .ok (.ifCond .lt 8, 3) := by decide +kernel
theorem dX7_one_15 : decode cX7_one 15 = .ok (.iload_n 2, 1) := by decide +kernel
theorem dX7_one_16 : decode cX7_one 16 = .ok (.iconst 4, 1) := by decide +kernel
theorem dX7_one_17 : decode cX7_one 17 = .ok (.if_icmp .lt 5, 3) := by decide +kernel
theorem dX7_one_20 : decode cX7_one 20 = .ok (.iconst (-1), 1) := by decide +kernel
theorem dX7_one_21 : decode cX7_one 21 = .ok (.ireturn, 1) := by decide +kernel
theorem dX7_one_22 : decode cX7_one 22 = .ok (.aload_n 0, 1) := by decide +kernel
theorem dX7_one_23 : decode cX7_one 23 = .ok (.aload_n 0, 1) := by decide +kernel
theorem dX7_one_24 : decode cX7_one 24 = .ok (.getfield 33, 3) := by decide +kernel
theorem dX7_one_27 : decode cX7_one 27 = .ok (.iload_n 1, 1) := by decide +kernel
theorem dX7_one_28 : decode cX7_one 28 = .ok (.iload_n 2, 1) := by decide +kernel
theorem dX7_one_29 : decode cX7_one 29 = .ok (.invokevirtual 151, 3) := by decide +kernel
theorem dX7_one_32 : decode cX7_one 32 = .ok (.invokevirtual 107, 3) := by decide +kernel
theorem dX7_one_35 : decode cX7_one 35 = .ok (.ireturn, 1) := by decide +kernel
theorem dX7_bears_0 : decode cX7_bears 0 = .ok (.aload_n 0, 1) := by decide +kernel
theorem dX7_bears_1 : decode cX7_bears 1 = .ok (.getfield 21, 3) := by decide +kernel
theorem dX7_bears_4 : decode cX7_bears 4 = .ok (.iload_n 1, 1) := by decide +kernel
theorem dX7_bears_5 : decode cX7_bears 5 = .ok (.invokevirtual 140, 3) := by decide +kernel
theorem dX7_bears_8 : decode cX7_bears 8 = .ok (.ifCond .eq 13, 3) := by decide +kernel
theorem dX7_bears_11 : decode cX7_bears 11 = .ok (.iload_n 2, 1) := by decide +kernel
theorem dX7_bears_12 : decode cX7_bears 12 = .ok (.ifCond .lt 9, 3) := by decide +kernel
theorem dX7_bears_15 : decode cX7_bears 15 = .ok (.iload_n 2, 1) := by decide +kernel
theorem dX7_bears_16 : decode cX7_bears 16 = .ok (.bipush 20, 2) := by decide +kernel
theorem dX7_bears_18 : decode cX7_bears 18 = .ok (.if_icmp .le 5, 3) := by decide +kernel
theorem dX7_bears_21 : decode cX7_bears 21 = .ok (.iconst (-1), 1) := by decide +kernel
theorem dX7_bears_22 : decode cX7_bears 22 = .ok (.ireturn, 1) := by decide +kernel
theorem dX7_bears_23 : decode cX7_bears 23 = .ok (.aload_n 0, 1) := by decide +kernel
theorem dX7_bears_24 : decode cX7_bears 24 = .ok (.getfield 21, 3) := by decide +kernel
theorem dX7_bears_27 : decode cX7_bears 27 = .ok (.iload_n 1, 1) := by decide +kernel
theorem dX7_bears_28 : decode cX7_bears 28 = .ok (.iload_n 2, 1) := by decide +kernel
theorem dX7_bears_29 : decode cX7_bears 29 = .ok (.invokevirtual 166, 3) := by decide +kernel
theorem dX7_bears_32 : decode cX7_bears 32 = .ok (.ireturn, 1) := by decide +kernel
theorem dX7_sit_0 : decode cX7_sit 0 = .ok (.aload_n 0, 1) := by decide +kernel
theorem dX7_sit_1 : decode cX7_sit 1 = .ok (.getfield 21, 3) := by decide +kernel
theorem dX7_sit_4 : decode cX7_sit 4 = .ok (.iload_n 1, 1) := by decide +kernel
theorem dX7_sit_5 : decode cX7_sit 5 = .ok (.invokevirtual 148, 3) := by decide +kernel
theorem dX7_sit_8 : decode cX7_sit 8 = .ok (.ifCond .eq 14, 3) := by decide +kernel
theorem dX7_sit_11 : decode cX7_sit 11 = .ok (.aload_n 0, 1) := by decide +kernel
theorem dX7_sit_12 : decode cX7_sit 12 = .ok (.getfield 21, 3) := by decide +kernel
theorem dX7_sit_15 : decode cX7_sit 15 = .ok (.iload_n 2, 1) := by decide +kernel
theorem dX7_sit_16 : decode cX7_sit 16 = .ok (.invokevirtual 140, 3) := by decide +kernel
theorem dX7_sit_19 : decode cX7_sit 19 = .ok (.ifCond .ne 5, 3) := by decide +kernel
theorem dX7_sit_22 : decode cX7_sit 22 = .ok (.iconst (-1), 1) := by decide +kernel
theorem dX7_sit_23 : decode cX7_sit 23 = .ok (.ireturn, 1) := by decide +kernel
theorem dX7_sit_24 : decode cX7_sit 24 = .ok (.aload_n 0, 1) := by decide +kernel
theorem dX7_sit_25 : decode cX7_sit 25 = .ok (.getfield 33, 3) := by decide +kernel
theorem dX7_sit_28 : decode cX7_sit 28 = .ok (.iload_n 1, 1) := by decide +kernel
theorem dX7_sit_29 : decode cX7_sit 29 = .ok (.invokevirtual 169, 3) := by decide +kernel
theorem dX7_sit_32 : decode cX7_sit 32 = .ok (.ifCond .ne 14, 3) := by decide +kernel
theorem dX7_sit_35 : decode cX7_sit 35 = .ok (.aload_n 0, 1) := by decide +kernel
theorem dX7_sit_36 : decode cX7_sit 36 = .ok (.getfield 33, 3) := by decide +kernel
theorem dX7_sit_39 : decode cX7_sit 39 = .ok (.iload_n 2, 1) := by decide +kernel
theorem dX7_sit_40 : decode cX7_sit 40 = .ok (.invokevirtual 172, 3) := by decide +kernel
theorem dX7_sit_43 : decode cX7_sit 43 = .ok (.ifCond .ne 6, 3) := by decide +kernel
theorem dX7_sit_46 : decode cX7_sit 46 = .ok (.bipush (-4), 2) := by decide +kernel
theorem dX7_sit_48 : decode cX7_sit 48 = .ok (.ireturn, 1) := by decide +kernel
theorem dX7_sit_49 : decode cX7_sit 49 = .ok (.aload_n 0, 1) := by decide +kernel
theorem dX7_sit_50 : decode cX7_sit 50 = .ok (.iconst 0, 1) := by decide +kernel
theorem dX7_sit_51 : decode cX7_sit 51 = .ok (.iload_n 1, 1) := by decide +kernel
theorem dX7_sit_52 : decode cX7_sit 52 = .ok (.iload_n 2, 1) := by decide +kernel
theorem dX7_sit_53 : decode cX7_sit 53 = .ok (.invokestatic 175, 3) := by decide +kernel
theorem dX7_sit_56 : decode cX7_sit 56 = .ok (.invokevirtual 179, 3) := by decide +kernel
theorem dX7_sit_59 : decode cX7_sit 59 = .ok (.ireturn, 1) := by decide +kernel
theorem dX7_down_0 : decode cX7_down 0 = .ok (.aload_n 0, 1) := by decide +kernel
theorem dX7_down_1 : decode cX7_down 1 = .ok (.getfield 21, 3) := by decide +kernel
theorem dX7_down_4 : decode cX7_down 4 = .ok (.iload_n 1, 1) := by decide +kernel
theorem dX7_down_5 : decode cX7_down 5 = .ok (.invokevirtual 148, 3) := by decide +kernel
theorem dX7_down_8 : decode cX7_down 8 = .ok (.ifCond .ne 5, 3) := by decide +kernel
theorem dX7_down_11 : decode cX7_down 11 = .ok (.iconst (-1), 1) := by decide +kernel
theorem dX7_down_12 : decode cX7_down 12 = .ok (.ireturn, 1) := by decide +kernel
theorem dX7_down_13 : decode cX7_down 13 = .ok (.aload_n 0, 1) := by decide +kernel
theorem dX7_down_14 : decode cX7_down 14 = .ok (.getfield 33, 3) := by decide +kernel
theorem dX7_down_17 : decode cX7_down 17 = .ok (.iload_n 1, 1) := by decide +kernel
theorem dX7_down_18 : decode cX7_down 18 = .ok (.invokevirtual 169, 3) := by decide +kernel
theorem dX7_down_21 : decode cX7_down 21 = .ok (.ifCond .eq 16, 3) := by decide +kernel
theorem dX7_down_24 : decode cX7_down 24 = .ok (.aload_n 0, 1) := by decide +kernel
theorem dX7_down_25 : decode cX7_down 25 = .ok (.iconst 1, 1) := by decide +kernel
theorem dX7_down_26 : decode cX7_down 26 = .ok (.iload_n 1, 1) := by decide +kernel
theorem dX7_down_27 : decode cX7_down 27 = .ok (.iconst 0, 1) := by decide +kernel
theorem dX7_down_28 : decode cX7_down 28 = .ok (.invokestatic 175, 3) := by decide +kernel
theorem dX7_down_31 : decode cX7_down 31 = .ok (.invokevirtual 179, 3) := by decide +kernel
theorem dX7_down_34 : decode cX7_down 34 = .ok (.goto 5, 3) := by decide +kernel
theorem dX7_down_37 : decode cX7_down 37 = .ok (.bipush (-4), 2) := by decide +kernel
theorem dX7_down_39 : decode cX7_down 39 = .ok (.ireturn, 1) := by decide +kernel
theorem dX7_lace_0 : decode cX7_lace 0 = .ok (.aload_n 0, 1) := by decide +kernel
theorem dX7_lace_1 : decode cX7_lace 1 = .ok (.getfield 21, 3) := by decide +kernel
theorem dX7_lace_4 : decode cX7_lace 4 = .ok (.iload_n 1, 1) := by decide +kernel
theorem dX7_lace_5 : decode cX7_lace 5 = .ok (.invokevirtual 140, 3) := by decide +kernel
theorem dX7_lace_8 : decode cX7_lace 8 = .ok (.ifCond .ne 5, 3) := by decide +kernel
theorem dX7_lace_11 : decode cX7_lace 11 = .ok (.iconst (-1), 1) := by decide +kernel
theorem dX7_lace_12 : decode cX7_lace 12 = .ok (.ireturn, 1) := by decide +kernel
theorem dX7_lace_13 : decode cX7_lace 13 = .ok (.aload_n 0, 1) := by decide +kernel
theorem dX7_lace_14 : decode cX7_lace 14 = .ok (.getfield 33, 3) := by decide +kernel
theorem dX7_lace_17 : decode cX7_lace 17 = .ok (.iload_n 1, 1) := by decide +kernel
theorem dX7_lace_18 : decode cX7_lace 18 = .ok (.invokevirtual 172, 3) := by decide +kernel
theorem dX7_lace_21 : decode cX7_lace 21 = .ok (.ifCond .eq 16, 3) := by decide +kernel
theorem dX7_lace_24 : decode cX7_lace 24 = .ok (.aload_n 0, 1) := by decide +kernel
theorem dX7_lace_25 : decode cX7_lace 25 = .ok (.iconst 2, 1) := by decide +kernel
theorem dX7_lace_26 : decode cX7_lace 26 = .ok (.iconst 0, 1) := by decide +kernel
theorem dX7_lace_27 : decode cX7_lace 27 = .ok (.iload_n 1, 1) := by decide +kernel
theorem dX7_lace_28 : decode cX7_lace 28 = .ok (.invokestatic 175, 3) := by decide +kernel
theorem dX7_lace_31 : decode cX7_lace 31 = .ok (.invokevirtual 179, 3) := by decide +kernel
theorem dX7_lace_34 : decode cX7_lace 34 = .ok (.goto 5, 3) := by decide +kernel
theorem dX7_lace_37 : decode cX7_lace 37 = .ok (.bipush (-4), 2) := by decide +kernel
theorem dX7_lace_39 : decode cX7_lace 39 = .ok (.ireturn, 1) := by decide +kernel
theorem dX7_stone_0 : decode cX7_stone 0 = .ok (.aload_n 0, 1) := by decide +kernel
theorem dX7_stone_1 : decode cX7_stone 1 = .ok (.getfield 21, 3) := by decide +kernel
theorem dX7_stone_4 : decode cX7_stone 4 = .ok (.invokevirtual 182, 3) := by decide +kernel
theorem dX7_stone_7 : decode cX7_stone 7 = .ok (.ifCond .eq 8, 3) := by decide +kernel
theorem dX7_stone_10 : decode cX7_stone 10 = .ok (.bipush (-4), 2) := by decide +kernel
theorem dX7_stone_12 : decode cX7_stone 12 = .ok (.goto 13, 3) := by decide +kernel
theorem dX7_stone_15 : decode cX7_stone 15 = .ok (.aload_n 0, 1) := by decide +kernel
theorem dX7_stone_16 : decode cX7_stone 16 = .ok (.iconst 3, 1) := by decide +kernel
theorem dX7_stone_17 : decode cX7_stone 17 = .ok (.iconst 0, 1) := by decide +kernel
theorem dX7_stone_18 : decode cX7_stone 18 = .ok (.iconst 0, 1) := by decide +kernel
theorem dX7_stone_19 : decode cX7_stone 19 = .ok (.invokestatic 175, 3) := by decide +kernel
theorem dX7_stone_22 : decode cX7_stone 22 = .ok (.invokevirtual 179, 3) := by decide +kernel
theorem dX7_stone_25 : decode cX7_stone 25 = .ok (.ireturn, 1) := by decide +kernel
theorem dX7_year_0 : decode cX7_year 0 = .ok (.aload_n 0, 1) := by decide +kernel
theorem dX7_year_1 : decode cX7_year 1 = .ok (.getfield 21, 3) := by decide +kernel
theorem dX7_year_4 : decode cX7_year 4 = .ok (.invokevirtual 182, 3) := by decide +kernel
theorem dX7_year_7 : decode cX7_year 7 = .ok (.ifCond .eq 8, 3) := by decide +kernel
theorem dX7_year_10 : decode cX7_year 10 = .ok (.bipush (-4), 2) := by decide +kernel
theorem dX7_year_12 : decode cX7_year 12 = .ok (.goto 13, 3) := by decide +kernel
theorem dX7_year_15 : decode cX7_year 15 = .ok (.aload_n 0, 1) := by decide +kernel
theorem dX7_year_16 : decode cX7_year 16 = .ok (.iconst 4, 1) := by decide +kernel
theorem dX7_year_17 : decode cX7_year 17 = .ok (.iconst 0, 1) := by decide +kernel
theorem dX7_year_18 : decode cX7_year 18 = .ok (.iconst 0, 1) := by decide +kernel
theorem dX7_year_19 : decode cX7_year 19 = .ok (.invokestatic 175, 3) := by decide +kernel
theorem dX7_year_22 : decode cX7_year 22 = .ok (.invokevirtual 179, 3) := by decide +kernel
theorem dX7_year_25 : decode cX7_year 25 = .ok (.ireturn, 1) := by decide +kernel
theorem dX7_undo_0 : decode cX7_undo 0 = .ok (.iload_n 1, 1) := by decide +kernel
theorem dX7_undo_1 : decode cX7_undo 1 = .ok (.ifCond .lt 14, 3) := by decide +kernel
theorem dX7_undo_4 : decode cX7_undo 4 = .ok (.iload_n 1, 1) := by decide +kernel
theorem dX7_undo_5 : decode cX7_undo 5 = .ok (.aload_n 0, 1) := by decide +kernel
theorem dX7_undo_6 : decode cX7_undo 6 = .ok (.getfield 43, 3) := by decide +kernel
theorem dX7_undo_9 : decode cX7_undo 9 = .ok (.getfield 81, 3) := by decide +kernel
theorem dX7_undo_12 : decode cX7_undo 12 = .ok (.if_icmp .le 5, 3) := by decide +kernel
theorem dX7_undo_15 : decode cX7_undo 15 = .ok (.iconst (-1), 1) := by decide +kernel
theorem dX7_undo_16 : decode cX7_undo 16 = .ok (.ireturn, 1) := by decide +kernel
theorem dX7_undo_17 : decode cX7_undo 17 = .ok (.aload_n 0, 1) := by decide +kernel
theorem dX7_undo_18 : decode cX7_undo 18 = .ok (.getfield 43, 3) := by decide +kernel
theorem dX7_undo_21 : decode cX7_undo 21 = .ok (.getfield 81, 3) := by decide +kernel
theorem dX7_undo_24 : decode cX7_undo 24 = .ok (.iload_n 1, 1) := by decide +kernel
theorem dX7_undo_25 : decode cX7_undo 25 = .ok (.isub, 1) := by decide +kernel
theorem dX7_undo_26 : decode cX7_undo 26 = .ok (.istore_n 2, 1) := by decide +kernel
theorem dX7_undo_27 : decode cX7_undo 27 = .ok (.aload_n 0, 1) := by decide +kernel
theorem dX7_undo_28 : decode cX7_undo 28 = .ok (.getfield 43, 3) := by decide +kernel
theorem dX7_undo_31 : decode cX7_undo 31 = .ok (.iload_n 1, 1) := by decide +kernel
theorem dX7_undo_32 : decode cX7_undo 32 = .ok (.putfield 81, 3) := by decide +kernel
theorem dX7_undo_35 : decode cX7_undo 35 = .ok (.aload_n 0, 1) := by decide +kernel
theorem dX7_undo_36 : decode cX7_undo 36 = .ok (.getfield 33, 3) := by decide +kernel
theorem dX7_undo_39 : decode cX7_undo 39 = .ok (.aload_n 0, 1) := by decide +kernel
theorem dX7_undo_40 : decode cX7_undo 40 = .ok (.getfield 43, 3) := by decide +kernel
theorem dX7_undo_43 : decode cX7_undo 43 = .ok (.invokevirtual 185, 3) := by decide +kernel
theorem dX7_undo_46 : decode cX7_undo 46 = .ok (.iload_n 2, 1) := by decide +kernel
theorem dX7_undo_47 : decode cX7_undo 47 = .ok (.ireturn, 1) := by decide +kernel
theorem dX7_keep_0 : decode cX7_keep 0 = .ok (.aload_n 0, 1) := by decide +kernel
theorem dX7_keep_1 : decode cX7_keep 1 = .ok (.iload_n 1, 1) := by decide +kernel
theorem dX7_keep_2 : decode cX7_keep 2 = .ok (.invokevirtual 189, 3) := by decide +kernel
theorem dX7_keep_5 : decode cX7_keep 5 = .ok (.astore_n 2, 1) := by decide +kernel
theorem dX7_keep_6 : decode cX7_keep 6 = .ok (.aload_n 2, 1) := by decide +kernel
theorem dX7_keep_7 : decode cX7_keep 7 = .ok (.ifnonnull 5, 3) := by decide +kernel
theorem dX7_keep_10 : decode cX7_keep 10 = .ok (.iconst (-1), 1) := by decide +kernel
theorem dX7_keep_11 : decode cX7_keep 11 = .ok (.ireturn, 1) := by decide +kernel
theorem dX7_keep_12 : decode cX7_keep 12 = .ok (.aload_n 0, 1) := by decide +kernel
theorem dX7_keep_13 : decode cX7_keep 13 = .ok (.getfield 21, 3) := by decide +kernel
theorem dX7_keep_16 : decode cX7_keep 16 = .ok (.invokevirtual 182, 3) := by decide +kernel
theorem dX7_keep_19 : decode cX7_keep 19 = .ok (.ifCond .eq 6, 3) := by decide +kernel
theorem dX7_keep_22 : decode cX7_keep 22 = .ok (.bipush (-4), 2) := by decide +kernel
theorem dX7_keep_24 : decode cX7_keep 24 = .ok (.ireturn, 1) := by decide +kernel
theorem dX7_keep_25 : decode cX7_keep 25 = .ok (.aload_n 2, 1) := by decide +kernel
theorem dX7_keep_26 : decode cX7_keep 26 = .ok (.aload_n 0, 1) := by decide +kernel
theorem dX7_keep_27 : decode cX7_keep 27 = .ok (.getfield 43, 3) := by decide +kernel
theorem dX7_keep_30 : decode cX7_keep 30 = .ok (.invokevirtual 193, 3) := by decide +kernel
theorem dX7_keep_33 : decode cX7_keep 33 = .ok (.aload_n 0, 1) := by decide +kernel
theorem dX7_keep_34 : decode cX7_keep 34 = .ok (.getfield 43, 3) := by decide +kernel
theorem dX7_keep_37 : decode cX7_keep 37 = .ok (.getfield 81, 3) := by decide +kernel
theorem dX7_keep_40 : decode cX7_keep 40 = .ok (.ireturn, 1) := by decide +kernel
theorem dX7_on_0 : decode cX7_on 0 = .ok (.aload_n 0, 1) := by decide +kernel
theorem dX7_on_1 : decode cX7_on 1 = .ok (.iload_n 1, 1) := by decide +kernel
theorem dX7_on_2 : decode cX7_on 2 = .ok (.invokevirtual 189, 3) := by decide +kernel
theorem dX7_on_5 : decode cX7_on 5 = .ok (.astore_n 2, 1) := by decide +kernel
theorem dX7_on_6 : decode cX7_on 6 = .ok (.aload_n 2, 1) := by decide +kernel
theorem dX7_on_7 : decode cX7_on 7 = .ok (.ifnonnull 5, 3) := by decide +kernel
theorem dX7_on_10 : decode cX7_on 10 = .ok (.iconst (-1), 1) := by decide +kernel
theorem dX7_on_11 : decode cX7_on 11 = .ok (.ireturn, 1) := by decide +kernel
theorem dX7_on_12 : decode cX7_on 12 = .ok (.aload_n 2, 1) := by decide +kernel
theorem dX7_on_13 : decode cX7_on 13 = .ok (.getfield 81, 3) := by decide +kernel
theorem dX7_on_16 : decode cX7_on 16 = .ok (.iconst (-1), 1) := by decide +kernel
theorem dX7_on_17 : decode cX7_on 17 = .ok (.if_icmp .ne 9, 3) := by decide +kernel
theorem dX7_on_20 : decode cX7_on 20 = .ok (.aload_n 0, 1) := by decide +kernel
theorem dX7_on_21 : decode cX7_on 21 = .ok (.iconst 1, 1) := by decide +kernel
theorem dX7_on_22 : decode cX7_on 22 = .ok (.invokevirtual 97, 3) := by decide +kernel
theorem dX7_on_25 : decode cX7_on 25 = .ok (.ireturn, 1) := by decide +kernel
theorem dX7_on_26 : decode cX7_on 26 = .ok (.aload_n 0, 1) := by decide +kernel
theorem dX7_on_27 : decode cX7_on 27 = .ok (.getfield 43, 3) := by decide +kernel
theorem dX7_on_30 : decode cX7_on 30 = .ok (.aload_n 2, 1) := by decide +kernel
theorem dX7_on_31 : decode cX7_on 31 = .ok (.invokevirtual 193, 3) := by decide +kernel
theorem dX7_on_34 : decode cX7_on 34 = .ok (.aload_n 0, 1) := by decide +kernel
theorem dX7_on_35 : decode cX7_on 35 = .ok (.getfield 33, 3) := by decide +kernel
theorem dX7_on_38 : decode cX7_on 38 = .ok (.aload_n 0, 1) := by decide +kernel
theorem dX7_on_39 : decode cX7_on 39 = .ok (.getfield 43, 3) := by decide +kernel
theorem dX7_on_42 : decode cX7_on 42 = .ok (.invokevirtual 185, 3) := by decide +kernel
theorem dX7_on_45 : decode cX7_on 45 = .ok (.aload_n 0, 1) := by decide +kernel
theorem dX7_on_46 : decode cX7_on 46 = .ok (.getfield 43, 3) := by decide +kernel
theorem dX7_on_49 : decode cX7_on 49 = .ok (.getfield 81, 3) := by decide +kernel
theorem dX7_on_52 : decode cX7_on 52 = .ok (.ireturn, 1) := by decide +kernel
theorem dX7_holds_0 : decode cX7_holds 0 = .ok (.aload_n 0, 1) := by decide +kernel
theorem dX7_holds_1 : decode cX7_holds 1 = .ok (.getfield 21, 3) := by decide +kernel
theorem dX7_holds_4 : decode cX7_holds 4 = .ok (.invokevirtual 182, 3) := by decide +kernel
theorem dX7_holds_7 : decode cX7_holds 7 = .ok (.ifCond .eq 6, 3) := by decide +kernel
theorem dX7_holds_10 : decode cX7_holds 10 = .ok (.bipush (-4), 2) := by decide +kernel
theorem dX7_holds_12 : decode cX7_holds 12 = .ok (.ireturn, 1) := by decide +kernel
theorem dX7_holds_13 : decode cX7_holds 13 = .ok (.iconst 0, 1) := by decide +kernel
theorem dX7_holds_14 : decode cX7_holds 14 = .ok (.istore_n 1, 1) := by decide +kernel
theorem dX7_holds_15 : decode cX7_holds 15 = .ok (.iconst 0, 1) := by decide +kernel
theorem dX7_holds_16 : decode cX7_holds 16 = .ok (.istore_n 2, 1) := by decide +kernel
theorem dX7_holds_17 : decode cX7_holds 17 = .ok (.iload_n 2, 1) := by decide +kernel
theorem dX7_holds_18 : decode cX7_holds 18 = .ok (.aload_n 0, 1) := by decide +kernel
theorem dX7_holds_19 : decode cX7_holds 19 = .ok (.getfield 21, 3) := by decide +kernel
theorem dX7_holds_22 : decode cX7_holds 22 = .ok (.getfield 137, 3) := by decide +kernel
theorem dX7_holds_25 : decode cX7_holds 25 = .ok (.if_icmp .ge 44, 3) := by decide +kernel
theorem dX7_holds_28 : decode cX7_holds 28 = .ok (.aload_n 0, 1) := by decide +kernel
theorem dX7_holds_29 : decode cX7_holds 29 = .ok (.getfield 33, 3) := by decide +kernel
theorem dX7_holds_32 : decode cX7_holds 32 = .ok (.iload_n 2, 1) := by decide +kernel
theorem dX7_holds_33 : decode cX7_holds 33 = .ok (.invokevirtual 172, 3) := by decide +kernel
theorem dX7_holds_36 : decode cX7_holds 36 = .ok (.ifCond .eq 27, 3) := by decide +kernel
theorem dX7_holds_39 : decode cX7_holds 39 = .ok (.iload_n 1, 1) := by decide +kernel
theorem dX7_holds_40 : decode cX7_holds 40 = .ok (.iconst 0, 1) := by decide +kernel
theorem dX7_holds_41 : decode cX7_holds 41 = .ok (.aload_n 0, 1) := by decide +kernel
theorem dX7_holds_42 : decode cX7_holds 42 = .ok (.getfield 33, 3) := by decide +kernel
theorem dX7_holds_45 : decode cX7_holds 45 = .ok (.iload_n 2, 1) := by decide +kernel
theorem dX7_holds_46 : decode cX7_holds 46 = .ok (.invokevirtual 196, 3) := by decide +kernel
theorem dX7_holds_49 : decode cX7_holds 49 = .ok (.aload_n 0, 1) := by decide +kernel
theorem dX7_holds_50 : decode cX7_holds 50 = .ok (.getfield 33, 3) := by decide +kernel
theorem dX7_holds_53 : decode cX7_holds 53 = .ok (.iload_n 2, 1) := by decide +kernel
theorem dX7_holds_54 : decode cX7_holds 54 = .ok (.invokevirtual 160, 3) := by decide +kernel
theorem dX7_holds_57 : decode cX7_holds 57 = .ok (.isub, 1) := by decide +kernel
theorem dX7_holds_58 : decode cX7_holds 58 = .ok (.invokestatic 199, 3) := by decide +kernel
theorem dX7_holds_61 : decode cX7_holds 61 = .ok (.iadd, 1) := by decide +kernel
theorem dX7_holds_62 : decode cX7_holds 62 = .ok (.istore_n 1, 1) := by decide +kernel
theorem dX7_holds_63 : decode cX7_holds 63 = .ok (.iinc 2 1, 3) := by decide +kernel
theorem dX7_holds_66 : decode cX7_holds 66 = .ok (.goto (-49), 3) := by decide +kernel
theorem dX7_holds_69 : decode cX7_holds 69 = .ok (.aload_n 0, 1) := by decide +kernel
theorem dX7_holds_70 : decode cX7_holds 70 = .ok (.iload_n 1, 1) := by decide +kernel
theorem dX7_holds_71 : decode cX7_holds 71 = .ok (.invokevirtual 107, 3) := by decide +kernel
theorem dX7_holds_74 : decode cX7_holds 74 = .ok (.pop, 1) := by decide +kernel
theorem dX7_holds_75 : decode cX7_holds 75 = .ok (.aload_n 0, 1) := by decide +kernel
theorem dX7_holds_76 : decode cX7_holds 76 = .ok (.getfield 33, 3) := by decide +kernel
theorem dX7_holds_79 : decode cX7_holds 79 = .ok (.invokevirtual 204, 3) := by decide +kernel
theorem dX7_holds_82 : decode cX7_holds 82 = .ok (.ireturn, 1) := by decide +kernel
theorem dX7_gives_0 : decode cX7_gives 0 = .ok (.aload_n 0, 1) := by decide +kernel
theorem dX7_gives_1 : decode cX7_gives 1 = .ok (.getfield 21, 3) := by decide +kernel
theorem dX7_gives_4 : decode cX7_gives 4 = .ok (.iload_n 1, 1) := by decide +kernel
theorem dX7_gives_5 : decode cX7_gives 5 = .ok (.invokevirtual 140, 3) := by decide +kernel
theorem dX7_gives_8 : decode cX7_gives 8 = .ok (.ifCond .ne 5, 3) := by decide +kernel
theorem dX7_gives_11 : decode cX7_gives 11 = .ok (.iconst (-1), 1) := by decide +kernel
theorem dX7_gives_12 : decode cX7_gives 12 = .ok (.ireturn, 1) := by decide +kernel
theorem dX7_gives_13 : decode cX7_gives 13 = .ok (.aload_n 0, 1) := by decide +kernel
theorem dX7_gives_14 : decode cX7_gives 14 = .ok (.getfield 33, 3) := by decide +kernel
theorem dX7_gives_17 : decode cX7_gives 17 = .ok (.iload_n 1, 1) := by decide +kernel
theorem dX7_gives_18 : decode cX7_gives 18 = .ok (.invokevirtual 172, 3) := by decide +kernel
theorem dX7_gives_21 : decode cX7_gives 21 = .ok (.ifCond .ne 6, 3) := by decide +kernel
theorem dX7_gives_24 : decode cX7_gives 24 = .ok (.bipush (-9), 2) := by decide +kernel
theorem dX7_gives_26 : decode cX7_gives 26 = .ok (.ireturn, 1) := by decide +kernel
theorem dX7_gives_27 : decode cX7_gives 27 = .ok (.aload_n 0, 1) := by decide +kernel
theorem dX7_gives_28 : decode cX7_gives 28 = .ok (.getfield 33, 3) := by decide +kernel
theorem dX7_gives_31 : decode cX7_gives 31 = .ok (.iload_n 1, 1) := by decide +kernel
theorem dX7_gives_32 : decode cX7_gives 32 = .ok (.invokevirtual 196, 3) := by decide +kernel
theorem dX7_gives_35 : decode cX7_gives 35 = .ok (.istore_n 2, 1) := by decide +kernel
theorem dX7_gives_36 : decode cX7_gives 36 = .ok (.aload_n 0, 1) := by decide +kernel
theorem dX7_gives_37 : decode cX7_gives 37 = .ok (.getfield 33, 3) := by decide +kernel
theorem dX7_gives_40 : decode cX7_gives 40 = .ok (.getfield 208, 3) := by decide +kernel
theorem dX7_gives_43 : decode cX7_gives 43 = .ok (.iload_n 1, 1) := by decide +kernel
theorem dX7_gives_44 : decode cX7_gives 44 = .ok (.iaload, 1) := by decide +kernel
theorem dX7_gives_45 : decode cX7_gives 45 = .ok (.istore_n 3, 1) := by decide +kernel
theorem dX7_gives_46 : decode cX7_gives 46 = .ok (.iconst 1, 1) := by decide +kernel
theorem dX7_gives_47 : decode cX7_gives 47 = .ok (.istore 4, 2) := by decide +kernel
theorem dX7_gives_49 : decode cX7_gives 49 = .ok (.iload 4, 2) := by decide +kernel
theorem dX7_gives_51 : decode cX7_gives 51 = .ok (.bipush 40, 2) := by decide +kernel
theorem dX7_gives_53 : decode cX7_gives 53 = .ok (.if_icmp .gt 39, 3) := by decide +kernel
theorem dX7_gives_56 : decode cX7_gives 56 = .ok (.iload_n 2, 1) := by decide +kernel
theorem dX7_gives_57 : decode cX7_gives 57 = .ok (.aload_n 0, 1) := by decide +kernel
theorem dX7_gives_58 : decode cX7_gives 58 = .ok (.getfield 21, 3) := by decide +kernel
theorem dX7_gives_61 : decode cX7_gives 61 = .ok (.iload_n 1, 1) := by decide +kernel
theorem dX7_gives_62 : decode cX7_gives 62 = .ok (.iload_n 3, 1) := by decide +kernel
theorem dX7_gives_63 : decode cX7_gives 63 = .ok (.invokevirtual 166, 3) := by decide +kernel
theorem dX7_gives_66 : decode cX7_gives 66 = .ok (.if_icmp .le 6, 3) := by decide +kernel
theorem dX7_gives_69 : decode cX7_gives 69 = .ok (.iload 4, 2) := by decide +kernel
theorem dX7_gives_71 : decode cX7_gives 71 = .ok (.ireturn, 1) := by decide +kernel
theorem dX7_gives_72 : decode cX7_gives 72 = .ok (.iload_n 3, 1) := by decide +kernel
theorem dX7_gives_73 : decode cX7_gives 73 = .ok (.iload_n 2, 1) := by decide +kernel
theorem dX7_gives_74 : decode cX7_gives 74 = .ok (.ifCond .le 7, 3) := by decide +kernel
theorem dX7_gives_77 : decode cX7_gives 77 = .ok (.iconst 1, 1) := by decide +kernel
theorem dX7_gives_78 : decode cX7_gives 78 = .ok (.goto 4, 3) := by decide +kernel
theorem dX7_gives_81 : decode cX7_gives 81 = .ok (.iconst 0, 1) := by decide +kernel
theorem dX7_gives_82 : decode cX7_gives 82 = .ok (.invokestatic 211, 3) := by decide +kernel
theorem dX7_gives_85 : decode cX7_gives 85 = .ok (.istore_n 3, 1) := by decide +kernel
theorem dX7_gives_86 : decode cX7_gives 86 = .ok (.iinc 4 1, 3) := by decide +kernel
theorem dX7_gives_89 : decode cX7_gives 89 = .ok (.goto (-40), 3) := by decide +kernel
theorem dX7_gives_92 : decode cX7_gives 92 = .ok (.bipush (-9), 2) := by decide +kernel
theorem dX7_gives_94 : decode cX7_gives 94 = .ok (.ireturn, 1) := by decide +kernel
theorem dX7_later_0 : decode cX7_later 0 = .ok (.iload_n 1, 1) := by decide +kernel
theorem dX7_later_1 : decode cX7_later 1 = .ok (.ifCond .lt 9, 3) := by decide +kernel
theorem dX7_later_4 : decode cX7_later 4 = .ok (.iload_n 1, 1) := by decide +kernel
theorem dX7_later_5 : decode cX7_later 5 = .ok (.bipush 40, 2) := by decide +kernel
theorem dX7_later_7 : decode cX7_later 7 = .ok (.if_icmp .le 5, 3) := by decide +kernel
theorem dX7_later_10 : decode cX7_later 10 = .ok (.iconst (-1), 1) := by decide +kernel
theorem dX7_later_11 : decode cX7_later 11 = .ok (.ireturn, 1) := by decide +kernel
theorem dX7_later_12 : decode cX7_later 12 = .ok (.aload_n 0, 1) := by decide +kernel
theorem dX7_later_13 : decode cX7_later 13 = .ok (.getfield 21, 3) := by decide +kernel
theorem dX7_later_16 : decode cX7_later 16 = .ok (.invokevirtual 182, 3) := by decide +kernel
theorem dX7_later_19 : decode cX7_later 19 = .ok (.ifCond .eq 6, 3) := by decide +kernel
theorem dX7_later_22 : decode cX7_later 22 = .ok (.bipush (-4), 2) := by decide +kernel
theorem dX7_later_24 : decode cX7_later 24 = .ok (.ireturn, 1) := by decide +kernel
theorem dX7_later_25 : decode cX7_later 25 = .ok (.aload_n 0, 1) := by decide +kernel
theorem dX7_later_26 : decode cX7_later 26 = .ok (.getfield 37, 3) := by decide +kernel
theorem dX7_later_29 : decode cX7_later 29 = .ok (.aload_n 0, 1) := by decide +kernel
theorem dX7_later_30 : decode cX7_later 30 = .ok (.getfield 33, 3) := by decide +kernel
theorem dX7_later_33 : decode cX7_later 33 = .ok (.invokevirtual 215, 3) := by decide +kernel
theorem dX7_later_36 : decode cX7_later 36 = .ok (.iconst 0, 1) := by decide +kernel
theorem dX7_later_37 : decode cX7_later 37 = .ok (.istore_n 2, 1) := by decide +kernel
theorem dX7_later_38 : decode cX7_later 38 = .ok (.iload_n 2, 1) := by decide +kernel
theorem dX7_later_39 : decode cX7_later 39 = .ok (.iload_n 1, 1) := by decide +kernel
theorem dX7_later_40 : decode cX7_later 40 = .ok (.if_icmp .ge 17, 3) := by decide +kernel
theorem dX7_later_43 : decode cX7_later 43 = .ok (.aload_n 0, 1) := by decide +kernel
theorem dX7_later_44 : decode cX7_later 44 = .ok (.getfield 37, 3) := by decide +kernel
theorem dX7_later_47 : decode cX7_later 47 = .ok (.invokevirtual 218, 3) := by decide +kernel
theorem dX7_later_50 : decode cX7_later 50 = .ok (.pop, 1) := by decide +kernel
theorem dX7_later_51 : decode cX7_later 51 = .ok (.iinc 2 1, 3) := by decide +kernel
theorem dX7_later_54 : decode cX7_later 54 = .ok (.goto (-16), 3) := by decide +kernel
theorem dX7_later_57 : decode cX7_later 57 = .ok (.aload_n 0, 1) := by decide +kernel
theorem dX7_later_58 : decode cX7_later 58 = .ok (.aload_n 0, 1) := by decide +kernel
theorem dX7_later_59 : decode cX7_later 59 = .ok (.getfield 37, 3) := by decide +kernel
theorem dX7_later_62 : decode cX7_later 62 = .ok (.getfield 221, 3) := by decide +kernel
theorem dX7_later_65 : decode cX7_later 65 = .ok (.invokevirtual 107, 3) := by decide +kernel
theorem dX7_later_68 : decode cX7_later 68 = .ok (.pop, 1) := by decide +kernel
theorem dX7_later_69 : decode cX7_later 69 = .ok (.aload_n 0, 1) := by decide +kernel
theorem dX7_later_70 : decode cX7_later 70 = .ok (.getfield 37, 3) := by decide +kernel
theorem dX7_later_73 : decode cX7_later 73 = .ok (.invokevirtual 224, 3) := by decide +kernel
theorem dX7_later_76 : decode cX7_later 76 = .ok (.ireturn, 1) := by decide +kernel
theorem dX7_best_0 : decode cX7_best 0 = .ok (.aload_n 0, 1) := by decide +kernel
theorem dX7_best_1 : decode cX7_best 1 = .ok (.iload_n 1, 1) := by decide +kernel
theorem dX7_best_2 : decode cX7_best 2 = .ok (.invokevirtual 85, 3) := by decide +kernel
theorem dX7_best_5 : decode cX7_best 5 = .ok (.astore_n 2, 1) := by decide +kernel
theorem dX7_best_6 : decode cX7_best 6 = .ok (.aload_n 2, 1) := by decide +kernel
theorem dX7_best_7 : decode cX7_best 7 = .ok (.ifnonnull 5, 3) := by decide +kernel
theorem dX7_best_10 : decode cX7_best 10 = .ok (.iconst (-1), 1) := by decide +kernel
theorem dX7_best_11 : decode cX7_best 11 = .ok (.ireturn, 1) := by decide +kernel
theorem dX7_best_12 : decode cX7_best 12 = .ok (.aload_n 0, 1) := by decide +kernel
theorem dX7_best_13 : decode cX7_best 13 = .ok (.getfield 21, 3) := by decide +kernel
theorem dX7_best_16 : decode cX7_best 16 = .ok (.invokevirtual 182, 3) := by decide +kernel
theorem dX7_best_19 : decode cX7_best 19 = .ok (.ifCond .eq 6, 3) := by decide +kernel
theorem dX7_best_22 : decode cX7_best 22 = .ok (.bipush (-4), 2) := by decide +kernel
theorem dX7_best_24 : decode cX7_best 24 = .ok (.ireturn, 1) := by decide +kernel
theorem dX7_best_25 : decode cX7_best 25 = .ok (.aload_n 0, 1) := by decide +kernel
theorem dX7_best_26 : decode cX7_best 26 = .ok (.getfield 54, 3) := by decide +kernel
theorem dX7_best_29 : decode cX7_best 29 = .ok (.aload_n 0, 1) := by decide +kernel
theorem dX7_best_30 : decode cX7_best 30 = .ok (.getfield 33, 3) := by decide +kernel
theorem dX7_best_33 : decode cX7_best 33 = .ok (.invokevirtual 227, 3) := by decide +kernel
theorem dX7_best_36 : decode cX7_best 36 = .ok (.aload_n 0, 1) := by decide +kernel
theorem dX7_best_37 : decode cX7_best 37 = .ok (.getfield 54, 3) := by decide +kernel
theorem dX7_best_40 : decode cX7_best 40 = .ok (.iconst 0, 1) := by decide +kernel
theorem dX7_best_41 : decode cX7_best 41 = .ok (.iconst 0, 1) := by decide +kernel
theorem dX7_best_42 : decode cX7_best 42 = .ok (.invokestatic 229, 3) := by decide +kernel
theorem dX7_best_45 : decode cX7_best 45 = .ok (.aload_n 2, 1) := by decide +kernel
theorem dX7_best_46 : decode cX7_best 46 = .ok (.aload_n 0, 1) := by decide +kernel
theorem dX7_best_47 : decode cX7_best 47 = .ok (.getfield 54, 3) := by decide +kernel
theorem dX7_best_50 : decode cX7_best 50 = .ok (.getfield 233, 3) := by decide +kernel
theorem dX7_best_53 : decode cX7_best 53 = .ok (.aload_n 0, 1) := by decide +kernel
theorem dX7_best_54 : decode cX7_best 54 = .ok (.getfield 21, 3) := by decide +kernel
theorem dX7_best_57 : decode cX7_best 57 = .ok (.getfield 236, 3) := by decide +kernel
theorem dX7_best_60 : decode cX7_best 60 = .ok (.invokevirtual 239, 3) := by decide +kernel
theorem dX7_best_63 : decode cX7_best 63 = .ok (.aload_n 0, 1) := by decide +kernel
theorem dX7_best_64 : decode cX7_best 64 = .ok (.getfield 54, 3) := by decide +kernel
theorem dX7_best_67 : decode cX7_best 67 = .ok (.getfield 242, 3) := by decide +kernel
theorem dX7_best_70 : decode cX7_best 70 = .ok (.ireturn, 1) := by decide +kernel
theorem dX7_fewest_0 : decode cX7_fewest 0 = .ok (.aload_n 0, 1) := by decide +kernel
theorem dX7_fewest_1 : decode cX7_fewest 1 = .ok (.getfield 21, 3) := by decide +kernel
theorem dX7_fewest_4 : decode cX7_fewest 4 = .ok (.invokevirtual 182, 3) := by decide +kernel
theorem dX7_fewest_7 : decode cX7_fewest 7 = .ok (.ifCond .eq 6, 3) := by decide +kernel
theorem dX7_fewest_10 : decode cX7_fewest 10 = .ok (.bipush (-4), 2) := by decide +kernel
theorem dX7_fewest_12 : decode cX7_fewest 12 = .ok (.ireturn, 1) := by decide +kernel
theorem dX7_fewest_13 : decode cX7_fewest 13 = .ok (.aload_n 0, 1) := by decide +kernel
theorem dX7_fewest_14 : decode cX7_fewest 14 = .ok (.getfield 54, 3) := by decide +kernel
theorem dX7_fewest_17 : decode cX7_fewest 17 = .ok (.aload_n 0, 1) := by decide +kernel
theorem dX7_fewest_18 : decode cX7_fewest 18 = .ok (.getfield 33, 3) := by decide +kernel
theorem dX7_fewest_21 : decode cX7_fewest 21 = .ok (.invokevirtual 227, 3) := by decide +kernel
theorem dX7_fewest_24 : decode cX7_fewest 24 = .ok (.aload_n 0, 1) := by decide +kernel
theorem dX7_fewest_25 : decode cX7_fewest 25 = .ok (.getfield 54, 3) := by decide +kernel
theorem dX7_fewest_28 : decode cX7_fewest 28 = .ok (.iconst 0, 1) := by decide +kernel
theorem dX7_fewest_29 : decode cX7_fewest 29 = .ok (.iconst 0, 1) := by decide +kernel
theorem dX7_fewest_30 : decode cX7_fewest 30 = .ok (.invokestatic 245, 3) := by decide +kernel
theorem dX7_fewest_33 : decode cX7_fewest 33 = .ok (.aload_n 0, 1) := by decide +kernel
theorem dX7_fewest_34 : decode cX7_fewest 34 = .ok (.getfield 54, 3) := by decide +kernel
theorem dX7_fewest_37 : decode cX7_fewest 37 = .ok (.getfield 248, 3) := by decide +kernel
theorem dX7_fewest_40 : decode cX7_fewest 40 = .ok (.bipush (-9), 2) := by decide +kernel
theorem dX7_fewest_42 : decode cX7_fewest 42 = .ok (.if_icmp .ne 6, 3) := by decide +kernel
theorem dX7_fewest_45 : decode cX7_fewest 45 = .ok (.bipush (-9), 2) := by decide +kernel
theorem dX7_fewest_47 : decode cX7_fewest 47 = .ok (.ireturn, 1) := by decide +kernel
theorem dX7_fewest_48 : decode cX7_fewest 48 = .ok (.aload_n 0, 1) := by decide +kernel
theorem dX7_fewest_49 : decode cX7_fewest 49 = .ok (.aload_n 0, 1) := by decide +kernel
theorem dX7_fewest_50 : decode cX7_fewest 50 = .ok (.getfield 54, 3) := by decide +kernel
theorem dX7_fewest_53 : decode cX7_fewest 53 = .ok (.getfield 248, 3) := by decide +kernel
theorem dX7_fewest_56 : decode cX7_fewest 56 = .ok (.invokevirtual 107, 3) := by decide +kernel
theorem dX7_fewest_59 : decode cX7_fewest 59 = .ok (.pop, 1) := by decide +kernel
theorem dX7_fewest_60 : decode cX7_fewest 60 = .ok (.aload_n 0, 1) := by decide +kernel
theorem dX7_fewest_61 : decode cX7_fewest 61 = .ok (.getfield 54, 3) := by decide +kernel
theorem dX7_fewest_64 : decode cX7_fewest 64 = .ok (.getfield 248, 3) := by decide +kernel
theorem dX7_fewest_67 : decode cX7_fewest 67 = .ok (.invokestatic 251, 3) := by decide +kernel
theorem dX7_fewest_70 : decode cX7_fewest 70 = .ok (.ireturn, 1) := by decide +kernel
theorem dX7_seated_0 : decode cX7_seated 0 = .ok (.aload_n 0, 1) := by decide +kernel
theorem dX7_seated_1 : decode cX7_seated 1 = .ok (.iload_n 1, 1) := by decide +kernel
theorem dX7_seated_2 : decode cX7_seated 2 = .ok (.invokevirtual 85, 3) := by decide +kernel
theorem dX7_seated_5 : decode cX7_seated 5 = .ok (.astore_n 2, 1) := by decide +kernel
theorem dX7_seated_6 : decode cX7_seated 6 = .ok (.aload_n 2, 1) := by decide +kernel
theorem dX7_seated_7 : decode cX7_seated 7 = .ok (.ifnonnull 5, 3) := by decide +kernel
theorem dX7_seated_10 : decode cX7_seated 10 = .ok (.iconst (-1), 1) := by decide +kernel
theorem dX7_seated_11 : decode cX7_seated 11 = .ok (.ireturn, 1) := by decide +kernel
theorem dX7_seated_12 : decode cX7_seated 12 = .ok (.aload_n 0, 1) := by decide +kernel
theorem dX7_seated_13 : decode cX7_seated 13 = .ok (.getfield 21, 3) := by decide +kernel
theorem dX7_seated_16 : decode cX7_seated 16 = .ok (.invokevirtual 182, 3) := by decide +kernel
theorem dX7_seated_19 : decode cX7_seated 19 = .ok (.ifCond .eq 6, 3) := by decide +kernel
theorem dX7_seated_22 : decode cX7_seated 22 = .ok (.bipush (-4), 2) := by decide +kernel
theorem dX7_seated_24 : decode cX7_seated 24 = .ok (.ireturn, 1) := by decide +kernel
theorem dX7_seated_25 : decode cX7_seated 25 = .ok (.aload_n 2, 1) := by decide +kernel
theorem dX7_seated_26 : decode cX7_seated 26 = .ok (.invokevirtual 110, 3) := by decide +kernel
theorem dX7_seated_29 : decode cX7_seated 29 = .ok (.ifCond .eq 9, 3) := by decide +kernel
theorem dX7_seated_32 : decode cX7_seated 32 = .ok (.aload_n 0, 1) := by decide +kernel
theorem dX7_seated_33 : decode cX7_seated 33 = .ok (.iconst 1, 1) := by decide +kernel
theorem dX7_seated_34 : decode cX7_seated 34 = .ok (.invokevirtual 97, 3) := by decide +kernel
theorem dX7_seated_37 : decode cX7_seated 37 = .ok (.ireturn, 1) := by decide +kernel
theorem dX7_seated_38 : decode cX7_seated 38 = .ok (.aload_n 2, 1) := by decide +kernel
theorem dX7_seated_39 : decode cX7_seated 39 = .ok (.getfield 114, 3) := by decide +kernel
theorem dX7_seated_42 : decode cX7_seated 42 = .ok (.aload_n 0, 1) := by decide +kernel
theorem dX7_seated_43 : decode cX7_seated 43 = .ok (.getfield 21, 3) := by decide +kernel
theorem dX7_seated_46 : decode cX7_seated 46 = .ok (.getfield 236, 3) := by decide +kernel
theorem dX7_seated_49 : decode cX7_seated 49 = .ok (.if_icmp .eq 9, 3) := by decide +kernel
theorem dX7_seated_52 : decode cX7_seated 52 = .ok (.aload_n 0, 1) := by decide +kernel
theorem dX7_seated_53 : decode cX7_seated 53 = .ok (.iconst 5, 1) := by decide +kernel
theorem dX7_seated_54 : decode cX7_seated 54 = .ok (.invokevirtual 97, 3) := by decide +kernel
theorem dX7_seated_57 : decode cX7_seated 57 = .ok (.ireturn, 1) := by decide +kernel
theorem dX7_seated_58 : decode cX7_seated 58 = .ok (.aload_n 0, 1) := by decide +kernel
theorem dX7_seated_59 : decode cX7_seated 59 = .ok (.getfield 37, 3) := by decide +kernel
theorem dX7_seated_62 : decode cX7_seated 62 = .ok (.aload_n 0, 1) := by decide +kernel
theorem dX7_seated_63 : decode cX7_seated 63 = .ok (.getfield 33, 3) := by decide +kernel
theorem dX7_seated_66 : decode cX7_seated 66 = .ok (.invokevirtual 215, 3) := by decide +kernel
theorem dX7_seated_69 : decode cX7_seated 69 = .ok (.iconst 0, 1) := by decide +kernel
theorem dX7_seated_70 : decode cX7_seated 70 = .ok (.istore_n 3, 1) := by decide +kernel
theorem dX7_seated_71 : decode cX7_seated 71 = .ok (.iload_n 3, 1) := by decide +kernel
theorem dX7_seated_72 : decode cX7_seated 72 = .ok (.aload_n 0, 1) := by decide +kernel
theorem dX7_seated_73 : decode cX7_seated 73 = .ok (.getfield 21, 3) := by decide +kernel
theorem dX7_seated_76 : decode cX7_seated 76 = .ok (.getfield 236, 3) := by decide +kernel
theorem dX7_seated_79 : decode cX7_seated 79 = .ok (.if_icmp .ge 52, 3) := by decide +kernel
theorem dX7_seated_82 : decode cX7_seated 82 = .ok (.aload_n 2, 1) := by decide +kernel
theorem dX7_seated_83 : decode cX7_seated 83 = .ok (.iload_n 3, 1) := by decide +kernel
theorem dX7_seated_84 : decode cX7_seated 84 = .ok (.invokevirtual 100, 3) := by decide +kernel
theorem dX7_seated_87 : decode cX7_seated 87 = .ok (.istore 4, 2) := by decide +kernel
theorem dX7_seated_89 : decode cX7_seated 89 = .ok (.iload 4, 2) := by decide +kernel
theorem dX7_seated_91 : decode cX7_seated 91 = .ok (.bipush (-9), 2) := by decide +kernel
theorem dX7_seated_93 : decode cX7_seated 93 = .ok (.if_icmp .eq 21, 3) := by decide +kernel
theorem dX7_seated_96 : decode cX7_seated 96 = .ok (.aload_n 0, 1) := by decide +kernel
theorem dX7_seated_97 : decode cX7_seated 97 = .ok (.getfield 33, 3) := by decide +kernel
theorem dX7_seated_100 : decode cX7_seated 100 = .ok (.iload 4, 2) := by decide +kernel
theorem dX7_seated_102 : decode cX7_seated 102 = .ok (.invokevirtual 172, 3) := by decide +kernel
theorem dX7_seated_105 : decode cX7_seated 105 = .ok (.ifCond .ne 9, 3) := by decide +kernel
theorem dX7_seated_108 : decode cX7_seated 108 = .ok (.aload_n 0, 1) := by decide +kernel
theorem dX7_seated_109 : decode cX7_seated 109 = .ok (.iconst 3, 1) := by decide +kernel
theorem dX7_seated_110 : decode cX7_seated 110 = .ok (.invokevirtual 97, 3) := by decide +kernel
theorem dX7_seated_113 : decode cX7_seated 113 = .ok (.ireturn, 1) := by decide +kernel
theorem dX7_seated_114 : decode cX7_seated 114 = .ok (.aload_n 0, 1) := by decide +kernel
theorem dX7_seated_115 : decode cX7_seated 115 = .ok (.getfield 37, 3) := by decide +kernel
theorem dX7_seated_118 : decode cX7_seated 118 = .ok (.getfield 256, 3) := by decide +kernel
theorem dX7_seated_121 : decode cX7_seated 121 = .ok (.iload_n 3, 1) := by decide +kernel
theorem dX7_seated_122 : decode cX7_seated 122 = .ok (.iload 4, 2) := by decide +kernel
theorem dX7_seated_124 : decode cX7_seated 124 = .ok (.iastore, 1) := by decide +kernel
theorem dX7_seated_125 : decode cX7_seated 125 = .ok (.iinc 3 1, 3) := by decide +kernel
theorem dX7_seated_128 : decode cX7_seated 128 = .ok (.goto (-57), 3) := by decide +kernel
theorem dX7_seated_131 : decode cX7_seated 131 = .ok (.aload_n 0, 1) := by decide +kernel
theorem dX7_seated_132 : decode cX7_seated 132 = .ok (.aload_n 0, 1) := by decide +kernel
theorem dX7_seated_133 : decode cX7_seated 133 = .ok (.getfield 37, 3) := by decide +kernel
theorem dX7_seated_136 : decode cX7_seated 136 = .ok (.invokevirtual 224, 3) := by decide +kernel
theorem dX7_seated_139 : decode cX7_seated 139 = .ok (.invokevirtual 107, 3) := by decide +kernel
theorem dX7_seated_142 : decode cX7_seated 142 = .ok (.pop, 1) := by decide +kernel
theorem dX7_seated_143 : decode cX7_seated 143 = .ok (.aload_n 0, 1) := by decide +kernel
theorem dX7_seated_144 : decode cX7_seated 144 = .ok (.getfield 37, 3) := by decide +kernel
theorem dX7_seated_147 : decode cX7_seated 147 = .ok (.invokevirtual 259, 3) := by decide +kernel
theorem dX7_seated_150 : decode cX7_seated 150 = .ok (.aload_n 0, 1) := by decide +kernel
theorem dX7_seated_151 : decode cX7_seated 151 = .ok (.getfield 37, 3) := by decide +kernel
theorem dX7_seated_154 : decode cX7_seated 154 = .ok (.invokevirtual 204, 3) := by decide +kernel
theorem dX7_seated_157 : decode cX7_seated 157 = .ok (.iconst (-1), 1) := by decide +kernel
theorem dX7_seated_158 : decode cX7_seated 158 = .ok (.ixor, 1) := by decide +kernel
theorem dX7_seated_159 : decode cX7_seated 159 = .ok (.iand, 1) := by decide +kernel
theorem dX7_seated_160 : decode cX7_seated 160 = .ok (.invokestatic 251, 3) := by decide +kernel
theorem dX7_seated_163 : decode cX7_seated 163 = .ok (.ireturn, 1) := by decide +kernel
theorem dX7_laces_0 : decode cX7_laces 0 = .ok (.aload_n 0, 1) := by decide +kernel
theorem dX7_laces_1 : decode cX7_laces 1 = .ok (.iload_n 2, 1) := by decide +kernel
theorem dX7_laces_2 : decode cX7_laces 2 = .ok (.invokevirtual 85, 3) := by decide +kernel
theorem dX7_laces_5 : decode cX7_laces 5 = .ok (.astore_n 3, 1) := by decide +kernel
theorem dX7_laces_6 : decode cX7_laces 6 = .ok (.aload_n 3, 1) := by decide +kernel
theorem dX7_laces_7 : decode cX7_laces 7 = .ok (.ifnull 12, 3) := by decide +kernel
theorem dX7_laces_10 : decode cX7_laces 10 = .ok (.iload_n 1, 1) := by decide +kernel
theorem dX7_laces_11 : decode cX7_laces 11 = .ok (.ifCond .lt 8, 3) := by decide +kernel
theorem dX7_laces_14 : decode cX7_laces 14 = .ok (.iload_n 1, 1) := by decide +kernel
theorem dX7_laces_15 : decode cX7_laces 15 = .ok (.iconst 5, 1) := by decide +kernel
theorem dX7_laces_16 : decode cX7_laces 16 = .ok (.if_icmp .le 5, 3) := by decide +kernel
theorem dX7_laces_19 : decode cX7_laces 19 = .ok (.iconst (-1), 1) := by decide +kernel
theorem dX7_laces_20 : decode cX7_laces 20 = .ok (.ireturn, 1) := by decide +kernel
theorem dX7_laces_21 : decode cX7_laces 21 = .ok (.aload_n 0, 1) := by decide +kernel
theorem dX7_laces_22 : decode cX7_laces 22 = .ok (.getfield 21, 3) := by decide +kernel
theorem dX7_laces_25 : decode cX7_laces 25 = .ok (.invokevirtual 182, 3) := by decide +kernel
theorem dX7_laces_28 : decode cX7_laces 28 = .ok (.ifCond .eq 6, 3) := by decide +kernel
theorem dX7_laces_31 : decode cX7_laces 31 = .ok (.bipush (-4), 2) := by decide +kernel
theorem dX7_laces_33 : decode cX7_laces 33 = .ok (.ireturn, 1) := by decide +kernel
theorem dX7_laces_34 : decode cX7_laces 34 = .ok (.aload_n 0, 1) := by decide +kernel
theorem dX7_laces_35 : decode cX7_laces 35 = .ok (.getfield 61, 3) := by decide +kernel
theorem dX7_laces_38 : decode cX7_laces 38 = .ok (.aload_n 0, 1) := by decide +kernel
theorem dX7_laces_39 : decode cX7_laces 39 = .ok (.getfield 33, 3) := by decide +kernel
theorem dX7_laces_42 : decode cX7_laces 42 = .ok (.iload_n 1, 1) := by decide +kernel
theorem dX7_laces_43 : decode cX7_laces 43 = .ok (.invokevirtual 262, 3) := by decide +kernel
theorem dX7_laces_46 : decode cX7_laces 46 = .ok (.aload_n 0, 1) := by decide +kernel
theorem dX7_laces_47 : decode cX7_laces 47 = .ok (.getfield 61, 3) := by decide +kernel
theorem dX7_laces_50 : decode cX7_laces 50 = .ok (.iconst 0, 1) := by decide +kernel
theorem dX7_laces_51 : decode cX7_laces 51 = .ok (.iconst 0, 1) := by decide +kernel
theorem dX7_laces_52 : decode cX7_laces 52 = .ok (.invokestatic 265, 3) := by decide +kernel
theorem dX7_laces_55 : decode cX7_laces 55 = .ok (.aload_n 0, 1) := by decide +kernel
theorem dX7_laces_56 : decode cX7_laces 56 = .ok (.getfield 61, 3) := by decide +kernel
theorem dX7_laces_59 : decode cX7_laces 59 = .ok (.getfield 269, 3) := by decide +kernel
theorem dX7_laces_62 : decode cX7_laces 62 = .ok (.iload_n 1, 1) := by decide +kernel
theorem dX7_laces_63 : decode cX7_laces 63 = .ok (.if_icmp .le 6, 3) := by decide +kernel
theorem dX7_laces_66 : decode cX7_laces 66 = .ok (.bipush (-9), 2) := by decide +kernel
theorem dX7_laces_68 : decode cX7_laces 68 = .ok (.ireturn, 1) := by decide +kernel
theorem dX7_laces_69 : decode cX7_laces 69 = .ok (.aload_n 3, 1) := by decide +kernel
theorem dX7_laces_70 : decode cX7_laces 70 = .ok (.aload_n 0, 1) := by decide +kernel
theorem dX7_laces_71 : decode cX7_laces 71 = .ok (.getfield 61, 3) := by decide +kernel
theorem dX7_laces_74 : decode cX7_laces 74 = .ok (.getfield 272, 3) := by decide +kernel
theorem dX7_laces_77 : decode cX7_laces 77 = .ok (.iload_n 1, 1) := by decide +kernel
theorem dX7_laces_78 : decode cX7_laces 78 = .ok (.invokevirtual 239, 3) := by decide +kernel
theorem dX7_laces_81 : decode cX7_laces 81 = .ok (.aload_n 0, 1) := by decide +kernel
theorem dX7_laces_82 : decode cX7_laces 82 = .ok (.getfield 61, 3) := by decide +kernel
theorem dX7_laces_85 : decode cX7_laces 85 = .ok (.getfield 269, 3) := by decide +kernel
theorem dX7_laces_88 : decode cX7_laces 88 = .ok (.ireturn, 1) := by decide +kernel
theorem dX7_strengths_0 : decode cX7_strengths 0 = .ok (.aload_n 0, 1) := by decide +kernel
theorem dX7_strengths_1 : decode cX7_strengths 1 = .ok (.iload_n 2, 1) := by decide +kernel
theorem dX7_strengths_2 : decode cX7_strengths 2 = .ok (.invokevirtual 85, 3) := by decide +kernel
theorem dX7_strengths_5 : decode cX7_strengths 5 = .ok (.astore_n 3, 1) := by decide +kernel
theorem dX7_strengths_6 : decode cX7_strengths 6 = .ok (.aload_n 3, 1) := by decide +kernel
theorem dX7_strengths_7 : decode cX7_strengths 7 = .ok (.ifnull 14, 3) := by decide +kernel
theorem dX7_strengths_10 : decode cX7_strengths 10 = .ok (.aload_n 0, 1) := by decide +kernel
theorem dX7_strengths_11 : decode cX7_strengths 11 = .ok (.getfield 21, 3) := by decide +kernel
theorem dX7_strengths_14 : decode cX7_strengths 14 = .ok (.iload_n 1, 1) := by decide +kernel
theorem dX7_strengths_15 : decode cX7_strengths 15 = .ok (.invokevirtual 140, 3) := by decide +kernel
theorem dX7_strengths_18 : decode cX7_strengths 18 = .ok (.ifCond .ne 5, 3) := by decide +kernel
theorem dX7_strengths_21 : decode cX7_strengths 21 = .ok (.iconst (-1), 1) := by decide +kernel
theorem dX7_strengths_22 : decode cX7_strengths 22 = .ok (.ireturn, 1) := by decide +kernel
theorem dX7_strengths_23 : decode cX7_strengths 23 = .ok (.aload_n 3, 1) := by decide +kernel
theorem dX7_strengths_24 : decode cX7_strengths 24 = .ok (.invokestatic 273, 3) := by decide +kernel
theorem dX7_strengths_27 : decode cX7_strengths 27 = .ok (.istore 4, 2) := by decide +kernel
theorem dX7_strengths_29 : decode cX7_strengths 29 = .ok (.iload 4, 2) := by decide +kernel
theorem dX7_strengths_31 : decode cX7_strengths 31 = .ok (.ifCond .eq 10, 3) := by decide +kernel
theorem dX7_strengths_34 : decode cX7_strengths 34 = .ok (.aload_n 0, 1) := by decide +kernel
theorem dX7_strengths_35 : decode cX7_strengths 35 = .ok (.iload 4, 2) := by decide +kernel
theorem dX7_strengths_37 : decode cX7_strengths 37 = .ok (.invokevirtual 97, 3) := by decide +kernel
theorem dX7_strengths_40 : decode cX7_strengths 40 = .ok (.ireturn, 1) := by decide +kernel
theorem dX7_strengths_41 : decode cX7_strengths 41 = .ok (.iconst 0, 1) := by decide +kernel
theorem dX7_strengths_42 : decode cX7_strengths 42 = .ok (.istore 5, 2) := by decide +kernel
theorem dX7_strengths_44 : decode cX7_strengths 44 = .ok (.bipush (-9), 2) := by decide +kernel
theorem dX7_strengths_46 : decode cX7_strengths 46 = .ok (.istore 6, 2) := by decide +kernel
theorem dX7_strengths_48 : decode cX7_strengths 48 = .ok (.iconst 0, 1) := by decide +kernel
theorem dX7_strengths_49 : decode cX7_strengths 49 = .ok (.istore 7, 2) := by decide +kernel
theorem dX7_strengths_51 : decode cX7_strengths 51 = .ok (.iload 7, 2) := by decide +kernel
theorem dX7_strengths_53 : decode cX7_strengths 53 = .ok (.bipush 60, 2) := by decide +kernel
theorem dX7_strengths_55 : decode cX7_strengths 55 = .ok (.if_icmp .gt 55, 3) := by decide +kernel
theorem dX7_strengths_58 : decode cX7_strengths 58 = .ok (.aload_n 3, 1) := by decide +kernel
theorem dX7_strengths_59 : decode cX7_strengths 59 = .ok (.aload_n 0, 1) := by decide +kernel
theorem dX7_strengths_60 : decode cX7_strengths 60 = .ok (.getfield 21, 3) := by decide +kernel
theorem dX7_strengths_63 : decode cX7_strengths 63 = .ok (.getfield 154, 3) := by decide +kernel
theorem dX7_strengths_66 : decode cX7_strengths 66 = .ok (.iload_n 1, 1) := by decide +kernel
theorem dX7_strengths_67 : decode cX7_strengths 67 = .ok (.iaload, 1) := by decide +kernel
theorem dX7_strengths_68 : decode cX7_strengths 68 = .ok (.aload_n 0, 1) := by decide +kernel
theorem dX7_strengths_69 : decode cX7_strengths 69 = .ok (.getfield 21, 3) := by decide +kernel
theorem dX7_strengths_72 : decode cX7_strengths 72 = .ok (.getfield 276, 3) := by decide +kernel
theorem dX7_strengths_75 : decode cX7_strengths 75 = .ok (.iload_n 1, 1) := by decide +kernel
theorem dX7_strengths_76 : decode cX7_strengths 76 = .ok (.iaload, 1) := by decide +kernel
theorem dX7_strengths_77 : decode cX7_strengths 77 = .ok (.iload 7, 2) := by decide +kernel
theorem dX7_strengths_79 : decode cX7_strengths 79 = .ok (.invokestatic 279, 3) := by decide +kernel
theorem dX7_strengths_82 : decode cX7_strengths 82 = .ok (.ifCond .eq 22, 3) := by decide +kernel
theorem dX7_strengths_85 : decode cX7_strengths 85 = .ok (.iinc 5 1, 3) := by decide +kernel
theorem dX7_strengths_88 : decode cX7_strengths 88 = .ok (.iload 6, 2) := by decide +kernel
theorem dX7_strengths_90 : decode cX7_strengths 90 = .ok (.bipush (-9), 2) := by decide +kernel
theorem dX7_strengths_92 : decode cX7_strengths 92 = .ok (.if_icmp .ne 8, 3) := by decide +kernel
theorem dX7_strengths_95 : decode cX7_strengths 95 = .ok (.iload 7, 2) := by decide +kernel
theorem dX7_strengths_97 : decode cX7_strengths 97 = .ok (.goto 5, 3) := by decide +kernel
theorem dX7_strengths_100 : decode cX7_strengths 100 = .ok (.iload 6, 2) := by decide +kernel
theorem dX7_strengths_102 : decode cX7_strengths 102 = .ok (.istore 6, 2) := by decide +kernel
theorem dX7_strengths_104 : decode cX7_strengths 104 = .ok (.iinc 7 1, 3) := by decide +kernel
theorem dX7_strengths_107 : decode cX7_strengths 107 = .ok (.goto (-56), 3) := by decide +kernel
theorem dX7_strengths_110 : decode cX7_strengths 110 = .ok (.iload 5, 2) := by decide +kernel
theorem dX7_strengths_112 : decode cX7_strengths 112 = .ok (.ifCond .ne 6, 3) := by decide +kernel
theorem dX7_strengths_115 : decode cX7_strengths 115 = .ok (.bipush (-9), 2) := by decide +kernel
theorem dX7_strengths_117 : decode cX7_strengths 117 = .ok (.ireturn, 1) := by decide +kernel
theorem dX7_strengths_118 : decode cX7_strengths 118 = .ok (.aload_n 0, 1) := by decide +kernel
theorem dX7_strengths_119 : decode cX7_strengths 119 = .ok (.iload 6, 2) := by decide +kernel
theorem dX7_strengths_121 : decode cX7_strengths 121 = .ok (.invokevirtual 107, 3) := by decide +kernel
theorem dX7_strengths_124 : decode cX7_strengths 124 = .ok (.pop, 1) := by decide +kernel
theorem dX7_strengths_125 : decode cX7_strengths 125 = .ok (.iload 5, 2) := by decide +kernel
theorem dX7_strengths_127 : decode cX7_strengths 127 = .ok (.ireturn, 1) := by decide +kernel
theorem dX7_kinds_0 : decode cX7_kinds 0 = .ok (.aload_n 0, 1) := by decide +kernel
theorem dX7_kinds_1 : decode cX7_kinds 1 = .ok (.iload_n 2, 1) := by decide +kernel
theorem dX7_kinds_2 : decode cX7_kinds 2 = .ok (.invokevirtual 85, 3) := by decide +kernel
theorem dX7_kinds_5 : decode cX7_kinds 5 = .ok (.astore_n 3, 1) := by decide +kernel
theorem dX7_kinds_6 : decode cX7_kinds 6 = .ok (.aload_n 3, 1) := by decide +kernel
theorem dX7_kinds_7 : decode cX7_kinds 7 = .ok (.ifnull 14, 3) := by decide +kernel
theorem dX7_kinds_10 : decode cX7_kinds 10 = .ok (.aload_n 0, 1) := by decide +kernel
theorem dX7_kinds_11 : decode cX7_kinds 11 = .ok (.getfield 21, 3) := by decide +kernel
theorem dX7_kinds_14 : decode cX7_kinds 14 = .ok (.iload_n 1, 1) := by decide +kernel
theorem dX7_kinds_15 : decode cX7_kinds 15 = .ok (.invokevirtual 140, 3) := by decide +kernel
theorem dX7_kinds_18 : decode cX7_kinds 18 = .ok (.ifCond .ne 5, 3) := by decide +kernel
theorem dX7_kinds_21 : decode cX7_kinds 21 = .ok (.iconst (-1), 1) := by decide +kernel
theorem dX7_kinds_22 : decode cX7_kinds 22 = .ok (.ireturn, 1) := by decide +kernel
theorem dX7_kinds_23 : decode cX7_kinds 23 = .ok (.aload_n 3, 1) := by decide +kernel
theorem dX7_kinds_24 : decode cX7_kinds 24 = .ok (.invokestatic 273, 3) := by decide +kernel
theorem dX7_kinds_27 : decode cX7_kinds 27 = .ok (.istore 4, 2) := by decide +kernel
theorem dX7_kinds_29 : decode cX7_kinds 29 = .ok (.iload 4, 2) := by decide +kernel
theorem dX7_kinds_31 : decode cX7_kinds 31 = .ok (.ifCond .eq 12, 3) := by decide +kernel
theorem dX7_kinds_34 : decode cX7_kinds 34 = .ok (.aload_n 0, 1) := by decide +kernel
theorem dX7_kinds_35 : decode cX7_kinds 35 = .ok (.iload 4, 2) := by decide +kernel
theorem dX7_kinds_37 : decode cX7_kinds 37 = .ok (.invokevirtual 97, 3) := by decide +kernel
theorem dX7_kinds_40 : decode cX7_kinds 40 = .ok (.goto 9, 3) := by decide +kernel
theorem dX7_kinds_43 : decode cX7_kinds 43 = .ok (.aload_n 0, 1) := by decide +kernel
theorem dX7_kinds_44 : decode cX7_kinds 44 = .ok (.aload_n 3, 1) := by decide +kernel
theorem dX7_kinds_45 : decode cX7_kinds 45 = .ok (.iload_n 1, 1) := by decide +kernel
theorem dX7_kinds_46 : decode cX7_kinds 46 = .ok (.invokevirtual 283, 3) := by decide +kernel
theorem dX7_kinds_49 : decode cX7_kinds 49 = .ok (.ireturn, 1) := by decide +kernel
theorem dX7_test_0 : decode cX7_test 0 = .ok (.aload_n 0, 1) := by decide +kernel
theorem dX7_test_1 : decode cX7_test 1 = .ok (.iload_n 2, 1) := by decide +kernel
theorem dX7_test_2 : decode cX7_test 2 = .ok (.invokevirtual 85, 3) := by decide +kernel
theorem dX7_test_5 : decode cX7_test 5 = .ok (.astore_n 3, 1) := by decide +kernel
theorem dX7_test_6 : decode cX7_test 6 = .ok (.aload_n 3, 1) := by decide +kernel
theorem dX7_test_7 : decode cX7_test 7 = .ok (.ifnull 14, 3) := by decide +kernel
theorem dX7_test_10 : decode cX7_test 10 = .ok (.aload_n 0, 1) := by decide +kernel
theorem dX7_test_11 : decode cX7_test 11 = .ok (.getfield 21, 3) := by decide +kernel
theorem dX7_test_14 : decode cX7_test 14 = .ok (.iload_n 1, 1) := by decide +kernel
theorem dX7_test_15 : decode cX7_test 15 = .ok (.invokevirtual 140, 3) := by decide +kernel
theorem dX7_test_18 : decode cX7_test 18 = .ok (.ifCond .ne 5, 3) := by decide +kernel
theorem dX7_test_21 : decode cX7_test 21 = .ok (.iconst (-1), 1) := by decide +kernel
theorem dX7_test_22 : decode cX7_test 22 = .ok (.ireturn, 1) := by decide +kernel
theorem dX7_test_23 : decode cX7_test 23 = .ok (.aload_n 3, 1) := by decide +kernel
theorem dX7_test_24 : decode cX7_test 24 = .ok (.invokestatic 273, 3) := by decide +kernel
theorem dX7_test_27 : decode cX7_test 27 = .ok (.istore 4, 2) := by decide +kernel
theorem dX7_test_29 : decode cX7_test 29 = .ok (.iload 4, 2) := by decide +kernel
theorem dX7_test_31 : decode cX7_test 31 = .ok (.ifCond .eq 10, 3) := by decide +kernel
theorem dX7_test_34 : decode cX7_test 34 = .ok (.aload_n 0, 1) := by decide +kernel
theorem dX7_test_35 : decode cX7_test 35 = .ok (.iload 4, 2) := by decide +kernel
theorem dX7_test_37 : decode cX7_test 37 = .ok (.invokevirtual 97, 3) := by decide +kernel
theorem dX7_test_40 : decode cX7_test 40 = .ok (.ireturn, 1) := by decide +kernel
theorem dX7_test_41 : decode cX7_test 41 = .ok (.aload_n 0, 1) := by decide +kernel
theorem dX7_test_42 : decode cX7_test 42 = .ok (.aload_n 3, 1) := by decide +kernel
theorem dX7_test_43 : decode cX7_test 43 = .ok (.iload_n 1, 1) := by decide +kernel
theorem dX7_test_44 : decode cX7_test 44 = .ok (.invokevirtual 283, 3) := by decide +kernel
theorem dX7_test_47 : decode cX7_test 47 = .ok (.istore 5, 2) := by decide +kernel
theorem dX7_test_49 : decode cX7_test 49 = .ok (.iload 5, 2) := by decide +kernel
theorem dX7_test_51 : decode cX7_test 51 = .ok (.ifCond .ne 6, 3) := by decide +kernel
theorem dX7_test_54 : decode cX7_test 54 = .ok (.bipush (-9), 2) := by decide +kernel
theorem dX7_test_56 : decode cX7_test 56 = .ok (.ireturn, 1) := by decide +kernel
theorem dX7_test_57 : decode cX7_test 57 = .ok (.iconst 0, 1) := by decide +kernel
theorem dX7_test_58 : decode cX7_test 58 = .ok (.istore 6, 2) := by decide +kernel
theorem dX7_test_60 : decode cX7_test 60 = .ok (.bipush 7, 2) := by decide +kernel
theorem dX7_test_62 : decode cX7_test 62 = .ok (.istore 7, 2) := by decide +kernel
theorem dX7_test_64 : decode cX7_test 64 = .ok (.iconst 0, 1) := by decide +kernel
theorem dX7_test_65 : decode cX7_test 65 = .ok (.istore 8, 2) := by decide +kernel
theorem dX7_test_67 : decode cX7_test 67 = .ok (.iload 8, 2) := by decide +kernel
theorem dX7_test_69 : decode cX7_test 69 = .ok (.bipush 99, 2) := by decide +kernel
theorem dX7_test_71 : decode cX7_test 71 = .ok (.if_icmp .gt 53, 3) := by decide +kernel
theorem dX7_test_74 : decode cX7_test 74 = .ok (.aload_n 0, 1) := by decide +kernel
theorem dX7_test_75 : decode cX7_test 75 = .ok (.getfield 33, 3) := by decide +kernel
theorem dX7_test_78 : decode cX7_test 78 = .ok (.iload_n 1, 1) := by decide +kernel
theorem dX7_test_79 : decode cX7_test 79 = .ok (.iload 5, 2) := by decide +kernel
theorem dX7_test_81 : decode cX7_test 81 = .ok (.iload 8, 2) := by decide +kernel
theorem dX7_test_83 : decode cX7_test 83 = .ok (.invokevirtual 287, 3) := by decide +kernel
theorem dX7_test_86 : decode cX7_test 86 = .ok (.istore 9, 2) := by decide +kernel
theorem dX7_test_88 : decode cX7_test 88 = .ok (.iload 9, 2) := by decide +kernel
theorem dX7_test_90 : decode cX7_test 90 = .ok (.iload 5, 2) := by decide +kernel
theorem dX7_test_92 : decode cX7_test 92 = .ok (.invokestatic 251, 3) := by decide +kernel
theorem dX7_test_95 : decode cX7_test 95 = .ok (.iload 9, 2) := by decide +kernel
theorem dX7_test_97 : decode cX7_test 97 = .ok (.isub, 1) := by decide +kernel
theorem dX7_test_98 : decode cX7_test 98 = .ok (.invokestatic 199, 3) := by decide +kernel
theorem dX7_test_101 : decode cX7_test 101 = .ok (.istore 10, 2) := by decide +kernel
theorem dX7_test_103 : decode cX7_test 103 = .ok (.iload 10, 2) := by decide +kernel
theorem dX7_test_105 : decode cX7_test 105 = .ok (.iload 7, 2) := by decide +kernel
theorem dX7_test_107 : decode cX7_test 107 = .ok (.if_icmp .ge 11, 3) := by decide +kernel
theorem dX7_test_110 : decode cX7_test 110 = .ok (.iload 10, 2) := by decide +kernel
theorem dX7_test_112 : decode cX7_test 112 = .ok (.istore 7, 2) := by decide +kernel
theorem dX7_test_114 : decode cX7_test 114 = .ok (.iload 8, 2) := by decide +kernel
theorem dX7_test_116 : decode cX7_test 116 = .ok (.istore 6, 2) := by decide +kernel
theorem dX7_test_118 : decode cX7_test 118 = .ok (.iinc 8 1, 3) := by decide +kernel
theorem dX7_test_121 : decode cX7_test 121 = .ok (.goto (-54), 3) := by decide +kernel
theorem dX7_test_124 : decode cX7_test 124 = .ok (.aload_n 0, 1) := by decide +kernel
theorem dX7_test_125 : decode cX7_test 125 = .ok (.iload 7, 2) := by decide +kernel
theorem dX7_test_127 : decode cX7_test 127 = .ok (.invokevirtual 107, 3) := by decide +kernel
theorem dX7_test_130 : decode cX7_test 130 = .ok (.pop, 1) := by decide +kernel
theorem dX7_test_131 : decode cX7_test 131 = .ok (.iload 6, 2) := by decide +kernel
theorem dX7_test_133 : decode cX7_test 133 = .ok (.ireturn, 1) := by decide +kernel
theorem dX7_duel_0 : decode cX7_duel 0 = .ok (.iload_n 1, 1) := by decide +kernel
theorem dX7_duel_1 : decode cX7_duel 1 = .ok (.ifCond .lt 8, 3) := by decide +kernel
theorem dX7_duel_4 : decode cX7_duel 4 = .ok (.iload_n 1, 1) := by decide +kernel
theorem dX7_duel_5 : decode cX7_duel 5 = .ok (.iconst 4, 1) := by decide +kernel
theorem dX7_duel_6 : decode cX7_duel 6 = .ok (.if_icmp .le 5, 3) := by decide +kernel
theorem dX7_duel_9 : decode cX7_duel 9 = .ok (.iconst (-1), 1) := by decide +kernel
theorem dX7_duel_10 : decode cX7_duel 10 = .ok (.ireturn, 1) := by decide +kernel
theorem dX7_duel_11 : decode cX7_duel 11 = .ok (.aload_n 0, 1) := by decide +kernel
theorem dX7_duel_12 : decode cX7_duel 12 = .ok (.getfield 21, 3) := by decide +kernel
theorem dX7_duel_15 : decode cX7_duel 15 = .ok (.invokevirtual 182, 3) := by decide +kernel
theorem dX7_duel_18 : decode cX7_duel 18 = .ok (.ifCond .eq 6, 3) := by decide +kernel
theorem dX7_duel_21 : decode cX7_duel 21 = .ok (.bipush (-4), 2) := by decide +kernel
theorem dX7_duel_23 : decode cX7_duel 23 = .ok (.ireturn, 1) := by decide +kernel
theorem dX7_duel_24 : decode cX7_duel 24 = .ok (.aload_n 0, 1) := by decide +kernel
theorem dX7_duel_25 : decode cX7_duel 25 = .ok (.getfield 68, 3) := by decide +kernel
theorem dX7_duel_28 : decode cX7_duel 28 = .ok (.aload_n 0, 1) := by decide +kernel
theorem dX7_duel_29 : decode cX7_duel 29 = .ok (.getfield 33, 3) := by decide +kernel
theorem dX7_duel_32 : decode cX7_duel 32 = .ok (.invokevirtual 290, 3) := by decide +kernel
theorem dX7_duel_35 : decode cX7_duel 35 = .ok (.aload_n 0, 1) := by decide +kernel
theorem dX7_duel_36 : decode cX7_duel 36 = .ok (.getfield 68, 3) := by decide +kernel
theorem dX7_duel_39 : decode cX7_duel 39 = .ok (.iload_n 1, 1) := by decide +kernel
theorem dX7_duel_40 : decode cX7_duel 40 = .ok (.iconst (-1), 1) := by decide +kernel
theorem dX7_duel_41 : decode cX7_duel 41 = .ok (.sipush 1000, 3) := by decide +kernel
theorem dX7_duel_44 : decode cX7_duel 44 = .ok (.invokestatic 291, 3) := by decide +kernel
theorem dX7_duel_47 : decode cX7_duel 47 = .ok (.ireturn, 1) := by decide +kernel
theorem dX7_odds_0 : decode cX7_odds 0 = .ok (.aload_n 0, 1) := by decide +kernel
theorem dX7_odds_1 : decode cX7_odds 1 = .ok (.getfield 21, 3) := by decide +kernel
theorem dX7_odds_4 : decode cX7_odds 4 = .ok (.iload_n 1, 1) := by decide +kernel
theorem dX7_odds_5 : decode cX7_odds 5 = .ok (.invokevirtual 148, 3) := by decide +kernel
theorem dX7_odds_8 : decode cX7_odds 8 = .ok (.ifCond .eq 13, 3) := by decide +kernel
theorem dX7_odds_11 : decode cX7_odds 11 = .ok (.iload_n 2, 1) := by decide +kernel
theorem dX7_odds_12 : decode cX7_odds 12 = .ok (.ifCond .lt 9, 3) := by decide +kernel
theorem dX7_odds_15 : decode cX7_odds 15 = .ok (.iload_n 2, 1) := by decide +kernel
theorem dX7_odds_16 : decode cX7_odds 16 = .ok (.bipush 12, 2) := by decide +kernel
theorem dX7_odds_18 : decode cX7_odds 18 = .ok (.if_icmp .le 5, 3) := by decide +kernel
theorem dX7_odds_21 : decode cX7_odds 21 = .ok (.iconst (-1), 1) := by decide +kernel
theorem dX7_odds_22 : decode cX7_odds 22 = .ok (.ireturn, 1) := by decide +kernel
theorem dX7_odds_23 : decode cX7_odds 23 = .ok (.aload_n 0, 1) := by decide +kernel
theorem dX7_odds_24 : decode cX7_odds 24 = .ok (.aload_n 0, 1) := by decide +kernel
theorem dX7_odds_25 : decode cX7_odds 25 = .ok (.getfield 33, 3) := by decide +kernel
theorem dX7_odds_28 : decode cX7_odds 28 = .ok (.aload_n 0, 1) := by decide +kernel
theorem dX7_odds_29 : decode cX7_odds 29 = .ok (.getfield 33, 3) := by decide +kernel
theorem dX7_odds_32 : decode cX7_odds 32 = .ok (.getfield 256, 3) := by decide +kernel
theorem dX7_odds_35 : decode cX7_odds 35 = .ok (.iload_n 1, 1) := by decide +kernel
theorem dX7_odds_36 : decode cX7_odds 36 = .ok (.iaload, 1) := by decide +kernel
theorem dX7_odds_37 : decode cX7_odds 37 = .ok (.invokevirtual 295, 3) := by decide +kernel
theorem dX7_odds_40 : decode cX7_odds 40 = .ok (.ifCond .eq 10, 3) := by decide +kernel
theorem dX7_odds_43 : decode cX7_odds 43 = .ok (.bipush 12, 2) := by decide +kernel
theorem dX7_odds_45 : decode cX7_odds 45 = .ok (.iload_n 2, 1) := by decide +kernel
theorem dX7_odds_46 : decode cX7_odds 46 = .ok (.isub, 1) := by decide +kernel
theorem dX7_odds_47 : decode cX7_odds 47 = .ok (.goto 4, 3) := by decide +kernel
theorem dX7_odds_50 : decode cX7_odds 50 = .ok (.iconst 0, 1) := by decide +kernel
theorem dX7_odds_51 : decode cX7_odds 51 = .ok (.invokevirtual 298, 3) := by decide +kernel
theorem dX7_odds_54 : decode cX7_odds 54 = .ok (.ireturn, 1) := by decide +kernel
theorem dX7_mid_0 : decode cX7_mid 0 = .ok (.iload_n 1, 1) := by decide +kernel
theorem dX7_mid_1 : decode cX7_mid 1 = .ok (.ifCond .lt 9, 3) := by decide +kernel
theorem dX7_mid_4 : decode cX7_mid 4 = .ok (.iload_n 1, 1) := by decide +kernel
theorem dX7_mid_5 : decode cX7_mid 5 = .ok (.bipush 12, 2) := by decide +kernel
theorem dX7_mid_7 : decode cX7_mid 7 = .ok (.if_icmp .le 5, 3) := by decide +kernel
theorem dX7_mid_10 : decode cX7_mid 10 = .ok (.iconst (-1), 1) := by decide +kernel
theorem dX7_mid_11 : decode cX7_mid 11 = .ok (.ireturn, 1) := by decide +kernel
theorem dX7_mid_12 : decode cX7_mid 12 = .ok (.aload_n 0, 1) := by decide +kernel
theorem dX7_mid_13 : decode cX7_mid 13 = .ok (.getfield 21, 3) := by decide +kernel
theorem dX7_mid_16 : decode cX7_mid 16 = .ok (.invokevirtual 182, 3) := by decide +kernel
theorem dX7_mid_19 : decode cX7_mid 19 = .ok (.ifCond .eq 8, 3) := by decide +kernel
theorem dX7_mid_22 : decode cX7_mid 22 = .ok (.bipush (-4), 2) := by decide +kernel
theorem dX7_mid_24 : decode cX7_mid 24 = .ok (.goto 19, 3) := by decide +kernel
theorem dX7_mid_27 : decode cX7_mid 27 = .ok (.aload_n 0, 1) := by decide +kernel
theorem dX7_mid_28 : decode cX7_mid 28 = .ok (.aload_n 0, 1) := by decide +kernel
theorem dX7_mid_29 : decode cX7_mid 29 = .ok (.getfield 33, 3) := by decide +kernel
theorem dX7_mid_32 : decode cX7_mid 32 = .ok (.invokevirtual 301, 3) := by decide +kernel
theorem dX7_mid_35 : decode cX7_mid 35 = .ok (.bipush 12, 2) := by decide +kernel
theorem dX7_mid_37 : decode cX7_mid 37 = .ok (.iload_n 1, 1) := by decide +kernel
theorem dX7_mid_38 : decode cX7_mid 38 = .ok (.isub, 1) := by decide +kernel
theorem dX7_mid_39 : decode cX7_mid 39 = .ok (.imul, 1) := by decide +kernel
theorem dX7_mid_40 : decode cX7_mid 40 = .ok (.invokevirtual 298, 3) := by decide +kernel
theorem dX7_mid_43 : decode cX7_mid 43 = .ok (.ireturn, 1) := by decide +kernel
theorem dX7_lots_0 : decode cX7_lots 0 = .ok (.iload_n 1, 1) := by decide +kernel
theorem dX7_lots_1 : decode cX7_lots 1 = .ok (.iconst 1, 1) := by decide +kernel
theorem dX7_lots_2 : decode cX7_lots 2 = .ok (.if_icmp .lt 21, 3) := by decide +kernel
theorem dX7_lots_5 : decode cX7_lots 5 = .ok (.iload_n 1, 1) := by decide +kernel
theorem dX7_lots_6 : decode cX7_lots 6 = .ok (.bipush 20, 2) := by decide +kernel
theorem dX7_lots_8 : decode cX7_lots 8 = .ok (.if_icmp .gt 15, 3) := by decide +kernel
theorem dX7_lots_11 : decode cX7_lots 11 = .ok (.iload_n 2, 1) := by decide +kernel
theorem dX7_lots_12 : decode cX7_lots 12 = .ok (.iconst 1, 1) := by decide +kernel
theorem dX7_lots_13 : decode cX7_lots 13 = .ok (.if_icmp .lt 10, 3) := by decide +kernel
theorem dX7_lots_16 : decode cX7_lots 16 = .ok (.iload_n 2, 1) := by decide +kernel
theorem dX7_lots_17 : decode cX7_lots 17 = .ok (.ldc_w 304, 3) := by decide +kernel
theorem dX7_lots_20 : decode cX7_lots 20 = .ok (.if_icmp .le 5, 3) := by decide +kernel
theorem dX7_lots_23 : decode cX7_lots 23 = .ok (.iconst (-1), 1) := by decide +kernel
theorem dX7_lots_24 : decode cX7_lots 24 = .ok (.ireturn, 1) := by decide +kernel
theorem dX7_lots_25 : decode cX7_lots 25 = .ok (.aload_n 0, 1) := by decide +kernel
theorem dX7_lots_26 : decode cX7_lots 26 = .ok (.getfield 21, 3) := by decide +kernel
theorem dX7_lots_29 : decode cX7_lots 29 = .ok (.invokevirtual 182, 3) := by decide +kernel
theorem dX7_lots_32 : decode cX7_lots 32 = .ok (.ifCond .eq 6, 3) := by decide +kernel
theorem dX7_lots_35 : decode cX7_lots 35 = .ok (.bipush (-4), 2) := by decide +kernel
theorem dX7_lots_37 : decode cX7_lots 37 = .ok (.ireturn, 1) := by decide +kernel
theorem dX7_lots_38 : decode cX7_lots 38 = .ok (.aload_n 0, 1) := by decide +kernel
theorem dX7_lots_39 : decode cX7_lots 39 = .ok (.getfield 43, 3) := by decide +kernel
theorem dX7_lots_42 : decode cX7_lots 42 = .ok (.getfield 81, 3) := by decide +kernel
theorem dX7_lots_45 : decode cX7_lots 45 = .ok (.iload_n 1, 1) := by decide +kernel
theorem dX7_lots_46 : decode cX7_lots 46 = .ok (.iadd, 1) := by decide +kernel
theorem dX7_lots_47 : decode cX7_lots 47 = .ok (.bipush 40, 2) := by decide +kernel
theorem dX7_lots_49 : decode cX7_lots 49 = .ok (.if_icmp .le 6, 3) := by decide +kernel
theorem dX7_lots_52 : decode cX7_lots 52 = .ok (.bipush (-2), 2) := by decide +kernel
theorem dX7_lots_54 : decode cX7_lots 54 = .ok (.ireturn, 1) := by decide +kernel
theorem dX7_lots_55 : decode cX7_lots 55 = .ok (.iload_n 2, 1) := by decide +kernel
theorem dX7_lots_56 : decode cX7_lots 56 = .ok (.i2l, 1) := by decide +kernel
theorem dX7_lots_57 : decode cX7_lots 57 = .ok (.lstore_n 3, 1) := by decide +kernel
theorem dX7_lots_58 : decode cX7_lots 58 = .ok (.iconst 0, 1) := by decide +kernel
theorem dX7_lots_59 : decode cX7_lots 59 = .ok (.istore 5, 2) := by decide +kernel
theorem dX7_lots_61 : decode cX7_lots 61 = .ok (.iload 5, 2) := by decide +kernel
theorem dX7_lots_63 : decode cX7_lots 63 = .ok (.iload_n 1, 1) := by decide +kernel
theorem dX7_lots_64 : decode cX7_lots 64 = .ok (.if_icmp .ge 30, 3) := by decide +kernel
theorem dX7_lots_67 : decode cX7_lots 67 = .ok (.lload_n 3, 1) := by decide +kernel
theorem dX7_lots_68 : decode cX7_lots 68 = .ok (.ldc2_w 305, 3) := by decide +kernel
theorem dX7_lots_71 : decode cX7_lots 71 = .ok (.lmul, 1) := by decide +kernel
theorem dX7_lots_72 : decode cX7_lots 72 = .ok (.ldc2_w 307, 3) := by decide +kernel
theorem dX7_lots_75 : decode cX7_lots 75 = .ok (.lrem, 1) := by decide +kernel
theorem dX7_lots_76 : decode cX7_lots 76 = .ok (.lstore_n 3, 1) := by decide +kernel
theorem dX7_lots_77 : decode cX7_lots 77 = .ok (.aload_n 0, 1) := by decide +kernel
theorem dX7_lots_78 : decode cX7_lots 78 = .ok (.aload_n 0, 1) := by decide +kernel
theorem dX7_lots_79 : decode cX7_lots 79 = .ok (.lload_n 3, 1) := by decide +kernel
theorem dX7_lots_80 : decode cX7_lots 80 = .ok (.l2i, 1) := by decide +kernel
theorem dX7_lots_81 : decode cX7_lots 81 = .ok (.invokevirtual 309, 3) := by decide +kernel
theorem dX7_lots_84 : decode cX7_lots 84 = .ok (.invokevirtual 179, 3) := by decide +kernel
theorem dX7_lots_87 : decode cX7_lots 87 = .ok (.pop, 1) := by decide +kernel
theorem dX7_lots_88 : decode cX7_lots 88 = .ok (.iinc 5 1, 3) := by decide +kernel
theorem dX7_lots_91 : decode cX7_lots 91 = .ok (.goto (-30), 3) := by decide +kernel
theorem dX7_lots_94 : decode cX7_lots 94 = .ok (.aload_n 0, 1) := by decide +kernel
theorem dX7_lots_95 : decode cX7_lots 95 = .ok (.getfield 33, 3) := by decide +kernel
theorem dX7_lots_98 : decode cX7_lots 98 = .ok (.invokevirtual 224, 3) := by decide +kernel
theorem dX7_lots_101 : decode cX7_lots 101 = .ok (.ireturn, 1) := by decide +kernel
theorem dX7_asked_0 : decode cX7_asked 0 = .ok (.aload_n 0, 1) := by decide +kernel
theorem dX7_asked_1 : decode cX7_asked 1 = .ok (.getfield 312, 3) := by decide +kernel
theorem dX7_asked_4 : decode cX7_asked 4 = .ok (.ireturn, 1) := by decide +kernel
theorem dX7_upper_0 : decode cX7_upper 0 = .ok (.aload_n 0, 1) := by decide +kernel
theorem dX7_upper_1 : decode cX7_upper 1 = .ok (.getfield 315, 3) := by decide +kernel
theorem dX7_upper_4 : decode cX7_upper 4 = .ok (.lreturn, 1) := by decide +kernel
theorem dX7_lower_0 : decode cX7_lower 0 = .ok (.aload_n 0, 1) := by decide +kernel
theorem dX7_lower_1 : decode cX7_lower 1 = .ok (.getfield 76, 3) := by decide +kernel
theorem dX7_lower_4 : decode cX7_lower 4 = .ok (.lreturn, 1) := by decide +kernel
theorem dX7_count_0 : decode cX7_count 0 = .ok (.iload_n 1, 1) := by decide +kernel
theorem dX7_count_1 : decode cX7_count 1 = .ok (.ifCond .lt 9, 3) := by decide +kernel
theorem dX7_count_4 : decode cX7_count 4 = .ok (.iload_n 1, 1) := by decide +kernel
theorem dX7_count_5 : decode cX7_count 5 = .ok (.bipush 12, 2) := by decide +kernel
theorem dX7_count_7 : decode cX7_count 7 = .ok (.if_icmp .lt 7, 3) := by decide +kernel
theorem dX7_count_10 : decode cX7_count 10 = .ok (.iconst (-1), 1) := by decide +kernel
theorem dX7_count_11 : decode cX7_count 11 = .ok (.goto 8, 3) := by decide +kernel
theorem dX7_count_14 : decode cX7_count 14 = .ok (.aload_n 0, 1) := by decide +kernel
theorem dX7_count_15 : decode cX7_count 15 = .ok (.iload_n 1, 1) := by decide +kernel
theorem dX7_count_16 : decode cX7_count 16 = .ok (.invokevirtual 318, 3) := by decide +kernel
theorem dX7_count_19 : decode cX7_count 19 = .ok (.ireturn, 1) := by decide +kernel
theorem dX7_rowAt_0 : decode cX7_rowAt 0 = .ok (.iload_n 1, 1) := by decide +kernel
theorem dX7_rowAt_1 : decode cX7_rowAt 1 = .ok (.ifCond .lt 21, 3) := by decide +kernel
theorem dX7_rowAt_4 : decode cX7_rowAt 4 = .ok (.iload_n 1, 1) := by decide +kernel
theorem dX7_rowAt_5 : decode cX7_rowAt 5 = .ok (.aload_n 0, 1) := by decide +kernel
theorem dX7_rowAt_6 : decode cX7_rowAt 6 = .ok (.getfield 11, 3) := by decide +kernel
theorem dX7_rowAt_9 : decode cX7_rowAt 9 = .ok (.arraylength, 1) := by decide +kernel
theorem dX7_rowAt_10 : decode cX7_rowAt 10 = .ok (.if_icmp .ge 12, 3) := by decide +kernel
theorem dX7_rowAt_13 : decode cX7_rowAt 13 = .ok (.aload_n 0, 1) := by decide +kernel
theorem dX7_rowAt_14 : decode cX7_rowAt 14 = .ok (.getfield 11, 3) := by decide +kernel
theorem dX7_rowAt_17 : decode cX7_rowAt 17 = .ok (.iload_n 1, 1) := by decide +kernel
theorem dX7_rowAt_18 : decode cX7_rowAt 18 = .ok (.aaload, 1) := by decide +kernel
theorem dX7_rowAt_19 : decode cX7_rowAt 19 = .ok (.goto 4, 3) := by decide +kernel
theorem dX7_rowAt_22 : decode cX7_rowAt 22 = .ok (.aconst_null, 1) := by decide +kernel
theorem dX7_rowAt_23 : decode cX7_rowAt 23 = .ok (.areturn, 1) := by decide +kernel
theorem dX7_textAt_0 : decode cX7_textAt 0 = .ok (.iload_n 1, 1) := by decide +kernel
theorem dX7_textAt_1 : decode cX7_textAt 1 = .ok (.ifCond .lt 21, 3) := by decide +kernel
theorem dX7_textAt_4 : decode cX7_textAt 4 = .ok (.iload_n 1, 1) := by decide +kernel
theorem dX7_textAt_5 : decode cX7_textAt 5 = .ok (.aload_n 0, 1) := by decide +kernel
theorem dX7_textAt_6 : decode cX7_textAt 6 = .ok (.getfield 15, 3) := by decide +kernel
theorem dX7_textAt_9 : decode cX7_textAt 9 = .ok (.arraylength, 1) := by decide +kernel
theorem dX7_textAt_10 : decode cX7_textAt 10 = .ok (.if_icmp .ge 12, 3) := by decide +kernel
theorem dX7_textAt_13 : decode cX7_textAt 13 = .ok (.aload_n 0, 1) := by decide +kernel
theorem dX7_textAt_14 : decode cX7_textAt 14 = .ok (.getfield 15, 3) := by decide +kernel
theorem dX7_textAt_17 : decode cX7_textAt 17 = .ok (.iload_n 1, 1) := by decide +kernel
theorem dX7_textAt_18 : decode cX7_textAt 18 = .ok (.aaload, 1) := by decide +kernel
theorem dX7_textAt_19 : decode cX7_textAt 19 = .ok (.goto 4, 3) := by decide +kernel
theorem dX7_textAt_22 : decode cX7_textAt 22 = .ok (.aconst_null, 1) := by decide +kernel
theorem dX7_textAt_23 : decode cX7_textAt 23 = .ok (.areturn, 1) := by decide +kernel
theorem dX7_keptAt_0 : decode cX7_keptAt 0 = .ok (.iload_n 1, 1) := by decide +kernel
theorem dX7_keptAt_1 : decode cX7_keptAt 1 = .ok (.ifCond .lt 21, 3) := by decide +kernel
theorem dX7_keptAt_4 : decode cX7_keptAt 4 = .ok (.iload_n 1, 1) := by decide +kernel
theorem dX7_keptAt_5 : decode cX7_keptAt 5 = .ok (.aload_n 0, 1) := by decide +kernel
theorem dX7_keptAt_6 : decode cX7_keptAt 6 = .ok (.getfield 47, 3) := by decide +kernel
theorem dX7_keptAt_9 : decode cX7_keptAt 9 = .ok (.arraylength, 1) := by decide +kernel
theorem dX7_keptAt_10 : decode cX7_keptAt 10 = .ok (.if_icmp .ge 12, 3) := by decide +kernel
theorem dX7_keptAt_13 : decode cX7_keptAt 13 = .ok (.aload_n 0, 1) := by decide +kernel
theorem dX7_keptAt_14 : decode cX7_keptAt 14 = .ok (.getfield 47, 3) := by decide +kernel
theorem dX7_keptAt_17 : decode cX7_keptAt 17 = .ok (.iload_n 1, 1) := by decide +kernel
theorem dX7_keptAt_18 : decode cX7_keptAt 18 = .ok (.aaload, 1) := by decide +kernel
theorem dX7_keptAt_19 : decode cX7_keptAt 19 = .ok (.goto 4, 3) := by decide +kernel
theorem dX7_keptAt_22 : decode cX7_keptAt 22 = .ok (.aconst_null, 1) := by decide +kernel
theorem dX7_keptAt_23 : decode cX7_keptAt 23 = .ok (.areturn, 1) := by decide +kernel
theorem dX7_begin_0 : decode cX7_begin 0 = .ok (.aload_n 1, 1) := by decide +kernel
theorem dX7_begin_1 : decode cX7_begin 1 = .ok (.ifnull 8, 3) := by decide +kernel
theorem dX7_begin_4 : decode cX7_begin 4 = .ok (.iload_n 2, 1) := by decide +kernel
theorem dX7_begin_5 : decode cX7_begin 5 = .ok (.iload_n 3, 1) := by decide +kernel
theorem dX7_begin_6 : decode cX7_begin 6 = .ok (.if_icmp .le 5, 3) := by decide +kernel
theorem dX7_begin_9 : decode cX7_begin 9 = .ok (.iconst (-1), 1) := by decide +kernel
theorem dX7_begin_10 : decode cX7_begin 10 = .ok (.ireturn, 1) := by decide +kernel
theorem dX7_begin_11 : decode cX7_begin 11 = .ok (.iload_n 2, 1) := by decide +kernel
theorem dX7_begin_12 : decode cX7_begin 12 = .ok (.ifCond .ge 9, 3) := by decide +kernel
theorem dX7_begin_15 : decode cX7_begin 15 = .ok (.aload_n 0, 1) := by decide +kernel
theorem dX7_begin_16 : decode cX7_begin 16 = .ok (.iconst 5, 1) := by decide +kernel
theorem dX7_begin_17 : decode cX7_begin 17 = .ok (.invokevirtual 97, 3) := by decide +kernel
theorem dX7_begin_20 : decode cX7_begin 20 = .ok (.ireturn, 1) := by decide +kernel
theorem dX7_begin_21 : decode cX7_begin 21 = .ok (.aload_n 1, 1) := by decide +kernel
theorem dX7_begin_22 : decode cX7_begin 22 = .ok (.iload_n 2, 1) := by decide +kernel
theorem dX7_begin_23 : decode cX7_begin 23 = .ok (.iload 4, 2) := by decide +kernel
theorem dX7_begin_25 : decode cX7_begin 25 = .ok (.invokevirtual 332, 3) := by decide +kernel
theorem dX7_begin_28 : decode cX7_begin 28 = .ok (.iload_n 2, 1) := by decide +kernel
theorem dX7_begin_29 : decode cX7_begin 29 = .ok (.ireturn, 1) := by decide +kernel
theorem dX7_found_0 : decode cX7_found 0 = .ok (.iload_n 1, 1) := by decide +kernel
theorem dX7_found_1 : decode cX7_found 1 = .ok (.iconst 1, 1) := by decide +kernel
theorem dX7_found_2 : decode cX7_found 2 = .ok (.if_icmp .lt 23, 3) := by decide +kernel
theorem dX7_found_5 : decode cX7_found 5 = .ok (.iload_n 1, 1) := by decide +kernel
theorem dX7_found_6 : decode cX7_found 6 = .ok (.iconst 5, 1) := by decide +kernel
theorem dX7_found_7 : decode cX7_found 7 = .ok (.if_icmp .gt 18, 3) := by decide +kernel
theorem dX7_found_10 : decode cX7_found 10 = .ok (.aload_n 0, 1) := by decide +kernel
theorem dX7_found_11 : decode cX7_found 11 = .ok (.iload_n 1, 1) := by decide +kernel
theorem dX7_found_12 : decode cX7_found 12 = .ok (.putfield 321, 3) := by decide +kernel
theorem dX7_found_15 : decode cX7_found 15 = .ok (.aload_n 0, 1) := by decide +kernel
theorem dX7_found_16 : decode cX7_found 16 = .ok (.getfield 72, 3) := by decide +kernel
theorem dX7_found_19 : decode cX7_found 19 = .ok (.iload_n 1, 1) := by decide +kernel
theorem dX7_found_20 : decode cX7_found 20 = .ok (.dup2, 1) := by decide +kernel
theorem dX7_found_21 : decode cX7_found 21 = .ok (.iaload, 1) := by decide +kernel
theorem dX7_found_22 : decode cX7_found 22 = .ok (.iconst 1, 1) := by decide +kernel
theorem dX7_found_23 : decode cX7_found 23 = .ok (.iadd, 1) := by decide +kernel
theorem dX7_found_24 : decode cX7_found 24 = .ok (.iastore, 1) := by decide +kernel
theorem dX7_found_25 : decode cX7_found 25 = .ok (.bipush (-3), 2) := by decide +kernel
theorem dX7_found_27 : decode cX7_found 27 = .ok (.ireturn, 1) := by decide +kernel
theorem dX7_tell_0 : decode cX7_tell 0 = .ok (.aload_n 0, 1) := by decide +kernel
theorem dX7_tell_1 : decode cX7_tell 1 = .ok (.iload_n 1, 1) := by decide +kernel
theorem dX7_tell_2 : decode cX7_tell 2 = .ok (.putfield 312, 3) := by decide +kernel
theorem dX7_tell_5 : decode cX7_tell 5 = .ok (.iconst 1, 1) := by decide +kernel
theorem dX7_tell_6 : decode cX7_tell 6 = .ok (.ireturn, 1) := by decide +kernel
theorem dX7_tellTwelfths_0 : decode cX7_tellTwelfths 0 = .ok (.bipush 12, 2) := by decide +kernel
theorem dX7_tellTwelfths_2 : decode cX7_tellTwelfths 2 = .ok (.istore_n 2, 1) := by decide +kernel
theorem dX7_tellTwelfths_3 : decode cX7_tellTwelfths 3 = .ok (.iload_n 2, 1) := by decide +kernel
theorem dX7_tellTwelfths_4 : decode cX7_tellTwelfths 4 = .ok (.iconst 1, 1) := by decide +kernel
theorem dX7_tellTwelfths_5 : decode cX7_tellTwelfths 5 = .ok (.if_icmp .le 22, 3) := by decide +kernel
theorem dX7_tellTwelfths_8 : decode cX7_tellTwelfths 8 = .ok (.iload_n 1, 1) := by decide +kernel
theorem dX7_tellTwelfths_9 : decode cX7_tellTwelfths 9 = .ok (.iload_n 2, 1) := by decide +kernel
theorem dX7_tellTwelfths_10 : decode cX7_tellTwelfths 10 = .ok (.irem, 1) := by decide +kernel
theorem dX7_tellTwelfths_11 : decode cX7_tellTwelfths 11 = .ok (.ifCond .ne 10, 3) := by decide +kernel
theorem dX7_tellTwelfths_14 : decode cX7_tellTwelfths 14 = .ok (.bipush 12, 2) := by decide +kernel
theorem dX7_tellTwelfths_16 : decode cX7_tellTwelfths 16 = .ok (.iload_n 2, 1) := by decide +kernel
theorem dX7_tellTwelfths_17 : decode cX7_tellTwelfths 17 = .ok (.irem, 1) := by decide +kernel
theorem dX7_tellTwelfths_18 : decode cX7_tellTwelfths 18 = .ok (.ifCond .eq 9, 3) := by decide +kernel
theorem dX7_tellTwelfths_21 : decode cX7_tellTwelfths 21 = .ok (.iinc 2 (-1), 3) := by decide +kernel
theorem dX7_tellTwelfths_24 : decode cX7_tellTwelfths 24 = .ok (.goto (-21), 3) := by decide +kernel
theorem dX7_tellTwelfths_27 : decode cX7_tellTwelfths 27 = .ok (.aload_n 0, 1) := by decide +kernel
theorem dX7_tellTwelfths_28 : decode cX7_tellTwelfths 28 = .ok (.iload_n 1, 1) := by decide +kernel
theorem dX7_tellTwelfths_29 : decode cX7_tellTwelfths 29 = .ok (.iload_n 2, 1) := by decide +kernel
theorem dX7_tellTwelfths_30 : decode cX7_tellTwelfths 30 = .ok (.idiv, 1) := by decide +kernel
theorem dX7_tellTwelfths_31 : decode cX7_tellTwelfths 31 = .ok (.i2l, 1) := by decide +kernel
theorem dX7_tellTwelfths_32 : decode cX7_tellTwelfths 32 = .ok (.putfield 315, 3) := by decide +kernel
theorem dX7_tellTwelfths_35 : decode cX7_tellTwelfths 35 = .ok (.aload_n 0, 1) := by decide +kernel
theorem dX7_tellTwelfths_36 : decode cX7_tellTwelfths 36 = .ok (.bipush 12, 2) := by decide +kernel
theorem dX7_tellTwelfths_38 : decode cX7_tellTwelfths 38 = .ok (.iload_n 2, 1) := by decide +kernel
theorem dX7_tellTwelfths_39 : decode cX7_tellTwelfths 39 = .ok (.idiv, 1) := by decide +kernel
theorem dX7_tellTwelfths_40 : decode cX7_tellTwelfths 40 = .ok (.i2l, 1) := by decide +kernel
theorem dX7_tellTwelfths_41 : decode cX7_tellTwelfths 41 = .ok (.putfield 76, 3) := by decide +kernel
theorem dX7_tellTwelfths_44 : decode cX7_tellTwelfths 44 = .ok (.iconst 1, 1) := by decide +kernel
theorem dX7_tellTwelfths_45 : decode cX7_tellTwelfths 45 = .ok (.ireturn, 1) := by decide +kernel
theorem dX7_tally_0 : decode cX7_tally 0 = .ok (.iload_n 1, 1) := by decide +kernel
theorem dX7_tally_1 : decode cX7_tally 1 = .ok (.tableswitch 144 0 10 #[59, 67, 75, 83, 91, 99, 107, 115, 123, 131, 139], 59) := by decide +kernel
theorem dX7_tally_60 : decode cX7_tally 60 = .ok (.aload_n 0, 1) := by decide +kernel
theorem dX7_tally_61 : decode cX7_tally 61 = .ok (.getfield 21, 3) := by decide +kernel
theorem dX7_tally_64 : decode cX7_tally 64 = .ok (.getfield 137, 3) := by decide +kernel
theorem dX7_tally_67 : decode cX7_tally 67 = .ok (.ireturn, 1) := by decide +kernel
theorem dX7_tally_68 : decode cX7_tally 68 = .ok (.aload_n 0, 1) := by decide +kernel
theorem dX7_tally_69 : decode cX7_tally 69 = .ok (.getfield 21, 3) := by decide +kernel
theorem dX7_tally_72 : decode cX7_tally 72 = .ok (.getfield 236, 3) := by decide +kernel
theorem dX7_tally_75 : decode cX7_tally 75 = .ok (.ireturn, 1) := by decide +kernel
theorem dX7_tally_76 : decode cX7_tally 76 = .ok (.aload_n 0, 1) := by decide +kernel
theorem dX7_tally_77 : decode cX7_tally 77 = .ok (.getfield 43, 3) := by decide +kernel
theorem dX7_tally_80 : decode cX7_tally 80 = .ok (.getfield 81, 3) := by decide +kernel
theorem dX7_tally_83 : decode cX7_tally 83 = .ok (.ireturn, 1) := by decide +kernel
theorem dX7_tally_84 : decode cX7_tally 84 = .ok (.aload_n 0, 1) := by decide +kernel
theorem dX7_tally_85 : decode cX7_tally 85 = .ok (.getfield 33, 3) := by decide +kernel
theorem dX7_tally_88 : decode cX7_tally 88 = .ok (.getfield 335, 3) := by decide +kernel
theorem dX7_tally_91 : decode cX7_tally 91 = .ok (.ireturn, 1) := by decide +kernel
theorem dX7_tally_92 : decode cX7_tally 92 = .ok (.aload_n 0, 1) := by decide +kernel
theorem dX7_tally_93 : decode cX7_tally 93 = .ok (.getfield 33, 3) := by decide +kernel
theorem dX7_tally_96 : decode cX7_tally 96 = .ok (.getfield 221, 3) := by decide +kernel
theorem dX7_tally_99 : decode cX7_tally 99 = .ok (.ireturn, 1) := by decide +kernel
theorem dX7_tally_100 : decode cX7_tally 100 = .ok (.aload_n 0, 1) := by decide +kernel
theorem dX7_tally_101 : decode cX7_tally 101 = .ok (.getfield 33, 3) := by decide +kernel
theorem dX7_tally_104 : decode cX7_tally 104 = .ok (.invokevirtual 338, 3) := by decide +kernel
theorem dX7_tally_107 : decode cX7_tally 107 = .ok (.ireturn, 1) := by decide +kernel
theorem dX7_tally_108 : decode cX7_tally 108 = .ok (.aload_n 0, 1) := by decide +kernel
theorem dX7_tally_109 : decode cX7_tally 109 = .ok (.getfield 33, 3) := by decide +kernel
theorem dX7_tally_112 : decode cX7_tally 112 = .ok (.invokevirtual 224, 3) := by decide +kernel
theorem dX7_tally_115 : decode cX7_tally 115 = .ok (.ireturn, 1) := by decide +kernel
theorem dX7_tally_116 : decode cX7_tally 116 = .ok (.aload_n 0, 1) := by decide +kernel
theorem dX7_tally_117 : decode cX7_tally 117 = .ok (.getfield 33, 3) := by decide +kernel
theorem dX7_tally_120 : decode cX7_tally 120 = .ok (.getfield 341, 3) := by decide +kernel
theorem dX7_tally_123 : decode cX7_tally 123 = .ok (.ireturn, 1) := by decide +kernel
theorem dX7_tally_124 : decode cX7_tally 124 = .ok (.aload_n 0, 1) := by decide +kernel
theorem dX7_tally_125 : decode cX7_tally 125 = .ok (.getfield 11, 3) := by decide +kernel
theorem dX7_tally_128 : decode cX7_tally 128 = .ok (.invokestatic 344, 3) := by decide +kernel
theorem dX7_tally_131 : decode cX7_tally 131 = .ok (.ireturn, 1) := by decide +kernel
theorem dX7_tally_132 : decode cX7_tally 132 = .ok (.aload_n 0, 1) := by decide +kernel
theorem dX7_tally_133 : decode cX7_tally 133 = .ok (.getfield 15, 3) := by decide +kernel
theorem dX7_tally_136 : decode cX7_tally 136 = .ok (.invokestatic 344, 3) := by decide +kernel
theorem dX7_tally_139 : decode cX7_tally 139 = .ok (.ireturn, 1) := by decide +kernel
theorem dX7_tally_140 : decode cX7_tally 140 = .ok (.aload_n 0, 1) := by decide +kernel
theorem dX7_tally_141 : decode cX7_tally 141 = .ok (.invokevirtual 348, 3) := by decide +kernel
theorem dX7_tally_144 : decode cX7_tally 144 = .ok (.ireturn, 1) := by decide +kernel
theorem dX7_tally_145 : decode cX7_tally 145 = .ok (.aload_n 0, 1) := by decide +kernel
theorem dX7_tally_146 : decode cX7_tally 146 = .ok (.getfield 21, 3) := by decide +kernel
theorem dX7_tally_149 : decode cX7_tally 149 = .ok (.invokevirtual 351, 3) := by decide +kernel
theorem dX7_tally_152 : decode cX7_tally 152 = .ok (.ireturn, 1) := by decide +kernel
theorem dX7_howManyKept_0 : decode cX7_howManyKept 0 = .ok (.iconst 0, 1) := by decide +kernel
theorem dX7_howManyKept_1 : decode cX7_howManyKept 1 = .ok (.istore_n 1, 1) := by decide +kernel
theorem dX7_howManyKept_2 : decode cX7_howManyKept 2 = .ok (.iconst 0, 1) := by decide +kernel
theorem dX7_howManyKept_3 : decode cX7_howManyKept 3 = .ok (.istore_n 2, 1) := by decide +kernel
theorem dX7_howManyKept_4 : decode cX7_howManyKept 4 = .ok (.iload_n 2, 1) := by decide +kernel
theorem dX7_howManyKept_5 : decode cX7_howManyKept 5 = .ok (.aload_n 0, 1) := by decide +kernel
theorem dX7_howManyKept_6 : decode cX7_howManyKept 6 = .ok (.getfield 47, 3) := by decide +kernel
theorem dX7_howManyKept_9 : decode cX7_howManyKept 9 = .ok (.arraylength, 1) := by decide +kernel
theorem dX7_howManyKept_10 : decode cX7_howManyKept 10 = .ok (.if_icmp .ge 30, 3) := by decide +kernel
theorem dX7_howManyKept_13 : decode cX7_howManyKept 13 = .ok (.iload_n 1, 1) := by decide +kernel
theorem dX7_howManyKept_14 : decode cX7_howManyKept 14 = .ok (.aload_n 0, 1) := by decide +kernel
theorem dX7_howManyKept_15 : decode cX7_howManyKept 15 = .ok (.getfield 47, 3) := by decide +kernel
theorem dX7_howManyKept_18 : decode cX7_howManyKept 18 = .ok (.iload_n 2, 1) := by decide +kernel
theorem dX7_howManyKept_19 : decode cX7_howManyKept 19 = .ok (.aaload, 1) := by decide +kernel
theorem dX7_howManyKept_20 : decode cX7_howManyKept 20 = .ok (.getfield 81, 3) := by decide +kernel
theorem dX7_howManyKept_23 : decode cX7_howManyKept 23 = .ok (.iconst (-1), 1) := by decide +kernel
theorem dX7_howManyKept_24 : decode cX7_howManyKept 24 = .ok (.if_icmp .ne 7, 3) := by decide +kernel
theorem dX7_howManyKept_27 : decode cX7_howManyKept 27 = .ok (.iconst 0, 1) := by decide +kernel
theorem dX7_howManyKept_28 : decode cX7_howManyKept 28 = .ok (.goto 4, 3) := by decide +kernel
theorem dX7_howManyKept_31 : decode cX7_howManyKept 31 = .ok (.iconst 1, 1) := by decide +kernel
theorem dX7_howManyKept_32 : decode cX7_howManyKept 32 = .ok (.iadd, 1) := by decide +kernel
theorem dX7_howManyKept_33 : decode cX7_howManyKept 33 = .ok (.istore_n 1, 1) := by decide +kernel
theorem dX7_howManyKept_34 : decode cX7_howManyKept 34 = .ok (.iinc 2 1, 3) := by decide +kernel
theorem dX7_howManyKept_37 : decode cX7_howManyKept 37 = .ok (.goto (-33), 3) := by decide +kernel
theorem dX7_howManyKept_40 : decode cX7_howManyKept 40 = .ok (.iload_n 1, 1) := by decide +kernel
theorem dX7_howManyKept_41 : decode cX7_howManyKept 41 = .ok (.ireturn, 1) := by decide +kernel
theorem dX7_howManyThere_0 : decode cX7_howManyThere 0 = .ok (.iconst 0, 1) := by decide +kernel
theorem dX7_howManyThere_1 : decode cX7_howManyThere 1 = .ok (.istore_n 1, 1) := by decide +kernel
theorem dX7_howManyThere_2 : decode cX7_howManyThere 2 = .ok (.iconst 0, 1) := by decide +kernel
theorem dX7_howManyThere_3 : decode cX7_howManyThere 3 = .ok (.istore_n 2, 1) := by decide +kernel
theorem dX7_howManyThere_4 : decode cX7_howManyThere 4 = .ok (.iload_n 2, 1) := by decide +kernel
theorem dX7_howManyThere_5 : decode cX7_howManyThere 5 = .ok (.aload_n 0, 1) := by decide +kernel
theorem dX7_howManyThere_6 : decode cX7_howManyThere 6 = .ok (.arraylength, 1) := by decide +kernel
theorem dX7_howManyThere_7 : decode cX7_howManyThere 7 = .ok (.if_icmp .ge 26, 3) := by decide +kernel
theorem dX7_howManyThere_10 : decode cX7_howManyThere 10 = .ok (.iload_n 1, 1) := by decide +kernel
theorem dX7_howManyThere_11 : decode cX7_howManyThere 11 = .ok (.aload_n 0, 1) := by decide +kernel
theorem dX7_howManyThere_12 : decode cX7_howManyThere 12 = .ok (.iload_n 2, 1) := by decide +kernel
theorem dX7_howManyThere_13 : decode cX7_howManyThere 13 = .ok (.aaload, 1) := by decide +kernel
theorem dX7_howManyThere_14 : decode cX7_howManyThere 14 = .ok (.invokevirtual 110, 3) := by decide +kernel
theorem dX7_howManyThere_17 : decode cX7_howManyThere 17 = .ok (.ifCond .eq 7, 3) := by decide +kernel
theorem dX7_howManyThere_20 : decode cX7_howManyThere 20 = .ok (.iconst 0, 1) := by decide +kernel
theorem dX7_howManyThere_21 : decode cX7_howManyThere 21 = .ok (.goto 4, 3) := by decide +kernel
theorem dX7_howManyThere_24 : decode cX7_howManyThere 24 = .ok (.iconst 1, 1) := by decide +kernel
theorem dX7_howManyThere_25 : decode cX7_howManyThere 25 = .ok (.iadd, 1) := by decide +kernel
theorem dX7_howManyThere_26 : decode cX7_howManyThere 26 = .ok (.istore_n 1, 1) := by decide +kernel
theorem dX7_howManyThere_27 : decode cX7_howManyThere 27 = .ok (.iinc 2 1, 3) := by decide +kernel
theorem dX7_howManyThere_30 : decode cX7_howManyThere 30 = .ok (.goto (-26), 3) := by decide +kernel
theorem dX7_howManyThere_33 : decode cX7_howManyThere 33 = .ok (.iload_n 1, 1) := by decide +kernel
theorem dX7_howManyThere_34 : decode cX7_howManyThere 34 = .ok (.ireturn, 1) := by decide +kernel
theorem dX7_deed_0 : decode cX7_deed 0 = .ok (.iload_n 0, 1) := by decide +kernel
theorem dX7_deed_1 : decode cX7_deed 1 = .ok (.bipush 100, 2) := by decide +kernel
theorem dX7_deed_3 : decode cX7_deed 3 = .ok (.imul, 1) := by decide +kernel
theorem dX7_deed_4 : decode cX7_deed 4 = .ok (.iload_n 1, 1) := by decide +kernel
theorem dX7_deed_5 : decode cX7_deed 5 = .ok (.bipush 10, 2) := by decide +kernel
theorem dX7_deed_7 : decode cX7_deed 7 = .ok (.imul, 1) := by decide +kernel
theorem dX7_deed_8 : decode cX7_deed 8 = .ok (.iadd, 1) := by decide +kernel
theorem dX7_deed_9 : decode cX7_deed 9 = .ok (.iload_n 2, 1) := by decide +kernel
theorem dX7_deed_10 : decode cX7_deed 10 = .ok (.iadd, 1) := by decide +kernel
theorem dX7_deed_11 : decode cX7_deed 11 = .ok (.ireturn, 1) := by decide +kernel
theorem dX7_perform_0 : decode cX7_perform 0 = .ok (.aload_n 0, 1) := by decide +kernel
theorem dX7_perform_1 : decode cX7_perform 1 = .ok (.getfield 43, 3) := by decide +kernel
theorem dX7_perform_4 : decode cX7_perform 4 = .ok (.getfield 81, 3) := by decide +kernel
theorem dX7_perform_7 : decode cX7_perform 7 = .ok (.bipush 40, 2) := by decide +kernel
theorem dX7_perform_9 : decode cX7_perform 9 = .ok (.if_icmp .lt 6, 3) := by decide +kernel
theorem dX7_perform_12 : decode cX7_perform 12 = .ok (.bipush (-2), 2) := by decide +kernel
theorem dX7_perform_14 : decode cX7_perform 14 = .ok (.ireturn, 1) := by decide +kernel
theorem dX7_perform_15 : decode cX7_perform 15 = .ok (.aload_n 0, 1) := by decide +kernel
theorem dX7_perform_16 : decode cX7_perform 16 = .ok (.getfield 43, 3) := by decide +kernel
theorem dX7_perform_19 : decode cX7_perform 19 = .ok (.iload_n 1, 1) := by decide +kernel
theorem dX7_perform_20 : decode cX7_perform 20 = .ok (.invokevirtual 354, 3) := by decide +kernel
theorem dX7_perform_23 : decode cX7_perform 23 = .ok (.aload_n 0, 1) := by decide +kernel
theorem dX7_perform_24 : decode cX7_perform 24 = .ok (.getfield 33, 3) := by decide +kernel
theorem dX7_perform_27 : decode cX7_perform 27 = .ok (.iload_n 1, 1) := by decide +kernel
theorem dX7_perform_28 : decode cX7_perform 28 = .ok (.invokevirtual 358, 3) := by decide +kernel
theorem dX7_perform_31 : decode cX7_perform 31 = .ok (.ireturn, 1) := by decide +kernel
theorem dX7_deedByLot_0 : decode cX7_deedByLot 0 = .ok (.iload_n 1, 1) := by decide +kernel
theorem dX7_deedByLot_1 : decode cX7_deedByLot 1 = .ok (.iconst 3, 1) := by decide +kernel
theorem dX7_deedByLot_2 : decode cX7_deedByLot 2 = .ok (.irem, 1) := by decide +kernel
theorem dX7_deedByLot_3 : decode cX7_deedByLot 3 = .ok (.ifCond .eq 25, 3) := by decide +kernel
theorem dX7_deedByLot_6 : decode cX7_deedByLot 6 = .ok (.aload_n 0, 1) := by decide +kernel
theorem dX7_deedByLot_7 : decode cX7_deedByLot 7 = .ok (.getfield 21, 3) := by decide +kernel
theorem dX7_deedByLot_10 : decode cX7_deedByLot 10 = .ok (.getfield 236, 3) := by decide +kernel
theorem dX7_deedByLot_13 : decode cX7_deedByLot 13 = .ok (.iconst 1, 1) := by decide +kernel
theorem dX7_deedByLot_14 : decode cX7_deedByLot 14 = .ok (.if_icmp .lt 14, 3) := by decide +kernel
theorem dX7_deedByLot_17 : decode cX7_deedByLot 17 = .ok (.aload_n 0, 1) := by decide +kernel
theorem dX7_deedByLot_18 : decode cX7_deedByLot 18 = .ok (.getfield 21, 3) := by decide +kernel
theorem dX7_deedByLot_21 : decode cX7_deedByLot 21 = .ok (.getfield 137, 3) := by decide +kernel
theorem dX7_deedByLot_24 : decode cX7_deedByLot 24 = .ok (.iconst 1, 1) := by decide +kernel
theorem dX7_deedByLot_25 : decode cX7_deedByLot 25 = .ok (.if_icmp .ge 10, 3) := by decide +kernel
theorem dX7_deedByLot_28 : decode cX7_deedByLot 28 = .ok (.iconst 4, 1) := by decide +kernel
theorem dX7_deedByLot_29 : decode cX7_deedByLot 29 = .ok (.iconst 0, 1) := by decide +kernel
theorem dX7_deedByLot_30 : decode cX7_deedByLot 30 = .ok (.iconst 0, 1) := by decide +kernel
theorem dX7_deedByLot_31 : decode cX7_deedByLot 31 = .ok (.invokestatic 175, 3) := by decide +kernel
theorem dX7_deedByLot_34 : decode cX7_deedByLot 34 = .ok (.ireturn, 1) := by decide +kernel
theorem dX7_deedByLot_35 : decode cX7_deedByLot 35 = .ok (.iload_n 1, 1) := by decide +kernel
theorem dX7_deedByLot_36 : decode cX7_deedByLot 36 = .ok (.bipush 8, 2) := by decide +kernel
theorem dX7_deedByLot_38 : decode cX7_deedByLot 38 = .ok (.idiv, 1) := by decide +kernel
theorem dX7_deedByLot_39 : decode cX7_deedByLot 39 = .ok (.aload_n 0, 1) := by decide +kernel
theorem dX7_deedByLot_40 : decode cX7_deedByLot 40 = .ok (.getfield 21, 3) := by decide +kernel
theorem dX7_deedByLot_43 : decode cX7_deedByLot 43 = .ok (.getfield 236, 3) := by decide +kernel
theorem dX7_deedByLot_46 : decode cX7_deedByLot 46 = .ok (.irem, 1) := by decide +kernel
theorem dX7_deedByLot_47 : decode cX7_deedByLot 47 = .ok (.istore_n 2, 1) := by decide +kernel
theorem dX7_deedByLot_48 : decode cX7_deedByLot 48 = .ok (.iload_n 1, 1) := by decide +kernel
theorem dX7_deedByLot_49 : decode cX7_deedByLot 49 = .ok (.bipush 64, 2) := by decide +kernel
theorem dX7_deedByLot_51 : decode cX7_deedByLot 51 = .ok (.idiv, 1) := by decide +kernel
theorem dX7_deedByLot_52 : decode cX7_deedByLot 52 = .ok (.aload_n 0, 1) := by decide +kernel
theorem dX7_deedByLot_53 : decode cX7_deedByLot 53 = .ok (.getfield 21, 3) := by decide +kernel
theorem dX7_deedByLot_56 : decode cX7_deedByLot 56 = .ok (.getfield 137, 3) := by decide +kernel
theorem dX7_deedByLot_59 : decode cX7_deedByLot 59 = .ok (.irem, 1) := by decide +kernel
theorem dX7_deedByLot_60 : decode cX7_deedByLot 60 = .ok (.istore_n 3, 1) := by decide +kernel
theorem dX7_deedByLot_61 : decode cX7_deedByLot 61 = .ok (.aload_n 0, 1) := by decide +kernel
theorem dX7_deedByLot_62 : decode cX7_deedByLot 62 = .ok (.getfield 33, 3) := by decide +kernel
theorem dX7_deedByLot_65 : decode cX7_deedByLot 65 = .ok (.iload_n 2, 1) := by decide +kernel
theorem dX7_deedByLot_66 : decode cX7_deedByLot 66 = .ok (.invokevirtual 169, 3) := by decide +kernel
theorem dX7_deedByLot_69 : decode cX7_deedByLot 69 = .ok (.ifCond .eq 10, 3) := by decide +kernel
theorem dX7_deedByLot_72 : decode cX7_deedByLot 72 = .ok (.iconst 1, 1) := by decide +kernel
theorem dX7_deedByLot_73 : decode cX7_deedByLot 73 = .ok (.iload_n 2, 1) := by decide +kernel
theorem dX7_deedByLot_74 : decode cX7_deedByLot 74 = .ok (.iconst 0, 1) := by decide +kernel
theorem dX7_deedByLot_75 : decode cX7_deedByLot 75 = .ok (.invokestatic 175, 3) := by decide +kernel
theorem dX7_deedByLot_78 : decode cX7_deedByLot 78 = .ok (.ireturn, 1) := by decide +kernel
theorem dX7_deedByLot_79 : decode cX7_deedByLot 79 = .ok (.aload_n 0, 1) := by decide +kernel
theorem dX7_deedByLot_80 : decode cX7_deedByLot 80 = .ok (.getfield 33, 3) := by decide +kernel
theorem dX7_deedByLot_83 : decode cX7_deedByLot 83 = .ok (.iload_n 3, 1) := by decide +kernel
theorem dX7_deedByLot_84 : decode cX7_deedByLot 84 = .ok (.invokevirtual 172, 3) := by decide +kernel
theorem dX7_deedByLot_87 : decode cX7_deedByLot 87 = .ok (.ifCond .eq 12, 3) := by decide +kernel
theorem dX7_deedByLot_90 : decode cX7_deedByLot 90 = .ok (.iconst 0, 1) := by decide +kernel
theorem dX7_deedByLot_91 : decode cX7_deedByLot 91 = .ok (.iload_n 2, 1) := by decide +kernel
theorem dX7_deedByLot_92 : decode cX7_deedByLot 92 = .ok (.iload_n 3, 1) := by decide +kernel
theorem dX7_deedByLot_93 : decode cX7_deedByLot 93 = .ok (.invokestatic 175, 3) := by decide +kernel
theorem dX7_deedByLot_96 : decode cX7_deedByLot 96 = .ok (.goto 9, 3) := by decide +kernel
theorem dX7_deedByLot_99 : decode cX7_deedByLot 99 = .ok (.iconst 3, 1) := by decide +kernel
theorem dX7_deedByLot_100 : decode cX7_deedByLot 100 = .ok (.iconst 0, 1) := by decide +kernel
theorem dX7_deedByLot_101 : decode cX7_deedByLot 101 = .ok (.iconst 0, 1) := by decide +kernel
theorem dX7_deedByLot_102 : decode cX7_deedByLot 102 = .ok (.invokestatic 175, 3) := by decide +kernel
theorem dX7_deedByLot_105 : decode cX7_deedByLot 105 = .ok (.ireturn, 1) := by decide +kernel
theorem dX7_isOfKind_0 : decode cX7_isOfKind 0 = .ok (.iload_n 0, 1) := by decide +kernel
theorem dX7_isOfKind_1 : decode cX7_isOfKind 1 = .ok (.iload_n 1, 1) := by decide +kernel
theorem dX7_isOfKind_2 : decode cX7_isOfKind 2 = .ok (.if_icmp .eq 28, 3) := by decide +kernel
theorem dX7_isOfKind_5 : decode cX7_isOfKind 5 = .ok (.iload_n 1, 1) := by decide +kernel
theorem dX7_isOfKind_6 : decode cX7_isOfKind 6 = .ok (.iconst 1, 1) := by decide +kernel
theorem dX7_isOfKind_7 : decode cX7_isOfKind 7 = .ok (.if_icmp .ne 8, 3) := by decide +kernel
theorem dX7_isOfKind_10 : decode cX7_isOfKind 10 = .ok (.iload_n 0, 1) := by decide +kernel
theorem dX7_isOfKind_11 : decode cX7_isOfKind 11 = .ok (.iconst 5, 1) := by decide +kernel
theorem dX7_isOfKind_12 : decode cX7_isOfKind 12 = .ok (.if_icmp .eq 18, 3) := by decide +kernel
theorem dX7_isOfKind_15 : decode cX7_isOfKind 15 = .ok (.iload_n 1, 1) := by decide +kernel
theorem dX7_isOfKind_16 : decode cX7_isOfKind 16 = .ok (.iconst 2, 1) := by decide +kernel
theorem dX7_isOfKind_17 : decode cX7_isOfKind 17 = .ok (.if_icmp .ne 17, 3) := by decide +kernel
theorem dX7_isOfKind_20 : decode cX7_isOfKind 20 = .ok (.iload_n 0, 1) := by decide +kernel
theorem dX7_isOfKind_21 : decode cX7_isOfKind 21 = .ok (.iconst 3, 1) := by decide +kernel
theorem dX7_isOfKind_22 : decode cX7_isOfKind 22 = .ok (.if_icmp .eq 8, 3) := by decide +kernel
theorem dX7_isOfKind_25 : decode cX7_isOfKind 25 = .ok (.iload_n 0, 1) := by decide +kernel
theorem dX7_isOfKind_26 : decode cX7_isOfKind 26 = .ok (.iconst 4, 1) := by decide +kernel
theorem dX7_isOfKind_27 : decode cX7_isOfKind 27 = .ok (.if_icmp .ne 7, 3) := by decide +kernel
theorem dX7_isOfKind_30 : decode cX7_isOfKind 30 = .ok (.iconst 1, 1) := by decide +kernel
theorem dX7_isOfKind_31 : decode cX7_isOfKind 31 = .ok (.goto 4, 3) := by decide +kernel
theorem dX7_isOfKind_34 : decode cX7_isOfKind 34 = .ok (.iconst 0, 1) := by decide +kernel
theorem dX7_isOfKind_35 : decode cX7_isOfKind 35 = .ok (.ireturn, 1) := by decide +kernel
theorem dX7_bearing_0 : decode cX7_bearing 0 = .ok (.iconst 0, 1) := by decide +kernel
theorem dX7_bearing_1 : decode cX7_bearing 1 = .ok (.iload_n 2, 1) := by decide +kernel
theorem dX7_bearing_2 : decode cX7_bearing 2 = .ok (.iconst 2, 1) := by decide +kernel
theorem dX7_bearing_3 : decode cX7_bearing 3 = .ok (.iload_n 3, 1) := by decide +kernel
theorem dX7_bearing_4 : decode cX7_bearing 4 = .ok (.imul, 1) := by decide +kernel
theorem dX7_bearing_5 : decode cX7_bearing 5 = .ok (.isub, 1) := by decide +kernel
theorem dX7_bearing_6 : decode cX7_bearing 6 = .ok (.invokestatic 199, 3) := by decide +kernel
theorem dX7_bearing_9 : decode cX7_bearing 9 = .ok (.istore 4, 2) := by decide +kernel
theorem dX7_bearing_11 : decode cX7_bearing 11 = .ok (.iload_n 3, 1) := by decide +kernel
theorem dX7_bearing_12 : decode cX7_bearing 12 = .ok (.iconst 3, 1) := by decide +kernel
theorem dX7_bearing_13 : decode cX7_bearing 13 = .ok (.if_icmp .lt 13, 3) := by decide +kernel
theorem dX7_bearing_16 : decode cX7_bearing 16 = .ok (.iload 4, 2) := by decide +kernel
theorem dX7_bearing_18 : decode cX7_bearing 18 = .ok (.iload 4, 2) := by decide +kernel
theorem dX7_bearing_20 : decode cX7_bearing 20 = .ok (.iconst 3, 1) := by decide +kernel
theorem dX7_bearing_21 : decode cX7_bearing 21 = .ok (.idiv, 1) := by decide +kernel
theorem dX7_bearing_22 : decode cX7_bearing 22 = .ok (.isub, 1) := by decide +kernel
theorem dX7_bearing_23 : decode cX7_bearing 23 = .ok (.goto 5, 3) := by decide +kernel
theorem dX7_bearing_26 : decode cX7_bearing 26 = .ok (.iload 4, 2) := by decide +kernel
theorem dX7_bearing_28 : decode cX7_bearing 28 = .ok (.istore 5, 2) := by decide +kernel
theorem dX7_bearing_30 : decode cX7_bearing 30 = .ok (.iconst 0, 1) := by decide +kernel
theorem dX7_bearing_31 : decode cX7_bearing 31 = .ok (.iload_n 2, 1) := by decide +kernel
theorem dX7_bearing_32 : decode cX7_bearing 32 = .ok (.iload_n 3, 1) := by decide +kernel
theorem dX7_bearing_33 : decode cX7_bearing 33 = .ok (.isub, 1) := by decide +kernel
theorem dX7_bearing_34 : decode cX7_bearing 34 = .ok (.invokestatic 199, 3) := by decide +kernel
theorem dX7_bearing_37 : decode cX7_bearing 37 = .ok (.istore 6, 2) := by decide +kernel
theorem dX7_bearing_39 : decode cX7_bearing 39 = .ok (.iload_n 0, 1) := by decide +kernel
theorem dX7_bearing_40 : decode cX7_bearing 40 = .ok (.tableswitch 71 1 5 #[36, 39, 42, 51, 58], 36) := by decide +kernel
theorem dX7_bearing_76 : decode cX7_bearing 76 = .ok (.iload 5, 2) := by decide +kernel
theorem dX7_bearing_78 : decode cX7_bearing 78 = .ok (.ireturn, 1) := by decide +kernel
theorem dX7_bearing_79 : decode cX7_bearing 79 = .ok (.iload 6, 2) := by decide +kernel
theorem dX7_bearing_81 : decode cX7_bearing 81 = .ok (.ireturn, 1) := by decide +kernel
theorem dX7_bearing_82 : decode cX7_bearing 82 = .ok (.iconst 0, 1) := by decide +kernel
theorem dX7_bearing_83 : decode cX7_bearing 83 = .ok (.iload 6, 2) := by decide +kernel
theorem dX7_bearing_85 : decode cX7_bearing 85 = .ok (.iconst 5, 1) := by decide +kernel
theorem dX7_bearing_86 : decode cX7_bearing 86 = .ok (.isub, 1) := by decide +kernel
theorem dX7_bearing_87 : decode cX7_bearing 87 = .ok (.invokestatic 199, 3) := by decide +kernel
theorem dX7_bearing_90 : decode cX7_bearing 90 = .ok (.ireturn, 1) := by decide +kernel
theorem dX7_bearing_91 : decode cX7_bearing 91 = .ok (.iload 6, 2) := by decide +kernel
theorem dX7_bearing_93 : decode cX7_bearing 93 = .ok (.iconst 2, 1) := by decide +kernel
theorem dX7_bearing_94 : decode cX7_bearing 94 = .ok (.iload_n 1, 1) := by decide +kernel
theorem dX7_bearing_95 : decode cX7_bearing 95 = .ok (.imul, 1) := by decide +kernel
theorem dX7_bearing_96 : decode cX7_bearing 96 = .ok (.iadd, 1) := by decide +kernel
theorem dX7_bearing_97 : decode cX7_bearing 97 = .ok (.ireturn, 1) := by decide +kernel
theorem dX7_bearing_98 : decode cX7_bearing 98 = .ok (.iload_n 1, 1) := by decide +kernel
theorem dX7_bearing_99 : decode cX7_bearing 99 = .ok (.iconst 5, 1) := by decide +kernel
theorem dX7_bearing_100 : decode cX7_bearing 100 = .ok (.if_icmp .gt 8, 3) := by decide +kernel
theorem dX7_bearing_103 : decode cX7_bearing 103 = .ok (.iload 4, 2) := by decide +kernel
theorem dX7_bearing_105 : decode cX7_bearing 105 = .ok (.goto 5, 3) := by decide +kernel
theorem dX7_bearing_108 : decode cX7_bearing 108 = .ok (.iload 5, 2) := by decide +kernel
theorem dX7_bearing_110 : decode cX7_bearing 110 = .ok (.ireturn, 1) := by decide +kernel
theorem dX7_bearing_111 : decode cX7_bearing 111 = .ok (.iload 4, 2) := by decide +kernel
theorem dX7_bearing_113 : decode cX7_bearing 113 = .ok (.ireturn, 1) := by decide +kernel
theorem dX7_worn_0 : decode cX7_worn 0 = .ok (.bipush 20, 2) := by decide +kernel
theorem dX7_worn_2 : decode cX7_worn 2 = .ok (.iload_n 0, 1) := by decide +kernel
theorem dX7_worn_3 : decode cX7_worn 3 = .ok (.iload_n 1, 1) := by decide +kernel
theorem dX7_worn_4 : decode cX7_worn 4 = .ok (.ifCond .eq 7, 3) := by decide +kernel
theorem dX7_worn_7 : decode cX7_worn 7 = .ok (.iconst 2, 1) := by decide +kernel
theorem dX7_worn_8 : decode cX7_worn 8 = .ok (.goto 4, 3) := by decide +kernel
theorem dX7_worn_11 : decode cX7_worn 11 = .ok (.iconst 1, 1) := by decide +kernel
theorem dX7_worn_12 : decode cX7_worn 12 = .ok (.iadd, 1) := by decide +kernel
theorem dX7_worn_13 : decode cX7_worn 13 = .ok (.invokestatic 361, 3) := by decide +kernel
theorem dX7_worn_16 : decode cX7_worn 16 = .ok (.ireturn, 1) := by decide +kernel
theorem dX7_findingOfTriples_0 : decode cX7_findingOfTriples 0 = .ok (.aload_n 0, 1) := by decide +kernel
theorem dX7_findingOfTriples_1 : decode cX7_findingOfTriples 1 = .ok (.invokevirtual 110, 3) := by decide +kernel
theorem dX7_findingOfTriples_4 : decode cX7_findingOfTriples 4 = .ok (.ifCond .eq 5, 3) := by decide +kernel
theorem dX7_findingOfTriples_7 : decode cX7_findingOfTriples 7 = .ok (.iconst 1, 1) := by decide +kernel
theorem dX7_findingOfTriples_8 : decode cX7_findingOfTriples 8 = .ok (.ireturn, 1) := by decide +kernel
theorem dX7_findingOfTriples_9 : decode cX7_findingOfTriples 9 = .ok (.aload_n 0, 1) := by decide +kernel
theorem dX7_findingOfTriples_10 : decode cX7_findingOfTriples 10 = .ok (.getfield 114, 3) := by decide +kernel
theorem dX7_findingOfTriples_13 : decode cX7_findingOfTriples 13 = .ok (.iconst 3, 1) := by decide +kernel
theorem dX7_findingOfTriples_14 : decode cX7_findingOfTriples 14 = .ok (.irem, 1) := by decide +kernel
theorem dX7_findingOfTriples_15 : decode cX7_findingOfTriples 15 = .ok (.ifCond .eq 5, 3) := by decide +kernel
theorem dX7_findingOfTriples_18 : decode cX7_findingOfTriples 18 = .ok (.iconst 5, 1) := by decide +kernel
theorem dX7_findingOfTriples_19 : decode cX7_findingOfTriples 19 = .ok (.ireturn, 1) := by decide +kernel
theorem dX7_findingOfTriples_20 : decode cX7_findingOfTriples 20 = .ok (.iconst 0, 1) := by decide +kernel
theorem dX7_findingOfTriples_21 : decode cX7_findingOfTriples 21 = .ok (.istore_n 1, 1) := by decide +kernel
theorem dX7_findingOfTriples_22 : decode cX7_findingOfTriples 22 = .ok (.iload_n 1, 1) := by decide +kernel
theorem dX7_findingOfTriples_23 : decode cX7_findingOfTriples 23 = .ok (.aload_n 0, 1) := by decide +kernel
theorem dX7_findingOfTriples_24 : decode cX7_findingOfTriples 24 = .ok (.getfield 114, 3) := by decide +kernel
theorem dX7_findingOfTriples_27 : decode cX7_findingOfTriples 27 = .ok (.if_icmp .ge 53, 3) := by decide +kernel
theorem dX7_findingOfTriples_30 : decode cX7_findingOfTriples 30 = .ok (.aload_n 0, 1) := by decide +kernel
theorem dX7_findingOfTriples_31 : decode cX7_findingOfTriples 31 = .ok (.iload_n 1, 1) := by decide +kernel
theorem dX7_findingOfTriples_32 : decode cX7_findingOfTriples 32 = .ok (.invokevirtual 100, 3) := by decide +kernel
theorem dX7_findingOfTriples_35 : decode cX7_findingOfTriples 35 = .ok (.bipush 20, 2) := by decide +kernel
theorem dX7_findingOfTriples_37 : decode cX7_findingOfTriples 37 = .ok (.invokestatic 364, 3) := by decide +kernel
theorem dX7_findingOfTriples_40 : decode cX7_findingOfTriples 40 = .ok (.ifCond .eq 32, 3) := by decide +kernel
theorem dX7_findingOfTriples_43 : decode cX7_findingOfTriples 43 = .ok (.aload_n 0, 1) := by decide +kernel
theorem dX7_findingOfTriples_44 : decode cX7_findingOfTriples 44 = .ok (.iload_n 1, 1) := by decide +kernel
theorem dX7_findingOfTriples_45 : decode cX7_findingOfTriples 45 = .ok (.iconst 1, 1) := by decide +kernel
theorem dX7_findingOfTriples_46 : decode cX7_findingOfTriples 46 = .ok (.iadd, 1) := by decide +kernel
theorem dX7_findingOfTriples_47 : decode cX7_findingOfTriples 47 = .ok (.invokevirtual 100, 3) := by decide +kernel
theorem dX7_findingOfTriples_50 : decode cX7_findingOfTriples 50 = .ok (.bipush 99, 2) := by decide +kernel
theorem dX7_findingOfTriples_52 : decode cX7_findingOfTriples 52 = .ok (.invokestatic 364, 3) := by decide +kernel
theorem dX7_findingOfTriples_55 : decode cX7_findingOfTriples 55 = .ok (.ifCond .eq 17, 3) := by decide +kernel
theorem dX7_findingOfTriples_58 : decode cX7_findingOfTriples 58 = .ok (.aload_n 0, 1) := by decide +kernel
theorem dX7_findingOfTriples_59 : decode cX7_findingOfTriples 59 = .ok (.iload_n 1, 1) := by decide +kernel
theorem dX7_findingOfTriples_60 : decode cX7_findingOfTriples 60 = .ok (.iconst 2, 1) := by decide +kernel
theorem dX7_findingOfTriples_61 : decode cX7_findingOfTriples 61 = .ok (.iadd, 1) := by decide +kernel
theorem dX7_findingOfTriples_62 : decode cX7_findingOfTriples 62 = .ok (.invokevirtual 100, 3) := by decide +kernel
theorem dX7_findingOfTriples_65 : decode cX7_findingOfTriples 65 = .ok (.iconst 1, 1) := by decide +kernel
theorem dX7_findingOfTriples_66 : decode cX7_findingOfTriples 66 = .ok (.invokestatic 364, 3) := by decide +kernel
theorem dX7_findingOfTriples_69 : decode cX7_findingOfTriples 69 = .ok (.ifCond .ne 5, 3) := by decide +kernel
theorem dX7_findingOfTriples_72 : decode cX7_findingOfTriples 72 = .ok (.iconst 3, 1) := by decide +kernel
theorem dX7_findingOfTriples_73 : decode cX7_findingOfTriples 73 = .ok (.ireturn, 1) := by decide +kernel
theorem dX7_findingOfTriples_74 : decode cX7_findingOfTriples 74 = .ok (.iinc 1 3, 3) := by decide +kernel
theorem dX7_findingOfTriples_77 : decode cX7_findingOfTriples 77 = .ok (.goto (-55), 3) := by decide +kernel
theorem dX7_findingOfTriples_80 : decode cX7_findingOfTriples 80 = .ok (.iconst 0, 1) := by decide +kernel
theorem dX7_findingOfTriples_81 : decode cX7_findingOfTriples 81 = .ok (.ireturn, 1) := by decide +kernel
theorem dX7_isWithin_0 : decode cX7_isWithin 0 = .ok (.iload_n 0, 1) := by decide +kernel
theorem dX7_isWithin_1 : decode cX7_isWithin 1 = .ok (.ifCond .lt 12, 3) := by decide +kernel
theorem dX7_isWithin_4 : decode cX7_isWithin 4 = .ok (.iload_n 0, 1) := by decide +kernel
theorem dX7_isWithin_5 : decode cX7_isWithin 5 = .ok (.iload_n 1, 1) := by decide +kernel
theorem dX7_isWithin_6 : decode cX7_isWithin 6 = .ok (.if_icmp .gt 7, 3) := by decide +kernel
theorem dX7_isWithin_9 : decode cX7_isWithin 9 = .ok (.iconst 1, 1) := by decide +kernel
theorem dX7_isWithin_10 : decode cX7_isWithin 10 = .ok (.goto 4, 3) := by decide +kernel
theorem dX7_isWithin_13 : decode cX7_isWithin 13 = .ok (.iconst 0, 1) := by decide +kernel
theorem dX7_isWithin_14 : decode cX7_isWithin 14 = .ok (.ireturn, 1) := by decide +kernel
theorem dX7_agrees_0 : decode cX7_agrees 0 = .ok (.iconst 0, 1) := by decide +kernel
theorem dX7_agrees_1 : decode cX7_agrees 1 = .ok (.istore 4, 2) := by decide +kernel
theorem dX7_agrees_3 : decode cX7_agrees 3 = .ok (.iload 4, 2) := by decide +kernel
theorem dX7_agrees_5 : decode cX7_agrees 5 = .ok (.aload_n 0, 1) := by decide +kernel
theorem dX7_agrees_6 : decode cX7_agrees 6 = .ok (.getfield 114, 3) := by decide +kernel
theorem dX7_agrees_9 : decode cX7_agrees 9 = .ok (.if_icmp .ge 63, 3) := by decide +kernel
theorem dX7_agrees_12 : decode cX7_agrees 12 = .ok (.iload_n 1, 1) := by decide +kernel
theorem dX7_agrees_13 : decode cX7_agrees 13 = .ok (.iload_n 2, 1) := by decide +kernel
theorem dX7_agrees_14 : decode cX7_agrees 14 = .ok (.iload_n 3, 1) := by decide +kernel
theorem dX7_agrees_15 : decode cX7_agrees 15 = .ok (.aload_n 0, 1) := by decide +kernel
theorem dX7_agrees_16 : decode cX7_agrees 16 = .ok (.iload 4, 2) := by decide +kernel
theorem dX7_agrees_18 : decode cX7_agrees 18 = .ok (.invokevirtual 100, 3) := by decide +kernel
theorem dX7_agrees_21 : decode cX7_agrees 21 = .ok (.invokestatic 367, 3) := by decide +kernel
theorem dX7_agrees_24 : decode cX7_agrees 24 = .ok (.aload_n 0, 1) := by decide +kernel
theorem dX7_agrees_25 : decode cX7_agrees 25 = .ok (.iload 4, 2) := by decide +kernel
theorem dX7_agrees_27 : decode cX7_agrees 27 = .ok (.iconst 1, 1) := by decide +kernel
theorem dX7_agrees_28 : decode cX7_agrees 28 = .ok (.iadd, 1) := by decide +kernel
theorem dX7_agrees_29 : decode cX7_agrees 29 = .ok (.invokevirtual 100, 3) := by decide +kernel
theorem dX7_agrees_32 : decode cX7_agrees 32 = .ok (.if_icmp .lt 7, 3) := by decide +kernel
theorem dX7_agrees_35 : decode cX7_agrees 35 = .ok (.iconst 1, 1) := by decide +kernel
theorem dX7_agrees_36 : decode cX7_agrees 36 = .ok (.goto 4, 3) := by decide +kernel
theorem dX7_agrees_39 : decode cX7_agrees 39 = .ok (.iconst 0, 1) := by decide +kernel
theorem dX7_agrees_40 : decode cX7_agrees 40 = .ok (.istore 5, 2) := by decide +kernel
theorem dX7_agrees_42 : decode cX7_agrees 42 = .ok (.iload 5, 2) := by decide +kernel
theorem dX7_agrees_44 : decode cX7_agrees 44 = .ok (.aload_n 0, 1) := by decide +kernel
theorem dX7_agrees_45 : decode cX7_agrees 45 = .ok (.iload 4, 2) := by decide +kernel
theorem dX7_agrees_47 : decode cX7_agrees 47 = .ok (.iconst 2, 1) := by decide +kernel
theorem dX7_agrees_48 : decode cX7_agrees 48 = .ok (.iadd, 1) := by decide +kernel
theorem dX7_agrees_49 : decode cX7_agrees 49 = .ok (.invokevirtual 100, 3) := by decide +kernel
theorem dX7_agrees_52 : decode cX7_agrees 52 = .ok (.iconst 1, 1) := by decide +kernel
theorem dX7_agrees_53 : decode cX7_agrees 53 = .ok (.if_icmp .ne 7, 3) := by decide +kernel
theorem dX7_agrees_56 : decode cX7_agrees 56 = .ok (.iconst 1, 1) := by decide +kernel
theorem dX7_agrees_57 : decode cX7_agrees 57 = .ok (.goto 4, 3) := by decide +kernel
theorem dX7_agrees_60 : decode cX7_agrees 60 = .ok (.iconst 0, 1) := by decide +kernel
theorem dX7_agrees_61 : decode cX7_agrees 61 = .ok (.if_icmp .eq 5, 3) := by decide +kernel
theorem dX7_agrees_64 : decode cX7_agrees 64 = .ok (.iconst 0, 1) := by decide +kernel
theorem dX7_agrees_65 : decode cX7_agrees 65 = .ok (.ireturn, 1) := by decide +kernel
theorem dX7_agrees_66 : decode cX7_agrees 66 = .ok (.iinc 4 3, 3) := by decide +kernel
theorem dX7_agrees_69 : decode cX7_agrees 69 = .ok (.goto (-66), 3) := by decide +kernel
theorem dX7_agrees_72 : decode cX7_agrees 72 = .ok (.iconst 1, 1) := by decide +kernel
theorem dX7_agrees_73 : decode cX7_agrees 73 = .ok (.ireturn, 1) := by decide +kernel
theorem dX7_kindsBy_0 : decode cX7_kindsBy 0 = .ok (.iconst 0, 1) := by decide +kernel
theorem dX7_kindsBy_1 : decode cX7_kindsBy 1 = .ok (.istore_n 3, 1) := by decide +kernel
theorem dX7_kindsBy_2 : decode cX7_kindsBy 2 = .ok (.iconst 0, 1) := by decide +kernel
theorem dX7_kindsBy_3 : decode cX7_kindsBy 3 = .ok (.istore 4, 2) := by decide +kernel
theorem dX7_kindsBy_5 : decode cX7_kindsBy 5 = .ok (.iload 4, 2) := by decide +kernel
theorem dX7_kindsBy_7 : decode cX7_kindsBy 7 = .ok (.bipush 6, 2) := by decide +kernel
theorem dX7_kindsBy_9 : decode cX7_kindsBy 9 = .ok (.if_icmp .ge 43, 3) := by decide +kernel
theorem dX7_kindsBy_12 : decode cX7_kindsBy 12 = .ok (.aload_n 1, 1) := by decide +kernel
theorem dX7_kindsBy_13 : decode cX7_kindsBy 13 = .ok (.iload 4, 2) := by decide +kernel
theorem dX7_kindsBy_15 : decode cX7_kindsBy 15 = .ok (.aload_n 0, 1) := by decide +kernel
theorem dX7_kindsBy_16 : decode cX7_kindsBy 16 = .ok (.getfield 21, 3) := by decide +kernel
theorem dX7_kindsBy_19 : decode cX7_kindsBy 19 = .ok (.getfield 276, 3) := by decide +kernel
theorem dX7_kindsBy_22 : decode cX7_kindsBy 22 = .ok (.iload_n 2, 1) := by decide +kernel
theorem dX7_kindsBy_23 : decode cX7_kindsBy 23 = .ok (.iaload, 1) := by decide +kernel
theorem dX7_kindsBy_24 : decode cX7_kindsBy 24 = .ok (.aload_n 0, 1) := by decide +kernel
theorem dX7_kindsBy_25 : decode cX7_kindsBy 25 = .ok (.getfield 21, 3) := by decide +kernel
theorem dX7_kindsBy_28 : decode cX7_kindsBy 28 = .ok (.getfield 371, 3) := by decide +kernel
theorem dX7_kindsBy_31 : decode cX7_kindsBy 31 = .ok (.iload_n 2, 1) := by decide +kernel
theorem dX7_kindsBy_32 : decode cX7_kindsBy 32 = .ok (.iaload, 1) := by decide +kernel
theorem dX7_kindsBy_33 : decode cX7_kindsBy 33 = .ok (.invokestatic 279, 3) := by decide +kernel
theorem dX7_kindsBy_36 : decode cX7_kindsBy 36 = .ok (.ifCond .eq 10, 3) := by decide +kernel
theorem dX7_kindsBy_39 : decode cX7_kindsBy 39 = .ok (.iload_n 3, 1) := by decide +kernel
theorem dX7_kindsBy_40 : decode cX7_kindsBy 40 = .ok (.iconst 1, 1) := by decide +kernel
theorem dX7_kindsBy_41 : decode cX7_kindsBy 41 = .ok (.iload 4, 2) := by decide +kernel
theorem dX7_kindsBy_43 : decode cX7_kindsBy 43 = .ok (.ishl, 1) := by decide +kernel
theorem dX7_kindsBy_44 : decode cX7_kindsBy 44 = .ok (.ior, 1) := by decide +kernel
theorem dX7_kindsBy_45 : decode cX7_kindsBy 45 = .ok (.istore_n 3, 1) := by decide +kernel
theorem dX7_kindsBy_46 : decode cX7_kindsBy 46 = .ok (.iinc 4 1, 3) := by decide +kernel
theorem dX7_kindsBy_49 : decode cX7_kindsBy 49 = .ok (.goto (-44), 3) := by decide +kernel
theorem dX7_kindsBy_52 : decode cX7_kindsBy 52 = .ok (.iload_n 3, 1) := by decide +kernel
theorem dX7_kindsBy_53 : decode cX7_kindsBy 53 = .ok (.ireturn, 1) := by decide +kernel
theorem dJ6_bitCount_0f7a4_0 : decode cJ6_bitCount_0f7a4 0 = .ok (.iload_n 0, 1) := by decide +kernel
theorem dJ6_bitCount_0f7a4_1 : decode cJ6_bitCount_0f7a4 1 = .ok (.iload_n 0, 1) := by decide +kernel
theorem dJ6_bitCount_0f7a4_2 : decode cJ6_bitCount_0f7a4 2 = .ok (.iconst 1, 1) := by decide +kernel
theorem dJ6_bitCount_0f7a4_3 : decode cJ6_bitCount_0f7a4 3 = .ok (.iushr, 1) := by decide +kernel
theorem dJ6_bitCount_0f7a4_4 : decode cJ6_bitCount_0f7a4 4 = .ok (.ldc_w 265, 3) := by decide +kernel
theorem dJ6_bitCount_0f7a4_7 : decode cJ6_bitCount_0f7a4 7 = .ok (.iand, 1) := by decide +kernel
theorem dJ6_bitCount_0f7a4_8 : decode cJ6_bitCount_0f7a4 8 = .ok (.isub, 1) := by decide +kernel
theorem dJ6_bitCount_0f7a4_9 : decode cJ6_bitCount_0f7a4 9 = .ok (.istore_n 0, 1) := by decide +kernel
theorem dJ6_bitCount_0f7a4_10 : decode cJ6_bitCount_0f7a4 10 = .ok (.iload_n 0, 1) := by decide +kernel
theorem dJ6_bitCount_0f7a4_11 : decode cJ6_bitCount_0f7a4 11 = .ok (.ldc_w 266, 3) := by decide +kernel
theorem dJ6_bitCount_0f7a4_14 : decode cJ6_bitCount_0f7a4 14 = .ok (.iand, 1) := by decide +kernel
theorem dJ6_bitCount_0f7a4_15 : decode cJ6_bitCount_0f7a4 15 = .ok (.iload_n 0, 1) := by decide +kernel
theorem dJ6_bitCount_0f7a4_16 : decode cJ6_bitCount_0f7a4 16 = .ok (.iconst 2, 1) := by decide +kernel
theorem dJ6_bitCount_0f7a4_17 : decode cJ6_bitCount_0f7a4 17 = .ok (.iushr, 1) := by decide +kernel
theorem dJ6_bitCount_0f7a4_18 : decode cJ6_bitCount_0f7a4 18 = .ok (.ldc_w 266, 3) := by decide +kernel
theorem dJ6_bitCount_0f7a4_21 : decode cJ6_bitCount_0f7a4 21 = .ok (.iand, 1) := by decide +kernel
theorem dJ6_bitCount_0f7a4_22 : decode cJ6_bitCount_0f7a4 22 = .ok (.iadd, 1) := by decide +kernel
theorem dJ6_bitCount_0f7a4_23 : decode cJ6_bitCount_0f7a4 23 = .ok (.istore_n 0, 1) := by decide +kernel
theorem dJ6_bitCount_0f7a4_24 : decode cJ6_bitCount_0f7a4 24 = .ok (.iload_n 0, 1) := by decide +kernel
theorem dJ6_bitCount_0f7a4_25 : decode cJ6_bitCount_0f7a4 25 = .ok (.iload_n 0, 1) := by decide +kernel
theorem dJ6_bitCount_0f7a4_26 : decode cJ6_bitCount_0f7a4 26 = .ok (.iconst 4, 1) := by decide +kernel
theorem dJ6_bitCount_0f7a4_27 : decode cJ6_bitCount_0f7a4 27 = .ok (.iushr, 1) := by decide +kernel
theorem dJ6_bitCount_0f7a4_28 : decode cJ6_bitCount_0f7a4 28 = .ok (.iadd, 1) := by decide +kernel
theorem dJ6_bitCount_0f7a4_29 : decode cJ6_bitCount_0f7a4 29 = .ok (.ldc_w 267, 3) := by decide +kernel
theorem dJ6_bitCount_0f7a4_32 : decode cJ6_bitCount_0f7a4 32 = .ok (.iand, 1) := by decide +kernel
theorem dJ6_bitCount_0f7a4_33 : decode cJ6_bitCount_0f7a4 33 = .ok (.istore_n 0, 1) := by decide +kernel
theorem dJ6_bitCount_0f7a4_34 : decode cJ6_bitCount_0f7a4 34 = .ok (.iload_n 0, 1) := by decide +kernel
theorem dJ6_bitCount_0f7a4_35 : decode cJ6_bitCount_0f7a4 35 = .ok (.iload_n 0, 1) := by decide +kernel
theorem dJ6_bitCount_0f7a4_36 : decode cJ6_bitCount_0f7a4 36 = .ok (.bipush 8, 2) := by decide +kernel
theorem dJ6_bitCount_0f7a4_38 : decode cJ6_bitCount_0f7a4 38 = .ok (.iushr, 1) := by decide +kernel
theorem dJ6_bitCount_0f7a4_39 : decode cJ6_bitCount_0f7a4 39 = .ok (.iadd, 1) := by decide +kernel
theorem dJ6_bitCount_0f7a4_40 : decode cJ6_bitCount_0f7a4 40 = .ok (.istore_n 0, 1) := by decide +kernel
theorem dJ6_bitCount_0f7a4_41 : decode cJ6_bitCount_0f7a4 41 = .ok (.iload_n 0, 1) := by decide +kernel
theorem dJ6_bitCount_0f7a4_42 : decode cJ6_bitCount_0f7a4 42 = .ok (.iload_n 0, 1) := by decide +kernel
theorem dJ6_bitCount_0f7a4_43 : decode cJ6_bitCount_0f7a4 43 = .ok (.bipush 16, 2) := by decide +kernel
theorem dJ6_bitCount_0f7a4_45 : decode cJ6_bitCount_0f7a4 45 = .ok (.iushr, 1) := by decide +kernel
theorem dJ6_bitCount_0f7a4_46 : decode cJ6_bitCount_0f7a4 46 = .ok (.iadd, 1) := by decide +kernel
theorem dJ6_bitCount_0f7a4_47 : decode cJ6_bitCount_0f7a4 47 = .ok (.istore_n 0, 1) := by decide +kernel
theorem dJ6_bitCount_0f7a4_48 : decode cJ6_bitCount_0f7a4 48 = .ok (.iload_n 0, 1) := by decide +kernel
theorem dJ6_bitCount_0f7a4_49 : decode cJ6_bitCount_0f7a4 49 = .ok (.bipush 63, 2) := by decide +kernel
theorem dJ6_bitCount_0f7a4_51 : decode cJ6_bitCount_0f7a4 51 = .ok (.iand, 1) := by decide +kernel
theorem dJ6_bitCount_0f7a4_52 : decode cJ6_bitCount_0f7a4 52 = .ok (.ireturn, 1) := by decide +kernel
theorem dJ9_max_7cf53_0 : decode cJ9_max_7cf53 0 = .ok (.iload_n 0, 1) := by decide +kernel
theorem dJ9_max_7cf53_1 : decode cJ9_max_7cf53 1 = .ok (.iload_n 1, 1) := by decide +kernel
theorem dJ9_max_7cf53_2 : decode cJ9_max_7cf53 2 = .ok (.if_icmp .lt 7, 3) := by decide +kernel
theorem dJ9_max_7cf53_5 : decode cJ9_max_7cf53 5 = .ok (.iload_n 0, 1) := by decide +kernel
theorem dJ9_max_7cf53_6 : decode cJ9_max_7cf53 6 = .ok (.goto 4, 3) := by decide +kernel
theorem dJ9_max_7cf53_9 : decode cJ9_max_7cf53 9 = .ok (.iload_n 1, 1) := by decide +kernel
theorem dJ9_max_7cf53_10 : decode cJ9_max_7cf53 10 = .ok (.ireturn, 1) := by decide +kernel
theorem dJ9_min_7cf53_0 : decode cJ9_min_7cf53 0 = .ok (.iload_n 0, 1) := by decide +kernel
theorem dJ9_min_7cf53_1 : decode cJ9_min_7cf53 1 = .ok (.iload_n 1, 1) := by decide +kernel
theorem dJ9_min_7cf53_2 : decode cJ9_min_7cf53 2 = .ok (.if_icmp .gt 7, 3) := by decide +kernel
theorem dJ9_min_7cf53_5 : decode cJ9_min_7cf53 5 = .ok (.iload_n 0, 1) := by decide +kernel
theorem dJ9_min_7cf53_6 : decode cJ9_min_7cf53 6 = .ok (.goto 4, 3) := by decide +kernel
theorem dJ9_min_7cf53_9 : decode cJ9_min_7cf53 9 = .ok (.iload_n 1, 1) := by decide +kernel
theorem dJ9_min_7cf53_10 : decode cJ9_min_7cf53 10 = .ok (.ireturn, 1) := by decide +kernel
