theorem dX6_init_0 : decode cX6_init 0 = .ok (.aload_n 0, 1) := by decide +kernel
theorem dX6_init_1 : decode cX6_init 1 = .ok (.invokespecial 1, 3) := by decide +kernel
theorem dX6_init_4 : decode cX6_init 4 = .ok (.aload_n 0, 1) := by decide +kernel
theorem dX6_init_5 : decode cX6_init 5 = .ok (.sipush 1300, 3) := by decide +kernel
theorem dX6_init_8 : decode cX6_init 8 = .ok (.newarray .int, 2) := by decide +kernel
theorem dX6_init_10 : decode cX6_init 10 = .ok (.putfield 7, 3) := by decide +kernel
theorem dX6_init_13 : decode cX6_init 13 = .ok (.aload_n 0, 1) := by decide +kernel
theorem dX6_init_14 : decode cX6_init 14 = .ok (.iconst 2, 1) := by decide +kernel
theorem dX6_init_15 : decode cX6_init 15 = .ok (.newarray .int, 2) := by decide +kernel
theorem dX6_init_17 : decode cX6_init 17 = .ok (.putfield 13, 3) := by decide +kernel
theorem dX6_init_20 : decode cX6_init 20 = .ok (.aload_n 0, 1) := by decide +kernel
theorem dX6_init_21 : decode cX6_init 21 = .ok (.iconst 2, 1) := by decide +kernel
theorem dX6_init_22 : decode cX6_init 22 = .ok (.newarray .boolean, 2) := by decide +kernel
theorem dX6_init_24 : decode cX6_init 24 = .ok (.putfield 16, 3) := by decide +kernel
theorem dX6_init_27 : decode cX6_init 27 = .ok (.aload_n 0, 1) := by decide +kernel
theorem dX6_init_28 : decode cX6_init 28 = .ok (.bipush 20, 2) := by decide +kernel
theorem dX6_init_30 : decode cX6_init 30 = .ok (.newarray .int, 2) := by decide +kernel
theorem dX6_init_32 : decode cX6_init 32 = .ok (.putfield 20, 3) := by decide +kernel
theorem dX6_init_35 : decode cX6_init 35 = .ok (.aload_n 0, 1) := by decide +kernel
theorem dX6_init_36 : decode cX6_init 36 = .ok (.bipush 20, 2) := by decide +kernel
theorem dX6_init_38 : decode cX6_init 38 = .ok (.newarray .boolean, 2) := by decide +kernel
theorem dX6_init_40 : decode cX6_init 40 = .ok (.putfield 23, 3) := by decide +kernel
theorem dX6_init_43 : decode cX6_init 43 = .ok (.aload_n 0, 1) := by decide +kernel
theorem dX6_init_44 : decode cX6_init 44 = .ok (.bipush 9, 2) := by decide +kernel
theorem dX6_init_46 : decode cX6_init 46 = .ok (.newarray .int, 2) := by decide +kernel
theorem dX6_init_48 : decode cX6_init 48 = .ok (.putfield 26, 3) := by decide +kernel
theorem dX6_init_51 : decode cX6_init 51 = .ok (.aload_n 0, 1) := by decide +kernel
theorem dX6_init_52 : decode cX6_init 52 = .ok (.bipush 10, 2) := by decide +kernel
theorem dX6_init_54 : decode cX6_init 54 = .ok (.newarray .int, 2) := by decide +kernel
theorem dX6_init_56 : decode cX6_init 56 = .ok (.putfield 29, 3) := by decide +kernel
theorem dX6_init_59 : decode cX6_init 59 = .ok (.aload_n 0, 1) := by decide +kernel
theorem dX6_init_60 : decode cX6_init 60 = .ok (.bipush 10, 2) := by decide +kernel
theorem dX6_init_62 : decode cX6_init 62 = .ok (.newarray .int, 2) := by decide +kernel
theorem dX6_init_64 : decode cX6_init 64 = .ok (.putfield 32, 3) := by decide +kernel
theorem dX6_init_67 : decode cX6_init 67 = .ok (.aload_n 0, 1) := by decide +kernel
theorem dX6_init_68 : decode cX6_init 68 = .ok (.iconst 3, 1) := by decide +kernel
theorem dX6_init_69 : decode cX6_init 69 = .ok (.iconst 2, 1) := by decide +kernel
theorem dX6_init_70 : decode cX6_init 70 = .ok (.invokevirtual 35, 3) := by decide +kernel
theorem dX6_init_73 : decode cX6_init 73 = .ok (.aload_n 0, 1) := by decide +kernel
theorem dX6_init_74 : decode cX6_init 74 = .ok (.getfield 7, 3) := by decide +kernel
theorem dX6_init_77 : decode cX6_init 77 = .ok (.iconst 4, 1) := by decide +kernel
theorem dX6_init_78 : decode cX6_init 78 = .ok (.bipush 6, 2) := by decide +kernel
theorem dX6_init_80 : decode cX6_init 80 = .ok (.iastore, 1) := by decide +kernel
theorem dX6_init_81 : decode cX6_init 81 = .ok (.aload_n 0, 1) := by decide +kernel
theorem dX6_init_82 : decode cX6_init 82 = .ok (.getfield 7, 3) := by decide +kernel
theorem dX6_init_85 : decode cX6_init 85 = .ok (.iconst 5, 1) := by decide +kernel
theorem dX6_init_86 : decode cX6_init 86 = .ok (.iconst 3, 1) := by decide +kernel
theorem dX6_init_87 : decode cX6_init 87 = .ok (.iastore, 1) := by decide +kernel
theorem dX6_init_88 : decode cX6_init 88 = .ok (.aload_n 0, 1) := by decide +kernel
theorem dX6_init_89 : decode cX6_init 89 = .ok (.getfield 7, 3) := by decide +kernel
theorem dX6_init_92 : decode cX6_init 92 = .ok (.bipush 6, 2) := by decide +kernel
theorem dX6_init_94 : decode cX6_init 94 = .ok (.iconst 1, 1) := by decide +kernel
theorem dX6_init_95 : decode cX6_init 95 = .ok (.iastore, 1) := by decide +kernel
theorem dX6_init_96 : decode cX6_init 96 = .ok (.return_, 1) := by decide +kernel
theorem dX6_in_0 : decode cX6_in 0 = .ok (.lload_n 0, 1) := by decide +kernel
theorem dX6_in_1 : decode cX6_in 1 = .ok (.lload_n 2, 1) := by decide +kernel
theorem dX6_in_2 : decode cX6_in 2 = .ok (.lcmp, 1) := by decide +kernel
theorem dX6_in_3 : decode cX6_in 3 = .ok (.ifCond .lt 14, 3) := by decide +kernel
theorem dX6_in_6 : decode cX6_in 6 = .ok (.lload_n 0, 1) := by decide +kernel
theorem dX6_in_7 : decode cX6_in 7 = .ok (.lload 4, 2) := by decide +kernel
theorem dX6_in_9 : decode cX6_in 9 = .ok (.lcmp, 1) := by decide +kernel
theorem dX6_in_10 : decode cX6_in 10 = .ok (.ifCond .gt 7, 3) := by decide +kernel
theorem dX6_in_13 : decode cX6_in 13 = .ok (.iconst 1, 1) := by decide +kernel
theorem dX6_in_14 : decode cX6_in 14 = .ok (.goto 4, 3) := by decide +kernel
theorem dX6_in_17 : decode cX6_in 17 = .ok (.iconst 0, 1) := by decide +kernel
theorem dX6_in_18 : decode cX6_in 18 = .ok (.ireturn, 1) := by decide +kernel
theorem dX6_copy_0 : decode cX6_copy 0 = .ok (.iconst 0, 1) := by decide +kernel
theorem dX6_copy_1 : decode cX6_copy 1 = .ok (.istore_n 3, 1) := by decide +kernel
theorem dX6_copy_2 : decode cX6_copy 2 = .ok (.iload_n 3, 1) := by decide +kernel
theorem dX6_copy_3 : decode cX6_copy 3 = .ok (.bipush 52, 2) := by decide +kernel
theorem dX6_copy_5 : decode cX6_copy 5 = .ok (.if_icmp .ge 25, 3) := by decide +kernel
theorem dX6_copy_8 : decode cX6_copy 8 = .ok (.aload_n 0, 1) := by decide +kernel
theorem dX6_copy_9 : decode cX6_copy 9 = .ok (.getfield 7, 3) := by decide +kernel
theorem dX6_copy_12 : decode cX6_copy 12 = .ok (.iload_n 2, 1) := by decide +kernel
theorem dX6_copy_13 : decode cX6_copy 13 = .ok (.iload_n 3, 1) := by decide +kernel
theorem dX6_copy_14 : decode cX6_copy 14 = .ok (.iadd, 1) := by decide +kernel
theorem dX6_copy_15 : decode cX6_copy 15 = .ok (.aload_n 0, 1) := by decide +kernel
theorem dX6_copy_16 : decode cX6_copy 16 = .ok (.getfield 7, 3) := by decide +kernel
theorem dX6_copy_19 : decode cX6_copy 19 = .ok (.iload_n 1, 1) := by decide +kernel
theorem dX6_copy_20 : decode cX6_copy 20 = .ok (.iload_n 3, 1) := by decide +kernel
theorem dX6_copy_21 : decode cX6_copy 21 = .ok (.iadd, 1) := by decide +kernel
theorem dX6_copy_22 : decode cX6_copy 22 = .ok (.iaload, 1) := by decide +kernel
theorem dX6_copy_23 : decode cX6_copy 23 = .ok (.iastore, 1) := by decide +kernel
theorem dX6_copy_24 : decode cX6_copy 24 = .ok (.iinc 3 1, 3) := by decide +kernel
theorem dX6_copy_27 : decode cX6_copy 27 = .ok (.goto (-25), 3) := by decide +kernel
theorem dX6_copy_30 : decode cX6_copy 30 = .ok (.return_, 1) := by decide +kernel
theorem dX6_builds_0 : decode cX6_builds 0 = .ok (.aload_n 0, 1) := by decide +kernel
theorem dX6_builds_1 : decode cX6_builds 1 = .ok (.getfield 7, 3) := by decide +kernel
theorem dX6_builds_4 : decode cX6_builds 4 = .ok (.iconst 0, 1) := by decide +kernel
theorem dX6_builds_5 : decode cX6_builds 5 = .ok (.iload_n 1, 1) := by decide +kernel
theorem dX6_builds_6 : decode cX6_builds 6 = .ok (.iastore, 1) := by decide +kernel
theorem dX6_builds_7 : decode cX6_builds 7 = .ok (.aload_n 0, 1) := by decide +kernel
theorem dX6_builds_8 : decode cX6_builds 8 = .ok (.getfield 7, 3) := by decide +kernel
theorem dX6_builds_11 : decode cX6_builds 11 = .ok (.iconst 1, 1) := by decide +kernel
theorem dX6_builds_12 : decode cX6_builds 12 = .ok (.iload_n 2, 1) := by decide +kernel
theorem dX6_builds_13 : decode cX6_builds 13 = .ok (.iastore, 1) := by decide +kernel
theorem dX6_builds_14 : decode cX6_builds 14 = .ok (.aload_n 0, 1) := by decide +kernel
theorem dX6_builds_15 : decode cX6_builds 15 = .ok (.getfield 7, 3) := by decide +kernel
theorem dX6_builds_18 : decode cX6_builds 18 = .ok (.iconst 2, 1) := by decide +kernel
theorem dX6_builds_19 : decode cX6_builds 19 = .ok (.iconst 0, 1) := by decide +kernel
theorem dX6_builds_20 : decode cX6_builds 20 = .ok (.iastore, 1) := by decide +kernel
theorem dX6_builds_21 : decode cX6_builds 21 = .ok (.aload_n 0, 1) := by decide +kernel
theorem dX6_builds_22 : decode cX6_builds 22 = .ok (.getfield 7, 3) := by decide +kernel
theorem dX6_builds_25 : decode cX6_builds 25 = .ok (.iconst 3, 1) := by decide +kernel
theorem dX6_builds_26 : decode cX6_builds 26 = .ok (.iconst 0, 1) := by decide +kernel
theorem dX6_builds_27 : decode cX6_builds 27 = .ok (.iastore, 1) := by decide +kernel
theorem dX6_builds_28 : decode cX6_builds 28 = .ok (.iconst 0, 1) := by decide +kernel
theorem dX6_builds_29 : decode cX6_builds 29 = .ok (.istore_n 3, 1) := by decide +kernel
theorem dX6_builds_30 : decode cX6_builds 30 = .ok (.iload_n 3, 1) := by decide +kernel
theorem dX6_builds_31 : decode cX6_builds 31 = .ok (.bipush 9, 2) := by decide +kernel
theorem dX6_builds_33 : decode cX6_builds 33 = .ok (.if_icmp .ge 39, 3) := by decide +kernel
theorem dX6_builds_36 : decode cX6_builds 36 = .ok (.aload_n 0, 1) := by decide +kernel
theorem dX6_builds_37 : decode cX6_builds 37 = .ok (.getfield 7, 3) := by decide +kernel
theorem dX6_builds_40 : decode cX6_builds 40 = .ok (.bipush 25, 2) := by decide +kernel
theorem dX6_builds_42 : decode cX6_builds 42 = .ok (.iload_n 3, 1) := by decide +kernel
theorem dX6_builds_43 : decode cX6_builds 43 = .ok (.iadd, 1) := by decide +kernel
theorem dX6_builds_44 : decode cX6_builds 44 = .ok (.iconst 1, 1) := by decide +kernel
theorem dX6_builds_45 : decode cX6_builds 45 = .ok (.iastore, 1) := by decide +kernel
theorem dX6_builds_46 : decode cX6_builds 46 = .ok (.aload_n 0, 1) := by decide +kernel
theorem dX6_builds_47 : decode cX6_builds 47 = .ok (.getfield 7, 3) := by decide +kernel
theorem dX6_builds_50 : decode cX6_builds 50 = .ok (.bipush 34, 2) := by decide +kernel
theorem dX6_builds_52 : decode cX6_builds 52 = .ok (.iload_n 3, 1) := by decide +kernel
theorem dX6_builds_53 : decode cX6_builds 53 = .ok (.iadd, 1) := by decide +kernel
theorem dX6_builds_54 : decode cX6_builds 54 = .ok (.iconst (-1), 1) := by decide +kernel
theorem dX6_builds_55 : decode cX6_builds 55 = .ok (.iastore, 1) := by decide +kernel
theorem dX6_builds_56 : decode cX6_builds 56 = .ok (.aload_n 0, 1) := by decide +kernel
theorem dX6_builds_57 : decode cX6_builds 57 = .ok (.getfield 7, 3) := by decide +kernel
theorem dX6_builds_60 : decode cX6_builds 60 = .ok (.bipush 43, 2) := by decide +kernel
theorem dX6_builds_62 : decode cX6_builds 62 = .ok (.iload_n 3, 1) := by decide +kernel
theorem dX6_builds_63 : decode cX6_builds 63 = .ok (.iadd, 1) := by decide +kernel
theorem dX6_builds_64 : decode cX6_builds 64 = .ok (.iconst (-1), 1) := by decide +kernel
theorem dX6_builds_65 : decode cX6_builds 65 = .ok (.iastore, 1) := by decide +kernel
theorem dX6_builds_66 : decode cX6_builds 66 = .ok (.iinc 3 1, 3) := by decide +kernel
theorem dX6_builds_69 : decode cX6_builds 69 = .ok (.goto (-39), 3) := by decide +kernel
theorem dX6_builds_72 : decode cX6_builds 72 = .ok (.return_, 1) := by decide +kernel
theorem dX6_minds_0 : decode cX6_minds 0 = .ok (.aload_n 0, 1) := by decide +kernel
theorem dX6_minds_1 : decode cX6_minds 1 = .ok (.getfield 39, 3) := by decide +kernel
theorem dX6_minds_4 : decode cX6_minds 4 = .ok (.bipush 20, 2) := by decide +kernel
theorem dX6_minds_6 : decode cX6_minds 6 = .ok (.if_icmp .ne 51, 3) := by decide +kernel
theorem dX6_minds_9 : decode cX6_minds 9 = .ok (.iconst 0, 1) := by decide +kernel
theorem dX6_minds_10 : decode cX6_minds 10 = .ok (.istore_n 1, 1) := by decide +kernel
theorem dX6_minds_11 : decode cX6_minds 11 = .ok (.iload_n 1, 1) := by decide +kernel
theorem dX6_minds_12 : decode cX6_minds 12 = .ok (.sipush 988, 3) := by decide +kernel
theorem dX6_minds_15 : decode cX6_minds 15 = .ok (.if_icmp .ge 32, 3) := by decide +kernel
theorem dX6_minds_18 : decode cX6_minds 18 = .ok (.aload_n 0, 1) := by decide +kernel
theorem dX6_minds_19 : decode cX6_minds 19 = .ok (.getfield 7, 3) := by decide +kernel
theorem dX6_minds_22 : decode cX6_minds 22 = .ok (.sipush 260, 3) := by decide +kernel
theorem dX6_minds_25 : decode cX6_minds 25 = .ok (.iload_n 1, 1) := by decide +kernel
theorem dX6_minds_26 : decode cX6_minds 26 = .ok (.iadd, 1) := by decide +kernel
theorem dX6_minds_27 : decode cX6_minds 27 = .ok (.aload_n 0, 1) := by decide +kernel
theorem dX6_minds_28 : decode cX6_minds 28 = .ok (.getfield 7, 3) := by decide +kernel
theorem dX6_minds_31 : decode cX6_minds 31 = .ok (.sipush 260, 3) := by decide +kernel
theorem dX6_minds_34 : decode cX6_minds 34 = .ok (.iload_n 1, 1) := by decide +kernel
theorem dX6_minds_35 : decode cX6_minds 35 = .ok (.iadd, 1) := by decide +kernel
theorem dX6_minds_36 : decode cX6_minds 36 = .ok (.bipush 52, 2) := by decide +kernel
theorem dX6_minds_38 : decode cX6_minds 38 = .ok (.iadd, 1) := by decide +kernel
theorem dX6_minds_39 : decode cX6_minds 39 = .ok (.iaload, 1) := by decide +kernel
theorem dX6_minds_40 : decode cX6_minds 40 = .ok (.iastore, 1) := by decide +kernel
theorem dX6_minds_41 : decode cX6_minds 41 = .ok (.iinc 1 1, 3) := by decide +kernel
theorem dX6_minds_44 : decode cX6_minds 44 = .ok (.goto (-33), 3) := by decide +kernel
theorem dX6_minds_47 : decode cX6_minds 47 = .ok (.aload_n 0, 1) := by decide +kernel
theorem dX6_minds_48 : decode cX6_minds 48 = .ok (.dup, 1) := by decide +kernel
theorem dX6_minds_49 : decode cX6_minds 49 = .ok (.getfield 39, 3) := by decide +kernel
theorem dX6_minds_52 : decode cX6_minds 52 = .ok (.iconst 1, 1) := by decide +kernel
theorem dX6_minds_53 : decode cX6_minds 53 = .ok (.isub, 1) := by decide +kernel
theorem dX6_minds_54 : decode cX6_minds 54 = .ok (.putfield 39, 3) := by decide +kernel
theorem dX6_minds_57 : decode cX6_minds 57 = .ok (.aload_n 0, 1) := by decide +kernel
theorem dX6_minds_58 : decode cX6_minds 58 = .ok (.iconst 0, 1) := by decide +kernel
theorem dX6_minds_59 : decode cX6_minds 59 = .ok (.sipush 260, 3) := by decide +kernel
theorem dX6_minds_62 : decode cX6_minds 62 = .ok (.bipush 52, 2) := by decide +kernel
theorem dX6_minds_64 : decode cX6_minds 64 = .ok (.aload_n 0, 1) := by decide +kernel
theorem dX6_minds_65 : decode cX6_minds 65 = .ok (.getfield 39, 3) := by decide +kernel
theorem dX6_minds_68 : decode cX6_minds 68 = .ok (.imul, 1) := by decide +kernel
theorem dX6_minds_69 : decode cX6_minds 69 = .ok (.iadd, 1) := by decide +kernel
theorem dX6_minds_70 : decode cX6_minds 70 = .ok (.invokevirtual 43, 3) := by decide +kernel
theorem dX6_minds_73 : decode cX6_minds 73 = .ok (.aload_n 0, 1) := by decide +kernel
theorem dX6_minds_74 : decode cX6_minds 74 = .ok (.dup, 1) := by decide +kernel
theorem dX6_minds_75 : decode cX6_minds 75 = .ok (.getfield 39, 3) := by decide +kernel
theorem dX6_minds_78 : decode cX6_minds 78 = .ok (.iconst 1, 1) := by decide +kernel
theorem dX6_minds_79 : decode cX6_minds 79 = .ok (.iadd, 1) := by decide +kernel
theorem dX6_minds_80 : decode cX6_minds 80 = .ok (.putfield 39, 3) := by decide +kernel
theorem dX6_minds_83 : decode cX6_minds 83 = .ok (.return_, 1) := by decide +kernel
theorem dX6_cells_0 : decode cX6_cells 0 = .ok (.aload_n 0, 1) := by decide +kernel
theorem dX6_cells_1 : decode cX6_cells 1 = .ok (.getfield 7, 3) := by decide +kernel
theorem dX6_cells_4 : decode cX6_cells 4 = .ok (.iconst 0, 1) := by decide +kernel
theorem dX6_cells_5 : decode cX6_cells 5 = .ok (.iaload, 1) := by decide +kernel
theorem dX6_cells_6 : decode cX6_cells 6 = .ok (.aload_n 0, 1) := by decide +kernel
theorem dX6_cells_7 : decode cX6_cells 7 = .ok (.getfield 7, 3) := by decide +kernel
theorem dX6_cells_10 : decode cX6_cells 10 = .ok (.iconst 1, 1) := by decide +kernel
theorem dX6_cells_11 : decode cX6_cells 11 = .ok (.iaload, 1) := by decide +kernel
theorem dX6_cells_12 : decode cX6_cells 12 = .ok (.imul, 1) := by decide +kernel
theorem dX6_cells_13 : decode cX6_cells 13 = .ok (.ireturn, 1) := by decide +kernel
theorem dX6_isCell_0 : decode cX6_isCell 0 = .ok (.iload_n 1, 1) := by decide +kernel
theorem dX6_isCell_1 : decode cX6_isCell 1 = .ok (.i2l, 1) := by decide +kernel
theorem dX6_isCell_2 : decode cX6_isCell 2 = .ok (.lconst 0, 1) := by decide +kernel
theorem dX6_isCell_3 : decode cX6_isCell 3 = .ok (.aload_n 0, 1) := by decide +kernel
theorem dX6_isCell_4 : decode cX6_isCell 4 = .ok (.invokevirtual 46, 3) := by decide +kernel
theorem dX6_isCell_7 : decode cX6_isCell 7 = .ok (.iconst 1, 1) := by decide +kernel
theorem dX6_isCell_8 : decode cX6_isCell 8 = .ok (.isub, 1) := by decide +kernel
theorem dX6_isCell_9 : decode cX6_isCell 9 = .ok (.i2l, 1) := by decide +kernel
theorem dX6_isCell_10 : decode cX6_isCell 10 = .ok (.invokestatic 50, 3) := by decide +kernel
theorem dX6_isCell_13 : decode cX6_isCell 13 = .ok (.ireturn, 1) := by decide +kernel
theorem dX6_isTruck_0 : decode cX6_isTruck 0 = .ok (.iload_n 1, 1) := by decide +kernel
theorem dX6_isTruck_1 : decode cX6_isTruck 1 = .ok (.i2l, 1) := by decide +kernel
theorem dX6_isTruck_2 : decode cX6_isTruck 2 = .ok (.lconst 0, 1) := by decide +kernel
theorem dX6_isTruck_3 : decode cX6_isTruck 3 = .ok (.aload_n 0, 1) := by decide +kernel
theorem dX6_isTruck_4 : decode cX6_isTruck 4 = .ok (.getfield 7, 3) := by decide +kernel
theorem dX6_isTruck_7 : decode cX6_isTruck 7 = .ok (.iconst 3, 1) := by decide +kernel
theorem dX6_isTruck_8 : decode cX6_isTruck 8 = .ok (.iaload, 1) := by decide +kernel
theorem dX6_isTruck_9 : decode cX6_isTruck 9 = .ok (.iconst 1, 1) := by decide +kernel
theorem dX6_isTruck_10 : decode cX6_isTruck 10 = .ok (.isub, 1) := by decide +kernel
theorem dX6_isTruck_11 : decode cX6_isTruck 11 = .ok (.i2l, 1) := by decide +kernel
theorem dX6_isTruck_12 : decode cX6_isTruck 12 = .ok (.invokestatic 50, 3) := by decide +kernel
theorem dX6_isTruck_15 : decode cX6_isTruck 15 = .ok (.ireturn, 1) := by decide +kernel
theorem dX6_isPoured_0 : decode cX6_isPoured 0 = .ok (.aload_n 0, 1) := by decide +kernel
theorem dX6_isPoured_1 : decode cX6_isPoured 1 = .ok (.getfield 7, 3) := by decide +kernel
theorem dX6_isPoured_4 : decode cX6_isPoured 4 = .ok (.iload_n 1, 1) := by decide +kernel
theorem dX6_isPoured_5 : decode cX6_isPoured 5 = .ok (.bipush 43, 2) := by decide +kernel
theorem dX6_isPoured_7 : decode cX6_isPoured 7 = .ok (.iadd, 1) := by decide +kernel
theorem dX6_isPoured_8 : decode cX6_isPoured 8 = .ok (.iload_n 2, 1) := by decide +kernel
theorem dX6_isPoured_9 : decode cX6_isPoured 9 = .ok (.iadd, 1) := by decide +kernel
theorem dX6_isPoured_10 : decode cX6_isPoured 10 = .ok (.iaload, 1) := by decide +kernel
theorem dX6_isPoured_11 : decode cX6_isPoured 11 = .ok (.iconst (-1), 1) := by decide +kernel
theorem dX6_isPoured_12 : decode cX6_isPoured 12 = .ok (.if_icmp .eq 7, 3) := by decide +kernel
theorem dX6_isPoured_15 : decode cX6_isPoured 15 = .ok (.iconst 1, 1) := by decide +kernel
theorem dX6_isPoured_16 : decode cX6_isPoured 16 = .ok (.goto 4, 3) := by decide +kernel
theorem dX6_isPoured_19 : decode cX6_isPoured 19 = .ok (.iconst 0, 1) := by decide +kernel
theorem dX6_isPoured_20 : decode cX6_isPoured 20 = .ok (.ireturn, 1) := by decide +kernel
theorem dX6_used_0 : decode cX6_used 0 = .ok (.iconst 0, 1) := by decide +kernel
theorem dX6_used_1 : decode cX6_used 1 = .ok (.istore_n 2, 1) := by decide +kernel
theorem dX6_used_2 : decode cX6_used 2 = .ok (.iconst 0, 1) := by decide +kernel
theorem dX6_used_3 : decode cX6_used 3 = .ok (.istore_n 3, 1) := by decide +kernel
theorem dX6_used_4 : decode cX6_used 4 = .ok (.iload_n 3, 1) := by decide +kernel
theorem dX6_used_5 : decode cX6_used 5 = .ok (.bipush 9, 2) := by decide +kernel
theorem dX6_used_7 : decode cX6_used 7 = .ok (.if_icmp .ge 36, 3) := by decide +kernel
theorem dX6_used_10 : decode cX6_used 10 = .ok (.iload_n 2, 1) := by decide +kernel
theorem dX6_used_11 : decode cX6_used 11 = .ok (.aload_n 0, 1) := by decide +kernel
theorem dX6_used_12 : decode cX6_used 12 = .ok (.iload_n 1, 1) := by decide +kernel
theorem dX6_used_13 : decode cX6_used 13 = .ok (.iload_n 3, 1) := by decide +kernel
theorem dX6_used_14 : decode cX6_used 14 = .ok (.invokevirtual 54, 3) := by decide +kernel
theorem dX6_used_17 : decode cX6_used 17 = .ok (.ifCond .eq 17, 3) := by decide +kernel
theorem dX6_used_20 : decode cX6_used 20 = .ok (.aload_n 0, 1) := by decide +kernel
theorem dX6_used_21 : decode cX6_used 21 = .ok (.getfield 7, 3) := by decide +kernel
theorem dX6_used_24 : decode cX6_used 24 = .ok (.iload_n 1, 1) := by decide +kernel
theorem dX6_used_25 : decode cX6_used 25 = .ok (.bipush 25, 2) := by decide +kernel
theorem dX6_used_27 : decode cX6_used 27 = .ok (.iadd, 1) := by decide +kernel
theorem dX6_used_28 : decode cX6_used 28 = .ok (.iload_n 3, 1) := by decide +kernel
theorem dX6_used_29 : decode cX6_used 29 = .ok (.iadd, 1) := by decide +kernel
theorem dX6_used_30 : decode cX6_used 30 = .ok (.iaload, 1) := by decide +kernel
theorem dX6_used_31 : decode cX6_used 31 = .ok (.goto 4, 3) := by decide +kernel
theorem dX6_used_34 : decode cX6_used 34 = .ok (.iconst 0, 1) := by decide +kernel
theorem dX6_used_35 : decode cX6_used 35 = .ok (.iadd, 1) := by decide +kernel
theorem dX6_used_36 : decode cX6_used 36 = .ok (.istore_n 2, 1) := by decide +kernel
theorem dX6_used_37 : decode cX6_used 37 = .ok (.iinc 3 1, 3) := by decide +kernel
theorem dX6_used_40 : decode cX6_used 40 = .ok (.goto (-36), 3) := by decide +kernel
theorem dX6_used_43 : decode cX6_used 43 = .ok (.iload_n 2, 1) := by decide +kernel
theorem dX6_used_44 : decode cX6_used 44 = .ok (.ireturn, 1) := by decide +kernel
theorem dX6_brought_0 : decode cX6_brought 0 = .ok (.iconst 0, 1) := by decide +kernel
theorem dX6_brought_1 : decode cX6_brought 1 = .ok (.istore_n 3, 1) := by decide +kernel
theorem dX6_brought_2 : decode cX6_brought 2 = .ok (.iconst 0, 1) := by decide +kernel
theorem dX6_brought_3 : decode cX6_brought 3 = .ok (.istore 4, 2) := by decide +kernel
theorem dX6_brought_5 : decode cX6_brought 5 = .ok (.iload 4, 2) := by decide +kernel
theorem dX6_brought_7 : decode cX6_brought 7 = .ok (.aload_n 0, 1) := by decide +kernel
theorem dX6_brought_8 : decode cX6_brought 8 = .ok (.getfield 7, 3) := by decide +kernel
theorem dX6_brought_11 : decode cX6_brought 11 = .ok (.iload_n 1, 1) := by decide +kernel
theorem dX6_brought_12 : decode cX6_brought 12 = .ok (.iconst 3, 1) := by decide +kernel
theorem dX6_brought_13 : decode cX6_brought 13 = .ok (.iadd, 1) := by decide +kernel
theorem dX6_brought_14 : decode cX6_brought 14 = .ok (.iaload, 1) := by decide +kernel
theorem dX6_brought_15 : decode cX6_brought 15 = .ok (.if_icmp .ge 44, 3) := by decide +kernel
theorem dX6_brought_18 : decode cX6_brought 18 = .ok (.iload_n 3, 1) := by decide +kernel
theorem dX6_brought_19 : decode cX6_brought 19 = .ok (.aload_n 0, 1) := by decide +kernel
theorem dX6_brought_20 : decode cX6_brought 20 = .ok (.getfield 7, 3) := by decide +kernel
theorem dX6_brought_23 : decode cX6_brought 23 = .ok (.iload_n 1, 1) := by decide +kernel
theorem dX6_brought_24 : decode cX6_brought 24 = .ok (.bipush 7, 2) := by decide +kernel
theorem dX6_brought_26 : decode cX6_brought 26 = .ok (.iadd, 1) := by decide +kernel
theorem dX6_brought_27 : decode cX6_brought 27 = .ok (.iload 4, 2) := by decide +kernel
theorem dX6_brought_29 : decode cX6_brought 29 = .ok (.iadd, 1) := by decide +kernel
theorem dX6_brought_30 : decode cX6_brought 30 = .ok (.iaload, 1) := by decide +kernel
theorem dX6_brought_31 : decode cX6_brought 31 = .ok (.iload_n 2, 1) := by decide +kernel
theorem dX6_brought_32 : decode cX6_brought 32 = .ok (.if_icmp .gt 18, 3) := by decide +kernel
theorem dX6_brought_35 : decode cX6_brought 35 = .ok (.aload_n 0, 1) := by decide +kernel
theorem dX6_brought_36 : decode cX6_brought 36 = .ok (.getfield 7, 3) := by decide +kernel
theorem dX6_brought_39 : decode cX6_brought 39 = .ok (.iload_n 1, 1) := by decide +kernel
theorem dX6_brought_40 : decode cX6_brought 40 = .ok (.bipush 16, 2) := by decide +kernel
theorem dX6_brought_42 : decode cX6_brought 42 = .ok (.iadd, 1) := by decide +kernel
theorem dX6_brought_43 : decode cX6_brought 43 = .ok (.iload 4, 2) := by decide +kernel
theorem dX6_brought_45 : decode cX6_brought 45 = .ok (.iadd, 1) := by decide +kernel
theorem dX6_brought_46 : decode cX6_brought 46 = .ok (.iaload, 1) := by decide +kernel
theorem dX6_brought_47 : decode cX6_brought 47 = .ok (.goto 4, 3) := by decide +kernel
theorem dX6_brought_50 : decode cX6_brought 50 = .ok (.iconst 0, 1) := by decide +kernel
theorem dX6_brought_51 : decode cX6_brought 51 = .ok (.iadd, 1) := by decide +kernel
theorem dX6_brought_52 : decode cX6_brought 52 = .ok (.istore_n 3, 1) := by decide +kernel
theorem dX6_brought_53 : decode cX6_brought 53 = .ok (.iinc 4 1, 3) := by decide +kernel
theorem dX6_brought_56 : decode cX6_brought 56 = .ok (.goto (-51), 3) := by decide +kernel
theorem dX6_brought_59 : decode cX6_brought 59 = .ok (.iload_n 3, 1) := by decide +kernel
theorem dX6_brought_60 : decode cX6_brought 60 = .ok (.ireturn, 1) := by decide +kernel
theorem dX6_beginOf_0 : decode cX6_beginOf 0 = .ok (.aload_n 0, 1) := by decide +kernel
theorem dX6_beginOf_1 : decode cX6_beginOf 1 = .ok (.iload_n 1, 1) := by decide +kernel
theorem dX6_beginOf_2 : decode cX6_beginOf 2 = .ok (.iload_n 2, 1) := by decide +kernel
theorem dX6_beginOf_3 : decode cX6_beginOf 3 = .ok (.invokevirtual 54, 3) := by decide +kernel
theorem dX6_beginOf_6 : decode cX6_beginOf 6 = .ok (.ifCond .ne 37, 3) := by decide +kernel
theorem dX6_beginOf_9 : decode cX6_beginOf 9 = .ok (.iload_n 2, 1) := by decide +kernel
theorem dX6_beginOf_10 : decode cX6_beginOf 10 = .ok (.aload_n 0, 1) := by decide +kernel
theorem dX6_beginOf_11 : decode cX6_beginOf 11 = .ok (.getfield 7, 3) := by decide +kernel
theorem dX6_beginOf_14 : decode cX6_beginOf 14 = .ok (.iload_n 1, 1) := by decide +kernel
theorem dX6_beginOf_15 : decode cX6_beginOf 15 = .ok (.iconst 0, 1) := by decide +kernel
theorem dX6_beginOf_16 : decode cX6_beginOf 16 = .ok (.iadd, 1) := by decide +kernel
theorem dX6_beginOf_17 : decode cX6_beginOf 17 = .ok (.iaload, 1) := by decide +kernel
theorem dX6_beginOf_18 : decode cX6_beginOf 18 = .ok (.if_icmp .lt 21, 3) := by decide +kernel
theorem dX6_beginOf_21 : decode cX6_beginOf 21 = .ok (.aload_n 0, 1) := by decide +kernel
theorem dX6_beginOf_22 : decode cX6_beginOf 22 = .ok (.iload_n 1, 1) := by decide +kernel
theorem dX6_beginOf_23 : decode cX6_beginOf 23 = .ok (.iload_n 2, 1) := by decide +kernel
theorem dX6_beginOf_24 : decode cX6_beginOf 24 = .ok (.aload_n 0, 1) := by decide +kernel
theorem dX6_beginOf_25 : decode cX6_beginOf 25 = .ok (.getfield 7, 3) := by decide +kernel
theorem dX6_beginOf_28 : decode cX6_beginOf 28 = .ok (.iload_n 1, 1) := by decide +kernel
theorem dX6_beginOf_29 : decode cX6_beginOf 29 = .ok (.iconst 0, 1) := by decide +kernel
theorem dX6_beginOf_30 : decode cX6_beginOf 30 = .ok (.iadd, 1) := by decide +kernel
theorem dX6_beginOf_31 : decode cX6_beginOf 31 = .ok (.iaload, 1) := by decide +kernel
theorem dX6_beginOf_32 : decode cX6_beginOf 32 = .ok (.isub, 1) := by decide +kernel
theorem dX6_beginOf_33 : decode cX6_beginOf 33 = .ok (.invokevirtual 54, 3) := by decide +kernel
theorem dX6_beginOf_36 : decode cX6_beginOf 36 = .ok (.ifCond .eq 7, 3) := by decide +kernel
theorem dX6_beginOf_39 : decode cX6_beginOf 39 = .ok (.iconst 1, 1) := by decide +kernel
theorem dX6_beginOf_40 : decode cX6_beginOf 40 = .ok (.goto 4, 3) := by decide +kernel
theorem dX6_beginOf_43 : decode cX6_beginOf 43 = .ok (.iconst 0, 1) := by decide +kernel
theorem dX6_beginOf_44 : decode cX6_beginOf 44 = .ok (.istore_n 3, 1) := by decide +kernel
theorem dX6_beginOf_45 : decode cX6_beginOf 45 = .ok (.iload_n 3, 1) := by decide +kernel
theorem dX6_beginOf_46 : decode cX6_beginOf 46 = .ok (.ifCond .ne 5, 3) := by decide +kernel
theorem dX6_beginOf_49 : decode cX6_beginOf 49 = .ok (.iconst (-1), 1) := by decide +kernel
theorem dX6_beginOf_50 : decode cX6_beginOf 50 = .ok (.ireturn, 1) := by decide +kernel
theorem dX6_beginOf_51 : decode cX6_beginOf 51 = .ok (.aload_n 0, 1) := by decide +kernel
theorem dX6_beginOf_52 : decode cX6_beginOf 52 = .ok (.iload_n 1, 1) := by decide +kernel
theorem dX6_beginOf_53 : decode cX6_beginOf 53 = .ok (.invokevirtual 58, 3) := by decide +kernel
theorem dX6_beginOf_56 : decode cX6_beginOf 56 = .ok (.aload_n 0, 1) := by decide +kernel
theorem dX6_beginOf_57 : decode cX6_beginOf 57 = .ok (.getfield 7, 3) := by decide +kernel
theorem dX6_beginOf_60 : decode cX6_beginOf 60 = .ok (.iload_n 1, 1) := by decide +kernel
theorem dX6_beginOf_61 : decode cX6_beginOf 61 = .ok (.bipush 25, 2) := by decide +kernel
theorem dX6_beginOf_63 : decode cX6_beginOf 63 = .ok (.iadd, 1) := by decide +kernel
theorem dX6_beginOf_64 : decode cX6_beginOf 64 = .ok (.iload_n 2, 1) := by decide +kernel
theorem dX6_beginOf_65 : decode cX6_beginOf 65 = .ok (.iadd, 1) := by decide +kernel
theorem dX6_beginOf_66 : decode cX6_beginOf 66 = .ok (.iaload, 1) := by decide +kernel
theorem dX6_beginOf_67 : decode cX6_beginOf 67 = .ok (.iadd, 1) := by decide +kernel
theorem dX6_beginOf_68 : decode cX6_beginOf 68 = .ok (.istore 4, 2) := by decide +kernel
theorem dX6_beginOf_70 : decode cX6_beginOf 70 = .ok (.aload_n 0, 1) := by decide +kernel
theorem dX6_beginOf_71 : decode cX6_beginOf 71 = .ok (.iload_n 1, 1) := by decide +kernel
theorem dX6_beginOf_72 : decode cX6_beginOf 72 = .ok (.aload_n 0, 1) := by decide +kernel
theorem dX6_beginOf_73 : decode cX6_beginOf 73 = .ok (.getfield 7, 3) := by decide +kernel
theorem dX6_beginOf_76 : decode cX6_beginOf 76 = .ok (.iload_n 1, 1) := by decide +kernel
theorem dX6_beginOf_77 : decode cX6_beginOf 77 = .ok (.iconst 2, 1) := by decide +kernel
theorem dX6_beginOf_78 : decode cX6_beginOf 78 = .ok (.iadd, 1) := by decide +kernel
theorem dX6_beginOf_79 : decode cX6_beginOf 79 = .ok (.iaload, 1) := by decide +kernel
theorem dX6_beginOf_80 : decode cX6_beginOf 80 = .ok (.invokevirtual 62, 3) := by decide +kernel
theorem dX6_beginOf_83 : decode cX6_beginOf 83 = .ok (.iload 4, 2) := by decide +kernel
theorem dX6_beginOf_85 : decode cX6_beginOf 85 = .ok (.if_icmp .lt 14, 3) := by decide +kernel
theorem dX6_beginOf_88 : decode cX6_beginOf 88 = .ok (.aload_n 0, 1) := by decide +kernel
theorem dX6_beginOf_89 : decode cX6_beginOf 89 = .ok (.getfield 7, 3) := by decide +kernel
theorem dX6_beginOf_92 : decode cX6_beginOf 92 = .ok (.iload_n 1, 1) := by decide +kernel
theorem dX6_beginOf_93 : decode cX6_beginOf 93 = .ok (.iconst 2, 1) := by decide +kernel
theorem dX6_beginOf_94 : decode cX6_beginOf 94 = .ok (.iadd, 1) := by decide +kernel
theorem dX6_beginOf_95 : decode cX6_beginOf 95 = .ok (.iaload, 1) := by decide +kernel
theorem dX6_beginOf_96 : decode cX6_beginOf 96 = .ok (.goto 5, 3) := by decide +kernel
theorem dX6_beginOf_99 : decode cX6_beginOf 99 = .ok (.ldc 66, 2) := by decide +kernel
theorem dX6_beginOf_101 : decode cX6_beginOf 101 = .ok (.istore 5, 2) := by decide +kernel
theorem dX6_beginOf_103 : decode cX6_beginOf 103 = .ok (.iconst 0, 1) := by decide +kernel
theorem dX6_beginOf_104 : decode cX6_beginOf 104 = .ok (.istore 6, 2) := by decide +kernel
theorem dX6_beginOf_106 : decode cX6_beginOf 106 = .ok (.iload 6, 2) := by decide +kernel
theorem dX6_beginOf_108 : decode cX6_beginOf 108 = .ok (.aload_n 0, 1) := by decide +kernel
theorem dX6_beginOf_109 : decode cX6_beginOf 109 = .ok (.getfield 7, 3) := by decide +kernel
theorem dX6_beginOf_112 : decode cX6_beginOf 112 = .ok (.iload_n 1, 1) := by decide +kernel
theorem dX6_beginOf_113 : decode cX6_beginOf 113 = .ok (.iconst 3, 1) := by decide +kernel
theorem dX6_beginOf_114 : decode cX6_beginOf 114 = .ok (.iadd, 1) := by decide +kernel
theorem dX6_beginOf_115 : decode cX6_beginOf 115 = .ok (.iaload, 1) := by decide +kernel
theorem dX6_beginOf_116 : decode cX6_beginOf 116 = .ok (.if_icmp .ge 77, 3) := by decide +kernel
theorem dX6_beginOf_119 : decode cX6_beginOf 119 = .ok (.iload 5, 2) := by decide +kernel
theorem dX6_beginOf_121 : decode cX6_beginOf 121 = .ok (.aload_n 0, 1) := by decide +kernel
theorem dX6_beginOf_122 : decode cX6_beginOf 122 = .ok (.getfield 7, 3) := by decide +kernel
theorem dX6_beginOf_125 : decode cX6_beginOf 125 = .ok (.iload_n 1, 1) := by decide +kernel
theorem dX6_beginOf_126 : decode cX6_beginOf 126 = .ok (.iconst 2, 1) := by decide +kernel
theorem dX6_beginOf_127 : decode cX6_beginOf 127 = .ok (.iadd, 1) := by decide +kernel
theorem dX6_beginOf_128 : decode cX6_beginOf 128 = .ok (.iaload, 1) := by decide +kernel
theorem dX6_beginOf_129 : decode cX6_beginOf 129 = .ok (.if_icmp .le 64, 3) := by decide +kernel
theorem dX6_beginOf_132 : decode cX6_beginOf 132 = .ok (.aload_n 0, 1) := by decide +kernel
theorem dX6_beginOf_133 : decode cX6_beginOf 133 = .ok (.getfield 7, 3) := by decide +kernel
theorem dX6_beginOf_136 : decode cX6_beginOf 136 = .ok (.iload_n 1, 1) := by decide +kernel
theorem dX6_beginOf_137 : decode cX6_beginOf 137 = .ok (.bipush 7, 2) := by decide +kernel
theorem dX6_beginOf_139 : decode cX6_beginOf 139 = .ok (.iadd, 1) := by decide +kernel
theorem dX6_beginOf_140 : decode cX6_beginOf 140 = .ok (.iload 6, 2) := by decide +kernel
theorem dX6_beginOf_142 : decode cX6_beginOf 142 = .ok (.iadd, 1) := by decide +kernel
theorem dX6_beginOf_143 : decode cX6_beginOf 143 = .ok (.iaload, 1) := by decide +kernel
theorem dX6_beginOf_144 : decode cX6_beginOf 144 = .ok (.istore 7, 2) := by decide +kernel
theorem dX6_beginOf_146 : decode cX6_beginOf 146 = .ok (.iload 7, 2) := by decide +kernel
theorem dX6_beginOf_148 : decode cX6_beginOf 148 = .ok (.aload_n 0, 1) := by decide +kernel
theorem dX6_beginOf_149 : decode cX6_beginOf 149 = .ok (.getfield 7, 3) := by decide +kernel
theorem dX6_beginOf_152 : decode cX6_beginOf 152 = .ok (.iload_n 1, 1) := by decide +kernel
theorem dX6_beginOf_153 : decode cX6_beginOf 153 = .ok (.iconst 2, 1) := by decide +kernel
theorem dX6_beginOf_154 : decode cX6_beginOf 154 = .ok (.iadd, 1) := by decide +kernel
theorem dX6_beginOf_155 : decode cX6_beginOf 155 = .ok (.iaload, 1) := by decide +kernel
theorem dX6_beginOf_156 : decode cX6_beginOf 156 = .ok (.if_icmp .le 27, 3) := by decide +kernel
theorem dX6_beginOf_159 : decode cX6_beginOf 159 = .ok (.iload 7, 2) := by decide +kernel
theorem dX6_beginOf_161 : decode cX6_beginOf 161 = .ok (.iload 5, 2) := by decide +kernel
theorem dX6_beginOf_163 : decode cX6_beginOf 163 = .ok (.if_icmp .ge 20, 3) := by decide +kernel
theorem dX6_beginOf_166 : decode cX6_beginOf 166 = .ok (.aload_n 0, 1) := by decide +kernel
theorem dX6_beginOf_167 : decode cX6_beginOf 167 = .ok (.iload_n 1, 1) := by decide +kernel
theorem dX6_beginOf_168 : decode cX6_beginOf 168 = .ok (.iload 7, 2) := by decide +kernel
theorem dX6_beginOf_170 : decode cX6_beginOf 170 = .ok (.invokevirtual 62, 3) := by decide +kernel
theorem dX6_beginOf_173 : decode cX6_beginOf 173 = .ok (.iload 4, 2) := by decide +kernel
theorem dX6_beginOf_175 : decode cX6_beginOf 175 = .ok (.if_icmp .lt 8, 3) := by decide +kernel
theorem dX6_beginOf_178 : decode cX6_beginOf 178 = .ok (.iload 7, 2) := by decide +kernel
theorem dX6_beginOf_180 : decode cX6_beginOf 180 = .ok (.goto 5, 3) := by decide +kernel
theorem dX6_beginOf_183 : decode cX6_beginOf 183 = .ok (.iload 5, 2) := by decide +kernel
theorem dX6_beginOf_185 : decode cX6_beginOf 185 = .ok (.istore 5, 2) := by decide +kernel
theorem dX6_beginOf_187 : decode cX6_beginOf 187 = .ok (.iinc 6 1, 3) := by decide +kernel
theorem dX6_beginOf_190 : decode cX6_beginOf 190 = .ok (.goto (-84), 3) := by decide +kernel
theorem dX6_beginOf_193 : decode cX6_beginOf 193 = .ok (.iload 5, 2) := by decide +kernel
theorem dX6_beginOf_195 : decode cX6_beginOf 195 = .ok (.ldc 66, 2) := by decide +kernel
theorem dX6_beginOf_197 : decode cX6_beginOf 197 = .ok (.if_icmp .ne 7, 3) := by decide +kernel
theorem dX6_beginOf_200 : decode cX6_beginOf 200 = .ok (.iconst (-1), 1) := by decide +kernel
theorem dX6_beginOf_201 : decode cX6_beginOf 201 = .ok (.goto 5, 3) := by decide +kernel
theorem dX6_beginOf_204 : decode cX6_beginOf 204 = .ok (.iload 5, 2) := by decide +kernel
theorem dX6_beginOf_206 : decode cX6_beginOf 206 = .ok (.ireturn, 1) := by decide +kernel
theorem dX6_pours_0 : decode cX6_pours 0 = .ok (.aload_n 0, 1) := by decide +kernel
theorem dX6_pours_1 : decode cX6_pours 1 = .ok (.iload_n 1, 1) := by decide +kernel
theorem dX6_pours_2 : decode cX6_pours 2 = .ok (.iload_n 2, 1) := by decide +kernel
theorem dX6_pours_3 : decode cX6_pours 3 = .ok (.invokevirtual 67, 3) := by decide +kernel
theorem dX6_pours_6 : decode cX6_pours 6 = .ok (.istore_n 3, 1) := by decide +kernel
theorem dX6_pours_7 : decode cX6_pours 7 = .ok (.iload_n 3, 1) := by decide +kernel
theorem dX6_pours_8 : decode cX6_pours 8 = .ok (.iconst (-1), 1) := by decide +kernel
theorem dX6_pours_9 : decode cX6_pours 9 = .ok (.if_icmp .ne 5, 3) := by decide +kernel
theorem dX6_pours_12 : decode cX6_pours 12 = .ok (.iconst 0, 1) := by decide +kernel
theorem dX6_pours_13 : decode cX6_pours 13 = .ok (.ireturn, 1) := by decide +kernel
theorem dX6_pours_14 : decode cX6_pours 14 = .ok (.aload_n 0, 1) := by decide +kernel
theorem dX6_pours_15 : decode cX6_pours 15 = .ok (.getfield 7, 3) := by decide +kernel
theorem dX6_pours_18 : decode cX6_pours 18 = .ok (.iload_n 1, 1) := by decide +kernel
theorem dX6_pours_19 : decode cX6_pours 19 = .ok (.bipush 34, 2) := by decide +kernel
theorem dX6_pours_21 : decode cX6_pours 21 = .ok (.iadd, 1) := by decide +kernel
theorem dX6_pours_22 : decode cX6_pours 22 = .ok (.iload_n 2, 1) := by decide +kernel
theorem dX6_pours_23 : decode cX6_pours 23 = .ok (.iadd, 1) := by decide +kernel
theorem dX6_pours_24 : decode cX6_pours 24 = .ok (.iload_n 3, 1) := by decide +kernel
theorem dX6_pours_25 : decode cX6_pours 25 = .ok (.iastore, 1) := by decide +kernel
theorem dX6_pours_26 : decode cX6_pours 26 = .ok (.aload_n 0, 1) := by decide +kernel
theorem dX6_pours_27 : decode cX6_pours 27 = .ok (.getfield 7, 3) := by decide +kernel
theorem dX6_pours_30 : decode cX6_pours 30 = .ok (.iload_n 1, 1) := by decide +kernel
theorem dX6_pours_31 : decode cX6_pours 31 = .ok (.bipush 43, 2) := by decide +kernel
theorem dX6_pours_33 : decode cX6_pours 33 = .ok (.iadd, 1) := by decide +kernel
theorem dX6_pours_34 : decode cX6_pours 34 = .ok (.iload_n 2, 1) := by decide +kernel
theorem dX6_pours_35 : decode cX6_pours 35 = .ok (.iadd, 1) := by decide +kernel
theorem dX6_pours_36 : decode cX6_pours 36 = .ok (.iload_n 3, 1) := by decide +kernel
theorem dX6_pours_37 : decode cX6_pours 37 = .ok (.aload_n 0, 1) := by decide +kernel
theorem dX6_pours_38 : decode cX6_pours 38 = .ok (.getfield 7, 3) := by decide +kernel
theorem dX6_pours_41 : decode cX6_pours 41 = .ok (.iload_n 1, 1) := by decide +kernel
theorem dX6_pours_42 : decode cX6_pours 42 = .ok (.bipush 25, 2) := by decide +kernel
theorem dX6_pours_44 : decode cX6_pours 44 = .ok (.iadd, 1) := by decide +kernel
theorem dX6_pours_45 : decode cX6_pours 45 = .ok (.iload_n 2, 1) := by decide +kernel
theorem dX6_pours_46 : decode cX6_pours 46 = .ok (.iadd, 1) := by decide +kernel
theorem dX6_pours_47 : decode cX6_pours 47 = .ok (.iaload, 1) := by decide +kernel
theorem dX6_pours_48 : decode cX6_pours 48 = .ok (.iadd, 1) := by decide +kernel
theorem dX6_pours_49 : decode cX6_pours 49 = .ok (.iastore, 1) := by decide +kernel
theorem dX6_pours_50 : decode cX6_pours 50 = .ok (.aload_n 0, 1) := by decide +kernel
theorem dX6_pours_51 : decode cX6_pours 51 = .ok (.getfield 7, 3) := by decide +kernel
theorem dX6_pours_54 : decode cX6_pours 54 = .ok (.iload_n 1, 1) := by decide +kernel
theorem dX6_pours_55 : decode cX6_pours 55 = .ok (.iconst 2, 1) := by decide +kernel
theorem dX6_pours_56 : decode cX6_pours 56 = .ok (.iadd, 1) := by decide +kernel
theorem dX6_pours_57 : decode cX6_pours 57 = .ok (.aload_n 0, 1) := by decide +kernel
theorem dX6_pours_58 : decode cX6_pours 58 = .ok (.getfield 7, 3) := by decide +kernel
theorem dX6_pours_61 : decode cX6_pours 61 = .ok (.iload_n 1, 1) := by decide +kernel
theorem dX6_pours_62 : decode cX6_pours 62 = .ok (.bipush 43, 2) := by decide +kernel
theorem dX6_pours_64 : decode cX6_pours 64 = .ok (.iadd, 1) := by decide +kernel
theorem dX6_pours_65 : decode cX6_pours 65 = .ok (.iload_n 2, 1) := by decide +kernel
theorem dX6_pours_66 : decode cX6_pours 66 = .ok (.iadd, 1) := by decide +kernel
theorem dX6_pours_67 : decode cX6_pours 67 = .ok (.iaload, 1) := by decide +kernel
theorem dX6_pours_68 : decode cX6_pours 68 = .ok (.iastore, 1) := by decide +kernel
theorem dX6_pours_69 : decode cX6_pours 69 = .ok (.iconst 1, 1) := by decide +kernel
theorem dX6_pours_70 : decode cX6_pours 70 = .ok (.ireturn, 1) := by decide +kernel
theorem dX6_poured_0 : decode cX6_poured 0 = .ok (.iconst 0, 1) := by decide +kernel
theorem dX6_poured_1 : decode cX6_poured 1 = .ok (.istore_n 1, 1) := by decide +kernel
theorem dX6_poured_2 : decode cX6_poured 2 = .ok (.iconst 0, 1) := by decide +kernel
theorem dX6_poured_3 : decode cX6_poured 3 = .ok (.istore_n 2, 1) := by decide +kernel
theorem dX6_poured_4 : decode cX6_poured 4 = .ok (.iload_n 2, 1) := by decide +kernel
theorem dX6_poured_5 : decode cX6_poured 5 = .ok (.aload_n 0, 1) := by decide +kernel
theorem dX6_poured_6 : decode cX6_poured 6 = .ok (.invokevirtual 46, 3) := by decide +kernel
theorem dX6_poured_9 : decode cX6_poured 9 = .ok (.if_icmp .ge 28, 3) := by decide +kernel
theorem dX6_poured_12 : decode cX6_poured 12 = .ok (.iload_n 1, 1) := by decide +kernel
theorem dX6_poured_13 : decode cX6_poured 13 = .ok (.aload_n 0, 1) := by decide +kernel
theorem dX6_poured_14 : decode cX6_poured 14 = .ok (.iconst 0, 1) := by decide +kernel
theorem dX6_poured_15 : decode cX6_poured 15 = .ok (.iload_n 2, 1) := by decide +kernel
theorem dX6_poured_16 : decode cX6_poured 16 = .ok (.invokevirtual 54, 3) := by decide +kernel
theorem dX6_poured_19 : decode cX6_poured 19 = .ok (.ifCond .eq 9, 3) := by decide +kernel
theorem dX6_poured_22 : decode cX6_poured 22 = .ok (.iconst 1, 1) := by decide +kernel
theorem dX6_poured_23 : decode cX6_poured 23 = .ok (.iload_n 2, 1) := by decide +kernel
theorem dX6_poured_24 : decode cX6_poured 24 = .ok (.ishl, 1) := by decide +kernel
theorem dX6_poured_25 : decode cX6_poured 25 = .ok (.goto 4, 3) := by decide +kernel
theorem dX6_poured_28 : decode cX6_poured 28 = .ok (.iconst 0, 1) := by decide +kernel
theorem dX6_poured_29 : decode cX6_poured 29 = .ok (.ior, 1) := by decide +kernel
theorem dX6_poured_30 : decode cX6_poured 30 = .ok (.istore_n 1, 1) := by decide +kernel
theorem dX6_poured_31 : decode cX6_poured 31 = .ok (.iinc 2 1, 3) := by decide +kernel
theorem dX6_poured_34 : decode cX6_poured 34 = .ok (.goto (-30), 3) := by decide +kernel
theorem dX6_poured_37 : decode cX6_poured 37 = .ok (.iload_n 1, 1) := by decide +kernel
theorem dX6_poured_38 : decode cX6_poured 38 = .ok (.ireturn, 1) := by decide +kernel
theorem dX6_ones_0 : decode cX6_ones 0 = .ok (.iconst 0, 1) := by decide +kernel
theorem dX6_ones_1 : decode cX6_ones 1 = .ok (.istore_n 1, 1) := by decide +kernel
theorem dX6_ones_2 : decode cX6_ones 2 = .ok (.iconst 0, 1) := by decide +kernel
theorem dX6_ones_3 : decode cX6_ones 3 = .ok (.istore_n 2, 1) := by decide +kernel
theorem dX6_ones_4 : decode cX6_ones 4 = .ok (.iload_n 2, 1) := by decide +kernel
theorem dX6_ones_5 : decode cX6_ones 5 = .ok (.bipush 9, 2) := by decide +kernel
theorem dX6_ones_7 : decode cX6_ones 7 = .ok (.if_icmp .ge 17, 3) := by decide +kernel
theorem dX6_ones_10 : decode cX6_ones 10 = .ok (.iload_n 1, 1) := by decide +kernel
theorem dX6_ones_11 : decode cX6_ones 11 = .ok (.iload_n 0, 1) := by decide +kernel
theorem dX6_ones_12 : decode cX6_ones 12 = .ok (.iload_n 2, 1) := by decide +kernel
theorem dX6_ones_13 : decode cX6_ones 13 = .ok (.ishr, 1) := by decide +kernel
theorem dX6_ones_14 : decode cX6_ones 14 = .ok (.iconst 1, 1) := by decide +kernel
theorem dX6_ones_15 : decode cX6_ones 15 = .ok (.iand, 1) := by decide +kernel
theorem dX6_ones_16 : decode cX6_ones 16 = .ok (.iadd, 1) := by decide +kernel
theorem dX6_ones_17 : decode cX6_ones 17 = .ok (.istore_n 1, 1) := by decide +kernel
theorem dX6_ones_18 : decode cX6_ones 18 = .ok (.iinc 2 1, 3) := by decide +kernel
theorem dX6_ones_21 : decode cX6_ones 21 = .ok (.goto (-17), 3) := by decide +kernel
theorem dX6_ones_24 : decode cX6_ones 24 = .ok (.iload_n 1, 1) := by decide +kernel
theorem dX6_ones_25 : decode cX6_ones 25 = .ok (.ireturn, 1) := by decide +kernel
theorem dX6_beyond_0 : decode cX6_beyond 0 = .ok (.aload_n 0, 1) := by decide +kernel
theorem dX6_beyond_1 : decode cX6_beyond 1 = .ok (.getfield 7, 3) := by decide +kernel
theorem dX6_beyond_4 : decode cX6_beyond 4 = .ok (.iload_n 1, 1) := by decide +kernel
theorem dX6_beyond_5 : decode cX6_beyond 5 = .ok (.iconst 0, 1) := by decide +kernel
theorem dX6_beyond_6 : decode cX6_beyond 6 = .ok (.iadd, 1) := by decide +kernel
theorem dX6_beyond_7 : decode cX6_beyond 7 = .ok (.iaload, 1) := by decide +kernel
theorem dX6_beyond_8 : decode cX6_beyond 8 = .ok (.istore_n 3, 1) := by decide +kernel
theorem dX6_beyond_9 : decode cX6_beyond 9 = .ok (.iload_n 2, 1) := by decide +kernel
theorem dX6_beyond_10 : decode cX6_beyond 10 = .ok (.i2l, 1) := by decide +kernel
theorem dX6_beyond_11 : decode cX6_beyond 11 = .ok (.lconst 0, 1) := by decide +kernel
theorem dX6_beyond_12 : decode cX6_beyond 12 = .ok (.iconst 3, 1) := by decide +kernel
theorem dX6_beyond_13 : decode cX6_beyond 13 = .ok (.iload_n 3, 1) := by decide +kernel
theorem dX6_beyond_14 : decode cX6_beyond 14 = .ok (.imul, 1) := by decide +kernel
theorem dX6_beyond_15 : decode cX6_beyond 15 = .ok (.aload_n 0, 1) := by decide +kernel
theorem dX6_beyond_16 : decode cX6_beyond 16 = .ok (.getfield 7, 3) := by decide +kernel
theorem dX6_beyond_19 : decode cX6_beyond 19 = .ok (.iload_n 1, 1) := by decide +kernel
theorem dX6_beyond_20 : decode cX6_beyond 20 = .ok (.iconst 1, 1) := by decide +kernel
theorem dX6_beyond_21 : decode cX6_beyond 21 = .ok (.iadd, 1) := by decide +kernel
theorem dX6_beyond_22 : decode cX6_beyond 22 = .ok (.iaload, 1) := by decide +kernel
theorem dX6_beyond_23 : decode cX6_beyond 23 = .ok (.imul, 1) := by decide +kernel
theorem dX6_beyond_24 : decode cX6_beyond 24 = .ok (.iconst 1, 1) := by decide +kernel
theorem dX6_beyond_25 : decode cX6_beyond 25 = .ok (.isub, 1) := by decide +kernel
theorem dX6_beyond_26 : decode cX6_beyond 26 = .ok (.i2l, 1) := by decide +kernel
theorem dX6_beyond_27 : decode cX6_beyond 27 = .ok (.invokestatic 50, 3) := by decide +kernel
theorem dX6_beyond_30 : decode cX6_beyond 30 = .ok (.ifCond .ne 5, 3) := by decide +kernel
theorem dX6_beyond_33 : decode cX6_beyond 33 = .ok (.iconst (-1), 1) := by decide +kernel
theorem dX6_beyond_34 : decode cX6_beyond 34 = .ok (.ireturn, 1) := by decide +kernel
theorem dX6_beyond_35 : decode cX6_beyond 35 = .ok (.iload_n 2, 1) := by decide +kernel
theorem dX6_beyond_36 : decode cX6_beyond 36 = .ok (.iconst 3, 1) := by decide +kernel
theorem dX6_beyond_37 : decode cX6_beyond 37 = .ok (.idiv, 1) := by decide +kernel
theorem dX6_beyond_38 : decode cX6_beyond 38 = .ok (.istore 4, 2) := by decide +kernel
theorem dX6_beyond_40 : decode cX6_beyond 40 = .ok (.iload_n 2, 1) := by decide +kernel
theorem dX6_beyond_41 : decode cX6_beyond 41 = .ok (.iconst 3, 1) := by decide +kernel
theorem dX6_beyond_42 : decode cX6_beyond 42 = .ok (.irem, 1) := by decide +kernel
theorem dX6_beyond_43 : decode cX6_beyond 43 = .ok (.ifCond .ne 29, 3) := by decide +kernel
theorem dX6_beyond_46 : decode cX6_beyond 46 = .ok (.iload 4, 2) := by decide +kernel
theorem dX6_beyond_48 : decode cX6_beyond 48 = .ok (.iload_n 3, 1) := by decide +kernel
theorem dX6_beyond_49 : decode cX6_beyond 49 = .ok (.iadd, 1) := by decide +kernel
theorem dX6_beyond_50 : decode cX6_beyond 50 = .ok (.iload_n 3, 1) := by decide +kernel
theorem dX6_beyond_51 : decode cX6_beyond 51 = .ok (.aload_n 0, 1) := by decide +kernel
theorem dX6_beyond_52 : decode cX6_beyond 52 = .ok (.getfield 7, 3) := by decide +kernel
theorem dX6_beyond_55 : decode cX6_beyond 55 = .ok (.iload_n 1, 1) := by decide +kernel
theorem dX6_beyond_56 : decode cX6_beyond 56 = .ok (.iconst 1, 1) := by decide +kernel
theorem dX6_beyond_57 : decode cX6_beyond 57 = .ok (.iadd, 1) := by decide +kernel
theorem dX6_beyond_58 : decode cX6_beyond 58 = .ok (.iaload, 1) := by decide +kernel
theorem dX6_beyond_59 : decode cX6_beyond 59 = .ok (.imul, 1) := by decide +kernel
theorem dX6_beyond_60 : decode cX6_beyond 60 = .ok (.if_icmp .ge 10, 3) := by decide +kernel
theorem dX6_beyond_63 : decode cX6_beyond 63 = .ok (.iload 4, 2) := by decide +kernel
theorem dX6_beyond_65 : decode cX6_beyond 65 = .ok (.iload_n 3, 1) := by decide +kernel
theorem dX6_beyond_66 : decode cX6_beyond 66 = .ok (.iadd, 1) := by decide +kernel
theorem dX6_beyond_67 : decode cX6_beyond 67 = .ok (.goto 4, 3) := by decide +kernel
theorem dX6_beyond_70 : decode cX6_beyond 70 = .ok (.iconst (-1), 1) := by decide +kernel
theorem dX6_beyond_71 : decode cX6_beyond 71 = .ok (.ireturn, 1) := by decide +kernel
theorem dX6_beyond_72 : decode cX6_beyond 72 = .ok (.iload_n 2, 1) := by decide +kernel
theorem dX6_beyond_73 : decode cX6_beyond 73 = .ok (.iconst 3, 1) := by decide +kernel
theorem dX6_beyond_74 : decode cX6_beyond 74 = .ok (.irem, 1) := by decide +kernel
theorem dX6_beyond_75 : decode cX6_beyond 75 = .ok (.iconst 1, 1) := by decide +kernel
theorem dX6_beyond_76 : decode cX6_beyond 76 = .ok (.if_icmp .ne 22, 3) := by decide +kernel
theorem dX6_beyond_79 : decode cX6_beyond 79 = .ok (.iload 4, 2) := by decide +kernel
theorem dX6_beyond_81 : decode cX6_beyond 81 = .ok (.iload_n 3, 1) := by decide +kernel
theorem dX6_beyond_82 : decode cX6_beyond 82 = .ok (.irem, 1) := by decide +kernel
theorem dX6_beyond_83 : decode cX6_beyond 83 = .ok (.iconst 1, 1) := by decide +kernel
theorem dX6_beyond_84 : decode cX6_beyond 84 = .ok (.iadd, 1) := by decide +kernel
theorem dX6_beyond_85 : decode cX6_beyond 85 = .ok (.iload_n 3, 1) := by decide +kernel
theorem dX6_beyond_86 : decode cX6_beyond 86 = .ok (.if_icmp .ge 10, 3) := by decide +kernel
theorem dX6_beyond_89 : decode cX6_beyond 89 = .ok (.iload 4, 2) := by decide +kernel
theorem dX6_beyond_91 : decode cX6_beyond 91 = .ok (.iconst 1, 1) := by decide +kernel
theorem dX6_beyond_92 : decode cX6_beyond 92 = .ok (.iadd, 1) := by decide +kernel
theorem dX6_beyond_93 : decode cX6_beyond 93 = .ok (.goto 4, 3) := by decide +kernel
theorem dX6_beyond_96 : decode cX6_beyond 96 = .ok (.iconst (-1), 1) := by decide +kernel
theorem dX6_beyond_97 : decode cX6_beyond 97 = .ok (.ireturn, 1) := by decide +kernel
theorem dX6_beyond_98 : decode cX6_beyond 98 = .ok (.iload 4, 2) := by decide +kernel
theorem dX6_beyond_100 : decode cX6_beyond 100 = .ok (.iload_n 3, 1) := by decide +kernel
theorem dX6_beyond_101 : decode cX6_beyond 101 = .ok (.irem, 1) := by decide +kernel
theorem dX6_beyond_102 : decode cX6_beyond 102 = .ok (.ifCond .le 10, 3) := by decide +kernel
theorem dX6_beyond_105 : decode cX6_beyond 105 = .ok (.iload 4, 2) := by decide +kernel
theorem dX6_beyond_107 : decode cX6_beyond 107 = .ok (.iconst 1, 1) := by decide +kernel
theorem dX6_beyond_108 : decode cX6_beyond 108 = .ok (.isub, 1) := by decide +kernel
theorem dX6_beyond_109 : decode cX6_beyond 109 = .ok (.goto 4, 3) := by decide +kernel
theorem dX6_beyond_112 : decode cX6_beyond 112 = .ok (.iconst (-1), 1) := by decide +kernel
theorem dX6_beyond_113 : decode cX6_beyond 113 = .ok (.ireturn, 1) := by decide +kernel
theorem dX6_isOpen_0 : decode cX6_isOpen 0 = .ok (.aload_n 0, 1) := by decide +kernel
theorem dX6_isOpen_1 : decode cX6_isOpen 1 = .ok (.iload_n 1, 1) := by decide +kernel
theorem dX6_isOpen_2 : decode cX6_isOpen 2 = .ok (.iload_n 2, 1) := by decide +kernel
theorem dX6_isOpen_3 : decode cX6_isOpen 3 = .ok (.invokevirtual 70, 3) := by decide +kernel
theorem dX6_isOpen_6 : decode cX6_isOpen 6 = .ok (.istore_n 3, 1) := by decide +kernel
theorem dX6_isOpen_7 : decode cX6_isOpen 7 = .ok (.iload_n 3, 1) := by decide +kernel
theorem dX6_isOpen_8 : decode cX6_isOpen 8 = .ok (.iconst (-1), 1) := by decide +kernel
theorem dX6_isOpen_9 : decode cX6_isOpen 9 = .ok (.if_icmp .eq 27, 3) := by decide +kernel
theorem dX6_isOpen_12 : decode cX6_isOpen 12 = .ok (.aload_n 0, 1) := by decide +kernel
theorem dX6_isOpen_13 : decode cX6_isOpen 13 = .ok (.iload_n 1, 1) := by decide +kernel
theorem dX6_isOpen_14 : decode cX6_isOpen 14 = .ok (.iload_n 2, 1) := by decide +kernel
theorem dX6_isOpen_15 : decode cX6_isOpen 15 = .ok (.iconst 3, 1) := by decide +kernel
theorem dX6_isOpen_16 : decode cX6_isOpen 16 = .ok (.idiv, 1) := by decide +kernel
theorem dX6_isOpen_17 : decode cX6_isOpen 17 = .ok (.invokevirtual 54, 3) := by decide +kernel
theorem dX6_isOpen_20 : decode cX6_isOpen 20 = .ok (.ifCond .eq 16, 3) := by decide +kernel
theorem dX6_isOpen_23 : decode cX6_isOpen 23 = .ok (.aload_n 0, 1) := by decide +kernel
theorem dX6_isOpen_24 : decode cX6_isOpen 24 = .ok (.iload_n 1, 1) := by decide +kernel
theorem dX6_isOpen_25 : decode cX6_isOpen 25 = .ok (.iload_n 3, 1) := by decide +kernel
theorem dX6_isOpen_26 : decode cX6_isOpen 26 = .ok (.invokevirtual 54, 3) := by decide +kernel
theorem dX6_isOpen_29 : decode cX6_isOpen 29 = .ok (.ifCond .ne 7, 3) := by decide +kernel
theorem dX6_isOpen_32 : decode cX6_isOpen 32 = .ok (.iconst 1, 1) := by decide +kernel
theorem dX6_isOpen_33 : decode cX6_isOpen 33 = .ok (.goto 4, 3) := by decide +kernel
theorem dX6_isOpen_36 : decode cX6_isOpen 36 = .ok (.iconst 0, 1) := by decide +kernel
theorem dX6_isOpen_37 : decode cX6_isOpen 37 = .ok (.ireturn, 1) := by decide +kernel
theorem dX6_isJoint_0 : decode cX6_isJoint 0 = .ok (.aload_n 0, 1) := by decide +kernel
theorem dX6_isJoint_1 : decode cX6_isJoint 1 = .ok (.iload_n 1, 1) := by decide +kernel
theorem dX6_isJoint_2 : decode cX6_isJoint 2 = .ok (.iload_n 2, 1) := by decide +kernel
theorem dX6_isJoint_3 : decode cX6_isJoint 3 = .ok (.invokevirtual 70, 3) := by decide +kernel
theorem dX6_isJoint_6 : decode cX6_isJoint 6 = .ok (.istore_n 3, 1) := by decide +kernel
theorem dX6_isJoint_7 : decode cX6_isJoint 7 = .ok (.iload_n 3, 1) := by decide +kernel
theorem dX6_isJoint_8 : decode cX6_isJoint 8 = .ok (.iconst (-1), 1) := by decide +kernel
theorem dX6_isJoint_9 : decode cX6_isJoint 9 = .ok (.if_icmp .eq 14, 3) := by decide +kernel
theorem dX6_isJoint_12 : decode cX6_isJoint 12 = .ok (.aload_n 0, 1) := by decide +kernel
theorem dX6_isJoint_13 : decode cX6_isJoint 13 = .ok (.iload_n 1, 1) := by decide +kernel
theorem dX6_isJoint_14 : decode cX6_isJoint 14 = .ok (.iload_n 2, 1) := by decide +kernel
theorem dX6_isJoint_15 : decode cX6_isJoint 15 = .ok (.iconst 3, 1) := by decide +kernel
theorem dX6_isJoint_16 : decode cX6_isJoint 16 = .ok (.idiv, 1) := by decide +kernel
theorem dX6_isJoint_17 : decode cX6_isJoint 17 = .ok (.invokevirtual 54, 3) := by decide +kernel
theorem dX6_isJoint_20 : decode cX6_isJoint 20 = .ok (.ifCond .ne 5, 3) := by decide +kernel
theorem dX6_isJoint_23 : decode cX6_isJoint 23 = .ok (.iconst 0, 1) := by decide +kernel
theorem dX6_isJoint_24 : decode cX6_isJoint 24 = .ok (.ireturn, 1) := by decide +kernel
theorem dX6_isJoint_25 : decode cX6_isJoint 25 = .ok (.aload_n 0, 1) := by decide +kernel
theorem dX6_isJoint_26 : decode cX6_isJoint 26 = .ok (.iload_n 1, 1) := by decide +kernel
theorem dX6_isJoint_27 : decode cX6_isJoint 27 = .ok (.iload_n 3, 1) := by decide +kernel
theorem dX6_isJoint_28 : decode cX6_isJoint 28 = .ok (.invokevirtual 54, 3) := by decide +kernel
theorem dX6_isJoint_31 : decode cX6_isJoint 31 = .ok (.ifCond .eq 17, 3) := by decide +kernel
theorem dX6_isJoint_34 : decode cX6_isJoint 34 = .ok (.aload_n 0, 1) := by decide +kernel
theorem dX6_isJoint_35 : decode cX6_isJoint 35 = .ok (.getfield 7, 3) := by decide +kernel
theorem dX6_isJoint_38 : decode cX6_isJoint 38 = .ok (.iload_n 1, 1) := by decide +kernel
theorem dX6_isJoint_39 : decode cX6_isJoint 39 = .ok (.bipush 34, 2) := by decide +kernel
theorem dX6_isJoint_41 : decode cX6_isJoint 41 = .ok (.iadd, 1) := by decide +kernel
theorem dX6_isJoint_42 : decode cX6_isJoint 42 = .ok (.iload_n 3, 1) := by decide +kernel
theorem dX6_isJoint_43 : decode cX6_isJoint 43 = .ok (.iadd, 1) := by decide +kernel
theorem dX6_isJoint_44 : decode cX6_isJoint 44 = .ok (.iaload, 1) := by decide +kernel
theorem dX6_isJoint_45 : decode cX6_isJoint 45 = .ok (.goto 11, 3) := by decide +kernel
theorem dX6_isJoint_48 : decode cX6_isJoint 48 = .ok (.aload_n 0, 1) := by decide +kernel
theorem dX6_isJoint_49 : decode cX6_isJoint 49 = .ok (.getfield 7, 3) := by decide +kernel
theorem dX6_isJoint_52 : decode cX6_isJoint 52 = .ok (.iload_n 1, 1) := by decide +kernel
theorem dX6_isJoint_53 : decode cX6_isJoint 53 = .ok (.iconst 2, 1) := by decide +kernel
theorem dX6_isJoint_54 : decode cX6_isJoint 54 = .ok (.iadd, 1) := by decide +kernel
theorem dX6_isJoint_55 : decode cX6_isJoint 55 = .ok (.iaload, 1) := by decide +kernel
theorem dX6_isJoint_56 : decode cX6_isJoint 56 = .ok (.istore 4, 2) := by decide +kernel
theorem dX6_isJoint_58 : decode cX6_isJoint 58 = .ok (.iload 4, 2) := by decide +kernel
theorem dX6_isJoint_60 : decode cX6_isJoint 60 = .ok (.aload_n 0, 1) := by decide +kernel
theorem dX6_isJoint_61 : decode cX6_isJoint 61 = .ok (.getfield 7, 3) := by decide +kernel
theorem dX6_isJoint_64 : decode cX6_isJoint 64 = .ok (.iload_n 1, 1) := by decide +kernel
theorem dX6_isJoint_65 : decode cX6_isJoint 65 = .ok (.bipush 43, 2) := by decide +kernel
theorem dX6_isJoint_67 : decode cX6_isJoint 67 = .ok (.iadd, 1) := by decide +kernel
theorem dX6_isJoint_68 : decode cX6_isJoint 68 = .ok (.iload_n 2, 1) := by decide +kernel
theorem dX6_isJoint_69 : decode cX6_isJoint 69 = .ok (.iconst 3, 1) := by decide +kernel
theorem dX6_isJoint_70 : decode cX6_isJoint 70 = .ok (.idiv, 1) := by decide +kernel
theorem dX6_isJoint_71 : decode cX6_isJoint 71 = .ok (.iadd, 1) := by decide +kernel
theorem dX6_isJoint_72 : decode cX6_isJoint 72 = .ok (.iaload, 1) := by decide +kernel
theorem dX6_isJoint_73 : decode cX6_isJoint 73 = .ok (.isub, 1) := by decide +kernel
theorem dX6_isJoint_74 : decode cX6_isJoint 74 = .ok (.aload_n 0, 1) := by decide +kernel
theorem dX6_isJoint_75 : decode cX6_isJoint 75 = .ok (.getfield 7, 3) := by decide +kernel
theorem dX6_isJoint_78 : decode cX6_isJoint 78 = .ok (.iload_n 1, 1) := by decide +kernel
theorem dX6_isJoint_79 : decode cX6_isJoint 79 = .ok (.iconst 4, 1) := by decide +kernel
theorem dX6_isJoint_80 : decode cX6_isJoint 80 = .ok (.iadd, 1) := by decide +kernel
theorem dX6_isJoint_81 : decode cX6_isJoint 81 = .ok (.iaload, 1) := by decide +kernel
theorem dX6_isJoint_82 : decode cX6_isJoint 82 = .ok (.if_icmp .le 7, 3) := by decide +kernel
theorem dX6_isJoint_85 : decode cX6_isJoint 85 = .ok (.iconst 1, 1) := by decide +kernel
theorem dX6_isJoint_86 : decode cX6_isJoint 86 = .ok (.goto 4, 3) := by decide +kernel
theorem dX6_isJoint_89 : decode cX6_isJoint 89 = .ok (.iconst 0, 1) := by decide +kernel
theorem dX6_isJoint_90 : decode cX6_isJoint 90 = .ok (.ireturn, 1) := by decide +kernel
theorem dX6_harm_0 : decode cX6_harm 0 = .ok (.iconst 0, 1) := by decide +kernel
theorem dX6_harm_1 : decode cX6_harm 1 = .ok (.istore_n 3, 1) := by decide +kernel
theorem dX6_harm_2 : decode cX6_harm 2 = .ok (.iconst 0, 1) := by decide +kernel
theorem dX6_harm_3 : decode cX6_harm 3 = .ok (.istore 4, 2) := by decide +kernel
theorem dX6_harm_5 : decode cX6_harm 5 = .ok (.iload 4, 2) := by decide +kernel
theorem dX6_harm_7 : decode cX6_harm 7 = .ok (.bipush 27, 2) := by decide +kernel
theorem dX6_harm_9 : decode cX6_harm 9 = .ok (.if_icmp .ge 79, 3) := by decide +kernel
theorem dX6_harm_12 : decode cX6_harm 12 = .ok (.aload_n 0, 1) := by decide +kernel
theorem dX6_harm_13 : decode cX6_harm 13 = .ok (.iload_n 1, 1) := by decide +kernel
theorem dX6_harm_14 : decode cX6_harm 14 = .ok (.iload 4, 2) := by decide +kernel
theorem dX6_harm_16 : decode cX6_harm 16 = .ok (.invokevirtual 73, 3) := by decide +kernel
theorem dX6_harm_19 : decode cX6_harm 19 = .ok (.ifCond .ne 17, 3) := by decide +kernel
theorem dX6_harm_22 : decode cX6_harm 22 = .ok (.iload_n 2, 1) := by decide +kernel
theorem dX6_harm_23 : decode cX6_harm 23 = .ok (.ifCond .eq 17, 3) := by decide +kernel
theorem dX6_harm_26 : decode cX6_harm 26 = .ok (.aload_n 0, 1) := by decide +kernel
theorem dX6_harm_27 : decode cX6_harm 27 = .ok (.iload_n 1, 1) := by decide +kernel
theorem dX6_harm_28 : decode cX6_harm 28 = .ok (.iload 4, 2) := by decide +kernel
theorem dX6_harm_30 : decode cX6_harm 30 = .ok (.invokevirtual 76, 3) := by decide +kernel
theorem dX6_harm_33 : decode cX6_harm 33 = .ok (.ifCond .eq 7, 3) := by decide +kernel
theorem dX6_harm_36 : decode cX6_harm 36 = .ok (.iconst 1, 1) := by decide +kernel
theorem dX6_harm_37 : decode cX6_harm 37 = .ok (.goto 4, 3) := by decide +kernel
theorem dX6_harm_40 : decode cX6_harm 40 = .ok (.iconst 0, 1) := by decide +kernel
theorem dX6_harm_41 : decode cX6_harm 41 = .ok (.istore 5, 2) := by decide +kernel
theorem dX6_harm_43 : decode cX6_harm 43 = .ok (.iload_n 3, 1) := by decide +kernel
theorem dX6_harm_44 : decode cX6_harm 44 = .ok (.iload 5, 2) := by decide +kernel
theorem dX6_harm_46 : decode cX6_harm 46 = .ok (.ifCond .eq 33, 3) := by decide +kernel
theorem dX6_harm_49 : decode cX6_harm 49 = .ok (.iload 4, 2) := by decide +kernel
theorem dX6_harm_51 : decode cX6_harm 51 = .ok (.iconst 3, 1) := by decide +kernel
theorem dX6_harm_52 : decode cX6_harm 52 = .ok (.irem, 1) := by decide +kernel
theorem dX6_harm_53 : decode cX6_harm 53 = .ok (.ifCond .ne 14, 3) := by decide +kernel
theorem dX6_harm_56 : decode cX6_harm 56 = .ok (.aload_n 0, 1) := by decide +kernel
theorem dX6_harm_57 : decode cX6_harm 57 = .ok (.getfield 7, 3) := by decide +kernel
theorem dX6_harm_60 : decode cX6_harm 60 = .ok (.iload_n 1, 1) := by decide +kernel
theorem dX6_harm_61 : decode cX6_harm 61 = .ok (.iconst 5, 1) := by decide +kernel
theorem dX6_harm_62 : decode cX6_harm 62 = .ok (.iadd, 1) := by decide +kernel
theorem dX6_harm_63 : decode cX6_harm 63 = .ok (.iaload, 1) := by decide +kernel
theorem dX6_harm_64 : decode cX6_harm 64 = .ok (.goto 16, 3) := by decide +kernel
theorem dX6_harm_67 : decode cX6_harm 67 = .ok (.aload_n 0, 1) := by decide +kernel
theorem dX6_harm_68 : decode cX6_harm 68 = .ok (.getfield 7, 3) := by decide +kernel
theorem dX6_harm_71 : decode cX6_harm 71 = .ok (.iload_n 1, 1) := by decide +kernel
theorem dX6_harm_72 : decode cX6_harm 72 = .ok (.bipush 6, 2) := by decide +kernel
theorem dX6_harm_74 : decode cX6_harm 74 = .ok (.iadd, 1) := by decide +kernel
theorem dX6_harm_75 : decode cX6_harm 75 = .ok (.iaload, 1) := by decide +kernel
theorem dX6_harm_76 : decode cX6_harm 76 = .ok (.goto 4, 3) := by decide +kernel
theorem dX6_harm_79 : decode cX6_harm 79 = .ok (.iconst 0, 1) := by decide +kernel
theorem dX6_harm_80 : decode cX6_harm 80 = .ok (.iadd, 1) := by decide +kernel
theorem dX6_harm_81 : decode cX6_harm 81 = .ok (.istore_n 3, 1) := by decide +kernel
theorem dX6_harm_82 : decode cX6_harm 82 = .ok (.iinc 4 1, 3) := by decide +kernel
theorem dX6_harm_85 : decode cX6_harm 85 = .ok (.goto (-80), 3) := by decide +kernel
theorem dX6_harm_88 : decode cX6_harm 88 = .ok (.iload_n 3, 1) := by decide +kernel
theorem dX6_harm_89 : decode cX6_harm 89 = .ok (.ireturn, 1) := by decide +kernel
theorem dX6_left_0 : decode cX6_left 0 = .ok (.aload_n 0, 1) := by decide +kernel
theorem dX6_left_1 : decode cX6_left 1 = .ok (.iconst 0, 1) := by decide +kernel
theorem dX6_left_2 : decode cX6_left 2 = .ok (.iload_n 1, 1) := by decide +kernel
theorem dX6_left_3 : decode cX6_left 3 = .ok (.invokevirtual 76, 3) := by decide +kernel
theorem dX6_left_6 : decode cX6_left 6 = .ok (.ifCond .eq 40, 3) := by decide +kernel
theorem dX6_left_9 : decode cX6_left 9 = .ok (.aload_n 0, 1) := by decide +kernel
theorem dX6_left_10 : decode cX6_left 10 = .ok (.iconst 0, 1) := by decide +kernel
theorem dX6_left_11 : decode cX6_left 11 = .ok (.iload_n 1, 1) := by decide +kernel
theorem dX6_left_12 : decode cX6_left 12 = .ok (.invokevirtual 73, 3) := by decide +kernel
theorem dX6_left_15 : decode cX6_left 15 = .ok (.ifCond .ne 31, 3) := by decide +kernel
theorem dX6_left_18 : decode cX6_left 18 = .ok (.aload_n 0, 1) := by decide +kernel
theorem dX6_left_19 : decode cX6_left 19 = .ok (.getfield 7, 3) := by decide +kernel
theorem dX6_left_22 : decode cX6_left 22 = .ok (.iconst 4, 1) := by decide +kernel
theorem dX6_left_23 : decode cX6_left 23 = .ok (.iaload, 1) := by decide +kernel
theorem dX6_left_24 : decode cX6_left 24 = .ok (.aload_n 0, 1) := by decide +kernel
theorem dX6_left_25 : decode cX6_left 25 = .ok (.getfield 7, 3) := by decide +kernel
theorem dX6_left_28 : decode cX6_left 28 = .ok (.iconst 2, 1) := by decide +kernel
theorem dX6_left_29 : decode cX6_left 29 = .ok (.iaload, 1) := by decide +kernel
theorem dX6_left_30 : decode cX6_left 30 = .ok (.isub, 1) := by decide +kernel
theorem dX6_left_31 : decode cX6_left 31 = .ok (.aload_n 0, 1) := by decide +kernel
theorem dX6_left_32 : decode cX6_left 32 = .ok (.getfield 7, 3) := by decide +kernel
theorem dX6_left_35 : decode cX6_left 35 = .ok (.bipush 43, 2) := by decide +kernel
theorem dX6_left_37 : decode cX6_left 37 = .ok (.iload_n 1, 1) := by decide +kernel
theorem dX6_left_38 : decode cX6_left 38 = .ok (.iconst 3, 1) := by decide +kernel
theorem dX6_left_39 : decode cX6_left 39 = .ok (.idiv, 1) := by decide +kernel
theorem dX6_left_40 : decode cX6_left 40 = .ok (.iadd, 1) := by decide +kernel
theorem dX6_left_41 : decode cX6_left 41 = .ok (.iaload, 1) := by decide +kernel
theorem dX6_left_42 : decode cX6_left 42 = .ok (.iadd, 1) := by decide +kernel
theorem dX6_left_43 : decode cX6_left 43 = .ok (.goto 6, 3) := by decide +kernel
theorem dX6_left_46 : decode cX6_left 46 = .ok (.sipush (-1000), 3) := by decide +kernel
theorem dX6_left_49 : decode cX6_left 49 = .ok (.ireturn, 1) := by decide +kernel
theorem dX6_firstToSet_0 : decode cX6_firstToSet 0 = .ok (.iconst (-1), 1) := by decide +kernel
theorem dX6_firstToSet_1 : decode cX6_firstToSet 1 = .ok (.istore_n 1, 1) := by decide +kernel
theorem dX6_firstToSet_2 : decode cX6_firstToSet 2 = .ok (.iconst 0, 1) := by decide +kernel
theorem dX6_firstToSet_3 : decode cX6_firstToSet 3 = .ok (.istore_n 2, 1) := by decide +kernel
theorem dX6_firstToSet_4 : decode cX6_firstToSet 4 = .ok (.iload_n 2, 1) := by decide +kernel
theorem dX6_firstToSet_5 : decode cX6_firstToSet 5 = .ok (.bipush 27, 2) := by decide +kernel
theorem dX6_firstToSet_7 : decode cX6_firstToSet 7 = .ok (.if_icmp .ge 44, 3) := by decide +kernel
theorem dX6_firstToSet_10 : decode cX6_firstToSet 10 = .ok (.aload_n 0, 1) := by decide +kernel
theorem dX6_firstToSet_11 : decode cX6_firstToSet 11 = .ok (.iload_n 2, 1) := by decide +kernel
theorem dX6_firstToSet_12 : decode cX6_firstToSet 12 = .ok (.invokevirtual 79, 3) := by decide +kernel
theorem dX6_firstToSet_15 : decode cX6_firstToSet 15 = .ok (.sipush (-1000), 3) := by decide +kernel
theorem dX6_firstToSet_18 : decode cX6_firstToSet 18 = .ok (.if_icmp .eq 25, 3) := by decide +kernel
theorem dX6_firstToSet_21 : decode cX6_firstToSet 21 = .ok (.iload_n 1, 1) := by decide +kernel
theorem dX6_firstToSet_22 : decode cX6_firstToSet 22 = .ok (.iconst (-1), 1) := by decide +kernel
theorem dX6_firstToSet_23 : decode cX6_firstToSet 23 = .ok (.if_icmp .eq 16, 3) := by decide +kernel
theorem dX6_firstToSet_26 : decode cX6_firstToSet 26 = .ok (.aload_n 0, 1) := by decide +kernel
theorem dX6_firstToSet_27 : decode cX6_firstToSet 27 = .ok (.iload_n 2, 1) := by decide +kernel
theorem dX6_firstToSet_28 : decode cX6_firstToSet 28 = .ok (.invokevirtual 79, 3) := by decide +kernel
theorem dX6_firstToSet_31 : decode cX6_firstToSet 31 = .ok (.aload_n 0, 1) := by decide +kernel
theorem dX6_firstToSet_32 : decode cX6_firstToSet 32 = .ok (.iload_n 1, 1) := by decide +kernel
theorem dX6_firstToSet_33 : decode cX6_firstToSet 33 = .ok (.invokevirtual 79, 3) := by decide +kernel
theorem dX6_firstToSet_36 : decode cX6_firstToSet 36 = .ok (.if_icmp .ge 7, 3) := by decide +kernel
theorem dX6_firstToSet_39 : decode cX6_firstToSet 39 = .ok (.iload_n 2, 1) := by decide +kernel
theorem dX6_firstToSet_40 : decode cX6_firstToSet 40 = .ok (.goto 4, 3) := by decide +kernel
theorem dX6_firstToSet_43 : decode cX6_firstToSet 43 = .ok (.iload_n 1, 1) := by decide +kernel
theorem dX6_firstToSet_44 : decode cX6_firstToSet 44 = .ok (.istore_n 1, 1) := by decide +kernel
theorem dX6_firstToSet_45 : decode cX6_firstToSet 45 = .ok (.iinc 2 1, 3) := by decide +kernel
theorem dX6_firstToSet_48 : decode cX6_firstToSet 48 = .ok (.goto (-44), 3) := by decide +kernel
theorem dX6_firstToSet_51 : decode cX6_firstToSet 51 = .ok (.iload_n 1, 1) := by decide +kernel
theorem dX6_firstToSet_52 : decode cX6_firstToSet 52 = .ok (.ireturn, 1) := by decide +kernel
theorem dX6_weighs_0 : decode cX6_weighs 0 = .ok (.aload_n 0, 1) := by decide +kernel
theorem dX6_weighs_1 : decode cX6_weighs 1 = .ok (.bipush 52, 2) := by decide +kernel
theorem dX6_weighs_3 : decode cX6_weighs 3 = .ok (.iconst 0, 1) := by decide +kernel
theorem dX6_weighs_4 : decode cX6_weighs 4 = .ok (.invokevirtual 82, 3) := by decide +kernel
theorem dX6_weighs_7 : decode cX6_weighs 7 = .ok (.istore_n 2, 1) := by decide +kernel
theorem dX6_weighs_8 : decode cX6_weighs 8 = .ok (.aload_n 0, 1) := by decide +kernel
theorem dX6_weighs_9 : decode cX6_weighs 9 = .ok (.getfield 86, 3) := by decide +kernel
theorem dX6_weighs_12 : decode cX6_weighs 12 = .ok (.iconst (-1), 1) := by decide +kernel
theorem dX6_weighs_13 : decode cX6_weighs 13 = .ok (.if_icmp .eq 33, 3) := by decide +kernel
theorem dX6_weighs_16 : decode cX6_weighs 16 = .ok (.iload_n 2, 1) := by decide +kernel
theorem dX6_weighs_17 : decode cX6_weighs 17 = .ok (.aload_n 0, 1) := by decide +kernel
theorem dX6_weighs_18 : decode cX6_weighs 18 = .ok (.getfield 89, 3) := by decide +kernel
theorem dX6_weighs_21 : decode cX6_weighs 21 = .ok (.if_icmp .lt 25, 3) := by decide +kernel
theorem dX6_weighs_24 : decode cX6_weighs 24 = .ok (.iload_n 2, 1) := by decide +kernel
theorem dX6_weighs_25 : decode cX6_weighs 25 = .ok (.aload_n 0, 1) := by decide +kernel
theorem dX6_weighs_26 : decode cX6_weighs 26 = .ok (.getfield 89, 3) := by decide +kernel
theorem dX6_weighs_29 : decode cX6_weighs 29 = .ok (.if_icmp .ne 21, 3) := by decide +kernel
theorem dX6_weighs_32 : decode cX6_weighs 32 = .ok (.aload_n 0, 1) := by decide +kernel
theorem dX6_weighs_33 : decode cX6_weighs 33 = .ok (.getfield 7, 3) := by decide +kernel
theorem dX6_weighs_36 : decode cX6_weighs 36 = .ok (.bipush 54, 2) := by decide +kernel
theorem dX6_weighs_38 : decode cX6_weighs 38 = .ok (.iaload, 1) := by decide +kernel
theorem dX6_weighs_39 : decode cX6_weighs 39 = .ok (.aload_n 0, 1) := by decide +kernel
theorem dX6_weighs_40 : decode cX6_weighs 40 = .ok (.getfield 92, 3) := by decide +kernel
theorem dX6_weighs_43 : decode cX6_weighs 43 = .ok (.if_icmp .ge 7, 3) := by decide +kernel
theorem dX6_weighs_46 : decode cX6_weighs 46 = .ok (.iconst 1, 1) := by decide +kernel
theorem dX6_weighs_47 : decode cX6_weighs 47 = .ok (.goto 4, 3) := by decide +kernel
theorem dX6_weighs_50 : decode cX6_weighs 50 = .ok (.iconst 0, 1) := by decide +kernel
theorem dX6_weighs_51 : decode cX6_weighs 51 = .ok (.istore_n 3, 1) := by decide +kernel
theorem dX6_weighs_52 : decode cX6_weighs 52 = .ok (.iload_n 3, 1) := by decide +kernel
theorem dX6_weighs_53 : decode cX6_weighs 53 = .ok (.ifCond .eq 53, 3) := by decide +kernel
theorem dX6_weighs_56 : decode cX6_weighs 56 = .ok (.aload_n 0, 1) := by decide +kernel
theorem dX6_weighs_57 : decode cX6_weighs 57 = .ok (.iload_n 1, 1) := by decide +kernel
theorem dX6_weighs_58 : decode cX6_weighs 58 = .ok (.putfield 86, 3) := by decide +kernel
theorem dX6_weighs_61 : decode cX6_weighs 61 = .ok (.aload_n 0, 1) := by decide +kernel
theorem dX6_weighs_62 : decode cX6_weighs 62 = .ok (.iload_n 2, 1) := by decide +kernel
theorem dX6_weighs_63 : decode cX6_weighs 63 = .ok (.putfield 89, 3) := by decide +kernel
theorem dX6_weighs_66 : decode cX6_weighs 66 = .ok (.aload_n 0, 1) := by decide +kernel
theorem dX6_weighs_67 : decode cX6_weighs 67 = .ok (.aload_n 0, 1) := by decide +kernel
theorem dX6_weighs_68 : decode cX6_weighs 68 = .ok (.getfield 7, 3) := by decide +kernel
theorem dX6_weighs_71 : decode cX6_weighs 71 = .ok (.bipush 54, 2) := by decide +kernel
theorem dX6_weighs_73 : decode cX6_weighs 73 = .ok (.iaload, 1) := by decide +kernel
theorem dX6_weighs_74 : decode cX6_weighs 74 = .ok (.putfield 92, 3) := by decide +kernel
theorem dX6_weighs_77 : decode cX6_weighs 77 = .ok (.iconst 0, 1) := by decide +kernel
theorem dX6_weighs_78 : decode cX6_weighs 78 = .ok (.istore 4, 2) := by decide +kernel
theorem dX6_weighs_80 : decode cX6_weighs 80 = .ok (.iload 4, 2) := by decide +kernel
theorem dX6_weighs_82 : decode cX6_weighs 82 = .ok (.iload_n 1, 1) := by decide +kernel
theorem dX6_weighs_83 : decode cX6_weighs 83 = .ok (.if_icmp .ge 23, 3) := by decide +kernel
theorem dX6_weighs_86 : decode cX6_weighs 86 = .ok (.aload_n 0, 1) := by decide +kernel
theorem dX6_weighs_87 : decode cX6_weighs 87 = .ok (.getfield 26, 3) := by decide +kernel
theorem dX6_weighs_90 : decode cX6_weighs 90 = .ok (.iload 4, 2) := by decide +kernel
theorem dX6_weighs_92 : decode cX6_weighs 92 = .ok (.aload_n 0, 1) := by decide +kernel
theorem dX6_weighs_93 : decode cX6_weighs 93 = .ok (.getfield 29, 3) := by decide +kernel
theorem dX6_weighs_96 : decode cX6_weighs 96 = .ok (.iload 4, 2) := by decide +kernel
theorem dX6_weighs_98 : decode cX6_weighs 98 = .ok (.iaload, 1) := by decide +kernel
theorem dX6_weighs_99 : decode cX6_weighs 99 = .ok (.iastore, 1) := by decide +kernel
theorem dX6_weighs_100 : decode cX6_weighs 100 = .ok (.iinc 4 1, 3) := by decide +kernel
theorem dX6_weighs_103 : decode cX6_weighs 103 = .ok (.goto (-23), 3) := by decide +kernel
theorem dX6_weighs_106 : decode cX6_weighs 106 = .ok (.return_, 1) := by decide +kernel
theorem dX6_seeks_0 : decode cX6_seeks 0 = .ok (.aload_n 0, 1) := by decide +kernel
theorem dX6_seeks_1 : decode cX6_seeks 1 = .ok (.iconst (-1), 1) := by decide +kernel
theorem dX6_seeks_2 : decode cX6_seeks 2 = .ok (.putfield 86, 3) := by decide +kernel
theorem dX6_seeks_5 : decode cX6_seeks 5 = .ok (.aload_n 0, 1) := by decide +kernel
theorem dX6_seeks_6 : decode cX6_seeks 6 = .ok (.iconst (-1), 1) := by decide +kernel
theorem dX6_seeks_7 : decode cX6_seeks 7 = .ok (.putfield 89, 3) := by decide +kernel
theorem dX6_seeks_10 : decode cX6_seeks 10 = .ok (.aload_n 0, 1) := by decide +kernel
theorem dX6_seeks_11 : decode cX6_seeks 11 = .ok (.iconst (-1), 1) := by decide +kernel
theorem dX6_seeks_12 : decode cX6_seeks 12 = .ok (.putfield 92, 3) := by decide +kernel
theorem dX6_seeks_15 : decode cX6_seeks 15 = .ok (.aload_n 0, 1) := by decide +kernel
theorem dX6_seeks_16 : decode cX6_seeks 16 = .ok (.getfield 7, 3) := by decide +kernel
theorem dX6_seeks_19 : decode cX6_seeks 19 = .ok (.bipush 52, 2) := by decide +kernel
theorem dX6_seeks_21 : decode cX6_seeks 21 = .ok (.iaload, 1) := by decide +kernel
theorem dX6_seeks_22 : decode cX6_seeks 22 = .ok (.aload_n 0, 1) := by decide +kernel
theorem dX6_seeks_23 : decode cX6_seeks 23 = .ok (.getfield 7, 3) := by decide +kernel
theorem dX6_seeks_26 : decode cX6_seeks 26 = .ok (.bipush 53, 2) := by decide +kernel
theorem dX6_seeks_28 : decode cX6_seeks 28 = .ok (.iaload, 1) := by decide +kernel
theorem dX6_seeks_29 : decode cX6_seeks 29 = .ok (.imul, 1) := by decide +kernel
theorem dX6_seeks_30 : decode cX6_seeks 30 = .ok (.istore_n 1, 1) := by decide +kernel
theorem dX6_seeks_31 : decode cX6_seeks 31 = .ok (.iconst 0, 1) := by decide +kernel
theorem dX6_seeks_32 : decode cX6_seeks 32 = .ok (.istore_n 2, 1) := by decide +kernel
theorem dX6_seeks_33 : decode cX6_seeks 33 = .ok (.iconst 0, 1) := by decide +kernel
theorem dX6_seeks_34 : decode cX6_seeks 34 = .ok (.istore_n 3, 1) := by decide +kernel
theorem dX6_seeks_35 : decode cX6_seeks 35 = .ok (.iload_n 3, 1) := by decide +kernel
theorem dX6_seeks_36 : decode cX6_seeks 36 = .ok (.iload_n 1, 1) := by decide +kernel
theorem dX6_seeks_37 : decode cX6_seeks 37 = .ok (.if_icmp .ge 27, 3) := by decide +kernel
theorem dX6_seeks_40 : decode cX6_seeks 40 = .ok (.iload_n 2, 1) := by decide +kernel
theorem dX6_seeks_41 : decode cX6_seeks 41 = .ok (.aload_n 0, 1) := by decide +kernel
theorem dX6_seeks_42 : decode cX6_seeks 42 = .ok (.bipush 52, 2) := by decide +kernel
theorem dX6_seeks_44 : decode cX6_seeks 44 = .ok (.iload_n 3, 1) := by decide +kernel
theorem dX6_seeks_45 : decode cX6_seeks 45 = .ok (.invokevirtual 54, 3) := by decide +kernel
theorem dX6_seeks_48 : decode cX6_seeks 48 = .ok (.ifCond .eq 7, 3) := by decide +kernel
theorem dX6_seeks_51 : decode cX6_seeks 51 = .ok (.iconst 0, 1) := by decide +kernel
theorem dX6_seeks_52 : decode cX6_seeks 52 = .ok (.goto 4, 3) := by decide +kernel
theorem dX6_seeks_55 : decode cX6_seeks 55 = .ok (.iconst 1, 1) := by decide +kernel
theorem dX6_seeks_56 : decode cX6_seeks 56 = .ok (.iadd, 1) := by decide +kernel
theorem dX6_seeks_57 : decode cX6_seeks 57 = .ok (.istore_n 2, 1) := by decide +kernel
theorem dX6_seeks_58 : decode cX6_seeks 58 = .ok (.iinc 3 1, 3) := by decide +kernel
theorem dX6_seeks_61 : decode cX6_seeks 61 = .ok (.goto (-26), 3) := by decide +kernel
theorem dX6_seeks_64 : decode cX6_seeks 64 = .ok (.iconst 0, 1) := by decide +kernel
theorem dX6_seeks_65 : decode cX6_seeks 65 = .ok (.istore_n 3, 1) := by decide +kernel
theorem dX6_seeks_66 : decode cX6_seeks 66 = .ok (.aload_n 0, 1) := by decide +kernel
theorem dX6_seeks_67 : decode cX6_seeks 67 = .ok (.getfield 29, 3) := by decide +kernel
theorem dX6_seeks_70 : decode cX6_seeks 70 = .ok (.iconst 0, 1) := by decide +kernel
theorem dX6_seeks_71 : decode cX6_seeks 71 = .ok (.iconst (-1), 1) := by decide +kernel
theorem dX6_seeks_72 : decode cX6_seeks 72 = .ok (.iastore, 1) := by decide +kernel
theorem dX6_seeks_73 : decode cX6_seeks 73 = .ok (.iload_n 3, 1) := by decide +kernel
theorem dX6_seeks_74 : decode cX6_seeks 74 = .ok (.ifCond .lt 151, 3) := by decide +kernel
theorem dX6_seeks_77 : decode cX6_seeks 77 = .ok (.iload_n 3, 1) := by decide +kernel
theorem dX6_seeks_78 : decode cX6_seeks 78 = .ok (.iload_n 2, 1) := by decide +kernel
theorem dX6_seeks_79 : decode cX6_seeks 79 = .ok (.if_icmp .ne 14, 3) := by decide +kernel
theorem dX6_seeks_82 : decode cX6_seeks 82 = .ok (.aload_n 0, 1) := by decide +kernel
theorem dX6_seeks_83 : decode cX6_seeks 83 = .ok (.iload_n 3, 1) := by decide +kernel
theorem dX6_seeks_84 : decode cX6_seeks 84 = .ok (.invokevirtual 95, 3) := by decide +kernel
theorem dX6_seeks_87 : decode cX6_seeks 87 = .ok (.iinc 3 (-1), 3) := by decide +kernel
theorem dX6_seeks_90 : decode cX6_seeks 90 = .ok (.goto (-17), 3) := by decide +kernel
theorem dX6_seeks_93 : decode cX6_seeks 93 = .ok (.aload_n 0, 1) := by decide +kernel
theorem dX6_seeks_94 : decode cX6_seeks 94 = .ok (.getfield 29, 3) := by decide +kernel
theorem dX6_seeks_97 : decode cX6_seeks 97 = .ok (.iload_n 3, 1) := by decide +kernel
theorem dX6_seeks_98 : decode cX6_seeks 98 = .ok (.iaload, 1) := by decide +kernel
theorem dX6_seeks_99 : decode cX6_seeks 99 = .ok (.iconst (-1), 1) := by decide +kernel
theorem dX6_seeks_100 : decode cX6_seeks 100 = .ok (.if_icmp .eq 46, 3) := by decide +kernel
theorem dX6_seeks_103 : decode cX6_seeks 103 = .ok (.aload_n 0, 1) := by decide +kernel
theorem dX6_seeks_104 : decode cX6_seeks 104 = .ok (.getfield 7, 3) := by decide +kernel
theorem dX6_seeks_107 : decode cX6_seeks 107 = .ok (.bipush 86, 2) := by decide +kernel
theorem dX6_seeks_109 : decode cX6_seeks 109 = .ok (.aload_n 0, 1) := by decide +kernel
theorem dX6_seeks_110 : decode cX6_seeks 110 = .ok (.getfield 29, 3) := by decide +kernel
theorem dX6_seeks_113 : decode cX6_seeks 113 = .ok (.iload_n 3, 1) := by decide +kernel
theorem dX6_seeks_114 : decode cX6_seeks 114 = .ok (.iaload, 1) := by decide +kernel
theorem dX6_seeks_115 : decode cX6_seeks 115 = .ok (.iadd, 1) := by decide +kernel
theorem dX6_seeks_116 : decode cX6_seeks 116 = .ok (.iconst (-1), 1) := by decide +kernel
theorem dX6_seeks_117 : decode cX6_seeks 117 = .ok (.iastore, 1) := by decide +kernel
theorem dX6_seeks_118 : decode cX6_seeks 118 = .ok (.aload_n 0, 1) := by decide +kernel
theorem dX6_seeks_119 : decode cX6_seeks 119 = .ok (.getfield 7, 3) := by decide +kernel
theorem dX6_seeks_122 : decode cX6_seeks 122 = .ok (.bipush 95, 2) := by decide +kernel
theorem dX6_seeks_124 : decode cX6_seeks 124 = .ok (.aload_n 0, 1) := by decide +kernel
theorem dX6_seeks_125 : decode cX6_seeks 125 = .ok (.getfield 29, 3) := by decide +kernel
theorem dX6_seeks_128 : decode cX6_seeks 128 = .ok (.iload_n 3, 1) := by decide +kernel
theorem dX6_seeks_129 : decode cX6_seeks 129 = .ok (.iaload, 1) := by decide +kernel
theorem dX6_seeks_130 : decode cX6_seeks 130 = .ok (.iadd, 1) := by decide +kernel
theorem dX6_seeks_131 : decode cX6_seeks 131 = .ok (.iconst (-1), 1) := by decide +kernel
theorem dX6_seeks_132 : decode cX6_seeks 132 = .ok (.iastore, 1) := by decide +kernel
theorem dX6_seeks_133 : decode cX6_seeks 133 = .ok (.aload_n 0, 1) := by decide +kernel
theorem dX6_seeks_134 : decode cX6_seeks 134 = .ok (.getfield 7, 3) := by decide +kernel
theorem dX6_seeks_137 : decode cX6_seeks 137 = .ok (.bipush 54, 2) := by decide +kernel
theorem dX6_seeks_139 : decode cX6_seeks 139 = .ok (.aload_n 0, 1) := by decide +kernel
theorem dX6_seeks_140 : decode cX6_seeks 140 = .ok (.getfield 32, 3) := by decide +kernel
theorem dX6_seeks_143 : decode cX6_seeks 143 = .ok (.iload_n 3, 1) := by decide +kernel
theorem dX6_seeks_144 : decode cX6_seeks 144 = .ok (.iaload, 1) := by decide +kernel
theorem dX6_seeks_145 : decode cX6_seeks 145 = .ok (.iastore, 1) := by decide +kernel
theorem dX6_seeks_146 : decode cX6_seeks 146 = .ok (.aload_n 0, 1) := by decide +kernel
theorem dX6_seeks_147 : decode cX6_seeks 147 = .ok (.getfield 32, 3) := by decide +kernel
theorem dX6_seeks_150 : decode cX6_seeks 150 = .ok (.iload_n 3, 1) := by decide +kernel
theorem dX6_seeks_151 : decode cX6_seeks 151 = .ok (.aload_n 0, 1) := by decide +kernel
theorem dX6_seeks_152 : decode cX6_seeks 152 = .ok (.getfield 7, 3) := by decide +kernel
theorem dX6_seeks_155 : decode cX6_seeks 155 = .ok (.bipush 54, 2) := by decide +kernel
theorem dX6_seeks_157 : decode cX6_seeks 157 = .ok (.iaload, 1) := by decide +kernel
theorem dX6_seeks_158 : decode cX6_seeks 158 = .ok (.iastore, 1) := by decide +kernel
theorem dX6_seeks_159 : decode cX6_seeks 159 = .ok (.aload_n 0, 1) := by decide +kernel
theorem dX6_seeks_160 : decode cX6_seeks 160 = .ok (.getfield 29, 3) := by decide +kernel
theorem dX6_seeks_163 : decode cX6_seeks 163 = .ok (.iload_n 3, 1) := by decide +kernel
theorem dX6_seeks_164 : decode cX6_seeks 164 = .ok (.iaload, 1) := by decide +kernel
theorem dX6_seeks_165 : decode cX6_seeks 165 = .ok (.iconst 1, 1) := by decide +kernel
theorem dX6_seeks_166 : decode cX6_seeks 166 = .ok (.iadd, 1) := by decide +kernel
theorem dX6_seeks_167 : decode cX6_seeks 167 = .ok (.istore 4, 2) := by decide +kernel
theorem dX6_seeks_169 : decode cX6_seeks 169 = .ok (.iload 4, 2) := by decide +kernel
theorem dX6_seeks_171 : decode cX6_seeks 171 = .ok (.iload_n 1, 1) := by decide +kernel
theorem dX6_seeks_172 : decode cX6_seeks 172 = .ok (.if_icmp .ge 20, 3) := by decide +kernel
theorem dX6_seeks_175 : decode cX6_seeks 175 = .ok (.aload_n 0, 1) := by decide +kernel
theorem dX6_seeks_176 : decode cX6_seeks 176 = .ok (.bipush 52, 2) := by decide +kernel
theorem dX6_seeks_178 : decode cX6_seeks 178 = .ok (.iload 4, 2) := by decide +kernel
theorem dX6_seeks_180 : decode cX6_seeks 180 = .ok (.invokevirtual 99, 3) := by decide +kernel
theorem dX6_seeks_183 : decode cX6_seeks 183 = .ok (.ifCond .ne 9, 3) := by decide +kernel
theorem dX6_seeks_186 : decode cX6_seeks 186 = .ok (.iinc 4 1, 3) := by decide +kernel
theorem dX6_seeks_189 : decode cX6_seeks 189 = .ok (.goto (-20), 3) := by decide +kernel
theorem dX6_seeks_192 : decode cX6_seeks 192 = .ok (.iload 4, 2) := by decide +kernel
theorem dX6_seeks_194 : decode cX6_seeks 194 = .ok (.iload_n 1, 1) := by decide +kernel
theorem dX6_seeks_195 : decode cX6_seeks 195 = .ok (.if_icmp .ge 24, 3) := by decide +kernel
theorem dX6_seeks_198 : decode cX6_seeks 198 = .ok (.aload_n 0, 1) := by decide +kernel
theorem dX6_seeks_199 : decode cX6_seeks 199 = .ok (.getfield 29, 3) := by decide +kernel
theorem dX6_seeks_202 : decode cX6_seeks 202 = .ok (.iload_n 3, 1) := by decide +kernel
theorem dX6_seeks_203 : decode cX6_seeks 203 = .ok (.iload 4, 2) := by decide +kernel
theorem dX6_seeks_205 : decode cX6_seeks 205 = .ok (.iastore, 1) := by decide +kernel
theorem dX6_seeks_206 : decode cX6_seeks 206 = .ok (.iinc 3 1, 3) := by decide +kernel
theorem dX6_seeks_209 : decode cX6_seeks 209 = .ok (.aload_n 0, 1) := by decide +kernel
theorem dX6_seeks_210 : decode cX6_seeks 210 = .ok (.getfield 29, 3) := by decide +kernel
theorem dX6_seeks_213 : decode cX6_seeks 213 = .ok (.iload_n 3, 1) := by decide +kernel
theorem dX6_seeks_214 : decode cX6_seeks 214 = .ok (.iconst (-1), 1) := by decide +kernel
theorem dX6_seeks_215 : decode cX6_seeks 215 = .ok (.iastore, 1) := by decide +kernel
theorem dX6_seeks_216 : decode cX6_seeks 216 = .ok (.goto 6, 3) := by decide +kernel
theorem dX6_seeks_219 : decode cX6_seeks 219 = .ok (.iinc 3 (-1), 3) := by decide +kernel
theorem dX6_seeks_222 : decode cX6_seeks 222 = .ok (.goto (-149), 3) := by decide +kernel
theorem dX6_seeks_225 : decode cX6_seeks 225 = .ok (.return_, 1) := by decide +kernel
theorem dX6_finds_0 : decode cX6_finds 0 = .ok (.aload_n 0, 1) := by decide +kernel
theorem dX6_finds_1 : decode cX6_finds 1 = .ok (.iconst 0, 1) := by decide +kernel
theorem dX6_finds_2 : decode cX6_finds 2 = .ok (.bipush 52, 2) := by decide +kernel
theorem dX6_finds_4 : decode cX6_finds 4 = .ok (.invokevirtual 43, 3) := by decide +kernel
theorem dX6_finds_7 : decode cX6_finds 7 = .ok (.aload_n 0, 1) := by decide +kernel
theorem dX6_finds_8 : decode cX6_finds 8 = .ok (.invokevirtual 102, 3) := by decide +kernel
theorem dX6_finds_11 : decode cX6_finds 11 = .ok (.return_, 1) := by decide +kernel
theorem dX6_mayWait_0 : decode cX6_mayWait 0 = .ok (.aload_n 0, 1) := by decide +kernel
theorem dX6_mayWait_1 : decode cX6_mayWait 1 = .ok (.invokevirtual 105, 3) := by decide +kernel
theorem dX6_mayWait_4 : decode cX6_mayWait 4 = .ok (.aload_n 0, 1) := by decide +kernel
theorem dX6_mayWait_5 : decode cX6_mayWait 5 = .ok (.getfield 86, 3) := by decide +kernel
theorem dX6_mayWait_8 : decode cX6_mayWait 8 = .ok (.iconst (-1), 1) := by decide +kernel
theorem dX6_mayWait_9 : decode cX6_mayWait 9 = .ok (.if_icmp .ne 5, 3) := by decide +kernel
theorem dX6_mayWait_12 : decode cX6_mayWait 12 = .ok (.iconst (-1), 1) := by decide +kernel
theorem dX6_mayWait_13 : decode cX6_mayWait 13 = .ok (.ireturn, 1) := by decide +kernel
theorem dX6_mayWait_14 : decode cX6_mayWait 14 = .ok (.aload_n 0, 1) := by decide +kernel
theorem dX6_mayWait_15 : decode cX6_mayWait 15 = .ok (.getfield 89, 3) := by decide +kernel
theorem dX6_mayWait_18 : decode cX6_mayWait 18 = .ok (.istore_n 1, 1) := by decide +kernel
theorem dX6_mayWait_19 : decode cX6_mayWait 19 = .ok (.iconst 0, 1) := by decide +kernel
theorem dX6_mayWait_20 : decode cX6_mayWait 20 = .ok (.istore_n 2, 1) := by decide +kernel
theorem dX6_mayWait_21 : decode cX6_mayWait 21 = .ok (.iconst 1, 1) := by decide +kernel
theorem dX6_mayWait_22 : decode cX6_mayWait 22 = .ok (.istore_n 3, 1) := by decide +kernel
theorem dX6_mayWait_23 : decode cX6_mayWait 23 = .ok (.iload_n 3, 1) := by decide +kernel
theorem dX6_mayWait_24 : decode cX6_mayWait 24 = .ok (.bipush 12, 2) := by decide +kernel
theorem dX6_mayWait_26 : decode cX6_mayWait 26 = .ok (.if_icmp .gt 53, 3) := by decide +kernel
theorem dX6_mayWait_29 : decode cX6_mayWait 29 = .ok (.aload_n 0, 1) := by decide +kernel
theorem dX6_mayWait_30 : decode cX6_mayWait 30 = .ok (.iconst 0, 1) := by decide +kernel
theorem dX6_mayWait_31 : decode cX6_mayWait 31 = .ok (.bipush 52, 2) := by decide +kernel
theorem dX6_mayWait_33 : decode cX6_mayWait 33 = .ok (.invokevirtual 43, 3) := by decide +kernel
theorem dX6_mayWait_36 : decode cX6_mayWait 36 = .ok (.aload_n 0, 1) := by decide +kernel
theorem dX6_mayWait_37 : decode cX6_mayWait 37 = .ok (.getfield 7, 3) := by decide +kernel
theorem dX6_mayWait_40 : decode cX6_mayWait 40 = .ok (.bipush 54, 2) := by decide +kernel
theorem dX6_mayWait_42 : decode cX6_mayWait 42 = .ok (.dup2, 1) := by decide +kernel
theorem dX6_mayWait_43 : decode cX6_mayWait 43 = .ok (.iaload, 1) := by decide +kernel
theorem dX6_mayWait_44 : decode cX6_mayWait 44 = .ok (.iload_n 3, 1) := by decide +kernel
theorem dX6_mayWait_45 : decode cX6_mayWait 45 = .ok (.iadd, 1) := by decide +kernel
theorem dX6_mayWait_46 : decode cX6_mayWait 46 = .ok (.iastore, 1) := by decide +kernel
theorem dX6_mayWait_47 : decode cX6_mayWait 47 = .ok (.aload_n 0, 1) := by decide +kernel
theorem dX6_mayWait_48 : decode cX6_mayWait 48 = .ok (.invokevirtual 102, 3) := by decide +kernel
theorem dX6_mayWait_51 : decode cX6_mayWait 51 = .ok (.aload_n 0, 1) := by decide +kernel
theorem dX6_mayWait_52 : decode cX6_mayWait 52 = .ok (.getfield 86, 3) := by decide +kernel
theorem dX6_mayWait_55 : decode cX6_mayWait 55 = .ok (.iconst (-1), 1) := by decide +kernel
theorem dX6_mayWait_56 : decode cX6_mayWait 56 = .ok (.if_icmp .eq 15, 3) := by decide +kernel
theorem dX6_mayWait_59 : decode cX6_mayWait 59 = .ok (.aload_n 0, 1) := by decide +kernel
theorem dX6_mayWait_60 : decode cX6_mayWait 60 = .ok (.getfield 89, 3) := by decide +kernel
theorem dX6_mayWait_63 : decode cX6_mayWait 63 = .ok (.iload_n 1, 1) := by decide +kernel
theorem dX6_mayWait_64 : decode cX6_mayWait 64 = .ok (.if_icmp .ne 7, 3) := by decide +kernel
theorem dX6_mayWait_67 : decode cX6_mayWait 67 = .ok (.iload_n 3, 1) := by decide +kernel
theorem dX6_mayWait_68 : decode cX6_mayWait 68 = .ok (.goto 4, 3) := by decide +kernel
theorem dX6_mayWait_71 : decode cX6_mayWait 71 = .ok (.iload_n 2, 1) := by decide +kernel
theorem dX6_mayWait_72 : decode cX6_mayWait 72 = .ok (.istore_n 2, 1) := by decide +kernel
theorem dX6_mayWait_73 : decode cX6_mayWait 73 = .ok (.iinc 3 1, 3) := by decide +kernel
theorem dX6_mayWait_76 : decode cX6_mayWait 76 = .ok (.goto (-53), 3) := by decide +kernel
theorem dX6_mayWait_79 : decode cX6_mayWait 79 = .ok (.iload_n 2, 1) := by decide +kernel
theorem dX6_mayWait_80 : decode cX6_mayWait 80 = .ok (.ireturn, 1) := by decide +kernel
theorem dX6_mayBeLate_0 : decode cX6_mayBeLate 0 = .ok (.aload_n 0, 1) := by decide +kernel
theorem dX6_mayBeLate_1 : decode cX6_mayBeLate 1 = .ok (.invokevirtual 105, 3) := by decide +kernel
theorem dX6_mayBeLate_4 : decode cX6_mayBeLate 4 = .ok (.aload_n 0, 1) := by decide +kernel
theorem dX6_mayBeLate_5 : decode cX6_mayBeLate 5 = .ok (.getfield 86, 3) := by decide +kernel
theorem dX6_mayBeLate_8 : decode cX6_mayBeLate 8 = .ok (.iconst (-1), 1) := by decide +kernel
theorem dX6_mayBeLate_9 : decode cX6_mayBeLate 9 = .ok (.if_icmp .ne 5, 3) := by decide +kernel
theorem dX6_mayBeLate_12 : decode cX6_mayBeLate 12 = .ok (.iconst (-1), 1) := by decide +kernel
theorem dX6_mayBeLate_13 : decode cX6_mayBeLate 13 = .ok (.ireturn, 1) := by decide +kernel
theorem dX6_mayBeLate_14 : decode cX6_mayBeLate 14 = .ok (.aload_n 0, 1) := by decide +kernel
theorem dX6_mayBeLate_15 : decode cX6_mayBeLate 15 = .ok (.getfield 89, 3) := by decide +kernel
theorem dX6_mayBeLate_18 : decode cX6_mayBeLate 18 = .ok (.istore_n 2, 1) := by decide +kernel
theorem dX6_mayBeLate_19 : decode cX6_mayBeLate 19 = .ok (.iconst 0, 1) := by decide +kernel
theorem dX6_mayBeLate_20 : decode cX6_mayBeLate 20 = .ok (.istore_n 3, 1) := by decide +kernel
theorem dX6_mayBeLate_21 : decode cX6_mayBeLate 21 = .ok (.iconst 1, 1) := by decide +kernel
theorem dX6_mayBeLate_22 : decode cX6_mayBeLate 22 = .ok (.istore 4, 2) := by decide +kernel
theorem dX6_mayBeLate_24 : decode cX6_mayBeLate 24 = .ok (.iload 4, 2) := by decide +kernel
theorem dX6_mayBeLate_26 : decode cX6_mayBeLate 26 = .ok (.bipush 12, 2) := by decide +kernel
theorem dX6_mayBeLate_28 : decode cX6_mayBeLate 28 = .ok (.if_icmp .gt 93, 3) := by decide +kernel
theorem dX6_mayBeLate_31 : decode cX6_mayBeLate 31 = .ok (.aload_n 0, 1) := by decide +kernel
theorem dX6_mayBeLate_32 : decode cX6_mayBeLate 32 = .ok (.iconst 0, 1) := by decide +kernel
theorem dX6_mayBeLate_33 : decode cX6_mayBeLate 33 = .ok (.bipush 52, 2) := by decide +kernel
theorem dX6_mayBeLate_35 : decode cX6_mayBeLate 35 = .ok (.invokevirtual 43, 3) := by decide +kernel
theorem dX6_mayBeLate_38 : decode cX6_mayBeLate 38 = .ok (.aload_n 0, 1) := by decide +kernel
theorem dX6_mayBeLate_39 : decode cX6_mayBeLate 39 = .ok (.getfield 7, 3) := by decide +kernel
theorem dX6_mayBeLate_42 : decode cX6_mayBeLate 42 = .ok (.bipush 59, 2) := by decide +kernel
theorem dX6_mayBeLate_44 : decode cX6_mayBeLate 44 = .ok (.iload_n 1, 1) := by decide +kernel
theorem dX6_mayBeLate_45 : decode cX6_mayBeLate 45 = .ok (.iadd, 1) := by decide +kernel
theorem dX6_mayBeLate_46 : decode cX6_mayBeLate 46 = .ok (.dup2, 1) := by decide +kernel
theorem dX6_mayBeLate_47 : decode cX6_mayBeLate 47 = .ok (.iaload, 1) := by decide +kernel
theorem dX6_mayBeLate_48 : decode cX6_mayBeLate 48 = .ok (.iload 4, 2) := by decide +kernel
theorem dX6_mayBeLate_50 : decode cX6_mayBeLate 50 = .ok (.iadd, 1) := by decide +kernel
theorem dX6_mayBeLate_51 : decode cX6_mayBeLate 51 = .ok (.iastore, 1) := by decide +kernel
theorem dX6_mayBeLate_52 : decode cX6_mayBeLate 52 = .ok (.aload_n 0, 1) := by decide +kernel
theorem dX6_mayBeLate_53 : decode cX6_mayBeLate 53 = .ok (.getfield 7, 3) := by decide +kernel
theorem dX6_mayBeLate_56 : decode cX6_mayBeLate 56 = .ok (.bipush 59, 2) := by decide +kernel
theorem dX6_mayBeLate_58 : decode cX6_mayBeLate 58 = .ok (.iload_n 1, 1) := by decide +kernel
theorem dX6_mayBeLate_59 : decode cX6_mayBeLate 59 = .ok (.iadd, 1) := by decide +kernel
theorem dX6_mayBeLate_60 : decode cX6_mayBeLate 60 = .ok (.iaload, 1) := by decide +kernel
theorem dX6_mayBeLate_61 : decode cX6_mayBeLate 61 = .ok (.bipush 99, 2) := by decide +kernel
theorem dX6_mayBeLate_63 : decode cX6_mayBeLate 63 = .ok (.if_icmp .gt 52, 3) := by decide +kernel
theorem dX6_mayBeLate_66 : decode cX6_mayBeLate 66 = .ok (.aload_n 0, 1) := by decide +kernel
theorem dX6_mayBeLate_67 : decode cX6_mayBeLate 67 = .ok (.bipush 52, 2) := by decide +kernel
theorem dX6_mayBeLate_69 : decode cX6_mayBeLate 69 = .ok (.aload_n 0, 1) := by decide +kernel
theorem dX6_mayBeLate_70 : decode cX6_mayBeLate 70 = .ok (.getfield 7, 3) := by decide +kernel
theorem dX6_mayBeLate_73 : decode cX6_mayBeLate 73 = .ok (.bipush 54, 2) := by decide +kernel
theorem dX6_mayBeLate_75 : decode cX6_mayBeLate 75 = .ok (.iaload, 1) := by decide +kernel
theorem dX6_mayBeLate_76 : decode cX6_mayBeLate 76 = .ok (.invokevirtual 62, 3) := by decide +kernel
theorem dX6_mayBeLate_79 : decode cX6_mayBeLate 79 = .ok (.aload_n 0, 1) := by decide +kernel
theorem dX6_mayBeLate_80 : decode cX6_mayBeLate 80 = .ok (.bipush 52, 2) := by decide +kernel
theorem dX6_mayBeLate_82 : decode cX6_mayBeLate 82 = .ok (.invokevirtual 58, 3) := by decide +kernel
theorem dX6_mayBeLate_85 : decode cX6_mayBeLate 85 = .ok (.if_icmp .lt 30, 3) := by decide +kernel
theorem dX6_mayBeLate_88 : decode cX6_mayBeLate 88 = .ok (.aload_n 0, 1) := by decide +kernel
theorem dX6_mayBeLate_89 : decode cX6_mayBeLate 89 = .ok (.invokevirtual 102, 3) := by decide +kernel
theorem dX6_mayBeLate_92 : decode cX6_mayBeLate 92 = .ok (.aload_n 0, 1) := by decide +kernel
theorem dX6_mayBeLate_93 : decode cX6_mayBeLate 93 = .ok (.getfield 86, 3) := by decide +kernel
theorem dX6_mayBeLate_96 : decode cX6_mayBeLate 96 = .ok (.iconst (-1), 1) := by decide +kernel
theorem dX6_mayBeLate_97 : decode cX6_mayBeLate 97 = .ok (.if_icmp .eq 16, 3) := by decide +kernel
theorem dX6_mayBeLate_100 : decode cX6_mayBeLate 100 = .ok (.aload_n 0, 1) := by decide +kernel
theorem dX6_mayBeLate_101 : decode cX6_mayBeLate 101 = .ok (.getfield 89, 3) := by decide +kernel
theorem dX6_mayBeLate_104 : decode cX6_mayBeLate 104 = .ok (.iload_n 2, 1) := by decide +kernel
theorem dX6_mayBeLate_105 : decode cX6_mayBeLate 105 = .ok (.if_icmp .ne 8, 3) := by decide +kernel
theorem dX6_mayBeLate_108 : decode cX6_mayBeLate 108 = .ok (.iload 4, 2) := by decide +kernel
