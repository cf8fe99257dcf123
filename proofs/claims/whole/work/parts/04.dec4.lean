theorem dX4_init_0 : decode cX4_init 0 = .ok (.aload_n 0, 1) := by decide +kernel
theorem dX4_init_1 : decode cX4_init 1 = .ok (.invokespecial 3, 3) := by decide +kernel
theorem dX4_init_4 : decode cX4_init 4 = .ok (.aload_n 0, 1) := by decide +kernel
theorem dX4_init_5 : decode cX4_init 5 = .ok (.bipush 6, 2) := by decide +kernel
theorem dX4_init_7 : decode cX4_init 7 = .ok (.putfield 9, 3) := by decide +kernel
theorem dX4_init_10 : decode cX4_init 10 = .ok (.aload_n 0, 1) := by decide +kernel
theorem dX4_init_11 : decode cX4_init 11 = .ok (.iconst 3, 1) := by decide +kernel
theorem dX4_init_12 : decode cX4_init 12 = .ok (.putfield 15, 3) := by decide +kernel
theorem dX4_init_15 : decode cX4_init 15 = .ok (.aload_n 0, 1) := by decide +kernel
theorem dX4_init_16 : decode cX4_init 16 = .ok (.iconst 1, 1) := by decide +kernel
theorem dX4_init_17 : decode cX4_init 17 = .ok (.putfield 18, 3) := by decide +kernel
theorem dX4_init_20 : decode cX4_init 20 = .ok (.aload_n 0, 1) := by decide +kernel
theorem dX4_init_21 : decode cX4_init 21 = .ok (.bipush 9, 2) := by decide +kernel
theorem dX4_init_23 : decode cX4_init 23 = .ok (.newarray .int, 2) := by decide +kernel
theorem dX4_init_25 : decode cX4_init 25 = .ok (.putfield 21, 3) := by decide +kernel
theorem dX4_init_28 : decode cX4_init 28 = .ok (.aload_n 0, 1) := by decide +kernel
theorem dX4_init_29 : decode cX4_init 29 = .ok (.bipush 9, 2) := by decide +kernel
theorem dX4_init_31 : decode cX4_init 31 = .ok (.newarray .int, 2) := by decide +kernel
theorem dX4_init_33 : decode cX4_init 33 = .ok (.putfield 25, 3) := by decide +kernel
theorem dX4_init_36 : decode cX4_init 36 = .ok (.aload_n 0, 1) := by decide +kernel
theorem dX4_init_37 : decode cX4_init 37 = .ok (.bipush 9, 2) := by decide +kernel
theorem dX4_init_39 : decode cX4_init 39 = .ok (.newarray .int, 2) := by decide +kernel
theorem dX4_init_41 : decode cX4_init 41 = .ok (.putfield 28, 3) := by decide +kernel
theorem dX4_init_44 : decode cX4_init 44 = .ok (.aload_n 0, 1) := by decide +kernel
theorem dX4_init_45 : decode cX4_init 45 = .ok (.bipush 9, 2) := by decide +kernel
theorem dX4_init_47 : decode cX4_init 47 = .ok (.newarray .int, 2) := by decide +kernel
theorem dX4_init_49 : decode cX4_init 49 = .ok (.putfield 31, 3) := by decide +kernel
theorem dX4_init_52 : decode cX4_init 52 = .ok (.aload_n 0, 1) := by decide +kernel
theorem dX4_init_53 : decode cX4_init 53 = .ok (.bipush 9, 2) := by decide +kernel
theorem dX4_init_55 : decode cX4_init 55 = .ok (.newarray .int, 2) := by decide +kernel
theorem dX4_init_57 : decode cX4_init 57 = .ok (.putfield 34, 3) := by decide +kernel
theorem dX4_init_60 : decode cX4_init 60 = .ok (.aload_n 0, 1) := by decide +kernel
theorem dX4_init_61 : decode cX4_init 61 = .ok (.iconst 3, 1) := by decide +kernel
theorem dX4_init_62 : decode cX4_init 62 = .ok (.iconst 2, 1) := by decide +kernel
theorem dX4_init_63 : decode cX4_init 63 = .ok (.invokevirtual 37, 3) := by decide +kernel
theorem dX4_init_66 : decode cX4_init 66 = .ok (.return_, 1) := by decide +kernel
theorem dX4_raise_0 : decode cX4_raise 0 = .ok (.aload_n 0, 1) := by decide +kernel
theorem dX4_raise_1 : decode cX4_raise 1 = .ok (.iload_n 1, 1) := by decide +kernel
theorem dX4_raise_2 : decode cX4_raise 2 = .ok (.putfield 41, 3) := by decide +kernel
theorem dX4_raise_5 : decode cX4_raise 5 = .ok (.aload_n 0, 1) := by decide +kernel
theorem dX4_raise_6 : decode cX4_raise 6 = .ok (.iload_n 2, 1) := by decide +kernel
theorem dX4_raise_7 : decode cX4_raise 7 = .ok (.putfield 44, 3) := by decide +kernel
theorem dX4_raise_10 : decode cX4_raise 10 = .ok (.aload_n 0, 1) := by decide +kernel
theorem dX4_raise_11 : decode cX4_raise 11 = .ok (.iload_n 1, 1) := by decide +kernel
theorem dX4_raise_12 : decode cX4_raise 12 = .ok (.iload_n 2, 1) := by decide +kernel
theorem dX4_raise_13 : decode cX4_raise 13 = .ok (.imul, 1) := by decide +kernel
theorem dX4_raise_14 : decode cX4_raise 14 = .ok (.bipush 9, 2) := by decide +kernel
theorem dX4_raise_16 : decode cX4_raise 16 = .ok (.invokestatic 47, 3) := by decide +kernel
theorem dX4_raise_19 : decode cX4_raise 19 = .ok (.putfield 53, 3) := by decide +kernel
theorem dX4_raise_22 : decode cX4_raise 22 = .ok (.aload_n 0, 1) := by decide +kernel
theorem dX4_raise_23 : decode cX4_raise 23 = .ok (.iconst 0, 1) := by decide +kernel
theorem dX4_raise_24 : decode cX4_raise 24 = .ok (.putfield 56, 3) := by decide +kernel
theorem dX4_raise_27 : decode cX4_raise 27 = .ok (.aload_n 0, 1) := by decide +kernel
theorem dX4_raise_28 : decode cX4_raise 28 = .ok (.iconst 0, 1) := by decide +kernel
theorem dX4_raise_29 : decode cX4_raise 29 = .ok (.putfield 59, 3) := by decide +kernel
theorem dX4_raise_32 : decode cX4_raise 32 = .ok (.aload_n 0, 1) := by decide +kernel
theorem dX4_raise_33 : decode cX4_raise 33 = .ok (.getfield 21, 3) := by decide +kernel
theorem dX4_raise_36 : decode cX4_raise 36 = .ok (.iconst 1, 1) := by decide +kernel
theorem dX4_raise_37 : decode cX4_raise 37 = .ok (.invokestatic 62, 3) := by decide +kernel
theorem dX4_raise_40 : decode cX4_raise 40 = .ok (.aload_n 0, 1) := by decide +kernel
theorem dX4_raise_41 : decode cX4_raise 41 = .ok (.getfield 25, 3) := by decide +kernel
theorem dX4_raise_44 : decode cX4_raise 44 = .ok (.iconst (-1), 1) := by decide +kernel
theorem dX4_raise_45 : decode cX4_raise 45 = .ok (.invokestatic 62, 3) := by decide +kernel
theorem dX4_raise_48 : decode cX4_raise 48 = .ok (.aload_n 0, 1) := by decide +kernel
theorem dX4_raise_49 : decode cX4_raise 49 = .ok (.getfield 28, 3) := by decide +kernel
theorem dX4_raise_52 : decode cX4_raise 52 = .ok (.iconst (-1), 1) := by decide +kernel
theorem dX4_raise_53 : decode cX4_raise 53 = .ok (.invokestatic 62, 3) := by decide +kernel
theorem dX4_raise_56 : decode cX4_raise 56 = .ok (.return_, 1) := by decide +kernel
theorem dX4_copyFrom_0 : decode cX4_copyFrom 0 = .ok (.aload_n 0, 1) := by decide +kernel
theorem dX4_copyFrom_1 : decode cX4_copyFrom 1 = .ok (.aload_n 1, 1) := by decide +kernel
theorem dX4_copyFrom_2 : decode cX4_copyFrom 2 = .ok (.getfield 41, 3) := by decide +kernel
theorem dX4_copyFrom_5 : decode cX4_copyFrom 5 = .ok (.putfield 41, 3) := by decide +kernel
theorem dX4_copyFrom_8 : decode cX4_copyFrom 8 = .ok (.aload_n 0, 1) := by decide +kernel
theorem dX4_copyFrom_9 : decode cX4_copyFrom 9 = .ok (.aload_n 1, 1) := by decide +kernel
theorem dX4_copyFrom_10 : decode cX4_copyFrom 10 = .ok (.getfield 44, 3) := by decide +kernel
theorem dX4_copyFrom_13 : decode cX4_copyFrom 13 = .ok (.putfield 44, 3) := by decide +kernel
theorem dX4_copyFrom_16 : decode cX4_copyFrom 16 = .ok (.aload_n 0, 1) := by decide +kernel
theorem dX4_copyFrom_17 : decode cX4_copyFrom 17 = .ok (.aload_n 1, 1) := by decide +kernel
theorem dX4_copyFrom_18 : decode cX4_copyFrom 18 = .ok (.getfield 53, 3) := by decide +kernel
theorem dX4_copyFrom_21 : decode cX4_copyFrom 21 = .ok (.putfield 53, 3) := by decide +kernel
theorem dX4_copyFrom_24 : decode cX4_copyFrom 24 = .ok (.aload_n 0, 1) := by decide +kernel
theorem dX4_copyFrom_25 : decode cX4_copyFrom 25 = .ok (.aload_n 1, 1) := by decide +kernel
theorem dX4_copyFrom_26 : decode cX4_copyFrom 26 = .ok (.getfield 56, 3) := by decide +kernel
theorem dX4_copyFrom_29 : decode cX4_copyFrom 29 = .ok (.putfield 56, 3) := by decide +kernel
theorem dX4_copyFrom_32 : decode cX4_copyFrom 32 = .ok (.aload_n 0, 1) := by decide +kernel
theorem dX4_copyFrom_33 : decode cX4_copyFrom 33 = .ok (.aload_n 1, 1) := by decide +kernel
theorem dX4_copyFrom_34 : decode cX4_copyFrom 34 = .ok (.getfield 9, 3) := by decide +kernel
theorem dX4_copyFrom_37 : decode cX4_copyFrom 37 = .ok (.putfield 9, 3) := by decide +kernel
theorem dX4_copyFrom_40 : decode cX4_copyFrom 40 = .ok (.aload_n 0, 1) := by decide +kernel
theorem dX4_copyFrom_41 : decode cX4_copyFrom 41 = .ok (.aload_n 1, 1) := by decide +kernel
theorem dX4_copyFrom_42 : decode cX4_copyFrom 42 = .ok (.getfield 15, 3) := by decide +kernel
theorem dX4_copyFrom_45 : decode cX4_copyFrom 45 = .ok (.putfield 15, 3) := by decide +kernel
theorem dX4_copyFrom_48 : decode cX4_copyFrom 48 = .ok (.aload_n 0, 1) := by decide +kernel
theorem dX4_copyFrom_49 : decode cX4_copyFrom 49 = .ok (.aload_n 1, 1) := by decide +kernel
theorem dX4_copyFrom_50 : decode cX4_copyFrom 50 = .ok (.getfield 18, 3) := by decide +kernel
theorem dX4_copyFrom_53 : decode cX4_copyFrom 53 = .ok (.putfield 18, 3) := by decide +kernel
theorem dX4_copyFrom_56 : decode cX4_copyFrom 56 = .ok (.aload_n 0, 1) := by decide +kernel
theorem dX4_copyFrom_57 : decode cX4_copyFrom 57 = .ok (.aload_n 1, 1) := by decide +kernel
theorem dX4_copyFrom_58 : decode cX4_copyFrom 58 = .ok (.getfield 59, 3) := by decide +kernel
theorem dX4_copyFrom_61 : decode cX4_copyFrom 61 = .ok (.putfield 59, 3) := by decide +kernel
theorem dX4_copyFrom_64 : decode cX4_copyFrom 64 = .ok (.aload_n 1, 1) := by decide +kernel
theorem dX4_copyFrom_65 : decode cX4_copyFrom 65 = .ok (.getfield 21, 3) := by decide +kernel
theorem dX4_copyFrom_68 : decode cX4_copyFrom 68 = .ok (.aload_n 0, 1) := by decide +kernel
theorem dX4_copyFrom_69 : decode cX4_copyFrom 69 = .ok (.getfield 21, 3) := by decide +kernel
theorem dX4_copyFrom_72 : decode cX4_copyFrom 72 = .ok (.invokestatic 66, 3) := by decide +kernel
theorem dX4_copyFrom_75 : decode cX4_copyFrom 75 = .ok (.aload_n 1, 1) := by decide +kernel
theorem dX4_copyFrom_76 : decode cX4_copyFrom 76 = .ok (.getfield 25, 3) := by decide +kernel
theorem dX4_copyFrom_79 : decode cX4_copyFrom 79 = .ok (.aload_n 0, 1) := by decide +kernel
theorem dX4_copyFrom_80 : decode cX4_copyFrom 80 = .ok (.getfield 25, 3) := by decide +kernel
theorem dX4_copyFrom_83 : decode cX4_copyFrom 83 = .ok (.invokestatic 66, 3) := by decide +kernel
theorem dX4_copyFrom_86 : decode cX4_copyFrom 86 = .ok (.aload_n 1, 1) := by decide +kernel
theorem dX4_copyFrom_87 : decode cX4_copyFrom 87 = .ok (.getfield 28, 3) := by decide +kernel
theorem dX4_copyFrom_90 : decode cX4_copyFrom 90 = .ok (.aload_n 0, 1) := by decide +kernel
theorem dX4_copyFrom_91 : decode cX4_copyFrom 91 = .ok (.getfield 28, 3) := by decide +kernel
theorem dX4_copyFrom_94 : decode cX4_copyFrom 94 = .ok (.invokestatic 66, 3) := by decide +kernel
theorem dX4_copyFrom_97 : decode cX4_copyFrom 97 = .ok (.aload_n 1, 1) := by decide +kernel
theorem dX4_copyFrom_98 : decode cX4_copyFrom 98 = .ok (.getfield 31, 3) := by decide +kernel
theorem dX4_copyFrom_101 : decode cX4_copyFrom 101 = .ok (.aload_n 0, 1) := by decide +kernel
theorem dX4_copyFrom_102 : decode cX4_copyFrom 102 = .ok (.getfield 31, 3) := by decide +kernel
theorem dX4_copyFrom_105 : decode cX4_copyFrom 105 = .ok (.invokestatic 66, 3) := by decide +kernel
theorem dX4_copyFrom_108 : decode cX4_copyFrom 108 = .ok (.aload_n 1, 1) := by decide +kernel
theorem dX4_copyFrom_109 : decode cX4_copyFrom 109 = .ok (.getfield 34, 3) := by decide +kernel
theorem dX4_copyFrom_112 : decode cX4_copyFrom 112 = .ok (.aload_n 0, 1) := by decide +kernel
theorem dX4_copyFrom_113 : decode cX4_copyFrom 113 = .ok (.getfield 34, 3) := by decide +kernel
theorem dX4_copyFrom_116 : decode cX4_copyFrom 116 = .ok (.invokestatic 66, 3) := by decide +kernel
theorem dX4_copyFrom_119 : decode cX4_copyFrom 119 = .ok (.return_, 1) := by decide +kernel
theorem dX4_swapBound_0 : decode cX4_swapBound 0 = .ok (.iload_n 1, 1) := by decide +kernel
theorem dX4_swapBound_1 : decode cX4_swapBound 1 = .ok (.ifCond .ne 16, 3) := by decide +kernel
theorem dX4_swapBound_4 : decode cX4_swapBound 4 = .ok (.aload_n 0, 1) := by decide +kernel
theorem dX4_swapBound_5 : decode cX4_swapBound 5 = .ok (.getfield 9, 3) := by decide +kernel
theorem dX4_swapBound_8 : decode cX4_swapBound 8 = .ok (.istore_n 3, 1) := by decide +kernel
theorem dX4_swapBound_9 : decode cX4_swapBound 9 = .ok (.aload_n 0, 1) := by decide +kernel
theorem dX4_swapBound_10 : decode cX4_swapBound 10 = .ok (.iload_n 2, 1) := by decide +kernel
theorem dX4_swapBound_11 : decode cX4_swapBound 11 = .ok (.putfield 9, 3) := by decide +kernel
theorem dX4_swapBound_14 : decode cX4_swapBound 14 = .ok (.goto 31, 3) := by decide +kernel
theorem dX4_swapBound_17 : decode cX4_swapBound 17 = .ok (.iload_n 1, 1) := by decide +kernel
theorem dX4_swapBound_18 : decode cX4_swapBound 18 = .ok (.iconst 1, 1) := by decide +kernel
theorem dX4_swapBound_19 : decode cX4_swapBound 19 = .ok (.if_icmp .ne 16, 3) := by decide +kernel
theorem dX4_swapBound_22 : decode cX4_swapBound 22 = .ok (.aload_n 0, 1) := by decide +kernel
theorem dX4_swapBound_23 : decode cX4_swapBound 23 = .ok (.getfield 15, 3) := by decide +kernel
theorem dX4_swapBound_26 : decode cX4_swapBound 26 = .ok (.istore_n 3, 1) := by decide +kernel
theorem dX4_swapBound_27 : decode cX4_swapBound 27 = .ok (.aload_n 0, 1) := by decide +kernel
theorem dX4_swapBound_28 : decode cX4_swapBound 28 = .ok (.iload_n 2, 1) := by decide +kernel
theorem dX4_swapBound_29 : decode cX4_swapBound 29 = .ok (.putfield 15, 3) := by decide +kernel
theorem dX4_swapBound_32 : decode cX4_swapBound 32 = .ok (.goto 13, 3) := by decide +kernel
theorem dX4_swapBound_35 : decode cX4_swapBound 35 = .ok (.aload_n 0, 1) := by decide +kernel
theorem dX4_swapBound_36 : decode cX4_swapBound 36 = .ok (.getfield 18, 3) := by decide +kernel
theorem dX4_swapBound_39 : decode cX4_swapBound 39 = .ok (.istore_n 3, 1) := by decide +kernel
theorem dX4_swapBound_40 : decode cX4_swapBound 40 = .ok (.aload_n 0, 1) := by decide +kernel
theorem dX4_swapBound_41 : decode cX4_swapBound 41 = .ok (.iload_n 2, 1) := by decide +kernel
theorem dX4_swapBound_42 : decode cX4_swapBound 42 = .ok (.putfield 18, 3) := by decide +kernel
theorem dX4_swapBound_45 : decode cX4_swapBound 45 = .ok (.iload_n 3, 1) := by decide +kernel
theorem dX4_swapBound_46 : decode cX4_swapBound 46 = .ok (.ireturn, 1) := by decide +kernel
theorem dX4_isCell_0 : decode cX4_isCell 0 = .ok (.iload_n 1, 1) := by decide +kernel
theorem dX4_isCell_1 : decode cX4_isCell 1 = .ok (.ifCond .lt 15, 3) := by decide +kernel
theorem dX4_isCell_4 : decode cX4_isCell 4 = .ok (.iload_n 1, 1) := by decide +kernel
theorem dX4_isCell_5 : decode cX4_isCell 5 = .ok (.aload_n 0, 1) := by decide +kernel
theorem dX4_isCell_6 : decode cX4_isCell 6 = .ok (.getfield 53, 3) := by decide +kernel
theorem dX4_isCell_9 : decode cX4_isCell 9 = .ok (.if_icmp .ge 7, 3) := by decide +kernel
theorem dX4_isCell_12 : decode cX4_isCell 12 = .ok (.iconst 1, 1) := by decide +kernel
theorem dX4_isCell_13 : decode cX4_isCell 13 = .ok (.goto 4, 3) := by decide +kernel
theorem dX4_isCell_16 : decode cX4_isCell 16 = .ok (.iconst 0, 1) := by decide +kernel
theorem dX4_isCell_17 : decode cX4_isCell 17 = .ok (.ireturn, 1) := by decide +kernel
theorem dX4_isPoured_0 : decode cX4_isPoured 0 = .ok (.iload_n 1, 1) := by decide +kernel
theorem dX4_isPoured_1 : decode cX4_isPoured 1 = .ok (.ifCond .lt 25, 3) := by decide +kernel
theorem dX4_isPoured_4 : decode cX4_isPoured 4 = .ok (.iload_n 1, 1) := by decide +kernel
theorem dX4_isPoured_5 : decode cX4_isPoured 5 = .ok (.aload_n 0, 1) := by decide +kernel
theorem dX4_isPoured_6 : decode cX4_isPoured 6 = .ok (.getfield 53, 3) := by decide +kernel
theorem dX4_isPoured_9 : decode cX4_isPoured 9 = .ok (.if_icmp .ge 17, 3) := by decide +kernel
theorem dX4_isPoured_12 : decode cX4_isPoured 12 = .ok (.aload_n 0, 1) := by decide +kernel
theorem dX4_isPoured_13 : decode cX4_isPoured 13 = .ok (.getfield 25, 3) := by decide +kernel
theorem dX4_isPoured_16 : decode cX4_isPoured 16 = .ok (.iload_n 1, 1) := by decide +kernel
theorem dX4_isPoured_17 : decode cX4_isPoured 17 = .ok (.iaload, 1) := by decide +kernel
theorem dX4_isPoured_18 : decode cX4_isPoured 18 = .ok (.iconst (-1), 1) := by decide +kernel
theorem dX4_isPoured_19 : decode cX4_isPoured 19 = .ok (.if_icmp .eq 7, 3) := by decide +kernel
theorem dX4_isPoured_22 : decode cX4_isPoured 22 = .ok (.iconst 1, 1) := by decide +kernel
theorem dX4_isPoured_23 : decode cX4_isPoured 23 = .ok (.goto 4, 3) := by decide +kernel
theorem dX4_isPoured_26 : decode cX4_isPoured 26 = .ok (.iconst 0, 1) := by decide +kernel
theorem dX4_isPoured_27 : decode cX4_isPoured 27 = .ok (.ireturn, 1) := by decide +kernel
theorem dX4_pouredSet_0 : decode cX4_pouredSet 0 = .ok (.iconst 0, 1) := by decide +kernel
theorem dX4_pouredSet_1 : decode cX4_pouredSet 1 = .ok (.istore_n 1, 1) := by decide +kernel
theorem dX4_pouredSet_2 : decode cX4_pouredSet 2 = .ok (.iconst 0, 1) := by decide +kernel
theorem dX4_pouredSet_3 : decode cX4_pouredSet 3 = .ok (.istore_n 2, 1) := by decide +kernel
theorem dX4_pouredSet_4 : decode cX4_pouredSet 4 = .ok (.iload_n 2, 1) := by decide +kernel
theorem dX4_pouredSet_5 : decode cX4_pouredSet 5 = .ok (.aload_n 0, 1) := by decide +kernel
theorem dX4_pouredSet_6 : decode cX4_pouredSet 6 = .ok (.getfield 53, 3) := by decide +kernel
theorem dX4_pouredSet_9 : decode cX4_pouredSet 9 = .ok (.if_icmp .ge 23, 3) := by decide +kernel
theorem dX4_pouredSet_12 : decode cX4_pouredSet 12 = .ok (.aload_n 0, 1) := by decide +kernel
theorem dX4_pouredSet_13 : decode cX4_pouredSet 13 = .ok (.iload_n 2, 1) := by decide +kernel
theorem dX4_pouredSet_14 : decode cX4_pouredSet 14 = .ok (.invokevirtual 70, 3) := by decide +kernel
theorem dX4_pouredSet_17 : decode cX4_pouredSet 17 = .ok (.ifCond .eq 9, 3) := by decide +kernel
theorem dX4_pouredSet_20 : decode cX4_pouredSet 20 = .ok (.iload_n 1, 1) := by decide +kernel
theorem dX4_pouredSet_21 : decode cX4_pouredSet 21 = .ok (.iconst 1, 1) := by decide +kernel
theorem dX4_pouredSet_22 : decode cX4_pouredSet 22 = .ok (.iload_n 2, 1) := by decide +kernel
theorem dX4_pouredSet_23 : decode cX4_pouredSet 23 = .ok (.ishl, 1) := by decide +kernel
theorem dX4_pouredSet_24 : decode cX4_pouredSet 24 = .ok (.ior, 1) := by decide +kernel
theorem dX4_pouredSet_25 : decode cX4_pouredSet 25 = .ok (.istore_n 1, 1) := by decide +kernel
theorem dX4_pouredSet_26 : decode cX4_pouredSet 26 = .ok (.iinc 2 1, 3) := by decide +kernel
theorem dX4_pouredSet_29 : decode cX4_pouredSet 29 = .ok (.goto (-25), 3) := by decide +kernel
theorem dX4_pouredSet_32 : decode cX4_pouredSet 32 = .ok (.iload_n 1, 1) := by decide +kernel
theorem dX4_pouredSet_33 : decode cX4_pouredSet 33 = .ok (.ireturn, 1) := by decide +kernel
theorem dX4_pouredCount_0 : decode cX4_pouredCount 0 = .ok (.aload_n 0, 1) := by decide +kernel
theorem dX4_pouredCount_1 : decode cX4_pouredCount 1 = .ok (.invokevirtual 74, 3) := by decide +kernel
theorem dX4_pouredCount_4 : decode cX4_pouredCount 4 = .ok (.invokestatic 78, 3) := by decide +kernel
theorem dX4_pouredCount_7 : decode cX4_pouredCount 7 = .ok (.ireturn, 1) := by decide +kernel
theorem dX4_canSet_0 : decode cX4_canSet 0 = .ok (.iconst 0, 1) := by decide +kernel
theorem dX4_canSet_1 : decode cX4_canSet 1 = .ok (.istore_n 1, 1) := by decide +kernel
theorem dX4_canSet_2 : decode cX4_canSet 2 = .ok (.iconst 0, 1) := by decide +kernel
theorem dX4_canSet_3 : decode cX4_canSet 3 = .ok (.istore_n 2, 1) := by decide +kernel
theorem dX4_canSet_4 : decode cX4_canSet 4 = .ok (.iload_n 2, 1) := by decide +kernel
theorem dX4_canSet_5 : decode cX4_canSet 5 = .ok (.aload_n 0, 1) := by decide +kernel
theorem dX4_canSet_6 : decode cX4_canSet 6 = .ok (.getfield 53, 3) := by decide +kernel
theorem dX4_canSet_9 : decode cX4_canSet 9 = .ok (.if_icmp .ge 24, 3) := by decide +kernel
theorem dX4_canSet_12 : decode cX4_canSet 12 = .ok (.aload_n 0, 1) := by decide +kernel
theorem dX4_canSet_13 : decode cX4_canSet 13 = .ok (.iload_n 2, 1) := by decide +kernel
theorem dX4_canSet_14 : decode cX4_canSet 14 = .ok (.invokevirtual 84, 3) := by decide +kernel
theorem dX4_canSet_17 : decode cX4_canSet 17 = .ok (.iconst (-1), 1) := by decide +kernel
theorem dX4_canSet_18 : decode cX4_canSet 18 = .ok (.if_icmp .eq 9, 3) := by decide +kernel
theorem dX4_canSet_21 : decode cX4_canSet 21 = .ok (.iload_n 1, 1) := by decide +kernel
theorem dX4_canSet_22 : decode cX4_canSet 22 = .ok (.iconst 1, 1) := by decide +kernel
theorem dX4_canSet_23 : decode cX4_canSet 23 = .ok (.iload_n 2, 1) := by decide +kernel
theorem dX4_canSet_24 : decode cX4_canSet 24 = .ok (.ishl, 1) := by decide +kernel
theorem dX4_canSet_25 : decode cX4_canSet 25 = .ok (.ior, 1) := by decide +kernel
theorem dX4_canSet_26 : decode cX4_canSet 26 = .ok (.istore_n 1, 1) := by decide +kernel
theorem dX4_canSet_27 : decode cX4_canSet 27 = .ok (.iinc 2 1, 3) := by decide +kernel
theorem dX4_canSet_30 : decode cX4_canSet 30 = .ok (.goto (-26), 3) := by decide +kernel
theorem dX4_canSet_33 : decode cX4_canSet 33 = .ok (.iload_n 1, 1) := by decide +kernel
theorem dX4_canSet_34 : decode cX4_canSet 34 = .ok (.ireturn, 1) := by decide +kernel
theorem dX4_startOf_0 : decode cX4_startOf 0 = .ok (.aload_n 0, 1) := by decide +kernel
theorem dX4_startOf_1 : decode cX4_startOf 1 = .ok (.iload_n 1, 1) := by decide +kernel
theorem dX4_startOf_2 : decode cX4_startOf 2 = .ok (.invokevirtual 87, 3) := by decide +kernel
theorem dX4_startOf_5 : decode cX4_startOf 5 = .ok (.ifCond .eq 11, 3) := by decide +kernel
theorem dX4_startOf_8 : decode cX4_startOf 8 = .ok (.aload_n 0, 1) := by decide +kernel
theorem dX4_startOf_9 : decode cX4_startOf 9 = .ok (.iload_n 1, 1) := by decide +kernel
theorem dX4_startOf_10 : decode cX4_startOf 10 = .ok (.invokevirtual 70, 3) := by decide +kernel
theorem dX4_startOf_13 : decode cX4_startOf 13 = .ok (.ifCond .eq 5, 3) := by decide +kernel
theorem dX4_startOf_16 : decode cX4_startOf 16 = .ok (.iconst (-1), 1) := by decide +kernel
theorem dX4_startOf_17 : decode cX4_startOf 17 = .ok (.ireturn, 1) := by decide +kernel
theorem dX4_startOf_18 : decode cX4_startOf 18 = .ok (.iload_n 1, 1) := by decide +kernel
theorem dX4_startOf_19 : decode cX4_startOf 19 = .ok (.aload_n 0, 1) := by decide +kernel
theorem dX4_startOf_20 : decode cX4_startOf 20 = .ok (.getfield 41, 3) := by decide +kernel
theorem dX4_startOf_23 : decode cX4_startOf 23 = .ok (.if_icmp .lt 18, 3) := by decide +kernel
theorem dX4_startOf_26 : decode cX4_startOf 26 = .ok (.aload_n 0, 1) := by decide +kernel
theorem dX4_startOf_27 : decode cX4_startOf 27 = .ok (.iload_n 1, 1) := by decide +kernel
theorem dX4_startOf_28 : decode cX4_startOf 28 = .ok (.aload_n 0, 1) := by decide +kernel
theorem dX4_startOf_29 : decode cX4_startOf 29 = .ok (.getfield 41, 3) := by decide +kernel
theorem dX4_startOf_32 : decode cX4_startOf 32 = .ok (.isub, 1) := by decide +kernel
theorem dX4_startOf_33 : decode cX4_startOf 33 = .ok (.invokevirtual 70, 3) := by decide +kernel
theorem dX4_startOf_36 : decode cX4_startOf 36 = .ok (.ifCond .ne 5, 3) := by decide +kernel
theorem dX4_startOf_39 : decode cX4_startOf 39 = .ok (.iconst (-1), 1) := by decide +kernel
theorem dX4_startOf_40 : decode cX4_startOf 40 = .ok (.ireturn, 1) := by decide +kernel
theorem dX4_startOf_41 : decode cX4_startOf 41 = .ok (.aload_n 0, 1) := by decide +kernel
theorem dX4_startOf_42 : decode cX4_startOf 42 = .ok (.aload_n 0, 1) := by decide +kernel
theorem dX4_startOf_43 : decode cX4_startOf 43 = .ok (.invokevirtual 90, 3) := by decide +kernel
theorem dX4_startOf_46 : decode cX4_startOf 46 = .ok (.aload_n 0, 1) := by decide +kernel
theorem dX4_startOf_47 : decode cX4_startOf 47 = .ok (.getfield 21, 3) := by decide +kernel
theorem dX4_startOf_50 : decode cX4_startOf 50 = .ok (.iload_n 1, 1) := by decide +kernel
theorem dX4_startOf_51 : decode cX4_startOf 51 = .ok (.iaload, 1) := by decide +kernel
theorem dX4_startOf_52 : decode cX4_startOf 52 = .ok (.iadd, 1) := by decide +kernel
theorem dX4_startOf_53 : decode cX4_startOf 53 = .ok (.invokevirtual 93, 3) := by decide +kernel
theorem dX4_startOf_56 : decode cX4_startOf 56 = .ok (.istore_n 2, 1) := by decide +kernel
theorem dX4_startOf_57 : decode cX4_startOf 57 = .ok (.iload_n 2, 1) := by decide +kernel
theorem dX4_startOf_58 : decode cX4_startOf 58 = .ok (.iconst (-1), 1) := by decide +kernel
theorem dX4_startOf_59 : decode cX4_startOf 59 = .ok (.if_icmp .ne 7, 3) := by decide +kernel
theorem dX4_startOf_62 : decode cX4_startOf 62 = .ok (.iconst (-1), 1) := by decide +kernel
theorem dX4_startOf_63 : decode cX4_startOf 63 = .ok (.goto 11, 3) := by decide +kernel
theorem dX4_startOf_66 : decode cX4_startOf 66 = .ok (.aload_n 0, 1) := by decide +kernel
theorem dX4_startOf_67 : decode cX4_startOf 67 = .ok (.getfield 56, 3) := by decide +kernel
theorem dX4_startOf_70 : decode cX4_startOf 70 = .ok (.iload_n 2, 1) := by decide +kernel
theorem dX4_startOf_71 : decode cX4_startOf 71 = .ok (.invokestatic 96, 3) := by decide +kernel
theorem dX4_startOf_74 : decode cX4_startOf 74 = .ok (.ireturn, 1) := by decide +kernel
theorem dX4_fill_0 : decode cX4_fill 0 = .ok (.aload_n 0, 1) := by decide +kernel
theorem dX4_fill_1 : decode cX4_fill 1 = .ok (.iload_n 1, 1) := by decide +kernel
theorem dX4_fill_2 : decode cX4_fill 2 = .ok (.invokevirtual 84, 3) := by decide +kernel
theorem dX4_fill_5 : decode cX4_fill 5 = .ok (.istore_n 2, 1) := by decide +kernel
theorem dX4_fill_6 : decode cX4_fill 6 = .ok (.iload_n 2, 1) := by decide +kernel
theorem dX4_fill_7 : decode cX4_fill 7 = .ok (.iconst (-1), 1) := by decide +kernel
theorem dX4_fill_8 : decode cX4_fill 8 = .ok (.if_icmp .ne 4, 3) := by decide +kernel
theorem dX4_fill_11 : decode cX4_fill 11 = .ok (.return_, 1) := by decide +kernel
theorem dX4_fill_12 : decode cX4_fill 12 = .ok (.aload_n 0, 1) := by decide +kernel
theorem dX4_fill_13 : decode cX4_fill 13 = .ok (.getfield 25, 3) := by decide +kernel
theorem dX4_fill_16 : decode cX4_fill 16 = .ok (.iload_n 1, 1) := by decide +kernel
theorem dX4_fill_17 : decode cX4_fill 17 = .ok (.iload_n 2, 1) := by decide +kernel
theorem dX4_fill_18 : decode cX4_fill 18 = .ok (.iastore, 1) := by decide +kernel
theorem dX4_fill_19 : decode cX4_fill 19 = .ok (.aload_n 0, 1) := by decide +kernel
theorem dX4_fill_20 : decode cX4_fill 20 = .ok (.getfield 28, 3) := by decide +kernel
theorem dX4_fill_23 : decode cX4_fill 23 = .ok (.iload_n 1, 1) := by decide +kernel
theorem dX4_fill_24 : decode cX4_fill 24 = .ok (.iload_n 2, 1) := by decide +kernel
theorem dX4_fill_25 : decode cX4_fill 25 = .ok (.aload_n 0, 1) := by decide +kernel
theorem dX4_fill_26 : decode cX4_fill 26 = .ok (.getfield 21, 3) := by decide +kernel
theorem dX4_fill_29 : decode cX4_fill 29 = .ok (.iload_n 1, 1) := by decide +kernel
theorem dX4_fill_30 : decode cX4_fill 30 = .ok (.iaload, 1) := by decide +kernel
theorem dX4_fill_31 : decode cX4_fill 31 = .ok (.iadd, 1) := by decide +kernel
theorem dX4_fill_32 : decode cX4_fill 32 = .ok (.iastore, 1) := by decide +kernel
theorem dX4_fill_33 : decode cX4_fill 33 = .ok (.aload_n 0, 1) := by decide +kernel
theorem dX4_fill_34 : decode cX4_fill 34 = .ok (.aload_n 0, 1) := by decide +kernel
theorem dX4_fill_35 : decode cX4_fill 35 = .ok (.getfield 28, 3) := by decide +kernel
theorem dX4_fill_38 : decode cX4_fill 38 = .ok (.iload_n 1, 1) := by decide +kernel
theorem dX4_fill_39 : decode cX4_fill 39 = .ok (.iaload, 1) := by decide +kernel
theorem dX4_fill_40 : decode cX4_fill 40 = .ok (.putfield 56, 3) := by decide +kernel
theorem dX4_fill_43 : decode cX4_fill 43 = .ok (.return_, 1) := by decide +kernel
theorem dX4_isTruck_0 : decode cX4_isTruck 0 = .ok (.iload_n 1, 1) := by decide +kernel
theorem dX4_isTruck_1 : decode cX4_isTruck 1 = .ok (.ifCond .lt 15, 3) := by decide +kernel
theorem dX4_isTruck_4 : decode cX4_isTruck 4 = .ok (.iload_n 1, 1) := by decide +kernel
theorem dX4_isTruck_5 : decode cX4_isTruck 5 = .ok (.aload_n 0, 1) := by decide +kernel
theorem dX4_isTruck_6 : decode cX4_isTruck 6 = .ok (.getfield 59, 3) := by decide +kernel
theorem dX4_isTruck_9 : decode cX4_isTruck 9 = .ok (.if_icmp .ge 7, 3) := by decide +kernel
theorem dX4_isTruck_12 : decode cX4_isTruck 12 = .ok (.iconst 1, 1) := by decide +kernel
theorem dX4_isTruck_13 : decode cX4_isTruck 13 = .ok (.goto 4, 3) := by decide +kernel
theorem dX4_isTruck_16 : decode cX4_isTruck 16 = .ok (.iconst 0, 1) := by decide +kernel
theorem dX4_isTruck_17 : decode cX4_isTruck 17 = .ok (.ireturn, 1) := by decide +kernel
theorem dX4_hasTruckRoom_0 : decode cX4_hasTruckRoom 0 = .ok (.aload_n 0, 1) := by decide +kernel
theorem dX4_hasTruckRoom_1 : decode cX4_hasTruckRoom 1 = .ok (.getfield 59, 3) := by decide +kernel
theorem dX4_hasTruckRoom_4 : decode cX4_hasTruckRoom 4 = .ok (.bipush 9, 2) := by decide +kernel
theorem dX4_hasTruckRoom_6 : decode cX4_hasTruckRoom 6 = .ok (.if_icmp .ge 7, 3) := by decide +kernel
theorem dX4_hasTruckRoom_9 : decode cX4_hasTruckRoom 9 = .ok (.iconst 1, 1) := by decide +kernel
theorem dX4_hasTruckRoom_10 : decode cX4_hasTruckRoom 10 = .ok (.goto 4, 3) := by decide +kernel
theorem dX4_hasTruckRoom_13 : decode cX4_hasTruckRoom 13 = .ok (.iconst 0, 1) := by decide +kernel
theorem dX4_hasTruckRoom_14 : decode cX4_hasTruckRoom 14 = .ok (.ireturn, 1) := by decide +kernel
theorem dX4_addTruck_0 : decode cX4_addTruck 0 = .ok (.aload_n 0, 1) := by decide +kernel
theorem dX4_addTruck_1 : decode cX4_addTruck 1 = .ok (.invokevirtual 99, 3) := by decide +kernel
theorem dX4_addTruck_4 : decode cX4_addTruck 4 = .ok (.ifCond .ne 4, 3) := by decide +kernel
theorem dX4_addTruck_7 : decode cX4_addTruck 7 = .ok (.return_, 1) := by decide +kernel
theorem dX4_addTruck_8 : decode cX4_addTruck 8 = .ok (.aload_n 0, 1) := by decide +kernel
theorem dX4_addTruck_9 : decode cX4_addTruck 9 = .ok (.getfield 31, 3) := by decide +kernel
theorem dX4_addTruck_12 : decode cX4_addTruck 12 = .ok (.aload_n 0, 1) := by decide +kernel
theorem dX4_addTruck_13 : decode cX4_addTruck 13 = .ok (.getfield 59, 3) := by decide +kernel
theorem dX4_addTruck_16 : decode cX4_addTruck 16 = .ok (.iload_n 1, 1) := by decide +kernel
theorem dX4_addTruck_17 : decode cX4_addTruck 17 = .ok (.iastore, 1) := by decide +kernel
theorem dX4_addTruck_18 : decode cX4_addTruck 18 = .ok (.aload_n 0, 1) := by decide +kernel
theorem dX4_addTruck_19 : decode cX4_addTruck 19 = .ok (.getfield 34, 3) := by decide +kernel
theorem dX4_addTruck_22 : decode cX4_addTruck 22 = .ok (.aload_n 0, 1) := by decide +kernel
theorem dX4_addTruck_23 : decode cX4_addTruck 23 = .ok (.getfield 59, 3) := by decide +kernel
theorem dX4_addTruck_26 : decode cX4_addTruck 26 = .ok (.iload_n 2, 1) := by decide +kernel
theorem dX4_addTruck_27 : decode cX4_addTruck 27 = .ok (.iastore, 1) := by decide +kernel
theorem dX4_addTruck_28 : decode cX4_addTruck 28 = .ok (.aload_n 0, 1) := by decide +kernel
theorem dX4_addTruck_29 : decode cX4_addTruck 29 = .ok (.dup, 1) := by decide +kernel
theorem dX4_addTruck_30 : decode cX4_addTruck 30 = .ok (.getfield 59, 3) := by decide +kernel
theorem dX4_addTruck_33 : decode cX4_addTruck 33 = .ok (.iconst 1, 1) := by decide +kernel
theorem dX4_addTruck_34 : decode cX4_addTruck 34 = .ok (.iadd, 1) := by decide +kernel
theorem dX4_addTruck_35 : decode cX4_addTruck 35 = .ok (.putfield 59, 3) := by decide +kernel
theorem dX4_addTruck_38 : decode cX4_addTruck 38 = .ok (.return_, 1) := by decide +kernel
theorem dX4_delay_0 : decode cX4_delay 0 = .ok (.aload_n 0, 1) := by decide +kernel
theorem dX4_delay_1 : decode cX4_delay 1 = .ok (.iload_n 1, 1) := by decide +kernel
theorem dX4_delay_2 : decode cX4_delay 2 = .ok (.invokevirtual 103, 3) := by decide +kernel
theorem dX4_delay_5 : decode cX4_delay 5 = .ok (.ifCond .eq 13, 3) := by decide +kernel
theorem dX4_delay_8 : decode cX4_delay 8 = .ok (.aload_n 0, 1) := by decide +kernel
theorem dX4_delay_9 : decode cX4_delay 9 = .ok (.getfield 31, 3) := by decide +kernel
theorem dX4_delay_12 : decode cX4_delay 12 = .ok (.iload_n 1, 1) := by decide +kernel
theorem dX4_delay_13 : decode cX4_delay 13 = .ok (.dup2, 1) := by decide +kernel
theorem dX4_delay_14 : decode cX4_delay 14 = .ok (.iaload, 1) := by decide +kernel
theorem dX4_delay_15 : decode cX4_delay 15 = .ok (.iload_n 2, 1) := by decide +kernel
theorem dX4_delay_16 : decode cX4_delay 16 = .ok (.iadd, 1) := by decide +kernel
theorem dX4_delay_17 : decode cX4_delay 17 = .ok (.iastore, 1) := by decide +kernel
theorem dX4_delay_18 : decode cX4_delay 18 = .ok (.return_, 1) := by decide +kernel
theorem dX4_dropTruck_0 : decode cX4_dropTruck 0 = .ok (.aload_n 0, 1) := by decide +kernel
theorem dX4_dropTruck_1 : decode cX4_dropTruck 1 = .ok (.iload_n 1, 1) := by decide +kernel
theorem dX4_dropTruck_2 : decode cX4_dropTruck 2 = .ok (.invokevirtual 103, 3) := by decide +kernel
theorem dX4_dropTruck_5 : decode cX4_dropTruck 5 = .ok (.ifCond .ne 4, 3) := by decide +kernel
theorem dX4_dropTruck_8 : decode cX4_dropTruck 8 = .ok (.return_, 1) := by decide +kernel
theorem dX4_dropTruck_9 : decode cX4_dropTruck 9 = .ok (.iload_n 1, 1) := by decide +kernel
theorem dX4_dropTruck_10 : decode cX4_dropTruck 10 = .ok (.istore_n 2, 1) := by decide +kernel
theorem dX4_dropTruck_11 : decode cX4_dropTruck 11 = .ok (.iload_n 2, 1) := by decide +kernel
theorem dX4_dropTruck_12 : decode cX4_dropTruck 12 = .ok (.iconst 1, 1) := by decide +kernel
theorem dX4_dropTruck_13 : decode cX4_dropTruck 13 = .ok (.iadd, 1) := by decide +kernel
theorem dX4_dropTruck_14 : decode cX4_dropTruck 14 = .ok (.aload_n 0, 1) := by decide +kernel
theorem dX4_dropTruck_15 : decode cX4_dropTruck 15 = .ok (.getfield 59, 3) := by decide +kernel
theorem dX4_dropTruck_18 : decode cX4_dropTruck 18 = .ok (.if_icmp .ge 37, 3) := by decide +kernel
theorem dX4_dropTruck_21 : decode cX4_dropTruck 21 = .ok (.aload_n 0, 1) := by decide +kernel
theorem dX4_dropTruck_22 : decode cX4_dropTruck 22 = .ok (.getfield 31, 3) := by decide +kernel
theorem dX4_dropTruck_25 : decode cX4_dropTruck 25 = .ok (.iload_n 2, 1) := by decide +kernel
theorem dX4_dropTruck_26 : decode cX4_dropTruck 26 = .ok (.aload_n 0, 1) := by decide +kernel
theorem dX4_dropTruck_27 : decode cX4_dropTruck 27 = .ok (.getfield 31, 3) := by decide +kernel
theorem dX4_dropTruck_30 : decode cX4_dropTruck 30 = .ok (.iload_n 2, 1) := by decide +kernel
theorem dX4_dropTruck_31 : decode cX4_dropTruck 31 = .ok (.iconst 1, 1) := by decide +kernel
theorem dX4_dropTruck_32 : decode cX4_dropTruck 32 = .ok (.iadd, 1) := by decide +kernel
theorem dX4_dropTruck_33 : decode cX4_dropTruck 33 = .ok (.iaload, 1) := by decide +kernel
theorem dX4_dropTruck_34 : decode cX4_dropTruck 34 = .ok (.iastore, 1) := by decide +kernel
theorem dX4_dropTruck_35 : decode cX4_dropTruck 35 = .ok (.aload_n 0, 1) := by decide +kernel
theorem dX4_dropTruck_36 : decode cX4_dropTruck 36 = .ok (.getfield 34, 3) := by decide +kernel
theorem dX4_dropTruck_39 : decode cX4_dropTruck 39 = .ok (.iload_n 2, 1) := by decide +kernel
theorem dX4_dropTruck_40 : decode cX4_dropTruck 40 = .ok (.aload_n 0, 1) := by decide +kernel
theorem dX4_dropTruck_41 : decode cX4_dropTruck 41 = .ok (.getfield 34, 3) := by decide +kernel
theorem dX4_dropTruck_44 : decode cX4_dropTruck 44 = .ok (.iload_n 2, 1) := by decide +kernel
theorem dX4_dropTruck_45 : decode cX4_dropTruck 45 = .ok (.iconst 1, 1) := by decide +kernel
theorem dX4_dropTruck_46 : decode cX4_dropTruck 46 = .ok (.iadd, 1) := by decide +kernel
theorem dX4_dropTruck_47 : decode cX4_dropTruck 47 = .ok (.iaload, 1) := by decide +kernel
theorem dX4_dropTruck_48 : decode cX4_dropTruck 48 = .ok (.iastore, 1) := by decide +kernel
theorem dX4_dropTruck_49 : decode cX4_dropTruck 49 = .ok (.iinc 2 1, 3) := by decide +kernel
theorem dX4_dropTruck_52 : decode cX4_dropTruck 52 = .ok (.goto (-41), 3) := by decide +kernel
theorem dX4_dropTruck_55 : decode cX4_dropTruck 55 = .ok (.aload_n 0, 1) := by decide +kernel
theorem dX4_dropTruck_56 : decode cX4_dropTruck 56 = .ok (.dup, 1) := by decide +kernel
theorem dX4_dropTruck_57 : decode cX4_dropTruck 57 = .ok (.getfield 59, 3) := by decide +kernel
theorem dX4_dropTruck_60 : decode cX4_dropTruck 60 = .ok (.iconst 1, 1) := by decide +kernel
theorem dX4_dropTruck_61 : decode cX4_dropTruck 61 = .ok (.isub, 1) := by decide +kernel
theorem dX4_dropTruck_62 : decode cX4_dropTruck 62 = .ok (.putfield 59, 3) := by decide +kernel
theorem dX4_dropTruck_65 : decode cX4_dropTruck 65 = .ok (.return_, 1) := by decide +kernel
theorem dX4_broughtBy_0 : decode cX4_broughtBy 0 = .ok (.iconst 0, 1) := by decide +kernel
theorem dX4_broughtBy_1 : decode cX4_broughtBy 1 = .ok (.istore_n 2, 1) := by decide +kernel
theorem dX4_broughtBy_2 : decode cX4_broughtBy 2 = .ok (.iconst 0, 1) := by decide +kernel
theorem dX4_broughtBy_3 : decode cX4_broughtBy 3 = .ok (.istore_n 3, 1) := by decide +kernel
theorem dX4_broughtBy_4 : decode cX4_broughtBy 4 = .ok (.iload_n 3, 1) := by decide +kernel
theorem dX4_broughtBy_5 : decode cX4_broughtBy 5 = .ok (.aload_n 0, 1) := by decide +kernel
theorem dX4_broughtBy_6 : decode cX4_broughtBy 6 = .ok (.getfield 59, 3) := by decide +kernel
theorem dX4_broughtBy_9 : decode cX4_broughtBy 9 = .ok (.if_icmp .ge 28, 3) := by decide +kernel
theorem dX4_broughtBy_12 : decode cX4_broughtBy 12 = .ok (.aload_n 0, 1) := by decide +kernel
theorem dX4_broughtBy_13 : decode cX4_broughtBy 13 = .ok (.getfield 31, 3) := by decide +kernel
theorem dX4_broughtBy_16 : decode cX4_broughtBy 16 = .ok (.iload_n 3, 1) := by decide +kernel
theorem dX4_broughtBy_17 : decode cX4_broughtBy 17 = .ok (.iaload, 1) := by decide +kernel
theorem dX4_broughtBy_18 : decode cX4_broughtBy 18 = .ok (.iload_n 1, 1) := by decide +kernel
theorem dX4_broughtBy_19 : decode cX4_broughtBy 19 = .ok (.if_icmp .gt 12, 3) := by decide +kernel
theorem dX4_broughtBy_22 : decode cX4_broughtBy 22 = .ok (.iload_n 2, 1) := by decide +kernel
theorem dX4_broughtBy_23 : decode cX4_broughtBy 23 = .ok (.aload_n 0, 1) := by decide +kernel
theorem dX4_broughtBy_24 : decode cX4_broughtBy 24 = .ok (.getfield 34, 3) := by decide +kernel
theorem dX4_broughtBy_27 : decode cX4_broughtBy 27 = .ok (.iload_n 3, 1) := by decide +kernel
theorem dX4_broughtBy_28 : decode cX4_broughtBy 28 = .ok (.iaload, 1) := by decide +kernel
theorem dX4_broughtBy_29 : decode cX4_broughtBy 29 = .ok (.iadd, 1) := by decide +kernel
theorem dX4_broughtBy_30 : decode cX4_broughtBy 30 = .ok (.istore_n 2, 1) := by decide +kernel
theorem dX4_broughtBy_31 : decode cX4_broughtBy 31 = .ok (.iinc 3 1, 3) := by decide +kernel
theorem dX4_broughtBy_34 : decode cX4_broughtBy 34 = .ok (.goto (-30), 3) := by decide +kernel
theorem dX4_broughtBy_37 : decode cX4_broughtBy 37 = .ok (.iload_n 2, 1) := by decide +kernel
theorem dX4_broughtBy_38 : decode cX4_broughtBy 38 = .ok (.ireturn, 1) := by decide +kernel
theorem dX4_broughtAt_0 : decode cX4_broughtAt 0 = .ok (.iconst (-1), 1) := by decide +kernel
theorem dX4_broughtAt_1 : decode cX4_broughtAt 1 = .ok (.istore_n 2, 1) := by decide +kernel
theorem dX4_broughtAt_2 : decode cX4_broughtAt 2 = .ok (.iconst 0, 1) := by decide +kernel
theorem dX4_broughtAt_3 : decode cX4_broughtAt 3 = .ok (.istore_n 3, 1) := by decide +kernel
theorem dX4_broughtAt_4 : decode cX4_broughtAt 4 = .ok (.iload_n 3, 1) := by decide +kernel
theorem dX4_broughtAt_5 : decode cX4_broughtAt 5 = .ok (.aload_n 0, 1) := by decide +kernel
theorem dX4_broughtAt_6 : decode cX4_broughtAt 6 = .ok (.getfield 59, 3) := by decide +kernel
theorem dX4_broughtAt_9 : decode cX4_broughtAt 9 = .ok (.if_icmp .ge 41, 3) := by decide +kernel
theorem dX4_broughtAt_12 : decode cX4_broughtAt 12 = .ok (.aload_n 0, 1) := by decide +kernel
theorem dX4_broughtAt_13 : decode cX4_broughtAt 13 = .ok (.getfield 31, 3) := by decide +kernel
theorem dX4_broughtAt_16 : decode cX4_broughtAt 16 = .ok (.iload_n 3, 1) := by decide +kernel
theorem dX4_broughtAt_17 : decode cX4_broughtAt 17 = .ok (.iaload, 1) := by decide +kernel
theorem dX4_broughtAt_18 : decode cX4_broughtAt 18 = .ok (.istore 4, 2) := by decide +kernel
theorem dX4_broughtAt_20 : decode cX4_broughtAt 20 = .ok (.iload_n 2, 1) := by decide +kernel
theorem dX4_broughtAt_21 : decode cX4_broughtAt 21 = .ok (.iconst (-1), 1) := by decide +kernel
theorem dX4_broughtAt_22 : decode cX4_broughtAt 22 = .ok (.if_icmp .eq 9, 3) := by decide +kernel
theorem dX4_broughtAt_25 : decode cX4_broughtAt 25 = .ok (.iload 4, 2) := by decide +kernel
theorem dX4_broughtAt_27 : decode cX4_broughtAt 27 = .ok (.iload_n 2, 1) := by decide +kernel
theorem dX4_broughtAt_28 : decode cX4_broughtAt 28 = .ok (.if_icmp .ge 16, 3) := by decide +kernel
theorem dX4_broughtAt_31 : decode cX4_broughtAt 31 = .ok (.aload_n 0, 1) := by decide +kernel
theorem dX4_broughtAt_32 : decode cX4_broughtAt 32 = .ok (.iload 4, 2) := by decide +kernel
theorem dX4_broughtAt_34 : decode cX4_broughtAt 34 = .ok (.invokevirtual 106, 3) := by decide +kernel
theorem dX4_broughtAt_37 : decode cX4_broughtAt 37 = .ok (.iload_n 1, 1) := by decide +kernel
theorem dX4_broughtAt_38 : decode cX4_broughtAt 38 = .ok (.if_icmp .lt 6, 3) := by decide +kernel
theorem dX4_broughtAt_41 : decode cX4_broughtAt 41 = .ok (.iload 4, 2) := by decide +kernel
theorem dX4_broughtAt_43 : decode cX4_broughtAt 43 = .ok (.istore_n 2, 1) := by decide +kernel
theorem dX4_broughtAt_44 : decode cX4_broughtAt 44 = .ok (.iinc 3 1, 3) := by decide +kernel
theorem dX4_broughtAt_47 : decode cX4_broughtAt 47 = .ok (.goto (-43), 3) := by decide +kernel
theorem dX4_broughtAt_50 : decode cX4_broughtAt 50 = .ok (.iload_n 2, 1) := by decide +kernel
theorem dX4_broughtAt_51 : decode cX4_broughtAt 51 = .ok (.ireturn, 1) := by decide +kernel
theorem dX4_usedLoads_0 : decode cX4_usedLoads 0 = .ok (.iconst 0, 1) := by decide +kernel
theorem dX4_usedLoads_1 : decode cX4_usedLoads 1 = .ok (.istore_n 1, 1) := by decide +kernel
theorem dX4_usedLoads_2 : decode cX4_usedLoads 2 = .ok (.iconst 0, 1) := by decide +kernel
theorem dX4_usedLoads_3 : decode cX4_usedLoads 3 = .ok (.istore_n 2, 1) := by decide +kernel
theorem dX4_usedLoads_4 : decode cX4_usedLoads 4 = .ok (.iload_n 2, 1) := by decide +kernel
theorem dX4_usedLoads_5 : decode cX4_usedLoads 5 = .ok (.aload_n 0, 1) := by decide +kernel
theorem dX4_usedLoads_6 : decode cX4_usedLoads 6 = .ok (.getfield 53, 3) := by decide +kernel
theorem dX4_usedLoads_9 : decode cX4_usedLoads 9 = .ok (.if_icmp .ge 26, 3) := by decide +kernel
theorem dX4_usedLoads_12 : decode cX4_usedLoads 12 = .ok (.aload_n 0, 1) := by decide +kernel
theorem dX4_usedLoads_13 : decode cX4_usedLoads 13 = .ok (.iload_n 2, 1) := by decide +kernel
theorem dX4_usedLoads_14 : decode cX4_usedLoads 14 = .ok (.invokevirtual 70, 3) := by decide +kernel
theorem dX4_usedLoads_17 : decode cX4_usedLoads 17 = .ok (.ifCond .eq 12, 3) := by decide +kernel
theorem dX4_usedLoads_20 : decode cX4_usedLoads 20 = .ok (.iload_n 1, 1) := by decide +kernel
theorem dX4_usedLoads_21 : decode cX4_usedLoads 21 = .ok (.aload_n 0, 1) := by decide +kernel
theorem dX4_usedLoads_22 : decode cX4_usedLoads 22 = .ok (.getfield 21, 3) := by decide +kernel
theorem dX4_usedLoads_25 : decode cX4_usedLoads 25 = .ok (.iload_n 2, 1) := by decide +kernel
theorem dX4_usedLoads_26 : decode cX4_usedLoads 26 = .ok (.iaload, 1) := by decide +kernel
theorem dX4_usedLoads_27 : decode cX4_usedLoads 27 = .ok (.iadd, 1) := by decide +kernel
theorem dX4_usedLoads_28 : decode cX4_usedLoads 28 = .ok (.istore_n 1, 1) := by decide +kernel
theorem dX4_usedLoads_29 : decode cX4_usedLoads 29 = .ok (.iinc 2 1, 3) := by decide +kernel
theorem dX4_usedLoads_32 : decode cX4_usedLoads 32 = .ok (.goto (-28), 3) := by decide +kernel
theorem dX4_usedLoads_35 : decode cX4_usedLoads 35 = .ok (.iload_n 1, 1) := by decide +kernel
theorem dX4_usedLoads_36 : decode cX4_usedLoads 36 = .ok (.ireturn, 1) := by decide +kernel
theorem dX4_stock_0 : decode cX4_stock 0 = .ok (.aload_n 0, 1) := by decide +kernel
theorem dX4_stock_1 : decode cX4_stock 1 = .ok (.aload_n 0, 1) := by decide +kernel
theorem dX4_stock_2 : decode cX4_stock 2 = .ok (.getfield 56, 3) := by decide +kernel
theorem dX4_stock_5 : decode cX4_stock 5 = .ok (.invokevirtual 106, 3) := by decide +kernel
theorem dX4_stock_8 : decode cX4_stock 8 = .ok (.aload_n 0, 1) := by decide +kernel
theorem dX4_stock_9 : decode cX4_stock 9 = .ok (.invokevirtual 90, 3) := by decide +kernel
theorem dX4_stock_12 : decode cX4_stock 12 = .ok (.isub, 1) := by decide +kernel
theorem dX4_stock_13 : decode cX4_stock 13 = .ok (.ireturn, 1) := by decide +kernel
theorem dX4_edges_0 : decode cX4_edges 0 = .ok (.iconst 3, 1) := by decide +kernel
theorem dX4_edges_1 : decode cX4_edges 1 = .ok (.aload_n 0, 1) := by decide +kernel
theorem dX4_edges_2 : decode cX4_edges 2 = .ok (.getfield 53, 3) := by decide +kernel
theorem dX4_edges_5 : decode cX4_edges 5 = .ok (.imul, 1) := by decide +kernel
theorem dX4_edges_6 : decode cX4_edges 6 = .ok (.ireturn, 1) := by decide +kernel
theorem dX4_across_0 : decode cX4_across 0 = .ok (.iload_n 1, 1) := by decide +kernel
theorem dX4_across_1 : decode cX4_across 1 = .ok (.iconst 3, 1) := by decide +kernel
theorem dX4_across_2 : decode cX4_across 2 = .ok (.idiv, 1) := by decide +kernel
theorem dX4_across_3 : decode cX4_across 3 = .ok (.istore_n 2, 1) := by decide +kernel
theorem dX4_across_4 : decode cX4_across 4 = .ok (.iload_n 1, 1) := by decide +kernel
theorem dX4_across_5 : decode cX4_across 5 = .ok (.ifCond .lt 19, 3) := by decide +kernel
theorem dX4_across_8 : decode cX4_across 8 = .ok (.iload_n 2, 1) := by decide +kernel
theorem dX4_across_9 : decode cX4_across 9 = .ok (.aload_n 0, 1) := by decide +kernel
theorem dX4_across_10 : decode cX4_across 10 = .ok (.getfield 53, 3) := by decide +kernel
theorem dX4_across_13 : decode cX4_across 13 = .ok (.if_icmp .ge 11, 3) := by decide +kernel
theorem dX4_across_16 : decode cX4_across 16 = .ok (.aload_n 0, 1) := by decide +kernel
theorem dX4_across_17 : decode cX4_across 17 = .ok (.getfield 41, 3) := by decide +kernel
theorem dX4_across_20 : decode cX4_across 20 = .ok (.iconst 1, 1) := by decide +kernel
theorem dX4_across_21 : decode cX4_across 21 = .ok (.if_icmp .ge 5, 3) := by decide +kernel
theorem dX4_across_24 : decode cX4_across 24 = .ok (.iconst (-1), 1) := by decide +kernel
theorem dX4_across_25 : decode cX4_across 25 = .ok (.ireturn, 1) := by decide +kernel
theorem dX4_across_26 : decode cX4_across 26 = .ok (.iload_n 2, 1) := by decide +kernel
theorem dX4_across_27 : decode cX4_across 27 = .ok (.aload_n 0, 1) := by decide +kernel
theorem dX4_across_28 : decode cX4_across 28 = .ok (.getfield 41, 3) := by decide +kernel
theorem dX4_across_31 : decode cX4_across 31 = .ok (.irem, 1) := by decide +kernel
theorem dX4_across_32 : decode cX4_across 32 = .ok (.istore_n 3, 1) := by decide +kernel
theorem dX4_across_33 : decode cX4_across 33 = .ok (.iload_n 1, 1) := by decide +kernel
theorem dX4_across_34 : decode cX4_across 34 = .ok (.iconst 3, 1) := by decide +kernel
theorem dX4_across_35 : decode cX4_across 35 = .ok (.irem, 1) := by decide +kernel
theorem dX4_across_36 : decode cX4_across 36 = .ok (.lookupswitch 70 #[(0, 28), (1, 52)], 28) := by decide +kernel
theorem dX4_across_64 : decode cX4_across 64 = .ok (.iload_n 2, 1) := by decide +kernel
theorem dX4_across_65 : decode cX4_across 65 = .ok (.aload_n 0, 1) := by decide +kernel
theorem dX4_across_66 : decode cX4_across 66 = .ok (.getfield 41, 3) := by decide +kernel
theorem dX4_across_69 : decode cX4_across 69 = .ok (.iadd, 1) := by decide +kernel
theorem dX4_across_70 : decode cX4_across 70 = .ok (.aload_n 0, 1) := by decide +kernel
theorem dX4_across_71 : decode cX4_across 71 = .ok (.getfield 53, 3) := by decide +kernel
theorem dX4_across_74 : decode cX4_across 74 = .ok (.if_icmp .ge 12, 3) := by decide +kernel
theorem dX4_across_77 : decode cX4_across 77 = .ok (.iload_n 2, 1) := by decide +kernel
theorem dX4_across_78 : decode cX4_across 78 = .ok (.aload_n 0, 1) := by decide +kernel
theorem dX4_across_79 : decode cX4_across 79 = .ok (.getfield 41, 3) := by decide +kernel
theorem dX4_across_82 : decode cX4_across 82 = .ok (.iadd, 1) := by decide +kernel
theorem dX4_across_83 : decode cX4_across 83 = .ok (.goto 4, 3) := by decide +kernel
theorem dX4_across_86 : decode cX4_across 86 = .ok (.iconst (-1), 1) := by decide +kernel
theorem dX4_across_87 : decode cX4_across 87 = .ok (.ireturn, 1) := by decide +kernel
theorem dX4_across_88 : decode cX4_across 88 = .ok (.iload_n 3, 1) := by decide +kernel
theorem dX4_across_89 : decode cX4_across 89 = .ok (.iconst 1, 1) := by decide +kernel
theorem dX4_across_90 : decode cX4_across 90 = .ok (.iadd, 1) := by decide +kernel
theorem dX4_across_91 : decode cX4_across 91 = .ok (.aload_n 0, 1) := by decide +kernel
theorem dX4_across_92 : decode cX4_across 92 = .ok (.getfield 41, 3) := by decide +kernel
theorem dX4_across_95 : decode cX4_across 95 = .ok (.if_icmp .ge 9, 3) := by decide +kernel
theorem dX4_across_98 : decode cX4_across 98 = .ok (.iload_n 2, 1) := by decide +kernel
theorem dX4_across_99 : decode cX4_across 99 = .ok (.iconst 1, 1) := by decide +kernel
theorem dX4_across_100 : decode cX4_across 100 = .ok (.iadd, 1) := by decide +kernel
theorem dX4_across_101 : decode cX4_across 101 = .ok (.goto 4, 3) := by decide +kernel
theorem dX4_across_104 : decode cX4_across 104 = .ok (.iconst (-1), 1) := by decide +kernel
theorem dX4_across_105 : decode cX4_across 105 = .ok (.ireturn, 1) := by decide +kernel
theorem dX4_across_106 : decode cX4_across 106 = .ok (.iload_n 3, 1) := by decide +kernel
theorem dX4_across_107 : decode cX4_across 107 = .ok (.ifCond .le 9, 3) := by decide +kernel
theorem dX4_across_110 : decode cX4_across 110 = .ok (.iload_n 2, 1) := by decide +kernel
theorem dX4_across_111 : decode cX4_across 111 = .ok (.iconst 1, 1) := by decide +kernel
theorem dX4_across_112 : decode cX4_across 112 = .ok (.isub, 1) := by decide +kernel
theorem dX4_across_113 : decode cX4_across 113 = .ok (.goto 4, 3) := by decide +kernel
theorem dX4_across_116 : decode cX4_across 116 = .ok (.iconst (-1), 1) := by decide +kernel
theorem dX4_across_117 : decode cX4_across 117 = .ok (.ireturn, 1) := by decide +kernel
theorem dX4_isEdge_0 : decode cX4_isEdge 0 = .ok (.aload_n 0, 1) := by decide +kernel
theorem dX4_isEdge_1 : decode cX4_isEdge 1 = .ok (.iload_n 1, 1) := by decide +kernel
theorem dX4_isEdge_2 : decode cX4_isEdge 2 = .ok (.invokevirtual 109, 3) := by decide +kernel
theorem dX4_isEdge_5 : decode cX4_isEdge 5 = .ok (.iconst (-1), 1) := by decide +kernel
theorem dX4_isEdge_6 : decode cX4_isEdge 6 = .ok (.if_icmp .eq 7, 3) := by decide +kernel
theorem dX4_isEdge_9 : decode cX4_isEdge 9 = .ok (.iconst 1, 1) := by decide +kernel
theorem dX4_isEdge_10 : decode cX4_isEdge 10 = .ok (.goto 4, 3) := by decide +kernel
theorem dX4_isEdge_13 : decode cX4_isEdge 13 = .ok (.iconst 0, 1) := by decide +kernel
theorem dX4_isEdge_14 : decode cX4_isEdge 14 = .ok (.ireturn, 1) := by decide +kernel
theorem dX4_isOpen_0 : decode cX4_isOpen 0 = .ok (.aload_n 0, 1) := by decide +kernel
theorem dX4_isOpen_1 : decode cX4_isOpen 1 = .ok (.iload_n 1, 1) := by decide +kernel
theorem dX4_isOpen_2 : decode cX4_isOpen 2 = .ok (.invokevirtual 109, 3) := by decide +kernel
theorem dX4_isOpen_5 : decode cX4_isOpen 5 = .ok (.istore_n 2, 1) := by decide +kernel
theorem dX4_isOpen_6 : decode cX4_isOpen 6 = .ok (.iload_n 2, 1) := by decide +kernel
theorem dX4_isOpen_7 : decode cX4_isOpen 7 = .ok (.iconst (-1), 1) := by decide +kernel
theorem dX4_isOpen_8 : decode cX4_isOpen 8 = .ok (.if_icmp .eq 25, 3) := by decide +kernel
theorem dX4_isOpen_11 : decode cX4_isOpen 11 = .ok (.aload_n 0, 1) := by decide +kernel
theorem dX4_isOpen_12 : decode cX4_isOpen 12 = .ok (.iload_n 1, 1) := by decide +kernel
theorem dX4_isOpen_13 : decode cX4_isOpen 13 = .ok (.iconst 3, 1) := by decide +kernel
theorem dX4_isOpen_14 : decode cX4_isOpen 14 = .ok (.idiv, 1) := by decide +kernel
theorem dX4_isOpen_15 : decode cX4_isOpen 15 = .ok (.invokevirtual 70, 3) := by decide +kernel
theorem dX4_isOpen_18 : decode cX4_isOpen 18 = .ok (.ifCond .eq 15, 3) := by decide +kernel
theorem dX4_isOpen_21 : decode cX4_isOpen 21 = .ok (.aload_n 0, 1) := by decide +kernel
theorem dX4_isOpen_22 : decode cX4_isOpen 22 = .ok (.iload_n 2, 1) := by decide +kernel
theorem dX4_isOpen_23 : decode cX4_isOpen 23 = .ok (.invokevirtual 70, 3) := by decide +kernel
theorem dX4_isOpen_26 : decode cX4_isOpen 26 = .ok (.ifCond .ne 7, 3) := by decide +kernel
theorem dX4_isOpen_29 : decode cX4_isOpen 29 = .ok (.iconst 1, 1) := by decide +kernel
theorem dX4_isOpen_30 : decode cX4_isOpen 30 = .ok (.goto 4, 3) := by decide +kernel
theorem dX4_isOpen_33 : decode cX4_isOpen 33 = .ok (.iconst 0, 1) := by decide +kernel
theorem dX4_isOpen_34 : decode cX4_isOpen 34 = .ok (.ireturn, 1) := by decide +kernel
theorem dX4_ageOf_0 : decode cX4_ageOf 0 = .ok (.iload_n 1, 1) := by decide +kernel
theorem dX4_ageOf_1 : decode cX4_ageOf 1 = .ok (.iconst 3, 1) := by decide +kernel
theorem dX4_ageOf_2 : decode cX4_ageOf 2 = .ok (.idiv, 1) := by decide +kernel
theorem dX4_ageOf_3 : decode cX4_ageOf 3 = .ok (.istore_n 2, 1) := by decide +kernel
theorem dX4_ageOf_4 : decode cX4_ageOf 4 = .ok (.aload_n 0, 1) := by decide +kernel
theorem dX4_ageOf_5 : decode cX4_ageOf 5 = .ok (.iload_n 1, 1) := by decide +kernel
theorem dX4_ageOf_6 : decode cX4_ageOf 6 = .ok (.invokevirtual 109, 3) := by decide +kernel
theorem dX4_ageOf_9 : decode cX4_ageOf 9 = .ok (.istore_n 3, 1) := by decide +kernel
theorem dX4_ageOf_10 : decode cX4_ageOf 10 = .ok (.aload_n 0, 1) := by decide +kernel
theorem dX4_ageOf_11 : decode cX4_ageOf 11 = .ok (.iload_n 3, 1) := by decide +kernel
theorem dX4_ageOf_12 : decode cX4_ageOf 12 = .ok (.invokevirtual 87, 3) := by decide +kernel
theorem dX4_ageOf_15 : decode cX4_ageOf 15 = .ok (.ifCond .eq 11, 3) := by decide +kernel
theorem dX4_ageOf_18 : decode cX4_ageOf 18 = .ok (.aload_n 0, 1) := by decide +kernel
theorem dX4_ageOf_19 : decode cX4_ageOf 19 = .ok (.iload_n 2, 1) := by decide +kernel
theorem dX4_ageOf_20 : decode cX4_ageOf 20 = .ok (.invokevirtual 70, 3) := by decide +kernel
theorem dX4_ageOf_23 : decode cX4_ageOf 23 = .ok (.ifCond .ne 5, 3) := by decide +kernel
theorem dX4_ageOf_26 : decode cX4_ageOf 26 = .ok (.iconst (-1), 1) := by decide +kernel
theorem dX4_ageOf_27 : decode cX4_ageOf 27 = .ok (.ireturn, 1) := by decide +kernel
theorem dX4_ageOf_28 : decode cX4_ageOf 28 = .ok (.aload_n 0, 1) := by decide +kernel
theorem dX4_ageOf_29 : decode cX4_ageOf 29 = .ok (.iload_n 3, 1) := by decide +kernel
theorem dX4_ageOf_30 : decode cX4_ageOf 30 = .ok (.invokevirtual 70, 3) := by decide +kernel
theorem dX4_ageOf_33 : decode cX4_ageOf 33 = .ok (.ifCond .eq 12, 3) := by decide +kernel
theorem dX4_ageOf_36 : decode cX4_ageOf 36 = .ok (.aload_n 0, 1) := by decide +kernel
theorem dX4_ageOf_37 : decode cX4_ageOf 37 = .ok (.getfield 25, 3) := by decide +kernel
theorem dX4_ageOf_40 : decode cX4_ageOf 40 = .ok (.iload_n 3, 1) := by decide +kernel
theorem dX4_ageOf_41 : decode cX4_ageOf 41 = .ok (.iaload, 1) := by decide +kernel
theorem dX4_ageOf_42 : decode cX4_ageOf 42 = .ok (.goto 7, 3) := by decide +kernel
theorem dX4_ageOf_45 : decode cX4_ageOf 45 = .ok (.aload_n 0, 1) := by decide +kernel
theorem dX4_ageOf_46 : decode cX4_ageOf 46 = .ok (.getfield 56, 3) := by decide +kernel
theorem dX4_ageOf_49 : decode cX4_ageOf 49 = .ok (.istore 4, 2) := by decide +kernel
theorem dX4_ageOf_51 : decode cX4_ageOf 51 = .ok (.iload 4, 2) := by decide +kernel
theorem dX4_ageOf_53 : decode cX4_ageOf 53 = .ok (.aload_n 0, 1) := by decide +kernel
theorem dX4_ageOf_54 : decode cX4_ageOf 54 = .ok (.getfield 28, 3) := by decide +kernel
theorem dX4_ageOf_57 : decode cX4_ageOf 57 = .ok (.iload_n 2, 1) := by decide +kernel
theorem dX4_ageOf_58 : decode cX4_ageOf 58 = .ok (.iaload, 1) := by decide +kernel
theorem dX4_ageOf_59 : decode cX4_ageOf 59 = .ok (.isub, 1) := by decide +kernel
theorem dX4_ageOf_60 : decode cX4_ageOf 60 = .ok (.ireturn, 1) := by decide +kernel
theorem dX4_isJoint_0 : decode cX4_isJoint 0 = .ok (.aload_n 0, 1) := by decide +kernel
theorem dX4_isJoint_1 : decode cX4_isJoint 1 = .ok (.iload_n 1, 1) := by decide +kernel
theorem dX4_isJoint_2 : decode cX4_isJoint 2 = .ok (.invokevirtual 112, 3) := by decide +kernel
theorem dX4_isJoint_5 : decode cX4_isJoint 5 = .ok (.aload_n 0, 1) := by decide +kernel
theorem dX4_isJoint_6 : decode cX4_isJoint 6 = .ok (.getfield 9, 3) := by decide +kernel
theorem dX4_isJoint_9 : decode cX4_isJoint 9 = .ok (.if_icmp .le 7, 3) := by decide +kernel
theorem dX4_isJoint_12 : decode cX4_isJoint 12 = .ok (.iconst 1, 1) := by decide +kernel
theorem dX4_isJoint_13 : decode cX4_isJoint 13 = .ok (.goto 4, 3) := by decide +kernel
theorem dX4_isJoint_16 : decode cX4_isJoint 16 = .ok (.iconst 0, 1) := by decide +kernel
theorem dX4_isJoint_17 : decode cX4_isJoint 17 = .ok (.ireturn, 1) := by decide +kernel
theorem dX4_timeLeft_0 : decode cX4_timeLeft 0 = .ok (.aload_n 0, 1) := by decide +kernel
theorem dX4_timeLeft_1 : decode cX4_timeLeft 1 = .ok (.iload_n 1, 1) := by decide +kernel
theorem dX4_timeLeft_2 : decode cX4_timeLeft 2 = .ok (.invokevirtual 115, 3) := by decide +kernel
theorem dX4_timeLeft_5 : decode cX4_timeLeft 5 = .ok (.ifCond .eq 24, 3) := by decide +kernel
theorem dX4_timeLeft_8 : decode cX4_timeLeft 8 = .ok (.aload_n 0, 1) := by decide +kernel
theorem dX4_timeLeft_9 : decode cX4_timeLeft 9 = .ok (.iload_n 1, 1) := by decide +kernel
theorem dX4_timeLeft_10 : decode cX4_timeLeft 10 = .ok (.invokevirtual 118, 3) := by decide +kernel
theorem dX4_timeLeft_13 : decode cX4_timeLeft 13 = .ok (.ifCond .ne 16, 3) := by decide +kernel
theorem dX4_timeLeft_16 : decode cX4_timeLeft 16 = .ok (.aload_n 0, 1) := by decide +kernel
theorem dX4_timeLeft_17 : decode cX4_timeLeft 17 = .ok (.getfield 9, 3) := by decide +kernel
theorem dX4_timeLeft_20 : decode cX4_timeLeft 20 = .ok (.aload_n 0, 1) := by decide +kernel
theorem dX4_timeLeft_21 : decode cX4_timeLeft 21 = .ok (.iload_n 1, 1) := by decide +kernel
theorem dX4_timeLeft_22 : decode cX4_timeLeft 22 = .ok (.invokevirtual 112, 3) := by decide +kernel
theorem dX4_timeLeft_25 : decode cX4_timeLeft 25 = .ok (.isub, 1) := by decide +kernel
theorem dX4_timeLeft_26 : decode cX4_timeLeft 26 = .ok (.goto 6, 3) := by decide +kernel
theorem dX4_timeLeft_29 : decode cX4_timeLeft 29 = .ok (.sipush (-1000), 3) := by decide +kernel
theorem dX4_timeLeft_32 : decode cX4_timeLeft 32 = .ok (.ireturn, 1) := by decide +kernel
theorem dX4_harmOf_0 : decode cX4_harmOf 0 = .ok (.iload_n 1, 1) := by decide +kernel
theorem dX4_harmOf_1 : decode cX4_harmOf 1 = .ok (.iconst 3, 1) := by decide +kernel
theorem dX4_harmOf_2 : decode cX4_harmOf 2 = .ok (.irem, 1) := by decide +kernel
theorem dX4_harmOf_3 : decode cX4_harmOf 3 = .ok (.ifCond .ne 10, 3) := by decide +kernel
theorem dX4_harmOf_6 : decode cX4_harmOf 6 = .ok (.aload_n 0, 1) := by decide +kernel
theorem dX4_harmOf_7 : decode cX4_harmOf 7 = .ok (.getfield 15, 3) := by decide +kernel
theorem dX4_harmOf_10 : decode cX4_harmOf 10 = .ok (.goto 7, 3) := by decide +kernel
theorem dX4_harmOf_13 : decode cX4_harmOf 13 = .ok (.aload_n 0, 1) := by decide +kernel
theorem dX4_harmOf_14 : decode cX4_harmOf 14 = .ok (.getfield 18, 3) := by decide +kernel
theorem dX4_harmOf_17 : decode cX4_harmOf 17 = .ok (.ireturn, 1) := by decide +kernel
theorem dX4_joints_0 : decode cX4_joints 0 = .ok (.iconst 0, 1) := by decide +kernel
theorem dX4_joints_1 : decode cX4_joints 1 = .ok (.istore_n 1, 1) := by decide +kernel
theorem dX4_joints_2 : decode cX4_joints 2 = .ok (.iconst 0, 1) := by decide +kernel
theorem dX4_joints_3 : decode cX4_joints 3 = .ok (.istore_n 2, 1) := by decide +kernel
theorem dX4_joints_4 : decode cX4_joints 4 = .ok (.iload_n 2, 1) := by decide +kernel
theorem dX4_joints_5 : decode cX4_joints 5 = .ok (.aload_n 0, 1) := by decide +kernel
theorem dX4_joints_6 : decode cX4_joints 6 = .ok (.invokevirtual 121, 3) := by decide +kernel
theorem dX4_joints_9 : decode cX4_joints 9 = .ok (.if_icmp .ge 20, 3) := by decide +kernel
theorem dX4_joints_12 : decode cX4_joints 12 = .ok (.aload_n 0, 1) := by decide +kernel
theorem dX4_joints_13 : decode cX4_joints 13 = .ok (.iload_n 2, 1) := by decide +kernel
theorem dX4_joints_14 : decode cX4_joints 14 = .ok (.invokevirtual 118, 3) := by decide +kernel
theorem dX4_joints_17 : decode cX4_joints 17 = .ok (.ifCond .eq 6, 3) := by decide +kernel
theorem dX4_joints_20 : decode cX4_joints 20 = .ok (.iinc 1 1, 3) := by decide +kernel
theorem dX4_joints_23 : decode cX4_joints 23 = .ok (.iinc 2 1, 3) := by decide +kernel
theorem dX4_joints_26 : decode cX4_joints 26 = .ok (.goto (-22), 3) := by decide +kernel
theorem dX4_joints_29 : decode cX4_joints 29 = .ok (.iload_n 1, 1) := by decide +kernel
theorem dX4_joints_30 : decode cX4_joints 30 = .ok (.ireturn, 1) := by decide +kernel
theorem dX4_harm_0 : decode cX4_harm 0 = .ok (.iconst 0, 1) := by decide +kernel
theorem dX4_harm_1 : decode cX4_harm 1 = .ok (.istore_n 1, 1) := by decide +kernel
theorem dX4_harm_2 : decode cX4_harm 2 = .ok (.iconst 0, 1) := by decide +kernel
theorem dX4_harm_3 : decode cX4_harm 3 = .ok (.istore_n 2, 1) := by decide +kernel
theorem dX4_harm_4 : decode cX4_harm 4 = .ok (.iload_n 2, 1) := by decide +kernel
theorem dX4_harm_5 : decode cX4_harm 5 = .ok (.aload_n 0, 1) := by decide +kernel
theorem dX4_harm_6 : decode cX4_harm 6 = .ok (.invokevirtual 121, 3) := by decide +kernel
theorem dX4_harm_9 : decode cX4_harm 9 = .ok (.if_icmp .ge 25, 3) := by decide +kernel
theorem dX4_harm_12 : decode cX4_harm 12 = .ok (.aload_n 0, 1) := by decide +kernel
theorem dX4_harm_13 : decode cX4_harm 13 = .ok (.iload_n 2, 1) := by decide +kernel
theorem dX4_harm_14 : decode cX4_harm 14 = .ok (.invokevirtual 118, 3) := by decide +kernel
theorem dX4_harm_17 : decode cX4_harm 17 = .ok (.ifCond .eq 11, 3) := by decide +kernel
theorem dX4_harm_20 : decode cX4_harm 20 = .ok (.iload_n 1, 1) := by decide +kernel
theorem dX4_harm_21 : decode cX4_harm 21 = .ok (.aload_n 0, 1) := by decide +kernel
theorem dX4_harm_22 : decode cX4_harm 22 = .ok (.iload_n 2, 1) := by decide +kernel
theorem dX4_harm_23 : decode cX4_harm 23 = .ok (.invokevirtual 124, 3) := by decide +kernel
theorem dX4_harm_26 : decode cX4_harm 26 = .ok (.iadd, 1) := by decide +kernel
theorem dX4_harm_27 : decode cX4_harm 27 = .ok (.istore_n 1, 1) := by decide +kernel
theorem dX4_harm_28 : decode cX4_harm 28 = .ok (.iinc 2 1, 3) := by decide +kernel
theorem dX4_harm_31 : decode cX4_harm 31 = .ok (.goto (-27), 3) := by decide +kernel
theorem dX4_harm_34 : decode cX4_harm 34 = .ok (.iload_n 1, 1) := by decide +kernel
theorem dX4_harm_35 : decode cX4_harm 35 = .ok (.ireturn, 1) := by decide +kernel
theorem dX4_stoppedHarm_0 : decode cX4_stoppedHarm 0 = .ok (.iconst 0, 1) := by decide +kernel
theorem dX4_stoppedHarm_1 : decode cX4_stoppedHarm 1 = .ok (.istore_n 1, 1) := by decide +kernel
theorem dX4_stoppedHarm_2 : decode cX4_stoppedHarm 2 = .ok (.iconst 0, 1) := by decide +kernel
theorem dX4_stoppedHarm_3 : decode cX4_stoppedHarm 3 = .ok (.istore_n 2, 1) := by decide +kernel
theorem dX4_stoppedHarm_4 : decode cX4_stoppedHarm 4 = .ok (.iload_n 2, 1) := by decide +kernel
theorem dX4_stoppedHarm_5 : decode cX4_stoppedHarm 5 = .ok (.aload_n 0, 1) := by decide +kernel
theorem dX4_stoppedHarm_6 : decode cX4_stoppedHarm 6 = .ok (.invokevirtual 121, 3) := by decide +kernel
theorem dX4_stoppedHarm_9 : decode cX4_stoppedHarm 9 = .ok (.if_icmp .ge 33, 3) := by decide +kernel
theorem dX4_stoppedHarm_12 : decode cX4_stoppedHarm 12 = .ok (.aload_n 0, 1) := by decide +kernel
theorem dX4_stoppedHarm_13 : decode cX4_stoppedHarm 13 = .ok (.iload_n 2, 1) := by decide +kernel
theorem dX4_stoppedHarm_14 : decode cX4_stoppedHarm 14 = .ok (.invokevirtual 115, 3) := by decide +kernel
theorem dX4_stoppedHarm_17 : decode cX4_stoppedHarm 17 = .ok (.ifCond .ne 11, 3) := by decide +kernel
theorem dX4_stoppedHarm_20 : decode cX4_stoppedHarm 20 = .ok (.aload_n 0, 1) := by decide +kernel
theorem dX4_stoppedHarm_21 : decode cX4_stoppedHarm 21 = .ok (.iload_n 2, 1) := by decide +kernel
theorem dX4_stoppedHarm_22 : decode cX4_stoppedHarm 22 = .ok (.invokevirtual 118, 3) := by decide +kernel
theorem dX4_stoppedHarm_25 : decode cX4_stoppedHarm 25 = .ok (.ifCond .eq 11, 3) := by decide +kernel
theorem dX4_stoppedHarm_28 : decode cX4_stoppedHarm 28 = .ok (.iload_n 1, 1) := by decide +kernel
theorem dX4_stoppedHarm_29 : decode cX4_stoppedHarm 29 = .ok (.aload_n 0, 1) := by decide +kernel
theorem dX4_stoppedHarm_30 : decode cX4_stoppedHarm 30 = .ok (.iload_n 2, 1) := by decide +kernel
theorem dX4_stoppedHarm_31 : decode cX4_stoppedHarm 31 = .ok (.invokevirtual 124, 3) := by decide +kernel
theorem dX4_stoppedHarm_34 : decode cX4_stoppedHarm 34 = .ok (.iadd, 1) := by decide +kernel
theorem dX4_stoppedHarm_35 : decode cX4_stoppedHarm 35 = .ok (.istore_n 1, 1) := by decide +kernel
theorem dX4_stoppedHarm_36 : decode cX4_stoppedHarm 36 = .ok (.iinc 2 1, 3) := by decide +kernel
theorem dX4_stoppedHarm_39 : decode cX4_stoppedHarm 39 = .ok (.goto (-35), 3) := by decide +kernel
theorem dX4_stoppedHarm_42 : decode cX4_stoppedHarm 42 = .ok (.iload_n 1, 1) := by decide +kernel
theorem dX4_stoppedHarm_43 : decode cX4_stoppedHarm 43 = .ok (.ireturn, 1) := by decide +kernel
theorem dX4_firstToSet_0 : decode cX4_firstToSet 0 = .ok (.iconst (-1), 1) := by decide +kernel
theorem dX4_firstToSet_1 : decode cX4_firstToSet 1 = .ok (.istore_n 1, 1) := by decide +kernel
theorem dX4_firstToSet_2 : decode cX4_firstToSet 2 = .ok (.ldc 127, 2) := by decide +kernel
theorem dX4_firstToSet_4 : decode cX4_firstToSet 4 = .ok (.istore_n 2, 1) := by decide +kernel
theorem dX4_firstToSet_5 : decode cX4_firstToSet 5 = .ok (.iconst 0, 1) := by decide +kernel
theorem dX4_firstToSet_6 : decode cX4_firstToSet 6 = .ok (.istore_n 3, 1) := by decide +kernel
theorem dX4_firstToSet_7 : decode cX4_firstToSet 7 = .ok (.iload_n 3, 1) := by decide +kernel
theorem dX4_firstToSet_8 : decode cX4_firstToSet 8 = .ok (.aload_n 0, 1) := by decide +kernel
theorem dX4_firstToSet_9 : decode cX4_firstToSet 9 = .ok (.invokevirtual 121, 3) := by decide +kernel
theorem dX4_firstToSet_12 : decode cX4_firstToSet 12 = .ok (.if_icmp .ge 35, 3) := by decide +kernel
theorem dX4_firstToSet_15 : decode cX4_firstToSet 15 = .ok (.aload_n 0, 1) := by decide +kernel
theorem dX4_firstToSet_16 : decode cX4_firstToSet 16 = .ok (.iload_n 3, 1) := by decide +kernel
theorem dX4_firstToSet_17 : decode cX4_firstToSet 17 = .ok (.invokevirtual 128, 3) := by decide +kernel
theorem dX4_firstToSet_20 : decode cX4_firstToSet 20 = .ok (.istore 4, 2) := by decide +kernel
theorem dX4_firstToSet_22 : decode cX4_firstToSet 22 = .ok (.iload 4, 2) := by decide +kernel
theorem dX4_firstToSet_24 : decode cX4_firstToSet 24 = .ok (.sipush (-1000), 3) := by decide +kernel
theorem dX4_firstToSet_27 : decode cX4_firstToSet 27 = .ok (.if_icmp .eq 14, 3) := by decide +kernel
theorem dX4_firstToSet_30 : decode cX4_firstToSet 30 = .ok (.iload 4, 2) := by decide +kernel
theorem dX4_firstToSet_32 : decode cX4_firstToSet 32 = .ok (.iload_n 2, 1) := by decide +kernel
theorem dX4_firstToSet_33 : decode cX4_firstToSet 33 = .ok (.if_icmp .ge 8, 3) := by decide +kernel
theorem dX4_firstToSet_36 : decode cX4_firstToSet 36 = .ok (.iload 4, 2) := by decide +kernel
theorem dX4_firstToSet_38 : decode cX4_firstToSet 38 = .ok (.istore_n 2, 1) := by decide +kernel
theorem dX4_firstToSet_39 : decode cX4_firstToSet 39 = .ok (.iload_n 3, 1) := by decide +kernel
theorem dX4_firstToSet_40 : decode cX4_firstToSet 40 = .ok (.istore_n 1, 1) := by decide +kernel
theorem dX4_firstToSet_41 : decode cX4_firstToSet 41 = .ok (.iinc 3 1, 3) := by decide +kernel
theorem dX4_firstToSet_44 : decode cX4_firstToSet 44 = .ok (.goto (-37), 3) := by decide +kernel
theorem dX4_firstToSet_47 : decode cX4_firstToSet 47 = .ok (.iload_n 1, 1) := by decide +kernel
theorem dX4_firstToSet_48 : decode cX4_firstToSet 48 = .ok (.ireturn, 1) := by decide +kernel
